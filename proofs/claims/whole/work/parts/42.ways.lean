/-! contracts of the reference: ways -/
theorem ct_X7_lastTick (G : Gx) (l : Launch) (h : PH) {p n : Int} (hm : MF h) (hp : ph_I h 134 5 = p) (hn : ph_I h 134 6 = n) (p0 : 0 ≤ p ∧ p ≤ 7 := by first | assumption | omega) : CT_X7_lastTick G l [.inr 134] h (pqI (ph_I h 135 (Int.toNat (8 + p)) + n - 1) h) := by
  obtain ⟨⟨t0, r0, r1, r2, r3, r8, r9, r10⟩, ⟨t1, t2, t3, t4, t5, t6, t7⟩, ⟨l1, l2, l3, l4, l5, l6, l7⟩⟩ := id hm
  refine ct_intro rfl (Nat.le_of_ble_eq_true rfl) (fun X hX C => ?_)
  exact B_X7_lastTick_0 C (hq := by exact ⟨rfl, rfl⟩)
theorem ct_X7_sees (G : Gx) (l : Launch) (h : PH) {p f n t w hh : Int} (hm : MF h) (hs : okSky (ph_I h 135)) (hb : ∀ j, pR (ph_I h 135 j)) (hp : ph_I h 134 5 = p) (hn : ph_I h 134 6 = n) (hf : ph_I h 134 7 = f) (p0 : 0 ≤ p ∧ p ≤ 7 := by first | assumption | omega) (f0 : 0 ≤ f ∧ f ≤ 16 := by first | assumption | omega) (n0 : 0 ≤ n ∧ n ≤ 16 := by first | assumption | omega) (b0 : 0 ≤ ph_I h 135 (Int.toNat (8 + p)) ∧ ph_I h 135 (Int.toNat (8 + p)) ≤ 60 := by first | assumption | omega) (t0 : 0 ≤ t ∧ t ≤ 79 := by first | assumption | omega) (w0 : -36 ≤ w ∧ w ≤ 36 := by first | assumption | omega) (h0 : 0 ≤ hh ∧ hh ≤ 6 := by first | assumption | omega) : CT_X7_sees G l [.inr 134, .inl t, .inl w, .inl hh] h (pqB (sS (ph_I h 135) p f n t w hh = true) h) := by
  obtain ⟨⟨tt0, r0, r1, r2, r3, r8, r9, r10⟩, ⟨t1, t2, t3, t4, t5, t6, t7⟩, ⟨l1, l2, l3, l4, l5, l6, l7⟩⟩ := id hm
  obtain ⟨u0, u1, u2, u3, u4, u5, u6, u7, u8, u9, u10, u11, u12, u13⟩ := id hs
  refine ct_intro rfl (Nat.le_of_ble_eq_true rfl) (fun X hX C => ?_)
  refine B_X7_sees_0 C (hM := ct_X7_in _ _ _) (kk := fun r1 h1 hq1 => ?_)
  obtain ⟨rfl, ⟨rfl, c1⟩ | ⟨rfl, c1⟩⟩ := hq1
  · refine B_X7_sees_31 C (kt := fun c2 => absurd c2 (by decide)) (kf := fun c2 => ?_)
    refine B_X7_sees_34 C (kt := fun c3 => ?_) (kf := fun c3 => ?_)
    · refine B_X7_sees_48 C (hM := ct_X7_sideOf _ _ _) (kk := fun r4 h4 hq4 => ?_)
      obtain ⟨rfl, rfl⟩ := hq4
      refine B_X7_sees_52 C (q13 := hb _) (kt := fun c5 => ?_) (kf := fun c5 => ?_)
      · refine B_X7_sees_115 C (kk := ?_)
        exact B_X7_sees_116 C (hq := by unfold sS; first | exact ⟨rfl, Or.inl ⟨rfl, by grind⟩⟩ | exact ⟨rfl, Or.inr ⟨rfl, by grind⟩⟩)
      · refine B_X7_sees_77 C (q13 := hb _) (kt := fun c6 => ?_) (kf := fun c6 => ?_)
        · refine B_X7_sees_115 C (kk := ?_)
          exact B_X7_sees_116 C (hq := by unfold sS; first | exact ⟨rfl, Or.inl ⟨rfl, by grind⟩⟩ | exact ⟨rfl, Or.inr ⟨rfl, by grind⟩⟩)
        · refine B_X7_sees_100 C (hM := ct_X7_isBurnt _ _ _ hm hs) (kk := fun r7 h7 hq7 => ?_)
          obtain ⟨rfl, ⟨rfl, c7⟩ | ⟨rfl, c7⟩⟩ := hq7
          · refine B_X7_sees_108 C (kt := fun c8 => ?_) (kf := fun c8 => absurd c8 (by decide))
            refine B_X7_sees_115 C (kk := ?_)
            exact B_X7_sees_116 C (hq := by unfold sS; first | exact ⟨rfl, Or.inl ⟨rfl, by grind⟩⟩ | exact ⟨rfl, Or.inr ⟨rfl, by grind⟩⟩)
          · refine B_X7_sees_108 C (kt := fun c9 => absurd c9 (by decide)) (kf := fun c9 => ?_)
            refine B_X7_sees_111 C (kk := ?_)
            exact B_X7_sees_116 C (hq := by unfold sS; first | exact ⟨rfl, Or.inl ⟨rfl, by grind⟩⟩ | exact ⟨rfl, Or.inr ⟨rfl, by grind⟩⟩)
    · exact B_X7_sees_46 C (hq := by unfold sS; first | exact ⟨rfl, Or.inl ⟨rfl, by grind⟩⟩ | exact ⟨rfl, Or.inr ⟨rfl, by grind⟩⟩)
  · refine B_X7_sees_31 C (kt := fun c10 => ?_) (kf := fun c10 => absurd c10 (by decide))
    exact B_X7_sees_46 C (hq := by unfold sS; first | exact ⟨rfl, Or.inl ⟨rfl, by grind⟩⟩ | exact ⟨rfl, Or.inr ⟨rfl, by grind⟩⟩)
theorem ct_X7_mayStand (G : Gx) (l : Launch) (h : PH) {t w hh : Int} (hm : MF h) (hs : okSky (ph_I h 135)) (t0 : 0 ≤ t ∧ t ≤ 79 := by first | assumption | omega) (w0 : -36 ≤ w ∧ w ≤ 36 := by first | assumption | omega) (h0 : 0 ≤ hh ∧ hh ≤ 6 := by first | assumption | omega) : CT_X7_mayStand G l [.inr 134, .inl t, .inl w, .inl hh] h (pqB (sM (ph_I h 135) t w hh = true) h) := by
  obtain ⟨⟨tt0, r0, r1, r2, r3, r8, r9, r10⟩, ⟨t1, t2, t3, t4, t5, t6, t7⟩, ⟨l1, l2, l3, l4, l5, l6, l7⟩⟩ := id hm
  obtain ⟨u0, u1, u2, u3, u4, u5, u6, u7, u8, u9, u10, u11, u12, u13⟩ := id hs
  refine ct_intro rfl (Nat.le_of_ble_eq_true rfl) (fun X hX C => ?_)
  refine B_X7_mayStand_0 C (kt := fun c1 => ?_) (kf := fun c1 => ?_)
  · refine B_X7_mayStand_38 C (kk := ?_)
    refine B_X7_mayStand_39 C (kt := fun c2 => ?_) (kf := fun c2 => ?_)
    · refine B_X7_mayStand_52 C (hM := ct_X7_sideOf _ _ _) (kk := fun r3 h3 hq3 => ?_)
      obtain ⟨rfl, rfl⟩ := hq3
      refine B_X7_mayStand_57 C (hM := ct_X7_isBurnt _ _ _ hm hs) (kk := fun r4 h4 hq4 => ?_)
      obtain ⟨rfl, ⟨rfl, c4⟩ | ⟨rfl, c4⟩⟩ := hq4
      · refine B_X7_mayStand_62 C (kt := fun c5 => ?_) (kf := fun c5 => absurd c5 (by decide))
        refine B_X7_mayStand_69 C (kk := ?_)
        exact B_X7_mayStand_70 C (hq := by unfold sM; first | exact ⟨rfl, Or.inl ⟨rfl, by grind⟩⟩ | exact ⟨rfl, Or.inr ⟨rfl, by grind⟩⟩)
      · refine B_X7_mayStand_62 C (kt := fun c6 => absurd c6 (by decide)) (kf := fun c6 => ?_)
        refine B_X7_mayStand_65 C (kk := ?_)
        exact B_X7_mayStand_70 C (hq := by unfold sM; first | exact ⟨rfl, Or.inl ⟨rfl, by grind⟩⟩ | exact ⟨rfl, Or.inr ⟨rfl, by grind⟩⟩)
    · refine B_X7_mayStand_46 C (kt := fun c7 => ?_) (kf := fun c7 => ?_)
      · refine B_X7_mayStand_69 C (kk := ?_)
        exact B_X7_mayStand_70 C (hq := by unfold sM; first | exact ⟨rfl, Or.inl ⟨rfl, by grind⟩⟩ | exact ⟨rfl, Or.inr ⟨rfl, by grind⟩⟩)
      · refine B_X7_mayStand_52 C (hM := ct_X7_sideOf _ _ _) (kk := fun r8 h8 hq8 => ?_)
        obtain ⟨rfl, rfl⟩ := hq8
        refine B_X7_mayStand_57 C (hM := ct_X7_isBurnt _ _ _ hm hs) (kk := fun r9 h9 hq9 => ?_)
        obtain ⟨rfl, ⟨rfl, c9⟩ | ⟨rfl, c9⟩⟩ := hq9
        · refine B_X7_mayStand_62 C (kt := fun c10 => ?_) (kf := fun c10 => absurd c10 (by decide))
          refine B_X7_mayStand_69 C (kk := ?_)
          exact B_X7_mayStand_70 C (hq := by unfold sM; first | exact ⟨rfl, Or.inl ⟨rfl, by grind⟩⟩ | exact ⟨rfl, Or.inr ⟨rfl, by grind⟩⟩)
        · refine B_X7_mayStand_62 C (kt := fun c11 => absurd c11 (by decide)) (kf := fun c11 => ?_)
          refine B_X7_mayStand_65 C (kk := ?_)
          exact B_X7_mayStand_70 C (hq := by unfold sM; first | exact ⟨rfl, Or.inl ⟨rfl, by grind⟩⟩ | exact ⟨rfl, Or.inr ⟨rfl, by grind⟩⟩)
  · refine B_X7_mayStand_11 C (hM := ct_X7_in _ _ _) (kk := fun r12 h12 hq12 => ?_)
    obtain ⟨rfl, ⟨rfl, c12⟩ | ⟨rfl, c12⟩⟩ := hq12
    · refine B_X7_mayStand_31 C (kt := fun c13 => absurd c13 (by decide)) (kf := fun c13 => ?_)
      refine B_X7_mayStand_34 C (kk := ?_)
      refine B_X7_mayStand_39 C (kt := fun c14 => ?_) (kf := fun c14 => ?_)
      · refine B_X7_mayStand_52 C (hM := ct_X7_sideOf _ _ _) (kk := fun r15 h15 hq15 => ?_)
        obtain ⟨rfl, rfl⟩ := hq15
        refine B_X7_mayStand_57 C (hM := ct_X7_isBurnt _ _ _ hm hs) (kk := fun r16 h16 hq16 => ?_)
        obtain ⟨rfl, ⟨rfl, c16⟩ | ⟨rfl, c16⟩⟩ := hq16
        · refine B_X7_mayStand_62 C (kt := fun c17 => ?_) (kf := fun c17 => absurd c17 (by decide))
          refine B_X7_mayStand_69 C (kk := ?_)
          exact B_X7_mayStand_70 C (hq := by unfold sM; first | exact ⟨rfl, Or.inl ⟨rfl, by grind⟩⟩ | exact ⟨rfl, Or.inr ⟨rfl, by grind⟩⟩)
        · refine B_X7_mayStand_62 C (kt := fun c18 => absurd c18 (by decide)) (kf := fun c18 => ?_)
          refine B_X7_mayStand_65 C (kk := ?_)
          exact B_X7_mayStand_70 C (hq := by unfold sM; first | exact ⟨rfl, Or.inl ⟨rfl, by grind⟩⟩ | exact ⟨rfl, Or.inr ⟨rfl, by grind⟩⟩)
      · refine B_X7_mayStand_46 C (kt := fun c19 => ?_) (kf := fun c19 => ?_)
        · refine B_X7_mayStand_69 C (kk := ?_)
          exact B_X7_mayStand_70 C (hq := by unfold sM; first | exact ⟨rfl, Or.inl ⟨rfl, by grind⟩⟩ | exact ⟨rfl, Or.inr ⟨rfl, by grind⟩⟩)
        · refine B_X7_mayStand_52 C (hM := ct_X7_sideOf _ _ _) (kk := fun r20 h20 hq20 => ?_)
          obtain ⟨rfl, rfl⟩ := hq20
          refine B_X7_mayStand_57 C (hM := ct_X7_isBurnt _ _ _ hm hs) (kk := fun r21 h21 hq21 => ?_)
          obtain ⟨rfl, ⟨rfl, c21⟩ | ⟨rfl, c21⟩⟩ := hq21
          · refine B_X7_mayStand_62 C (kt := fun c22 => ?_) (kf := fun c22 => absurd c22 (by decide))
            refine B_X7_mayStand_69 C (kk := ?_)
            exact B_X7_mayStand_70 C (hq := by unfold sM; first | exact ⟨rfl, Or.inl ⟨rfl, by grind⟩⟩ | exact ⟨rfl, Or.inr ⟨rfl, by grind⟩⟩)
          · refine B_X7_mayStand_62 C (kt := fun c23 => absurd c23 (by decide)) (kf := fun c23 => ?_)
            refine B_X7_mayStand_65 C (kk := ?_)
            exact B_X7_mayStand_70 C (hq := by unfold sM; first | exact ⟨rfl, Or.inl ⟨rfl, by grind⟩⟩ | exact ⟨rfl, Or.inr ⟨rfl, by grind⟩⟩)
    · refine B_X7_mayStand_31 C (kt := fun c24 => ?_) (kf := fun c24 => absurd c24 (by decide))
      refine B_X7_mayStand_38 C (kk := ?_)
      refine B_X7_mayStand_39 C (kt := fun c25 => ?_) (kf := fun c25 => ?_)
      · refine B_X7_mayStand_52 C (hM := ct_X7_sideOf _ _ _) (kk := fun r26 h26 hq26 => ?_)
        obtain ⟨rfl, rfl⟩ := hq26
        refine B_X7_mayStand_57 C (hM := ct_X7_isBurnt _ _ _ hm hs) (kk := fun r27 h27 hq27 => ?_)
        obtain ⟨rfl, ⟨rfl, c27⟩ | ⟨rfl, c27⟩⟩ := hq27
        · refine B_X7_mayStand_62 C (kt := fun c28 => ?_) (kf := fun c28 => absurd c28 (by decide))
          refine B_X7_mayStand_69 C (kk := ?_)
          exact B_X7_mayStand_70 C (hq := by unfold sM; first | exact ⟨rfl, Or.inl ⟨rfl, by grind⟩⟩ | exact ⟨rfl, Or.inr ⟨rfl, by grind⟩⟩)
        · refine B_X7_mayStand_62 C (kt := fun c29 => absurd c29 (by decide)) (kf := fun c29 => ?_)
          refine B_X7_mayStand_65 C (kk := ?_)
          exact B_X7_mayStand_70 C (hq := by unfold sM; first | exact ⟨rfl, Or.inl ⟨rfl, by grind⟩⟩ | exact ⟨rfl, Or.inr ⟨rfl, by grind⟩⟩)
      · refine B_X7_mayStand_46 C (kt := fun c30 => ?_) (kf := fun c30 => ?_)
        · refine B_X7_mayStand_69 C (kk := ?_)
          exact B_X7_mayStand_70 C (hq := by unfold sM; first | exact ⟨rfl, Or.inl ⟨rfl, by grind⟩⟩ | exact ⟨rfl, Or.inr ⟨rfl, by grind⟩⟩)
        · refine B_X7_mayStand_52 C (hM := ct_X7_sideOf _ _ _) (kk := fun r31 h31 hq31 => ?_)
          obtain ⟨rfl, rfl⟩ := hq31
          refine B_X7_mayStand_57 C (hM := ct_X7_isBurnt _ _ _ hm hs) (kk := fun r32 h32 hq32 => ?_)
          obtain ⟨rfl, ⟨rfl, c32⟩ | ⟨rfl, c32⟩⟩ := hq32
          · refine B_X7_mayStand_62 C (kt := fun c33 => ?_) (kf := fun c33 => absurd c33 (by decide))
            refine B_X7_mayStand_69 C (kk := ?_)
            exact B_X7_mayStand_70 C (hq := by unfold sM; first | exact ⟨rfl, Or.inl ⟨rfl, by grind⟩⟩ | exact ⟨rfl, Or.inr ⟨rfl, by grind⟩⟩)
          · refine B_X7_mayStand_62 C (kt := fun c34 => absurd c34 (by decide)) (kf := fun c34 => ?_)
            refine B_X7_mayStand_65 C (kk := ?_)
            exact B_X7_mayStand_70 C (hq := by unfold sM; first | exact ⟨rfl, Or.inl ⟨rfl, by grind⟩⟩ | exact ⟨rfl, Or.inr ⟨rfl, by grind⟩⟩)
theorem ct_X7_goTo (G : Gx) (l : Launch) (h : PH) {d t w hh w' h' : Int} {bst : Int → Int → Int} (hm : MF h) (hd : ph_I h 134 4 = d) (d0 : 0 ≤ d ∧ d ≤ 3 := by first | assumption | omega) (l0 : 12 ≤ ph_I h 135 (Int.toNat (308 + d)) ∧ ph_I h 135 (Int.toNat (308 + d)) ≤ 36 := by first | assumption | omega) (t0 : 0 ≤ t ∧ t ≤ 78 := by first | assumption | omega) (w0 : -36 ≤ w ∧ w ≤ 36 := by first | assumption | omega) (h0 : 0 ≤ hh ∧ hh ≤ 6 := by first | assumption | omega) (w1 : -40 ≤ w' ∧ w' ≤ 40 := by first | assumption | omega) (h1 : -1 ≤ h' ∧ h' ≤ 7 := by first | assumption | omega) (hbs : ∀ a b, -1100000 ≤ bst a b ∧ bst a b ≤ 1000000) (hrow : ∀ a b : Int, zabs a ≤ ph_I h 135 (Int.toNat (308 + d)) → 0 ≤ b → b ≤ 6 → ph_I h 138 (Int.toNat (511 * (t + 1) + (7 * (a + 36) + b))) = bst a b) : CT_X7_goTo G l [.inr 134, .inl t, .inl w, .inl hh, .inl w', .inl h'] h (pqI (sGo (ph_I h 135) d bst w hh w' h') h) := by
  obtain ⟨⟨tt0, r0, r1, r2, r3, r8, r9, r10⟩, ⟨t1, t2, t3, t4, t5, t6, t7⟩, ⟨l1, l2, l3, l4, l5, l6, l7⟩⟩ := id hm
  have z0 : 0 ≤ zabs w' ∧ zabs w' ≤ 40 ∧ -zabs w' ≤ w' ∧ w' ≤ zabs w' := by unfold zabs; omega
  have z1 : 0 ≤ zabs (w' - w) ∧ zabs (w' - w) ≤ 80 := by unfold zabs; omega
  have z2 : 0 ≤ zabs (h' - hh) ∧ zabs (h' - hh) ≤ 8 := by unfold zabs; omega
  have z3 := hbs w' h'
  refine ct_intro rfl (Nat.le_of_ble_eq_true rfl) (fun X hX C => ?_)
  refine B_X7_goTo_0 C (hM := ct_X7_size _ _ _) (kk := fun r1 h1 hq1 => ?_)
  obtain ⟨rfl, rfl⟩ := hq1
  refine B_X7_goTo_5 C (kt := fun c2 => ?_) (kf := fun c2 => ?_)
  · exact B_X7_goTo_32 C (hq := by exact pq_i (by unfold sGo; grind))
  · refine B_X7_goTo_21 C (hM := ct_X7_in _ _ _) (kk := fun r3 h3 hq3 => ?_)
    obtain ⟨rfl, ⟨rfl, c3⟩ | ⟨rfl, c3⟩⟩ := hq3
    · refine B_X7_goTo_29 C (kt := fun c4 => ?_) (kf := fun c4 => absurd c4 (by decide))
      refine B_X7_goTo_35 C (hM := ct_X7_placeOf _ _ _) (kk := fun r5 h5 hq5 => ?_)
      obtain ⟨rfl, rfl⟩ := hq5
      refine B_X7_goTo_53 C (x5 := bst w' h') (e6 := hrow w' h' (by omega) (by omega) (by omega)) (kt := fun c6 => ?_) (kf := fun c6 => ?_)
      · refine B_X7_goTo_69 C (hM := ct_X7_size _ _ _) (kk := fun r7 h7 hq7 => ?_)
        obtain ⟨rfl, rfl⟩ := hq7
        refine B_X7_goTo_78 C (hM := ct_X7_size _ _ _) (kk := fun r8 h8 hq8 => ?_)
        obtain ⟨rfl, rfl⟩ := hq8
        refine B_X7_goTo_86 C (kk := ?_)
        exact B_X7_goTo_87 C (hq := by exact pq_i (by unfold sGo; grind))
      · refine B_X7_goTo_64 C (kk := ?_)
        exact B_X7_goTo_87 C (hq := by exact pq_i (by unfold sGo; grind))
    · refine B_X7_goTo_29 C (kt := fun c9 => absurd c9 (by decide)) (kf := fun c9 => ?_)
      exact B_X7_goTo_32 C (hq := by exact pq_i (by unfold sGo; grind))
theorem sGo_b {st : ST} {d w hh w' h' : Int} {bst : Int → Int → Int} {lo hi : Int} (hbs : ∀ a b, lo ≤ bst a b ∧ bst a b ≤ hi) (h1 : lo ≤ -1000000) (h2 : -1000000 ≤ hi) (hl : st (Int.toNat (308 + d)) ≤ 36) (w0 : -36 ≤ w ∧ w ≤ 36) (h0 : 0 ≤ hh ∧ hh ≤ 6) : lo - 88 ≤ sGo st d bst w hh w' h' ∧ sGo st d bst w hh w' h' ≤ hi := by
  have := hbs w' h'
  unfold sGo
  split
  · omega
  · next q =>
    have q1 : ¬ st (Int.toNat (308 + d)) < zabs w' := fun z => q (Or.inl z)
    have q2 : 0 ≤ h' ∧ h' ≤ 6 := Classical.byContradiction fun z => q (Or.inr z)
    have z1 : 0 ≤ zabs (w' - w) ∧ zabs (w' - w) ≤ 80 := by unfold zabs at *; omega
    have z2 : 0 ≤ zabs (h' - hh) ∧ zabs (h' - hh) ≤ 8 := by unfold zabs; omega
    split <;> omega
theorem lp_X7_from_in {G : Gx} {X : Cx} {h : PH} {Q : State → Prop} {d p f n t w hh own m0 : Int} {i : Nat} {bst : Int → Int → Int} (C : CX_X7_from G X) (hm : MF h) (hs : okSky (ph_I h 135)) (hb : ∀ j, pR (ph_I h 135 j)) (hd : ph_I h 134 4 = d) (hp : ph_I h 134 5 = p) (hn : ph_I h 134 6 = n) (hf : ph_I h 134 7 = f) (d0 : 0 ≤ d ∧ d ≤ 3) (l0 : 12 ≤ ph_I h 135 (Int.toNat (308 + d)) ∧ ph_I h 135 (Int.toNat (308 + d)) ≤ 36) (sp0 : 1 ≤ ph_I h 135 (Int.toNat (312 + d)) ∧ ph_I h 135 (Int.toNat (312 + d)) ≤ 3) (p0 : 0 ≤ p ∧ p ≤ 7) (f0 : 0 ≤ f ∧ f ≤ 16) (n0 : 0 ≤ n ∧ n ≤ 16) (b0 : 0 ≤ ph_I h 135 (Int.toNat (8 + p)) ∧ ph_I h 135 (Int.toNat (8 + p)) ≤ 60) (t0 : 0 ≤ t ∧ t ≤ 78) (w0 : -36 ≤ w ∧ w ≤ 36) (h0 : 0 ≤ hh ∧ hh ≤ 6) (hbs : ∀ a b, -1100000 ≤ bst a b ∧ bst a b ≤ 1000000) (hrow : ∀ a b : Int, zabs a ≤ ph_I h 135 (Int.toNat (308 + d)) → 0 ≤ b → b ≤ 6 → ph_I h 138 (Int.toNat (511 * (t + 1) + (7 * (a + 36) + b))) = bst a b) (hi : (i : Int) ≤ 2 * ph_I h 135 (Int.toNat (312 + d))) (hm0 : -1100088 ≤ m0 ∧ m0 ≤ 1000000)
    (K : PW G X 10 Q 0 0 112 [some (.inr 134), some (.inl t), some (.inl w), some (.inl hh), some (.inl own), some (.inl (mx (sG (ph_I h 135) d bst w hh i) 3 m0)), some (.inl (ph_I h 135 (Int.toNat (312 + d)))), some (.inl (w - ph_I h 135 (Int.toNat (312 + d)) + i)), some (.inl (hh + 2)), none] [] h) :
    ∀ (m j : Nat), j + m = 3 → PW G X 10 Q 0 0 69 [some (.inr 134), some (.inl t), some (.inl w), some (.inl hh), some (.inl own), some (.inl (mx (sG (ph_I h 135) d bst w hh i) j m0)), some (.inl (ph_I h 135 (Int.toNat (312 + d)))), some (.inl (w - ph_I h 135 (Int.toNat (312 + d)) + i)), some (.inl (hh - 1 + j)), none] [] h := by
  obtain ⟨⟨tt0, r0, r1, r2, r3, r8, r9, r10⟩, ⟨t1, t2, t3, t4, t5, t6, t7⟩, ⟨l1, l2, l3, l4, l5, l6, l7⟩⟩ := id hm
  intro m
  induction m with
  | zero =>
    intro j hj
    have e : j = 3 := by omega
    subst e
    refine B_X7_from_69 C (kt := fun c1 => ?_) (kf := fun c1 => by omega)
    have e : hh - 1 + ((3 : Nat) : Int) = hh + 2 := by omega
    rw [e]
    exact K
  | succ m ih =>
    intro j hj
    refine B_X7_from_69 C (kt := fun c1 => by omega) (kf := fun c1 => ?_)
    refine B_X7_from_77 C (hM := ct_X7_goTo _ _ _ hm hd (hbs := hbs) (hrow := hrow)) (kk := fun r1 h1 hq1 => ?_)
    obtain ⟨rfl, rfl⟩ := hq1
    have v0 : ∀ j, -1100088 ≤ sG (ph_I h 135) d bst w hh i j ∧ sG (ph_I h 135) d bst w hh i j ≤ 1000000 := fun j => sGo_b hbs (by omega) (by omega) (by omega) w0 h0
    have v1 := v0 j
    have v2 := mx_b v0 j m0 hm0.1 hm0.2
    refine B_X7_from_88 C (s0 := sG (ph_I h 135) d bst w hh i j) (kt := fun c2 => ?_) (kf := fun c2 => ?_)
    · refine B_X7_from_102 C (kk := ?_)
      refine B_X7_from_104 C (kk := ?_)
      have := ih (j + 1) (by omega)
      rw [mx, if_neg (by omega)] at this
      have e : hh - 1 + ((j + 1 : Nat) : Int) = hh - 1 + (j : Int) + 1 := by omega
      rw [e] at this
      exact this
    · refine B_X7_from_97 C (kk := ?_)
      refine B_X7_from_104 C (kk := ?_)
      have := ih (j + 1) (by omega)
      rw [mx, if_pos (by omega)] at this
      have e : hh - 1 + ((j + 1 : Nat) : Int) = hh - 1 + (j : Int) + 1 := by omega
      rw [e] at this
      exact this
