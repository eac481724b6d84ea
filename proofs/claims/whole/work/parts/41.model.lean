/-! contracts of the reference: what it reads -/
theorem lp_X7_passOf {G : Gx} {X : Cx} {h : PH} {name : Int} (C : CX_X7_passOf G X) (hm : MF h) (hn : pR name) (hb : ∀ j, pR (ph_I h 135 j)) (h0 : 0 ≤ ph_I h 135 484) (h8 : ph_I h 135 484 ≤ 8) :
    ∀ (m : Nat) (p : Nat), (p : Int) + m = ph_I h 135 484 → PW G X 4 (pw_E G X (pqI (pOfN (ph_I h 135) name (ph_I h 135 484).toNat) h) 0 0) 0 0 5 [some (.inr 134), some (.inl name), some (.inl (pOfN (ph_I h 135) name p)), some (.inl p)] [] h := by
  obtain ⟨⟨t0, r0, r1, r2, r3, r8, r9, r10⟩, ⟨t1, t2, t3, t4, t5, t6, t7⟩, ⟨l1, l2, l3, l4, l5, l6, l7⟩⟩ := id hm
  intro m
  induction m with
  | zero =>
    intro p hp
    refine B_X7_passOf_5 C (q11 := hb _) (kt := fun c1 => ?_) (kf := fun c1 => by omega)
    refine B_X7_passOf_41 C (hq := ⟨?_, rfl⟩)
    have e : (ph_I h 135 484).toNat = p := by omega
    rw [e]
  | succ m ih =>
    intro p hp
    refine B_X7_passOf_5 C (q11 := hb _) (kt := fun c1 => by omega) (kf := fun c1 => ?_)
    have e : Int.toNat (0 + (p : Int)) = p := by omega
    refine B_X7_passOf_17 C (x8 := ph_I h 135 p) (e9 := by rw [e]) (q10 := hb _) (kt := fun c2 => ?_) (kf := fun c2 => ?_)
    · refine B_X7_passOf_33 C (kk := ?_)
      refine B_X7_passOf_34 C (kk := ?_)
      have := ih (p + 1) (by omega)
      rw [pOfN, if_neg c2] at this
      exact this
    · refine B_X7_passOf_29 C (kk := ?_)
      refine B_X7_passOf_34 C (kk := ?_)
      have := ih (p + 1) (by omega)
      rw [pOfN, if_pos c2] at this
      exact this
theorem ct_X7_passOf (G : Gx) (l : Launch) (h : PH) {name : Int} (hm : MF h) (hn : pR name) (hb : ∀ j, pR (ph_I h 135 j)) (h0 : 0 ≤ ph_I h 135 484) (h8 : ph_I h 135 484 ≤ 8) : CT_X7_passOf G l [.inr 134, .inl name] h (pqI (pOfN (ph_I h 135) name (ph_I h 135 484).toNat) h) := by
  refine ct_intro rfl (Nat.le_of_ble_eq_true rfl) (fun X hX C => ?_)
  refine B_X7_passOf_0 C (kk := ?_)
  exact lp_X7_passOf C hm hn hb h0 h8 (ph_I h 135 484).toNat 0 (by omega)
theorem ct_X7_isBurnt (G : Gx) (l : Launch) (h : PH) {a b t : Int} (hm : MF h) (hs : okSky (ph_I h 135)) (ha : 0 ≤ a ∧ a ≤ 23 := by first | assumption | omega) (hb : 0 ≤ b ∧ b ≤ 6 := by first | assumption | omega) (ht : 0 ≤ t ∧ t ≤ 79 := by first | assumption | omega) : CT_X7_isBurnt G l [.inr 134, .inl a, .inl b, .inl t] h (pqB (sB (ph_I h 135) a b t = true) h) := by
  obtain ⟨⟨t0, r0, r1, r2, r3, r8, r9, r10⟩, ⟨t1, t2, t3, t4, t5, t6, t7⟩, ⟨l1, l2, l3, l4, l5, l6, l7⟩⟩ := id hm
  obtain ⟨s0, s1, s2, s3, s4, s5, s6, s7, -⟩ := id hs
  have hq0 : 0 ≤ t / ph_I h 135 486 := Int.ediv_nonneg (by omega) (by omega)
  have hq1 : t / ph_I h 135 486 ≤ t := Int.ediv_le_self _ (by omega)
  have z0 : 0 ≤ zabs (a - (ph_I h 135 485 + t / ph_I h 135 486) % 24) ∧ zabs (a - (ph_I h 135 485 + t / ph_I h 135 486) % 24) ≤ 23 := by unfold zabs; omega
  have z1 : 0 ≤ zabs (b - ph_I h 135 487) ∧ zabs (b - ph_I h 135 487) ≤ 6 := by unfold zabs; omega
  refine ct_intro rfl (Nat.le_of_ble_eq_true rfl) (fun X hX C => ?_)
  refine B_X7_isBurnt_0 C (hM := ct_X7_size _ _ _) (kk := fun r1 h1 hq1 => ?_)
  obtain ⟨rfl, rfl⟩ := hq1
  refine B_X7_isBurnt_31 C (kt := fun c2 => ?_) (kf := fun c2 => ?_)
  · refine B_X7_isBurnt_51 C (kk := ?_)
    refine B_X7_isBurnt_53 C (kt := fun c3 => ?_) (kf := fun c3 => ?_)
    · refine B_X7_isBurnt_96 C (kk := ?_)
      exact B_X7_isBurnt_97 C (hq := by unfold sB; first | exact ⟨rfl, Or.inl ⟨rfl, by grind⟩⟩ | exact ⟨rfl, Or.inr ⟨rfl, by grind⟩⟩)
    · refine B_X7_isBurnt_68 C (hM := ct_X7_size _ _ _) (kk := fun r4 h4 hq4 => ?_)
      obtain ⟨rfl, rfl⟩ := hq4
      refine B_X7_isBurnt_81 C (kt := fun c5 => ?_) (kf := fun c5 => ?_)
      · refine B_X7_isBurnt_96 C (kk := ?_)
        exact B_X7_isBurnt_97 C (hq := by unfold sB; first | exact ⟨rfl, Or.inl ⟨rfl, by grind⟩⟩ | exact ⟨rfl, Or.inr ⟨rfl, by grind⟩⟩)
      · refine B_X7_isBurnt_92 C (kk := ?_)
        exact B_X7_isBurnt_97 C (hq := by unfold sB; first | exact ⟨rfl, Or.inl ⟨rfl, by grind⟩⟩ | exact ⟨rfl, Or.inr ⟨rfl, by grind⟩⟩)
  · refine B_X7_isBurnt_43 C (kk := ?_)
    refine B_X7_isBurnt_53 C (kt := fun c6 => ?_) (kf := fun c6 => ?_)
    · refine B_X7_isBurnt_96 C (kk := ?_)
      exact B_X7_isBurnt_97 C (hq := by unfold sB; first | exact ⟨rfl, Or.inl ⟨rfl, by grind⟩⟩ | exact ⟨rfl, Or.inr ⟨rfl, by grind⟩⟩)
    · refine B_X7_isBurnt_68 C (hM := ct_X7_size _ _ _) (kk := fun r7 h7 hq7 => ?_)
      obtain ⟨rfl, rfl⟩ := hq7
      refine B_X7_isBurnt_81 C (kt := fun c8 => ?_) (kf := fun c8 => ?_)
      · refine B_X7_isBurnt_96 C (kk := ?_)
        exact B_X7_isBurnt_97 C (hq := by unfold sB; first | exact ⟨rfl, Or.inl ⟨rfl, by grind⟩⟩ | exact ⟨rfl, Or.inr ⟨rfl, by grind⟩⟩)
      · refine B_X7_isBurnt_92 C (kk := ?_)
        exact B_X7_isBurnt_97 C (hq := by unfold sB; first | exact ⟨rfl, Or.inl ⟨rfl, by grind⟩⟩ | exact ⟨rfl, Or.inr ⟨rfl, by grind⟩⟩)
