/-! contracts of the reference: from, lay -/
theorem lp_X7_from_out {G : Gx} {X : Cx} {h : PH} {Q : State → Prop} {d p f n t w hh own : Int} {bst : Int → Int → Int} (C : CX_X7_from G X) (hm : MF h) (hs : okSky (ph_I h 135)) (hb : ∀ j, pR (ph_I h 135 j)) (hd : ph_I h 134 4 = d) (hp : ph_I h 134 5 = p) (hn : ph_I h 134 6 = n) (hf : ph_I h 134 7 = f) (d0 : 0 ≤ d ∧ d ≤ 3) (l0 : 12 ≤ ph_I h 135 (Int.toNat (308 + d)) ∧ ph_I h 135 (Int.toNat (308 + d)) ≤ 36) (sp0 : 1 ≤ ph_I h 135 (Int.toNat (312 + d)) ∧ ph_I h 135 (Int.toNat (312 + d)) ≤ 3) (p0 : 0 ≤ p ∧ p ≤ 7) (f0 : 0 ≤ f ∧ f ≤ 16) (n0 : 0 ≤ n ∧ n ≤ 16) (b0 : 0 ≤ ph_I h 135 (Int.toNat (8 + p)) ∧ ph_I h 135 (Int.toNat (8 + p)) ≤ 60) (t0 : 0 ≤ t ∧ t ≤ 78) (w0 : -36 ≤ w ∧ w ≤ 36) (h0 : 0 ≤ hh ∧ hh ≤ 6) (hbs : ∀ a b, -1100000 ≤ bst a b ∧ bst a b ≤ 1000000) (hrow : ∀ a b : Int, zabs a ≤ ph_I h 135 (Int.toNat (308 + d)) → 0 ≤ b → b ≤ 6 → ph_I h 138 (Int.toNat (511 * (t + 1) + (7 * (a + 36) + b))) = bst a b)
    (K : PW G X 10 Q 0 0 118 [some (.inr 134), some (.inl t), some (.inl w), some (.inl hh), some (.inl own), some (.inl (sMost (ph_I h 135) d bst w hh)), some (.inl (ph_I h 135 (Int.toNat (312 + d)))), some (.inl (w + ph_I h 135 (Int.toNat (312 + d)) + 1)), none, none] [] h) :
    ∀ (m i : Nat), (i : Int) + m = 2 * ph_I h 135 (Int.toNat (312 + d)) + 1 → PW G X 10 Q 0 0 55 [some (.inr 134), some (.inl t), some (.inl w), some (.inl hh), some (.inl own), some (.inl (sMo (sG (ph_I h 135) d bst w hh) i)), some (.inl (ph_I h 135 (Int.toNat (312 + d)))), some (.inl (w - ph_I h 135 (Int.toNat (312 + d)) + i)), none, none] [] h := by
  have v0 : ∀ i j, -1100088 ≤ sG (ph_I h 135) d bst w hh i j ∧ sG (ph_I h 135) d bst w hh i j ≤ 1000000 := fun i j => sGo_b hbs (by omega) (by omega) (by omega) w0 h0
  intro m
  induction m with
  | zero =>
    intro i hi
    refine B_X7_from_55 C (kt := fun c1 => ?_) (kf := fun c1 => by omega)
    have e : w - ph_I h 135 (Int.toNat (312 + d)) + (i : Int) = w + ph_I h 135 (Int.toNat (312 + d)) + 1 := by omega
    rw [e]
    have e2 : i = Int.toNat (2 * ph_I h 135 (Int.toNat (312 + d)) + 1) := by omega
    rw [e2]
    exact K
  | succ m ih =>
    intro i hi
    refine B_X7_from_55 C (kt := fun c1 => by omega) (kf := fun c1 => ?_)
    refine B_X7_from_64 C (kk := ?_)
    have e0 : hh - 1 = hh - 1 + ((0 : Nat) : Int) := by omega
    rw [e0]
    refine lp_X7_from_in C hm hs hb hd hp hn hf d0 l0 sp0 p0 f0 n0 b0 t0 w0 h0 hbs hrow (by omega) (sMo_b v0 (by omega) (by omega) i) ?_ 3 0 (by omega)
    refine B_X7_from_112 C (kk := ?_)
    have := ih (i + 1) (by omega)
    have e : w - ph_I h 135 (Int.toNat (312 + d)) + ((i + 1 : Nat) : Int) = w - ph_I h 135 (Int.toNat (312 + d)) + (i : Int) + 1 := by omega
    rw [e] at this
    exact this
theorem ct_X7_from (G : Gx) (l : Launch) (h : PH) {d p f n t w hh : Int} {bst : Int → Int → Int} (hm : MF h) (hs : okSky (ph_I h 135)) (hb : ∀ j, pR (ph_I h 135 j)) (hd : ph_I h 134 4 = d) (hp : ph_I h 134 5 = p) (hn : ph_I h 134 6 = n) (hf : ph_I h 134 7 = f) (d0 : 0 ≤ d ∧ d ≤ 3) (l0 : 12 ≤ ph_I h 135 (Int.toNat (308 + d)) ∧ ph_I h 135 (Int.toNat (308 + d)) ≤ 36) (sp0 : 1 ≤ ph_I h 135 (Int.toNat (312 + d)) ∧ ph_I h 135 (Int.toNat (312 + d)) ≤ 3) (p0 : 0 ≤ p ∧ p ≤ 7) (f0 : 0 ≤ f ∧ f ≤ 16) (n0 : 0 ≤ n ∧ n ≤ 16) (b0 : 0 ≤ ph_I h 135 (Int.toNat (8 + p)) ∧ ph_I h 135 (Int.toNat (8 + p)) ≤ 60) (t0 : 0 ≤ t ∧ t ≤ 79) (w0 : -36 ≤ w ∧ w ≤ 36) (h0 : 0 ≤ hh ∧ hh ≤ 6) (hbs : ∀ a b, -1100000 ≤ bst a b ∧ bst a b ≤ 1000000) (hl : t ≤ ph_I h 135 (Int.toNat (8 + p)) + n - 1) (hrow : t < ph_I h 135 (Int.toNat (8 + p)) + n - 1 → ∀ a b : Int, zabs a ≤ ph_I h 135 (Int.toNat (308 + d)) → 0 ≤ b → b ≤ 6 → ph_I h 138 (Int.toNat (511 * (t + 1) + (7 * (a + 36) + b))) = bst a b) : CT_X7_from G l [.inr 134, .inl t, .inl w, .inl hh] h (pqI (if t = ph_I h 135 (Int.toNat (8 + p)) + n - 1 then sOwn (ph_I h 135) p f n t w hh else sFrom (ph_I h 135) d p f n bst t w hh) h) := by
  obtain ⟨⟨tt0, r0, r1, r2, r3, r8, r9, r10⟩, ⟨t1, t2, t3, t4, t5, t6, t7⟩, ⟨l1, l2, l3, l4, l5, l6, l7⟩⟩ := id hm
  have v0 : ∀ i j, -1100088 ≤ sG (ph_I h 135) d bst w hh i j ∧ sG (ph_I h 135) d bst w hh i j ≤ 1000000 := fun i j => sGo_b hbs (by omega) (by omega) (by omega) w0 h0
  have v1 : -1100088 ≤ sMost (ph_I h 135) d bst w hh ∧ sMost (ph_I h 135) d bst w hh ≤ 1000000 := sMo_b v0 (by omega) (by omega) _
  refine ct_intro rfl (Nat.le_of_ble_eq_true rfl) (fun X hX C => ?_)
  refine B_X7_from_0 C (hM := ct_X7_sees _ _ _ hm hs hb hp hn hf) (kk := fun r1 h1 hq1 => ?_)
  have key : ∀ own : Int, own = sOwn (ph_I h 135) p f n t w hh → PW G X 10 (pw_E G X (pqI (if t = ph_I h 135 (Int.toNat (8 + p)) + n - 1 then sOwn (ph_I h 135) p f n t w hh else sFrom (ph_I h 135) d p f n bst t w hh) h) 0 0) 0 0 17 [some (.inr 134), some (.inl t), some (.inl w), some (.inl hh), none, none, none, none, none, none] [.inl own] h := by
    intro own ho
    have ho2 : 0 ≤ own ∧ own ≤ 10000 := by rw [ho]; unfold sOwn; split <;> omega
    refine B_X7_from_17 C (hM := ct_X7_lastTick _ _ _ hm hp hn) (kk := fun r2 h2 hq2 => ?_)
    obtain ⟨rfl, rfl⟩ := hq2
    refine B_X7_from_24 C (kt := fun c2 => ?_) (kf := fun c2 => ?_)
    · refine B_X7_from_30 C (kk := ?_)
      have hrow' := hrow (by omega)
      have e0 : w - ph_I h 135 (Int.toNat (312 + d)) = w - ph_I h 135 (Int.toNat (312 + d)) + ((0 : Nat) : Int) := by omega
      rw [e0]
      refine lp_X7_from_out C hm hs hb hd hp hn hf d0 l0 sp0 p0 f0 n0 b0 (by omega) w0 h0 hbs hrow' ?_ (Int.toNat (2 * ph_I h 135 (Int.toNat (312 + d)) + 1)) 0 (by omega)
      refine B_X7_from_118 C (kt := fun c3 => ?_) (kf := fun c3 => ?_)
      · refine B_X7_from_130 C (kk := ?_)
        exact B_X7_from_135 C (hq := pq_i (by rw [if_neg c2]; unfold sFrom; rw [if_neg c3, ho]))
      · refine B_X7_from_125 C (kk := ?_)
        exact B_X7_from_135 C (hq := pq_i (by rw [if_neg c2]; unfold sFrom; rw [if_pos c3]))
    · exact B_X7_from_27 C (hq := pq_i (by rw [if_pos c2, ho]))
  obtain ⟨rfl, ⟨rfl, c1⟩ | ⟨rfl, c1⟩⟩ := hq1
  · refine B_X7_from_7 C (kt := fun c2 => absurd c2 (by decide)) (kf := fun c2 => ?_)
    refine B_X7_from_10 C (kk := ?_)
    exact key _ (by unfold sOwn; rw [if_pos c1])
  · refine B_X7_from_7 C (kt := fun c2 => ?_) (kf := fun c2 => absurd c2 (by decide))
    refine B_X7_from_16 C (kk := ?_)
    exact key _ (by unfold sOwn; rw [if_neg c1])
