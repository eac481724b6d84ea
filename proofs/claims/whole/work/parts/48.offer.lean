/-! the reference: what a value is made of; seenBy, the offer -/
theorem sG_form {st : ST} {d w hh : Int} {bst : Int → Int → Int} {S Q : Int} (sp : 1 ≤ st (Int.toNat (312 + d)) ∧ st (Int.toNat (312 + d)) ≤ 3) (hb : ∀ a b, bst a b = -1000000 ∨ ∃ s q, bst a b = 10000 * s - q ∧ 0 ≤ s ∧ s ≤ S ∧ 0 ≤ q ∧ q ≤ Q) (i j : Nat) (hi : (i : Int) ≤ 2 * st (Int.toNat (312 + d))) (hj : j < 3) :
    sG st d bst w hh i j = -1000000 ∨ ∃ s q, sG st d bst w hh i j = 10000 * s - q ∧ 0 ≤ s ∧ s ≤ S ∧ 0 ≤ q ∧ q ≤ Q + 4 := by
  by_cases q0 : sG st d bst w hh i j = -1000000
  · exact Or.inl q0
  · obtain ⟨h1, h2, h3, h4, h5⟩ := sGo_live q0
    rcases hb (w - st (Int.toNat (312 + d)) + i) (hh - 1 + j) with h | ⟨s, q, e, a1, a2, a3, a4⟩
    · exact absurd h h4
    · have z1 : 0 ≤ zabs (w - st (Int.toNat (312 + d)) + i - w) ∧ zabs (w - st (Int.toNat (312 + d)) + i - w) ≤ 3 := by unfold zabs; omega
      have z2 : 0 ≤ zabs (hh - 1 + j - hh) ∧ zabs (hh - 1 + j - hh) ≤ 1 := by unfold zabs; omega
      refine Or.inr ⟨s, q + zabs (w - st (Int.toNat (312 + d)) + i - w) + zabs (hh - 1 + j - hh), ?_, a1, a2, by omega, by omega⟩
      show sGo st d bst w hh _ _ = _
      rw [h5, e]
      omega
theorem sMost_form {st : ST} {d w hh : Int} {bst : Int → Int → Int} {S Q : Int} (sp : 1 ≤ st (Int.toNat (312 + d)) ∧ st (Int.toNat (312 + d)) ≤ 3) (hb : ∀ a b, bst a b = -1000000 ∨ ∃ s q, bst a b = 10000 * s - q ∧ 0 ≤ s ∧ s ≤ S ∧ 0 ≤ q ∧ q ≤ Q) :
    sMost st d bst w hh = -1000000 ∨ ∃ s q, sMost st d bst w hh = 10000 * s - q ∧ 0 ≤ s ∧ s ≤ S ∧ 0 ≤ q ∧ q ≤ Q + 4 := by
  rcases sMo_att (sG st d bst w hh) (Int.toNat (2 * st (Int.toNat (312 + d)) + 1)) with h | ⟨i, j, h1, h2, h3⟩
  · exact Or.inl h
  · rw [show sMost st d bst w hh = sG st d bst w hh i j from h3.symm]
    exact sG_form sp hb i j (by omega) h2
theorem sFrom_form {st : ST} {d p f n t w hh : Int} {bst : Int → Int → Int} {S Q : Int} (sp : 1 ≤ st (Int.toNat (312 + d)) ∧ st (Int.toNat (312 + d)) ≤ 3) (hb : ∀ a b, bst a b = -1000000 ∨ ∃ s q, bst a b = 10000 * s - q ∧ 0 ≤ s ∧ s ≤ S ∧ 0 ≤ q ∧ q ≤ Q) :
    sFrom st d p f n bst t w hh = -1000000 ∨ ∃ s q, sFrom st d p f n bst t w hh = 10000 * s - q ∧ 0 ≤ s ∧ s ≤ S + 1 ∧ 0 ≤ q ∧ q ≤ Q + 4 := by
  rcases sMost_form (w := w) (hh := hh) sp hb with h | ⟨s, q, e, a1, a2, a3, a4⟩
  · exact Or.inl (by unfold sFrom; rw [if_pos h])
  · by_cases z : sMost st d bst w hh = -1000000
    · exact Or.inl (by unfold sFrom; rw [if_pos z])
    · unfold sFrom
      rw [if_neg z, e]
      unfold sOwn
      split
      · exact Or.inr ⟨s + 1, q, by omega, by omega, by omega, a3, a4⟩
      · exact Or.inr ⟨s, q, by omega, by omega, by omega, a3, a4⟩
theorem bt_form {st : ST} {d p f n last : Int} (sp : 1 ≤ st (Int.toNat (312 + d)) ∧ st (Int.toNat (312 + d)) ≤ 3) : ∀ (r : Nat) (a b : Int), bt st d p f n last r a b = -1000000 ∨ ∃ s q, bt st d p f n last r a b = 10000 * s - q ∧ 0 ≤ s ∧ s ≤ (r : Int) + 1 ∧ 0 ≤ q ∧ q ≤ 4 * (r : Int)
  | 0, a, b => by
    rw [bt_z]
    split
    · unfold sOwn
      split
      · exact Or.inr ⟨1, 0, by omega, by omega, by omega, by omega, by omega⟩
      · exact Or.inr ⟨0, 0, by omega, by omega, by omega, by omega, by omega⟩
    · exact Or.inl rfl
  | r + 1, a, b => by
    rw [bt_s]
    split
    · rcases sFrom_form (p := p) (f := f) (n := n) (t := last - (r + 1)) (w := a) (hh := b) sp (bt_form (p := p) (f := f) (n := n) (last := last) sp r) with h | ⟨s, q, e, a1, a2, a3, a4⟩
      · exact Or.inl h
      · exact Or.inr ⟨s, q, e, a1, by omega, a3, by omega⟩
    · exact Or.inl rfl
theorem sLay_form {st : ST} {d p f n : Int} (sp : 1 ≤ st (Int.toNat (312 + d)) ∧ st (Int.toNat (312 + d)) ≤ 3) (fr : 0 ≤ st (Int.toNat (304 + d))) (b0 : st (Int.toNat (8 + p)) ≤ 60) (n0 : n ≤ 16) : sLay st d p f n = -1000000 ∨ ∃ s q, sLay st d p f n = 10000 * s - q ∧ 0 ≤ s ∧ s ≤ 80 ∧ 0 ≤ q ∧ q ≤ 320 := by
  unfold sLay
  split
  · exact Or.inl rfl
  · split
    · unfold sOwn
      split
      · exact Or.inr ⟨1, 0, by omega, by omega, by omega, by omega, by omega⟩
      · exact Or.inr ⟨0, 0, by omega, by omega, by omega, by omega, by omega⟩
    · rcases sFrom_form (p := p) (f := f) (n := n) (t := st (Int.toNat (304 + d))) (w := st (Int.toNat (296 + d))) (hh := st (Int.toNat (300 + d))) sp (bt_form (p := p) (f := f) (n := n) (last := st (Int.toNat (8 + p)) + n - 1) sp (Int.toNat (st (Int.toNat (8 + p)) + n - 1 - st (Int.toNat (304 + d)) - 1))) with h | ⟨s, q, e, a1, a2, a3, a4⟩
      · exact Or.inl h
      · exact Or.inr ⟨s, q, e, a1, by omega, a3, by omega⟩
def sBy (st : ST) (d p f n : Int) : Int := if n ≤ f then 0 else if sLay st d p f n = -1000000 then 0 else (sLay st d p f n + 10000 - 1) / 10000
theorem sBy_b {st : ST} {d p f n : Int} (sp : 1 ≤ st (Int.toNat (312 + d)) ∧ st (Int.toNat (312 + d)) ≤ 3) (fr : 0 ≤ st (Int.toNat (304 + d))) (b0 : st (Int.toNat (8 + p)) ≤ 60) (n0 : n ≤ 16) : 0 ≤ sBy st d p f n ∧ sBy st d p f n ≤ 80 := by
  unfold sBy
  split
  · omega
  · split
    · omega
    · next q =>
      rcases sLay_form (f := f) sp fr b0 n0 with h | ⟨s, q, e, a1, a2, a3, a4⟩
      · exact absurd h q
      · omega
def pqS (v : Int) (h : PH) : Option PV → PH → Prop := fun r h' => r = some (.inl v) ∧ Scr h h'
theorem ct_X7_seenBy (G : Gx) (l : Launch) (h : PH) {d p f n : Int} (hm : MF h) (hS : OkS (ph_I h 135)) (d0 : 0 ≤ d ∧ d ≤ 3) (p0 : 0 ≤ p ∧ p < ph_I h 135 484) (f0 : 0 ≤ f ∧ f ≤ 16) (n0 : 0 ≤ n ∧ n ≤ 16) : CT_X7_seenBy G l [.inr 134, .inl d, .inl p, .inl f, .inl n] h (pqS (sBy (ph_I h 135) d p f n) h) := by
  obtain ⟨⟨tt0, r0, r1, r2, r3, r8, r9, r10⟩, ⟨t1, t2, t3, t4, t5, t6, t7⟩, ⟨l1, l2, l3, l4, l5, l6, l7⟩⟩ := id hm
  obtain ⟨s1, s2, s3, s4, s5⟩ := id hS
  obtain ⟨g1, g2, g3, g4, g5⟩ := s4 d d0.1 d0.2
  obtain ⟨g6, g7⟩ := s5 p p0.1 p0.2
  have hfm := sLay_form (st := ph_I h 135) (d := d) (p := p) (f := f) (n := n) g2 g3.1 g6.2 n0.2
  have hbd : -1000000 ≤ sLay (ph_I h 135) d p f n ∧ sLay (ph_I h 135) d p f n ≤ 800000 := by
    rcases hfm with h | ⟨s, q, e, a1, a2, a3, a4⟩ <;> omega
  refine ct_intro rfl (Nat.le_of_ble_eq_true rfl) (fun X hX C => ?_)
  refine B_X7_seenBy_0 C (kt := fun c1 => ?_) (kf := fun c1 => ?_)
  · refine B_X7_seenBy_8 C (hM := ct_X7_lay _ _ _ hm s1 s2 d0 g1 g2 g3 g4 g5 (by omega) f0 n0 g6) (kk := fun rr h' hq => ?_)
    obtain ⟨rfl, row, rfl, -⟩ := hq
    have hsc := Scr.lay h d p f n row
    refine B_X7_seenBy_17 C (kt := fun c2 => ?_) (kf := fun c2 => ?_)
    · have hlo : -9999 ≤ sLay (ph_I h 135) d p f n := by
        rcases hfm with h | ⟨s, q, e, a1, a2, a3, a4⟩
        · exact absurd h c2
        · omega
      refine B_X7_seenBy_30 C (hM := ct_X7_seenOf _ _ _) (kk := fun rr h' hq => ?_)
      obtain ⟨rfl, rfl⟩ := hq
      exact B_X7_seenBy_35 C (hq := ⟨by unfold sBy; rw [if_neg (by omega), if_neg c2], hsc⟩)
    · refine B_X7_seenBy_26 C (kk := ?_)
      exact B_X7_seenBy_35 C (hq := ⟨by unfold sBy; rw [if_neg (by omega), if_pos c2], hsc⟩)
  · exact B_X7_seenBy_6 C (hq := ⟨by unfold sBy; rw [if_pos (by omega)], Scr.rf h⟩)
/-- the offer among the first k dishes: which one, and what its way comes to -/
def sOf (st : ST) (p : Int) : Nat → Int × Int
  | 0 => (-6, -1000000)
  | k + 1 => if (sOf st p k).2 < sLay st k p 0 (st (Int.toNat (16 + p))) then ((k : Int), sLay st k p 0 (st (Int.toNat (16 + p)))) else sOf st p k
theorem lp_X7_offerOf {G : Gx} {X : Cx} {h0 : PH} {p : Int} (C : CX_X7_offerOf G X) (hm0 : MF h0) (hS0 : OkS (ph_I h0 135)) (p0 : 0 ≤ p ∧ p < ph_I h0 135 484) :
    ∀ (m k : Nat) (h : PH), k + m = 4 → Scr h0 h → ph_I h 134 11 = (sOf (ph_I h0 135) p k).2 → PW G X 5 (pw_E G X (fun r h' => r = some (.inl (sOf (ph_I h0 135) p 4).1) ∧ Scr h0 h' ∧ ph_I h' 134 11 = (sOf (ph_I h0 135) p 4).2) 0 0) 0 0 11 [some (.inr 134), some (.inl p), some (.inl (sOf (ph_I h0 135) p k).1), some (.inl k), none] [] h := by
  have hbd : ∀ k : Nat, k ≤ 3 → -1000000 ≤ sLay (ph_I h0 135) k p 0 (ph_I h0 135 (Int.toNat (16 + p))) ∧ sLay (ph_I h0 135) k p 0 (ph_I h0 135 (Int.toNat (16 + p))) ≤ 800000 := by
    intro k hk
    obtain ⟨s1, s2, s3, s4, s5⟩ := id hS0
    obtain ⟨g1, g2, g3, g4, g5⟩ := s4 k (by omega) (by omega)
    obtain ⟨g6, g7⟩ := s5 p p0.1 p0.2
    rcases sLay_form (st := ph_I h0 135) (d := (k : Int)) (p := p) (f := 0) (n := ph_I h0 135 (Int.toNat (16 + p))) g2 g3.1 g6.2 g7.2 with h | ⟨s, q, e, a1, a2, a3, a4⟩ <;> omega
  have hofb : ∀ k : Nat, k ≤ 4 → -1000000 ≤ (sOf (ph_I h0 135) p k).2 ∧ (sOf (ph_I h0 135) p k).2 ≤ 800000 := by
    intro k
    induction k with
    | zero => intro _; exact ⟨by show (-1000000 : Int) ≤ -1000000; omega, by show (-1000000 : Int) ≤ _; omega⟩
    | succ k ih =>
      intro hk
      have a := ih (by omega)
      have b := hbd k (by omega)
      unfold sOf
      split
      · exact b
      · exact a
  intro m
  induction m with
  | zero =>
    intro k h hk hs hv
    have e : k = 4 := by omega
    subst e
    refine B_X7_offerOf_11 C (kt := fun c1 => ?_) (kf := fun c1 => by omega)
    exact B_X7_offerOf_47 C (hq := ⟨rfl, hs, hv⟩)
  | succ m ih =>
    intro k h hk hs hv
    obtain ⟨⟨tt0, r0, r1, r2, r3, r8, r9, r10⟩, ⟨t1, t2, t3, t4, t5, t6, t7⟩, ⟨l1, l2, l3, l4, l5, l6, l7⟩⟩ := (hs.mf hm0)
    have est := hs.st
    have b1 := hbd k (by omega)
    have b2 := hofb k (by omega)
    have e1 : ((k + 1 : Nat) : Int) = (k : Int) + 1 := by omega
    refine B_X7_offerOf_11 C (kt := fun c1 => by omega) (kf := fun c1 => ?_)
    refine B_X7_offerOf_16 C (hM := ct_X7_layAll _ _ _ (hs.mf hm0) (by rw [est]; exact hS0) (by omega) (by rw [est]; exact p0)) (kk := fun rr h' hq => ?_)
    obtain ⟨rfl, row, rfl, -⟩ := hq
    have hs2 : Scr h0 (ph_rowI (layH h k p 0 (ph_I h 135 (Int.toNat (16 + p)))) 138 row) := hs.tr (Scr.lay h k p 0 _ row)
    rw [est]
    refine B_X7_offerOf_22 C (x2 := (sOf (ph_I h0 135) p k).2) (e3 := hv) (kt := fun c2 => ?_) (kf := fun c2 => ?_)
    · refine B_X7_offerOf_41 C (kk := ?_)
      rw [est] at hs2
      have es : sOf (ph_I h0 135) p (k + 1) = sOf (ph_I h0 135) p k := by rw [sOf, if_neg (by omega)]
      have nx := ih (k + 1) _ (by omega) hs2 (by rw [es]; exact hv)
      rw [es, e1] at nx
      exact nx
    · refine B_X7_offerOf_33 C (kk := ?_)
      refine B_X7_offerOf_41 C (kk := ?_)
      rw [est] at hs2
      have es : sOf (ph_I h0 135) p (k + 1) = ((k : Int), sLay (ph_I h0 135) k p 0 (ph_I h0 135 (Int.toNat (16 + p)))) := by rw [sOf, if_pos (by omega)]
      have nx := ih (k + 1) _ (by omega) (hs2.setI 11 (sLay (ph_I h0 135) k p 0 (ph_I h0 135 (Int.toNat (16 + p))))) (by rw [es]; rfl)
      rw [es, e1] at nx
      exact nx
theorem ct_X7_offerOf (G : Gx) (l : Launch) (h : PH) {p : Int} (hm : MF h) (hS : OkS (ph_I h 135)) (p0 : 0 ≤ p ∧ p < ph_I h 135 484) : CT_X7_offerOf G l [.inr 134, .inl p] h (fun r h' => r = some (.inl (sOf (ph_I h 135) p 4).1) ∧ Scr h h' ∧ ph_I h' 134 11 = (sOf (ph_I h 135) p 4).2) := by
  obtain ⟨⟨tt0, r0, r1, r2, r3, r8, r9, r10⟩, ⟨t1, t2, t3, t4, t5, t6, t7⟩, ⟨l1, l2, l3, l4, l5, l6, l7⟩⟩ := id hm
  refine ct_intro rfl (Nat.le_of_ble_eq_true rfl) (fun X hX C => ?_)
  refine B_X7_offerOf_0 C (kk := ?_)
  exact lp_X7_offerOf C hm hS p0 4 0 _ (by omega) ((Scr.rf h).setI 11 (-1000000)) rfl
