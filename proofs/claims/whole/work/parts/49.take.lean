/-! the reference: a pass is taken -/
theorem ct_X7_lastTickV (G : Gx) (l : Launch) (h : PH) {p n v : Int} (hm : MF h) (hp : ph_I h 134 5 = p) (hn : ph_I h 134 6 = n) (hv : ph_I h 135 (Int.toNat (8 + p)) = v) (p0 : 0 ≤ p ∧ p ≤ 7) : CT_X7_lastTick G l [.inr 134] h (pqI (v + n - 1) h) := by
  subst hv
  exact ct_X7_lastTick G l h hm hp hn p0
def PathW (st : ST) (d p f n : Int) (r1 r2 : Nat → Int) : Prop := r1 (Int.toNat (st (Int.toNat (304 + d)))) = st (Int.toNat (296 + d)) ∧ r2 (Int.toNat (st (Int.toNat (304 + d)))) = st (Int.toNat (300 + d)) ∧
  (∀ t : Int, st (Int.toNat (304 + d)) ≤ t → t < st (Int.toNat (8 + p)) + n - 1 → StpW st d p f n t (r1 (Int.toNat t)) (r2 (Int.toNat t)) (r1 (Int.toNat (t + 1))) (r2 (Int.toNat (t + 1)))) ∧
  ∀ t : Int, st (Int.toNat (304 + d)) ≤ t → t ≤ st (Int.toNat (8 + p)) + n - 1 → zabs (r1 (Int.toNat t)) ≤ st (Int.toNat (308 + d)) ∧ 0 ≤ r2 (Int.toNat t) ∧ r2 (Int.toNat t) ≤ 6
theorem StpW.uniq {st : ST} {d p f n t w hh w1 h1 w2 h2 : Int} (a : StpW st d p f n t w hh w1 h1) (b : StpW st d p f n t w hh w2 h2) : w1 = w2 ∧ h1 = h2 := by
  obtain ⟨i, j, f1, e1, e2⟩ := a
  obtain ⟨i', j', f2, e3, e4⟩ := b
  obtain ⟨q1, q2⟩ := f1.uniq f2
  subst q1; subst q2
  exact ⟨e1.trans e3.symm, e2.trans e4.symm⟩
/-- there is one way alone -/
theorem PathW.uniq {st : ST} {d p f n : Int} {r1 r2 s1 s2 : Nat → Int} (a : PathW st d p f n r1 r2) (b : PathW st d p f n s1 s2) : ∀ (k : Nat), st (Int.toNat (304 + d)) + k ≤ st (Int.toNat (8 + p)) + n - 1 → r1 (Int.toNat (st (Int.toNat (304 + d)) + k)) = s1 (Int.toNat (st (Int.toNat (304 + d)) + k)) ∧ r2 (Int.toNat (st (Int.toNat (304 + d)) + k)) = s2 (Int.toNat (st (Int.toNat (304 + d)) + k))
  | 0, _ => by
    have e : st (Int.toNat (304 + d)) + ((0 : Nat) : Int) = st (Int.toNat (304 + d)) := by omega
    rw [e]
    exact ⟨a.1.trans b.1.symm, a.2.1.trans b.2.1.symm⟩
  | k + 1, h => by
    have ih := PathW.uniq a b k (by omega)
    have e : st (Int.toNat (304 + d)) + ((k + 1 : Nat) : Int) = st (Int.toNat (304 + d)) + (k : Int) + 1 := by omega
    rw [e]
    have x := a.2.2.1 (st (Int.toNat (304 + d)) + k) (by omega) (by omega)
    have y := b.2.2.1 (st (Int.toNat (304 + d)) + k) (by omega) (by omega)
    rw [ih.1, ih.2] at x
    exact x.uniq y
def sLk (st : ST) (p n free : Int) (r1 r2 : Nat → Int) : Nat → ST
  | 0 => st
  | k + 1 => up (sLk st p n free r1 r2 k) (Int.toNat ((316 + (7 * ((r1 (Int.toNat (free + k)) + 48) % 24))) + r2 (Int.toNat (free + k)))) (sLk st p n free r1 r2 k (Int.toNat ((316 + (7 * ((r1 (Int.toNat (free + k)) + 48) % 24))) + r2 (Int.toNat (free + k)))) + bitS st p 0 n (free + k) (r1 (Int.toNat (free + k))) (r2 (Int.toNat (free + k))))
theorem sLk_lo {st : ST} {p n free : Int} {r1 r2 : Nat → Int} : ∀ (k : Nat), (∀ i : Nat, i < k → 0 ≤ r2 (Int.toNat (free + i))) → ∀ j, j < 316 → sLk st p n free r1 r2 k j = st j
  | 0, _, j, _ => rfl
  | k + 1, h, j, hj => by
    have ih := sLk_lo (st := st) (p := p) (n := n) (free := free) (r1 := r1) (r2 := r2) k (fun i hi => h i (by omega)) j hj
    have := h k (by omega)
    unfold sLk up
    rw [if_neg (by omega)]
    exact ih
/-- the row behind a taking -/
def sTk (st : ST) (d p : Int) (r1 r2 : Nat → Int) : ST :=
  up (up (up (up (up (sLk st p (st (Int.toNat (16 + p))) (st (Int.toNat (304 + d))) r1 r2 (Int.toNat (st (Int.toNat (8 + p)) + st (Int.toNat (16 + p)) - 1 + 1 - st (Int.toNat (304 + d)))))
    (Int.toNat (296 + d)) (r1 (Int.toNat (st (Int.toNat (8 + p)) + st (Int.toNat (16 + p)) - 1)))) (Int.toNat (300 + d)) (r2 (Int.toNat (st (Int.toNat (8 + p)) + st (Int.toNat (16 + p)) - 1)))) (Int.toNat (304 + d)) (st (Int.toNat (8 + p)) + st (Int.toNat (16 + p)) - 1 + 1)) (Int.toNat (24 + p)) d) (Int.toNat (32 + p)) ((sLay st d p 0 (st (Int.toNat (16 + p))) + 10000 - 1) / 10000)
def pqTake (h : PH) (d p : Int) : Option PV → PH → Prop := fun r h' =>
  (sLay (ph_I h 135) d p 0 (ph_I h 135 (Int.toNat (16 + p))) = -1000000 ∧ r = some (.inl (-5)) ∧ Scr h h') ∨ (sLay (ph_I h 135) d p 0 (ph_I h 135 (Int.toNat (16 + p))) ≠ -1000000 ∧ r = some (.inl ((sLay (ph_I h 135) d p 0 (ph_I h 135 (Int.toNat (16 + p))) + 10000 - 1) / 10000)) ∧ ∃ (r1 r2 : Nat → Int) (hw : PH), PathW (ph_I h 135) d p 0 (ph_I h 135 (Int.toNat (16 + p))) r1 r2 ∧ Scr h hw ∧ h' = ph_rowI hw 135 (sTk (ph_I h 135) d p r1 r2))
theorem lp_X7_takeBy {G : Gx} {X : Cx} {Q : State → Prop} {st : ST} {d p v n b fr : Int} {r1 r2 r3 : Nat → Int} {hw : PH} (C : CX_X7_takeBy G X) (hmw : MF hw) (e5 : ph_I hw 134 5 = p) (e6 : ph_I hw 134 6 = n) (e9 : ∀ j, ph_I hw 139 j = r1 j) (e10 : ∀ j, ph_I hw 140 j = r2 j) (e11 : ∀ j, ph_I hw 141 j = r3 j) (hst : st (Int.toNat (8 + p)) = b) (d0 : 0 ≤ d ∧ d ≤ 3) (p0 : 0 ≤ p ∧ p ≤ 7) (n0 : 0 ≤ n ∧ n ≤ 16) (fr0 : 0 ≤ fr ∧ fr ≤ 79) (b0 : 0 ≤ b ∧ b ≤ 60) (fl : fr ≤ b + n - 1) (hr : ∀ t : Int, fr ≤ t → t ≤ b + n - 1 → (r3 (Int.toNat t) = bitS st p 0 n t (r1 (Int.toNat t)) (r2 (Int.toNat t))) ∧ (-36 ≤ r1 (Int.toNat t) ∧ r1 (Int.toNat t) ≤ 36) ∧ 0 ≤ r2 (Int.toNat t) ∧ r2 (Int.toNat t) ≤ 6)
    (K : PW G X 5 Q 0 0 96 [some (.inr 134), some (.inl d), some (.inl p), some (.inl v), some (.inl (b + n - 1 + 1))] [] (ph_rowI hw 135 (sLk st p n fr r1 r2 (Int.toNat (b + n - 1 + 1 - fr))))) :
    ∀ (m k : Nat), fr + k + m = b + n - 1 + 1 → PW G X 5 Q 0 0 33 [some (.inr 134), some (.inl d), some (.inl p), some (.inl v), some (.inl (fr + k))] [] (ph_rowI hw 135 (sLk st p n fr r1 r2 k)) := by
  have hlo : ∀ k : Nat, fr + k ≤ b + n - 1 + 1 → (sLk st p n fr r1 r2 k) (Int.toNat (8 + p)) = b := fun k hk => (sLk_lo k (fun i hi => (hr (fr + i) (by omega) (by omega)).2.2.1) _ (by omega)).trans hst
  intro m
  induction m with
  | zero =>
    intro k hk
    obtain ⟨⟨mt0, mr0, mr1, mr2, mr3, mr8, mr9, mr10⟩, ⟨mt1, mt2, mt3, mt4, mt5, mt6, mt7⟩, ⟨ml1, ml2, ml3, ml4, ml5, ml6, ml7⟩⟩ := (show MF (ph_rowI hw 135 (sLk st p n fr r1 r2 k)) from hmw)
    refine B_X7_takeBy_33 C (hM := ct_X7_lastTickV (p := p) (n := n) (v := b) _ _ (ph_rowI hw 135 (sLk st p n fr r1 r2 k)) hmw e5 e6 (hlo k (by omega)) p0) (kk := fun rr h' hq => ?_)
    obtain ⟨rfl, rfl⟩ := hq
    refine B_X7_takeBy_39 C (kt := fun c1 => ?_) (kf := fun c1 => by omega)
    have e : k = Int.toNat (b + n - 1 + 1 - fr) := by omega
    have e2 : fr + (k : Int) = b + n - 1 + 1 := by omega
    rw [e2, e]
    exact K
  | succ m ih =>
    intro k hk
    obtain ⟨h1, wz, h3, h4⟩ := hr (fr + k) (by omega) (by omega)
    have nx := ih (k + 1) (by omega)
    have e1 : fr + ((k + 1 : Nat) : Int) = fr + (k : Int) + 1 := by omega
    rw [e1] at nx
    obtain ⟨⟨mt0, mr0, mr1, mr2, mr3, mr8, mr9, mr10⟩, ⟨mt1, mt2, mt3, mt4, mt5, mt6, mt7⟩, ⟨ml1, ml2, ml3, ml4, ml5, ml6, ml7⟩⟩ := (show MF (ph_rowI hw 135 (sLk st p n fr r1 r2 k)) from hmw)
    refine B_X7_takeBy_33 C (hM := ct_X7_lastTickV (p := p) (n := n) (v := b) _ _ (ph_rowI hw 135 (sLk st p n fr r1 r2 k)) hmw e5 e6 (hlo k (by omega)) p0) (kk := fun rr h' hq => ?_)
    obtain ⟨rfl, rfl⟩ := hq
    refine B_X7_takeBy_39 C (kt := fun c1 => by omega) (kf := fun c1 => ?_)
    refine B_X7_takeBy_42 C (r2 := 135) (r5 := 139) (x11 := r1 (Int.toNat (fr + k))) (e12 := e9 _) (hM := ct_X7_sideOf _ _ _) (kk := fun rr h' hq => ?_)
    obtain ⟨rfl, rfl⟩ := hq
    have key : ∀ bb : Int, bb = bitS st p 0 n (fr + k) (r1 (Int.toNat (fr + k))) (r2 (Int.toNat (fr + k))) → PW G X 5 Q 0 0 88 [some (.inr 134), some (.inl d), some (.inl p), some (.inl v), some (.inl (fr + k))] [.inl bb, .inl ((sLk st p n fr r1 r2 k) (Int.toNat ((316 + (7 * ((r1 (Int.toNat (fr + k)) + 48) % 24))) + r2 (Int.toNat (fr + k))))), .inl ((316 + (7 * ((r1 (Int.toNat (fr + k)) + 48) % 24))) + r2 (Int.toNat (fr + k))), .inr 135] (ph_rowI hw 135 (sLk st p n fr r1 r2 k)) := by
      intro bb hb
      refine B_X7_takeBy_88 C (kk := ?_)
      rw [ph_row_set, hb]
      exact nx
    refine B_X7_takeBy_61 C (r2 := 140) (r17 := 141) (x8 := r2 (Int.toNat (fr + k))) (e9 := e10 _) (x14 := (sLk st p n fr r1 r2 k) (Int.toNat ((316 + (7 * ((r1 (Int.toNat (fr + k)) + 48) % 24))) + r2 (Int.toNat (fr + k))))) (e15 := rfl) (x23 := r3 (Int.toNat (fr + k))) (e24 := e11 _) (q25 := by rw [h1]; unfold bitS pR; split <;> omega) (kt := fun c2 => ?_) (kf := fun c2 => ?_)
    · refine B_X7_takeBy_87 C (kk := ?_)
      exact key 0 (by rw [← h1, c2])
    · refine B_X7_takeBy_83 C (kk := ?_)
      refine key 1 ?_
      rw [h1] at c2
      unfold bitS at c2 ⊢
      split at c2
      · next q => rw [if_pos q]
      · exact absurd rfl c2
theorem lp_X7_takeFin {G : Gx} {X : Cx} {PQ : Option PV → PH → Prop} {st : ST} {d p v n b fr : Int} {r1 r2 r3 : Nat → Int} {hw : PH} {sl : Nat → Int} (C : CX_X7_takeBy G X) (hmw : MF hw) (e5 : ph_I hw 134 5 = p) (e6 : ph_I hw 134 6 = n) (e9 : ∀ j, ph_I hw 139 j = r1 j) (e10 : ∀ j, ph_I hw 140 j = r2 j) (e11 : ∀ j, ph_I hw 141 j = r3 j) (hst : st (Int.toNat (8 + p)) = b) (d0 : 0 ≤ d ∧ d ≤ 3) (p0 : 0 ≤ p ∧ p ≤ 7) (n0 : 0 ≤ n ∧ n ≤ 16) (fr0 : 0 ≤ fr ∧ fr ≤ 79) (b0 : 0 ≤ b ∧ b ≤ 60) (fl : fr ≤ b + n - 1) (hr : ∀ t : Int, fr ≤ t → t ≤ b + n - 1 → (r3 (Int.toNat t) = bitS st p 0 n t (r1 (Int.toNat t)) (r2 (Int.toNat t))) ∧ (-36 ≤ r1 (Int.toNat t) ∧ r1 (Int.toNat t) ≤ 36) ∧ 0 ≤ r2 (Int.toNat t) ∧ r2 (Int.toNat t) ≤ 6) (lo : sl (Int.toNat (8 + p)) = b) (v0 : -9999 ≤ v ∧ v ≤ 800000)
    (hq : PQ (some (.inl ((v + 10000 - 1) / 10000))) (ph_rowI hw 135 (up (up (up (up (up sl (Int.toNat (296 + d)) (r1 (Int.toNat (b + n - 1)))) (Int.toNat (300 + d)) (r2 (Int.toNat (b + n - 1)))) (Int.toNat (304 + d)) (b + n - 1 + 1)) (Int.toNat (24 + p)) d) (Int.toNat (32 + p)) ((v + 10000 - 1) / 10000)))) :
    PW G X 5 (pw_E G X PQ 0 0) 0 0 96 [some (.inr 134), some (.inl d), some (.inl p), some (.inl v), some (.inl (b + n - 1 + 1))] [] (ph_rowI hw 135 sl) := by
  have u8 : ∀ (s : Nat → Int) (a : Int) (x : Int), 24 ≤ a → s (Int.toNat (8 + p)) = b → (up s (Int.toNat a) x) (Int.toNat (8 + p)) = b := fun s a x ha hs => (if_neg (by omega)).trans hs
  generalize hs1 : up sl (Int.toNat (296 + d)) (r1 (Int.toNat (b + n - 1))) = s1 at hq
  have l1 : s1 (Int.toNat (8 + p)) = b := by rw [← hs1]; exact u8 sl _ _ (by omega) lo
  generalize hs2 : up s1 (Int.toNat (300 + d)) (r2 (Int.toNat (b + n - 1))) = s2 at hq
  have l2 : s2 (Int.toNat (8 + p)) = b := by rw [← hs2]; exact u8 s1 _ _ (by omega) l1
  have x1 : ph_setI (ph_rowI hw 135 sl) 135 (Int.toNat (296 + d)) (r1 (Int.toNat (b + n - 1))) = ph_rowI hw 135 s1 := by rw [ph_row_set, ← hs1]; rfl
  have x2 : ph_setI (ph_rowI hw 135 s1) 135 (Int.toNat (300 + d)) (r2 (Int.toNat (b + n - 1))) = ph_rowI hw 135 s2 := by rw [ph_row_set, ← hs2]; rfl
  obtain ⟨⟨mt0, mr0, mr1, mr2, mr3, mr8, mr9, mr10⟩, ⟨mt1, mt2, mt3, mt4, mt5, mt6, mt7⟩, ⟨ml1, ml2, ml3, ml4, ml5, ml6, ml7⟩⟩ := (show MF (ph_rowI hw 135 sl) from hmw)
  refine B_X7_takeBy_96 C (r2 := 135) (r5 := 139) (hM := ct_X7_lastTickV (p := p) (n := n) (v := b) _ _ (ph_rowI hw 135 sl) hmw e5 e6 lo p0) (kk := fun rr h' hq => ?_)
  obtain ⟨rfl, rfl⟩ := hq
  refine B_X7_takeBy_113 C (r13 := 135) (r16 := 140) (x5 := r1 (Int.toNat (b + n - 1))) (e6 := e9 _) (PQ := pqI (b + n - 1) (ph_rowI hw 135 s1)) (hM := by rw [x1]; exact ct_X7_lastTickV (p := p) (n := n) (v := b) _ _ (ph_rowI hw 135 s1) hmw e5 e6 l1 p0) (kk := fun rr h' hq => ?_)
  obtain ⟨rfl, rfl⟩ := hq
  obtain ⟨⟨mt0, mr0, mr1, mr2, mr3, mr8, mr9, mr10⟩, ⟨mt1, mt2, mt3, mt4, mt5, mt6, mt7⟩, ⟨ml1, ml2, ml3, ml4, ml5, ml6, ml7⟩⟩ := (show MF (ph_rowI hw 135 s1) from hmw)
  refine B_X7_takeBy_132 C (r13 := 135) (x5 := r2 (Int.toNat (b + n - 1))) (e6 := e10 _) (PQ := pqI (b + n - 1) (ph_rowI hw 135 s2)) (hM := by rw [x2]; exact ct_X7_lastTickV (p := p) (n := n) (v := b) _ _ (ph_rowI hw 135 s2) hmw e5 e6 l2 p0) (kk := fun rr h' hq => ?_)
  obtain ⟨rfl, rfl⟩ := hq
  obtain ⟨⟨mt0, mr0, mr1, mr2, mr3, mr8, mr9, mr10⟩, ⟨mt1, mt2, mt3, mt4, mt5, mt6, mt7⟩, ⟨ml1, ml2, ml3, ml4, ml5, ml6, ml7⟩⟩ := (show MF (ph_rowI hw 135 s2) from hmw)
  refine B_X7_takeBy_147 C (r7 := 135) (r15 := 135) (hM := ct_X7_seenOf _ _ _) (kk := fun rr h' hq => ?_)
  obtain ⟨rfl, rfl⟩ := hq
  rw [ph_row_set, ph_row_set]
  generalize hs3 : (fun j => if j = Int.toNat (24 + p) then d else (fun j => if j = Int.toNat (304 + d) then b + n - 1 + 1 else s2 j) j) = s3
  have hs3' : up (up s2 (Int.toNat (304 + d)) (b + n - 1 + 1)) (Int.toNat (24 + p)) d = s3 := hs3
  rw [hs3'] at hq
  obtain ⟨⟨mt0, mr0, mr1, mr2, mr3, mr8, mr9, mr10⟩, ⟨mt1, mt2, mt3, mt4, mt5, mt6, mt7⟩, ⟨ml1, ml2, ml3, ml4, ml5, ml6, ml7⟩⟩ := (show MF (ph_rowI hw 135 s3) from hmw)
  refine B_X7_takeBy_172 C (hM := ct_X7_seenOf _ _ _) (kk := fun rr h' hq => ?_)
  obtain ⟨rfl, rfl⟩ := hq
  rw [ph_row_set]
  exact B_X7_takeBy_177 C (hq := hq)
theorem ct_X7_takeBy (G : Gx) (l : Launch) (h : PH) {d p : Int} (hm : MF h) (hS : OkS (ph_I h 135)) (d0 : 0 ≤ d ∧ d ≤ 3) (p0 : 0 ≤ p ∧ p < ph_I h 135 484) : CT_X7_takeBy G l [.inr 134, .inl d, .inl p] h (pqTake h d p) := by
  obtain ⟨⟨mt0, mr0, mr1, mr2, mr3, mr8, mr9, mr10⟩, ⟨mt1, mt2, mt3, mt4, mt5, mt6, mt7⟩, ⟨ml1, ml2, ml3, ml4, ml5, ml6, ml7⟩⟩ := id hm
  obtain ⟨s1, s2, s3, s4, s5⟩ := id hS
  obtain ⟨g1, g2, g3, g4, g5⟩ := s4 d d0.1 d0.2
  obtain ⟨g6, g7⟩ := s5 p p0.1 p0.2
  have p1 : 0 ≤ p ∧ p ≤ 7 := by omega
  have hfm := sLay_form (st := ph_I h 135) (d := d) (p := p) (f := 0) (n := (ph_I h 135 (Int.toNat (16 + p)))) g2 g3.1 g6.2 g7.2
  have hbd : -1000000 ≤ sLay (ph_I h 135) d p 0 (ph_I h 135 (Int.toNat (16 + p))) ∧ sLay (ph_I h 135) d p 0 (ph_I h 135 (Int.toNat (16 + p))) ≤ 800000 := by
    rcases hfm with h | ⟨s, q, e, a1, a2, a3, a4⟩ <;> omega
  refine ct_intro rfl (Nat.le_of_ble_eq_true rfl) (fun X hX C => ?_)
  refine B_X7_takeBy_0 C (hM := ct_X7_layAll _ _ _ hm hS d0 p0) (kk := fun rr h' hq => ?_)
  obtain ⟨rfl, row, rfl, hF⟩ := hq
  refine B_X7_takeBy_6 C (kt := fun c1 => ?_) (kf := fun c1 => ?_)
  · have hlo : -9999 ≤ sLay (ph_I h 135) d p 0 (ph_I h 135 (Int.toNat (16 + p))) := by
      rcases hfm with h | ⟨s, q, e, a1, a2, a3, a4⟩
      · exact absurd h c1
      · omega
    clear hfm
    obtain ⟨n1, fl, -⟩ := Liv_start c1
    refine B_X7_takeBy_16 C (t1 := hm.1.1) (hM := ct_X7_walk (d := d) (p := p) (f := 0) (n := (ph_I h 135 (Int.toNat (16 + p)))) _ _ (ph_rowI (layH h d p 0 (ph_I h 135 (Int.toNat (16 + p)))) 138 row) hm s1 s2 rfl rfl rfl rfl d0 g1 g2 g3 g4 g5 p1 (by omega) g7 g6 (hF n1) c1) (kk := fun rr h' hq => ?_)
    obtain ⟨rfl, r1, r2, r3, rfl, w1, w2, w3, w4⟩ := hq
    have hP : PathW (ph_I h 135) d p 0 (ph_I h 135 (Int.toNat (16 + p))) r1 r2 := ⟨w1, w2, w3, fun t a b => (w4 t a b).2⟩
    have hsc : Scr h (WH (ph_rowI (layH h d p 0 (ph_I h 135 (Int.toNat (16 + p)))) 138 row) r1 r2 r3) := (Scr.lay h d p 0 _ row).wk r1 r2 r3
    have w4 : ∀ t : Int, (ph_I h 135 (Int.toNat (304 + d))) ≤ t → t ≤ (ph_I h 135 (Int.toNat (8 + p)) + (ph_I h 135 (Int.toNat (16 + p))) - 1) → r3 (Int.toNat t) = bitS (ph_I h 135) p 0 (ph_I h 135 (Int.toNat (16 + p))) t (r1 (Int.toNat t)) (r2 (Int.toNat t)) ∧ zabs (r1 (Int.toNat t)) ≤ (ph_I h 135 (Int.toNat (308 + d))) ∧ 0 ≤ r2 (Int.toNat t) ∧ r2 (Int.toNat t) ≤ 6 := w4
    have hmw : MF (WH (ph_rowI (layH h d p 0 (ph_I h 135 (Int.toNat (16 + p)))) 138 row) r1 r2 r3) := hm
    have y5 : ph_I (WH (ph_rowI (layH h d p 0 (ph_I h 135 (Int.toNat (16 + p)))) 138 row) r1 r2 r3) 134 5 = p := rfl
    have y6 : ph_I (WH (ph_rowI (layH h d p 0 (ph_I h 135 (Int.toNat (16 + p)))) 138 row) r1 r2 r3) 134 6 = (ph_I h 135 (Int.toNat (16 + p))) := rfl
    have y9 : ∀ j, ph_I (WH (ph_rowI (layH h d p 0 (ph_I h 135 (Int.toNat (16 + p)))) 138 row) r1 r2 r3) 139 j = r1 j := fun j => rfl
    have y10 : ∀ j, ph_I (WH (ph_rowI (layH h d p 0 (ph_I h 135 (Int.toNat (16 + p)))) 138 row) r1 r2 r3) 140 j = r2 j := fun j => rfl
    have y11 : ∀ j, ph_I (WH (ph_rowI (layH h d p 0 (ph_I h 135 (Int.toNat (16 + p)))) 138 row) r1 r2 r3) 141 j = r3 j := fun j => rfl
    have y12 : ph_I (WH (ph_rowI (layH h d p 0 (ph_I h 135 (Int.toNat (16 + p)))) 138 row) r1 r2 r3) 135 = ph_I h 135 := rfl
    generalize (WH (ph_rowI (layH h d p 0 (ph_I h 135 (Int.toNat (16 + p)))) 138 row) r1 r2 r3) = hw at hsc hmw y5 y6 y9 y10 y11 y12 ⊢
    have eW : hw = ph_rowI hw 135 (ph_I h 135) := by rw [← y12]; exact (ph_row_id hw 135).symm
    have hr : ∀ t : Int, (ph_I h 135 (Int.toNat (304 + d))) ≤ t → t ≤ (ph_I h 135 (Int.toNat (8 + p)) + (ph_I h 135 (Int.toNat (16 + p))) - 1) → r3 (Int.toNat t) = bitS (ph_I h 135) p 0 (ph_I h 135 (Int.toNat (16 + p))) t (r1 (Int.toNat t)) (r2 (Int.toNat t)) ∧ (-36 ≤ r1 (Int.toNat t) ∧ r1 (Int.toNat t) ≤ 36) ∧ 0 ≤ r2 (Int.toNat t) ∧ r2 (Int.toNat t) ≤ 6 := fun t a b => by
      obtain ⟨z1, z2, z3, z4⟩ := w4 t a b
      unfold zabs at z2
      exact ⟨z1, by omega, z3, z4⟩
    obtain ⟨⟨xt0, xr0, xr1, xr2, xr3, xr8, xr9, xr10⟩, ⟨xt1, xt2, xt3, xt4, xt5, xt6, xt7⟩, ⟨xl1, xl2, xl3, xl4, xl5, xl6, xl7⟩⟩ := id hmw
    refine B_X7_takeBy_21 C (r2 := 135) (x8 := (ph_I h 135 (Int.toNat (304 + d)))) (e9 := by rw [y12]) (kk := ?_)
    have key := lp_X7_takeBy (X := X) (Q := pw_E G X (pqTake h d p) 0 0) (v := sLay (ph_I h 135) d p 0 (ph_I h 135 (Int.toNat (16 + p)))) (st := ph_I h 135) C hmw y5 y6 y9 y10 y11 rfl d0 p1 g7 g3 g6 fl hr ?_ (Int.toNat ((ph_I h 135 (Int.toNat (8 + p)) + (ph_I h 135 (Int.toNat (16 + p))) - 1) + 1 - (ph_I h 135 (Int.toNat (304 + d))))) 0 (by omega)
    · have e0 : (ph_I h 135 (Int.toNat (304 + d))) + ((0 : Nat) : Int) = (ph_I h 135 (Int.toNat (304 + d))) := by omega
      rw [e0] at key
      rw [eW]
      exact key
    · refine lp_X7_takeFin (st := ph_I h 135) C hmw y5 y6 y9 y10 y11 rfl d0 p1 g7 g3 g6 fl hr (sLk_lo _ (fun i hi => (hr ((ph_I h 135 (Int.toNat (304 + d))) + i) (by omega) (by omega)).2.2.1) _ (by omega)) ⟨hlo, hbd.2⟩ ?_
      exact Or.inr ⟨c1, rfl, r1, r2, hw, hP, hsc, rfl⟩
  · exact B_X7_takeBy_13 C (hq := Or.inl ⟨c1, rfl, Scr.lay h d p 0 _ row⟩)
