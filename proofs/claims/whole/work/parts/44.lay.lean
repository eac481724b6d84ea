/-! contracts of the reference: lay -/
theorem ph_row_id (h : PH) (c : Nat) : ph_rowI h c (ph_I h c) = h := by
  obtain ⟨a, b, d, e, f⟩ := h
  unfold ph_rowI ph_I
  congr 4
  funext c' k'
  by_cases q : c' = c
  · subst q; simp
  · simp [q]
theorem ph_row_set (h : PH) (c k : Nat) (row : Nat → Int) (v : Int) : ph_setI (ph_rowI h c row) c k v = ph_rowI h c (fun j => if j = k then v else row j) := by
  obtain ⟨a, b, d, e, f⟩ := h
  unfold ph_rowI ph_setI
  congr 4
  funext c' k'
  by_cases q : c' = c
  · subst q; by_cases q2 : k' = k <;> simp [q2]
  · simp [q]
theorem bt_b {st : ST} {d p f n last : Int} (hl : st (Int.toNat (308 + d)) ≤ 36) : ∀ (r : Nat) (a b : Int), -1000000 - 88 * (r : Int) ≤ bt st d p f n last r a b ∧ bt st d p f n last r a b ≤ 10000 * ((r : Int) + 1)
  | 0, a, b => by
    unfold bt
    split
    · unfold sOwn; split <;> omega
    · omega
  | r + 1, a, b => by
    unfold bt
    split
    · next q =>
      have ih := bt_b (st := st) (d := d) (p := p) (f := f) (n := n) (last := last) hl r
      have v0 : ∀ i j, (-1000000 - 88 * (r : Int)) - 88 ≤ sG st d (bt st d p f n last r) a b i j ∧ sG st d (bt st d p f n last r) a b i j ≤ 10000 * ((r : Int) + 1) := fun i j => sGo_b ih (by omega) (by omega) hl ⟨q.2.1, q.2.2.1⟩ ⟨q.2.2.2.1, q.2.2.2.2⟩
      have v1 : (-1000000 - 88 * (r : Int)) - 88 ≤ sMost st d (bt st d p f n last r) a b ∧ sMost st d (bt st d p f n last r) a b ≤ 10000 * ((r : Int) + 1) := sMo_b v0 (by omega) (by omega) _
      unfold sFrom
      split
      · omega
      · have : 0 ≤ sOwn st p f n (last - (r + 1)) a b ∧ sOwn st p f n (last - (r + 1)) a b ≤ 10000 := by unfold sOwn; split <;> omega
        omega
    · omega
/-- what is filled before a place -/
def Fill (st : ST) (d p f n last lim : Int) (row : Nat → Int) (t w hh : Int) : Prop :=
  ∀ t' a b : Int, zabs a ≤ lim → 0 ≤ b → b ≤ 6 → t' ≤ last → (t < t' ∨ (t' = t ∧ (a < w ∨ (a = w ∧ b < hh)))) → row (Int.toNat (511 * t' + (7 * (a + 36) + b))) = bt st d p f n last (Int.toNat (last - t')) a b
def layH (h : PH) (d p f n : Int) : PH := ph_setI (ph_setI (ph_setI (ph_setI h 134 4 d) 134 5 p) 134 6 n) 134 7 f
def pqLay (h : PH) (d p f n : Int) : Option PV → PH → Prop := fun r h' => r = some (.inl (sLay (ph_I h 135) d p f n)) ∧ ∃ row, h' = ph_rowI (layH h d p f n) 138 row ∧
  (n ≠ 0 → Fill (ph_I h 135) d p f n (ph_I h 135 (Int.toNat (8 + p)) + n - 1) (ph_I h 135 (Int.toNat (308 + d))) row (ph_I h 135 (Int.toNat (304 + d))) (-1000) 0)
theorem lp_X7_lay_h {G : Gx} {X : Cx} {h : PH} {Q : State → Prop} {d p f n t w : Int} (C : CX_X7_lay G X) (hm : MF h) (hs : okSky (ph_I h 135)) (hb : ∀ j, pR (ph_I h 135 j)) (d0 : 0 ≤ d ∧ d ≤ 3) (l0 : 12 ≤ ph_I h 135 (Int.toNat (308 + d)) ∧ ph_I h 135 (Int.toNat (308 + d)) ≤ 36) (sp0 : 1 ≤ ph_I h 135 (Int.toNat (312 + d)) ∧ ph_I h 135 (Int.toNat (312 + d)) ≤ 3) (fr0 : 0 ≤ ph_I h 135 (Int.toNat (304 + d)) ∧ ph_I h 135 (Int.toNat (304 + d)) ≤ 79) (wi0 : zabs (ph_I h 135 (Int.toNat (296 + d))) ≤ ph_I h 135 (Int.toNat (308 + d))) (he0 : 0 ≤ ph_I h 135 (Int.toNat (300 + d)) ∧ ph_I h 135 (Int.toNat (300 + d)) ≤ 6) (p0 : 0 ≤ p ∧ p ≤ 7) (f0 : 0 ≤ f ∧ f ≤ 16) (n0 : 0 ≤ n ∧ n ≤ 16) (b0 : 0 ≤ ph_I h 135 (Int.toNat (8 + p)) ∧ ph_I h 135 (Int.toNat (8 + p)) ≤ 60) (t0 : (ph_I h 135 (Int.toNat (304 + d))) < t ∧ t ≤ (ph_I h 135 (Int.toNat (8 + p)) + n - 1)) (w0 : zabs w ≤ (ph_I h 135 (Int.toNat (308 + d))))
    (K : ∀ row, Fill (ph_I h 135) d p f n (ph_I h 135 (Int.toNat (8 + p)) + n - 1) (ph_I h 135 (Int.toNat (308 + d))) row t (w + 1) 0 → PW G X 10 Q 0 0 150 [some (.inr 134), some (.inl d), some (.inl p), some (.inl f), some (.inl n), some (.inl (ph_I h 135 (Int.toNat (304 + d)))), some (.inl (ph_I h 135 (Int.toNat (308 + d)))), some (.inl t), some (.inl w), some (.inl 7)] [] (ph_rowI (layH h d p f n) 138 row)) :
    ∀ (m j : Nat) (row : Nat → Int), j + m = 7 → Fill (ph_I h 135) d p f n (ph_I h 135 (Int.toNat (8 + p)) + n - 1) (ph_I h 135 (Int.toNat (308 + d))) row t w j → PW G X 10 Q 0 0 90 [some (.inr 134), some (.inl d), some (.inl p), some (.inl f), some (.inl n), some (.inl (ph_I h 135 (Int.toNat (304 + d)))), some (.inl (ph_I h 135 (Int.toNat (308 + d)))), some (.inl t), some (.inl w), some (.inl j)] [] (ph_rowI (layH h d p f n) 138 row) := by
  have hm' : ∀ row, MF (ph_rowI (layH h d p f n) 138 row) := fun row => hm
  have wz : -36 ≤ w ∧ w ≤ 36 := by unfold zabs at w0; omega
  intro m
  induction m with
  | zero =>
    intro j row hj hF
    have e : j = 7 := by omega
    subst e
    refine B_X7_lay_90 C (kt := fun c1 => ?_) (kf := fun c1 => by omega)
    refine K row ?_
    intro t' a b h1 h2 h3 h4 h5
    exact hF t' a b h1 h2 h3 h4 (by omega)
  | succ m ih =>
    intro j row hj hF
    obtain ⟨⟨tt0, r0, r1, r2, r3, r8, r9, r10⟩, ⟨t1, t2, t3, t4, t5, t6, t7⟩, ⟨l1, l2, l3, l4, l5, l6, l7⟩⟩ := hm' row
    have step : ∀ v : Int, v = bt (ph_I h 135) d p f n (ph_I h 135 (Int.toNat (8 + p)) + n - 1) (Int.toNat ((ph_I h 135 (Int.toNat (8 + p)) + n - 1) - t)) w j → PW G X 10 Q 0 0 143 [some (.inr 134), some (.inl d), some (.inl p), some (.inl f), some (.inl n), some (.inl (ph_I h 135 (Int.toNat (304 + d)))), some (.inl (ph_I h 135 (Int.toNat (308 + d)))), some (.inl t), some (.inl w), some (.inl j)] [.inl v, .inl (511 * t + (7 * (w + 36) + j)), .inr 138] (ph_rowI (layH h d p f n) 138 row) := by
      intro v hv
      refine B_X7_lay_143 C (kk := ?_)
      rw [ph_row_set]
      have := ih (j + 1) (fun q => if q = Int.toNat (511 * t + (7 * (w + 36) + j)) then v else row q) (by omega) ?_
      · have e : ((j + 1 : Nat) : Int) = (j : Int) + 1 := by omega
        rw [e] at this
        exact this
      · intro t' a b h1 h2 h3 h4 h5
        have az : -36 ≤ a ∧ a ≤ 36 := by unfold zabs at h1; omega
        by_cases q : Int.toNat (511 * t' + (7 * (a + 36) + b)) = Int.toNat (511 * t + (7 * (w + 36) + j))
        · have q1 : t' = t := by omega
          have q2 : a = w := by omega
          have q3 : b = j := by omega
          subst q1; subst q2; subst q3
          simp only [if_true]
          exact hv
        · simp only [if_neg q]
          exact hF t' a b h1 h2 h3 h4 (by omega)
    refine B_X7_lay_90 C (kt := fun c1 => by omega) (kf := fun c1 => ?_)
    refine B_X7_lay_97 C (hM := ct_X7_placeOf _ _ _) (kk := fun rr hh hq => ?_)
    obtain ⟨rfl, rfl⟩ := hq
    refine B_X7_lay_114 C (hM := ct_X7_mayStand _ _ _ (hm' row) hs) (kk := fun rr hh hq => ?_)
    obtain ⟨rfl, ⟨rfl, c2⟩ | ⟨rfl, c2⟩⟩ := hq
    · refine B_X7_lay_125 C (kt := fun c3 => absurd c3 (by decide)) (kf := fun c3 => ?_)
      refine B_X7_lay_128 C (hM := ct_X7_from (bst := bt (ph_I h 135) d p f n (ph_I h 135 (Int.toNat (8 + p)) + n - 1) (Int.toNat ((ph_I h 135 (Int.toNat (8 + p)) + n - 1) - t - 1))) _ _ _ (hm' row) hs hb (d := d) (p := p) (f := f) (n := n) rfl rfl rfl rfl d0 l0 sp0 p0 f0 n0 b0 (by omega) (by omega) (by omega) (fun a b => ?_) t0.2 (fun q a b h1 h2 h3 => ?_)) (kk := fun rr hh hq => ?_)
      · have := bt_b (st := ph_I h 135) (d := d) (p := p) (f := f) (n := n) (last := (ph_I h 135 (Int.toNat (8 + p)) + n - 1)) l0.2 (Int.toNat ((ph_I h 135 (Int.toNat (8 + p)) + n - 1) - t - 1)) a b
        omega
      · have := hF (t + 1) a b h1 h2 h3 q (by omega)
        have e : (ph_I h 135 (Int.toNat (8 + p)) + n - 1) - (t + 1) = (ph_I h 135 (Int.toNat (8 + p)) + n - 1) - t - 1 := by omega
        rw [e] at this
        exact this
      · obtain ⟨rfl, rfl⟩ := hq
        refine B_X7_lay_138 C (kk := ?_)
        refine step _ ?_
        have eI : ph_I (ph_rowI (layH h d p f n) 138 row) 135 = ph_I h 135 := rfl
        rw [eI]
        by_cases q : t = (ph_I h 135 (Int.toNat (8 + p)) + n - 1)
        · have e : Int.toNat ((ph_I h 135 (Int.toNat (8 + p)) + n - 1) - t) = 0 := by omega
          rw [e]
          have c2' : sM (ph_I h 135) t w j = true := c2
          rw [if_pos q]
          rw [bt_z, ← q, if_pos ⟨c2', by omega, by omega, by omega, by omega⟩]
        · have e : Int.toNat ((ph_I h 135 (Int.toNat (8 + p)) + n - 1) - t) = Int.toNat ((ph_I h 135 (Int.toNat (8 + p)) + n - 1) - t - 1) + 1 := by omega
          rw [e]
          have c2' : sM (ph_I h 135) t w j = true := c2
          have e2 : (ph_I h 135 (Int.toNat (8 + p)) + n - 1) - (((Int.toNat ((ph_I h 135 (Int.toNat (8 + p)) + n - 1) - t - 1) : Nat) : Int) + 1) = t := by omega
          rw [if_neg q]
          rw [bt_s, e2, if_pos ⟨c2', by omega, by omega, by omega, by omega⟩]
    · refine B_X7_lay_125 C (kt := fun c3 => ?_) (kf := fun c3 => absurd c3 (by decide))
      refine B_X7_lay_141 C (kk := ?_)
      refine step _ ?_
      have c2' : ¬ sM (ph_I h 135) t w j = true := c2
      by_cases q : t = (ph_I h 135 (Int.toNat (8 + p)) + n - 1)
      · have e : Int.toNat ((ph_I h 135 (Int.toNat (8 + p)) + n - 1) - t) = 0 := by omega
        rw [e]
        rw [bt_z, ← q, if_neg (fun z => c2' z.1)]
      · have e : Int.toNat ((ph_I h 135 (Int.toNat (8 + p)) + n - 1) - t) = Int.toNat ((ph_I h 135 (Int.toNat (8 + p)) + n - 1) - t - 1) + 1 := by omega
        rw [e]
        have e2 : (ph_I h 135 (Int.toNat (8 + p)) + n - 1) - (((Int.toNat ((ph_I h 135 (Int.toNat (8 + p)) + n - 1) - t - 1) : Nat) : Int) + 1) = t := by omega
        rw [bt_s, e2, if_neg (fun z => c2' z.1)]
theorem lp_X7_lay_w {G : Gx} {X : Cx} {h : PH} {Q : State → Prop} {d p f n t : Int} (C : CX_X7_lay G X) (hm : MF h) (hs : okSky (ph_I h 135)) (hb : ∀ j, pR (ph_I h 135 j)) (d0 : 0 ≤ d ∧ d ≤ 3) (l0 : 12 ≤ ph_I h 135 (Int.toNat (308 + d)) ∧ ph_I h 135 (Int.toNat (308 + d)) ≤ 36) (sp0 : 1 ≤ ph_I h 135 (Int.toNat (312 + d)) ∧ ph_I h 135 (Int.toNat (312 + d)) ≤ 3) (fr0 : 0 ≤ ph_I h 135 (Int.toNat (304 + d)) ∧ ph_I h 135 (Int.toNat (304 + d)) ≤ 79) (wi0 : zabs (ph_I h 135 (Int.toNat (296 + d))) ≤ ph_I h 135 (Int.toNat (308 + d))) (he0 : 0 ≤ ph_I h 135 (Int.toNat (300 + d)) ∧ ph_I h 135 (Int.toNat (300 + d)) ≤ 6) (p0 : 0 ≤ p ∧ p ≤ 7) (f0 : 0 ≤ f ∧ f ≤ 16) (n0 : 0 ≤ n ∧ n ≤ 16) (b0 : 0 ≤ ph_I h 135 (Int.toNat (8 + p)) ∧ ph_I h 135 (Int.toNat (8 + p)) ≤ 60) (t0 : (ph_I h 135 (Int.toNat (304 + d))) < t ∧ t ≤ (ph_I h 135 (Int.toNat (8 + p)) + n - 1))
    (K : ∀ row, Fill (ph_I h 135) d p f n (ph_I h 135 (Int.toNat (8 + p)) + n - 1) (ph_I h 135 (Int.toNat (308 + d))) row (t - 1) (-1000) 0 → PW G X 10 Q 0 0 156 [some (.inr 134), some (.inl d), some (.inl p), some (.inl f), some (.inl n), some (.inl (ph_I h 135 (Int.toNat (304 + d)))), some (.inl (ph_I h 135 (Int.toNat (308 + d)))), some (.inl t), some (.inl ((ph_I h 135 (Int.toNat (308 + d))) + 1)), none] [] (ph_rowI (layH h d p f n) 138 row)) :
    ∀ (m : Nat) (w : Int) (row : Nat → Int), w + m = (ph_I h 135 (Int.toNat (308 + d))) + 1 → -(ph_I h 135 (Int.toNat (308 + d))) ≤ w → Fill (ph_I h 135) d p f n (ph_I h 135 (Int.toNat (8 + p)) + n - 1) (ph_I h 135 (Int.toNat (308 + d))) row t w 0 → PW G X 10 Q 0 0 80 [some (.inr 134), some (.inl d), some (.inl p), some (.inl f), some (.inl n), some (.inl (ph_I h 135 (Int.toNat (304 + d)))), some (.inl (ph_I h 135 (Int.toNat (308 + d)))), some (.inl t), some (.inl w), none] [] (ph_rowI (layH h d p f n) 138 row) := by
  intro m
  induction m with
  | zero =>
    intro w row hw hw2 hF
    refine B_X7_lay_80 C (kt := fun c1 => ?_) (kf := fun c1 => by omega)
    have e : w = (ph_I h 135 (Int.toNat (308 + d))) + 1 := by omega
    rw [e]
    refine K row ?_
    intro t' a b h1 h2 h3 h4 h5
    have az : a ≤ (ph_I h 135 (Int.toNat (308 + d))) ∧ -(ph_I h 135 (Int.toNat (308 + d))) ≤ a := by unfold zabs at h1; omega
    exact hF t' a b h1 h2 h3 h4 (by omega)
  | succ m ih =>
    intro w row hw hw2 hF
    refine B_X7_lay_80 C (kt := fun c1 => by omega) (kf := fun c1 => ?_)
    refine B_X7_lay_87 C (kk := ?_)
    refine lp_X7_lay_h C hm hs hb d0 l0 sp0 fr0 wi0 he0 p0 f0 n0 b0 t0 (by unfold zabs; omega) (fun row' hF' => ?_) 7 0 row (by omega) hF
    refine B_X7_lay_150 C (kk := ?_)
    exact ih (w + 1) row' (by omega) (by omega) hF'
theorem lp_X7_lay_t {G : Gx} {X : Cx} {h : PH} {Q : State → Prop} {d p f n : Int} (C : CX_X7_lay G X) (hm : MF h) (hs : okSky (ph_I h 135)) (hb : ∀ j, pR (ph_I h 135 j)) (d0 : 0 ≤ d ∧ d ≤ 3) (l0 : 12 ≤ ph_I h 135 (Int.toNat (308 + d)) ∧ ph_I h 135 (Int.toNat (308 + d)) ≤ 36) (sp0 : 1 ≤ ph_I h 135 (Int.toNat (312 + d)) ∧ ph_I h 135 (Int.toNat (312 + d)) ≤ 3) (fr0 : 0 ≤ ph_I h 135 (Int.toNat (304 + d)) ∧ ph_I h 135 (Int.toNat (304 + d)) ≤ 79) (wi0 : zabs (ph_I h 135 (Int.toNat (296 + d))) ≤ ph_I h 135 (Int.toNat (308 + d))) (he0 : 0 ≤ ph_I h 135 (Int.toNat (300 + d)) ∧ ph_I h 135 (Int.toNat (300 + d)) ≤ 6) (p0 : 0 ≤ p ∧ p ≤ 7) (f0 : 0 ≤ f ∧ f ≤ 16) (n0 : 0 ≤ n ∧ n ≤ 16) (b0 : 0 ≤ ph_I h 135 (Int.toNat (8 + p)) ∧ ph_I h 135 (Int.toNat (8 + p)) ≤ 60)
    (K : ∀ row, Fill (ph_I h 135) d p f n (ph_I h 135 (Int.toNat (8 + p)) + n - 1) (ph_I h 135 (Int.toNat (308 + d))) row (ph_I h 135 (Int.toNat (304 + d))) (-1000) 0 → PW G X 10 Q 0 0 162 [some (.inr 134), some (.inl d), some (.inl p), some (.inl f), some (.inl n), some (.inl (ph_I h 135 (Int.toNat (304 + d)))), some (.inl (ph_I h 135 (Int.toNat (308 + d)))), some (.inl (ph_I h 135 (Int.toNat (304 + d)))), none, none] [] (ph_rowI (layH h d p f n) 138 row)) :
    ∀ (m : Nat) (t : Int) (row : Nat → Int), t = (ph_I h 135 (Int.toNat (304 + d))) + m → t ≤ (ph_I h 135 (Int.toNat (8 + p)) + n - 1) → Fill (ph_I h 135) d p f n (ph_I h 135 (Int.toNat (8 + p)) + n - 1) (ph_I h 135 (Int.toNat (308 + d))) row t (-1000) 0 → PW G X 10 Q 0 0 68 [some (.inr 134), some (.inl d), some (.inl p), some (.inl f), some (.inl n), some (.inl (ph_I h 135 (Int.toNat (304 + d)))), some (.inl (ph_I h 135 (Int.toNat (308 + d)))), some (.inl t), none, none] [] (ph_rowI (layH h d p f n) 138 row) := by
  intro m
  induction m with
  | zero =>
    intro t row ht ht2 hF
    have e : t = (ph_I h 135 (Int.toNat (304 + d))) := by omega
    subst e
    exact B_X7_lay_68 C (kt := fun c1 => K row hF) (kf := fun c1 => by omega)
  | succ m ih =>
    intro t row ht ht2 hF
    refine B_X7_lay_68 C (kt := fun c1 => by omega) (kf := fun c1 => ?_)
    refine B_X7_lay_75 C (kk := ?_)
    refine lp_X7_lay_w C hm hs hb d0 l0 sp0 fr0 wi0 he0 p0 f0 n0 b0 ⟨by omega, ht2⟩ (fun row' hF' => ?_) (Int.toNat (2 * (ph_I h 135 (Int.toNat (308 + d))) + 1)) (-(ph_I h 135 (Int.toNat (308 + d)))) row (by omega) (by omega) ?_
    · refine B_X7_lay_156 C (kk := ?_)
      exact ih (t + (-1)) row' (by omega) (by omega) hF'
    · intro t' a b h1 h2 h3 h4 h5
      have az : a ≤ (ph_I h 135 (Int.toNat (308 + d))) ∧ -(ph_I h 135 (Int.toNat (308 + d))) ≤ a := by unfold zabs at h1; omega
      exact hF t' a b h1 h2 h3 h4 (by omega)
theorem ct_X7_lay (G : Gx) (l : Launch) (h : PH) {d p f n : Int} (hm : MF h) (hs : okSky (ph_I h 135)) (hb : ∀ j, pR (ph_I h 135 j)) (d0 : 0 ≤ d ∧ d ≤ 3) (l0 : 12 ≤ ph_I h 135 (Int.toNat (308 + d)) ∧ ph_I h 135 (Int.toNat (308 + d)) ≤ 36) (sp0 : 1 ≤ ph_I h 135 (Int.toNat (312 + d)) ∧ ph_I h 135 (Int.toNat (312 + d)) ≤ 3) (fr0 : 0 ≤ ph_I h 135 (Int.toNat (304 + d)) ∧ ph_I h 135 (Int.toNat (304 + d)) ≤ 79) (wi0 : zabs (ph_I h 135 (Int.toNat (296 + d))) ≤ ph_I h 135 (Int.toNat (308 + d))) (he0 : 0 ≤ ph_I h 135 (Int.toNat (300 + d)) ∧ ph_I h 135 (Int.toNat (300 + d)) ≤ 6) (p0 : 0 ≤ p ∧ p ≤ 7) (f0 : 0 ≤ f ∧ f ≤ 16) (n0 : 0 ≤ n ∧ n ≤ 16) (b0 : 0 ≤ ph_I h 135 (Int.toNat (8 + p)) ∧ ph_I h 135 (Int.toNat (8 + p)) ≤ 60) : CT_X7_lay G l [.inr 134, .inl d, .inl p, .inl f, .inl n] h (pqLay h d p f n) := by
  obtain ⟨⟨tt0, r0, r1, r2, r3, r8, r9, r10⟩, ⟨t1, t2, t3, t4, t5, t6, t7⟩, ⟨l1, l2, l3, l4, l5, l6, l7⟩⟩ := id hm
  refine ct_intro rfl (Nat.le_of_ble_eq_true rfl) (fun X hX C => ?_)
  have eH : layH h d p f n = ph_rowI (layH h d p f n) 138 (ph_I h 138) := (ph_row_id (layH h d p f n) 138).symm
  refine B_X7_lay_0 C (x12 := (ph_I h 135 (Int.toNat (304 + d)))) (e13 := rfl) (kt := fun c1 => ?_) (kf := fun c1 => ?_)
  · exact B_X7_lay_47 C (hq := ⟨by unfold sLay; rw [if_pos (Or.inl c1)], _, eH, fun z => absurd c1 z⟩)
  · show PW G X 10 _ 0 0 38 _ _ (layH h d p f n)
    obtain ⟨⟨tt0, r0, r1, r2, r3, r8, r9, r10⟩, ⟨t1, t2, t3, t4, t5, t6, t7⟩, ⟨l1, l2, l3, l4, l5, l6, l7⟩⟩ := (show MF (layH h d p f n) from hm)
    refine B_X7_lay_38 C (hM := ct_X7_lastTick (p := p) (n := n) _ _ _ hm rfl rfl) (kk := fun rr h' hq => ?_)
    obtain ⟨rfl, rfl⟩ := hq
    refine B_X7_lay_44 C (s0 := (ph_I h 135 (Int.toNat (8 + p)) + n - 1)) (kt := fun c2 => ?_) (kf := fun c2 => ?_)
    · refine B_X7_lay_50 C (x8 := (ph_I h 135 (Int.toNat (308 + d)))) (e9 := rfl) (hM := ct_X7_lastTick (p := p) (n := n) _ _ _ hm rfl rfl) (kk := fun rr h' hq => ?_)
      obtain ⟨rfl, rfl⟩ := hq
      refine B_X7_lay_66 C (s0 := (ph_I h 135 (Int.toNat (8 + p)) + n - 1)) (kk := ?_)
      have key := lp_X7_lay_t (X := X) (Q := pw_E G X (pqLay h d p f n) 0 0) C hm hs hb d0 l0 sp0 fr0 wi0 he0 p0 f0 n0 b0 (fun row hF => ?_) (Int.toNat ((ph_I h 135 (Int.toNat (8 + p)) + n - 1) - (ph_I h 135 (Int.toNat (304 + d))))) (ph_I h 135 (Int.toNat (8 + p)) + n - 1) (ph_I h 138) (by omega) (by omega) ?_
      · rw [← eH] at key
        exact key
      · obtain ⟨⟨tt0, r0, r1, r2, r3, r8, r9, r10⟩, ⟨t1, t2, t3, t4, t5, t6, t7⟩, ⟨l1, l2, l3, l4, l5, l6, l7⟩⟩ := (show MF (ph_rowI (layH h d p f n) 138 row) from hm)
        refine B_X7_lay_162 C (x8 := ph_I h 135 (Int.toNat (296 + d))) (e9 := rfl) (x17 := ph_I h 135 (Int.toNat (300 + d))) (e18 := rfl) (hM := ct_X7_from (bst := bt (ph_I h 135) d p f n (ph_I h 135 (Int.toNat (8 + p)) + n - 1) (Int.toNat ((ph_I h 135 (Int.toNat (8 + p)) + n - 1) - (ph_I h 135 (Int.toNat (304 + d))) - 1))) _ _ (ph_rowI (layH h d p f n) 138 row) hm hs hb (d := d) (p := p) (f := f) (n := n) rfl rfl rfl rfl d0 l0 sp0 p0 f0 n0 b0 (by omega) (by unfold zabs at wi0; omega) he0 (fun a b => ?_) c2 (fun q a b h1 h2 h3 => ?_)) (kk := fun rr hh hq => ?_)
        · have := bt_b (st := ph_I h 135) (d := d) (p := p) (f := f) (n := n) (last := (ph_I h 135 (Int.toNat (8 + p)) + n - 1)) l0.2 (Int.toNat ((ph_I h 135 (Int.toNat (8 + p)) + n - 1) - (ph_I h 135 (Int.toNat (304 + d))) - 1)) a b
          omega
        · have := hF ((ph_I h 135 (Int.toNat (304 + d))) + 1) a b h1 h2 h3 q (by omega)
          have e : (ph_I h 135 (Int.toNat (8 + p)) + n - 1) - ((ph_I h 135 (Int.toNat (304 + d))) + 1) = (ph_I h 135 (Int.toNat (8 + p)) + n - 1) - (ph_I h 135 (Int.toNat (304 + d))) - 1 := by omega
          rw [e] at this
          exact this
        · obtain ⟨rfl, rfl⟩ := hq
          refine B_X7_lay_188 C (hq := ⟨?_, row, rfl, fun _ => hF⟩)
          have eI : ph_I (ph_rowI (layH h d p f n) 138 row) 135 = ph_I h 135 := rfl
          rw [eI]
          unfold sLay
          rw [if_neg (show ¬ (n = 0 ∨ (ph_I h 135 (Int.toNat (8 + p)) + n - 1) < (ph_I h 135 (Int.toNat (304 + d)))) by omega)]
      · intro t' a b h1 h2 h3 h4 h5
        have az : -36 ≤ a := by unfold zabs at h1; omega
        omega
    · exact B_X7_lay_47 C (hq := ⟨by unfold sLay; rw [if_pos (Or.inr (by omega))], _, eH, fun z t' a b h1 h2 h3 h4 h5 => by
        have az : -36 ≤ a := by unfold zabs at h1; omega
        omega⟩)
