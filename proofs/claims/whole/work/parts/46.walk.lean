/-! contracts of the reference: walk -/
theorem ph_ext {h h' : PH} (h1 : h.1 = h'.1) (h2 : h.2.1 = h'.2.1) (h3 : h.2.2.1 = h'.2.2.1) (h4 : ∀ c k, ph_I h c k = ph_I h' c k) (h5 : h.2.2.2.2 = h'.2.2.2.2) : h = h' := by
  obtain ⟨a, b, c, d, e⟩ := h
  obtain ⟨a', b', c', d', e'⟩ := h'
  have h6 : d = d' := by funext c k; exact h4 c k
  simp only at h1 h2 h3 h5
  rw [h1, h2, h3, h5, h6]
def WH (h : PH) (r1 r2 r3 : Nat → Int) : PH := ph_rowI (ph_rowI (ph_rowI h 139 r1) 140 r2) 141 r3
def up (r : Nat → Int) (k : Nat) (v : Int) : Nat → Int := fun j => if j = k then v else r j
theorem WH_1 (h : PH) (r1 r2 r3 : Nat → Int) (k : Nat) (v : Int) : ph_setI (WH h r1 r2 r3) 139 k v = WH h (up r1 k v) r2 r3 := ph_ext rfl rfl rfl (fun c j => by simp only [ph_I, ph_setI, WH, ph_rowI, up]; grind) rfl
theorem WH_2 (h : PH) (r1 r2 r3 : Nat → Int) (k : Nat) (v : Int) : ph_setI (WH h r1 r2 r3) 140 k v = WH h r1 (up r2 k v) r3 := ph_ext rfl rfl rfl (fun c j => by simp only [ph_I, ph_setI, WH, ph_rowI, up]; grind) rfl
theorem WH_3 (h : PH) (r1 r2 r3 : Nat → Int) (k : Nat) (v : Int) : ph_setI (WH h r1 r2 r3) 141 k v = WH h r1 r2 (up r3 k v) := ph_ext rfl rfl rfl (fun c j => by simp only [ph_I, ph_setI, WH, ph_rowI, up]; grind) rfl
theorem WH_id (h : PH) : WH h (ph_I h 139) (ph_I h 140) (ph_I h 141) = h := ph_ext rfl rfl rfl (fun c j => by simp only [ph_I, WH, ph_rowI]; grind) rfl
/-- one tick of THE WAY -/
def StpW (st : ST) (d p f n t w hh w' h' : Int) : Prop :=
  ∃ i j : Nat, Fst (sG st d (bt st d p f n (st (Int.toNat (8 + p)) + n - 1) (Int.toNat (st (Int.toNat (8 + p)) + n - 1 - t - 1))) w hh) (st (Int.toNat (312 + d))) (sMost st d (bt st d p f n (st (Int.toNat (8 + p)) + n - 1) (Int.toNat (st (Int.toNat (8 + p)) + n - 1 - t - 1))) w hh) i j ∧ w' = w - st (Int.toNat (312 + d)) + i ∧ h' = hh - 1 + j
def Liv (st : ST) (d p f n t w hh left : Int) : Prop :=
  (t = st (Int.toNat (8 + p)) + n - 1 ∧ left = sOwn st p f n t w hh) ∨ (t < st (Int.toNat (8 + p)) + n - 1 ∧ sMost st d (bt st d p f n (st (Int.toNat (8 + p)) + n - 1) (Int.toNat (st (Int.toNat (8 + p)) + n - 1 - t - 1))) w hh ≠ -1000000 ∧ left = sMost st d (bt st d p f n (st (Int.toNat (8 + p)) + n - 1) (Int.toNat (st (Int.toNat (8 + p)) + n - 1 - t - 1))) w hh + sOwn st p f n t w hh)
def bitS (st : ST) (p f n t w hh : Int) : Int := if sS st p f n t w hh = true then 1 else 0
theorem Liv_start {st : ST} {d p f n : Int} (h : sLay st d p f n ≠ -1000000) : n ≠ 0 ∧ st (Int.toNat (304 + d)) ≤ st (Int.toNat (8 + p)) + n - 1 ∧ Liv st d p f n (st (Int.toNat (304 + d))) (st (Int.toNat (296 + d))) (st (Int.toNat (300 + d))) (sLay st d p f n) := by
  unfold sLay at h ⊢
  by_cases q : n = 0 ∨ st (Int.toNat (8 + p)) + n - 1 < st (Int.toNat (304 + d))
  · rw [if_pos q] at h; exact absurd rfl h
  · rw [if_neg q] at h ⊢
    refine ⟨fun z => q (Or.inl z), by omega, ?_⟩
    by_cases q2 : st (Int.toNat (304 + d)) = st (Int.toNat (8 + p)) + n - 1
    · rw [if_pos q2]; exact Or.inl ⟨q2, rfl⟩
    · rw [if_neg q2] at h ⊢
      unfold sFrom at h ⊢
      split at h
      · exact absurd rfl h
      · next q3 => rw [if_neg q3]; exact Or.inr ⟨by omega, q3, rfl⟩
theorem Liv_next {st : ST} {d p f n t w hh : Int} (ht : t ≤ st (Int.toNat (8 + p)) + n - 1) (h : bt st d p f n (st (Int.toNat (8 + p)) + n - 1) (Int.toNat (st (Int.toNat (8 + p)) + n - 1 - t)) w hh ≠ -1000000) : Liv st d p f n t w hh (bt st d p f n (st (Int.toNat (8 + p)) + n - 1) (Int.toNat (st (Int.toNat (8 + p)) + n - 1 - t)) w hh) := by
  by_cases q : t = st (Int.toNat (8 + p)) + n - 1
  · have e : Int.toNat (st (Int.toNat (8 + p)) + n - 1 - t) = 0 := by omega
    rw [e, bt_z] at h ⊢
    by_cases q2 : sM st (st (Int.toNat (8 + p)) + n - 1) w hh = true ∧ -36 ≤ w ∧ w ≤ 36 ∧ 0 ≤ hh ∧ hh ≤ 6
    · rw [if_pos q2, ← q]; exact Or.inl ⟨q, rfl⟩
    · rw [if_neg q2] at h; exact absurd rfl h
  · have e : Int.toNat (st (Int.toNat (8 + p)) + n - 1 - t) = Int.toNat (st (Int.toNat (8 + p)) + n - 1 - t - 1) + 1 := by omega
    have e2 : st (Int.toNat (8 + p)) + n - 1 - (((Int.toNat (st (Int.toNat (8 + p)) + n - 1 - t - 1) : Nat) : Int) + 1) = t := by omega
    rw [e, bt_s, e2] at h ⊢
    by_cases q2 : sM st t w hh = true ∧ -36 ≤ w ∧ w ≤ 36 ∧ 0 ≤ hh ∧ hh ≤ 6
    · rw [if_pos q2] at h ⊢
      unfold sFrom at h ⊢
      split at h
      · exact absurd rfl h
      · next q3 => rw [if_neg q3]; exact Or.inr ⟨by omega, q3, rfl⟩
    · rw [if_neg q2] at h; exact absurd rfl h
theorem sGo_live {st : ST} {d w hh w' h' : Int} {bst : Int → Int → Int} (h : sGo st d bst w hh w' h' ≠ -1000000) : zabs w' ≤ st (Int.toNat (308 + d)) ∧ 0 ≤ h' ∧ h' ≤ 6 ∧ bst w' h' ≠ -1000000 ∧ sGo st d bst w hh w' h' = bst w' h' - zabs (w' - w) - zabs (h' - hh) := by
  unfold sGo at h ⊢
  split at h
  · exact absurd rfl h
  · next q =>
    split at h
    · exact absurd rfl h
    · next q2 =>
      have q1 : ¬ st (Int.toNat (308 + d)) < zabs w' := fun z => q (Or.inl z)
      have q3 : 0 ≤ h' ∧ h' ≤ 6 := Classical.byContradiction fun z => q (Or.inr z)
      rw [if_neg q, if_neg q2]
      exact ⟨by omega, q3.1, q3.2, q2, rfl⟩
def pqWalk (h : PH) (d p f n : Int) : Option PV → PH → Prop := fun r h' => r = none ∧ ∃ r1 r2 r3 : Nat → Int, h' = WH h r1 r2 r3 ∧ r1 (Int.toNat (ph_I h 135 (Int.toNat (304 + d)))) = ph_I h 135 (Int.toNat (296 + d)) ∧ r2 (Int.toNat (ph_I h 135 (Int.toNat (304 + d)))) = ph_I h 135 (Int.toNat (300 + d)) ∧
  (∀ t : Int, ph_I h 135 (Int.toNat (304 + d)) ≤ t → t < ph_I h 135 (Int.toNat (8 + p)) + n - 1 → StpW (ph_I h 135) d p f n t (r1 (Int.toNat t)) (r2 (Int.toNat t)) (r1 (Int.toNat (t + 1))) (r2 (Int.toNat (t + 1)))) ∧
  ∀ t : Int, ph_I h 135 (Int.toNat (304 + d)) ≤ t → t ≤ ph_I h 135 (Int.toNat (8 + p)) + n - 1 → r3 (Int.toNat t) = bitS (ph_I h 135) p f n t (r1 (Int.toNat t)) (r2 (Int.toNat t)) ∧ zabs (r1 (Int.toNat t)) ≤ ph_I h 135 (Int.toNat (308 + d)) ∧ 0 ≤ r2 (Int.toNat t) ∧ r2 (Int.toNat t) ≤ 6
theorem lp_X7_walk {G : Gx} {X : Cx} {h : PH} {d p f n val : Int} (C : CX_X7_walk G X) (hm : MF h) (hs : okSky (ph_I h 135)) (hb : ∀ j, pR (ph_I h 135 j)) (hd : ph_I h 134 4 = d) (hp : ph_I h 134 5 = p) (hn : ph_I h 134 6 = n) (hf : ph_I h 134 7 = f) (d0 : 0 ≤ d ∧ d ≤ 3) (l0 : 12 ≤ ph_I h 135 (Int.toNat (308 + d)) ∧ ph_I h 135 (Int.toNat (308 + d)) ≤ 36) (sp0 : 1 ≤ ph_I h 135 (Int.toNat (312 + d)) ∧ ph_I h 135 (Int.toNat (312 + d)) ≤ 3) (fr0 : 0 ≤ ph_I h 135 (Int.toNat (304 + d)) ∧ ph_I h 135 (Int.toNat (304 + d)) ≤ 79) (wi0 : zabs (ph_I h 135 (Int.toNat (296 + d))) ≤ ph_I h 135 (Int.toNat (308 + d))) (he0 : 0 ≤ ph_I h 135 (Int.toNat (300 + d)) ∧ ph_I h 135 (Int.toNat (300 + d)) ≤ 6) (p0 : 0 ≤ p ∧ p ≤ 7) (f0 : 0 ≤ f ∧ f ≤ 16) (n0 : 0 ≤ n ∧ n ≤ 16) (b0 : 0 ≤ ph_I h 135 (Int.toNat (8 + p)) ∧ ph_I h 135 (Int.toNat (8 + p)) ≤ 60) (hF : Fill (ph_I h 135) d p f n (ph_I h 135 (Int.toNat (8 + p)) + n - 1) (ph_I h 135 (Int.toNat (308 + d))) (ph_I h 138) (ph_I h 135 (Int.toNat (304 + d))) (-1000) 0) :
    ∀ (m : Nat) (t : Int) (r1 r2 r3 : Nat → Int) (left : Int), t + m = (ph_I h 135 (Int.toNat (8 + p)) + n - 1) + 1 → (ph_I h 135 (Int.toNat (304 + d))) ≤ t → (i1 : r1 (Int.toNat (ph_I h 135 (Int.toNat (304 + d)))) = ph_I h 135 (Int.toNat (296 + d))) → (i2 : r2 (Int.toNat (ph_I h 135 (Int.toNat (304 + d)))) = ph_I h 135 (Int.toNat (300 + d))) → (i3 : ∀ u : Int, (ph_I h 135 (Int.toNat (304 + d))) ≤ u → u < t → u < (ph_I h 135 (Int.toNat (8 + p)) + n - 1) → StpW (ph_I h 135) d p f n u (r1 (Int.toNat u)) (r2 (Int.toNat u)) (r1 (Int.toNat (u + 1))) (r2 (Int.toNat (u + 1)))) → (i4 : ∀ u : Int, (ph_I h 135 (Int.toNat (304 + d))) ≤ u → u < t → u ≤ (ph_I h 135 (Int.toNat (8 + p)) + n - 1) → r3 (Int.toNat u) = bitS (ph_I h 135) p f n u (r1 (Int.toNat u)) (r2 (Int.toNat u))) → (i5 : ∀ u : Int, (ph_I h 135 (Int.toNat (304 + d))) ≤ u → u ≤ t → u ≤ (ph_I h 135 (Int.toNat (8 + p)) + n - 1) → zabs (r1 (Int.toNat u)) ≤ (ph_I h 135 (Int.toNat (308 + d))) ∧ 0 ≤ r2 (Int.toNat u) ∧ r2 (Int.toNat u) ≤ 6) → (i6 : t ≤ (ph_I h 135 (Int.toNat (8 + p)) + n - 1) → Liv (ph_I h 135) d p f n t (r1 (Int.toNat t)) (r2 (Int.toNat t)) left) → PW G X 4 (pw_E G X (pqWalk h d p f n) 0 0) 0 0 54 [some (.inr 134), some (.inl val), some (.inl t), some (.inl left)] [] (WH h r1 r2 r3) := by
  intro m
  induction m with
  | zero =>
    intro t r1 r2 r3 left ht ht2 i1 i2 i3 i4 i5 i6
    obtain ⟨⟨tt0, q0, q1, q2, q3, q8, q9, q10⟩, ⟨t1, t2, t3, t4, t5, t6, t7⟩, ⟨l1, l2, l3, l4, l5, l6, l7⟩⟩ := (show MF (WH h r1 r2 r3) from hm)
    refine B_X7_walk_54 C (hM := ct_X7_lastTick (p := p) (n := n) _ _ _ hm hp hn) (kk := fun rr h' hq => ?_)
    obtain ⟨rfl, rfl⟩ := hq
    refine B_X7_walk_59 C (s0 := (ph_I h 135 (Int.toNat (8 + p)) + n - 1)) (kt := fun c1 => ?_) (kf := fun c1 => by omega)
    exact B_X7_walk_164 C (hq := ⟨rfl, r1, r2, r3, rfl, i1, i2, fun u a b => i3 u a (by omega) b, fun u a b => ⟨i4 u a (by omega) b, i5 u a (by omega) b⟩⟩)
  | succ m ih =>
    intro t r1 r2 r3 left ht ht2 i1 i2 i3 i4 i5 i6
    obtain ⟨⟨tt0, q0, q1, q2, q3, q8, q9, q10⟩, ⟨t1, t2, t3, t4, t5, t6, t7⟩, ⟨l1, l2, l3, l4, l5, l6, l7⟩⟩ := (show MF (WH h r1 r2 r3) from hm)
    have w5 := i5 t ht2 (by omega) (by omega)
    have wz : -36 ≤ r1 (Int.toNat t) ∧ r1 (Int.toNat t) ≤ 36 := by have := w5.1; unfold zabs at this; omega
    have hL := i6 (by omega)
    refine B_X7_walk_54 C (hM := ct_X7_lastTick (p := p) (n := n) _ _ _ hm hp hn) (kk := fun rr h' hq => ?_)
    obtain ⟨rfl, rfl⟩ := hq
    refine B_X7_walk_59 C (s0 := (ph_I h 135 (Int.toNat (8 + p)) + n - 1)) (kt := fun c1 => by omega) (kf := fun c1 => ?_)
    refine B_X7_walk_62 C (x11 := r1 (Int.toNat t)) (e12 := rfl) (x20 := r2 (Int.toNat t)) (e21 := rfl) (hM := ct_X7_sees (p := p) (f := f) (n := n) _ _ _ hm hs hb hp hn hf (b0 := b0)) (kk := fun rr h' hq => ?_)
    have v0 : ∀ i j, -1100088 ≤ sG (ph_I h 135) d (bt (ph_I h 135) d p f n (ph_I h 135 (Int.toNat (8 + p)) + n - 1) (Int.toNat ((ph_I h 135 (Int.toNat (8 + p)) + n - 1) - t - 1))) (r1 (Int.toNat t)) (r2 (Int.toNat t)) i j ∧ sG (ph_I h 135) d (bt (ph_I h 135) d p f n (ph_I h 135 (Int.toNat (8 + p)) + n - 1) (Int.toNat ((ph_I h 135 (Int.toNat (8 + p)) + n - 1) - t - 1))) (r1 (Int.toNat t)) (r2 (Int.toNat t)) i j ≤ 1000000 := fun i j => by
      have := sGo_b (st := ph_I h 135) (d := d) (w := r1 (Int.toNat t)) (hh := r2 (Int.toNat t)) (w' := r1 (Int.toNat t) - ph_I h 135 (Int.toNat (312 + d)) + i) (h' := r2 (Int.toNat t) - 1 + j) (bst := (bt (ph_I h 135) d p f n (ph_I h 135 (Int.toNat (8 + p)) + n - 1) (Int.toNat ((ph_I h 135 (Int.toNat (8 + p)) + n - 1) - t - 1)))) (lo := -1100000) (hi := 1000000) (fun a b => by have := bt_b (st := ph_I h 135) (d := d) (p := p) (f := f) (n := n) (last := (ph_I h 135 (Int.toNat (8 + p)) + n - 1)) l0.2 (Int.toNat ((ph_I h 135 (Int.toNat (8 + p)) + n - 1) - t - 1)) a b; omega) (by omega) (by omega) l0.2 wz ⟨w5.2.1, w5.2.2⟩
      unfold sG
      omega
    have v1 : -1100088 ≤ sMost (ph_I h 135) d (bt (ph_I h 135) d p f n (ph_I h 135 (Int.toNat (8 + p)) + n - 1) (Int.toNat ((ph_I h 135 (Int.toNat (8 + p)) + n - 1) - t - 1))) (r1 (Int.toNat t)) (r2 (Int.toNat t)) ∧ sMost (ph_I h 135) d (bt (ph_I h 135) d p f n (ph_I h 135 (Int.toNat (8 + p)) + n - 1) (Int.toNat ((ph_I h 135 (Int.toNat (8 + p)) + n - 1) - t - 1))) (r1 (Int.toNat t)) (r2 (Int.toNat t)) ≤ 1000000 := sMo_b v0 (by omega) (by omega) _
    have ow : 0 ≤ sOwn (ph_I h 135) p f n t (r1 (Int.toNat t)) (r2 (Int.toNat t)) ∧ sOwn (ph_I h 135) p f n t (r1 (Int.toNat t)) (r2 (Int.toNat t)) ≤ 10000 := by unfold sOwn; split <;> omega
    have lb : -1200000 ≤ left ∧ left ≤ 1100000 := by rcases hL with ⟨a, b⟩ | ⟨a, b, c⟩ <;> omega
    have key : ∀ ov : Int, ov = sOwn (ph_I h 135) p f n t (r1 (Int.toNat t)) (r2 (Int.toNat t)) → PW G X 4 (pw_E G X (pqWalk h d p f n) 0 0) 0 0 102 [some (.inr 134), some (.inl val), some (.inl t), some (.inl left)] [.inl ov, .inl left] (WH h r1 r2 (up r3 (Int.toNat t) (bitS (ph_I h 135) p f n t (r1 (Int.toNat t)) (r2 (Int.toNat t))))) := by
      intro ov hl1
      obtain ⟨left1, hleft⟩ : ∃ left1, left1 = left - ov := ⟨_, rfl⟩
      have j4 : ∀ u : Int, (ph_I h 135 (Int.toNat (304 + d))) ≤ u → u < t + 1 → u ≤ (ph_I h 135 (Int.toNat (8 + p)) + n - 1) → (up r3 (Int.toNat t) (bitS (ph_I h 135) p f n t (r1 (Int.toNat t)) (r2 (Int.toNat t)))) (Int.toNat u) = bitS (ph_I h 135) p f n u (r1 (Int.toNat u)) (r2 (Int.toNat u)) := by
        intro u a b c
        unfold up
        by_cases q : u = t
        · subst q; simp
        · rw [if_neg (by omega)]
          exact i4 u a (by omega) c
      refine B_X7_walk_102 C (hM := ct_X7_lastTick (p := p) (n := n) _ _ _ hm hp hn) (kk := fun rr h' hq => ?_)
      obtain ⟨rfl, rfl⟩ := hq
      rw [← hleft]
      refine B_X7_walk_109 C (s0 := (ph_I h 135 (Int.toNat (8 + p)) + n - 1)) (kt := fun c2 => ?_) (kf := fun c2 => ?_)
      · refine B_X7_walk_158 C (kk := ?_)
        exact ih (t + 1) r1 r2 _ left1 (by omega) (by omega) i1 i2 (fun u a b c => i3 u a (by omega) c) j4 (fun u a b c => i5 u a (by omega) c) (fun q => by omega)
      · have c3 : t < (ph_I h 135 (Int.toNat (8 + p)) + n - 1) := by omega
        have hL2 : sMost (ph_I h 135) d (bt (ph_I h 135) d p f n (ph_I h 135 (Int.toNat (8 + p)) + n - 1) (Int.toNat ((ph_I h 135 (Int.toNat (8 + p)) + n - 1) - t - 1))) (r1 (Int.toNat t)) (r2 (Int.toNat t)) ≠ -1000000 ∧ left = sMost (ph_I h 135) d (bt (ph_I h 135) d p f n (ph_I h 135 (Int.toNat (8 + p)) + n - 1) (Int.toNat ((ph_I h 135 (Int.toNat (8 + p)) + n - 1) - t - 1))) (r1 (Int.toNat t)) (r2 (Int.toNat t)) + sOwn (ph_I h 135) p f n t (r1 (Int.toNat t)) (r2 (Int.toNat t)) := by
          rcases hL with ⟨a, b⟩ | ⟨a, b, c⟩
          · omega
          · exact ⟨b, c⟩
        have hdue : left1 = sMost (ph_I h 135) d (bt (ph_I h 135) d p f n (ph_I h 135 (Int.toNat (8 + p)) + n - 1) (Int.toNat ((ph_I h 135 (Int.toNat (8 + p)) + n - 1) - t - 1))) (r1 (Int.toNat t)) (r2 (Int.toNat t)) := by omega
        have hex : ∃ i j : Nat, (i : Int) ≤ 2 * ph_I h 135 (Int.toNat (312 + d)) ∧ j < 3 ∧ sG (ph_I h 135) d (bt (ph_I h 135) d p f n (ph_I h 135 (Int.toNat (8 + p)) + n - 1) (Int.toNat ((ph_I h 135 (Int.toNat (8 + p)) + n - 1) - t - 1))) (r1 (Int.toNat t)) (r2 (Int.toNat t)) i j = left1 := by
          rcases sMo_att (sG (ph_I h 135) d (bt (ph_I h 135) d p f n (ph_I h 135 (Int.toNat (8 + p)) + n - 1) (Int.toNat ((ph_I h 135 (Int.toNat (8 + p)) + n - 1) - t - 1))) (r1 (Int.toNat t)) (r2 (Int.toNat t))) (Int.toNat (2 * ph_I h 135 (Int.toNat (312 + d)) + 1)) with z | ⟨i, j, z1, z2, z3⟩
          · exact absurd z hL2.1
          · exact ⟨i, j, by omega, z2, z3.trans hdue.symm⟩
        refine B_X7_walk_112 C (hM := ct_X7_stepFrom (d := d) (p := p) (f := f) (n := n) (w := r1 (Int.toNat t)) (hh := r2 (Int.toNat t)) (bst := (bt (ph_I h 135) d p f n (ph_I h 135 (Int.toNat (8 + p)) + n - 1) (Int.toNat ((ph_I h 135 (Int.toNat (8 + p)) + n - 1) - t - 1)))) _ _ (WH h r1 r2 _) hm hs hb hd hp hn hf d0 l0 sp0 p0 f0 n0 b0 (by omega) wz ⟨w5.2.1, w5.2.2⟩ (fun a b => by have := bt_b (st := ph_I h 135) (d := d) (p := p) (f := f) (n := n) (last := (ph_I h 135 (Int.toNat (8 + p)) + n - 1)) l0.2 (Int.toNat ((ph_I h 135 (Int.toNat (8 + p)) + n - 1) - t - 1)) a b; omega) (fun a b z1 z2 z3 => ?_) (by unfold pR; omega) rfl rfl hex) (kk := fun rr h' hq => ?_)
        · have := hF (t + 1) a b z1 z2 z3 (by omega) (by omega)
          have e : (ph_I h 135 (Int.toNat (8 + p)) + n - 1) - (t + 1) = (ph_I h 135 (Int.toNat (8 + p)) + n - 1) - t - 1 := by omega
          rw [e] at this
          exact this
        · obtain ⟨rfl, i, j, hfst, rfl⟩ := hq
          rw [WH_1, WH_2]
          have hg := hfst.2.2.1
          have hlv := sGo_live (st := ph_I h 135) (d := d) (w := r1 (Int.toNat t)) (hh := r2 (Int.toNat t)) (w' := r1 (Int.toNat t) - ph_I h 135 (Int.toNat (312 + d)) + i) (h' := r2 (Int.toNat t) - 1 + j) (bst := (bt (ph_I h 135) d p f n (ph_I h 135 (Int.toNat (8 + p)) + n - 1) (Int.toNat ((ph_I h 135 (Int.toNat (8 + p)) + n - 1) - t - 1)))) (by rw [show sGo (ph_I h 135) d (bt (ph_I h 135) d p f n (ph_I h 135 (Int.toNat (8 + p)) + n - 1) (Int.toNat ((ph_I h 135 (Int.toNat (8 + p)) + n - 1) - t - 1))) (r1 (Int.toNat t)) (r2 (Int.toNat t)) (r1 (Int.toNat t) - ph_I h 135 (Int.toNat (312 + d)) + i) (r2 (Int.toNat t) - 1 + j) = left1 from hg, hdue]; exact hL2.1)
          have hval : sGo (ph_I h 135) d (bt (ph_I h 135) d p f n (ph_I h 135 (Int.toNat (8 + p)) + n - 1) (Int.toNat ((ph_I h 135 (Int.toNat (8 + p)) + n - 1) - t - 1))) (r1 (Int.toNat t)) (r2 (Int.toNat t)) (r1 (Int.toNat t) - ph_I h 135 (Int.toNat (312 + d)) + i) (r2 (Int.toNat t) - 1 + j) = left1 := hg
          obtain ⟨w', hw'⟩ : ∃ w', w' = r1 (Int.toNat t) - ph_I h 135 (Int.toNat (312 + d)) + i := ⟨_, rfl⟩
          obtain ⟨h', hh'⟩ : ∃ h', h' = r2 (Int.toNat t) - 1 + j := ⟨_, rfl⟩
          rw [show ph_I (WH h r1 r2 (up r3 (Int.toNat t) (bitS (ph_I h 135) p f n t (r1 (Int.toNat t)) (r2 (Int.toNat t))))) 135 = ph_I h 135 from rfl]
          rw [← hw', ← hh'] at hlv hval ⊢
          have hwz : -36 ≤ w' ∧ w' ≤ 36 := by have := hlv.1; unfold zabs at this; omega
          have zz1 : 0 ≤ zabs (w' - r1 (Int.toNat t)) ∧ zabs (w' - r1 (Int.toNat t)) ≤ 80 := by unfold zabs; omega
          have zz2 : 0 ≤ zabs (h' - r2 (Int.toNat t)) ∧ zabs (h' - r2 (Int.toNat t)) ≤ 8 := by unfold zabs; omega
          have u1 : ∀ u : Int, 0 ≤ u → u ≤ t → up r1 (Int.toNat (t + 1)) w' (Int.toNat u) = r1 (Int.toNat u) := fun u a b => if_neg (by omega)
          have u2 : ∀ u : Int, 0 ≤ u → u ≤ t → up r2 (Int.toNat (t + 1)) h' (Int.toNat u) = r2 (Int.toNat u) := fun u a b => if_neg (by omega)
          have u3 : up r1 (Int.toNat (t + 1)) w' (Int.toNat (t + 1)) = w' := if_pos rfl
          have u4 : up r2 (Int.toNat (t + 1)) h' (Int.toNat (t + 1)) = h' := if_pos rfl
          obtain ⟨⟨tt0, q0, q1, q2, q3, q8, q9, q10⟩, ⟨t1, t2, t3, t4, t5, t6, t7⟩, ⟨l1, l2, l3, l4, l5, l6, l7⟩⟩ := (show MF (WH h (up r1 (Int.toNat (t + 1)) w') (up r2 (Int.toNat (t + 1)) h') (up r3 (Int.toNat t) (bitS (ph_I h 135) p f n t (r1 (Int.toNat t)) (r2 (Int.toNat t))))) from hm)
          refine B_X7_walk_118 C (r2 := 139) (r11 := 139) (x8 := w') (e9 := u3) (x17 := r1 (Int.toNat t)) (e18 := u1 t (by omega) (by omega)) (hM := ct_X7_size _ _ _) (kk := fun rr h'' hq => ?_)
          obtain ⟨rfl, rfl⟩ := hq
          refine B_X7_walk_137 C (r2 := 140) (r11 := 140) (x8 := h') (e9 := u4) (x17 := r2 (Int.toNat t)) (e18 := u2 t (by omega) (by omega)) (hM := ct_X7_size _ _ _) (kk := fun rr h'' hq => ?_)
          obtain ⟨rfl, rfl⟩ := hq
          refine B_X7_walk_155 C (kk := ?_)
          refine B_X7_walk_158 C (kk := ?_)
          have hbt : (bt (ph_I h 135) d p f n (ph_I h 135 (Int.toNat (8 + p)) + n - 1) (Int.toNat ((ph_I h 135 (Int.toNat (8 + p)) + n - 1) - t - 1))) w' h' = left1 + (zabs (w' - r1 (Int.toNat t)) + zabs (h' - r2 (Int.toNat t))) := by have := hlv.2.2.2.2; omega
          refine ih (t + 1) _ _ _ _ (by omega) (by omega) ?_ ?_ (fun u a b c => ?_) (fun u a b c => ?_) (fun u a b c => ?_) (fun q => ?_)
          · rw [u1 _ (by omega) (by omega)]; exact i1
          · rw [u2 _ (by omega) (by omega)]; exact i2
          · by_cases q : u = t
            · subst q
              rw [u1 u (by omega) (by omega), u2 u (by omega) (by omega), u3, u4]
              refine ⟨i, j, ?_, hw', hh'⟩
              rw [← hdue]
              exact hfst
            · rw [u1 u (by omega) (by omega), u2 u (by omega) (by omega), u1 (u + 1) (by omega) (by omega), u2 (u + 1) (by omega) (by omega)]
              exact i3 u a (by omega) c
          · rw [u1 u (by omega) (by omega), u2 u (by omega) (by omega)]
            exact j4 u a b c
          · by_cases q : u = t + 1
            · subst q
              rw [u3, u4]
              exact ⟨hlv.1, hlv.2.1, hlv.2.2.1⟩
            · rw [u1 u (by omega) (by omega), u2 u (by omega) (by omega)]
              exact i5 u a (by omega) c
          · rw [u3, u4, ← hbt]
            have e : (ph_I h 135 (Int.toNat (8 + p)) + n - 1) - t - 1 = (ph_I h 135 (Int.toNat (8 + p)) + n - 1) - (t + 1) := by omega
            have hne := hlv.2.2.2.1
            rw [e] at hne ⊢
            exact Liv_next q hne
    obtain ⟨rfl, ⟨rfl, c2⟩ | ⟨rfl, c2⟩⟩ := hq
    · have c2' : sS (ph_I h 135) p f n t (r1 (Int.toNat t)) (r2 (Int.toNat t)) = true := c2
      have e1 : bitS (ph_I h 135) p f n t (r1 (Int.toNat t)) (r2 (Int.toNat t)) = 1 := by unfold bitS; rw [if_pos c2']
      have e2 : sOwn (ph_I h 135) p f n t (r1 (Int.toNat t)) (r2 (Int.toNat t)) = 10000 := by unfold sOwn; rw [if_pos c2']
      have k2 := key 10000 e2.symm
      rw [e1, ← WH_3] at k2
      refine B_X7_walk_84 C (x13 := 1) (e14 := by simp [ph_I, ph_setI]) (kt := fun c3 => absurd c3 (by decide)) (kf := fun c3 => ?_)
      exact B_X7_walk_95 C (kk := k2)
    · have c2' : ¬ sS (ph_I h 135) p f n t (r1 (Int.toNat t)) (r2 (Int.toNat t)) = true := c2
      have e1 : bitS (ph_I h 135) p f n t (r1 (Int.toNat t)) (r2 (Int.toNat t)) = 0 := by unfold bitS; rw [if_neg c2']
      have e2 : sOwn (ph_I h 135) p f n t (r1 (Int.toNat t)) (r2 (Int.toNat t)) = 0 := by unfold sOwn; rw [if_neg c2']
      have k2 := key 0 e2.symm
      rw [e1, ← WH_3] at k2
      refine B_X7_walk_84 C (x13 := 0) (e14 := by simp [ph_I, ph_setI]) (kt := fun c3 => ?_) (kf := fun c3 => absurd rfl c3)
      exact B_X7_walk_101 C (kk := k2)
theorem ct_X7_walk (G : Gx) (l : Launch) (h : PH) {d p f n : Int} (hm : MF h) (hs : okSky (ph_I h 135)) (hb : ∀ j, pR (ph_I h 135 j)) (hd : ph_I h 134 4 = d) (hp : ph_I h 134 5 = p) (hn : ph_I h 134 6 = n) (hf : ph_I h 134 7 = f) (d0 : 0 ≤ d ∧ d ≤ 3) (l0 : 12 ≤ ph_I h 135 (Int.toNat (308 + d)) ∧ ph_I h 135 (Int.toNat (308 + d)) ≤ 36) (sp0 : 1 ≤ ph_I h 135 (Int.toNat (312 + d)) ∧ ph_I h 135 (Int.toNat (312 + d)) ≤ 3) (fr0 : 0 ≤ ph_I h 135 (Int.toNat (304 + d)) ∧ ph_I h 135 (Int.toNat (304 + d)) ≤ 79) (wi0 : zabs (ph_I h 135 (Int.toNat (296 + d))) ≤ ph_I h 135 (Int.toNat (308 + d))) (he0 : 0 ≤ ph_I h 135 (Int.toNat (300 + d)) ∧ ph_I h 135 (Int.toNat (300 + d)) ≤ 6) (p0 : 0 ≤ p ∧ p ≤ 7) (f0 : 0 ≤ f ∧ f ≤ 16) (n0 : 0 ≤ n ∧ n ≤ 16) (b0 : 0 ≤ ph_I h 135 (Int.toNat (8 + p)) ∧ ph_I h 135 (Int.toNat (8 + p)) ≤ 60) (hF : Fill (ph_I h 135) d p f n (ph_I h 135 (Int.toNat (8 + p)) + n - 1) (ph_I h 135 (Int.toNat (308 + d))) (ph_I h 138) (ph_I h 135 (Int.toNat (304 + d))) (-1000) 0) (hv : sLay (ph_I h 135) d p f n ≠ -1000000) : CT_X7_walk G l [.inr 134, .inl (sLay (ph_I h 135) d p f n)] h (pqWalk h d p f n) := by
  obtain ⟨⟨tt0, r0, r1, r2, r3, r8, r9, r10⟩, ⟨t1, t2, t3, t4, t5, t6, t7⟩, ⟨l1, l2, l3, l4, l5, l6, l7⟩⟩ := id hm
  refine ct_intro rfl (Nat.le_of_ble_eq_true rfl) (fun X hX C => ?_)
  obtain ⟨n1, fl, hL⟩ := Liv_start hv
  refine B_X7_walk_0 C (x11 := (ph_I h 135 (Int.toNat (304 + d)))) (e12 := rfl) (kk := ?_)
  have u1 : up (ph_I h 139) (Int.toNat (ph_I h 135 (Int.toNat (304 + d)))) (ph_I h 135 (Int.toNat (296 + d))) (Int.toNat (ph_I h 135 (Int.toNat (304 + d)))) = ph_I h 135 (Int.toNat (296 + d)) := if_pos rfl
  have u2 : up (ph_I h 140) (Int.toNat (ph_I h 135 (Int.toNat (304 + d)))) (ph_I h 135 (Int.toNat (300 + d))) (Int.toNat (ph_I h 135 (Int.toNat (304 + d)))) = ph_I h 135 (Int.toNat (300 + d)) := if_pos rfl
  have key := lp_X7_walk (val := sLay (ph_I h 135) d p f n) C hm hs hb hd hp hn hf d0 l0 sp0 fr0 wi0 he0 p0 f0 n0 b0 hF (Int.toNat ((ph_I h 135 (Int.toNat (8 + p)) + n - 1) + 1 - (ph_I h 135 (Int.toNat (304 + d))))) (ph_I h 135 (Int.toNat (304 + d))) (up (ph_I h 139) (Int.toNat (ph_I h 135 (Int.toNat (304 + d)))) (ph_I h 135 (Int.toNat (296 + d)))) (up (ph_I h 140) (Int.toNat (ph_I h 135 (Int.toNat (304 + d)))) (ph_I h 135 (Int.toNat (300 + d)))) (ph_I h 141) (sLay (ph_I h 135) d p f n) (by omega) (by omega) u1 u2 (fun u a b c => by omega) (fun u a b c => by omega) (fun u a b c => ?_) (fun q => ?_)
  · rw [← WH_2, ← WH_1, WH_id] at key
    exact key
  · have e : u = (ph_I h 135 (Int.toNat (304 + d))) := by omega
    subst e
    rw [u1, u2]
    exact ⟨wi0, he0⟩
  · rw [u1, u2]
    exact hL
