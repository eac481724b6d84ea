/-! ways, told by what they see: forth, back, and both against the tables -/
def Fw (st : ST) (d : Int) (bit : Int → Int → Int → Int) : Nat → Int → Int → Int → Prop
  | 0, w, hh, s => w = st (Int.toNat (296 + d)) ∧ hh = st (Int.toNat (300 + d)) ∧ s = bit (st (Int.toNat (304 + d))) w hh
  | r + 1, w, hh, s => (zabs w ≤ st (Int.toNat (308 + d)) ∧ 0 ≤ hh ∧ hh ≤ 6) ∧ sM st (st (Int.toNat (304 + d)) + ((r : Int) + 1)) w hh = true ∧ ∃ w1 h1 s1 : Int, Fw st d bit r w1 h1 s1 ∧ zabs (w - w1) ≤ st (Int.toNat (312 + d)) ∧ zabs (hh - h1) ≤ 1 ∧ s = s1 + bit (st (Int.toNat (304 + d)) + ((r : Int) + 1)) w hh
def Bk (st : ST) (d : Int) (bit : Int → Int → Int → Int) (last : Int) : Nat → Int → Int → Int → Prop
  | 0, w, hh, s => s = bit last w hh
  | r + 1, w, hh, s => ∃ w1 h1 s1 : Int, (zabs w1 ≤ st (Int.toNat (308 + d)) ∧ 0 ≤ h1 ∧ h1 ≤ 6) ∧ sM st (last - r) w1 h1 = true ∧ zabs (w1 - w) ≤ st (Int.toNat (312 + d)) ∧ zabs (h1 - hh) ≤ 1 ∧ Bk st d bit last r w1 h1 s1 ∧ s = s1 + bit (last - ((r : Int) + 1)) w hh
theorem Fw_Bk {st : ST} {d : Int} {bit : Int → Int → Int → Int} {last : Int} : ∀ (r m : Nat) {w hh s1 s2 : Int}, last = st (Int.toNat (304 + d)) + r + m → Fw st d bit r w hh s1 → Bk st d bit last m w hh s2 → Bk st d bit last (r + m) (st (Int.toNat (296 + d))) (st (Int.toNat (300 + d))) (s1 + s2 - bit (st (Int.toNat (304 + d)) + r) w hh)
  | 0, m, w, hh, s1, s2, hl, hf, hb => by
    obtain ⟨rfl, rfl, rfl⟩ := hf
    have e1 : st (Int.toNat (304 + d)) + ((0 : Nat) : Int) = st (Int.toNat (304 + d)) := by omega
    have e2 : 0 + m = m := by omega
    rw [e1, e2]
    have e3 : bit (st (Int.toNat (304 + d))) (st (Int.toNat (296 + d))) (st (Int.toNat (300 + d))) + s2 - bit (st (Int.toNat (304 + d))) (st (Int.toNat (296 + d))) (st (Int.toNat (300 + d))) = s2 := by omega
    rw [e3]
    exact hb
  | r + 1, m, w, hh, s1, s2, hl, hf, hb => by
    obtain ⟨hbd, hm, w1, h1, s0, hf, z1, z2, rfl⟩ := hf
    have e1 : last - (m : Int) = st (Int.toNat (304 + d)) + ((r : Int) + 1) := by omega
    have e2 : last - ((m : Int) + 1) = st (Int.toNat (304 + d)) + (r : Int) := by omega
    have hb1 : Bk st d bit last (m + 1) w1 h1 (s2 + bit (last - ((m : Int) + 1)) w1 h1) := ⟨w, hh, s2, hbd, by rw [e1]; exact hm, z1, z2, hb, rfl⟩
    have := Fw_Bk r (m + 1) (by omega) hf hb1
    have e3 : r + (m + 1) = r + 1 + m := by omega
    rw [e2, e3] at this
    have e4 : ((r + 1 : Nat) : Int) = (r : Int) + 1 := by omega
    rw [e4]
    have e5 : s0 + bit (st (Int.toNat (304 + d)) + ((r : Int) + 1)) w hh + s2 - bit (st (Int.toNat (304 + d)) + ((r : Int) + 1)) w hh = s0 + (s2 + bit (st (Int.toNat (304 + d)) + (r : Int)) w1 h1) - bit (st (Int.toNat (304 + d)) + (r : Int)) w1 h1 := by omega
    rw [e5]
    exact this
theorem Bk_Fw {st : ST} {d : Int} {bit : Int → Int → Int → Int} {last : Int} : ∀ (r m : Nat) {s : Int}, last = st (Int.toNat (304 + d)) + r + m → Bk st d bit last (r + m) (st (Int.toNat (296 + d))) (st (Int.toNat (300 + d))) s → ∃ w hh s1 s2 : Int, Fw st d bit r w hh s1 ∧ Bk st d bit last m w hh s2 ∧ s = s1 + s2 - bit (st (Int.toNat (304 + d)) + r) w hh
  | 0, m, s, hl, hb => by
    have e1 : st (Int.toNat (304 + d)) + ((0 : Nat) : Int) = st (Int.toNat (304 + d)) := by omega
    have e2 : 0 + m = m := by omega
    rw [e2] at hb
    exact ⟨st (Int.toNat (296 + d)), st (Int.toNat (300 + d)), bit (st (Int.toNat (304 + d))) (st (Int.toNat (296 + d))) (st (Int.toNat (300 + d))), s, ⟨rfl, rfl, rfl⟩, hb, by rw [e1]; omega⟩
  | r + 1, m, s, hl, hb => by
    have e3 : r + 1 + m = r + (m + 1) := by omega
    rw [e3] at hb
    obtain ⟨w1, h1, s1, s2, hf, hb2, rfl⟩ := Bk_Fw r (m + 1) (by omega) hb
    obtain ⟨w, hh, s3, hbd, hm, z1, z2, hb3, rfl⟩ := hb2
    have e1 : last - (m : Int) = st (Int.toNat (304 + d)) + ((r : Int) + 1) := by omega
    have e2 : last - ((m : Int) + 1) = st (Int.toNat (304 + d)) + (r : Int) := by omega
    rw [e1] at hm
    rw [e2]
    have e4 : ((r + 1 : Nat) : Int) = (r : Int) + 1 := by omega
    rw [e4]
    exact ⟨w, hh, s1 + bit (st (Int.toNat (304 + d)) + ((r : Int) + 1)) w hh, s3, ⟨hbd, hm, w1, h1, s1, hf, z1, z2, rfl⟩, hb3, by omega⟩
theorem Fw_congr {st : ST} {d : Int} {b1 b2 : Int → Int → Int → Int} : ∀ (r : Nat) {w hh s : Int}, (∀ t w hh : Int, st (Int.toNat (304 + d)) ≤ t → t ≤ st (Int.toNat (304 + d)) + r → b1 t w hh = b2 t w hh) → Fw st d b1 r w hh s → Fw st d b2 r w hh s
  | 0, w, hh, s, he, hf => ⟨hf.1, hf.2.1, by rw [← he _ _ _ (Int.le_refl _) (by omega)]; exact hf.2.2⟩
  | r + 1, w, hh, s, he, hf => by
    obtain ⟨hbd, hm, w1, h1, s1, hf, z1, z2, e⟩ := hf
    refine ⟨hbd, hm, w1, h1, s1, Fw_congr r (fun t w hh a b => he t w hh a (by omega)) hf, z1, z2, ?_⟩
    rw [← he _ _ _ (by omega) (by omega)]
    exact e
theorem Bk_congr {st : ST} {d : Int} {b1 b2 : Int → Int → Int → Int} {last : Int} : ∀ (r : Nat) {w hh s : Int}, (∀ t w hh : Int, last - r ≤ t → t ≤ last → b1 t w hh = b2 t w hh) → Bk st d b1 last r w hh s → Bk st d b2 last r w hh s
  | 0, w, hh, s, he, hf => by
    show s = b2 last w hh
    rw [← he _ _ _ (by omega) (Int.le_refl _)]
    exact hf
  | r + 1, w, hh, s, he, hf => by
    obtain ⟨w1, h1, s1, hbd, hm, z1, z2, hf, e⟩ := hf
    refine ⟨w1, h1, s1, hbd, hm, z1, z2, Bk_congr r (fun t w hh a b => he t w hh (by omega) b) hf, ?_⟩
    rw [← he _ _ _ (by omega) (by omega)]
    exact e
theorem Fw_zero {st : ST} {d : Int} {bit : Int → Int → Int → Int} : ∀ (r : Nat) {w hh s : Int}, (∀ t w hh : Int, st (Int.toNat (304 + d)) ≤ t → t < st (Int.toNat (304 + d)) + r → bit t w hh = 0) → Fw st d bit r w hh s → s = bit (st (Int.toNat (304 + d)) + r) w hh
  | 0, w, hh, s, he, hf => by
    have e1 : st (Int.toNat (304 + d)) + ((0 : Nat) : Int) = st (Int.toNat (304 + d)) := by omega
    rw [e1]
    exact hf.2.2
  | r + 1, w, hh, s, he, hf => by
    obtain ⟨hbd, hm, w1, h1, s1, hf, z1, z2, e⟩ := hf
    have e4 : ((r + 1 : Nat) : Int) = (r : Int) + 1 := by omega
    have := Fw_zero r (fun t w hh a b => he t w hh a (by omega)) hf
    rw [he _ _ _ (by omega) (by omega)] at this
    rw [e4]
    omega
theorem Fw_alive {st : ST} {d : Int} {b1 : Int → Int → Int → Int} (b2 : Int → Int → Int → Int) : ∀ (r : Nat) {w hh s : Int}, Fw st d b1 r w hh s → ∃ s', Fw st d b2 r w hh s'
  | 0, w, hh, s, hf => ⟨_, hf.1, hf.2.1, rfl⟩
  | r + 1, w, hh, s, hf => by
    obtain ⟨hbd, hm, w1, h1, s1, hf, z1, z2, e⟩ := hf
    obtain ⟨s', hf'⟩ := Fw_alive b2 r hf
    exact ⟨_, hbd, hm, w1, h1, s', hf', z1, z2, rfl⟩
theorem Fw_in {st : ST} {d : Int} {bit : Int → Int → Int → Int} (hD : OkD st d) : ∀ (r : Nat) {w hh s : Int}, Fw st d bit r w hh s → (loW st d r ≤ w + st (Int.toNat (308 + d)) ∧ w + st (Int.toNat (308 + d)) ≤ hiW st d r) ∧ zabs w ≤ st (Int.toNat (308 + d)) ∧ 0 ≤ hh ∧ hh ≤ 6
  | 0, w, hh, s, hf => by
    obtain ⟨rfl, rfl, -⟩ := hf
    have hw0 := loW_0 hD
    exact ⟨⟨by show loW st d 0 ≤ _; omega, by show _ ≤ hiW st d 0; omega⟩, hD.2.2.2.1, hD.2.2.2.2⟩
  | r + 1, w, hh, s, hf => by
    obtain ⟨hbd, hm, w1, h1, s1, hf, z1, z2, e⟩ := hf
    have ih := Fw_in hD r hf
    have e4 : ((r + 1 : Nat) : Int) = (r : Int) + 1 := by omega
    have ew : w + st (Int.toNat (308 + d)) - (w1 + st (Int.toNat (308 + d))) = w - w1 := by omega
    have hz := hbd.1
    rw [e4]
    refine ⟨loW_n hD (by omega) ih.1 ?_ (by rw [ew]; exact z1), hbd⟩
    unfold zabs at hz
    split at hz <;> omega
/-- a table's number x tells what is seen at most, K a point, at most Q less -/
def VV (K M Q x : Int) (Pp : Int → Prop) : Prop := (x = -1000000 ∧ ∀ s, ¬ Pp s) ∨ ∃ s q : Int, x = K * s - q ∧ (0 ≤ s ∧ s ≤ M) ∧ (0 ≤ q ∧ q ≤ Q) ∧ Pp s ∧ ∀ s', Pp s' → s' ≤ s
theorem VV.mono {K M Q M' Q' x : Int} {Pp : Int → Prop} (h : VV K M Q x Pp) (h1 : M ≤ M') (h2 : Q ≤ Q') : VV K M' Q' x Pp := by
  rcases h with h | ⟨s, q, a, b, c, e, f⟩
  · exact Or.inl h
  · exact Or.inr ⟨s, q, a, by omega, by omega, e, f⟩
theorem VV.iff {K M Q x : Int} {Pp Pq : Int → Prop} (h : VV K M Q x Pp) (e : ∀ s, Pp s ↔ Pq s) : VV K M Q x Pq := by
  rcases h with ⟨h1, h2⟩ | ⟨s, q, a, b, c, e1, f⟩
  · exact Or.inl ⟨h1, fun s z => h2 s ((e s).mpr z)⟩
  · exact Or.inr ⟨s, q, a, b, c, (e s).mp e1, fun s' z => f s' ((e s').mpr z)⟩
theorem VV.add {K M Q x x' b : Int} {Pp Pq : Int → Prop} (h : VV K M Q x Pp) (hK : K = 10000 ∨ K = 1024) (hM : M ≤ 80) (hQ : Q ≤ 400) (b0 : b = 0 ∨ b = 1) (hx : x' = if x = -1000000 then -1000000 else x + K * b) (e : ∀ s, Pq s ↔ ∃ s1, Pp s1 ∧ s = s1 + b) : VV K (M + 1) Q x' Pq := by
  rcases h with ⟨h1, h2⟩ | ⟨s, q, a, b', c, e1, f⟩
  · left
    rw [if_pos h1] at hx
    exact ⟨hx, fun s z => by obtain ⟨s1, z1, -⟩ := (e s).mp z; exact h2 s1 z1⟩
  · right
    have hne : ¬ x = -1000000 := by rcases hK with rfl | rfl <;> omega
    rw [if_neg hne] at hx
    refine ⟨s + b, q, ?_, by omega, c, (e _).mpr ⟨s, e1, rfl⟩, fun s' z => ?_⟩
    · rcases hK with rfl | rfl <;> rcases b0 with rfl | rfl <;> omega
    · obtain ⟨s1, z1, z2⟩ := (e s').mp z
      have := f s1 z1
      omega
theorem zabs_b {x n : Int} (h : zabs x ≤ n) : -n ≤ x ∧ x ≤ n := by unfold zabs at h; split at h <;> omega
theorem zabs_i {x n : Int} (h : -n ≤ x ∧ x ≤ n) : zabs x ≤ n := by unfold zabs; split <;> omega
theorem sMost_VV {st : ST} {d w hh t1 M Q : Int} {bst : Int → Int → Int} {Pp : Int → Int → Int → Prop} (hD : OkD st d) (hQ : 0 ≤ Q ∧ Q ≤ 396) (hM : M ≤ 80) (hb : ∀ a b : Int, zabs a ≤ st (Int.toNat (308 + d)) → 0 ≤ b → b ≤ 6 → (sM st t1 a b = true → VV 10000 M Q (bst a b) (Pp a b)) ∧ (¬ sM st t1 a b = true → bst a b = -1000000)) : VV 10000 M (Q + 4) (sMost st d bst w hh) (fun s => ∃ w1 h1 : Int, (zabs w1 ≤ st (Int.toNat (308 + d)) ∧ 0 ≤ h1 ∧ h1 ≤ 6) ∧ sM st t1 w1 h1 = true ∧ zabs (w1 - w) ≤ st (Int.toNat (312 + d)) ∧ zabs (h1 - hh) ≤ 1 ∧ Pp w1 h1 s) := by
  have sp := hD.2.1
  have hge := (sMo_ge (sG st d bst w hh) (Int.toNat (2 * st (Int.toNat (312 + d)) + 1))).2
  have low : ∀ (w1 h1 : Int), (zabs w1 ≤ st (Int.toNat (308 + d)) ∧ 0 ≤ h1 ∧ h1 ≤ 6) → zabs (w1 - w) ≤ st (Int.toNat (312 + d)) → zabs (h1 - hh) ≤ 1 → bst w1 h1 ≠ -1000000 → bst w1 h1 - zabs (w1 - w) - zabs (h1 - hh) ≤ sMost st d bst w hh := by
    intro w1 h1 hbd z1 z2 hal
    have y1 := zabs_b z1
    have y2 := zabs_b z2
    have := hge (Int.toNat (w1 - (w - st (Int.toNat (312 + d))))) (Int.toNat (h1 - (hh - 1))) (by omega) (by omega)
    unfold sG at this
    have e1 : w - st (Int.toNat (312 + d)) + ((Int.toNat (w1 - (w - st (Int.toNat (312 + d)))) : Nat) : Int) = w1 := by omega
    have e2 : hh - 1 + ((Int.toNat (h1 - (hh - 1)) : Nat) : Int) = h1 := by omega
    rw [e1, e2, sGo_al hbd.1 hbd.2 hal] at this
    exact this
  by_cases ex : sMost st d bst w hh = -1000000
  · left
    refine ⟨ex, fun s z => ?_⟩
    obtain ⟨w1, h1, hbd, hm, z1, z2, hp⟩ := z
    rcases (hb w1 h1 hbd.1 hbd.2.1 hbd.2.2).1 hm with ⟨-, y⟩ | ⟨s0, q0, y1, y2, y3, y4, y5⟩
    · exact y s hp
    · have := low w1 h1 hbd z1 z2 (by omega)
      omega
  · right
    rcases sMo_att (sG st d bst w hh) (Int.toNat (2 * st (Int.toNat (312 + d)) + 1)) with y | ⟨i, j, hi, hj, y⟩
    · exact absurd y ex
    · have y' : sG st d bst w hh i j = sMost st d bst w hh := y
      have hne : sGo st d bst w hh (w - st (Int.toNat (312 + d)) + i) (hh - 1 + j) ≠ -1000000 := by
        intro z
        unfold sG at y'
        rw [z] at y'
        exact ex y'.symm
      obtain ⟨l1, l2, l3, l4, l5⟩ := sGo_live hne
      unfold sG at y'
      rw [l5] at y'
      have zw : zabs (w - st (Int.toNat (312 + d)) + i - w) ≤ st (Int.toNat (312 + d)) := zabs_i (by omega)
      have zh : zabs (hh - 1 + (j : Int) - hh) ≤ 1 := zabs_i (by omega)
      have n1 := zabs_nn (w - st (Int.toNat (312 + d)) + i - w)
      have n2 := zabs_nn (hh - 1 + (j : Int) - hh)
      by_cases hm : sM st t1 (w - st (Int.toNat (312 + d)) + i) (hh - 1 + j) = true
      · rcases (hb _ _ l1 l2 l3).1 hm with ⟨q, -⟩ | ⟨s0, q0, y1, y2, y3, y4, y5⟩
        · exact absurd q l4
        · refine ⟨s0, q0 + zabs (w - st (Int.toNat (312 + d)) + i - w) + zabs (hh - 1 + (j : Int) - hh), by omega, y2, by omega, ⟨_, _, ⟨l1, l2, l3⟩, hm, zw, zh, y4⟩, fun s' z => ?_⟩
          obtain ⟨w1, h1, hbd, hm1, z1, z2, hp⟩ := z
          rcases (hb w1 h1 hbd.1 hbd.2.1 hbd.2.2).1 hm1 with ⟨-, x⟩ | ⟨s3, q3, x1, x2, x3, x4, x5⟩
          · exact absurd hp (x s')
          · have := low w1 h1 hbd z1 z2 (by omega)
            have := x5 s' hp
            omega
      · exact absurd ((hb _ _ l1 l2 l3).2 hm) l4
theorem sFrom_VV {st : ST} {d p f n t w hh M Q : Int} {bst : Int → Int → Int} {Pp : Int → Int → Int → Prop} (hD : OkD st d) (hQ : 0 ≤ Q ∧ Q ≤ 396) (hM : M ≤ 80) (hb : ∀ a b : Int, zabs a ≤ st (Int.toNat (308 + d)) → 0 ≤ b → b ≤ 6 → (sM st (t + 1) a b = true → VV 10000 M Q (bst a b) (Pp a b)) ∧ (¬ sM st (t + 1) a b = true → bst a b = -1000000)) : VV 10000 (M + 1) (Q + 4) (sFrom st d p f n bst t w hh) (fun s => ∃ w1 h1 s1 : Int, (zabs w1 ≤ st (Int.toNat (308 + d)) ∧ 0 ≤ h1 ∧ h1 ≤ 6) ∧ sM st (t + 1) w1 h1 = true ∧ zabs (w1 - w) ≤ st (Int.toNat (312 + d)) ∧ zabs (h1 - hh) ≤ 1 ∧ Pp w1 h1 s1 ∧ s = s1 + bitS st p f n t w hh) := by
  refine VV.add (b := bitS st p f n t w hh) (sMost_VV hD hQ hM hb (w := w) (hh := hh)) (Or.inl rfl) hM (by omega) (by unfold bitS; split <;> omega) ?_ (fun s => ⟨fun z => ?_, fun z => ?_⟩)
  · unfold sFrom
    have : sOwn st p f n t w hh = 10000 * bitS st p f n t w hh := by unfold sOwn bitS; split <;> omega
    rw [this]
  · obtain ⟨w1, h1, s1, a1, a2, a3, a4, a5, a6⟩ := z
    exact ⟨s1, ⟨w1, h1, a1, a2, a3, a4, a5⟩, a6⟩
  · obtain ⟨s1, ⟨w1, h1, a1, a2, a3, a4, a5⟩, a6⟩ := z
    exact ⟨w1, h1, s1, a1, a2, a3, a4, a5, a6⟩
theorem bt_VV {st : ST} {d p f n last : Int} (hD : OkD st d) : ∀ (r : Nat), r ≤ 79 → ∀ w hh : Int, zabs w ≤ st (Int.toNat (308 + d)) → 0 ≤ hh → hh ≤ 6 → (sM st (last - r) w hh = true → VV 10000 ((r : Int) + 1) (4 * (r : Int)) (bt st d p f n last r w hh) (Bk st d (bitS st p f n) last r w hh)) ∧ (¬ sM st (last - r) w hh = true → bt st d p f n last r w hh = -1000000)
  | 0, _, w, hh, hw, h0, h6 => by
    have hl := hD.1
    have zb := zabs_b hw
    have e0 : last - ((0 : Nat) : Int) = last := by omega
    rw [e0, bt_z]
    refine ⟨fun hm => ?_, fun hm => if_neg (fun z => hm z.1)⟩
    rw [if_pos ⟨hm, by omega, by omega, h0, h6⟩]
    right
    refine ⟨bitS st p f n last w hh, 0, ?_, ?_, by omega, rfl, fun s' z => ?_⟩
    · unfold sOwn bitS; split <;> omega
    · unfold bitS; split <;> omega
    · have z' : s' = bitS st p f n last w hh := z
      omega
  | r + 1, hr, w, hh, hw, h0, h6 => by
    have hl := hD.1
    have zb := zabs_b hw
    have e4 : ((r + 1 : Nat) : Int) = (r : Int) + 1 := by omega
    rw [e4, bt_s]
    refine ⟨fun hm => ?_, fun hm => if_neg (fun z => hm z.1)⟩
    rw [if_pos ⟨hm, by omega, by omega, h0, h6⟩]
    have e5 : last - ((r : Int) + 1) + 1 = last - r := by omega
    have := sFrom_VV (t := last - ((r : Int) + 1)) (w := w) (hh := hh) (p := p) (f := f) (n := n) (bst := bt st d p f n last r) (Pp := Bk st d (bitS st p f n) last r) hD (Q := 4 * (r : Int)) (M := (r : Int) + 1) (by omega) (by omega) (by rw [e5]; exact bt_VV hD r (by omega))
    rw [e5] at this
    exact this.mono (by omega) (by omega)
theorem sLay_VV {st : ST} {d p f n : Int} (hD : OkD st d) (hn : n ≠ 0) (hl : st (Int.toNat (304 + d)) ≤ st (Int.toNat (8 + p)) + n - 1) (h79 : st (Int.toNat (8 + p)) + n - 1 ≤ 79) : VV 10000 81 400 (sLay st d p f n) (Bk st d (bitS st p f n) (st (Int.toNat (8 + p)) + n - 1) (Int.toNat (st (Int.toNat (8 + p)) + n - 1 - st (Int.toNat (304 + d)))) (st (Int.toNat (296 + d))) (st (Int.toNat (300 + d)))) := by
  have fr := hD.2.2.1
  unfold sLay
  rw [if_neg (by omega)]
  by_cases z : st (Int.toNat (304 + d)) = st (Int.toNat (8 + p)) + n - 1
  · rw [if_pos z]
    have e : Int.toNat (st (Int.toNat (8 + p)) + n - 1 - st (Int.toNat (304 + d))) = 0 := by omega
    rw [e]
    right
    refine ⟨bitS st p f n (st (Int.toNat (8 + p)) + n - 1) (st (Int.toNat (296 + d))) (st (Int.toNat (300 + d))), 0, ?_, ?_, by omega, rfl, fun s' u => ?_⟩
    · rw [z]; unfold sOwn bitS; split <;> omega
    · unfold bitS; split <;> omega
    · have u' : s' = bitS st p f n (st (Int.toNat (8 + p)) + n - 1) (st (Int.toNat (296 + d))) (st (Int.toNat (300 + d))) := u
      omega
  · rw [if_neg z]
    have e : Int.toNat (st (Int.toNat (8 + p)) + n - 1 - st (Int.toNat (304 + d))) = Int.toNat (st (Int.toNat (8 + p)) + n - 1 - st (Int.toNat (304 + d)) - 1) + 1 := by omega
    have e2 : st (Int.toNat (8 + p)) + n - 1 - ((Int.toNat (st (Int.toNat (8 + p)) + n - 1 - st (Int.toNat (304 + d)) - 1) : Nat) : Int) = st (Int.toNat (304 + d)) + 1 := by omega
    have e3 : st (Int.toNat (8 + p)) + n - 1 - (((Int.toNat (st (Int.toNat (8 + p)) + n - 1 - st (Int.toNat (304 + d)) - 1) : Nat) : Int) + 1) = st (Int.toNat (304 + d)) := by omega
    rw [e]
    have key := bt_VV (p := p) (f := f) (n := n) (last := st (Int.toNat (8 + p)) + n - 1) hD (Int.toNat (st (Int.toNat (8 + p)) + n - 1 - st (Int.toNat (304 + d)) - 1)) (by omega)
    rw [e2] at key
    have := sFrom_VV (t := st (Int.toNat (304 + d))) (w := st (Int.toNat (296 + d))) (hh := st (Int.toNat (300 + d))) (p := p) (f := f) (n := n) hD (by omega) (by omega) key
    refine (this.mono (by omega) (by omega)).iff (fun s => ?_)
    show _ ↔ ∃ w1 h1 s1 : Int, _
    rw [e2, e3]
theorem sBy_v {st : ST} {d p f n : Int} (hD : OkD st d) (hf : f < n) (hn : n ≠ 0) (hl : st (Int.toNat (304 + d)) ≤ st (Int.toNat (8 + p)) + n - 1) (h79 : st (Int.toNat (8 + p)) + n - 1 ≤ 79) : (sBy st d p f n = 0 ∧ ∀ s, ¬ Bk st d (bitS st p f n) (st (Int.toNat (8 + p)) + n - 1) (Int.toNat (st (Int.toNat (8 + p)) + n - 1 - st (Int.toNat (304 + d)))) (st (Int.toNat (296 + d))) (st (Int.toNat (300 + d))) s) ∨ (Bk st d (bitS st p f n) (st (Int.toNat (8 + p)) + n - 1) (Int.toNat (st (Int.toNat (8 + p)) + n - 1 - st (Int.toNat (304 + d)))) (st (Int.toNat (296 + d))) (st (Int.toNat (300 + d))) (sBy st d p f n) ∧ ∀ s, Bk st d (bitS st p f n) (st (Int.toNat (8 + p)) + n - 1) (Int.toNat (st (Int.toNat (8 + p)) + n - 1 - st (Int.toNat (304 + d)))) (st (Int.toNat (296 + d))) (st (Int.toNat (300 + d))) s → s ≤ sBy st d p f n) := by
  unfold sBy
  rw [if_neg (by omega)]
  rcases sLay_VV (p := p) (f := f) hD hn hl h79 with ⟨z1, z2⟩ | ⟨s, q, z1, z2, z3, z4, z5⟩
  · rw [if_pos z1]; exact Or.inl ⟨rfl, z2⟩
  · rw [if_neg (by omega)]
    have e : (sLay st d p f n + 10000 - 1) / 10000 = s := by omega
    rw [e]
    exact Or.inr ⟨z4, z5⟩
theorem VV.rl {M Q S Q2 x y : Int} {Pp : Int → Prop} (h : VV 10000 M Q x Pp) (hr : RlG S Q2 x y) (hM : M ≤ 81) (hQ : Q ≤ 400) (hQ2 : Q2 ≤ 400) : VV 1024 M Q y Pp := by
  rcases h with ⟨h1, h2⟩ | ⟨s, q, a, b, c, e, f⟩
  · rcases hr with ⟨r1, r2⟩ | ⟨s', q', r1, r2, r3, r4, r5, r6⟩
    · exact Or.inl ⟨r2, h2⟩
    · omega
  · rcases hr with ⟨r1, r2⟩ | ⟨s', q', r1, r2, r3, r4, r5, r6⟩
    · omega
    · exact Or.inr ⟨s, q, by omega, b, c, e, f⟩
/-- what mostSeen tells: the most of the live cells, in points -/
def Msp (In : Int → Int → Prop) (fv cv : Int → Int → Int) (v : Int) : Prop := ∃ most : Int, (v = if most < -500000 then 0 else (most + 1024 - 1) / 1024) ∧ (∀ w hh : Int, In w hh → ¬ fv w hh < -500000 → cv w hh ≤ most) ∧ (most = -1000000 ∨ ∃ w hh : Int, In w hh ∧ ¬ fv w hh < -500000 ∧ cv w hh = most) ∧ -1000000 ≤ most
theorem Msp_v {In : Int → Int → Prop} {fv cv : Int → Int → Int} {v : Int} {Pp : Int → Int → Int → Prop} (h : Msp In fv cv v) (hv : ∀ w hh : Int, In w hh → ¬ fv w hh < -500000 → VV 1024 81 400 (cv w hh) (Pp w hh)) : (v = 0 ∧ ∀ w hh s : Int, In w hh → ¬ fv w hh < -500000 → ¬ Pp w hh s) ∨ (∃ w hh : Int, In w hh ∧ ¬ fv w hh < -500000 ∧ Pp w hh v) ∧ ∀ w hh s : Int, In w hh → ¬ fv w hh < -500000 → Pp w hh s → s ≤ v := by
  obtain ⟨most, h1, h2, h3, h4⟩ := h
  by_cases z : most < -500000
  · left
    rw [if_pos z] at h1
    refine ⟨h1, fun w hh s a b c => ?_⟩
    have := h2 w hh a b
    rcases hv w hh a b with ⟨-, y⟩ | ⟨s0, q, y1, y2, y3, y4, y5⟩
    · exact y s c
    · omega
  · right
    rw [if_neg z] at h1
    rcases h3 with h3 | ⟨w, hh, a, b, c⟩
    · omega
    · rcases hv w hh a b with ⟨y, -⟩ | ⟨s0, q, y1, y2, y3, y4, y5⟩
      · omega
      · have ev : v = s0 := by omega
        refine ⟨⟨w, hh, a, b, by rw [ev]; exact y4⟩, fun w' h' s' a' b' c' => ?_⟩
        have := h2 w' h' a' b'
        rcases hv w' h' a' b' with ⟨-, x⟩ | ⟨s3, q3, x1, x2, x3, x4, x5⟩
        · exact absurd c' (x s')
        · have := x5 s' c'
          omega
