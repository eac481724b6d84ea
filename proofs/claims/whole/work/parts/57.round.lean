/-! the reference: one way alone, what a taking leaves, round -/
theorem sLk_congr {st : ST} {p n free : Int} {r1 r2 s1 s2 : Nat → Int} : ∀ (k : Nat), (∀ i : Nat, i < k → r1 (Int.toNat (free + i)) = s1 (Int.toNat (free + i)) ∧ r2 (Int.toNat (free + i)) = s2 (Int.toNat (free + i))) → sLk st p n free r1 r2 k = sLk st p n free s1 s2 k
  | 0, _ => rfl
  | k + 1, h => by
    have ih := sLk_congr (st := st) (p := p) (n := n) k (fun i hi => h i (by omega))
    have e := h k (by omega)
    unfold sLk
    rw [ih, e.1, e.2]
theorem sTk_uniq {st : ST} {d p : Int} {r1 r2 s1 s2 : Nat → Int} (hl : st (Int.toNat (304 + d)) ≤ st (Int.toNat (8 + p)) + st (Int.toNat (16 + p)) - 1) (a : PathW st d p 0 (st (Int.toNat (16 + p))) r1 r2) (b : PathW st d p 0 (st (Int.toNat (16 + p))) s1 s2) : sTk st d p r1 r2 = sTk st d p s1 s2 := by
  have u := PathW.uniq a b
  have e1 : sLk st p (st (Int.toNat (16 + p))) (st (Int.toNat (304 + d))) r1 r2 (Int.toNat (st (Int.toNat (8 + p)) + st (Int.toNat (16 + p)) - 1 + 1 - st (Int.toNat (304 + d)))) = sLk st p (st (Int.toNat (16 + p))) (st (Int.toNat (304 + d))) s1 s2 (Int.toNat (st (Int.toNat (8 + p)) + st (Int.toNat (16 + p)) - 1 + 1 - st (Int.toNat (304 + d)))) := sLk_congr _ (fun i hi => u i (by omega))
  have e2 := u (Int.toNat (st (Int.toNat (8 + p)) + st (Int.toNat (16 + p)) - 1 - st (Int.toNat (304 + d)))) (by omega)
  have e3 : st (Int.toNat (304 + d)) + (Int.toNat (st (Int.toNat (8 + p)) + st (Int.toNat (16 + p)) - 1 - st (Int.toNat (304 + d))) : Int) = st (Int.toNat (8 + p)) + st (Int.toNat (16 + p)) - 1 := by omega
  rw [e3] at e2
  unfold sTk
  rw [e1, e2.1, e2.2]
def LkB (st : ST) (B : Int) : Prop := ∀ j : Nat, 316 ≤ j → j < 484 → 0 ≤ st j ∧ st j ≤ B
theorem sLk_b {st : ST} {p n free : Int} {r1 r2 : Nat → Int} : ∀ (k : Nat), (∀ i : Nat, i < k → 0 ≤ r2 (Int.toNat (free + i)) ∧ r2 (Int.toNat (free + i)) ≤ 6) → ∀ j, ((j < 316 ∨ 484 ≤ j) → sLk st p n free r1 r2 k j = st j) ∧ st j ≤ sLk st p n free r1 r2 k j ∧ sLk st p n free r1 r2 k j ≤ st j + k
  | 0, _, j => ⟨fun _ => rfl, Int.le_refl _, by show st j ≤ st j + ((0 : Nat) : Int); omega⟩
  | k + 1, h, j => by
    have ih := sLk_b (st := st) (p := p) (n := n) (free := free) (r1 := r1) (r2 := r2) k (fun i hi => h i (by omega)) j
    have e := h k (by omega)
    have hb : 0 ≤ bitS st p 0 n (free + k) (r1 (Int.toNat (free + k))) (r2 (Int.toNat (free + k))) ∧ bitS st p 0 n (free + k) (r1 (Int.toNat (free + k))) (r2 (Int.toNat (free + k))) ≤ 1 := by unfold bitS; split <;> omega
    unfold sLk up
    by_cases q : j = Int.toNat ((316 + (7 * ((r1 (Int.toNat (free + k)) + 48) % 24))) + r2 (Int.toNat (free + k)))
    · rw [if_pos q, ← q]
      refine ⟨fun z => by omega, by omega, by omega⟩
    · rw [if_neg q]
      exact ⟨ih.1, ih.2.1, by omega⟩
/-- what a taking leaves of the row -/
theorem sTk_j {st : ST} {d p : Int} {r1 r2 : Nat → Int} (j : Nat) : sTk st d p r1 r2 j = if j = Int.toNat (32 + p) then (sLay st d p 0 (st (Int.toNat (16 + p))) + 10000 - 1) / 10000 else if j = Int.toNat (24 + p) then d else if j = Int.toNat (304 + d) then st (Int.toNat (8 + p)) + st (Int.toNat (16 + p)) - 1 + 1 else if j = Int.toNat (300 + d) then r2 (Int.toNat (st (Int.toNat (8 + p)) + st (Int.toNat (16 + p)) - 1)) else if j = Int.toNat (296 + d) then r1 (Int.toNat (st (Int.toNat (8 + p)) + st (Int.toNat (16 + p)) - 1)) else sLk st p (st (Int.toNat (16 + p))) (st (Int.toNat (304 + d))) r1 r2 (Int.toNat (st (Int.toNat (8 + p)) + st (Int.toNat (16 + p)) - 1 + 1 - st (Int.toNat (304 + d)))) j := rfl
theorem OkS_take {st : ST} {d p B : Int} {r1 r2 : Nat → Int} (hS : OkS st) (hB : LkB st B) (B0 : B ≤ 1000000000) (d0 : 0 ≤ d ∧ d ≤ 3) (p0 : 0 ≤ p ∧ p < st 484) (hl : st (Int.toNat (304 + d)) ≤ st (Int.toNat (8 + p)) + st (Int.toNat (16 + p)) - 1) (a : PathW st d p 0 (st (Int.toNat (16 + p))) r1 r2) : OkS (sTk st d p r1 r2) ∧ LkB (sTk st d p r1 r2) (B + 80) ∧ (∀ j : Nat, j < 24 → sTk st d p r1 r2 j = st j) ∧ sTk st d p r1 r2 484 = st 484 := by
  obtain ⟨hs, hb, hmany, hD, hPp⟩ := id hS
  obtain ⟨g1, g2, g3, g4, g5⟩ := hD d d0.1 d0.2
  obtain ⟨g6, g7⟩ := hPp p p0.1 p0.2
  have hfm := sLay_form (st := st) (d := d) (p := p) (f := 0) (n := st (Int.toNat (16 + p))) g2 g3.1 g6.2 g7.2
  have hv : -100 ≤ (sLay st d p 0 (st (Int.toNat (16 + p))) + 10000 - 1) / 10000 ∧ (sLay st d p 0 (st (Int.toNat (16 + p))) + 10000 - 1) / 10000 ≤ 80 := by
    rcases hfm with z | ⟨s, q2, e, a1, a2, a3, a4⟩
    · rw [z]; decide
    · omega
  have hr : ∀ i : Nat, i < Int.toNat (st (Int.toNat (8 + p)) + st (Int.toNat (16 + p)) - 1 + 1 - st (Int.toNat (304 + d))) → 0 ≤ r2 (Int.toNat (st (Int.toNat (304 + d)) + i)) ∧ r2 (Int.toNat (st (Int.toNat (304 + d)) + i)) ≤ 6 := fun i hi => (a.2.2.2 _ (by omega) (by omega)).2
  have hk := sLk_b (st := st) (p := p) (n := st (Int.toNat (16 + p))) (free := st (Int.toNat (304 + d))) (r1 := r1) (r2 := r2) _ hr
  have hl2 := a.2.2.2 (st (Int.toNat (8 + p)) + st (Int.toNat (16 + p)) - 1) hl (by omega)
  clear hfm
  have lo : ∀ j : Nat, j < 24 → sTk st d p r1 r2 j = st j := fun j hj => by
    rw [sTk_j, if_neg (by omega), if_neg (by omega), if_neg (by omega), if_neg (by omega), if_neg (by omega)]
    exact (hk j).1 (by omega)
  have hi : ∀ j : Nat, 308 ≤ j → (j < 316 ∨ 484 ≤ j) → sTk st d p r1 r2 j = st j := fun j hj hj2 => by
    rw [sTk_j, if_neg (by omega), if_neg (by omega), if_neg (by omega), if_neg (by omega), if_neg (by omega)]
    exact (hk j).1 (by omega)
  have mid : ∀ j : Nat, 316 ≤ j → j < 484 → st j ≤ sTk st d p r1 r2 j ∧ sTk st d p r1 r2 j ≤ st j + 80 := fun j hj hj2 => by
    rw [sTk_j, if_neg (by omega), if_neg (by omega), if_neg (by omega), if_neg (by omega), if_neg (by omega)]
    have := (hk j).2
    omega
  have hB2 : LkB (sTk st d p r1 r2) (B + 80) := fun j h1 h2 => by
    have := mid j h1 h2
    have := hB j h1 h2
    omega
  refine ⟨⟨?_, ?_, ?_, ?_, ?_⟩, hB2, lo, hi 484 (by omega) (by omega)⟩
  · unfold okSky at *
    rw [hi 485 (by omega) (by omega), hi 486 (by omega) (by omega), hi 487 (by omega) (by omega), hi 488 (by omega) (by omega), hi 489 (by omega) (by omega), hi 490 (by omega) (by omega), hi 491 (by omega) (by omega)]
    exact hs
  · intro j
    by_cases q : 316 ≤ j ∧ j < 484
    · have := hB2 j q.1 q.2
      unfold pR; omega
    · rw [sTk_j]
      have h36 : -36 ≤ r1 (Int.toNat (st (Int.toNat (8 + p)) + st (Int.toNat (16 + p)) - 1)) ∧ r1 (Int.toNat (st (Int.toNat (8 + p)) + st (Int.toNat (16 + p)) - 1)) ≤ 36 := by have := hl2.1; unfold zabs at this; split at this <;> omega
      have hlk := (hk j).1 (by omega)
      split
      · unfold pR; omega
      · split
        · unfold pR; omega
        · split
          · unfold pR; omega
          · split
            · unfold pR; omega
            · split
              · unfold pR; omega
              · rw [hlk]; exact hb j
  · rw [hi 484 (by omega) (by omega)]; exact hmany
  · intro d' x1 x2
    obtain ⟨k1, k2, k3, k4, k5⟩ := hD d' x1 x2
    have e1 := hi (Int.toNat (308 + d')) (by omega) (by omega)
    have e2 := hi (Int.toNat (312 + d')) (by omega) (by omega)
    unfold OkD
    rw [e1, e2]
    by_cases q : d' = d
    · subst q
      have e3 : sTk st d' p r1 r2 (Int.toNat (304 + d')) = st (Int.toNat (8 + p)) + st (Int.toNat (16 + p)) - 1 + 1 := by rw [sTk_j, if_neg (by omega), if_neg (by omega), if_pos rfl]
      have e4 : sTk st d' p r1 r2 (Int.toNat (300 + d')) = r2 (Int.toNat (st (Int.toNat (8 + p)) + st (Int.toNat (16 + p)) - 1)) := by rw [sTk_j, if_neg (by omega), if_neg (by omega), if_neg (by omega), if_pos rfl]
      have e5 : sTk st d' p r1 r2 (Int.toNat (296 + d')) = r1 (Int.toNat (st (Int.toNat (8 + p)) + st (Int.toNat (16 + p)) - 1)) := by rw [sTk_j, if_neg (by omega), if_neg (by omega), if_neg (by omega), if_neg (by omega), if_pos rfl]
      rw [e3, e4, e5]
      exact ⟨k1, k2, ⟨by omega, by omega⟩, hl2.1, hl2.2⟩
    · have e : ∀ j : Nat, j = Int.toNat (296 + d') ∨ j = Int.toNat (300 + d') ∨ j = Int.toNat (304 + d') → sTk st d p r1 r2 j = st j := fun j hj => by
        rw [sTk_j, if_neg (by omega), if_neg (by omega), if_neg (by omega), if_neg (by omega), if_neg (by omega)]
        exact (hk j).1 (by omega)
      rw [e _ (Or.inl rfl), e _ (Or.inr (Or.inl rfl)), e _ (Or.inr (Or.inr rfl))]
      exact ⟨k1, k2, k3, k4, k5⟩
  · intro p' x1 x2
    rw [hi 484 (by omega) (by omega)] at x2
    have := hPp p' x1 x2
    unfold OkP at *
    rw [lo _ (by omega), lo _ (by omega)]
    exact this
/-- one pass of a round -/
def trnC (st : ST) (p : Int) : Prop := 0 ≤ (sOf st p 4).1 ∧ 0 < ((sOf st p 4).2 + 10000 - 1) / 10000
def Trn (st : ST) (p : Int) (st' : ST) (a : Int) : Prop := (¬ trnC st p ∧ st' = st ∧ a = 0) ∨ (trnC st p ∧ a = 1 ∧ ∃ r1 r2, PathW st (sOf st p 4).1 p 0 (st (Int.toNat (16 + p))) r1 r2 ∧ st' = sTk st (sOf st p 4).1 p r1 r2)
def RnR : Nat → ST → Int → Int → ST → Int → Prop
  | 0, st, _, _, st', a => st' = st ∧ a = 0
  | n + 1, st, b, q, st', a => (sNx st b q (Int.toNat (st 484)) < 0 ∧ st' = st ∧ a = 0) ∨ (0 ≤ sNx st b q (Int.toNat (st 484)) ∧ ∃ st1 a1 a2, Trn st (sNx st b q (Int.toNat (st 484))) st1 a1 ∧ RnR n st1 (st (Int.toNat (8 + sNx st b q (Int.toNat (st 484))))) (sNx st b q (Int.toNat (st 484))) st' a2 ∧ a = a1 + a2)
theorem sOf_live {st : ST} {p : Int} (hS : OkS st) (p0 : 0 ≤ p ∧ p < st 484) (c : trnC st p) : (0 ≤ (sOf st p 4).1 ∧ (sOf st p 4).1 ≤ 3) ∧ (sOf st p 4).2 = sLay st (sOf st p 4).1 p 0 (st (Int.toNat (16 + p))) ∧ sLay st (sOf st p 4).1 p 0 (st (Int.toNat (16 + p))) ≠ -1000000 ∧ st (Int.toNat (304 + (sOf st p 4).1)) ≤ st (Int.toNat (8 + p)) + st (Int.toNat (16 + p)) - 1 := by
  rcases sOf_b hS p0 4 (by omega) with ⟨z, -⟩ | ⟨z1, z2, z3, z4, z5⟩
  · exact absurd c.1 (by omega)
  · have e : sLay st (sOf st p 4).1 p 0 (st (Int.toNat (16 + p))) ≠ -1000000 := by
      unfold sVal at z5
      omega
    exact ⟨⟨z1, by omega⟩, z5, e, (Liv_start e).2.1⟩
theorem Trn.uniq {st st1 st2 : ST} {p a1 a2 : Int} (hS : OkS st) (p0 : 0 ≤ p ∧ p < st 484) (x : Trn st p st1 a1) (y : Trn st p st2 a2) : st1 = st2 ∧ a1 = a2 := by
  rcases x with ⟨c, rfl, rfl⟩ | ⟨c, rfl, r1, r2, z, rfl⟩ <;> rcases y with ⟨c', rfl, rfl⟩ | ⟨c', rfl, s1, s2, z', rfl⟩
  · exact ⟨rfl, rfl⟩
  · exact absurd c' c
  · exact absurd c c'
  · exact ⟨sTk_uniq (sOf_live hS p0 c).2.2.2 z z', rfl⟩
theorem Trn.ok {st st1 : ST} {p a1 B : Int} (hS : OkS st) (hB : LkB st B) (B0 : B ≤ 1000000000) (p0 : 0 ≤ p ∧ p < st 484) (x : Trn st p st1 a1) : OkS st1 ∧ LkB st1 (B + 80) ∧ (∀ j : Nat, j < 24 → st1 j = st j) ∧ st1 484 = st 484 ∧ (a1 = 0 ∨ a1 = 1) := by
  rcases x with ⟨c, rfl, rfl⟩ | ⟨c, rfl, r1, r2, z, rfl⟩
  · exact ⟨hS, fun j h1 h2 => by have := hB j h1 h2; omega, fun _ _ => rfl, rfl, Or.inl rfl⟩
  · obtain ⟨q1, q2, q3, q4⟩ := sOf_live hS p0 c
    obtain ⟨y1, y2, y3, y4⟩ := OkS_take hS hB B0 q1 p0 q4 z
    exact ⟨y1, y2, y3, y4, Or.inr rfl⟩
theorem sNx_i {st : ST} {b q : Int} (hS : OkS st) (h : 0 ≤ sNx st b q (Int.toNat (st 484))) : 0 ≤ sNx st b q (Int.toNat (st 484)) ∧ sNx st b q (Int.toNat (st 484)) < st 484 := by
  have := sNx_b (st := st) (beg := b) (beh := q) (Int.toNat (st 484))
  have := hS.2.2.1
  omega
theorem RnR.uniq : ∀ (n : Nat) {st st1 st2 : ST} {b q a1 a2 B : Int}, OkS st → LkB st B → B + 80 * (n : Int) ≤ 1000000000 → RnR n st b q st1 a1 → RnR n st b q st2 a2 → st1 = st2 ∧ a1 = a2
  | 0, st, st1, st2, b, q, a1, a2, B, _, _, _, x, y => ⟨x.1.trans y.1.symm, x.2.trans y.2.symm⟩
  | n + 1, st, st1, st2, b, q, a1, a2, B, hS, hB, B0, x, y => by
    rcases x with ⟨c, rfl, rfl⟩ | ⟨c, t1, u1, v1, k1, k2, rfl⟩ <;> rcases y with ⟨c', rfl, rfl⟩ | ⟨c', t2, u2, v2, m1, m2, rfl⟩
    · exact ⟨rfl, rfl⟩
    · exact absurd c' (by omega)
    · exact absurd c' (by omega)
    · obtain ⟨rfl, rfl⟩ := Trn.uniq hS (sNx_i hS c) k1 m1
      obtain ⟨y1, y2, -, -, -⟩ := Trn.ok hS hB (by omega) (sNx_i hS c) k1
      obtain ⟨rfl, rfl⟩ := RnR.uniq n y1 y2 (by omega) k2 m2
      exact ⟨rfl, rfl⟩
theorem RnR.ok : ∀ (n : Nat) {st st1 : ST} {b q a1 B : Int}, OkS st → LkB st B → B + 80 * (n : Int) ≤ 1000000000 → RnR n st b q st1 a1 → OkS st1 ∧ LkB st1 (B + 80 * (n : Int)) ∧ (∀ j : Nat, j < 8 → st1 j = st j) ∧ st1 484 = st 484
  | 0, st, st1, b, q, a1, B, hS, hB, B0, x => by
    rw [x.1]
    exact ⟨hS, fun j h1 h2 => by have := hB j h1 h2; omega, fun _ _ => rfl, rfl⟩
  | n + 1, st, st1, b, q, a1, B, hS, hB, B0, x => by
    rcases x with ⟨c, rfl, rfl⟩ | ⟨c, t1, u1, v1, k1, k2, rfl⟩
    · exact ⟨hS, fun j h1 h2 => by have := hB j h1 h2; omega, fun _ _ => rfl, rfl⟩
    · obtain ⟨y1, y2, y3, y4, -⟩ := Trn.ok hS hB (by omega) (sNx_i hS c) k1
      obtain ⟨z1, z2, z3, z4⟩ := RnR.ok n y1 y2 (by omega) k2
      exact ⟨z1, fun j h1 h2 => by have := z2 j h1 h2; omega, fun j hj => (z3 j hj).trans (y3 j (by omega)), z4.trans y4⟩
/-- how many are behind -/
def gLat (st : ST) (b q : Int) (i : Nat) : Int := if b < st (Int.toNat (8 + (i : Int))) ∨ (st (Int.toNat (8 + (i : Int))) = b ∧ q < i) then 1 else 0
theorem sSum_le {f g : Nat → Int} : ∀ n : Nat, (∀ i, i < n → f i ≤ g i) → sSum f n ≤ sSum g n
  | 0, _ => Int.le_refl _
  | n + 1, h => by
    have := sSum_le n (fun i hi => h i (by omega))
    have := h n (by omega)
    unfold sSum; omega
theorem sSum_lt {f g : Nat → Int} {p : Nat} : ∀ n : Nat, (∀ i, i < n → f i ≤ g i) → p < n → f p < g p → sSum f n < sSum g n
  | 0, _, a, _ => by omega
  | n + 1, h, a, c => by
    have := h n (by omega)
    have h2 := sSum_le n (fun i hi => h i (by omega))
    by_cases z : p = n
    · subst z; unfold sSum; omega
    · have := sSum_lt n (fun i hi => h i (by omega)) (by omega) c
      unfold sSum; omega
theorem sNx_lat {st : ST} {b q : Int} : ∀ n : Nat, 0 ≤ sNx st b q n → (b < st (Int.toNat (8 + sNx st b q n)) ∨ (st (Int.toNat (8 + sNx st b q n)) = b ∧ q < sNx st b q n))
  | 0, h => absurd h (by show ¬ (0 : Int) ≤ -6; decide)
  | n + 1, h => by
    by_cases z : sNxC st b q (sNx st b q n) n
    · rw [sNx_p z]; exact z.2.1
    · rw [sNx_n z] at h ⊢; exact sNx_lat n h
theorem gLat_b {st : ST} {b q : Int} : ∀ n : Nat, 0 ≤ sSum (gLat st b q) n ∧ sSum (gLat st b q) n ≤ n
  | 0 => ⟨Int.le_refl _, Int.le_refl _⟩
  | n + 1 => by
    have := gLat_b (st := st) (b := b) (q := q) n
    have : 0 ≤ gLat st b q n ∧ gLat st b q n ≤ 1 := by unfold gLat; split <;> omega
    unfold sSum; omega
theorem gLat_lt {st st1 : ST} {b q : Int} {n : Nat} (h8 : ∀ j : Nat, j < 24 → st1 j = st j) (hn : n ≤ 8) (h : 0 ≤ sNx st b q n) : sSum (gLat st1 (st (Int.toNat (8 + sNx st b q n))) (sNx st b q n)) n < sSum (gLat st b q) n := by
  have hb := sNx_b (st := st) (beg := b) (beh := q) n
  have hl := sNx_lat n h
  refine sSum_lt (p := Int.toNat (sNx st b q n)) n (fun i hi => ?_) (by omega) ?_
  · unfold gLat
    rw [h8 _ (by omega)]
    split
    · rw [if_pos (by omega)]; omega
    · split <;> omega
  · have e : ((Int.toNat (sNx st b q n) : Nat) : Int) = sNx st b q n := by omega
    unfold gLat
    rw [h8 _ (by omega), e, if_neg (by omega), if_pos hl]
    decide
def pqR (st : ST) (n : Nat) (h : PH) : Option PV → PH → Prop := pqT (fun v st' => RnR n st (-1) (-6) st' v) h

theorem lp_X7_round {G : Gx} {X : Cx} {h0 : PH} (C : CX_X7_round G X) : ∀ (m : Nat) (h : PH) (b q p a B : Int), Scr h0 h ∨ (∃ hw s, Scr h0 hw ∧ h = ph_rowI hw 135 s) → MF h → OkS (ph_I h 135) → LkB (ph_I h 135) B → B + 80 * (m : Int) ≤ 1000000000 → sSum (gLat (ph_I h 135) b q) (Int.toNat (ph_I h 135 484)) ≤ m → p = sNx (ph_I h 135) b q (Int.toNat (ph_I h 135 484)) → (0 ≤ a ∧ a + m ≤ 100) →
    ∀ PQ : Option PV → PH → Prop, (∀ st' a2 hw, RnR m (ph_I h 135) b q st' a2 → Scr h0 hw → PQ (some (.inl (a + a2))) (ph_rowI hw 135 st')) → PW G X 4 (pw_E G X PQ 0 0) 0 0 10 [some (.inr 134), some (.inl a), some (.inl p), none] [] h := by
  have hrow : ∀ h : PH, (Scr h0 h ∨ (∃ hw s, Scr h0 hw ∧ h = ph_rowI hw 135 s)) → ∃ hw, Scr h0 hw ∧ h = ph_rowI hw 135 (ph_I h 135) := by
    intro h hh
    rcases hh with x | ⟨hw, s, x, rfl⟩
    · exact ⟨h, x, (ph_row_id h 135).symm⟩
    · exact ⟨hw, x, by congr 1⟩
  have hscr : ∀ h h' : PH, (Scr h0 h ∨ (∃ hw s, Scr h0 hw ∧ h = ph_rowI hw 135 s)) → Scr h h' → ∃ hw s, Scr h0 hw ∧ h' = ph_rowI hw 135 s := by
    intro h h' hh sc
    obtain ⟨hw, x, e⟩ := hrow h hh
    refine ⟨ph_rowI h' 135 (ph_I hw 135), ph_I h' 135, ?_, ?_⟩
    · subst_vars
      obtain ⟨a1, a2, a3, a4, a5⟩ := sc
      refine ⟨?_, ?_, ?_, ?_, ?_⟩
      · show h'.1 = _; rw [a1, e]; exact x.1
      · show h'.2.1 = _; rw [a2, e]; exact x.2.1
      · show h'.2.2.1 = _; rw [a3, e]; exact x.2.2.1
      · show h'.2.2.2.2 = _; rw [a4, e]; exact x.2.2.2.1
      · intro c b1 b2 b3 b4 b5 k
        by_cases z : c = 135
        · subst z
          have : ph_I (ph_rowI h' 135 (ph_I hw 135)) 135 k = ph_I hw 135 k := by simp [ph_I, ph_rowI]
          rw [this]; exact x.2.2.2.2 135 b1 b2 b3 b4 b5 k
        · have : ph_I (ph_rowI h' 135 (ph_I hw 135)) c k = ph_I h' c k := by simp [ph_I, ph_rowI, z]
          rw [this, a5 c b1 b2 b3 b4 b5 k, e]
          have : ph_I (ph_rowI hw 135 (ph_I h 135)) c k = ph_I hw c k := by simp [ph_I, ph_rowI, z]
          rw [this]; exact x.2.2.2.2 c b1 b2 b3 b4 b5 k
    · exact ph_ext rfl rfl rfl (fun c j => by simp only [ph_I, ph_rowI]; grind) rfl
  intro m
  induction m with
  | zero =>
    intro h b q p a B hh hm hS hB B0 hM hp ha PQ K
    have hneg : p < 0 := by
      by_cases z : 0 ≤ p
      · have := gLat_lt (st := ph_I h 135) (st1 := ph_I h 135) (b := b) (q := q) (n := Int.toNat (ph_I h 135 484)) (fun _ _ => rfl) (by have := hS.2.2.1; omega) (by rw [← hp]; exact z)
        have := (gLat_b (st := ph_I h 135) (b := ph_I h 135 (Int.toNat (8 + sNx (ph_I h 135) b q (Int.toNat (ph_I h 135 484))))) (q := sNx (ph_I h 135) b q (Int.toNat (ph_I h 135 484))) (Int.toNat (ph_I h 135 484))).1
        omega
      · omega
    have hpb := sNx_b (st := ph_I h 135) (beg := b) (beh := q) (Int.toNat (ph_I h 135 484))
    refine B_X7_round_10 C (q1 := by unfold pR; omega) (kt := fun c1 => ?_) (kf := fun c1 => absurd hneg c1)
    obtain ⟨hw, x, e⟩ := hrow h hh
    have := K (ph_I h 135) 0 hw ⟨rfl, rfl⟩ x
    rw [Int.add_zero, ← e] at this
    exact B_X7_round_69 C (hq := this)
  | succ m ih =>
    intro h b q p a B hh hm hS hB B0 hM hp ha PQ K
    have hpb := sNx_b (st := ph_I h 135) (beg := b) (beh := q) (Int.toNat (ph_I h 135 484))
    have h48 := hS.2.2.1
    refine B_X7_round_10 C (q1 := by unfold pR; omega) (kt := fun c1 => ?_) (kf := fun c1 => ?_)
    · obtain ⟨hw, x, e⟩ := hrow h hh
      have := K (ph_I h 135) 0 hw (Or.inl ⟨by omega, rfl, rfl⟩) x
      rw [Int.add_zero, ← e] at this
      exact B_X7_round_69 C (hq := this)
    · have hp0 : 0 ≤ p ∧ p < ph_I h 135 484 := by omega
      have hx0 : 0 ≤ sNx (ph_I h 135) b q (Int.toNat (ph_I h 135 484)) := by omega
      have nxt : ∀ (h1 : PH) (a1 d : Int), (Scr h0 h1 ∨ (∃ hw s, Scr h0 hw ∧ h1 = ph_rowI hw 135 s)) → MF h1 → Trn (ph_I h 135) p (ph_I h1 135) a1 → PW G X 4 (pw_E G X PQ 0 0) 0 0 51 [some (.inr 134), some (.inl (a + a1)), some (.inl p), some (.inl d)] [] h1 := by
        intro h1 a1 d hh1 hm1 ht
        obtain ⟨y1, y2, y3, y4, y5⟩ := Trn.ok hS hB (by omega) hp0 ht
        have e8 := y3 (Int.toNat (8 + p)) (by omega)
        obtain ⟨⟨mt0, mr0, mr1, mr2, mr3, mr8, mr9, mr10⟩, ⟨mt1, mt2, mt3, mt4, mt5, mt6, mt7⟩, ⟨ml1, ml2, ml3, ml4, ml5, ml6, ml7⟩⟩ := id hm1
        have hrec : sSum (gLat (ph_I h1 135) (ph_I h 135 (Int.toNat (8 + p))) p) (Int.toNat (ph_I h1 135 484)) ≤ m := by
          have := gLat_lt (st := ph_I h 135) (st1 := ph_I h1 135) (b := b) (q := q) (n := Int.toNat (ph_I h 135 484)) y3 (by omega) hx0
          rw [y4]
          rw [← hp] at this
          omega
        refine B_X7_round_51 C (r2 := 135) (x8 := ph_I h 135 (Int.toNat (8 + p))) (e9 := e8) (hM := ct_X7_nextPass _ _ _ hm1 y1.2.1 y1.2.2.1.1 y1.2.2.1.2 (hS.2.1 _) (by unfold pR; omega)) (kk := fun rr h' hq => ?_)
        obtain ⟨rfl, rfl⟩ := hq
        refine B_X7_round_65 C (kk := ?_)
        refine ih h1 (ph_I h 135 (Int.toNat (8 + p))) p _ (a + a1) (B + 80) hh1 hm1 y1 y2 (by omega) hrec rfl (by omega) PQ (fun st' a2 hw hr hs => ?_)
        have := K st' (a1 + a2) hw (Or.inr ⟨hx0, ph_I h1 135, a1, a2, by rw [← hp]; exact ht, by rw [← hp]; exact hr, rfl⟩) hs
        rw [← Int.add_assoc] at this
        exact this
      refine B_X7_round_14 C (t1 := hm.1.1) (hM := ct_X7_offerOf _ _ _ hm hS hp0) (kk := fun rr h1 hq => ?_)
      obtain ⟨rfl, sc, ho⟩ := hq
      have hob := sOf_b hS (p := p) hp0 4 (by omega)
      have hm1 := sc.mf hm
      have same : ¬ trnC (ph_I h 135) p → PW G X 4 (pw_E G X PQ 0 0) 0 0 51 [some (.inr 134), some (.inl a), some (.inl p), some (.inl (sOf (ph_I h 135) p 4).1)] [] h1 := by
        intro hn
        have := nxt h1 0 (sOf (ph_I h 135) p 4).1 (Or.inr (hscr h h1 hh sc)) hm1 (Or.inl ⟨hn, sc.st, rfl⟩)
        rw [Int.add_zero] at this
        exact this
      refine B_X7_round_19 C (q1 := by unfold pR; omega) (kt := fun c2 => ?_) (kf := fun c2 => ?_)
      · exact same (fun z => by have := z.1; omega)
      · refine B_X7_round_24 C (t1 := hm1.1.1) (x2 := (sOf (ph_I h 135) p 4).2) (e3 := ho) (hM := ct_X7_seenOf _ _ _ (ga := by unfold pR; omega) (lo := by omega) (hi := by omega)) (kk := fun rr h' hq => ?_)
        obtain ⟨rfl, rfl⟩ := hq
        refine B_X7_round_31 C (q1 := by unfold pR; omega) (kt := fun c3 => ?_) (kf := fun c3 => ?_)
        · exact same (fun z => by have := z.2; omega)
        · have hc : trnC (ph_I h 135) p := ⟨by omega, by omega⟩
          obtain ⟨w1, w2, w3, w4⟩ := sOf_live hS hp0 hc
          have hS1 : OkS (ph_I h1 135) := by rw [sc.st]; exact hS
          refine B_X7_round_34 C (t1 := hm1.1.1) (hM := ct_X7_takeBy _ _ _ hm1 hS1 w1 (by rw [sc.st]; exact hp0)) (kk := fun rr h2 hq => ?_)
          unfold pqTake at hq
          rw [sc.st] at hq
          rcases hq with ⟨z1, rfl, z3⟩ | ⟨z1, rfl, r1, r2, hw, z3, z4, rfl⟩
          · exact absurd z1 w3
          · refine B_X7_round_41 C (q1 := by rw [← w2]; unfold pR; omega) (kt := fun c4 => by rw [← w2] at c4; omega) (kf := fun c4 => ?_)
            refine B_X7_round_44 C (kk := ?_)
            refine B_X7_round_49 C (kk := ?_)
            have hm2 : MF (ph_rowI hw 135 (sTk (ph_I h 135) (sOf (ph_I h 135) p 4).1 p r1 r2)) := (z4.mf hm1 : MF hw)
            obtain ⟨hw2, x2, e2⟩ := hrow h1 (Or.inr (hscr h h1 hh sc))
            obtain ⟨hw3, s3, x3, e3⟩ := hscr h1 hw (Or.inr (hscr h h1 hh sc)) z4
            refine nxt _ 1 _ (Or.inr ⟨hw3, sTk (ph_I h 135) (sOf (ph_I h 135) p 4).1 p r1 r2, x3, by rw [e3]; exact ph_ext rfl rfl rfl (fun c j => by simp only [ph_I, ph_rowI]; grind) rfl⟩) hm2 (Or.inr ⟨hc, rfl, r1, r2, z3, rfl⟩)
theorem ct_X7_round (G : Gx) (l : Launch) (h : PH) {B : Int} (hm : MF h) (hS : OkS (ph_I h 135)) (hB : LkB (ph_I h 135) B) (B0 : B ≤ 900000000) : CT_X7_round G l [.inr 134] h (pqR (ph_I h 135) 8 h) := by
  obtain ⟨⟨mt0, mr0, mr1, mr2, mr3, mr8, mr9, mr10⟩, ⟨mt1, mt2, mt3, mt4, mt5, mt6, mt7⟩, ⟨ml1, ml2, ml3, ml4, ml5, ml6, ml7⟩⟩ := id hm
  obtain ⟨hs, hb, hmany, hD, hPp⟩ := id hS
  refine ct_intro rfl (Nat.le_of_ble_eq_true rfl) (fun X hX C => ?_)
  refine B_X7_round_0 C (hM := ct_X7_nextPass _ _ _ hm hb hmany.1 hmany.2 (by unfold pR; omega) (by unfold pR; omega)) (kk := fun rr h' hq => ?_)
  obtain ⟨rfl, rfl⟩ := hq
  refine B_X7_round_9 C (kk := ?_)
  refine lp_X7_round (h0 := h) C 8 h (-1) (-6) _ 0 B (Or.inl (Scr.rf h)) hm hS hB (by omega) ?_ rfl (by omega) _ (fun st' a2 hw hr hs => ?_)
  · have := (gLat_b (st := ph_I h 135) (b := -1) (q := -6) (Int.toNat (ph_I h 135 484))).2
    omega
  · rw [Int.zero_add]
    exact ⟨a2, st', rfl, hr, hw, hs, rfl⟩
