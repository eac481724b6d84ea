/-! the search: the next cell -/
theorem vb_nx {st : ST} {d p q w hh : Int} (q0 : 0 ≤ q) : vb st d p (q + 1) w hh = (bt st d p 0 (st (Int.toNat (16 + p))) (st (Int.toNat (8 + p)) + st (Int.toNat (16 + p)) - 1) (Int.toNat (st (Int.toNat (8 + p)) + st (Int.toNat (16 + p)) - 1 - (st (Int.toNat (304 + d)) + q) - 1))) w hh := by
  rw [vb_pos (by omega)]
  have e5 : st (Int.toNat (8 + p)) + st (Int.toNat (16 + p)) - 1 - (st (Int.toNat (304 + d)) + (q + 1)) = st (Int.toNat (8 + p)) + st (Int.toNat (16 + p)) - 1 - (st (Int.toNat (304 + d)) + q) - 1 := by omega
  rw [e5]
theorem vb_al {st : ST} {d p q w hh : Int} (hD : OkD st d) (hn : 0 < st (Int.toNat (16 + p))) (q0 : 0 ≤ q) (hl : st (Int.toNat (304 + d)) + q < st (Int.toNat (8 + p)) + st (Int.toNat (16 + p)) - 1) (w0 : loW st d q ≤ w ∧ w ≤ hiW st d q) (hal : vb st d p q (w - st (Int.toNat (308 + d))) hh ≠ -1000000) : sMost st d (bt st d p 0 (st (Int.toNat (16 + p))) (st (Int.toNat (8 + p)) + st (Int.toNat (16 + p)) - 1) (Int.toNat (st (Int.toNat (8 + p)) + st (Int.toNat (16 + p)) - 1 - (st (Int.toNat (304 + d)) + q) - 1))) (w - st (Int.toNat (308 + d))) hh ≠ -1000000 ∧ vb st d p q (w - st (Int.toNat (308 + d))) hh = sMost st d (bt st d p 0 (st (Int.toNat (16 + p))) (st (Int.toNat (8 + p)) + st (Int.toNat (16 + p)) - 1) (Int.toNat (st (Int.toNat (8 + p)) + st (Int.toNat (16 + p)) - 1 - (st (Int.toNat (304 + d)) + q) - 1))) (w - st (Int.toNat (308 + d))) hh + sOwn st p 0 (st (Int.toNat (16 + p))) (st (Int.toNat (304 + d)) + q) (w - st (Int.toNat (308 + d))) hh := by
  have key : vb st d p q (w - st (Int.toNat (308 + d))) hh = sFrom st d p 0 (st (Int.toNat (16 + p))) (bt st d p 0 (st (Int.toNat (16 + p))) (st (Int.toNat (8 + p)) + st (Int.toNat (16 + p)) - 1) (Int.toNat (st (Int.toNat (8 + p)) + st (Int.toNat (16 + p)) - 1 - (st (Int.toNat (304 + d)) + q) - 1))) (st (Int.toNat (304 + d)) + q) (w - st (Int.toNat (308 + d))) hh := by
    by_cases z : q = 0
    · subst z
      have hw0 := loW_0 hD
      have ew : w - st (Int.toNat (308 + d)) = st (Int.toNat (296 + d)) := by omega
      unfold vb at hal ⊢
      rw [if_pos rfl] at hal ⊢
      by_cases z2 : hh = st (Int.toNat (300 + d))
      · rw [if_pos z2]
        unfold sLay
        have ez : st (Int.toNat (304 + d)) + 0 = st (Int.toNat (304 + d)) := by omega
        rw [ez] at hl ⊢
        rw [if_neg (by omega), if_neg (by omega), ew, z2]
      · rw [if_neg z2] at hal
        exact absurd rfl hal
    · rw [vb_pos (by omega)] at hal ⊢
      have e2 : Int.toNat (st (Int.toNat (8 + p)) + st (Int.toNat (16 + p)) - 1 - (st (Int.toNat (304 + d)) + q)) = Int.toNat (st (Int.toNat (8 + p)) + st (Int.toNat (16 + p)) - 1 - (st (Int.toNat (304 + d)) + q) - 1) + 1 := by omega
      have e3 : st (Int.toNat (8 + p)) + st (Int.toNat (16 + p)) - 1 - ((Int.toNat (st (Int.toNat (8 + p)) + st (Int.toNat (16 + p)) - 1 - (st (Int.toNat (304 + d)) + q) - 1) : Int) + 1) = st (Int.toNat (304 + d)) + q := by omega
      rw [e2, bt_s, e3] at hal ⊢
      split at hal
      · next y => rw [if_pos y]
      · exact absurd rfl hal
  rw [key] at hal ⊢
  unfold sFrom at hal ⊢
  split at hal
  · exact absurd rfl hal
  · next y => exact ⟨y, by rw [if_neg y]⟩
theorem ar1 {hh k h6 : Int} {j j' : Nat} (hu : k + ((0 : Nat) : Int) = h6 + 1) (hj : k = hh - 1 + j) (h6b : h6 ≤ hh + 1 ∧ h6 ≤ 6 ∧ (h6 = hh + 1 ∨ h6 = 6)) (j0 : j' < 3) (y : ¬ j' < j) : hh - 1 + (j' : Int) < 0 ∨ 6 < hh - 1 + (j' : Int) := by omega
theorem ar2 {w w' L S hw hi : Int} {i i' : Nat} (hm : w' + ((0 : Nat) : Int) = hw + 1) (hwi : w' = w - S + i) (hwb : hw ≤ w + S ∧ hw ≤ hi ∧ (hw = w + S ∨ hw = hi)) (hls : hi = 2 * L ∨ w + S ≤ hi) (i0 : i' < Int.toNat (2 * S + 1)) (z : ¬ i' < i) : w - L - S + (i' : Int) < -L ∨ L < w - L - S + (i' : Int) := by omega
theorem ar3 {hh lh h6 : Int} (h0 : 0 ≤ hh ∧ hh ≤ 6) (lhb : hh - 1 ≤ lh ∧ 0 ≤ lh ∧ (lh = hh - 1 ∨ lh = 0)) (h6b : h6 ≤ hh + 1 ∧ h6 ≤ 6 ∧ (h6 = hh + 1 ∨ h6 = 6)) : lh + ((Int.toNat (h6 + 1 - lh) : Nat) : Int) = h6 + 1 ∧ lh = hh - 1 + ((Int.toNat (lh - (hh - 1)) : Nat) : Int) ∧ ∀ j' : Nat, j' < Int.toNat (lh - (hh - 1)) → hh - 1 + (j' : Int) < 0 := ⟨by omega, by omega, fun j' h => by omega⟩
theorem ar4 {w L S lw lo hw hi : Int} (lwb : w - S ≤ lw ∧ lo ≤ lw ∧ (lw = w - S ∨ lw = lo)) (hls : (lo = 0 ∨ lo ≤ w - S) ∧ (hi = 2 * L ∨ w + S ≤ hi)) (hwb : hw ≤ w + S ∧ hw ≤ hi ∧ (hw = w + S ∨ hw = hi)) (w0 : 0 ≤ w ∧ w ≤ 2 * L) (S0 : 1 ≤ S) (l0 : lo ≤ w ∧ w ≤ hi) : lw + ((Int.toNat (hw + 1 - lw) : Nat) : Int) = hw + 1 ∧ lw = w - S + ((Int.toNat (lw - (w - S)) : Nat) : Int) ∧ ∀ i' : Nat, i' < Int.toNat (lw - (w - S)) → w - L - S + (i' : Int) < -L := ⟨by omega, by omega, fun i' h => by omega⟩
def pqNext (h : PH) (st : ST) (d p q w hh : Int) : Option PV → PH → Prop := fun rr h' => h = h' ∧ ∃ w' k : Int, rr = some (.inl (w' * 7 + k)) ∧ (loW st d (q + 1) ≤ w' ∧ w' ≤ hiW st d (q + 1)) ∧ (0 ≤ k ∧ k ≤ 6) ∧ StpW st d p 0 (st (Int.toNat (16 + p))) (st (Int.toNat (304 + d)) + q) (w - st (Int.toNat (308 + d))) hh (w' - st (Int.toNat (308 + d))) k ∧ vb st d p (q + 1) (w' - st (Int.toNat (308 + d))) k ≠ -1000000 ∧ vb st d p q (w - st (Int.toNat (308 + d))) hh = sOwn st p 0 (st (Int.toNat (16 + p))) (st (Int.toNat (304 + d)) + q) (w - st (Int.toNat (308 + d))) hh + vb st d p (q + 1) (w' - st (Int.toNat (308 + d))) k - zabs (w' - w) - zabs (k - hh) ∧ zabs (w' - w) ≤ st (Int.toNat (312 + d)) ∧ zabs (k - hh) ≤ 1
theorem ct_X2_nextCell (G : Gx) (l : Launch) (h : PH) {st : ST} {d p : Int} {mc fc ra sb : Nat} (hC : SC h st d p mc fc ra sb) {rw q w hh : Int} (hrw : rw = st (Int.toNat (8 + p)) + st (Int.toNat (16 + p)) - 1 - st (Int.toNat (304 + d)) + 1) (hn : 0 < st (Int.toNat (16 + p))) (hT : TabF h st d p rw 0) (q0 : 0 ≤ q ∧ q + 1 < rw) (w0 : loW st d q ≤ w ∧ w ≤ hiW st d q) (h0 : 0 ≤ hh ∧ hh ≤ 6) (hG : Goal st p (st (Int.toNat (304 + d)) + q) (ph_I h 104 9) (ph_I h 104 10)) (hal : vb st d p q (w - st (Int.toNat (308 + d))) hh ≠ -1000000) : CT_X2_nextCell G l [.inr 104, .inl (q + 1), .inl w, .inl hh] h (pqNext h st d p q w hh) := by
  obtain ⟨⟨t104, t3, t6, t106, t107, tra, tsb, tmc⟩, ⟨l106, l107, lra, lsb⟩, ⟨r1040, r32, r1042, r1043, r1044, r1045, r1046, r1047⟩, hra, hfs, ⟨b1, b2, b3⟩, hFR, hMR, hSR, hS, h2, d0, p0⟩ := id hC
  obtain ⟨hs, hb, hmany, hD, hPp⟩ := id hS
  obtain ⟨g1, g2, g3, g4, g5⟩ := hD d d0.1 d0.2
  obtain ⟨g6, g7⟩ := hPp p p0.1 p0.2
  obtain ⟨⟨ft0, ft1, ft2⟩, ⟨fl1, fl2⟩, fr0, fr1⟩ := id hfs
  obtain ⟨⟨f2, f3, f4, f5, f6⟩, fpt⟩ := id hFR
  obtain ⟨m0, m1, m2, m3, m4⟩ := id hMR
  have gw : -st (Int.toNat (308 + d)) ≤ st (Int.toNat (296 + d)) ∧ st (Int.toNat (296 + d)) ≤ st (Int.toNat (308 + d)) := by have := g4; unfold zabs at this; split at this <;> omega
  refine ct_intro rfl (Nat.le_of_ble_eq_true rfl) (fun X hX C => ?_)
  have hDd := hD d d0.1 d0.2
  have hlb := loW_b hDd (r := q) (by omega)
  have hlb2 := loW_b hDd (r := q + 1) (by omega)
  obtain ⟨al1, al2⟩ := vb_al hDd hn q0.1 (by omega) w0 hal
  have hR0 := hT q w hh q0.1 (by omega) w0.1 w0.2 h0.1 h0.2
  have hRb := hR0.b (by omega) (by omega)
  have hq1 : q + 1 - 1 = q := by omega
  refine B_X2_nextCell_0 C (r2 := 106) (hM := ct_X2_cell _ _ _) (kk := fun rr h' hq => ?_)
  obtain ⟨rfl, rfl⟩ := hq
  rw [hq1]
  refine B_X2_nextCell_12 C (x5 := ph_I h 106 (Int.toNat (q * 511 + w * 7 + hh))) (e6 := rfl) (hM := ct_X2_gain _ _ _ hC (by omega) h0 rfl rfl (by have := hG.1; omega) (by have := hG.1; omega)) (kk := fun rr h' hq => ?_)
  obtain ⟨rfl, rfl⟩ := hq
  refine B_X2_nextCell_19 C (hM := ct_X2_highWind _ _ _ hC (by omega)) (kk := fun rr h' hq => ?_)
  obtain ⟨rfl, rfl⟩ := hq
  generalize hdue : ph_I h 106 (Int.toNat (q * 511 + w * 7 + hh)) - (if hh = ph_I h 104 10 ∧ (w - st (Int.toNat (308 + d)) + 48) % 24 = ph_I h 104 9 then 1024 else 0) = due
  have hdue2 : ∃ s0 x0 : Int, (sMost st d (bt st d p 0 (st (Int.toNat (16 + p))) (st (Int.toNat (8 + p)) + st (Int.toNat (16 + p)) - 1) (Int.toNat (st (Int.toNat (8 + p)) + st (Int.toNat (16 + p)) - 1 - (st (Int.toNat (304 + d)) + q) - 1))) (w - st (Int.toNat (308 + d))) hh) = 10000 * s0 - x0 ∧ due = 1024 * s0 - x0 ∧ 0 ≤ x0 ∧ x0 ≤ 320 ∧ -1 ≤ s0 ∧ s0 ≤ 80 := by
    have hg2 := hG.2 (w - st (Int.toNat (308 + d))) hh h0.1
    rcases hR0 with ⟨b1, b2⟩ | ⟨s, x, b1, b2, b3, b4, b5, b6⟩
    · exact absurd b1 hal
    · rw [al2] at b1
      unfold sOwn at b1
      by_cases z : hh = ph_I h 104 10 ∧ (w - st (Int.toNat (308 + d)) + 48) % 24 = ph_I h 104 9
      · rw [if_pos z] at hdue
        rw [if_pos (hg2.mp z)] at b1
        exact ⟨s - 1, x, by omega, by omega, b5, by omega, by omega, by omega⟩
      · rw [if_neg z] at hdue
        rw [if_neg (fun y => z (hg2.mpr y))] at b1
        exact ⟨s, x, by omega, by omega, b5, by omega, by omega, by omega⟩
  obtain ⟨s0, x0, du1, du2, du3, du4, du5, du6⟩ := hdue2
  generalize hhw : (if w + st (Int.toNat (312 + d)) < hiW st d (q + 1) then w + st (Int.toNat (312 + d)) else hiW st d (q + 1)) = hw
  generalize hh6 : (if hh + 1 < 6 then hh + 1 else 6) = h6
  have hwb : hw ≤ w + st (Int.toNat (312 + d)) ∧ hw ≤ hiW st d (q + 1) ∧ (hw = w + st (Int.toNat (312 + d)) ∨ hw = hiW st d (q + 1)) := by omega
  have h6b : h6 ≤ hh + 1 ∧ h6 ≤ 6 ∧ (h6 = hh + 1 ∨ h6 = 6) := by omega
  refine B_X2_nextCell_27 C (r2 := mc) (x5 := st (Int.toNat (312 + d))) (x9 := hw) (e10 := hhw) (x13 := h6) (e14 := hh6) (hM := ct_X2_lowWind _ _ _ hC (by omega)) (kk := fun rr h' hq => ?_)
  obtain ⟨rfl, rfl⟩ := hq
  generalize hlw : (if loW st d (q + 1) < w - st (Int.toNat (312 + d)) then w - st (Int.toNat (312 + d)) else loW st d (q + 1)) = lw
  have lwb : w - st (Int.toNat (312 + d)) ≤ lw ∧ loW st d (q + 1) ≤ lw ∧ (lw = w - st (Int.toNat (312 + d)) ∨ lw = loW st d (q + 1)) := by omega
  have hls : (loW st d (q + 1) = 0 ∨ loW st d (q + 1) ≤ w - st (Int.toNat (312 + d))) ∧ (hiW st d (q + 1) = 2 * st (Int.toNat (308 + d)) ∨ w + st (Int.toNat (312 + d)) ≤ hiW st d (q + 1)) := by
    obtain ⟨y1, y2⟩ := loW_s q hDd
    clear hFR hMR hSR fpt
    rw [y1, y2]
    constructor
    · split <;> omega
    · split <;> omega
  have dead1 : ∀ i j : Nat, (w - st (Int.toNat (308 + d)) - st (Int.toNat (312 + d)) + (i : Int) < -st (Int.toNat (308 + d)) ∨ st (Int.toNat (308 + d)) < w - st (Int.toNat (308 + d)) - st (Int.toNat (312 + d)) + (i : Int)) → (sG st d (bt st d p 0 (st (Int.toNat (16 + p))) (st (Int.toNat (8 + p)) + st (Int.toNat (16 + p)) - 1) (Int.toNat (st (Int.toNat (8 + p)) + st (Int.toNat (16 + p)) - 1 - (st (Int.toNat (304 + d)) + q) - 1))) (w - st (Int.toNat (308 + d))) hh) i j ≠ (sMost st d (bt st d p 0 (st (Int.toNat (16 + p))) (st (Int.toNat (8 + p)) + st (Int.toNat (16 + p)) - 1) (Int.toNat (st (Int.toNat (8 + p)) + st (Int.toNat (16 + p)) - 1 - (st (Int.toNat (304 + d)) + q) - 1))) (w - st (Int.toNat (308 + d))) hh) := by
    intro i j hi e
    unfold sG sGo at e
    rw [if_pos (Or.inl (by unfold zabs; split <;> omega))] at e
    exact al1 e.symm
  have dead2 : ∀ i j : Nat, (hh - 1 + (j : Int) < 0 ∨ 6 < hh - 1 + (j : Int)) → (sG st d (bt st d p 0 (st (Int.toNat (16 + p))) (st (Int.toNat (8 + p)) + st (Int.toNat (16 + p)) - 1) (Int.toNat (st (Int.toNat (8 + p)) + st (Int.toNat (16 + p)) - 1 - (st (Int.toNat (304 + d)) + q) - 1))) (w - st (Int.toNat (308 + d))) hh) i j ≠ (sMost st d (bt st d p 0 (st (Int.toNat (16 + p))) (st (Int.toNat (8 + p)) + st (Int.toNat (16 + p)) - 1) (Int.toNat (st (Int.toNat (8 + p)) + st (Int.toNat (16 + p)) - 1 - (st (Int.toNat (304 + d)) + q) - 1))) (w - st (Int.toNat (308 + d))) hh) := by
    intro i j hi e
    unfold sG sGo at e
    rw [if_pos (Or.inr (by omega))] at e
    exact al1 e.symm
  have hmatch : ∀ (w' k : Int) (i j : Nat), loW st d (q + 1) ≤ w' → w' ≤ hiW st d (q + 1) → 0 ≤ k → k ≤ 6 → w' = w - st (Int.toNat (312 + d)) + i → k = hh - 1 + j → (i : Int) ≤ 2 * st (Int.toNat (312 + d)) → j < 3 → ((ph_I h 106 (Int.toNat ((q + 1) * 511 + w' * 7 + k)) - zabs (w' - w) - zabs (k - hh) = due ↔ (sG st d (bt st d p 0 (st (Int.toNat (16 + p))) (st (Int.toNat (8 + p)) + st (Int.toNat (16 + p)) - 1) (Int.toNat (st (Int.toNat (8 + p)) + st (Int.toNat (16 + p)) - 1 - (st (Int.toNat (304 + d)) + q) - 1))) (w - st (Int.toNat (308 + d))) hh) i j = (sMost st d (bt st d p 0 (st (Int.toNat (16 + p))) (st (Int.toNat (8 + p)) + st (Int.toNat (16 + p)) - 1) (Int.toNat (st (Int.toNat (8 + p)) + st (Int.toNat (16 + p)) - 1 - (st (Int.toNat (304 + d)) + q) - 1))) (w - st (Int.toNat (308 + d))) hh)) ∧ ((sG st d (bt st d p 0 (st (Int.toNat (16 + p))) (st (Int.toNat (8 + p)) + st (Int.toNat (16 + p)) - 1) (Int.toNat (st (Int.toNat (8 + p)) + st (Int.toNat (16 + p)) - 1 - (st (Int.toNat (304 + d)) + q) - 1))) (w - st (Int.toNat (308 + d))) hh) i j = (sMost st d (bt st d p 0 (st (Int.toNat (16 + p))) (st (Int.toNat (8 + p)) + st (Int.toNat (16 + p)) - 1) (Int.toNat (st (Int.toNat (8 + p)) + st (Int.toNat (16 + p)) - 1 - (st (Int.toNat (304 + d)) + q) - 1))) (w - st (Int.toNat (308 + d))) hh) → vb st d p (q + 1) (w' - st (Int.toNat (308 + d))) k ≠ -1000000 ∧ (sMost st d (bt st d p 0 (st (Int.toNat (16 + p))) (st (Int.toNat (8 + p)) + st (Int.toNat (16 + p)) - 1) (Int.toNat (st (Int.toNat (8 + p)) + st (Int.toNat (16 + p)) - 1 - (st (Int.toNat (304 + d)) + q) - 1))) (w - st (Int.toNat (308 + d))) hh) = vb st d p (q + 1) (w' - st (Int.toNat (308 + d))) k - zabs (w' - w) - zabs (k - hh)) ∧ (-1000000 ≤ ph_I h 106 (Int.toNat ((q + 1) * 511 + w' * 7 + k)) ∧ ph_I h 106 (Int.toNat ((q + 1) * 511 + w' * 7 + k)) ≤ 1000000)) := by
    intro w' k i j a1 a2 a3 a4 a5 a6 a7 a8
    have hRc := hT (q + 1) w' k (by omega) (by omega) a1 a2 a3 a4
    have hRcb := hRc.b (by omega) (by omega)
    have zw : 0 ≤ zabs (w' - w) ∧ zabs (w' - w) ≤ 3 := by unfold zabs; split <;> omega
    have zk : 0 ≤ zabs (k - hh) ∧ zabs (k - hh) ≤ 1 := by unfold zabs; split <;> omega
    have e1 : w - st (Int.toNat (308 + d)) - st (Int.toNat (312 + d)) + (i : Int) = w' - st (Int.toNat (308 + d)) := by omega
    have e2 : hh - 1 + (j : Int) = k := by omega
    have e3 : w' - st (Int.toNat (308 + d)) - (w - st (Int.toNat (308 + d))) = w' - w := by omega
    rcases hRc with ⟨b1, b2⟩ | ⟨s, x, b1, b2, b3, b4, b5, b6⟩
    · have hd : (sG st d (bt st d p 0 (st (Int.toNat (16 + p))) (st (Int.toNat (8 + p)) + st (Int.toNat (16 + p)) - 1) (Int.toNat (st (Int.toNat (8 + p)) + st (Int.toNat (16 + p)) - 1 - (st (Int.toNat (304 + d)) + q) - 1))) (w - st (Int.toNat (308 + d))) hh) i j = -1000000 := by
        unfold sG sGo
        rw [e1, e2, ← vb_nx q0.1, b1]
        split <;> rfl
      refine ⟨⟨fun z => by omega, fun z => absurd (hd.symm.trans z).symm al1⟩, fun z => absurd (hd.symm.trans z).symm al1, by omega⟩
    · have hd : (sG st d (bt st d p 0 (st (Int.toNat (16 + p))) (st (Int.toNat (8 + p)) + st (Int.toNat (16 + p)) - 1) (Int.toNat (st (Int.toNat (8 + p)) + st (Int.toNat (16 + p)) - 1 - (st (Int.toNat (304 + d)) + q) - 1))) (w - st (Int.toNat (308 + d))) hh) i j = vb st d p (q + 1) (w' - st (Int.toNat (308 + d))) k - zabs (w' - w) - zabs (k - hh) := by
        unfold sG
        rw [e1, e2, sGo_al (by unfold zabs; split <;> omega) ⟨a3, a4⟩ (by rw [← vb_nx q0.1]; omega), ← vb_nx q0.1, e3]
      rw [hd]
      refine ⟨⟨fun z => by omega, fun z => by omega⟩, fun z => ⟨by omega, z.symm⟩, by omega⟩
  have found : ∀ (w' k : Int) (i j : Nat), loW st d (q + 1) ≤ w' → w' ≤ hiW st d (q + 1) → 0 ≤ k → k ≤ 6 → w' = w - st (Int.toNat (312 + d)) + i → k = hh - 1 + j → (i : Int) ≤ 2 * st (Int.toNat (312 + d)) → j < 3 → ph_I h 106 (Int.toNat ((q + 1) * 511 + w' * 7 + k)) - zabs (w' - w) - zabs (k - hh) = due → NoB (sG st d (bt st d p 0 (st (Int.toNat (16 + p))) (st (Int.toNat (8 + p)) + st (Int.toNat (16 + p)) - 1) (Int.toNat (st (Int.toNat (8 + p)) + st (Int.toNat (16 + p)) - 1 - (st (Int.toNat (304 + d)) + q) - 1))) (w - st (Int.toNat (308 + d))) hh) (sMost st d (bt st d p 0 (st (Int.toNat (16 + p))) (st (Int.toNat (8 + p)) + st (Int.toNat (16 + p)) - 1) (Int.toNat (st (Int.toNat (8 + p)) + st (Int.toNat (16 + p)) - 1 - (st (Int.toNat (304 + d)) + q) - 1))) (w - st (Int.toNat (308 + d))) hh) i j → pqNext h st d p q w hh (some (.inl (w' * 7 + k))) h := by
    intro w' k i j a1 a2 a3 a4 a5 a6 a7 a8 a9 a10
    obtain ⟨m1, m2, m3⟩ := hmatch w' k i j a1 a2 a3 a4 a5 a6 a7 a8
    have hm := m1.mp a9
    obtain ⟨n1, n2⟩ := m2 hm
    refine ⟨rfl, w', k, rfl, ⟨a1, a2⟩, ⟨a3, a4⟩, ⟨i, j, ⟨a7, a8, hm, a10⟩, by omega, a6⟩, n1, by omega, by unfold zabs; split <;> omega, by unfold zabs; split <;> omega⟩
  have hmx := sMo_att (sG st d (bt st d p 0 (st (Int.toNat (16 + p))) (st (Int.toNat (8 + p)) + st (Int.toNat (16 + p)) - 1) (Int.toNat (st (Int.toNat (8 + p)) + st (Int.toNat (16 + p)) - 1 - (st (Int.toNat (304 + d)) + q) - 1))) (w - st (Int.toNat (308 + d))) hh) (Int.toNat (2 * st (Int.toNat (312 + d)) + 1))
  have lp : ∀ (m : Nat) (w' : Int) (i : Nat), w' + m = hw + 1 → lw ≤ w' → w' = w - st (Int.toNat (312 + d)) + i → NoB (sG st d (bt st d p 0 (st (Int.toNat (16 + p))) (st (Int.toNat (8 + p)) + st (Int.toNat (16 + p)) - 1) (Int.toNat (st (Int.toNat (8 + p)) + st (Int.toNat (16 + p)) - 1 - (st (Int.toNat (304 + d)) + q) - 1))) (w - st (Int.toNat (308 + d))) hh) (sMost st d (bt st d p 0 (st (Int.toNat (16 + p))) (st (Int.toNat (8 + p)) + st (Int.toNat (16 + p)) - 1) (Int.toNat (st (Int.toNat (8 + p)) + st (Int.toNat (16 + p)) - 1 - (st (Int.toNat (304 + d)) + q) - 1))) (w - st (Int.toNat (308 + d))) hh) i 0 → PW G X 9 (pw_E G X (pqNext h st d p q w hh) 0 0) 0 0 70 [some (.inr 104), some (.inl (q + 1)), some (.inl w), some (.inl hh), some (.inl due), some (.inl hw), some (.inl h6), some (.inl w'), none] [] h := by
    intro m
    induction m with
    | zero =>
      intro w' i hm hl hi hN
      exfalso
      rcases hmx with y | ⟨i', j', i0, j0, ij⟩
      · exact al1 y
      · by_cases z : i' < i
        · exact hN i' j' j0 (Or.inl z) ij
        · exact dead1 i' j' (ar2 hm hi hwb hls.2 i0 z) ij
    | succ m ih =>
      intro w' i hm hl hi hN
      refine B_X2_nextCell_70 C (kt := fun c => by omega) (kf := fun c => ?_)
      generalize hlh : (if 0 < hh - 1 then hh - 1 else 0) = lh
      have lhb : hh - 1 ≤ lh ∧ 0 ≤ lh ∧ (lh = hh - 1 ∨ lh = 0) := by omega
      refine B_X2_nextCell_77 C (x3 := lh) (e4 := hlh) (kk := ?_)
      have lp2 : ∀ (u : Nat) (k : Int) (j : Nat), k + u = h6 + 1 → lh ≤ k → k = hh - 1 + j → NoB (sG st d (bt st d p 0 (st (Int.toNat (16 + p))) (st (Int.toNat (8 + p)) + st (Int.toNat (16 + p)) - 1) (Int.toNat (st (Int.toNat (8 + p)) + st (Int.toNat (16 + p)) - 1 - (st (Int.toNat (304 + d)) + q) - 1))) (w - st (Int.toNat (308 + d))) hh) (sMost st d (bt st d p 0 (st (Int.toNat (16 + p))) (st (Int.toNat (8 + p)) + st (Int.toNat (16 + p)) - 1) (Int.toNat (st (Int.toNat (8 + p)) + st (Int.toNat (16 + p)) - 1 - (st (Int.toNat (304 + d)) + q) - 1))) (w - st (Int.toNat (308 + d))) hh) i j → PW G X 9 (pw_E G X (pqNext h st d p q w hh) 0 0) 0 0 86 [some (.inr 104), some (.inl (q + 1)), some (.inl w), some (.inl hh), some (.inl due), some (.inl hw), some (.inl h6), some (.inl w'), some (.inl k)] [] h := by
        intro u
        induction u with
        | zero =>
          intro k j hu hk hj hN
          refine B_X2_nextCell_86 C (kt := fun c => ?_) (kf := fun c => by omega)
          refine B_X2_nextCell_142 C (kk := ?_)
          refine ih (w' + 1) (i + 1) (by omega) (by omega) (by omega) (fun i' j' j0 z => ?_)
          by_cases y : i' < i
          · exact hN i' j' j0 (Or.inl y)
          · have e : i' = i := by omega
            subst e
            by_cases y2 : j' < j
            · exact hN i' j' j0 (Or.inr ⟨rfl, y2⟩)
            · exact dead2 i' j' (ar1 hu hj h6b j0 y2)
        | succ u ihu =>
          intro k j hu hk hj hN
          obtain ⟨m1, m2, m3⟩ := hmatch w' k i j (by omega) (by omega) (by omega) (by omega) hi hj (by omega) (by omega)
          have zw : 0 ≤ zabs (w' - w) ∧ zabs (w' - w) ≤ 3 := by unfold zabs; split <;> omega
          have zk : 0 ≤ zabs (k - hh) ∧ zabs (k - hh) ≤ 1 := by unfold zabs; split <;> omega
          refine B_X2_nextCell_86 C (kt := fun c => by omega) (kf := fun c => ?_)
          refine B_X2_nextCell_93 C (r2 := 106) (hM := ct_X2_cell _ _ _) (kk := fun rr h' hq => ?_)
          obtain ⟨rfl, rfl⟩ := hq
          refine B_X2_nextCell_105 C (x5 := ph_I h 106 (Int.toNat ((q + 1) * 511 + w' * 7 + k))) (e6 := rfl) (x8 := zabs (w' - w)) (e9 := rfl) (x11 := zabs (k - hh)) (e12 := rfl) (q13 := by unfold pR; omega) (q14 := by unfold pR; omega) (kt := fun c2 => ?_) (kf := fun c2 => ?_)
          · refine B_X2_nextCell_136 C (kk := ?_)
            refine ihu (k + 1) (j + 1) (by omega) (by omega) (by omega) (fun i' j' j0 z => ?_)
            by_cases y : i' < i ∨ (i' = i ∧ j' < j)
            · exact hN i' j' j0 y
            · have e : i' = i ∧ j' = j := by omega
              rw [e.1, e.2]
              exact fun z => c2 (m1.mpr z)
          · exact B_X2_nextCell_127 C (hq := found w' k i j (by omega) (by omega) (by omega) (by omega) hi hj (by omega) (by omega) c2 hN)
      obtain ⟨x1, x2, x3⟩ := ar3 h0 lhb h6b
      refine lp2 (Int.toNat (h6 + 1 - lh)) lh (Int.toNat (lh - (hh - 1))) x1 (Int.le_refl _) x2 (fun i' j' j0 z => ?_)
      rcases z with z | ⟨z1, z2⟩
      · exact hN i' j' j0 (Or.inl z)
      · exact dead2 i' j' (Or.inl (x3 j' z2))
  refine B_X2_nextCell_56 C (r2 := mc) (x5 := st (Int.toNat (312 + d))) (x9 := lw) (e10 := hlw) (kk := ?_)
  obtain ⟨x1, x2, x3⟩ := ar4 lwb hls hwb ⟨by omega, by omega⟩ g2.1 (loW_n hDd q0.1 w0 ⟨by omega, by omega⟩ (by unfold zabs; split <;> omega))
  refine lp (Int.toNat (hw + 1 - lw)) lw (Int.toNat (lw - (w - st (Int.toNat (312 + d))))) x1 (Int.le_refl _) x2 (fun i' j' j0 z => dead1 i' j' (Or.inl (x3 i' (by omega))))
