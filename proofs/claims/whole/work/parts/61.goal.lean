/-! the search: its cells, winds, goals, gains, a row entered -/
def SC (h : PH) (st : ST) (d p : Int) (mc fc ra sb : Nat) : Prop := (ph_T h 104 = 2 ∧ ph_T h 3 = 5 ∧ ph_T h 6 = 3 ∧ ph_T h 106 = 8 ∧ ph_T h 107 = 8 ∧ ph_T h ra = 8 ∧ ph_T h sb = 8 ∧ ph_T h mc = 1) ∧ (ph_L h 106 = 38836 ∧ ph_L h 107 = 511 ∧ ph_L h ra = 525 ∧ ph_L h sb = 525) ∧ (ph_R h 104 0 = 3 ∧ ph_R h 3 2 = 6 ∧ ph_R h 104 2 = 106 ∧ ph_R h 104 3 = 107 ∧ ph_R h 104 4 = ra ∧ ph_R h 104 5 = sb ∧ ph_R h 104 6 = mc ∧ ph_R h 104 7 = fc) ∧ ((ra = 108 ∧ sb = 109) ∨ (ra = 109 ∧ sb = 108)) ∧ FS h fc ∧ (2 ≤ mc ∧ mc < 104 ∧ fc + 2 < 104) ∧ FR h fc st p ∧ MR h mc st d ∧ SR h 6 st ∧ OkS st ∧ Ok2 st ∧ (0 ≤ d ∧ d ≤ 3) ∧ (0 ≤ p ∧ p < st 484)
theorem Fr.FR {M : Nat → Prop} {h h' : PH} {st : ST} {p : Int} {c : Nat} (x : Fr M h h') (hc : ¬ M c ∧ ¬ M (c + 1) ∧ ¬ M (c + 2)) (f : FR h c st p) : FR h' c st p := by
  obtain ⟨⟨f1, f2, f3, f4, f5⟩, f6⟩ := f
  refine ⟨⟨?_, ?_, ?_, ?_, ?_⟩, fun k k0 k1 => ⟨?_, ?_⟩⟩
  · rw [x.I hc.1]; exact f1
  · rw [x.I hc.1]; exact f2
  · rw [x.I hc.1]; exact f3
  · rw [x.I hc.1]; exact f4
  · rw [x.I hc.1]; exact f5
  · rw [x.I hc.2.1]; exact (f6 k k0 k1).1
  · rw [x.I hc.2.2]; exact (f6 k k0 k1).2
theorem Fr.MR {M : Nat → Prop} {h h' : PH} {st : ST} {d : Int} {c : Nat} (x : Fr M h h') (hc : ¬ M c) (f : MR h c st d) : MR h' c st d := by
  obtain ⟨f1, f2, f3, f4, f5⟩ := f
  refine ⟨?_, ?_, ?_, ?_, ?_⟩ <;> (rw [x.I hc]; assumption)
theorem Fr.SR {M : Nat → Prop} {h h' : PH} {st : ST} {c : Nat} (x : Fr M h h') (hc : ¬ M c) (f : SR h c st) : SR h' c st := by
  obtain ⟨⟨f1, f2, f3, f4, f5⟩, f6, f7⟩ := f
  refine ⟨⟨?_, ?_, ?_, ?_, ?_⟩, ?_, ?_⟩
  · rw [x.I hc]; exact f1
  · rw [x.I hc]; exact f2
  · rw [x.I hc]; exact f3
  · rw [x.I hc]; exact f4
  · rw [x.I hc]; exact f5
  · rw [x.I hc, x.I hc]; exact f6
  · rw [x.I hc, x.I hc]; exact f7
theorem SC.fr {M : Nat → Prop} {h h' : PH} {st : ST} {d p : Int} {mc fc ra sb : Nat} (hC : SC h st d p mc fc ra sb) (x : Fr M h h') (hM : ∀ c, M c → 104 ≤ c) : SC h' st d p mc fc ra sb := by
  obtain ⟨⟨t104, t3, t6, t106, t107, tra, tsb, tmc⟩, ⟨l106, l107, lra, lsb⟩, ⟨r1040, r32, r1042, r1043, r1044, r1045, r1046, r1047⟩, hra, hfs, ⟨b1, b2, b3⟩, hFR, hMR, hSR, hS, h2, d0, p0⟩ := hC
  refine ⟨?_, ?_, ?_, hra, x.fs hfs, ⟨b1, b2, b3⟩, x.FR ⟨fun z => by have := hM _ z; omega, fun z => by have := hM _ z; omega, fun z => by have := hM _ z; omega⟩ hFR, x.MR (fun z => by have := hM _ z; omega) hMR, x.SR (fun z => by have := hM _ z; omega) hSR, hS, h2, d0, p0⟩
  · simp only [x.T]; exact ⟨t104, t3, t6, t106, t107, tra, tsb, tmc⟩
  · simp only [x.L]; exact ⟨l106, l107, lra, lsb⟩
  · simp only [x.R]; exact ⟨r1040, r32, r1042, r1043, r1044, r1045, r1046, r1047⟩
def loW (st : ST) (d r : Int) : Int := if 0 < (st (Int.toNat (296 + d)) + st (Int.toNat (308 + d))) - (r * st (Int.toNat (312 + d))) then (st (Int.toNat (296 + d)) + st (Int.toNat (308 + d))) - (r * st (Int.toNat (312 + d))) else 0
def hiW (st : ST) (d r : Int) : Int := if (st (Int.toNat (296 + d)) + st (Int.toNat (308 + d))) + (r * st (Int.toNat (312 + d))) < 2 * st (Int.toNat (308 + d)) then (st (Int.toNat (296 + d)) + st (Int.toNat (308 + d))) + (r * st (Int.toNat (312 + d))) else 2 * st (Int.toNat (308 + d))
theorem loW_b {st : ST} {d r : Int} (hD : OkD st d) (r0 : 0 ≤ r) : 0 ≤ loW st d r ∧ loW st d r ≤ st (Int.toNat (296 + d)) + st (Int.toNat (308 + d)) ∧ st (Int.toNat (296 + d)) + st (Int.toNat (308 + d)) ≤ hiW st d r ∧ hiW st d r ≤ 2 * st (Int.toNat (308 + d)) ∧ (st (Int.toNat (296 + d)) + st (Int.toNat (308 + d)) ≤ 2 * st (Int.toNat (308 + d)) ∧ 0 ≤ st (Int.toNat (296 + d)) + st (Int.toNat (308 + d))) := by
  obtain ⟨g1, g2, g3, g4, g5⟩ := hD
  have gw : -st (Int.toNat (308 + d)) ≤ st (Int.toNat (296 + d)) ∧ st (Int.toNat (296 + d)) ≤ st (Int.toNat (308 + d)) := by have := g4; unfold zabs at this; split at this <;> omega
  have := Int.mul_nonneg r0 (show 0 ≤ st (Int.toNat (312 + d)) by omega)
  unfold loW hiW
  generalize r * st (Int.toNat (312 + d)) = y at *
  split <;> split <;> omega
theorem loW_0 {st : ST} {d : Int} (hD : OkD st d) : loW st d 0 = st (Int.toNat (296 + d)) + st (Int.toNat (308 + d)) ∧ hiW st d 0 = st (Int.toNat (296 + d)) + st (Int.toNat (308 + d)) := by
  obtain ⟨g1, g2, g3, g4, g5⟩ := hD
  have gw : -st (Int.toNat (308 + d)) ≤ st (Int.toNat (296 + d)) ∧ st (Int.toNat (296 + d)) ≤ st (Int.toNat (308 + d)) := by have := g4; unfold zabs at this; split at this <;> omega
  unfold loW hiW
  rw [Int.zero_mul]
  constructor <;> split <;> omega
theorem loW_s {st : ST} {d : Int} (r : Int) (hD : OkD st d) : loW st d (r + 1) = (if 0 < loW st d r - st (Int.toNat (312 + d)) then loW st d r - st (Int.toNat (312 + d)) else 0) ∧ hiW st d (r + 1) = (if hiW st d r + st (Int.toNat (312 + d)) < 2 * st (Int.toNat (308 + d)) then hiW st d r + st (Int.toNat (312 + d)) else 2 * st (Int.toNat (308 + d))) := by
  obtain ⟨g1, g2, g3, g4, g5⟩ := hD
  unfold loW hiW
  rw [Int.add_mul, Int.one_mul]
  generalize r * st (Int.toNat (312 + d)) = y
  constructor <;> grind
theorem mul_r {r s : Int} (r0 : 0 ≤ r ∧ r ≤ 80) (s0 : 1 ≤ s ∧ s ≤ 3) : 0 ≤ r * s ∧ r * s ≤ 240 := by
  have hs : s = 1 ∨ s = 2 ∨ s = 3 := by omega
  rcases hs with rfl | rfl | rfl <;> omega
def Goal (st : ST) (p t gs gh : Int) : Prop := ((gs = -6 ∧ gh = -6) ∨ ((0 ≤ gs ∧ gs ≤ 23) ∧ (0 ≤ gh ∧ gh ≤ 6))) ∧ ∀ w hh : Int, 0 ≤ hh → ((hh = gh ∧ (w + 48) % 24 = gs) ↔ sS st p 0 (st (Int.toNat (16 + p))) t w hh = true)
theorem sS_iff (st : ST) (p f n t w hh : Int) : sS st p f n t w hh = true ↔ (f ≤ t - st (Int.toNat (8 + p)) ∧ t - st (Int.toNat (8 + p)) ≤ n - 1 ∧ hh ≤ st 491 ∧ st (Int.toNat ((40 + (16 * p)) + (t - st (Int.toNat (8 + p))))) = (w + 48) % 24 ∧ st (Int.toNat ((168 + (16 * p)) + (t - st (Int.toNat (8 + p))))) = hh ∧ ¬ sB st ((w + 48) % 24) hh t = true) := by
  unfold sS
  simp [Bool.and_eq_true, decide_eq_true_eq]
theorem ct_X2_lowWind (G : Gx) (l : Launch) (h : PH) {st : ST} {d p : Int} {mc fc ra sb : Nat} (hC : SC h st d p mc fc ra sb) {r : Int} (r0 : 0 ≤ r ∧ r ≤ 80) : CT_X2_lowWind G l [.inr 104, .inl r] h (pqI (loW st d r) h) := by
  obtain ⟨⟨t104, t3, t6, t106, t107, tra, tsb, tmc⟩, ⟨l106, l107, lra, lsb⟩, ⟨r1040, r32, r1042, r1043, r1044, r1045, r1046, r1047⟩, hra, hfs, ⟨b1, b2, b3⟩, hFR, hMR, hSR, hS, h2, d0, p0⟩ := id hC
  obtain ⟨hs, hb, hmany, hD, hPp⟩ := id hS
  obtain ⟨g1, g2, g3, g4, g5⟩ := hD d d0.1 d0.2
  obtain ⟨g6, g7⟩ := hPp p p0.1 p0.2
  obtain ⟨⟨ft0, ft1, ft2⟩, ⟨fl1, fl2⟩, fr0, fr1⟩ := id hfs
  obtain ⟨⟨f2, f3, f4, f5, f6⟩, fpt⟩ := id hFR
  obtain ⟨m0, m1, m2, m3, m4⟩ := id hMR
  have gw : -st (Int.toNat (308 + d)) ≤ st (Int.toNat (296 + d)) ∧ st (Int.toNat (296 + d)) ≤ st (Int.toNat (308 + d)) := by have := g4; unfold zabs at this; split at this <;> omega
  refine ct_intro rfl (Nat.le_of_ble_eq_true rfl) (fun X hX C => ?_)
  have hm := mul_r r0 g2
  exact B_X2_lowWind_0 C (r2 := mc) (r8 := mc) (r14 := mc) (x5 := st (Int.toNat (296 + d))) (x11 := st (Int.toNat (308 + d))) (x17 := st (Int.toNat (312 + d))) (q20 := by unfold pR; generalize r * st (Int.toNat (312 + d)) = y at *; omega) (x21 := loW st d r) (e22 := rfl) (hq := ⟨rfl, rfl⟩)
theorem ct_X2_highWind (G : Gx) (l : Launch) (h : PH) {st : ST} {d p : Int} {mc fc ra sb : Nat} (hC : SC h st d p mc fc ra sb) {r : Int} (r0 : 0 ≤ r ∧ r ≤ 80) : CT_X2_highWind G l [.inr 104, .inl r] h (pqI (hiW st d r) h) := by
  obtain ⟨⟨t104, t3, t6, t106, t107, tra, tsb, tmc⟩, ⟨l106, l107, lra, lsb⟩, ⟨r1040, r32, r1042, r1043, r1044, r1045, r1046, r1047⟩, hra, hfs, ⟨b1, b2, b3⟩, hFR, hMR, hSR, hS, h2, d0, p0⟩ := id hC
  obtain ⟨hs, hb, hmany, hD, hPp⟩ := id hS
  obtain ⟨g1, g2, g3, g4, g5⟩ := hD d d0.1 d0.2
  obtain ⟨g6, g7⟩ := hPp p p0.1 p0.2
  obtain ⟨⟨ft0, ft1, ft2⟩, ⟨fl1, fl2⟩, fr0, fr1⟩ := id hfs
  obtain ⟨⟨f2, f3, f4, f5, f6⟩, fpt⟩ := id hFR
  obtain ⟨m0, m1, m2, m3, m4⟩ := id hMR
  have gw : -st (Int.toNat (308 + d)) ≤ st (Int.toNat (296 + d)) ∧ st (Int.toNat (296 + d)) ≤ st (Int.toNat (308 + d)) := by have := g4; unfold zabs at this; split at this <;> omega
  refine ct_intro rfl (Nat.le_of_ble_eq_true rfl) (fun X hX C => ?_)
  have hm := mul_r r0 g2
  exact B_X2_highWind_0 C (r2 := mc) (r8 := mc) (r14 := mc) (r20 := mc) (x5 := st (Int.toNat (308 + d))) (x11 := st (Int.toNat (296 + d))) (x17 := st (Int.toNat (308 + d))) (x23 := st (Int.toNat (312 + d))) (q26 := by unfold pR; generalize r * st (Int.toNat (312 + d)) = y at *; omega) (x27 := hiW st d r) (e28 := rfl) (hq := ⟨rfl, rfl⟩)
theorem ct_X2_cell (G : Gx) (l : Launch) (h : PH)  {a b c : Int} : CT_X2_cell G l [.inl a, .inl b, .inl c] h (pqI (a * 511 + b * 7 + c) h) := by
  refine ct_intro rfl (Nat.le_of_ble_eq_true rfl) (fun X hX C => ?_)
  exact B_X2_cell_0 C (hq := by exact ⟨rfl, rfl⟩)
theorem ct_X2_isDead (G : Gx) (l : Launch) (h : PH)  {a : Int} (ga : pR a := by first | assumption | (unfold pR; omega)) : CT_X2_isDead G l [.inl a] h (pqB (a < -500000) h) := by
  refine ct_intro rfl (Nat.le_of_ble_eq_true rfl) (fun X hX C => ?_)
  refine B_X2_isDead_0 C (kt := fun c1 => ?_) (kf := fun c1 => ?_)
  · refine B_X2_isDead_10 C (kk := ?_)
    exact B_X2_isDead_11 C (hq := by first | exact ⟨rfl, Or.inl ⟨rfl, by omega⟩⟩ | exact ⟨rfl, Or.inr ⟨rfl, by omega⟩⟩)
  · refine B_X2_isDead_6 C (kk := ?_)
    exact B_X2_isDead_11 C (hq := by first | exact ⟨rfl, Or.inl ⟨rfl, by omega⟩⟩ | exact ⟨rfl, Or.inr ⟨rfl, by omega⟩⟩)
theorem ct_X2_gain (G : Gx) (l : Launch) (h : PH) {st : ST} {d p : Int} {mc fc ra sb : Nat} (hC : SC h st d p mc fc ra sb) {w hh gs gh : Int} (w0 : 0 ≤ w ∧ w ≤ 200) (h0 : 0 ≤ hh ∧ hh ≤ 6) (e9 : ph_I h 104 9 = gs) (e10 : ph_I h 104 10 = gh) (q0 : -6 ≤ gs ∧ gs ≤ 30) (q1 : -6 ≤ gh ∧ gh ≤ 30) : CT_X2_gain G l [.inr 104, .inl w, .inl hh] h (pqI (if hh = gh ∧ (w - st (Int.toNat (308 + d)) + 48) % 24 = gs then 1024 else 0) h) := by
  obtain ⟨⟨t104, t3, t6, t106, t107, tra, tsb, tmc⟩, ⟨l106, l107, lra, lsb⟩, ⟨r1040, r32, r1042, r1043, r1044, r1045, r1046, r1047⟩, hra, hfs, ⟨b1, b2, b3⟩, hFR, hMR, hSR, hS, h2, d0, p0⟩ := id hC
  obtain ⟨hs, hb, hmany, hD, hPp⟩ := id hS
  obtain ⟨g1, g2, g3, g4, g5⟩ := hD d d0.1 d0.2
  obtain ⟨g6, g7⟩ := hPp p p0.1 p0.2
  obtain ⟨⟨ft0, ft1, ft2⟩, ⟨fl1, fl2⟩, fr0, fr1⟩ := id hfs
  obtain ⟨⟨f2, f3, f4, f5, f6⟩, fpt⟩ := id hFR
  obtain ⟨m0, m1, m2, m3, m4⟩ := id hMR
  have gw : -st (Int.toNat (308 + d)) ≤ st (Int.toNat (296 + d)) ∧ st (Int.toNat (296 + d)) ≤ st (Int.toNat (308 + d)) := by have := g4; unfold zabs at this; split at this <;> omega
  refine ct_intro rfl (Nat.le_of_ble_eq_true rfl) (fun X hX C => ?_)
  refine B_X2_gain_0 C (kt := fun c1 => ?_) (kf := fun c1 => ?_)
  · refine B_X2_gain_33 C (kk := ?_)
    exact B_X2_gain_34 C (hq := pq_i (by rw [if_neg (fun z => c1 z.1)]))
  · refine B_X2_gain_8 C (r2 := mc) (x5 := st (Int.toNat (308 + d))) (hM := ct_X6_sideOf _ _ _) (kk := fun rr h' hq => ?_)
    obtain ⟨rfl, rfl⟩ := hq
    refine B_X2_gain_20 C (kt := fun c2 => ?_) (kf := fun c2 => ?_)
    · refine B_X2_gain_33 C (kk := ?_)
      exact B_X2_gain_34 C (hq := pq_i (by rw [if_neg (fun z => c2 z.2)]))
    · refine B_X2_gain_27 C (kk := ?_)
      exact B_X2_gain_34 C (hq := pq_i (by rw [if_pos ⟨c1, c2⟩]))
theorem ct_X2_pointOf (G : Gx) (l : Launch) (h : PH) {st : ST} {d p : Int} {mc fc ra sb : Nat} (hC : SC h st d p mc fc ra sb) {r : Int} (r0 : 0 ≤ r ∧ r ≤ 80) : CT_X2_pointOf G l [.inr 104, .inl r] h (pqI (if 0 ≤ st (Int.toNat (304 + d)) + r - st (Int.toNat (8 + p)) ∧ st (Int.toNat (304 + d)) + r - st (Int.toNat (8 + p)) ≤ st (Int.toNat (16 + p)) - 1 then st (Int.toNat (304 + d)) + r - st (Int.toNat (8 + p)) else -1) h) := by
  obtain ⟨⟨t104, t3, t6, t106, t107, tra, tsb, tmc⟩, ⟨l106, l107, lra, lsb⟩, ⟨r1040, r32, r1042, r1043, r1044, r1045, r1046, r1047⟩, hra, hfs, ⟨b1, b2, b3⟩, hFR, hMR, hSR, hS, h2, d0, p0⟩ := id hC
  obtain ⟨hs, hb, hmany, hD, hPp⟩ := id hS
  obtain ⟨g1, g2, g3, g4, g5⟩ := hD d d0.1 d0.2
  obtain ⟨g6, g7⟩ := hPp p p0.1 p0.2
  obtain ⟨⟨ft0, ft1, ft2⟩, ⟨fl1, fl2⟩, fr0, fr1⟩ := id hfs
  obtain ⟨⟨f2, f3, f4, f5, f6⟩, fpt⟩ := id hFR
  obtain ⟨m0, m1, m2, m3, m4⟩ := id hMR
  have gw : -st (Int.toNat (308 + d)) ≤ st (Int.toNat (296 + d)) ∧ st (Int.toNat (296 + d)) ≤ st (Int.toNat (308 + d)) := by have := g4; unfold zabs at this; split at this <;> omega
  refine ct_intro rfl (Nat.le_of_ble_eq_true rfl) (fun X hX C => ?_)
  refine B_X2_pointOf_0 C (r2 := mc) (r8 := fc) (r14 := fc) (x5 := st (Int.toNat (304 + d))) (x11 := st (Int.toNat (8 + p))) (x17 := st (Int.toNat (16 + p))) (hM := ct_X6_isIn _ _ _) (kk := fun rr h' hq => ?_)
  obtain ⟨rfl, ⟨rfl, c1⟩ | ⟨rfl, c1⟩⟩ := hq
  · refine B_X2_pointOf_32 C (kt := fun c => absurd c (by decide)) (kf := fun c => ?_)
    refine B_X2_pointOf_35 C (kk := ?_)
    exact B_X2_pointOf_40 C (hq := pq_i (by rw [if_pos c1]))
  · refine B_X2_pointOf_32 C (kt := fun c => ?_) (kf := fun c => absurd rfl c)
    refine B_X2_pointOf_39 C (kk := ?_)
    exact B_X2_pointOf_40 C (hq := pq_i (by rw [if_neg c1]))
def pqAim (h : PH) (st : ST) (p t : Int) : Option PV → PH → Prop := fun r h' => r = none ∧ Fr (fun c => c = 104) h h' ∧ (∀ k, k ≠ 9 → k ≠ 10 → ph_I h' 104 k = ph_I h 104 k) ∧ Goal st p t (ph_I h' 104 9) (ph_I h' 104 10)
theorem Goal_no {st : ST} {p t : Int} (h : ∀ w hh : Int, 0 ≤ hh → ¬ sS st p 0 (st (Int.toNat (16 + p))) t w hh = true) : Goal st p t (-6) (-6) := ⟨Or.inl ⟨rfl, rfl⟩, fun w hh h0 => ⟨fun z => by omega, fun z => absurd z (h w hh h0)⟩⟩
theorem ct_X2_aimAt (G : Gx) (l : Launch) (h : PH) {st : ST} {d p : Int} {mc fc ra sb : Nat} (hC : SC h st d p mc fc ra sb) {r : Int} (r0 : 0 ≤ r ∧ r ≤ 80) : CT_X2_aimAt G l [.inr 104, .inl r] h (pqAim h st p (st (Int.toNat (304 + d)) + r)) := by
  obtain ⟨⟨t104, t3, t6, t106, t107, tra, tsb, tmc⟩, ⟨l106, l107, lra, lsb⟩, ⟨r1040, r32, r1042, r1043, r1044, r1045, r1046, r1047⟩, hra, hfs, ⟨b1, b2, b3⟩, hFR, hMR, hSR, hS, h2, d0, p0⟩ := id hC
  obtain ⟨hs, hb, hmany, hD, hPp⟩ := id hS
  obtain ⟨g1, g2, g3, g4, g5⟩ := hD d d0.1 d0.2
  obtain ⟨g6, g7⟩ := hPp p p0.1 p0.2
  obtain ⟨⟨ft0, ft1, ft2⟩, ⟨fl1, fl2⟩, fr0, fr1⟩ := id hfs
  obtain ⟨⟨f2, f3, f4, f5, f6⟩, fpt⟩ := id hFR
  obtain ⟨m0, m1, m2, m3, m4⟩ := id hMR
  have gw : -st (Int.toNat (308 + d)) ≤ st (Int.toNat (296 + d)) ∧ st (Int.toNat (296 + d)) ≤ st (Int.toNat (308 + d)) := by have := g4; unfold zabs at this; split at this <;> omega
  refine ct_intro rfl (Nat.le_of_ble_eq_true rfl) (fun X hX C => ?_)
  refine B_X2_aimAt_0 C (r2 := mc) (x5 := st (Int.toNat (304 + d))) (hM := ct_X2_pointOf _ _ _ hC r0) (kk := fun rr h' hq => ?_)
  obtain ⟨rfl, rfl⟩ := hq
  have hF : Fr (fun c => c = 104) h (ph_setI (ph_setI h 104 9 (-6)) 104 10 (-6)) := ((Fr.rf (fun c => c = 104) h).set rfl _ _).set rfl _ _
  have hC2 := hC.fr hF (fun c hc => by subst hc; exact Nat.le_refl _)
  have k2 : ∀ k, k ≠ 9 → k ≠ 10 → ph_I (ph_setI (ph_setI h 104 9 (-6)) 104 10 (-6)) 104 k = ph_I h 104 k := fun k a b => by rw [sI_k b, sI_k a]
  have k9 : ph_I (ph_setI (ph_setI h 104 9 (-6)) 104 10 (-6)) 104 9 = -6 := by rw [sI_k (by decide), sI_eq]
  have k10 : ph_I (ph_setI (ph_setI h 104 9 (-6)) 104 10 (-6)) 104 10 = -6 := by rw [sI_eq]
  have fin : ∀ a2 a3 : Int, (∀ w hh : Int, 0 ≤ hh → ¬ sS st p 0 (st (Int.toNat (16 + p))) (st (Int.toNat (304 + d)) + r) w hh = true) → PW G X 4 (pw_E G X (pqAim h st p (st (Int.toNat (304 + d)) + r)) 0 0) 0 0 112 [some (.inr 104), some (.inl r), some (.inl a2), some (.inl a3)] [] (ph_setI (ph_setI h 104 9 (-6)) 104 10 (-6)) := fun a2 a3 hn =>
    B_X2_aimAt_112 C (hq := ⟨rfl, hF, k2, by rw [k9, k10]; exact Goal_no hn⟩)
  by_cases cp : 0 ≤ st (Int.toNat (304 + d)) + r - st (Int.toNat (8 + p)) ∧ st (Int.toNat (304 + d)) + r - st (Int.toNat (8 + p)) ≤ st (Int.toNat (16 + p)) - 1
  · rw [if_pos cp]
    refine B_X2_aimAt_15 C (kt := fun c1 => by omega) (kf := fun c1 => ?_)
    have pt := fpt _ cp.1 (by omega)
    have pk := (h2.1 p p0.1 p0.2).2.2 _ cp.1 (by omega)
    clear hs
    generalize hh2 : ph_setI (ph_setI h 104 9 (-6)) 104 10 (-6) = h2x at *
    generalize hkk : st (Int.toNat (304 + d)) + r - st (Int.toNat (8 + p)) = kk at *
    obtain ⟨⟨t104, t3, t6, t106, t107, tra, tsb, tmc⟩, ⟨l106, l107, lra, lsb⟩, ⟨r1040, r32, r1042, r1043, r1044, r1045, r1046, r1047⟩, hra, hfs, ⟨b1, b2, b3⟩, hFR, hMR, hSR, hS, h2y, d0y, p0y⟩ := id hC2
    obtain ⟨hs, hb, hmany, hD, hPp⟩ := id hS
    obtain ⟨g1, g2, g3, g4, g5⟩ := hD d d0.1 d0.2
    obtain ⟨g6, g7⟩ := hPp p p0.1 p0.2
    obtain ⟨⟨ft0, ft1, ft2⟩, ⟨fl1, fl2⟩, fr0, fr1⟩ := id hfs
    obtain ⟨⟨f2, f3, f4, f5, f6⟩, fpt⟩ := id hFR
    obtain ⟨m0, m1, m2, m3, m4⟩ := id hMR
    have gw : -st (Int.toNat (308 + d)) ≤ st (Int.toNat (296 + d)) ∧ st (Int.toNat (296 + d)) ≤ st (Int.toNat (308 + d)) := by have := g4; unfold zabs at this; split at this <;> omega
    have pt2 := fpt _ cp.1 (by omega)
    have sbx := okSky
    refine B_X2_aimAt_32 C (r2 := fc) (r5 := fc + 2) (x11 := st (Int.toNat ((168 + (16 * p)) + kk))) (e12 := pt2.2) (r14 := 3) (r17 := 6) (x20 := st 491) (e21 := hSR.1.2.2.2.2) (q22 := by unfold pR; omega) (q23 := hb _) (kt := fun c2 => ?_) (kf := fun c2 => ?_)
    · exact fin _ _ (fun w hh h0 z => by rw [sS_iff, hkk] at z; obtain ⟨z1, z2, z3, z4, z5, z6⟩ := z; omega)
    · refine B_X2_aimAt_54 C (r2 := 3) (r5 := 6) (r8 := fc) (r11 := fc + 1) (x17 := st (Int.toNat ((40 + (16 * p)) + kk))) (e18 := pt2.1) (r20 := fc) (r23 := fc + 2) (x29 := st (Int.toNat ((168 + (16 * p)) + kk))) (e30 := pt2.2) (hM := ct_X3_isBurnt _ _ _ t6 hSR hs pk.1 pk.2 ⟨by omega, by omega⟩) (kk := fun rr h' hq => ?_)
      obtain ⟨rfl, ⟨rfl, c3⟩ | ⟨rfl, c3⟩⟩ := hq
      · refine B_X2_aimAt_83 C (kt := fun c => ?_) (kf := fun c => absurd c (by decide))
        exact fin _ _ (fun w hh h0 z => by rw [sS_iff, hkk] at z; obtain ⟨z1, z2, z3, z4, z5, z6⟩ := z; rw [← z4, ← z5] at z6; exact z6 c3)
      · refine B_X2_aimAt_83 C (kt := fun c => absurd rfl c) (kf := fun c => ?_)
        refine B_X2_aimAt_86 C (r2 := fc) (r5 := fc + 1) (x11 := st (Int.toNat ((40 + (16 * p)) + kk))) (e12 := pt2.1) (r15 := fc) (r18 := fc + 2) (x24 := st (Int.toNat ((168 + (16 * p)) + kk))) (e25 := by rw [sI_c (by omega)]; exact pt2.2) (kk := ?_)
        refine B_X2_aimAt_112 C (hq := ⟨rfl, (hF.set rfl _ _).set rfl _ _, fun k a b => by rw [sI_k b, sI_k a]; exact k2 k a b, ?_⟩)
        rw [sI_k (by decide), sI_eq, sI_eq]
        refine ⟨Or.inr pk, fun w hh h0 => ?_⟩
        rw [sS_iff, hkk]
        constructor
        · intro z
          obtain ⟨z1, z2⟩ := z
          exact ⟨cp.1, cp.2, by omega, z2.symm, z1.symm, by rw [z1, z2]; exact c3⟩
        · intro z
          obtain ⟨z1, z2, z3, z4, z5, z6⟩ := z
          exact ⟨z5.symm, z4.symm⟩
  · rw [if_neg cp]
    refine B_X2_aimAt_15 C (kt := fun c1 => ?_) (kf := fun c1 => by omega)
    exact fin _ _ (fun w hh h0 z => by rw [sS_iff] at z; exact cp ⟨z.1, z.2.1⟩)
