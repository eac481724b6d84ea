/-! the class whole: its cells, what they tell; bestWay -/
def ShC (h : PH) (y : Nat) (st : ST) (d p : Int) : Prop := ∀ k : Int, 0 ≤ k → k ≤ st (Int.toNat (16 + p)) → ph_I h (y + 4) (Int.toNat k) = sBy st d p 0 k ∧ ph_I h (y + 5) (Int.toNat k) = sBy st d p k (st (Int.toNat (16 + p)))
/-- a kept way tells what it should -/
def WY1 (h : PH) (st : ST) (d : Nat) : Prop := (ph_I h (110 + 6 * d) 7 = 0 ∨ ph_I h (110 + 6 * d) 7 = 1) ∧ (ph_I h (110 + 6 * d) 5 = -6 ∨ ∃ p : Int, (0 ≤ p ∧ p < st 484) ∧ 0 < st (Int.toNat (16 + p)) ∧ ph_I h (110 + 6 * d) 5 = st (Int.toNat p) ∧ WayC h (110 + 6 * d) st d p ∧ (ph_I h (110 + 6 * d) 7 = 0 ∨ ShC h (110 + 6 * d) st d p))
def WY (h : PH) (st : ST) : Prop := ∀ d : Nat, d < 4 → WY1 h st d
/-- the class's cells stand where they were made -/
def XS (h : PH) : Prop := (ph_T h 2 = 6 ∧ ph_R h 2 0 = 3 ∧ ph_R h 2 1 = 36 ∧ ph_R h 2 2 = 37 ∧ ph_R h 2 3 = 104) ∧ (ph_T h 36 = 13 ∧ ph_L h 36 = 2 ∧ ph_R h 36 0 = 38 ∧ ph_R h 36 1 = 71 ∧ ph_T h 37 = 9 ∧ ph_L h 37 = 2) ∧ (WS h 3 ∧ WS h 38 ∧ WS h 71) ∧ (ph_T h 104 = 2 ∧ ph_R h 104 0 = 3 ∧ ph_R h 104 1 = 105 ∧ ph_R h 104 2 = 106 ∧ ph_R h 104 3 = 107 ∧ ((ph_R h 104 4 = 108 ∧ ph_R h 104 5 = 109) ∨ (ph_R h 104 4 = 109 ∧ ph_R h 104 5 = 108))) ∧ (ph_T h 105 = 12 ∧ ph_L h 105 = 4 ∧ ph_T h 106 = 8 ∧ ph_T h 107 = 8 ∧ ph_T h 108 = 8 ∧ ph_T h 109 = 8 ∧ ph_L h 106 = 38836 ∧ ph_L h 107 = 511 ∧ ph_L h 108 = 525 ∧ ph_L h 109 = 525) ∧ ∀ d : Nat, d < 4 → ph_R h 105 d = 110 + 6 * d ∧ YS h (110 + 6 * d)
def CW (h : PH) (st : ST) : Prop := XS h ∧ WR h 3 st ∧ OkS st ∧ Ok2 st ∧ WY h st
theorem SFr.Rc {M : Nat → Prop} {h h' : PH} (x : SFr M h h') {c : Nat} (hc : c ≠ 104) (k : Nat) : ph_R h' c k = ph_R h c k := x.2.2.2.1 c k (fun z => hc z.1)
theorem SFr.Rk {M : Nat → Prop} {h h' : PH} (x : SFr M h h') {k : Nat} (hk : k < 4) (c : Nat) : ph_R h' c k = ph_R h c k := x.2.2.2.1 c k (fun z => by omega)
theorem FS_congr {h h' : PH} {c : Nat} (hT : ∀ e, ph_T h' e = ph_T h e) (hL : ∀ e, ph_L h' e = ph_L h e) (hR : ∀ k, ph_R h' c k = ph_R h c k) (f : FS h c) : FS h' c := by
  unfold FS at *
  simp only [hT, hL, hR]
  exact f
theorem WS_congr {h h' : PH} {b : Nat} (hT : ∀ e, ph_T h' e = ph_T h e) (hL : ∀ e, ph_L h' e = ph_L h e) (hR : ∀ e, b ≤ e → e < b + 33 → ∀ k, ph_R h' e k = ph_R h e k) (f : WS h b) : WS h' b := by
  obtain ⟨f1, f2, f3, f4, f5, f6⟩ := f
  have r0 := hR b (by omega) (by omega)
  have r1 := hR (b + 1) (by omega) (by omega)
  have r2 := hR (b + 2) (by omega) (by omega)
  unfold WS
  simp only [hT, hL, r0, r1, r2]
  refine ⟨f1, f2, f3, fun i hi => ?_, f5, f6⟩
  obtain ⟨g1, j, hj, g2⟩ := f4 i hi
  exact ⟨FS_congr hT hL (fun k => hR _ (by omega) (by omega) k) g1, j, hj, g2⟩
theorem FR_congr {h h' : PH} {st : ST} {p : Int} {c : Nat} (hI : ∀ e, c ≤ e → e ≤ c + 2 → ∀ k, ph_I h' e k = ph_I h e k) (f : FR h c st p) : FR h' c st p := by
  have i0 := hI c (by omega) (by omega)
  have i1 := hI (c + 1) (by omega) (by omega)
  have i2 := hI (c + 2) (by omega) (by omega)
  unfold FR at *
  simp only [i0, i1, i2]
  exact f
theorem MR_congr {h h' : PH} {st : ST} {d : Int} {c : Nat} (hI : ∀ k, ph_I h' c k = ph_I h c k) (f : MR h c st d) : MR h' c st d := by
  unfold MR at *
  simp only [hI]
  exact f
theorem SR_congr {h h' : PH} {st : ST} {c : Nat} (hI : ∀ k, ph_I h' c k = ph_I h c k) (f : SR h c st) : SR h' c st := by
  unfold SR at *
  simp only [hI]
  exact f
theorem WR_congr {h h' : PH} {st : ST} {b : Nat} (hw : WS h b) (h8 : st 484 ≤ 8) (hR : ∀ k, ph_R h' (b + 1) k = ph_R h (b + 1) k) (hI : ∀ e, b ≤ e → e < b + 33 → ∀ k, ph_I h' e k = ph_I h e k) (f : WR h b st) : WR h' b st := by
  obtain ⟨f1, f2, f3, f4, f5⟩ := f
  refine ⟨?_, fun p p0 p1 => ?_, fun d d0 d1 => ?_, ?_, fun j j0 j1 => ?_⟩
  · rw [hI b (by omega) (by omega)]; exact f1
  · rw [hR]
    obtain ⟨-, j, hj, g2⟩ := hw.2.2.2.1 (Int.toNat p) (by omega)
    exact FR_congr (fun e e0 e1 k => hI e (by omega) (by omega) k) (f2 p p0 p1)
  · exact MR_congr (hI _ (by omega) (by omega)) (f3 d d0 d1)
  · exact SR_congr (hI _ (by omega) (by omega)) f4
  · rw [hI _ (by omega) (by omega)]; exact f5 j j0 j1
theorem YS_congr {h h' : PH} {y : Nat} (hT : ∀ e, ph_T h' e = ph_T h e) (hL : ∀ e, ph_L h' e = ph_L h e) (hR : ∀ k, ph_R h' y k = ph_R h y k) (f : YS h y) : YS h' y := by
  unfold YS at *
  simp only [hT, hL, hR]
  exact f
theorem WayC_congr {h h' : PH} {y : Nat} {st : ST} {d p : Int} (hI : ∀ e, y ≤ e → e ≤ y + 3 → ∀ k, ph_I h' e k = ph_I h e k) (f : WayC h y st d p) : WayC h' y st d p := by
  have i0 := hI y (by omega) (by omega)
  have i1 : ph_I h' (y + 1) = ph_I h (y + 1) := funext (hI (y + 1) (by omega) (by omega))
  have i2 : ph_I h' (y + 2) = ph_I h (y + 2) := funext (hI (y + 2) (by omega) (by omega))
  have i3 := hI (y + 3) (by omega) (by omega)
  unfold WayC at *
  simp only [i0, i1, i2, i3]
  exact f
theorem WY1_congr {h h' : PH} {st : ST} {d : Nat} (hI : ∀ e, 110 + 6 * d ≤ e → e ≤ 110 + 6 * d + 5 → ∀ k, ph_I h' e k = ph_I h e k) (f : WY1 h st d) : WY1 h' st d := by
  have i0 := hI (110 + 6 * d) (by omega) (by omega)
  have i4 := hI (110 + 6 * d + 4) (by omega) (by omega)
  have i5 := hI (110 + 6 * d + 5) (by omega) (by omega)
  obtain ⟨f1, f2⟩ := f
  refine ⟨by rw [i0]; exact f1, ?_⟩
  rcases f2 with f2 | ⟨p, p0, n0, e5, w, s⟩
  · left; rw [i0]; exact f2
  · right
    refine ⟨p, p0, n0, by rw [i0]; exact e5, WayC_congr (fun e a b k => hI e a (by omega) k) w, ?_⟩
    rcases s with s | s
    · left; rw [i0]; exact s
    · right
      intro k k0 k1
      rw [i4, i5]
      exact s k k0 k1
theorem XS_sfr {M : Nat → Prop} {h h' : PH} (x : SFr M h h') (hr : (ph_R h' 104 4 = 108 ∧ ph_R h' 104 5 = 109) ∨ (ph_R h' 104 4 = 109 ∧ ph_R h' 104 5 = 108)) (f : XS h) : XS h' := by
  obtain ⟨⟨a1, a2, a3, a4, a5⟩, ⟨b1, b2, b3, b4, b5, b6⟩, ⟨c1, c2, c3⟩, ⟨e1, e2, e3, e4, e5, -⟩, f6, f7⟩ := f
  have hR : ∀ c, c ≠ 104 → ∀ k, ph_R h' c k = ph_R h c k := fun c hc k => x.Rc hc k
  refine ⟨?_, ?_, ⟨WS_congr x.T x.L (fun e a b k => hR e (by omega) k) c1, WS_congr x.T x.L (fun e a b k => hR e (by omega) k) c2, WS_congr x.T x.L (fun e a b k => hR e (by omega) k) c3⟩, ?_, ?_, fun d hd => ?_⟩
  · rw [x.T, hR 2 (by decide), hR 2 (by decide), hR 2 (by decide), hR 2 (by decide)]; exact ⟨a1, a2, a3, a4, a5⟩
  · rw [x.T, x.T, x.L, x.L, hR 36 (by decide), hR 36 (by decide)]; exact ⟨b1, b2, b3, b4, b5, b6⟩
  · rw [x.T, x.Rk (by decide), x.Rk (by decide), x.Rk (by decide), x.Rk (by decide)]; exact ⟨e1, e2, e3, e4, e5, hr⟩
  · simp only [x.T, x.L]; exact f6
  · rw [hR 105 (by decide)]; exact ⟨(f7 d hd).1, YS_congr x.T x.L (hR _ (by omega)) (f7 d hd).2⟩
theorem CW_sfr {M : Nat → Prop} {h h' : PH} {st : ST} (x : SFr M h h') (hM : ∀ c, M c → 104 ≤ c) (hr : (ph_R h' 104 4 = 108 ∧ ph_R h' 104 5 = 109) ∨ (ph_R h' 104 4 = 109 ∧ ph_R h' 104 5 = 108)) (f : CW h st) (hw : WY h' st) : CW h' st := by
  obtain ⟨f1, f2, f3, f4, f5⟩ := f
  exact ⟨XS_sfr x hr f1, WR_congr f1.2.2.1.1 f3.2.2.1.2 (fun k => x.Rc (by decide) k) (fun e a b k => x.I (fun z => by have := hM e z; omega) k) f2, f3, f4, hw⟩
theorem SC_mk {M : Nat → Prop} {h h' : PH} {st : ST} {d p : Int} (f : CW h st) (x : SFr M h h') (hM : ∀ c, M c → 104 ≤ c) (r4 : ph_R h' 104 4 = ph_R h 104 4) (r5 : ph_R h' 104 5 = ph_R h 104 5) (r6 : ph_R h' 104 6 = 32 + Int.toNat d) (r7 : ph_R h' 104 7 = ph_R h 4 (Int.toNat p)) (d0 : 0 ≤ d ∧ d ≤ 3) (p0 : 0 ≤ p ∧ p < st 484) : SC h' st d p (32 + Int.toNat d) (ph_R h 4 (Int.toNat p)) (ph_R h 104 4) (ph_R h 104 5) := by
  obtain ⟨fx, f2, f3, f4, f5⟩ := f
  obtain ⟨⟨a1, a2, a3, a4, a5⟩, ⟨b1, b2, b3, b4, b5, b6⟩, ⟨c1, c2, c3⟩, ⟨e1, e2, e3, e4, e5, e6⟩, ⟨g1, g2, g3, g4, g5, g6, g7, g8, g9, g10⟩, f7⟩ := fx
  have h8 := f3.2.2.1.2
  obtain ⟨w1, w2, w3, w4, w5, w6⟩ := c1
  obtain ⟨v1, j, hj, v2⟩ := w4 (Int.toNat p) (by omega)
  have v2' : ph_R h 4 (Int.toNat p) = 8 + 3 * j := v2
  obtain ⟨u1, u2, u3, u4, u5⟩ := f2
  have ti := (w6 (Int.toNat d) (by omega)).2
  have hI : ∀ e, e < 104 → ∀ k, ph_I h' e k = ph_I h e k := fun e he k => x.I (fun z => by have := hM e z; omega) k
  refine ⟨?_, ?_, ⟨by rw [x.Rk (by decide)]; exact e2, by rw [x.Rk (by decide)]; exact w3.2.2.1, by rw [x.Rk (by decide)]; exact e4, by rw [x.Rk (by decide)]; exact e5, r4, r5, r6, r7⟩, ?_, FS_congr x.T x.L (fun k => x.Rc (by omega) k) v1, ⟨by omega, by omega, by omega⟩, FR_congr (fun e a b k => hI e (by omega) k) (u2 p p0.1 p0.2), MR_congr (hI _ (by omega)) (u3 d d0.1 d0.2), SR_congr (hI _ (by omega)) u4, f3, f4, d0, p0⟩
  · simp only [x.T]
    rcases e6 with ⟨q1, q2⟩ | ⟨q1, q2⟩
    · rw [q1, q2]; exact ⟨e1, w1.1, w1.2.2.2.1, g3, g4, g5, g6, ti⟩
    · rw [q1, q2]; exact ⟨e1, w1.1, w1.2.2.2.1, g3, g4, g6, g5, ti⟩
  · simp only [x.L]
    rcases e6 with ⟨q1, q2⟩ | ⟨q1, q2⟩
    · rw [q1, q2]; exact ⟨g7, g8, g9, g10⟩
    · rw [q1, q2]; exact ⟨g7, g8, g10, g9⟩
  · exact e6
theorem SFr.setR {M : Nat → Prop} {h h' : PH} (x : SFr M h h') {k : Nat} (hk : 4 ≤ k ∧ k ≤ 7) (r : Nat) : SFr M h (ph_setR h' 104 k r) := ⟨x.1, x.2.1, x.2.2.1, fun c j hc => by
  have z : ¬ (c = 104 ∧ j = k) := fun q => hc ⟨q.1, by omega, by omega⟩
  have : ph_R (ph_setR h' 104 k r) c j = ph_R h' c j := by simp only [ph_R, ph_setR, if_neg z]
  rw [this]; exact x.2.2.2.1 c j hc, x.2.2.2.2⟩
theorem SFr.set {M : Nat → Prop} {h h' : PH} (x : SFr M h h') {c : Nat} (hc : M c) (k : Nat) (v : Int) : SFr M h (ph_setI h' c k v) := x.tr ((Fr.rf M h').set hc k v).s
theorem sR_eq {h : PH} {c k r : Nat} : ph_R (ph_setR h c k r) c k = r := by simp [ph_R, ph_setR]
theorem sR_k {h : PH} {c k e j r : Nat} (q : j ≠ k) : ph_R (ph_setR h c k r) e j = ph_R h e j := by simp [ph_R, ph_setR, q]
theorem sR_c {h : PH} {c k e j r : Nat} (q : e ≠ c) : ph_R (ph_setR h c k r) e j = ph_R h e j := by simp [ph_R, ph_setR, q]
/-- a way worked out anew -/
def Fresh (h' : PH) (st : ST) (d p : Int) (y : Nat) : Prop := ∃ mc fc ra sb, SC h' st d p mc fc ra sb ∧ ph_I h' 104 8 = st (Int.toNat (8 + p)) + st (Int.toNat (16 + p)) - 1 - st (Int.toNat (304 + d)) + 1 ∧ TabF h' st d p (st (Int.toNat (8 + p)) + st (Int.toNat (16 + p)) - 1 - st (Int.toNat (304 + d)) + 1) 0 ∧ WayC h' y st d p ∧ ph_I h' y 5 = st (Int.toNat p) ∧ ph_I h' y 7 = 0 ∧ ∀ j, j < 17 → ph_I h' (y + 4) j = 0 ∧ ph_I h' (y + 5) j = 0
def pqBW (h : PH) (st : ST) (d p : Int) (y : Nat) : Option PV → PH → Prop := fun rr h' => rr = some (.inr y) ∧ ((ph_I h y 5 = st (Int.toNat p) ∧ h' = h) ∨ (ph_I h y 5 ≠ st (Int.toNat p) ∧ SFr (fun c => c = 104 ∨ c = 106 ∨ c = 108 ∨ c = 109 ∨ (y ≤ c ∧ c ≤ y + 5)) h h' ∧ Fresh h' st d p y))
theorem ct_X2_bestWay (G : Gx) (l : Launch) (h : PH) {st : ST} {d p : Int} (hW : CW h st) (d0 : 0 ≤ d ∧ d ≤ 3) (p0 : 0 ≤ p ∧ p < st 484) (hn : 0 < st (Int.toNat (16 + p))) {y fc : Nat} (hy : y = 110 + 6 * Int.toNat d) (hfc : fc = ph_R h 4 (Int.toNat p)) : CT_X2_bestWay G l [.inr 104, .inl d, .inr fc] h (pqBW h st d p y) := by
  have dl : Int.toNat d < 4 := by omega
  obtain ⟨fx, f2, f3, f4, f5⟩ := id hW
  obtain ⟨⟨a1, a2, a3, a4, a5⟩, ⟨b1, b2, b3, b4, b5, b6⟩, ⟨c1, c2, c3⟩, ⟨e1, e2, e3, e4, e5, e6⟩, ⟨g1, g2, g3, g4, g5, g6, g7, g8, g9, g10⟩, f7⟩ := id fx
  obtain ⟨hs, hb, hmany, hD, hPp⟩ := id f3
  obtain ⟨w1, w2, w3, w4, w5, w6⟩ := id c1
  obtain ⟨v1, j, hj, v2⟩ := w4 (Int.toNat p) (by omega)
  have hDd := hD d d0.1 d0.2
  obtain ⟨k1, k2, k3, k4, k5⟩ := id hDd
  obtain ⟨q6, q7⟩ := hPp p p0.1 p0.2
  have hFR := f2.2.1 p p0.1 p0.2
  have hMR := f2.2.2.1 d d0.1 d0.2
  have yd := f7 (Int.toNat d) dl
  rw [← hy] at yd
  obtain ⟨yr, hY⟩ := yd
  have ty : ph_T h y = 4 := hY.1.1
  have nm := (f4.1 p p0.1 p0.2).1
  have wy := f5 (Int.toNat d) dl
  unfold WY1 at wy
  rw [← hy] at wy
  have y5 : pR (ph_I h y 5) := by
    rcases wy.2 with z | ⟨p', z1, z2, z3, -⟩
    · rw [z]; unfold pR; omega
    · rw [z3]; exact hb _
  have v2' : ph_R h 4 (Int.toNat p) = 8 + 3 * j := v2
  rw [← hfc] at v2'
  have v1' : FS h fc := by rw [hfc]; exact v1
  have hFR' : FR h fc st p := by rw [hfc]; exact hFR
  have ft0 : ph_T h fc = 0 := v1'.1.1
  refine ct_intro rfl (Nat.le_of_ble_eq_true rfl) (fun X hX C => ?_)
  refine B_X2_bestWay_0 C (r2 := 105) (r9 := y) (m8 := 12) (x13 := ph_I h y 5) (e14 := rfl) (x16 := st (Int.toNat p)) (e17 := hFR'.1.1) (q18 := y5) (q19 := hb _) (kt := fun c => ?_) (kf := fun c => ?_)
  · exact B_X2_bestWay_82 C (hq := ⟨rfl, Or.inl ⟨c, rfl⟩⟩)
  · have t5 : ph_T h 5 = 11 := w1.2.2.1
    have l5 : ph_L h 5 = 4 := w2.2.1
    have r31 : ph_R h 3 1 = 5 := w3.2.1
    have t3 : ph_T h 3 = 5 := w1.1
    obtain ⟨mr, mt⟩ := w6 (Int.toNat d) dl
    have mr' : ph_R h 5 (Int.toNat d) = 32 + Int.toNat d := mr
    have mt' : ph_T h (32 + Int.toNat d) = 1 := mt
    have hMR' : MR h (32 + Int.toNat d) st d := hMR
    refine B_X2_bestWay_18 C (r2 := 3) (r5 := 5) (m11 := 11) (r12 := 32 + Int.toNat d) (r17 := fc) (e18 := sR_eq) (hM := ct_X0_lastTick _ _ (ph_setR (ph_setR h 104 6 (32 + Int.toNat d)) 104 7 fc) ft0 (b := st (Int.toNat (8 + p))) (n := st (Int.toNat (16 + p))) hFR'.1.2.1 hFR'.1.2.2.1) (kk := fun rr h1 hq => ?_)
    obtain ⟨rfl, rfl⟩ := hq
    have hx1 : SFr (fun c => c = 104) h (ph_setR (ph_setR h 104 6 (32 + Int.toNat d)) 104 7 fc) := ((SFr.rf _ h).setR (by omega) _).setR (by omega) _
    refine B_X2_bestWay_46 C (r2 := 32 + Int.toNat d) (e3 := by rw [sR_k (by decide), sR_eq]) (x5 := st (Int.toNat (304 + d))) (e6 := hMR'.2.2.1) (x9 := st (Int.toNat (8 + p)) + st (Int.toNat (16 + p)) - 1 - st (Int.toNat (304 + d)) + 1) (e10 := by split <;> omega) (r13 := fc) (e14 := sR_eq) (x16 := st (Int.toNat p)) (e17 := by rw [sI_c (by omega)]; exact hFR'.1.1) (hM := ct_X4_clear _ _ (ph_setI (ph_setR (ph_setR h 104 6 (32 + Int.toNat d)) 104 7 fc) 104 8 (st (Int.toNat (8 + p)) + st (Int.toNat (16 + p)) - 1 - st (Int.toNat (304 + d)) + 1)) (YS_congr (h := h) (fun e => rfl) (fun e => rfl) (fun k => by show ph_R (ph_setR (ph_setR h 104 6 (32 + Int.toNat d)) 104 7 fc) y k = _; rw [sR_c (by omega), sR_c (by omega)]) hY)) (kk := fun rr h2 hq => ?_)
    obtain ⟨rfl, hF2, ⟨z5, z6, z7, z10, z11, z12, z13⟩, z3, z45⟩ := hq
    have hx2 : SFr (fun c => c = 104 ∨ (y ≤ c ∧ c ≤ y + 5)) h h2 := ((hx1.set rfl 8 _).mono (fun c hc => Or.inl hc)).tr (hF2.s.mono (fun c hc => Or.inr hc))
    have hC2 : SC h2 st d p (32 + Int.toNat d) (ph_R h 4 (Int.toNat p)) (ph_R h 104 4) (ph_R h 104 5) := by
      refine SC_mk hW hx2 (fun c hc => by omega) ?_ ?_ ?_ ?_ d0 p0
      · rw [hF2.R]; show ph_R (ph_setR (ph_setR h 104 6 (32 + Int.toNat d)) 104 7 fc) 104 4 = _; rw [sR_k (by decide), sR_k (by decide)]
      · rw [hF2.R]; show ph_R (ph_setR (ph_setR h 104 6 (32 + Int.toNat d)) 104 7 fc) 104 5 = _; rw [sR_k (by decide), sR_k (by decide)]
      · rw [hF2.R]; show ph_R (ph_setR (ph_setR h 104 6 (32 + Int.toNat d)) 104 7 fc) 104 6 = _; rw [sR_k (by decide), sR_eq]
      · rw [hF2.R]; show ph_R (ph_setR (ph_setR h 104 6 (32 + Int.toNat d)) 104 7 fc) 104 7 = _; rw [sR_eq]; exact hfc
    have u8 : ph_I h2 104 8 = st (Int.toNat (8 + p)) + st (Int.toNat (16 + p)) - 1 - st (Int.toNat (304 + d)) + 1 := by rw [hF2.I (by omega), sI_eq]
    have t2 : ph_T h2 104 = 2 := hC2.1.1
    refine B_X2_bestWay_73 C (hM := ct_X2_goBack _ _ _ hC2 u8 rfl hn) (kk := fun rr h3 hq => ?_)
    obtain ⟨rfl, ra, sb, hC3, hF3, hk3, hT3⟩ := hq
    have hi3 : ∀ e, 110 ≤ e → ∀ k, ph_I h3 e k = ph_I h2 e k := fun e he k => hF3.I (by omega) k
    have hY2 := hF2.ys (y := y) (YS_congr (h := h) (fun e => rfl) (fun e => rfl) (fun k => by show ph_R (ph_setR (ph_setR h 104 6 (32 + Int.toNat d)) 104 7 fc) y k = _; rw [sR_c (by omega), sR_c (by omega)]) hY)
    have hY3 : YS h3 y := YS_congr hF3.T hF3.L (fun k => hF3.Rc (by omega) k) hY2
    have t3' : ph_T h3 104 = 2 := hC3.1.1
    have u83 : ph_I h3 104 8 = st (Int.toNat (8 + p)) + st (Int.toNat (16 + p)) - 1 - st (Int.toNat (304 + d)) + 1 := by rw [hk3 8 (by decide) (by decide)]; exact u8
    refine B_X2_bestWay_77 C (hM := ct_X2_follow _ _ _ hC3 u83 rfl hn hT3 hY3 (by omega) (by rw [hi3 y (by omega)]; exact z6) (by rw [hi3 y (by omega)]; exact z10) (by rw [hi3 y (by omega)]; exact z11) (by rw [hi3 y (by omega)]; exact z12) (by rw [hi3 y (by omega)]; exact z13) (fun j hj => by rw [hi3 _ (by omega)]; exact z3 j hj)) (kk := fun rr h4 hq => ?_)
    obtain ⟨rfl, hF4, hk4, ⟨y5', y7'⟩, hWc⟩ := hq
    refine B_X2_bestWay_82 C (hq := ⟨rfl, Or.inr ⟨c, ?_, 32 + Int.toNat d, ph_R h 4 (Int.toNat p), ra, sb, hC3.fr hF4 (fun c hc => by omega), by rw [hk4 8 (by decide) (by decide)]; exact u83, fun r w hh a1 a2 a3 a4 a5 a6 => by rw [hF4.I (by omega)]; exact hT3 r w hh a1 a2 a3 a4 a5 a6, hWc, by rw [y5', hi3 y (by omega)]; exact z5, by rw [y7', hi3 y (by omega)]; exact z7, fun j hj => ?_⟩⟩)
    · exact (hx2.mono (fun c hc => by omega)).tr ((hF3.mono (fun c hc => by omega)).tr (hF4.s.mono (fun c hc => by omega)))
    · rw [hF4.I (by omega), hF4.I (by omega), hi3 _ (by omega), hi3 _ (by omega)]
      exact z45 j hj
