/-! the search: follow -/
theorem FPre.fr {h h' : PH} {y : Nat} {st : ST} {d p : Int} {q : Nat} {w hh : Int} (x : FPre h y st d p q w hh) (e : ∀ c, y ≤ c → c ≤ y + 3 → ∀ k, ph_I h' c k = ph_I h c k) : FPre h' y st d p q w hh := by
  obtain ⟨x1, x2, x3, x4, x5, x6, x7, x8, x9⟩ := x
  have e0 := e y (by omega) (by omega)
  have e1 := e (y + 1) (by omega) (by omega)
  have e2 := e (y + 2) (by omega) (by omega)
  have e3 := e (y + 3) (by omega) (by omega)
  refine ⟨x1, x2, x3, ?_, ?_, x6.fr e1 e2, x7.fr e1 e2 e3 (e0 _) (e0 _), ?_, ?_⟩
  · rw [e0, e0, e0]; exact x4
  · rw [e1, e2]; exact x5
  · rw [e0, e0]; exact x8
  · rw [e0, e0]; exact x9
theorem FPre_0 {h h' : PH} {y : Nat} {st : ST} {d p : Int} (hD : OkD st d) (hs : pqStart h y (st (Int.toNat (296 + d))) (st (Int.toNat (300 + d))) (st (Int.toNat (304 + d))) none h') (c10 : ph_I h y 10 = 0) (c11 : ph_I h y 11 = 0) (c12 : ph_I h y 12 = -6) (c13 : ph_I h y 13 = -6) (c3 : ∀ j, j < 76 → ph_I h (y + 3) j = 0) (hal : sLay st d p 0 (st (Int.toNat (16 + p))) ≠ -1000000) : FPre h' y st d p 0 (st (Int.toNat (296 + d)) + st (Int.toNat (308 + d))) (st (Int.toNat (300 + d))) := by
  obtain ⟨-, hF, ⟨s6, s8, s9⟩, sk, s1, s2⟩ := hs
  have hw0 := loW_0 hD
  have ew : st (Int.toNat (296 + d)) + st (Int.toNat (308 + d)) - st (Int.toNat (308 + d)) = st (Int.toNat (296 + d)) := by omega
  have g5 := hD.2.2.2.2
  have g4 := hD.2.2.2.1
  have ez : st (Int.toNat (304 + d)) + ((0 : Nat) : Int) = st (Int.toNat (304 + d)) := by omega
  have hv : vb st d p ((0 : Nat) : Int) (st (Int.toNat (296 + d))) (st (Int.toNat (300 + d))) = sLay st d p 0 (st (Int.toNat (16 + p))) := by
    unfold vb
    rw [if_pos (by omega), if_pos rfl]
  have k10 : ph_I h' y 10 = 0 := by rw [sk 10 (by decide) (by decide) (by decide)]; exact c10
  have k11 : ph_I h' y 11 = 0 := by rw [sk 11 (by decide) (by decide) (by decide)]; exact c11
  have l0 : loW st d ((0 : Nat) : Int) ≤ st (Int.toNat (296 + d)) + st (Int.toNat (308 + d)) ∧ st (Int.toNat (296 + d)) + st (Int.toNat (308 + d)) ≤ hiW st d ((0 : Nat) : Int) := ⟨by show loW st d 0 ≤ _; omega, by show _ ≤ hiW st d 0; omega⟩
  refine ⟨l0, g5, ?_, ⟨s6, s8, by rw [s9, ez]⟩, ⟨by rw [ez, ew]; exact s1, by rw [ez]; exact s2⟩, ?_, ?_, ?_, ?_⟩
  · rw [ew, hv]; exact hal
  · refine ⟨s1, s2, fun t t0 t1 => by omega, fun t t0 t1 => ?_⟩
    have et : t = st (Int.toNat (304 + d)) := by omega
    rw [et, s1, s2]
    exact ⟨g4, g5.1, g5.2⟩
  · refine ⟨fun j hj => ?_, ?_, ?_⟩
    · rw [if_neg (by omega), hF.I (by omega)]; exact c3 j hj
    · rw [sk 12 (by decide) (by decide) (by decide), c12]; rfl
    · rw [sk 13 (by decide) (by decide) (by decide), c13]; rfl
  · rw [ew, hv, k10, k11]; omega
  · rw [k10, k11]; omega
def pqFol (h : PH) (st : ST) (d p : Int) (y : Nat) : Option PV → PH → Prop := fun rr h' => rr = none ∧ Fr (fun c => c = 104 ∨ c = y ∨ c = y + 1 ∨ c = y + 2 ∨ c = y + 3) h h' ∧ (∀ k, k ≠ 9 → k ≠ 10 → ph_I h' 104 k = ph_I h 104 k) ∧ (ph_I h' y 5 = ph_I h y 5 ∧ ph_I h' y 7 = ph_I h y 7) ∧ WayC h' y st d p
theorem ct_X2_follow (G : Gx) (l : Launch) (h : PH) {st : ST} {d p : Int} {mc fc ra sb : Nat} (hC : SC h st d p mc fc ra sb) {rw : Int} (e8 : ph_I h 104 8 = rw) (hrw : rw = st (Int.toNat (8 + p)) + st (Int.toNat (16 + p)) - 1 - st (Int.toNat (304 + d)) + 1) (hn : 0 < st (Int.toNat (16 + p))) (hT : TabF h st d p rw 0) {y : Nat} (hY : YS h y) (y0 : 110 ≤ y ∧ y + 5 < 134) (c6 : ph_I h y 6 = 0) (c10 : ph_I h y 10 = 0) (c11 : ph_I h y 11 = 0) (c12 : ph_I h y 12 = -6) (c13 : ph_I h y 13 = -6) (c3 : ∀ j, j < 76 → ph_I h (y + 3) j = 0) : CT_X2_follow G l [.inr 104, .inr y] h (pqFol h st d p y) := by
  obtain ⟨⟨t104, t3, t6, t106, t107, tra, tsb, tmc⟩, ⟨l106, l107, lra, lsb⟩, ⟨r1040, r32, r1042, r1043, r1044, r1045, r1046, r1047⟩, hra, hfs, ⟨b1, b2, b3⟩, hFR, hMR, hSR, hS, h2, d0, p0⟩ := id hC
  obtain ⟨hs, hb, hmany, hD, hPp⟩ := id hS
  obtain ⟨g1, g2, g3, g4, g5⟩ := hD d d0.1 d0.2
  obtain ⟨g6, g7⟩ := hPp p p0.1 p0.2
  obtain ⟨⟨ft0, ft1, ft2⟩, ⟨fl1, fl2⟩, fr0, fr1⟩ := id hfs
  obtain ⟨⟨f2, f3, f4, f5, f6⟩, fpt⟩ := id hFR
  obtain ⟨m0, m1, m2, m3, m4⟩ := id hMR
  have gw : -st (Int.toNat (308 + d)) ≤ st (Int.toNat (296 + d)) ∧ st (Int.toNat (296 + d)) ≤ st (Int.toNat (308 + d)) := by have := g4; unfold zabs at this; split at this <;> omega
  refine ct_intro rfl (Nat.le_of_ble_eq_true rfl) (fun X hX C => ?_)
  have hDd := hD d d0.1 d0.2
  have ty : ph_T h y = 4 := hY.1.1
  have mid : ∀ (q : Nat) (w hh : Int) (h1 : PH), (q : Int) < rw → Fr (fun c => c = 104 ∨ c = y ∨ c = y + 1 ∨ c = y + 2 ∨ c = y + 3) h h1 → (∀ k, k ≠ 9 → k ≠ 10 → ph_I h1 104 k = ph_I h 104 k) → (ph_I h1 y 5 = ph_I h y 5 ∧ ph_I h1 y 7 = ph_I h y 7) → FPre h1 y st d p q w hh → (∀ h1 : PH, Fr (fun c => c = 104 ∨ c = y ∨ c = y + 1 ∨ c = y + 2 ∨ c = y + 3) h h1 → (∀ k, k ≠ 9 → k ≠ 10 → ph_I h1 104 k = ph_I h 104 k) → (ph_I h1 y 5 = ph_I h y 5 ∧ ph_I h1 y 7 = ph_I h y 7) → FPost h1 y st d p q w hh → Goal st p (st (Int.toNat (304 + d)) + q) (ph_I h1 104 9) (ph_I h1 104 10) → PW G X 6 (pw_E G X (pqFol h st d p y) 0 0) 0 0 53 [some (.inr 104), some (.inr y), some (.inl w), some (.inl hh), some (.inl ((q : Int) + 1)), none] [] h1) → PW G X 6 (pw_E G X (pqFol h st d p y) 0 0) 0 0 125 [some (.inr 104), some (.inr y), some (.inl w), some (.inl hh), some (.inl (q : Int)), none] [] h1 := by
    intro q w hh h1 hq hF hk hy hP K
    have hC1 := hC.fr hF (fun c hc => by omega)
    have hY1 := hF.ys hY
    have t1 : ph_T h1 104 = 2 := by rw [hF.T]; exact t104
    have t1y : ph_T h1 y = 4 := hY1.1.1
    refine B_X2_follow_125 C (hM := ct_X2_aimAt _ _ _ hC1 (r := q) (by omega)) (kk := fun rr h2 hq2 => ?_)
    obtain ⟨rfl, hF2, hk2, hG2⟩ := hq2
    have hC2 := hC1.fr hF2 (fun c hc => by omega)
    have hY2 := hF2.ys hY1
    have t2 : ph_T h2 104 = 2 := by rw [hF2.T]; exact t1
    have t2y : ph_T h2 y = 4 := hY2.1.1
    have hP2 := hP.fr (h' := h2) (fun c a b k => hF2.I (by omega) k)
    have hlb := loW_b hDd (r := q) (by omega)
    have hF12 : Fr (fun c => c = 104 ∨ c = y ∨ c = y + 1 ∨ c = y + 2 ∨ c = y + 3) h h2 := hF.tr (hF2.mono (fun c hc => by omega))
    have hk12 : ∀ k, k ≠ 9 → k ≠ 10 → ph_I h2 104 k = ph_I h 104 k := fun k a b => by rw [hk2 k a b]; exact hk k a b
    have hy12 : ph_I h2 y 5 = ph_I h y 5 ∧ ph_I h2 y 7 = ph_I h y 7 := by rw [hF2.I (by omega), hF2.I (by omega)]; exact hy
    obtain ⟨x1, x2, x3, x4, x5, x6, x7, x8, x9⟩ := id hP2
    refine B_X2_follow_131 C (hM := ct_X2_gain _ _ _ hC2 (by omega) x2 rfl rfl (by have := hG2.1; omega) (by have := hG2.1; omega)) (kk := fun rr h3 hq3 => ?_)
    obtain ⟨rfl, rfl⟩ := hq3
    have hgo := hG2.2 (w - st (Int.toNat (308 + d))) hh x2.1
    by_cases z : hh = ph_I h2 104 10 ∧ (w - st (Int.toNat (308 + d)) + 48) % 24 = ph_I h2 104 9
    · rw [if_pos z]
      have h12 : pR (ph_I h2 y 12) := by
        rw [x7.2.1]
        have := sT_b (r3 := bitsW st p (ph_I h2 (y + 1)) (ph_I h2 (y + 2))) (fl := 0) g3 q
        unfold pR; omega
      refine B_X2_follow_137 C (kt := fun c => absurd c (by decide)) (kf := fun c => ?_)
      refine B_X2_follow_140 C (hM := ct_X4_see _ _ _ hY2 (by omega) h12) (kk := fun rr h3 hq3 => ?_)
      have er := hq3.1
      subst er
      refine B_X2_follow_144 C (kk := ?_)
      have hP3 := hP2.see g3 (hgo.mp z) hq3
      obtain ⟨-, hF3, -, sk, -, -⟩ := hq3
      refine K h3 (hF12.tr (hF3.mono (fun c hc => by omega))) (fun k a b => by rw [hF3.I (by omega)]; exact hk12 k a b) ?_ hP3 (by rw [hF3.I (by omega), hF3.I (by omega)]; exact hG2)
      rw [sk 5 (by decide) (by decide) (by decide), sk 7 (by decide) (by decide) (by decide)]
      exact hy12
    · rw [if_neg z]
      refine B_X2_follow_137 C (kt := fun c => ?_) (kf := fun c => absurd (Int.le_refl 0) c)
      refine B_X2_follow_144 C (kk := ?_)
      exact K h2 hF12 hk12 hy12 (hP2.no g3.1 (fun u => z (hgo.mpr u))) hG2
  have lp : ∀ (m q : Nat) (w hh : Int) (h1 : PH), (q : Int) + 1 + m = rw → Fr (fun c => c = 104 ∨ c = y ∨ c = y + 1 ∨ c = y + 2 ∨ c = y + 3) h h1 → (∀ k, k ≠ 9 → k ≠ 10 → ph_I h1 104 k = ph_I h 104 k) → (ph_I h1 y 5 = ph_I h y 5 ∧ ph_I h1 y 7 = ph_I h y 7) → FPost h1 y st d p q w hh → Goal st p (st (Int.toNat (304 + d)) + q) (ph_I h1 104 9) (ph_I h1 104 10) → PW G X 6 (pw_E G X (pqFol h st d p y) 0 0) 0 0 53 [some (.inr 104), some (.inr y), some (.inl w), some (.inl hh), some (.inl ((q : Int) + 1)), none] [] h1 := by
    intro m
    induction m with
    | zero =>
      intro q w hh h1 hq hF hk hy hP hG
      have t1 : ph_T h1 104 = 2 := by rw [hF.T]; exact t104
      refine B_X2_follow_53 C (x2 := rw) (e3 := by rw [hk 8 (by decide) (by decide)]; exact e8) (kt := fun c => ?_) (kf := fun c => by omega)
      exact B_X2_follow_150 C (hq := ⟨rfl, hF, hk, hy, hP.fin hDd hn (by omega) (by omega)⟩)
    | succ m ih =>
      intro q w hh h1 hq hF hk hy hP hG
      have t1 : ph_T h1 104 = 2 := by rw [hF.T]; exact t104
      have hC1 := hC.fr hF (fun c hc => by omega)
      have hY1 := hF.ys hY
      have t1y : ph_T h1 y = 4 := hY1.1.1
      have hT1 : TabF h1 st d p rw 0 := fun r w hh a1 a2 a3 a4 a5 a6 => by rw [hF.I (by omega)]; exact hT r w hh a1 a2 a3 a4 a5 a6
      obtain ⟨x1, x2, x3, x4, x5, x6, x7, x8, x9⟩ := id hP
      refine B_X2_follow_53 C (x2 := rw) (e3 := by rw [hk 8 (by decide) (by decide)]; exact e8) (kt := fun c => by omega) (kf := fun c => ?_)
      refine B_X2_follow_62 C (kt := fun c2 => ?_) (kf := fun c2 => by omega)
      refine B_X2_follow_89 C (hM := ct_X2_nextCell _ _ _ hC1 hrw hn hT1 (q := q) (by omega) x1 x2 hG x3) (kk := fun rr h2 hq2 => ?_)
      obtain ⟨rfl, w', k, rfl, hb', k0, hst, hal, hv, zw, zk⟩ := hq2
      have hlb := loW_b hDd (r := (q : Int) + 1) (by omega)
      have e1 : (w' * 7 + k) / 7 = w' := by omega
      have e2 : (w' * 7 + k) % 7 = k := by omega
      have r1 : ph_R h1 104 6 = mc := by rw [hF.R]; exact r1046
      have tm1 : ph_T h1 mc = 1 := by rw [hF.T]; exact tmc
      have m31 : ph_I h1 mc 3 = st (Int.toNat (308 + d)) := by rw [hF.I (by omega)]; exact m3
      have ec : ((q + 1 : Nat) : Int) = (q : Int) + 1 := by omega
      have zw2 := zw
      have zk2 := zk
      refine B_X2_follow_97 C (r10 := mc) (x13 := st (Int.toNat (308 + d))) (PQ := pqGo h1 y (w' - st (Int.toNat (308 + d))) k) (hM := by
        rw [e1, e2]
        refine ct_X4_goTo _ _ _ hY1 (by omega) ?_ ?_
        · rw [x4.2.2, x5.1]; unfold zabs at zw2; unfold pR; split at zw2 <;> omega
        · rw [x4.2.2, x5.2]; unfold zabs at zk2; unfold pR; split at zk2 <;> omega) (kk := fun rr h2 hq2 => ?_)
      have er := hq2.1
      subst er
      rw [e1, e2]
      refine pw_weak [true, true, true, true, true, false] ?_
      have hP2 := hP.go g3.1 g2.2 (by rw [ec]; exact hb') (by omega) k0 hst (by rw [ec]; exact hal) (by rw [ec]; exact hv) zw zk hq2
      obtain ⟨-, hF2, -, sk, -, -⟩ := hq2
      have nx := mid (q + 1) w' k h2 (by omega) (hF.tr (hF2.mono (fun c hc => by omega))) (fun k a b => by rw [hF2.I (by omega)]; exact hk k a b) (by rw [sk 5 (by decide) (by decide), sk 7 (by decide) (by decide)]; exact hy) hP2 (fun h3 a1 a2 a3 a4 a5 => ih (q + 1) w' k h3 (by omega) a1 a2 a3 a4 a5)
      rw [ec] at nx
      exact nx
  have hw0 := loW_0 hDd
  refine B_X2_follow_0 C (r2 := mc) (x5 := st (Int.toNat (296 + d))) (r8 := mc) (x11 := st (Int.toNat (308 + d))) (r14 := mc) (x17 := st (Int.toNat (300 + d))) (x20 := rw) (e21 := e8) (kt := fun c1 => ?_) (kf := fun c1 => ?_)
  · refine B_X2_follow_49 C (hq := ⟨rfl, Fr.rf _ h, fun k a b => rfl, ⟨rfl, rfl⟩, Or.inl ⟨c6, ?_, c10, c11⟩⟩)
    show sLay st d p 0 (st (Int.toNat (16 + p))) = _
    unfold sLay
    rw [if_pos (by omega)]
  · have tt := hT 0 (st (Int.toNat (296 + d)) + st (Int.toNat (308 + d))) (st (Int.toNat (300 + d))) (Int.le_refl _) (by omega) (by omega) (by omega) g5.1 g5.2
    have ew : st (Int.toNat (296 + d)) + st (Int.toNat (308 + d)) - st (Int.toNat (308 + d)) = st (Int.toNat (296 + d)) := by omega
    have hv0 : vb st d p 0 (st (Int.toNat (296 + d))) (st (Int.toNat (300 + d))) = sLay st d p 0 (st (Int.toNat (16 + p))) := by
      unfold vb
      rw [if_pos rfl, if_pos rfl]
    rw [ew, hv0] at tt
    have tb := tt.b (by omega) (by omega)
    refine B_X2_follow_32 C (r2 := 106) (hM := ct_X2_cell _ _ _) (kk := fun rr h' hq => ?_)
    obtain ⟨rfl, rfl⟩ := hq
    refine B_X2_follow_42 C (x5 := ph_I h 106 (Int.toNat (0 * 511 + (st (Int.toNat (296 + d)) + st (Int.toNat (308 + d))) * 7 + st (Int.toNat (300 + d))))) (e6 := rfl) (hM := ct_X2_isDead _ _ _ (by unfold pR; omega)) (kk := fun rr h' hq => ?_)
    obtain ⟨rfl, ⟨rfl, c2⟩ | ⟨rfl, c2⟩⟩ := hq
    · refine B_X2_follow_46 C (kt := fun c => absurd c (by decide)) (kf := fun c => ?_)
      refine B_X2_follow_49 C (hq := ⟨rfl, Fr.rf _ h, fun k a b => rfl, ⟨rfl, rfl⟩, Or.inl ⟨c6, ?_, c10, c11⟩⟩)
      show sLay st d p 0 (st (Int.toNat (16 + p))) = _
      rcases tt with ⟨z1, -⟩ | ⟨s, q, z1, z2, z3, z4, z5, z6⟩
      · exact z1
      · omega
    · refine B_X2_follow_46 C (kt := fun c => ?_) (kf := fun c => absurd rfl c)
      have hal : sLay st d p 0 (st (Int.toNat (16 + p))) ≠ -1000000 := by
        rcases tt with ⟨z1, z2⟩ | ⟨s, q, z1, z2, z3, z4, z5, z6⟩
        · omega
        · omega
      refine B_X2_follow_50 C (kk := ?_)
      refine B_X2_follow_53 C (x2 := rw) (e3 := e8) (kt := fun c => by omega) (kf := fun c => ?_)
      refine B_X2_follow_62 C (kt := fun c => absurd rfl c) (kf := fun c => ?_)
      refine B_X2_follow_67 C (r2 := mc) (x5 := st (Int.toNat (296 + d))) (r8 := mc) (x11 := st (Int.toNat (304 + d))) (hM := ct_X4_startAt _ _ _ hY (by omega)) (kk := fun rr h2 hq2 => ?_)
      have er := hq2.1
      subst er
      refine B_X2_follow_86 C (kk := ?_)
      have hP2 := FPre_0 hDd hq2 c10 c11 c12 c13 c3 hal
      obtain ⟨-, hF2, -, sk, -, -⟩ := hq2
      exact mid 0 (st (Int.toNat (296 + d)) + st (Int.toNat (308 + d))) (st (Int.toNat (300 + d))) h2 (by omega) (hF2.mono (fun c hc => by omega)) (fun k a b => hF2.I (by omega) k) ⟨sk 5 (by decide) (by decide) (by decide), sk 7 (by decide) (by decide) (by decide)⟩ hP2 (fun h3 a1 a2 a3 a4 a5 => lp (Int.toNat (rw - 1)) 0 (st (Int.toNat (296 + d)) + st (Int.toNat (308 + d))) (st (Int.toNat (300 + d))) h3 (by omega) a1 a2 a3 a4 a5)
