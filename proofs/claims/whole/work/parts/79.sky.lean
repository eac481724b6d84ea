/-! the class: count; the sky and dishes changed -/
theorem ct_X6_count (G : Gx) (l : Launch) (h : PH) {st : ST} (hW : CW h st) {wh : Int} (gwh : pR wh) (k0 : ph_I h 37 0 = 0 ∨ ph_I h 37 0 = 1) (k1 : ph_I h 37 1 = 0 ∨ ph_I h 37 1 = 1) : CT_X6_count G l [.inr 2, .inl wh] h (KQ (fun v st' => v = mCount st (ph_I h 37 0) (ph_I h 37 1) wh ∧ st' = st) h) := by
  obtain ⟨fx, hR, hS, h2, hY⟩ := id hW
  have xt2 : ph_T h 2 = 6 := fx.1.1
  have x20 : ph_R h 2 0 = 3 := fx.1.2.1
  have x23 : ph_R h 2 3 = 104 := fx.1.2.2.2.2
  have w3 : WS h 3 := fx.2.2.1.1
  have t3 : ph_T h 3 = 5 := w3.1.1
  have t4 : ph_T h 4 = 10 := w3.1.2.1
  have t5 : ph_T h 5 = 11 := w3.1.2.2.1
  have t6 : ph_T h 6 = 3 := w3.1.2.2.2.1
  have t7 : ph_T h 7 = 8 := w3.1.2.2.2.2
  have l4 : ph_L h 4 = 8 := w3.2.1.1
  have l5 : ph_L h 5 = 4 := w3.2.1.2.1
  have l7 : ph_L h 7 = 168 := w3.2.1.2.2
  have r30 : ph_R h 3 0 = 4 := w3.2.2.1.1
  have r31 : ph_R h 3 1 = 5 := w3.2.2.1.2.1
  have r32 : ph_R h 3 2 = 6 := w3.2.2.1.2.2.1
  have r33 : ph_R h 3 3 = 7 := w3.2.2.1.2.2.2
  have t104 : ph_T h 104 = 2 := fx.2.2.2.1.1
  have f1 : ph_I h 3 4 = st 484 := hR.1
  have sr6 : SR h 6 st := hR.2.2.2.1
  have hmany := hS.2.2.1
  have hb := hS.2.1
  refine ct_intro rfl (Nat.le_of_ble_eq_true rfl) (fun X hX C => ?_)
  have x22 : ph_R h 2 2 = 37 := fx.1.2.2.2.1
  have t37 : ph_T h 37 = 9 := fx.2.1.2.2.2.2.1
  have l37 : ph_L h 37 = 2 := fx.2.1.2.2.2.2.2
  obtain ⟨⟨s0, s1, s2, s3, s6⟩, s45, ss⟩ := id sr6
  refine B_X6_count_0 C (kk := ?_)
  refine B_X6_count_9 C (k0 := fun c1 => ?_) (k1 := fun c1 => ?_) (k2 := fun c1 => ?_) (k3 := fun c1 => ?_) (k4 := fun c1 => ?_) (k5 := fun c1 => ?_) (k6 := fun c1 => ?_) (k7 := fun c1 => ?_) (k8 := fun c1 => ?_) (k9 := fun c1 => ?_) (k10 := fun c1 => ?_) (k11 := fun c1 => ?_) (kd := fun c1 => ?_)
  · exact B_X6_count_72 C (hq := by exact KQ_same hW ⟨by unfold mCount; rw [if_pos (by omega)], rfl⟩)
  · refine B_X6_count_80 C (hM := ct_X5_takenFlights _ _ _ w3 hR hS h2) (kk := fun r2 h2 hq2 => ?_)
    obtain ⟨rfl, rfl⟩ := hq2
    exact B_X6_count_87 C (hq := by exact KQ_same hW ⟨by unfold mCount; rw [if_neg (by omega), if_pos (by omega)], rfl⟩)
  · refine B_X6_count_88 C (hM := ct_X5_allPoints _ _ _ w3 hR hS h2) (kk := fun r3 h3 hq3 => ?_)
    obtain ⟨rfl, rfl⟩ := hq3
    exact B_X6_count_95 C (hq := by exact KQ_same hW ⟨by unfold mCount; rw [if_neg (by omega), if_neg (by omega), if_pos (by omega)], rfl⟩)
  · refine B_X6_count_96 C (hM := ct_X5_allLooks _ _ _ w3 hR hS) (kk := fun r4 h4 hq4 => ?_)
    obtain ⟨rfl, rfl⟩ := hq4
    exact B_X6_count_103 C (hq := by exact KQ_same hW ⟨by unfold mCount; rw [if_neg (by omega), if_neg (by omega), if_neg (by omega), if_pos (by omega)], rfl⟩)
  · refine B_X6_count_104 C (hM := ct_X5_unlikeLooks _ _ _ w3 hR hS) (kk := fun r5 h5 hq5 => ?_)
    obtain ⟨rfl, rfl⟩ := hq5
    exact B_X6_count_111 C (hq := by exact KQ_same hW ⟨by unfold mCount; rw [if_neg (by omega), if_neg (by omega), if_neg (by omega), if_neg (by omega), if_pos (by omega)], rfl⟩)
  · exact B_X6_count_112 C (hq := by exact KQ_same hW ⟨by unfold mCount; rw [if_neg (by omega), if_neg (by omega), if_neg (by omega), if_neg (by omega), if_neg (by omega), if_pos (by omega)], rfl⟩)
  · exact B_X6_count_117 C (hq := by exact KQ_same hW ⟨by unfold mCount; rw [if_neg (by omega), if_neg (by omega), if_neg (by omega), if_neg (by omega), if_neg (by omega), if_neg (by omega), if_pos (by omega)], rfl⟩)
  · exact B_X6_count_122 C (hq := by exact KQ_same hW ⟨by unfold mCount; rw [if_neg (by omega), if_neg (by omega), if_neg (by omega), if_neg (by omega), if_neg (by omega), if_neg (by omega), if_neg (by omega), if_pos (by omega)], rfl⟩)
  · exact B_X6_count_127 C (hq := by exact KQ_same hW ⟨by unfold mCount; rw [if_neg (by omega), if_neg (by omega), if_neg (by omega), if_neg (by omega), if_neg (by omega), if_neg (by omega), if_neg (by omega), if_neg (by omega), if_pos (by omega)], rfl⟩)
  · refine B_X6_count_134 C (hM := ct_X3_hasStorm _ _ _ t6 sr6 hS.1) (kk := fun r6 h6 hq6 => ?_)
    obtain ⟨rfl, ⟨rfl, c6⟩ | ⟨rfl, c6⟩⟩ := hq6
    · refine B_X6_count_138 C (kt := fun c7 => absurd c7 (by decide)) (kf := fun c7 => ?_)
      refine B_X6_count_141 C (kk := ?_)
      exact B_X6_count_150 C (hq := by exact KQ_same hW ⟨by unfold mCount; rw [if_neg (by omega), if_neg (by omega), if_neg (by omega), if_neg (by omega), if_neg (by omega), if_neg (by omega), if_neg (by omega), if_neg (by omega), if_neg (by omega), if_pos (by omega)]; omega, rfl⟩)
    · refine B_X6_count_138 C (kt := fun c8 => ?_) (kf := fun c8 => absurd c8 (by decide))
      refine B_X6_count_148 C (kk := ?_)
      exact B_X6_count_150 C (hq := by exact KQ_same hW ⟨by unfold mCount; rw [if_neg (by omega), if_neg (by omega), if_neg (by omega), if_neg (by omega), if_neg (by omega), if_neg (by omega), if_neg (by omega), if_neg (by omega), if_neg (by omega), if_pos (by omega)]; omega, rfl⟩)
  · refine B_X6_count_151 C (hM := ct_X3_hasStorm _ _ _ t6 sr6 hS.1) (kk := fun r9 h9 hq9 => ?_)
    obtain ⟨rfl, ⟨rfl, c9⟩ | ⟨rfl, c9⟩⟩ := hq9
    · refine B_X6_count_155 C (kt := fun c10 => absurd c10 (by decide)) (kf := fun c10 => ?_)
      refine B_X6_count_158 C (kk := ?_)
      exact B_X6_count_167 C (hq := by exact KQ_same hW ⟨by unfold mCount; rw [if_neg (by omega), if_neg (by omega), if_neg (by omega), if_neg (by omega), if_neg (by omega), if_neg (by omega), if_neg (by omega), if_neg (by omega), if_neg (by omega), if_neg (by omega), if_pos (by omega)]; omega, rfl⟩)
    · refine B_X6_count_155 C (kt := fun c11 => ?_) (kf := fun c11 => absurd c11 (by decide))
      refine B_X6_count_165 C (kk := ?_)
      exact B_X6_count_167 C (hq := by exact KQ_same hW ⟨by unfold mCount; rw [if_neg (by omega), if_neg (by omega), if_neg (by omega), if_neg (by omega), if_neg (by omega), if_neg (by omega), if_neg (by omega), if_neg (by omega), if_neg (by omega), if_neg (by omega), if_pos (by omega)]; omega, rfl⟩)
  · refine B_X6_count_168 C (x8 := ph_I h 37 0) (e9 := rfl) (kt := fun c12 => ?_) (kf := fun c12 => ?_)
    · refine B_X6_count_181 C (kk := ?_)
      refine B_X6_count_182 C (x8 := ph_I h 37 1) (e9 := rfl) (kt := fun c13 => ?_) (kf := fun c13 => ?_)
      · refine B_X6_count_195 C (kk := ?_)
        exact B_X6_count_196 C (hq := by exact KQ_same hW ⟨by unfold mCount; rw [if_neg (by omega), if_neg (by omega), if_neg (by omega), if_neg (by omega), if_neg (by omega), if_neg (by omega), if_neg (by omega), if_neg (by omega), if_neg (by omega), if_neg (by omega), if_neg (by omega), if_pos (by omega)]; (repeat' split) <;> omega, rfl⟩)
      · refine B_X6_count_191 C (kk := ?_)
        exact B_X6_count_196 C (hq := by exact KQ_same hW ⟨by unfold mCount; rw [if_neg (by omega), if_neg (by omega), if_neg (by omega), if_neg (by omega), if_neg (by omega), if_neg (by omega), if_neg (by omega), if_neg (by omega), if_neg (by omega), if_neg (by omega), if_neg (by omega), if_pos (by omega)]; (repeat' split) <;> omega, rfl⟩)
    · refine B_X6_count_177 C (kk := ?_)
      refine B_X6_count_182 C (x8 := ph_I h 37 1) (e9 := rfl) (kt := fun c14 => ?_) (kf := fun c14 => ?_)
      · refine B_X6_count_195 C (kk := ?_)
        exact B_X6_count_196 C (hq := by exact KQ_same hW ⟨by unfold mCount; rw [if_neg (by omega), if_neg (by omega), if_neg (by omega), if_neg (by omega), if_neg (by omega), if_neg (by omega), if_neg (by omega), if_neg (by omega), if_neg (by omega), if_neg (by omega), if_neg (by omega), if_pos (by omega)]; (repeat' split) <;> omega, rfl⟩)
      · refine B_X6_count_191 C (kk := ?_)
        exact B_X6_count_196 C (hq := by exact KQ_same hW ⟨by unfold mCount; rw [if_neg (by omega), if_neg (by omega), if_neg (by omega), if_neg (by omega), if_neg (by omega), if_neg (by omega), if_neg (by omega), if_neg (by omega), if_neg (by omega), if_neg (by omega), if_neg (by omega), if_pos (by omega)]; (repeat' split) <;> omega, rfl⟩)
  · exact B_X6_count_198 C (hq := by exact KQ_same hW ⟨by unfold mCount; rw [if_neg (by omega), if_neg (by omega), if_neg (by omega), if_neg (by omega), if_neg (by omega), if_neg (by omega), if_neg (by omega), if_neg (by omega), if_neg (by omega), if_neg (by omega), if_neg (by omega), if_neg (by omega)], rfl⟩)
theorem ct_X6_sun (G : Gx) (l : Launch) (h : PH) {st : ST} (hW : CW h st) {a : Int} (ga : pR a) {b : Int} (gb : pR b) {c : Int} (gc : pR c) {e : Int} (ge : pR e) : CT_X6_sun G l [.inr 2, .inl a, .inl b, .inl c, .inl e] h (KQ (fun v st' => (v, st') = mSun st a b c e) h) := by
  obtain ⟨fx, hR, hS, h2, hY⟩ := id hW
  have xt2 : ph_T h 2 = 6 := fx.1.1
  have x20 : ph_R h 2 0 = 3 := fx.1.2.1
  have x23 : ph_R h 2 3 = 104 := fx.1.2.2.2.2
  have w3 : WS h 3 := fx.2.2.1.1
  have t3 : ph_T h 3 = 5 := w3.1.1
  have t4 : ph_T h 4 = 10 := w3.1.2.1
  have t5 : ph_T h 5 = 11 := w3.1.2.2.1
  have t6 : ph_T h 6 = 3 := w3.1.2.2.2.1
  have t7 : ph_T h 7 = 8 := w3.1.2.2.2.2
  have l4 : ph_L h 4 = 8 := w3.2.1.1
  have l5 : ph_L h 5 = 4 := w3.2.1.2.1
  have l7 : ph_L h 7 = 168 := w3.2.1.2.2
  have r30 : ph_R h 3 0 = 4 := w3.2.2.1.1
  have r31 : ph_R h 3 1 = 5 := w3.2.2.1.2.1
  have r32 : ph_R h 3 2 = 6 := w3.2.2.1.2.2.1
  have r33 : ph_R h 3 3 = 7 := w3.2.2.1.2.2.2
  have t104 : ph_T h 104 = 2 := fx.2.2.2.1.1
  have f1 : ph_I h 3 4 = st 484 := hR.1
  have sr6 : SR h 6 st := hR.2.2.2.1
  have hmany := hS.2.2.1
  have hb := hS.2.1
  refine ct_intro rfl (Nat.le_of_ble_eq_true rfl) (fun X hX C => ?_)
  refine B_X6_sun_0 C (hM := ct_X6_isSide _ _ _) (kk := fun r1 h1 hq1 => ?_)
  obtain ⟨rfl, ⟨rfl, c1⟩ | ⟨rfl, c1⟩⟩ := hq1
  · refine B_X6_sun_4 C (kt := fun c2 => absurd c2 (by decide)) (kf := fun c2 => ?_)
    refine B_X6_sun_7 C (hM := ct_X6_isIn _ _ _) (kk := fun r3 h3 hq3 => ?_)
    obtain ⟨rfl, ⟨rfl, c3⟩ | ⟨rfl, c3⟩⟩ := hq3
    · refine B_X6_sun_14 C (kt := fun c4 => absurd c4 (by decide)) (kf := fun c4 => ?_)
      refine B_X6_sun_17 C (hM := ct_X6_isHeight _ _ _) (kk := fun r5 h5 hq5 => ?_)
      obtain ⟨rfl, ⟨rfl, c5⟩ | ⟨rfl, c5⟩⟩ := hq5
      · refine B_X6_sun_21 C (kt := fun c6 => absurd c6 (by decide)) (kf := fun c6 => ?_)
        refine B_X6_sun_24 C (hM := ct_X6_isIn _ _ _) (kk := fun r7 h7 hq7 => ?_)
        obtain ⟨rfl, ⟨rfl, c7⟩ | ⟨rfl, c7⟩⟩ := hq7
        · refine B_X6_sun_31 C (kt := fun c8 => ?_) (kf := fun c8 => absurd c8 (by decide))
          obtain ⟨⟨s0, s1, s2, s3, s6⟩, s45, ss⟩ := id sr6
          refine B_X6_sun_37 C (r2 := 3) (r5 := 6) (hM := ct_X3_putSun _ _ _ t6) (kk := fun rr h4 hq4 => ?_)
          obtain ⟨rfl, rfl⟩ := hq4
          have x1 : Fr (fun c => c = 6) h (ph_setI (ph_setI (ph_setI (ph_setI h 6 0 a) 6 1 b) 6 2 c) 6 3 e) := ((((Fr.rf (fun c => c = 6) h).set rfl _ _).set rfl _ _).set rfl _ _).set rfl _ _
          obtain ⟨k1, k2, kA, kB, kC⟩ := sun_ok (a := a) (b := b) (c := c) (e := e) hS h2 (by omega) (by omega) (by omega) (by omega)
          have wr1 : WR (ph_setI (ph_setI (ph_setI (ph_setI h 6 0 a) 6 1 b) 6 2 c) 6 3 e) 3 (up (up (up (up st 485 a) 486 b) 487 c) 488 e) := by
            refine ⟨(fl_keep w3 hS hR x1 (fun c hc => by omega) kA).1, (fl_keep w3 hS hR x1 (fun c hc => by omega) kA).2, mn_keep hR x1 (fun c hc => by omega) kB, ?_, lk_keep hR x1 (fun c hc => by omega) kC⟩
            show SR (ph_setI (ph_setI (ph_setI (ph_setI h 6 0 a) 6 1 b) 6 2 c) 6 3 e) 6 (up (up (up (up st 485 a) 486 b) 487 c) 488 e)
            unfold SR
            have i0 : ph_I (ph_setI (ph_setI (ph_setI (ph_setI h 6 0 a) 6 1 b) 6 2 c) 6 3 e) 6 0 = a := by rw [sI_k (by decide), sI_k (by decide), sI_k (by decide), sI_eq]
            have i1 : ph_I (ph_setI (ph_setI (ph_setI (ph_setI h 6 0 a) 6 1 b) 6 2 c) 6 3 e) 6 1 = b := by rw [sI_k (by decide), sI_k (by decide), sI_eq]
            have i2 : ph_I (ph_setI (ph_setI (ph_setI (ph_setI h 6 0 a) 6 1 b) 6 2 c) 6 3 e) 6 2 = c := by rw [sI_k (by decide), sI_eq]
            have i3 : ph_I (ph_setI (ph_setI (ph_setI (ph_setI h 6 0 a) 6 1 b) 6 2 c) 6 3 e) 6 3 = e := by rw [sI_eq]
            have i4 : ph_I (ph_setI (ph_setI (ph_setI (ph_setI h 6 0 a) 6 1 b) 6 2 c) 6 3 e) 6 4 = ph_I h 6 4 := by rw [sI_k (by decide), sI_k (by decide), sI_k (by decide), sI_k (by decide)]
            have i5 : ph_I (ph_setI (ph_setI (ph_setI (ph_setI h 6 0 a) 6 1 b) 6 2 c) 6 3 e) 6 5 = ph_I h 6 5 := by rw [sI_k (by decide), sI_k (by decide), sI_k (by decide), sI_k (by decide)]
            have i6 : ph_I (ph_setI (ph_setI (ph_setI (ph_setI h 6 0 a) 6 1 b) 6 2 c) 6 3 e) 6 6 = ph_I h 6 6 := by rw [sI_k (by decide), sI_k (by decide), sI_k (by decide), sI_k (by decide)]
            have v0 : (up (up (up (up st 485 a) 486 b) 487 c) 488 e) 485 = a := by rw [up_ne (by decide), up_ne (by decide), up_ne (by decide), up_eq]
            have v1 : (up (up (up (up st 485 a) 486 b) 487 c) 488 e) 486 = b := by rw [up_ne (by decide), up_ne (by decide), up_eq]
            have v2 : (up (up (up (up st 485 a) 486 b) 487 c) 488 e) 487 = c := by rw [up_ne (by decide), up_eq]
            have v3 : (up (up (up (up st 485 a) 486 b) 487 c) 488 e) 488 = e := by rw [up_eq]
            have v4 : (up (up (up (up st 485 a) 486 b) 487 c) 488 e) 489 = st 489 := by rw [up_ne (by decide), up_ne (by decide), up_ne (by decide), up_ne (by decide)]
            have v5 : (up (up (up (up st 485 a) 486 b) 487 c) 488 e) 490 = st 490 := by rw [up_ne (by decide), up_ne (by decide), up_ne (by decide), up_ne (by decide)]
            have v6 : (up (up (up (up st 485 a) 486 b) 487 c) 488 e) 491 = st 491 := by rw [up_ne (by decide), up_ne (by decide), up_ne (by decide), up_ne (by decide)]
            rw [i0, i1, i2, i3, i4, i5, i6, v0, v1, v2, v3, v4, v5, v6]
            exact ⟨⟨rfl, rfl, rfl, rfl, s6⟩, s45, ss⟩
          refine B_X6_sun_52 C (r2 := 104) (hM := ct_X2_forgetWays _ _ (ph_setI (ph_setI (ph_setI (ph_setI h 6 0 a) 6 1 b) 6 2 c) 6 3 e) (XS_fr x1 fx)) (kk := fun rr h5 hq5 => ?_)
          obtain ⟨rfl, hF5, h55, ho5⟩ := hq5
          exact B_X6_sun_59 C (hq := KQ_fw (XS_fr x1 fx) (WFl_fr x1 (fun c hc => by omega) hW.fl) wr1 k1 k2 (x1.cfr (fun c hc => by omega)) hF5 h55 ho5 (by unfold mSun; rw [if_pos (by omega)]))
        · refine B_X6_sun_31 C (kt := fun c9 => absurd c9 (by decide)) (kf := fun c9 => ?_)
          exact B_X6_sun_34 C (hq := by exact KQ_same hW (by unfold mSun; (repeat' split) <;> first | rfl | omega))
      · refine B_X6_sun_21 C (kt := fun c10 => ?_) (kf := fun c10 => absurd c10 (by decide))
        exact B_X6_sun_34 C (hq := by exact KQ_same hW (by unfold mSun; (repeat' split) <;> first | rfl | omega))
    · refine B_X6_sun_14 C (kt := fun c11 => ?_) (kf := fun c11 => absurd c11 (by decide))
      exact B_X6_sun_34 C (hq := by exact KQ_same hW (by unfold mSun; (repeat' split) <;> first | rfl | omega))
  · refine B_X6_sun_4 C (kt := fun c12 => ?_) (kf := fun c12 => absurd c12 (by decide))
    exact B_X6_sun_34 C (hq := by exact KQ_same hW (by unfold mSun; (repeat' split) <;> first | rfl | omega))
theorem ct_X6_storm (G : Gx) (l : Launch) (h : PH) {st : ST} (hW : CW h st) {a : Int} (ga : pR a) {b : Int} (gb : pR b) : CT_X6_storm G l [.inr 2, .inl a, .inl b] h (KQ (fun v st' => (v, st') = mStorm st a b) h) := by
  obtain ⟨fx, hR, hS, h2, hY⟩ := id hW
  have xt2 : ph_T h 2 = 6 := fx.1.1
  have x20 : ph_R h 2 0 = 3 := fx.1.2.1
  have x23 : ph_R h 2 3 = 104 := fx.1.2.2.2.2
  have w3 : WS h 3 := fx.2.2.1.1
  have t3 : ph_T h 3 = 5 := w3.1.1
  have t4 : ph_T h 4 = 10 := w3.1.2.1
  have t5 : ph_T h 5 = 11 := w3.1.2.2.1
  have t6 : ph_T h 6 = 3 := w3.1.2.2.2.1
  have t7 : ph_T h 7 = 8 := w3.1.2.2.2.2
  have l4 : ph_L h 4 = 8 := w3.2.1.1
  have l5 : ph_L h 5 = 4 := w3.2.1.2.1
  have l7 : ph_L h 7 = 168 := w3.2.1.2.2
  have r30 : ph_R h 3 0 = 4 := w3.2.2.1.1
  have r31 : ph_R h 3 1 = 5 := w3.2.2.1.2.1
  have r32 : ph_R h 3 2 = 6 := w3.2.2.1.2.2.1
  have r33 : ph_R h 3 3 = 7 := w3.2.2.1.2.2.2
  have t104 : ph_T h 104 = 2 := fx.2.2.2.1.1
  have f1 : ph_I h 3 4 = st 484 := hR.1
  have sr6 : SR h 6 st := hR.2.2.2.1
  have hmany := hS.2.2.1
  have hb := hS.2.1
  refine ct_intro rfl (Nat.le_of_ble_eq_true rfl) (fun X hX C => ?_)
  refine B_X6_storm_0 C (hM := ct_X6_isTick _ _ _) (kk := fun r1 h1 hq1 => ?_)
  obtain ⟨rfl, ⟨rfl, c1⟩ | ⟨rfl, c1⟩⟩ := hq1
  · refine B_X6_storm_4 C (kt := fun c2 => absurd c2 (by decide)) (kf := fun c2 => ?_)
    refine B_X6_storm_7 C (hM := ct_X6_isTick _ _ _) (kk := fun r3 h3 hq3 => ?_)
    obtain ⟨rfl, ⟨rfl, c3⟩ | ⟨rfl, c3⟩⟩ := hq3
    · refine B_X6_storm_11 C (kt := fun c4 => ?_) (kf := fun c4 => absurd c4 (by decide))
      obtain ⟨⟨s0, s1, s2, s3, s6⟩, s45, ss⟩ := id sr6
      have x1 : Fr (fun c => c = 6) h (ph_setI (ph_setI h 6 4 a) 6 5 b) := ((Fr.rf (fun c => c = 6) h).set rfl _ _).set rfl _ _
      obtain ⟨k1, k2, kA, kB, kC⟩ := storm_ok (a := a) (b := b) hS h2 (by omega) (by omega)
      have wr1 : WR (ph_setI (ph_setI h 6 4 a) 6 5 b) 3 (up (up st 489 (if a ≤ b then a else -6)) 490 (if a ≤ b then b else -6)) := by
        refine ⟨(fl_keep w3 hS hR x1 (fun c hc => by omega) kA).1, (fl_keep w3 hS hR x1 (fun c hc => by omega) kA).2, mn_keep hR x1 (fun c hc => by omega) kB, ?_, lk_keep hR x1 (fun c hc => by omega) kC⟩
        show SR (ph_setI (ph_setI h 6 4 a) 6 5 b) 6 (up (up st 489 (if a ≤ b then a else -6)) 490 (if a ≤ b then b else -6))
        unfold SR
        have i0 : ph_I (ph_setI (ph_setI h 6 4 a) 6 5 b) 6 0 = ph_I h 6 0 := by rw [sI_k (by decide), sI_k (by decide)]
        have i1 : ph_I (ph_setI (ph_setI h 6 4 a) 6 5 b) 6 1 = ph_I h 6 1 := by rw [sI_k (by decide), sI_k (by decide)]
        have i2 : ph_I (ph_setI (ph_setI h 6 4 a) 6 5 b) 6 2 = ph_I h 6 2 := by rw [sI_k (by decide), sI_k (by decide)]
        have i3 : ph_I (ph_setI (ph_setI h 6 4 a) 6 5 b) 6 3 = ph_I h 6 3 := by rw [sI_k (by decide), sI_k (by decide)]
        have i4 : ph_I (ph_setI (ph_setI h 6 4 a) 6 5 b) 6 4 = a := by rw [sI_k (by decide), sI_eq]
        have i5 : ph_I (ph_setI (ph_setI h 6 4 a) 6 5 b) 6 5 = b := by rw [sI_eq]
        have i6 : ph_I (ph_setI (ph_setI h 6 4 a) 6 5 b) 6 6 = ph_I h 6 6 := by rw [sI_k (by decide), sI_k (by decide)]
        have v0 : (up (up st 489 (if a ≤ b then a else -6)) 490 (if a ≤ b then b else -6)) 485 = st 485 := by rw [up_ne (by decide), up_ne (by decide)]
        have v1 : (up (up st 489 (if a ≤ b then a else -6)) 490 (if a ≤ b then b else -6)) 486 = st 486 := by rw [up_ne (by decide), up_ne (by decide)]
        have v2 : (up (up st 489 (if a ≤ b then a else -6)) 490 (if a ≤ b then b else -6)) 487 = st 487 := by rw [up_ne (by decide), up_ne (by decide)]
        have v3 : (up (up st 489 (if a ≤ b then a else -6)) 490 (if a ≤ b then b else -6)) 488 = st 488 := by rw [up_ne (by decide), up_ne (by decide)]
        have v4 : (up (up st 489 (if a ≤ b then a else -6)) 490 (if a ≤ b then b else -6)) 489 = (if a ≤ b then a else -6) := by rw [up_ne (by decide), up_eq]
        have v5 : (up (up st 489 (if a ≤ b then a else -6)) 490 (if a ≤ b then b else -6)) 490 = (if a ≤ b then b else -6) := by rw [up_eq]
        have v6 : (up (up st 489 (if a ≤ b then a else -6)) 490 (if a ≤ b then b else -6)) 491 = st 491 := by rw [up_ne (by decide), up_ne (by decide)]
        rw [i0, i1, i2, i3, i4, i5, i6, v0, v1, v2, v3, v4, v5, v6]
        refine ⟨⟨s0, s1, s2, s3, s6⟩, by omega, ?_⟩
        by_cases z : a ≤ b
        · rw [if_pos z, if_pos z]; exact Or.inl ⟨z, rfl, rfl⟩
        · rw [if_neg z, if_neg z]; exact Or.inr ⟨by omega, rfl, rfl⟩
      refine B_X6_storm_17 C (r2 := 3) (r5 := 6) (r9 := 3) (r12 := 6) (r16 := 104) (hM := ct_X2_forgetWays _ _ (ph_setI (ph_setI h 6 4 a) 6 5 b) (XS_fr x1 fx)) (kk := fun rr h5 hq5 => ?_)
      obtain ⟨rfl, hF5, h55, ho5⟩ := hq5
      exact B_X6_storm_46 C (hq := KQ_fw (XS_fr x1 fx) (WFl_fr x1 (fun c hc => by omega) hW.fl) wr1 k1 k2 (x1.cfr (fun c hc => by omega)) hF5 h55 ho5 (by unfold mStorm; exact Eq.symm (if_pos (by omega))))
    · refine B_X6_storm_11 C (kt := fun c5 => absurd c5 (by decide)) (kf := fun c5 => ?_)
      exact B_X6_storm_14 C (hq := by exact KQ_same hW (by unfold mStorm; (repeat' split) <;> first | rfl | omega))
  · refine B_X6_storm_4 C (kt := fun c6 => ?_) (kf := fun c6 => absurd c6 (by decide))
    exact B_X6_storm_14 C (hq := by exact KQ_same hW (by unfold mStorm; (repeat' split) <;> first | rfl | omega))
theorem ct_X6_key (G : Gx) (l : Launch) (h : PH) {st : ST} (hW : CW h st) {a : Int} (ga : pR a) : CT_X6_key G l [.inr 2, .inl a] h (KQ (fun v st' => (v, st') = mKey st a) h) := by
  obtain ⟨fx, hR, hS, h2, hY⟩ := id hW
  have xt2 : ph_T h 2 = 6 := fx.1.1
  have x20 : ph_R h 2 0 = 3 := fx.1.2.1
  have x23 : ph_R h 2 3 = 104 := fx.1.2.2.2.2
  have w3 : WS h 3 := fx.2.2.1.1
  have t3 : ph_T h 3 = 5 := w3.1.1
  have t4 : ph_T h 4 = 10 := w3.1.2.1
  have t5 : ph_T h 5 = 11 := w3.1.2.2.1
  have t6 : ph_T h 6 = 3 := w3.1.2.2.2.1
  have t7 : ph_T h 7 = 8 := w3.1.2.2.2.2
  have l4 : ph_L h 4 = 8 := w3.2.1.1
  have l5 : ph_L h 5 = 4 := w3.2.1.2.1
  have l7 : ph_L h 7 = 168 := w3.2.1.2.2
  have r30 : ph_R h 3 0 = 4 := w3.2.2.1.1
  have r31 : ph_R h 3 1 = 5 := w3.2.2.1.2.1
  have r32 : ph_R h 3 2 = 6 := w3.2.2.1.2.2.1
  have r33 : ph_R h 3 3 = 7 := w3.2.2.1.2.2.2
  have t104 : ph_T h 104 = 2 := fx.2.2.2.1.1
  have f1 : ph_I h 3 4 = st 484 := hR.1
  have sr6 : SR h 6 st := hR.2.2.2.1
  have hmany := hS.2.2.1
  have hb := hS.2.1
  refine ct_intro rfl (Nat.le_of_ble_eq_true rfl) (fun X hX C => ?_)
  refine B_X6_key_0 C (hM := ct_X6_isHeight _ _ _) (kk := fun r1 h1 hq1 => ?_)
  obtain ⟨rfl, ⟨rfl, c1⟩ | ⟨rfl, c1⟩⟩ := hq1
  · refine B_X6_key_4 C (kt := fun c2 => ?_) (kf := fun c2 => absurd c2 (by decide))
    obtain ⟨⟨s0, s1, s2, s3, s6⟩, s45, ss⟩ := id sr6
    have x1 : Fr (fun c => c = 6) h (ph_setI h 6 6 a) := (Fr.rf (fun c => c = 6) h).set rfl _ _
    obtain ⟨k1, k2, kA, kB, kC⟩ := key_ok (a := a) hS h2 (by omega)
    have wr1 : WR (ph_setI h 6 6 a) 3 (up st 491 a) := by
      refine ⟨(fl_keep w3 hS hR x1 (fun c hc => by omega) kA).1, (fl_keep w3 hS hR x1 (fun c hc => by omega) kA).2, mn_keep hR x1 (fun c hc => by omega) kB, ?_, lk_keep hR x1 (fun c hc => by omega) kC⟩
      show SR (ph_setI h 6 6 a) 6 (up st 491 a)
      unfold SR
      rw [sI_k (j := 0) (by decide), sI_k (j := 1) (by decide), sI_k (j := 2) (by decide), sI_k (j := 3) (by decide), sI_k (j := 4) (by decide), sI_k (j := 5) (by decide), sI_eq, up_eq, up_ne (j := 485) (by decide), up_ne (j := 486) (by decide), up_ne (j := 487) (by decide), up_ne (j := 488) (by decide), up_ne (j := 489) (by decide), up_ne (j := 490) (by decide)]
      exact ⟨⟨s0, s1, s2, s3, rfl⟩, s45, ss⟩
    refine B_X6_key_10 C (r2 := 3) (r5 := 6) (x8 := st 491) (e9 := s6) (r11 := 3) (r14 := 6) (r18 := 104) (hM := ct_X2_forgetWays _ _ (ph_setI h 6 6 a) (XS_fr x1 fx)) (kk := fun rr h5 hq5 => ?_)
    obtain ⟨rfl, hF5, h55, ho5⟩ := hq5
    exact B_X6_key_39 C (hq := KQ_fw (XS_fr x1 fx) (WFl_fr x1 (fun c hc => by omega) hW.fl) wr1 k1 k2 (x1.cfr (fun c hc => by omega)) hF5 h55 ho5 (by unfold mKey; rw [if_pos (by omega)]))
  · refine B_X6_key_4 C (kt := fun c3 => absurd c3 (by decide)) (kf := fun c3 => ?_)
    exact B_X6_key_7 C (hq := by exact KQ_same hW (by unfold mKey; (repeat' split) <;> first | rfl | omega))
/-- mounts, one changed -/
theorem mn_one {h h1 : PH} {st st' : ST} {d : Int} (hR : WR h 3 st) (d0 : 0 ≤ d ∧ d ≤ 3) (x : Fr (fun c => c = 32 + Int.toNat d) h h1) (k : ∀ j : Nat, j ≠ Int.toNat (296 + d) → j ≠ Int.toNat (300 + d) → j ≠ Int.toNat (304 + d) → j ≠ Int.toNat (308 + d) → j ≠ Int.toNat (312 + d) → st' j = st j) (m : MR h1 (32 + Int.toNat d) st' d) : ∀ d' : Int, 0 ≤ d' → d' ≤ 3 → MR h1 (3 + 29 + Int.toNat d') st' d' := fun d' a b => by
  by_cases z : d' = d
  · rw [z]; exact m
  · have := hR.2.2.1 d' a b
    have i : ∀ k, ph_I h1 (3 + 29 + Int.toNat d') k = ph_I h (3 + 29 + Int.toNat d') k := fun k => x.I (by omega) k
    unfold MR at *
    rw [i, i, i, i, i, k _ (by omega) (by omega) (by omega) (by omega) (by omega), k _ (by omega) (by omega) (by omega) (by omega) (by omega), k _ (by omega) (by omega) (by omega) (by omega) (by omega), k _ (by omega) (by omega) (by omega) (by omega) (by omega), k _ (by omega) (by omega) (by omega) (by omega) (by omega)]
    exact this
theorem ct_X6_stand (G : Gx) (l : Launch) (h : PH) {st : ST} (hW : CW h st) {d : Int} (gd : pR d) {w : Int} (gw : pR w) {hh : Int} (ghh : pR hh) {f : Int} (gf : pR f) : CT_X6_stand G l [.inr 2, .inl d, .inl w, .inl hh, .inl f] h (KQ (fun v st' => (v, st') = mStand st d w hh f) h) := by
  obtain ⟨fx, hR, hS, h2, hY⟩ := id hW
  have xt2 : ph_T h 2 = 6 := fx.1.1
  have x20 : ph_R h 2 0 = 3 := fx.1.2.1
  have x23 : ph_R h 2 3 = 104 := fx.1.2.2.2.2
  have w3 : WS h 3 := fx.2.2.1.1
  have t3 : ph_T h 3 = 5 := w3.1.1
  have t4 : ph_T h 4 = 10 := w3.1.2.1
  have t5 : ph_T h 5 = 11 := w3.1.2.2.1
  have t6 : ph_T h 6 = 3 := w3.1.2.2.2.1
  have t7 : ph_T h 7 = 8 := w3.1.2.2.2.2
  have l4 : ph_L h 4 = 8 := w3.2.1.1
  have l5 : ph_L h 5 = 4 := w3.2.1.2.1
  have l7 : ph_L h 7 = 168 := w3.2.1.2.2
  have r30 : ph_R h 3 0 = 4 := w3.2.2.1.1
  have r31 : ph_R h 3 1 = 5 := w3.2.2.1.2.1
  have r32 : ph_R h 3 2 = 6 := w3.2.2.1.2.2.1
  have r33 : ph_R h 3 3 = 7 := w3.2.2.1.2.2.2
  have t104 : ph_T h 104 = 2 := fx.2.2.2.1.1
  have f1 : ph_I h 3 4 = st 484 := hR.1
  have sr6 : SR h 6 st := hR.2.2.2.1
  have hmany := hS.2.2.1
  have hb := hS.2.1
  refine ct_intro rfl (Nat.le_of_ble_eq_true rfl) (fun X hX C => ?_)
  refine B_X6_stand_0 C (hM := ct_X6_isDish _ _ _) (kk := fun r1 h1 hq1 => ?_)
  obtain ⟨rfl, ⟨rfl, c1⟩ | ⟨rfl, c1⟩⟩ := hq1
  · refine B_X6_stand_4 C (kt := fun c2 => ?_) (kf := fun c2 => absurd c2 (by decide))
    have dd : 0 ≤ d ∧ d ≤ 3 := by omega
    obtain ⟨rm, tm, m0, m1, m2, m3, m4⟩ := hW.mnt dd
    have hDd := hS.2.2.2.1 d dd.1 dd.2
    have hl := hDd.1
    have hz := zabs_b hDd.2.2.2.1
    have dn : ¬ ¬ (0 ≤ d ∧ d ≤ 3) := fun z => z dd
    refine B_X6_stand_9 C (r2 := 3) (r5 := 5) (m11 := 11) (r12 := 32 + Int.toNat d) (x16 := st (Int.toNat (308 + d))) (x19 := st (Int.toNat (308 + d))) (hM := ct_X6_isIn _ _ _) (kk := fun r1 h1 hq1 => ?_)
    obtain ⟨rfl, ⟨rfl, c1⟩ | ⟨rfl, c1⟩⟩ := hq1
    · refine B_X6_stand_35 C (kt := fun c2 => absurd c2 (by decide)) (kf := fun c2 => ?_)
      refine B_X6_stand_38 C (hM := ct_X6_isHeight _ _ _) (kk := fun r3 h3 hq3 => ?_)
      obtain ⟨rfl, ⟨rfl, c3⟩ | ⟨rfl, c3⟩⟩ := hq3
      · refine B_X6_stand_42 C (kt := fun c4 => absurd c4 (by decide)) (kf := fun c4 => ?_)
        refine B_X6_stand_45 C (hM := ct_X6_isTick _ _ _) (kk := fun r5 h5 hq5 => ?_)
        obtain ⟨rfl, ⟨rfl, c5⟩ | ⟨rfl, c5⟩⟩ := hq5
        · refine B_X6_stand_50 C (kt := fun c6 => ?_) (kf := fun c6 => absurd c6 (by decide))
          refine B_X6_stand_56 C (hM := ct_X1_turnTo _ _ _ tm) (kk := fun rr h4 hq4 => ?_)
          obtain ⟨rfl, rfl⟩ := hq4
          have x1 : Fr (fun c => c = 32 + Int.toNat d) h (ph_setI (ph_setI (ph_setI h (32 + Int.toNat d) 0 w) (32 + Int.toNat d) 1 hh) (32 + Int.toNat d) 2 f) := (((Fr.rf (fun c => c = 32 + Int.toNat d) h).set rfl _ _).set rfl _ _).set rfl _ _
          obtain ⟨k1, k2, kA, kC, kD⟩ := stand_ok (d := d) (w := w) (hh := hh) (f := f) hS h2 dd (by omega) (by omega) (by omega)
          obtain ⟨v1, v2, v3, v4⟩ := stnd_v (st := st) (w := w) (hh := hh) (f := f) dd
          have wr1 : WR (ph_setI (ph_setI (ph_setI h (32 + Int.toNat d) 0 w) (32 + Int.toNat d) 1 hh) (32 + Int.toNat d) 2 f) 3 (stnd st d w hh f) := by
            refine ⟨(fl_keep w3 hS hR x1 (fun c hc => by omega) kA).1, (fl_keep w3 hS hR x1 (fun c hc => by omega) kA).2, mn_one hR dd x1 (fun j a b c _ _ => v4 j a b c) ?_, sk_keep hR x1 (fun c hc => by omega) kD, lk_keep hR x1 (fun c hc => by omega) kC⟩
            unfold MR
            have i0 : ph_I (ph_setI (ph_setI (ph_setI h (32 + Int.toNat d) 0 w) (32 + Int.toNat d) 1 hh) (32 + Int.toNat d) 2 f) (32 + Int.toNat d) 0 = w := by rw [sI_k (by decide), sI_k (by decide), sI_eq]
            have i1 : ph_I (ph_setI (ph_setI (ph_setI h (32 + Int.toNat d) 0 w) (32 + Int.toNat d) 1 hh) (32 + Int.toNat d) 2 f) (32 + Int.toNat d) 1 = hh := by rw [sI_k (by decide), sI_eq]
            have i2 : ph_I (ph_setI (ph_setI (ph_setI h (32 + Int.toNat d) 0 w) (32 + Int.toNat d) 1 hh) (32 + Int.toNat d) 2 f) (32 + Int.toNat d) 2 = f := by rw [sI_eq]
            have i3 : ph_I (ph_setI (ph_setI (ph_setI h (32 + Int.toNat d) 0 w) (32 + Int.toNat d) 1 hh) (32 + Int.toNat d) 2 f) (32 + Int.toNat d) 3 = st (Int.toNat (308 + d)) := by rw [sI_k (by decide), sI_k (by decide), sI_k (by decide)]; exact m3
            have i4 : ph_I (ph_setI (ph_setI (ph_setI h (32 + Int.toNat d) 0 w) (32 + Int.toNat d) 1 hh) (32 + Int.toNat d) 2 f) (32 + Int.toNat d) 4 = st (Int.toNat (312 + d)) := by rw [sI_k (by decide), sI_k (by decide), sI_k (by decide)]; exact m4
            rw [i0, i1, i2, i3, i4, v1, v2, v3, v4 _ (by omega) (by omega) (by omega), v4 _ (by omega) (by omega) (by omega)]
            exact ⟨rfl, rfl, rfl, rfl, rfl⟩
          refine B_X6_stand_65 C (r2 := 104) (hM := ct_X2_forgetWays _ _ (ph_setI (ph_setI (ph_setI h (32 + Int.toNat d) 0 w) (32 + Int.toNat d) 1 hh) (32 + Int.toNat d) 2 f) (XS_fr x1 fx)) (kk := fun rr h5 hq5 => ?_)
          obtain ⟨rfl, hF5, h55, ho5⟩ := hq5
          exact B_X6_stand_72 C (hq := KQ_fw (XS_fr x1 fx) (WFl_fr x1 (fun c hc => by omega) hW.fl) wr1 k1 k2 (x1.cfr (fun c hc => by omega)) hF5 h55 ho5 (by unfold mStand; rw [if_neg dn, if_pos (by omega)]; rfl))
        · refine B_X6_stand_50 C (kt := fun c7 => absurd c7 (by decide)) (kf := fun c7 => ?_)
          exact B_X6_stand_53 C (hq := by exact KQ_same hW (by unfold mStand; (repeat' split) <;> first | rfl | omega))
      · refine B_X6_stand_42 C (kt := fun c8 => ?_) (kf := fun c8 => absurd c8 (by decide))
        exact B_X6_stand_53 C (hq := by exact KQ_same hW (by unfold mStand; (repeat' split) <;> first | rfl | omega))
    · refine B_X6_stand_35 C (kt := fun c9 => ?_) (kf := fun c9 => absurd c9 (by decide))
      exact B_X6_stand_53 C (hq := by exact KQ_same hW (by unfold mStand; (repeat' split) <;> first | rfl | omega))
  · refine B_X6_stand_4 C (kt := fun c3 => absurd c3 (by decide)) (kf := fun c3 => ?_)
    exact B_X6_stand_7 C (hq := by exact KQ_same hW (by unfold mStand; (repeat' split) <;> first | rfl | omega))
theorem ct_X6_set (G : Gx) (l : Launch) (h : PH) {st : ST} (hW : CW h st) {d : Int} (gd : pR d) {wh : Int} (gwh : pR wh) {n : Int} (gn : pR n) : CT_X6_set G l [.inr 2, .inl d, .inl wh, .inl n] h (KQ (fun v st' => (v, st') = mSet st d wh n) h) := by
  obtain ⟨fx, hR, hS, h2, hY⟩ := id hW
  have xt2 : ph_T h 2 = 6 := fx.1.1
  have x20 : ph_R h 2 0 = 3 := fx.1.2.1
  have x23 : ph_R h 2 3 = 104 := fx.1.2.2.2.2
  have w3 : WS h 3 := fx.2.2.1.1
  have t3 : ph_T h 3 = 5 := w3.1.1
  have t4 : ph_T h 4 = 10 := w3.1.2.1
  have t5 : ph_T h 5 = 11 := w3.1.2.2.1
  have t6 : ph_T h 6 = 3 := w3.1.2.2.2.1
  have t7 : ph_T h 7 = 8 := w3.1.2.2.2.2
  have l4 : ph_L h 4 = 8 := w3.2.1.1
  have l5 : ph_L h 5 = 4 := w3.2.1.2.1
  have l7 : ph_L h 7 = 168 := w3.2.1.2.2
  have r30 : ph_R h 3 0 = 4 := w3.2.2.1.1
  have r31 : ph_R h 3 1 = 5 := w3.2.2.1.2.1
  have r32 : ph_R h 3 2 = 6 := w3.2.2.1.2.2.1
  have r33 : ph_R h 3 3 = 7 := w3.2.2.1.2.2.2
  have t104 : ph_T h 104 = 2 := fx.2.2.2.1.1
  have f1 : ph_I h 3 4 = st 484 := hR.1
  have sr6 : SR h 6 st := hR.2.2.2.1
  have hmany := hS.2.2.1
  have hb := hS.2.1
  refine ct_intro rfl (Nat.le_of_ble_eq_true rfl) (fun X hX C => ?_)
  refine B_X6_set_0 C (hM := ct_X6_isDish _ _ _) (kk := fun r1 h1 hq1 => ?_)
  obtain ⟨rfl, ⟨rfl, c1⟩ | ⟨rfl, c1⟩⟩ := hq1
  · refine B_X6_set_4 C (kt := fun c2 => ?_) (kf := fun c2 => absurd c2 (by decide))
    refine B_X6_set_9 C (hM := ct_X6_isSetting _ _ _) (kk := fun r3 h3 hq3 => ?_)
    obtain ⟨rfl, ⟨rfl, c3⟩ | ⟨rfl, c3⟩⟩ := hq3
    · refine B_X6_set_14 C (kt := fun c4 => ?_) (kf := fun c4 => absurd c4 (by decide))
      have dd : 0 ≤ d ∧ d ≤ 3 := by omega
      obtain ⟨rm, tm, m0, m1, m2, m3, m4⟩ := hW.mnt dd
      have hDd := hS.2.2.2.1 d dd.1 dd.2
      have hl := hDd.1
      have hz := zabs_b hDd.2.2.2.1
      have dn : ¬ ¬ (0 ≤ d ∧ d ≤ 3) := fun z => z dd
      refine B_X6_set_20 C (r2 := 3) (r5 := 5) (m11 := 11) (r12 := 32 + Int.toNat d) (kt := fun c1 => ?_) (kf := fun c1 => ?_)
      · refine B_X6_set_52 C (kt := fun c2 => ?_) (kf := fun c2 => ?_)
        · refine B_X6_set_64 C (kk := ?_)
          refine B_X6_set_69 C (kt := fun c3 => ?_) (kf := fun c3 => ?_)
          · first
              | omega
              | (refine B_X6_set_84 C (kk := ?_)
                 have x1 : Fr (fun c => c = 32 + Int.toNat d) h (ph_setI h (32 + Int.toNat d) 4 n) := (Fr.rf (fun c => c = 32 + Int.toNat d) h).set rfl _ _
                 obtain ⟨k1, k2, kA, kC, kD⟩ := set1_ok (d := d) (n := n) hS h2 dd (by omega)
                 have wr1 : WR (ph_setI h (32 + Int.toNat d) 4 n) 3 (up st (Int.toNat (312 + d)) n) := by
                   refine ⟨(fl_keep w3 hS hR x1 (fun c hc => by omega) kA).1, (fl_keep w3 hS hR x1 (fun c hc => by omega) kA).2, mn_one hR dd x1 (fun j a b c e f => up_ne f) ?_, sk_keep hR x1 (fun c hc => by omega) kD, lk_keep hR x1 (fun c hc => by omega) kC⟩
                   unfold MR
                   rw [sI_k (j := 0) (by decide), sI_k (j := 1) (by decide), sI_k (j := 2) (by decide), sI_k (j := 3) (by decide), sI_eq, up_eq, up_ne (j := Int.toNat (296 + d)) (by omega), up_ne (j := Int.toNat (300 + d)) (by omega), up_ne (j := Int.toNat (304 + d)) (by omega), up_ne (j := Int.toNat (308 + d)) (by omega)]
                   exact ⟨m0, m1, m2, m3, rfl⟩
                 refine B_X6_set_90 C (r2 := 104) (hM := ct_X2_forgetWays _ _ (ph_setI h (32 + Int.toNat d) 4 n) (XS_fr x1 fx)) (kk := fun rr h5 hq5 => ?_)
                 obtain ⟨rfl, hF5, h55, ho5⟩ := hq5
                 exact B_X6_set_97 C (hq := KQ_fw (XS_fr x1 fx) (WFl_fr x1 (fun c hc => by omega) hW.fl) wr1 k1 k2 (x1.cfr (fun c hc => by omega)) hF5 h55 ho5 (by unfold mSet; rw [if_neg dn, if_neg (by omega), if_neg (fun z => by have := zabs_i (x := st (Int.toNat (296 + d))) (n := n) (by omega); omega)]; rw [if_neg (show ¬ wh = 0 by omega)])))
          · first
              | omega
              | (refine B_X6_set_75 C (kk := ?_)
                 have x1 : Fr (fun c => c = 32 + Int.toNat d) h (ph_setI h (32 + Int.toNat d) 3 n) := (Fr.rf (fun c => c = 32 + Int.toNat d) h).set rfl _ _
                 obtain ⟨k1, k2, kA, kC, kD⟩ := set0_ok (d := d) (n := n) hS h2 dd (by omega) (zabs_i (by omega))
                 have wr1 : WR (ph_setI h (32 + Int.toNat d) 3 n) 3 (up st (Int.toNat (308 + d)) n) := by
                   refine ⟨(fl_keep w3 hS hR x1 (fun c hc => by omega) kA).1, (fl_keep w3 hS hR x1 (fun c hc => by omega) kA).2, mn_one hR dd x1 (fun j a b c e f => up_ne e) ?_, sk_keep hR x1 (fun c hc => by omega) kD, lk_keep hR x1 (fun c hc => by omega) kC⟩
                   unfold MR
                   rw [sI_k (j := 0) (by decide), sI_k (j := 1) (by decide), sI_k (j := 2) (by decide), sI_k (j := 4) (by decide), sI_eq, up_eq, up_ne (j := Int.toNat (296 + d)) (by omega), up_ne (j := Int.toNat (300 + d)) (by omega), up_ne (j := Int.toNat (304 + d)) (by omega), up_ne (j := Int.toNat (312 + d)) (by omega)]
                   exact ⟨m0, m1, m2, rfl, m4⟩
                 refine B_X6_set_90 C (r2 := 104) (hM := ct_X2_forgetWays _ _ (ph_setI h (32 + Int.toNat d) 3 n) (XS_fr x1 fx)) (kk := fun rr h5 hq5 => ?_)
                 obtain ⟨rfl, hF5, h55, ho5⟩ := hq5
                 exact B_X6_set_97 C (hq := KQ_fw (XS_fr x1 fx) (WFl_fr x1 (fun c hc => by omega) hW.fl) wr1 k1 k2 (x1.cfr (fun c hc => by omega)) hF5 h55 ho5 (by unfold mSet; rw [if_neg dn, if_neg (by omega), if_neg (fun z => by have := zabs_i (x := st (Int.toNat (296 + d))) (n := n) (by omega); omega)]; rw [if_pos (show wh = 0 by omega)])))
        · refine B_X6_set_56 C (kk := ?_)
          refine B_X6_set_69 C (kt := fun c4 => ?_) (kf := fun c4 => ?_)
          · first
              | omega
              | (refine B_X6_set_84 C (kk := ?_)
                 have x1 : Fr (fun c => c = 32 + Int.toNat d) h (ph_setI h (32 + Int.toNat d) 4 n) := (Fr.rf (fun c => c = 32 + Int.toNat d) h).set rfl _ _
                 obtain ⟨k1, k2, kA, kC, kD⟩ := set1_ok (d := d) (n := n) hS h2 dd (by omega)
                 have wr1 : WR (ph_setI h (32 + Int.toNat d) 4 n) 3 (up st (Int.toNat (312 + d)) n) := by
                   refine ⟨(fl_keep w3 hS hR x1 (fun c hc => by omega) kA).1, (fl_keep w3 hS hR x1 (fun c hc => by omega) kA).2, mn_one hR dd x1 (fun j a b c e f => up_ne f) ?_, sk_keep hR x1 (fun c hc => by omega) kD, lk_keep hR x1 (fun c hc => by omega) kC⟩
                   unfold MR
                   rw [sI_k (j := 0) (by decide), sI_k (j := 1) (by decide), sI_k (j := 2) (by decide), sI_k (j := 3) (by decide), sI_eq, up_eq, up_ne (j := Int.toNat (296 + d)) (by omega), up_ne (j := Int.toNat (300 + d)) (by omega), up_ne (j := Int.toNat (304 + d)) (by omega), up_ne (j := Int.toNat (308 + d)) (by omega)]
                   exact ⟨m0, m1, m2, m3, rfl⟩
                 refine B_X6_set_90 C (r2 := 104) (hM := ct_X2_forgetWays _ _ (ph_setI h (32 + Int.toNat d) 4 n) (XS_fr x1 fx)) (kk := fun rr h5 hq5 => ?_)
                 obtain ⟨rfl, hF5, h55, ho5⟩ := hq5
                 exact B_X6_set_97 C (hq := KQ_fw (XS_fr x1 fx) (WFl_fr x1 (fun c hc => by omega) hW.fl) wr1 k1 k2 (x1.cfr (fun c hc => by omega)) hF5 h55 ho5 (by unfold mSet; rw [if_neg dn, if_neg (by omega), if_neg (fun z => by have := zabs_i (x := st (Int.toNat (296 + d))) (n := n) (by omega); omega)]; rw [if_neg (show ¬ wh = 0 by omega)])))
          · first
              | omega
              | (refine B_X6_set_75 C (kk := ?_)
                 have x1 : Fr (fun c => c = 32 + Int.toNat d) h (ph_setI h (32 + Int.toNat d) 3 n) := (Fr.rf (fun c => c = 32 + Int.toNat d) h).set rfl _ _
                 obtain ⟨k1, k2, kA, kC, kD⟩ := set0_ok (d := d) (n := n) hS h2 dd (by omega) (zabs_i (by omega))
                 have wr1 : WR (ph_setI h (32 + Int.toNat d) 3 n) 3 (up st (Int.toNat (308 + d)) n) := by
                   refine ⟨(fl_keep w3 hS hR x1 (fun c hc => by omega) kA).1, (fl_keep w3 hS hR x1 (fun c hc => by omega) kA).2, mn_one hR dd x1 (fun j a b c e f => up_ne e) ?_, sk_keep hR x1 (fun c hc => by omega) kD, lk_keep hR x1 (fun c hc => by omega) kC⟩
                   unfold MR
                   rw [sI_k (j := 0) (by decide), sI_k (j := 1) (by decide), sI_k (j := 2) (by decide), sI_k (j := 4) (by decide), sI_eq, up_eq, up_ne (j := Int.toNat (296 + d)) (by omega), up_ne (j := Int.toNat (300 + d)) (by omega), up_ne (j := Int.toNat (304 + d)) (by omega), up_ne (j := Int.toNat (312 + d)) (by omega)]
                   exact ⟨m0, m1, m2, rfl, m4⟩
                 refine B_X6_set_90 C (r2 := 104) (hM := ct_X2_forgetWays _ _ (ph_setI h (32 + Int.toNat d) 3 n) (XS_fr x1 fx)) (kk := fun rr h5 hq5 => ?_)
                 obtain ⟨rfl, hF5, h55, ho5⟩ := hq5
                 exact B_X6_set_97 C (hq := KQ_fw (XS_fr x1 fx) (WFl_fr x1 (fun c hc => by omega) hW.fl) wr1 k1 k2 (x1.cfr (fun c hc => by omega)) hF5 h55 ho5 (by unfold mSet; rw [if_neg dn, if_neg (by omega), if_neg (fun z => by have := zabs_i (x := st (Int.toNat (296 + d))) (n := n) (by omega); omega)]; rw [if_pos (show wh = 0 by omega)])))
      · refine B_X6_set_35 C (hM := ct_X6_isIn _ _ _) (kk := fun r5 h5 hq5 => ?_)
        obtain ⟨rfl, ⟨rfl, c5⟩ | ⟨rfl, c5⟩⟩ := hq5
        · refine B_X6_set_46 C (q1 := by unfold pR; decide) (kt := fun c6 => ?_) (kf := fun c6 => absurd c6 (by decide))
          refine B_X6_set_52 C (kt := fun c7 => ?_) (kf := fun c7 => ?_)
          · refine B_X6_set_64 C (kk := ?_)
            refine B_X6_set_69 C (kt := fun c8 => ?_) (kf := fun c8 => ?_)
            · first
                | omega
                | (refine B_X6_set_84 C (kk := ?_)
                   have x1 : Fr (fun c => c = 32 + Int.toNat d) h (ph_setI h (32 + Int.toNat d) 4 n) := (Fr.rf (fun c => c = 32 + Int.toNat d) h).set rfl _ _
                   obtain ⟨k1, k2, kA, kC, kD⟩ := set1_ok (d := d) (n := n) hS h2 dd (by omega)
                   have wr1 : WR (ph_setI h (32 + Int.toNat d) 4 n) 3 (up st (Int.toNat (312 + d)) n) := by
                     refine ⟨(fl_keep w3 hS hR x1 (fun c hc => by omega) kA).1, (fl_keep w3 hS hR x1 (fun c hc => by omega) kA).2, mn_one hR dd x1 (fun j a b c e f => up_ne f) ?_, sk_keep hR x1 (fun c hc => by omega) kD, lk_keep hR x1 (fun c hc => by omega) kC⟩
                     unfold MR
                     rw [sI_k (j := 0) (by decide), sI_k (j := 1) (by decide), sI_k (j := 2) (by decide), sI_k (j := 3) (by decide), sI_eq, up_eq, up_ne (j := Int.toNat (296 + d)) (by omega), up_ne (j := Int.toNat (300 + d)) (by omega), up_ne (j := Int.toNat (304 + d)) (by omega), up_ne (j := Int.toNat (308 + d)) (by omega)]
                     exact ⟨m0, m1, m2, m3, rfl⟩
                   refine B_X6_set_90 C (r2 := 104) (hM := ct_X2_forgetWays _ _ (ph_setI h (32 + Int.toNat d) 4 n) (XS_fr x1 fx)) (kk := fun rr h5 hq5 => ?_)
                   obtain ⟨rfl, hF5, h55, ho5⟩ := hq5
                   exact B_X6_set_97 C (hq := KQ_fw (XS_fr x1 fx) (WFl_fr x1 (fun c hc => by omega) hW.fl) wr1 k1 k2 (x1.cfr (fun c hc => by omega)) hF5 h55 ho5 (by unfold mSet; rw [if_neg dn, if_neg (by omega), if_neg (fun z => by have := zabs_i (x := st (Int.toNat (296 + d))) (n := n) (by omega); omega)]; rw [if_neg (show ¬ wh = 0 by omega)])))
            · first
                | omega
                | (refine B_X6_set_75 C (kk := ?_)
                   have x1 : Fr (fun c => c = 32 + Int.toNat d) h (ph_setI h (32 + Int.toNat d) 3 n) := (Fr.rf (fun c => c = 32 + Int.toNat d) h).set rfl _ _
                   obtain ⟨k1, k2, kA, kC, kD⟩ := set0_ok (d := d) (n := n) hS h2 dd (by omega) (zabs_i (by omega))
                   have wr1 : WR (ph_setI h (32 + Int.toNat d) 3 n) 3 (up st (Int.toNat (308 + d)) n) := by
                     refine ⟨(fl_keep w3 hS hR x1 (fun c hc => by omega) kA).1, (fl_keep w3 hS hR x1 (fun c hc => by omega) kA).2, mn_one hR dd x1 (fun j a b c e f => up_ne e) ?_, sk_keep hR x1 (fun c hc => by omega) kD, lk_keep hR x1 (fun c hc => by omega) kC⟩
                     unfold MR
                     rw [sI_k (j := 0) (by decide), sI_k (j := 1) (by decide), sI_k (j := 2) (by decide), sI_k (j := 4) (by decide), sI_eq, up_eq, up_ne (j := Int.toNat (296 + d)) (by omega), up_ne (j := Int.toNat (300 + d)) (by omega), up_ne (j := Int.toNat (304 + d)) (by omega), up_ne (j := Int.toNat (312 + d)) (by omega)]
                     exact ⟨m0, m1, m2, rfl, m4⟩
                   refine B_X6_set_90 C (r2 := 104) (hM := ct_X2_forgetWays _ _ (ph_setI h (32 + Int.toNat d) 3 n) (XS_fr x1 fx)) (kk := fun rr h5 hq5 => ?_)
                   obtain ⟨rfl, hF5, h55, ho5⟩ := hq5
                   exact B_X6_set_97 C (hq := KQ_fw (XS_fr x1 fx) (WFl_fr x1 (fun c hc => by omega) hW.fl) wr1 k1 k2 (x1.cfr (fun c hc => by omega)) hF5 h55 ho5 (by unfold mSet; rw [if_neg dn, if_neg (by omega), if_neg (fun z => by have := zabs_i (x := st (Int.toNat (296 + d))) (n := n) (by omega); omega)]; rw [if_pos (show wh = 0 by omega)])))
          · refine B_X6_set_56 C (kk := ?_)
            refine B_X6_set_69 C (kt := fun c9 => ?_) (kf := fun c9 => ?_)
            · first
                | omega
                | (refine B_X6_set_84 C (kk := ?_)
                   have x1 : Fr (fun c => c = 32 + Int.toNat d) h (ph_setI h (32 + Int.toNat d) 4 n) := (Fr.rf (fun c => c = 32 + Int.toNat d) h).set rfl _ _
                   obtain ⟨k1, k2, kA, kC, kD⟩ := set1_ok (d := d) (n := n) hS h2 dd (by omega)
                   have wr1 : WR (ph_setI h (32 + Int.toNat d) 4 n) 3 (up st (Int.toNat (312 + d)) n) := by
                     refine ⟨(fl_keep w3 hS hR x1 (fun c hc => by omega) kA).1, (fl_keep w3 hS hR x1 (fun c hc => by omega) kA).2, mn_one hR dd x1 (fun j a b c e f => up_ne f) ?_, sk_keep hR x1 (fun c hc => by omega) kD, lk_keep hR x1 (fun c hc => by omega) kC⟩
                     unfold MR
                     rw [sI_k (j := 0) (by decide), sI_k (j := 1) (by decide), sI_k (j := 2) (by decide), sI_k (j := 3) (by decide), sI_eq, up_eq, up_ne (j := Int.toNat (296 + d)) (by omega), up_ne (j := Int.toNat (300 + d)) (by omega), up_ne (j := Int.toNat (304 + d)) (by omega), up_ne (j := Int.toNat (308 + d)) (by omega)]
                     exact ⟨m0, m1, m2, m3, rfl⟩
                   refine B_X6_set_90 C (r2 := 104) (hM := ct_X2_forgetWays _ _ (ph_setI h (32 + Int.toNat d) 4 n) (XS_fr x1 fx)) (kk := fun rr h5 hq5 => ?_)
                   obtain ⟨rfl, hF5, h55, ho5⟩ := hq5
                   exact B_X6_set_97 C (hq := KQ_fw (XS_fr x1 fx) (WFl_fr x1 (fun c hc => by omega) hW.fl) wr1 k1 k2 (x1.cfr (fun c hc => by omega)) hF5 h55 ho5 (by unfold mSet; rw [if_neg dn, if_neg (by omega), if_neg (fun z => by have := zabs_i (x := st (Int.toNat (296 + d))) (n := n) (by omega); omega)]; rw [if_neg (show ¬ wh = 0 by omega)])))
            · first
                | omega
                | (refine B_X6_set_75 C (kk := ?_)
                   have x1 : Fr (fun c => c = 32 + Int.toNat d) h (ph_setI h (32 + Int.toNat d) 3 n) := (Fr.rf (fun c => c = 32 + Int.toNat d) h).set rfl _ _
                   obtain ⟨k1, k2, kA, kC, kD⟩ := set0_ok (d := d) (n := n) hS h2 dd (by omega) (zabs_i (by omega))
                   have wr1 : WR (ph_setI h (32 + Int.toNat d) 3 n) 3 (up st (Int.toNat (308 + d)) n) := by
                     refine ⟨(fl_keep w3 hS hR x1 (fun c hc => by omega) kA).1, (fl_keep w3 hS hR x1 (fun c hc => by omega) kA).2, mn_one hR dd x1 (fun j a b c e f => up_ne e) ?_, sk_keep hR x1 (fun c hc => by omega) kD, lk_keep hR x1 (fun c hc => by omega) kC⟩
                     unfold MR
                     rw [sI_k (j := 0) (by decide), sI_k (j := 1) (by decide), sI_k (j := 2) (by decide), sI_k (j := 4) (by decide), sI_eq, up_eq, up_ne (j := Int.toNat (296 + d)) (by omega), up_ne (j := Int.toNat (300 + d)) (by omega), up_ne (j := Int.toNat (304 + d)) (by omega), up_ne (j := Int.toNat (312 + d)) (by omega)]
                     exact ⟨m0, m1, m2, rfl, m4⟩
                   refine B_X6_set_90 C (r2 := 104) (hM := ct_X2_forgetWays _ _ (ph_setI h (32 + Int.toNat d) 3 n) (XS_fr x1 fx)) (kk := fun rr h5 hq5 => ?_)
                   obtain ⟨rfl, hF5, h55, ho5⟩ := hq5
                   exact B_X6_set_97 C (hq := KQ_fw (XS_fr x1 fx) (WFl_fr x1 (fun c hc => by omega) hW.fl) wr1 k1 k2 (x1.cfr (fun c hc => by omega)) hF5 h55 ho5 (by unfold mSet; rw [if_neg dn, if_neg (by omega), if_neg (fun z => by have := zabs_i (x := st (Int.toNat (296 + d))) (n := n) (by omega); omega)]; rw [if_pos (show wh = 0 by omega)])))
        · refine B_X6_set_46 C (q1 := by unfold pR; decide) (kt := fun c10 => absurd c10 (by decide)) (kf := fun c10 => ?_)
          exact B_X6_set_49 C (hq := by exact KQ_same hW (by unfold mSet; rw [if_neg dn, if_neg (by omega), if_pos (by unfold zabs; split <;> omega)]))
    · refine B_X6_set_14 C (kt := fun c5 => absurd c5 (by decide)) (kf := fun c5 => ?_)
      exact B_X6_set_17 C (hq := by exact KQ_same hW (by unfold mSet; (repeat' split) <;> first | rfl | omega))
  · refine B_X6_set_4 C (kt := fun c6 => absurd c6 (by decide)) (kf := fun c6 => ?_)
    exact B_X6_set_7 C (hq := by exact KQ_same hW (by unfold mSet; (repeat' split) <;> first | rfl | omega))
