/-! the class: its calls that read, the sky, dishes -/
theorem CW.flt {h : PH} {st : ST} (hW : CW h st) {p : Int} (p0 : 0 ≤ p ∧ p < st 484) : FS h (ph_R h 4 (Int.toNat p)) ∧ FR h (ph_R h 4 (Int.toNat p)) st p ∧ 8 ≤ ph_R h 4 (Int.toNat p) ∧ ph_R h 4 (Int.toNat p) + 2 < 32 := by
  have m := hW.2.2.1.2.2.1
  obtain ⟨x, j, hj, e⟩ := hW.1.2.2.1.1.2.2.2.1 (Int.toNat p) (by omega)
  have e' : ph_R h 4 (Int.toNat p) = 8 + 3 * j := e
  exact ⟨x, hW.2.1.2.1 p p0.1 p0.2, by omega, by omega⟩
theorem CW.mnt {h : PH} {st : ST} (hW : CW h st) {d : Int} (d0 : 0 ≤ d ∧ d ≤ 3) : ph_R h 5 (Int.toNat d) = 32 + Int.toNat d ∧ ph_T h (32 + Int.toNat d) = 1 ∧ MR h (32 + Int.toNat d) st d := by
  have x := hW.1.2.2.1.1.2.2.2.2.2 (Int.toNat d) (by omega)
  exact ⟨x.1, x.2, hW.2.1.2.2.1 d d0.1 d0.2⟩
theorem ct_idx (G : Gx) (l : Launch) (h : PH) {st : ST} (hW : CW h st) {nm : Int} (gn : pR nm) : CT_X5_indexOf G l [.inr 3, .inl nm] h (pqI (if 0 ≤ pOf st nm then pOf st nm else -1) h) := ct_X5_indexOf _ _ _ hW.1.2.2.1.1 hW.2.1 hW.2.2.1 hW.2.2.2.1 gn
theorem ct_idxP (G : Gx) (l : Launch) (h : PH) {st : ST} (hW : CW h st) {nm : Int} (gn : pR nm) (hp : 0 ≤ pOf st nm) : CT_X5_indexOf G l [.inr 3, .inl nm] h (pqI (pOf st nm) h) := by
  have := ct_idx G l h hW gn
  rw [if_pos hp] at this
  exact this
theorem ct_idxN (G : Gx) (l : Launch) (h : PH) {st : ST} (hW : CW h st) {nm : Int} (gn : pR nm) (hp : ¬ 0 ≤ pOf st nm) : CT_X5_indexOf G l [.inr 3, .inl nm] h (pqI (-1) h) := by
  have := ct_idx G l h hW gn
  rw [if_neg hp] at this
  exact this
theorem ct_X6_burnt (G : Gx) (l : Launch) (h : PH) {st : ST} (hW : CW h st) {a : Int} (ga : pR a) {b : Int} (gb : pR b) {t : Int} (gt : pR t) : CT_X6_burnt G l [.inr 2, .inl a, .inl b, .inl t] h (KQ (fun v st' => v = mBurnt st a b t ∧ st' = st) h) := by
  obtain ⟨fx, hR, hS, h2, hY⟩ := id hW
  have xt2 : ph_T h 2 = 6 := fx.1.1
  have x20 : ph_R h 2 0 = 3 := fx.1.2.1
  have x23 : ph_R h 2 3 = 104 := fx.1.2.2.2.2
  have w3 : WS h 3 := fx.2.2.1.1
  have t3 : ph_T h 3 = 5 := w3.1.1
  have t4 : ph_T h 4 = 10 := w3.1.2.1
  have t5 : ph_T h 5 = 11 := w3.1.2.2.1
  have t6 : ph_T h 6 = 3 := w3.1.2.2.2.1
  have t7 : ph_T h 7 = 8 := w3.1.2.2.2.2
  have l4 : ph_L h 4 = 8 := w3.2.1.1
  have l5 : ph_L h 5 = 4 := w3.2.1.2.1
  have l7 : ph_L h 7 = 168 := w3.2.1.2.2
  have r30 : ph_R h 3 0 = 4 := w3.2.2.1.1
  have r31 : ph_R h 3 1 = 5 := w3.2.2.1.2.1
  have r32 : ph_R h 3 2 = 6 := w3.2.2.1.2.2.1
  have r33 : ph_R h 3 3 = 7 := w3.2.2.1.2.2.2
  have t104 : ph_T h 104 = 2 := fx.2.2.2.1.1
  have f1 : ph_I h 3 4 = st 484 := hR.1
  have sr6 : SR h 6 st := hR.2.2.2.1
  have hmany := hS.2.2.1
  have hb := hS.2.1
  refine ct_intro rfl (Nat.le_of_ble_eq_true rfl) (fun X hX C => ?_)
  refine B_X6_burnt_0 C (hM := ct_X6_isDirection _ _ _) (kk := fun r1 h1 hq1 => ?_)
  obtain ⟨rfl, ⟨rfl, c1⟩ | ⟨rfl, c1⟩⟩ := hq1
  · refine B_X6_burnt_5 C (kt := fun c2 => absurd c2 (by decide)) (kf := fun c2 => ?_)
    refine B_X6_burnt_8 C (hM := ct_X6_isTick _ _ _) (kk := fun r3 h3 hq3 => ?_)
    obtain ⟨rfl, ⟨rfl, c3⟩ | ⟨rfl, c3⟩⟩ := hq3
    · refine B_X6_burnt_12 C (kt := fun c4 => ?_) (kf := fun c4 => absurd c4 (by decide))
      refine B_X6_burnt_18 C (hM := ct_X3_isBurnt _ _ _ t6 sr6 hS.1 (by omega) (by omega) (by omega)) (kk := fun r5 h5 hq5 => ?_)
      obtain ⟨rfl, ⟨rfl, c5⟩ | ⟨rfl, c5⟩⟩ := hq5
      · refine B_X6_burnt_31 C (kt := fun c6 => absurd c6 (by decide)) (kf := fun c6 => ?_)
        refine B_X6_burnt_34 C (kk := ?_)
        exact B_X6_burnt_39 C (hq := by exact KQ_same hW ⟨by unfold mBurnt; rw [if_pos (by omega)]; first | rw [if_pos (by assumption)] | rw [if_neg (by assumption)], rfl⟩)
      · refine B_X6_burnt_31 C (kt := fun c7 => ?_) (kf := fun c7 => absurd c7 (by decide))
        refine B_X6_burnt_38 C (kk := ?_)
        exact B_X6_burnt_39 C (hq := by exact KQ_same hW ⟨by unfold mBurnt; rw [if_pos (by omega)]; first | rw [if_pos (by assumption)] | rw [if_neg (by assumption)], rfl⟩)
    · refine B_X6_burnt_12 C (kt := fun c8 => absurd c8 (by decide)) (kf := fun c8 => ?_)
      exact B_X6_burnt_15 C (hq := by exact KQ_same hW ⟨by unfold mBurnt; (repeat' split) <;> first | rfl | omega, rfl⟩)
  · refine B_X6_burnt_5 C (kt := fun c9 => ?_) (kf := fun c9 => absurd c9 (by decide))
    exact B_X6_burnt_15 C (hq := by exact KQ_same hW ⟨by unfold mBurnt; (repeat' split) <;> first | rfl | omega, rfl⟩)
theorem ct_X6_looked (G : Gx) (l : Launch) (h : PH) {st : ST} (hW : CW h st) {a : Int} (ga : pR a) {b : Int} (gb : pR b) : CT_X6_looked G l [.inr 2, .inl a, .inl b] h (KQ (fun v st' => v = mLooked st a b ∧ st' = st) h) := by
  obtain ⟨fx, hR, hS, h2, hY⟩ := id hW
  have xt2 : ph_T h 2 = 6 := fx.1.1
  have x20 : ph_R h 2 0 = 3 := fx.1.2.1
  have x23 : ph_R h 2 3 = 104 := fx.1.2.2.2.2
  have w3 : WS h 3 := fx.2.2.1.1
  have t3 : ph_T h 3 = 5 := w3.1.1
  have t4 : ph_T h 4 = 10 := w3.1.2.1
  have t5 : ph_T h 5 = 11 := w3.1.2.2.1
  have t6 : ph_T h 6 = 3 := w3.1.2.2.2.1
  have t7 : ph_T h 7 = 8 := w3.1.2.2.2.2
  have l4 : ph_L h 4 = 8 := w3.2.1.1
  have l5 : ph_L h 5 = 4 := w3.2.1.2.1
  have l7 : ph_L h 7 = 168 := w3.2.1.2.2
  have r30 : ph_R h 3 0 = 4 := w3.2.2.1.1
  have r31 : ph_R h 3 1 = 5 := w3.2.2.1.2.1
  have r32 : ph_R h 3 2 = 6 := w3.2.2.1.2.2.1
  have r33 : ph_R h 3 3 = 7 := w3.2.2.1.2.2.2
  have t104 : ph_T h 104 = 2 := fx.2.2.2.1.1
  have f1 : ph_I h 3 4 = st 484 := hR.1
  have sr6 : SR h 6 st := hR.2.2.2.1
  have hmany := hS.2.2.1
  have hb := hS.2.1
  refine ct_intro rfl (Nat.le_of_ble_eq_true rfl) (fun X hX C => ?_)
  have hl : ∀ x : Int, 0 ≤ x → x < 168 → ph_I h 7 (Int.toNat x) = st (Int.toNat (316 + x)) := hR.2.2.2.2
  refine B_X6_looked_0 C (hM := ct_X6_isDirection _ _ _) (kk := fun r1 h1 hq1 => ?_)
  obtain ⟨rfl, ⟨rfl, c1⟩ | ⟨rfl, c1⟩⟩ := hq1
  · refine B_X6_looked_5 C (kt := fun c2 => ?_) (kf := fun c2 => absurd c2 (by decide))
    exact B_X6_looked_11 C (hq := by exact KQ_same hW ⟨by unfold mLooked; rw [if_pos (by omega), hl _ (by omega) (by omega)]; congr 1; omega, rfl⟩)
  · refine B_X6_looked_5 C (kt := fun c3 => absurd c3 (by decide)) (kf := fun c3 => ?_)
    exact B_X6_looked_8 C (hq := by exact KQ_same hW ⟨by unfold mLooked; (repeat' split) <;> first | rfl | omega, rfl⟩)
theorem ct_X6_order (G : Gx) (l : Launch) (h : PH) {st : ST} (hW : CW h st) {a : Int} (ga : pR a) : CT_X6_order G l [.inr 2, .inl a] h (KQ (fun v st' => v = mOrder st a ∧ st' = st) h) := by
  obtain ⟨fx, hR, hS, h2, hY⟩ := id hW
  have xt2 : ph_T h 2 = 6 := fx.1.1
  have x20 : ph_R h 2 0 = 3 := fx.1.2.1
  have x23 : ph_R h 2 3 = 104 := fx.1.2.2.2.2
  have w3 : WS h 3 := fx.2.2.1.1
  have t3 : ph_T h 3 = 5 := w3.1.1
  have t4 : ph_T h 4 = 10 := w3.1.2.1
  have t5 : ph_T h 5 = 11 := w3.1.2.2.1
  have t6 : ph_T h 6 = 3 := w3.1.2.2.2.1
  have t7 : ph_T h 7 = 8 := w3.1.2.2.2.2
  have l4 : ph_L h 4 = 8 := w3.2.1.1
  have l5 : ph_L h 5 = 4 := w3.2.1.2.1
  have l7 : ph_L h 7 = 168 := w3.2.1.2.2
  have r30 : ph_R h 3 0 = 4 := w3.2.2.1.1
  have r31 : ph_R h 3 1 = 5 := w3.2.2.1.2.1
  have r32 : ph_R h 3 2 = 6 := w3.2.2.1.2.2.1
  have r33 : ph_R h 3 3 = 7 := w3.2.2.1.2.2.2
  have t104 : ph_T h 104 = 2 := fx.2.2.2.1.1
  have f1 : ph_I h 3 4 = st 484 := hR.1
  have sr6 : SR h 6 st := hR.2.2.2.1
  have hmany := hS.2.2.1
  have hb := hS.2.1
  refine ct_intro rfl (Nat.le_of_ble_eq_true rfl) (fun X hX C => ?_)
  have hf : ∀ p : Int, 0 ≤ p ∧ p < st 484 → ph_T h (ph_R h 4 (Int.toNat p)) = 0 ∧ ph_I h (ph_R h 4 (Int.toNat p)) 2 = st (Int.toNat p) := fun p p0 => ⟨(hW.flt p0).1.1.1, (hW.flt p0).2.1.1.1⟩
  refine B_X6_order_0 C (kt := fun c1 => ?_) (kf := fun c1 => ?_)
  · refine B_X6_order_13 C (hM := ct_X6_isIn _ _ _) (kk := fun r2 h2 hq2 => ?_)
    obtain ⟨rfl, ⟨rfl, c2⟩ | ⟨rfl, c2⟩⟩ := hq2
    · refine B_X6_order_27 C (kt := fun c3 => absurd c3 (by decide)) (kf := fun c3 => ?_)
      refine B_X6_order_30 C (m11 := 10) (t14 := (hf _ (by omega)).1) (e16 := (hf _ (by omega)).2) (kk := ?_)
      exact B_X6_order_47 C (hq := by exact KQ_same hW ⟨by first | (unfold mOrder; rw [if_pos (by omega)]) | (unfold mOrder; rw [if_neg (by omega), if_neg (by omega)]) | (unfold mOrder; rw [if_neg (by omega), if_pos (by omega)]), rfl⟩)
    · refine B_X6_order_27 C (kt := fun c4 => ?_) (kf := fun c4 => absurd c4 (by decide))
      refine B_X6_order_45 C (kk := ?_)
      exact B_X6_order_47 C (hq := by exact KQ_same hW ⟨by first | (unfold mOrder; rw [if_pos (by omega)]) | (unfold mOrder; rw [if_neg (by omega), if_neg (by omega)]) | (unfold mOrder; rw [if_neg (by omega), if_pos (by omega)]), rfl⟩)
  · exact B_X6_order_5 C (hq := by exact KQ_same hW ⟨by first | (unfold mOrder; rw [if_pos (by omega)]) | (unfold mOrder; rw [if_neg (by omega), if_neg (by omega)]) | (unfold mOrder; rw [if_neg (by omega), if_pos (by omega)]), rfl⟩)
theorem ct_X6_dish (G : Gx) (l : Launch) (h : PH) {st : ST} (hW : CW h st) {d : Int} (gd : pR d) {wh : Int} (gwh : pR wh) : CT_X6_dish G l [.inr 2, .inl d, .inl wh] h (KQ (fun v st' => v = mDish st d wh ∧ st' = st) h) := by
  obtain ⟨fx, hR, hS, h2, hY⟩ := id hW
  have xt2 : ph_T h 2 = 6 := fx.1.1
  have x20 : ph_R h 2 0 = 3 := fx.1.2.1
  have x23 : ph_R h 2 3 = 104 := fx.1.2.2.2.2
  have w3 : WS h 3 := fx.2.2.1.1
  have t3 : ph_T h 3 = 5 := w3.1.1
  have t4 : ph_T h 4 = 10 := w3.1.2.1
  have t5 : ph_T h 5 = 11 := w3.1.2.2.1
  have t6 : ph_T h 6 = 3 := w3.1.2.2.2.1
  have t7 : ph_T h 7 = 8 := w3.1.2.2.2.2
  have l4 : ph_L h 4 = 8 := w3.2.1.1
  have l5 : ph_L h 5 = 4 := w3.2.1.2.1
  have l7 : ph_L h 7 = 168 := w3.2.1.2.2
  have r30 : ph_R h 3 0 = 4 := w3.2.2.1.1
  have r31 : ph_R h 3 1 = 5 := w3.2.2.1.2.1
  have r32 : ph_R h 3 2 = 6 := w3.2.2.1.2.2.1
  have r33 : ph_R h 3 3 = 7 := w3.2.2.1.2.2.2
  have t104 : ph_T h 104 = 2 := fx.2.2.2.1.1
  have f1 : ph_I h 3 4 = st 484 := hR.1
  have sr6 : SR h 6 st := hR.2.2.2.1
  have hmany := hS.2.2.1
  have hb := hS.2.1
  refine ct_intro rfl (Nat.le_of_ble_eq_true rfl) (fun X hX C => ?_)
  refine B_X6_dish_0 C (hM := ct_X6_isDish _ _ _) (kk := fun r1 h1 hq1 => ?_)
  obtain ⟨rfl, ⟨rfl, c1⟩ | ⟨rfl, c1⟩⟩ := hq1
  · refine B_X6_dish_4 C (kt := fun c2 => ?_) (kf := fun c2 => absurd c2 (by decide))
    have dd : 0 ≤ d ∧ d ≤ 3 := by omega
    obtain ⟨rm, tm, m0, m1, m2, m3, m4⟩ := hW.mnt dd
    have hDd := hS.2.2.2.1 d dd.1 dd.2
    have hl := hDd.1
    have hz := zabs_b hDd.2.2.2.1
    have dn : ¬ ¬ (0 ≤ d ∧ d ≤ 3) := fun z => z dd
    refine B_X6_dish_9 C (m11 := 11) (kk := ?_)
    refine B_X6_dish_20 C (k0 := fun c1 => ?_) (k1 := fun c1 => ?_) (k2 := fun c1 => ?_) (k3 := fun c1 => ?_) (k4 := fun c1 => ?_) (k5 := fun c1 => ?_) (kd := fun c1 => ?_)
    · exact B_X6_dish_60 C (hq := by exact KQ_same hW ⟨by unfold mDish; rw [if_neg dn, if_pos (by omega)], rfl⟩)
    · exact B_X6_dish_70 C (hq := by exact KQ_same hW ⟨by unfold mDish; rw [if_neg dn, if_neg (by omega), if_pos (by omega)]; congr 1; omega, rfl⟩)
    · exact B_X6_dish_75 C (hq := by exact KQ_same hW ⟨by unfold mDish; rw [if_neg dn, if_neg (by omega), if_pos (by omega)]; congr 1; omega, rfl⟩)
    · exact B_X6_dish_80 C (hq := by exact KQ_same hW ⟨by unfold mDish; rw [if_neg dn, if_neg (by omega), if_pos (by omega)]; congr 1; omega, rfl⟩)
    · exact B_X6_dish_85 C (hq := by exact KQ_same hW ⟨by unfold mDish; rw [if_neg dn, if_neg (by omega), if_pos (by omega)]; congr 1; omega, rfl⟩)
    · refine B_X6_dish_90 C (hM := ct_X6_sideOf _ _ _) (kk := fun r2 h2 hq2 => ?_)
      obtain ⟨rfl, rfl⟩ := hq2
      exact B_X6_dish_97 C (hq := by exact KQ_same hW ⟨by unfold mDish; rw [if_neg dn, if_neg (by omega), if_neg (by omega), if_pos (by omega)], rfl⟩)
    · exact B_X6_dish_98 C (hq := by exact KQ_same hW ⟨by unfold mDish; rw [if_neg dn, if_neg (by omega), if_neg (by omega), if_neg (by omega)], rfl⟩)
  · refine B_X6_dish_4 C (kt := fun c3 => absurd c3 (by decide)) (kf := fun c3 => ?_)
    exact B_X6_dish_7 C (hq := by exact KQ_same hW ⟨by unfold mDish; (repeat' split) <;> first | rfl | omega, rfl⟩)
theorem ct_X6_told (G : Gx) (l : Launch) (h : PH) {st : ST} (hW : CW h st) {nm : Int} (gnm : pR nm) {wh : Int} (gwh : pR wh) : CT_X6_told G l [.inr 2, .inl nm, .inl wh] h (KQ (fun v st' => v = mTold st nm wh ∧ st' = st) h) := by
  obtain ⟨fx, hR, hS, h2, hY⟩ := id hW
  have xt2 : ph_T h 2 = 6 := fx.1.1
  have x20 : ph_R h 2 0 = 3 := fx.1.2.1
  have x23 : ph_R h 2 3 = 104 := fx.1.2.2.2.2
  have w3 : WS h 3 := fx.2.2.1.1
  have t3 : ph_T h 3 = 5 := w3.1.1
  have t4 : ph_T h 4 = 10 := w3.1.2.1
  have t5 : ph_T h 5 = 11 := w3.1.2.2.1
  have t6 : ph_T h 6 = 3 := w3.1.2.2.2.1
  have t7 : ph_T h 7 = 8 := w3.1.2.2.2.2
  have l4 : ph_L h 4 = 8 := w3.2.1.1
  have l5 : ph_L h 5 = 4 := w3.2.1.2.1
  have l7 : ph_L h 7 = 168 := w3.2.1.2.2
  have r30 : ph_R h 3 0 = 4 := w3.2.2.1.1
  have r31 : ph_R h 3 1 = 5 := w3.2.2.1.2.1
  have r32 : ph_R h 3 2 = 6 := w3.2.2.1.2.2.1
  have r33 : ph_R h 3 3 = 7 := w3.2.2.1.2.2.2
  have t104 : ph_T h 104 = 2 := fx.2.2.2.1.1
  have f1 : ph_I h 3 4 = st 484 := hR.1
  have sr6 : SR h 6 st := hR.2.2.2.1
  have hmany := hS.2.2.1
  have hb := hS.2.1
  refine ct_intro rfl (Nat.le_of_ble_eq_true rfl) (fun X hX C => ?_)
  by_cases hp : 0 ≤ pOf st nm
  · have pb : 0 ≤ pOf st nm ∧ pOf st nm < st 484 := by have := pOf_b (st := st) nm hmany.1; omega
    obtain ⟨hfs, hfr, fb1, fb2⟩ := hW.flt pb
    have ft0 : ph_T h (ph_R h 4 (Int.toNat (pOf st nm))) = 0 := hfs.1.1
    obtain ⟨⟨fi2, fi3, fi4, fi5, fi6⟩, fpt⟩ := id hfr
    have hPp := hS.2.2.2.2 _ pb.1 pb.2
    have h2p := h2.1 _ pb.1 pb.2
    refine B_X6_told_0 C (hM := ct_idxP _ _ _ hW gnm hp) (kk := fun r1 h1 hq1 => ?_)
    obtain ⟨rfl, rfl⟩ := hq1
    refine B_X6_told_8 C (q1 := by unfold pR; omega) (kt := fun c2 => ?_) (kf := fun c2 => ?_)
    · refine B_X6_told_15 C (m11 := 10) (kk := ?_)
      refine B_X6_told_27 C (k0 := fun c3 => ?_) (k1 := fun c3 => ?_) (k2 := fun c3 => ?_) (k3 := fun c3 => ?_) (k4 := fun c3 => ?_) (kd := fun c3 => ?_)
      · exact B_X6_told_60 C (hq := by exact KQ_same hW ⟨by unfold mTold; rw [if_neg (by omega)]; (repeat' split) <;> first | rfl | omega, rfl⟩)
      · exact B_X6_told_66 C (hq := by exact KQ_same hW ⟨by unfold mTold; rw [if_neg (by omega)]; (repeat' split) <;> first | rfl | omega, rfl⟩)
      · exact B_X6_told_72 C (hq := by exact KQ_same hW ⟨by unfold mTold; rw [if_neg (by omega)]; (repeat' split) <;> first | rfl | omega, rfl⟩)
      · exact B_X6_told_74 C (hq := by exact KQ_same hW ⟨by unfold mTold; rw [if_neg (by omega)]; (repeat' split) <;> first | rfl | omega, rfl⟩)
      · exact B_X6_told_80 C (hq := by exact KQ_same hW ⟨by unfold mTold; rw [if_neg (by omega)]; (repeat' split) <;> first | rfl | omega, rfl⟩)
      · exact B_X6_told_86 C (hq := by exact KQ_same hW ⟨by unfold mTold; rw [if_neg (by omega)]; (repeat' split) <;> first | rfl | omega, rfl⟩)
    · omega
  · refine B_X6_told_0 C (hM := ct_idxN _ _ _ hW gnm hp) (kk := fun r1 h1 hq1 => ?_)
    obtain ⟨rfl, rfl⟩ := hq1
    refine B_X6_told_8 C (kt := fun c => absurd c (by decide)) (kf := fun c => ?_)
    exact B_X6_told_13 C (hq := KQ_same hW ⟨by unfold mTold; rw [if_pos (by omega)], rfl⟩)
