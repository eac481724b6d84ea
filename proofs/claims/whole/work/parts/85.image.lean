/-! the class: image, restore -/
def Ag (st st' : ST) : Prop := ∀ j : Nat, j < 492 → st' j = st j
theorem Ag.wr {h : PH} {b : Nat} {st st' : ST} (a : Ag st st') (hS : OkS st) (f : WR h b st) : WR h b st' := by
  obtain ⟨f1, f2, f3, f4, f5⟩ := f
  have m := hS.2.2.1
  have e484 : st' 484 = st 484 := a 484 (by decide)
  refine ⟨by rw [e484]; exact f1, fun p p0 p1 => ?_, fun d d0 d1 => ?_, ?_, fun j j0 j1 => ?_⟩
  · rw [e484] at p1
    exact FR_st (fun j hj => a j (by omega)) p0 (by omega) (hS.2.2.2.2 p p0 p1).2.2 (f2 p p0 p1)
  · exact MR_st (fun j h1 h2 => a j (by omega)) d0 d1 (f3 d d0 d1)
  · exact SR_st (fun j h1 h2 => a j (by omega)) f4
  · rw [a _ (by omega)]; exact f5 j j0 j1
theorem Ag.ok {st st' : ST} (a : Ag st st') (hb : ∀ j, pR (st' j)) (hS : OkS st) : OkS st' :=
  OkS_mk hS hb ⟨fun j hj => a j (by omega), a 484 (by decide)⟩ (okSky_c (fun j h1 h2 => a j (by omega)) hS.1) (fun d d0 d1 => OkD_c (fun j h1 h2 => a j (by omega)) d0 d1 (hS.2.2.2.1 d d0 d1))
theorem Ag.ok2 {st st' : ST} (a : Ag st st') (hS : OkS st) (h2 : Ok2 st) : Ok2 st' :=
  Ok2_c hS h2 ⟨fun j hj => a j (by omega), a 484 (by decide)⟩ (by rw [a 489 (by decide), a 490 (by decide)]; exact h2.2.2)
theorem Ag.lk {st st' : ST} {B : Int} (a : Ag st st') (h : LkB st B) : LkB st' B := fun j h1 h2 => by rw [a j (by omega)]; exact h j h1 h2
theorem XS.img {h : PH} (fx : XS h) {k : Int} (k0 : 0 ≤ k ∧ k ≤ 1) : ph_R h 36 (Int.toNat k) = 38 + 33 * Int.toNat k ∧ WS h (38 + 33 * Int.toNat k) := by
  obtain ⟨-, ⟨b1, b2, b3, b4, b5, b6⟩, ⟨c1, c2, c3⟩, -⟩ := fx
  have hk : Int.toNat k = 0 ∨ Int.toNat k = 1 := by omega
  rcases hk with e | e
  · rw [e]; exact ⟨b3, c2⟩
  · rw [e]; exact ⟨b4, c3⟩
theorem CW_img {M : Nat → Prop} {h h' : PH} {st : ST} (x : Fr M h h') (hM : ∀ c, M c → 36 ≤ c ∧ c < 104) (f : CW h st) : CW h' st := by
  obtain ⟨f1, f2, f3, f4, f5⟩ := f
  refine ⟨XS_fr x f1, WR_congr f1.2.2.1.1 f3.2.2.1.2 (fun k => x.R _ k) (fun e a b k => x.I (fun z => by have := hM e z; omega) k) f2, f3, f4, fun d hd => WY1_congr (fun e a b k => x.I (fun z => by have := hM e z; omega) k) (f5 d hd)⟩
def KImg (h : PH) (st : ST) (k : Int) : Option PV → PH → Prop := fun rr h' => (¬ (0 ≤ k ∧ k ≤ 1) ∧ rr = some (.inl (-2)) ∧ h' = h) ∨ ((0 ≤ k ∧ k ≤ 1) ∧ rr = some (.inl 1) ∧ Fr (fun c => c = 37 ∨ (38 + 33 * Int.toNat k ≤ c ∧ c < 38 + 33 * Int.toNat k + 33)) h h' ∧ WR h' (38 + 33 * Int.toNat k) st ∧ ph_I h' 37 (Int.toNat k) = 1 ∧ ∀ j, j ≠ Int.toNat k → ph_I h' 37 j = ph_I h 37 j)
theorem ct_X6_image (G : Gx) (l : Launch) (h : PH) {st : ST} (hW : CW h st) {k : Int} (gk : pR k) : CT_X6_image G l [.inr 2, .inl k] h (KImg h st k) := by
  obtain ⟨fx, hR, hS, h2, hY⟩ := id hW
  have xt2 : ph_T h 2 = 6 := fx.1.1
  have x20 : ph_R h 2 0 = 3 := fx.1.2.1
  have x23 : ph_R h 2 3 = 104 := fx.1.2.2.2.2
  have w3 : WS h 3 := fx.2.2.1.1
  have t3 : ph_T h 3 = 5 := w3.1.1
  have t4 : ph_T h 4 = 10 := w3.1.2.1
  have t5 : ph_T h 5 = 11 := w3.1.2.2.1
  have t6 : ph_T h 6 = 3 := w3.1.2.2.2.1
  have t7 : ph_T h 7 = 8 := w3.1.2.2.2.2
  have l4 : ph_L h 4 = 8 := w3.2.1.1
  have l5 : ph_L h 5 = 4 := w3.2.1.2.1
  have l7 : ph_L h 7 = 168 := w3.2.1.2.2
  have r30 : ph_R h 3 0 = 4 := w3.2.2.1.1
  have r31 : ph_R h 3 1 = 5 := w3.2.2.1.2.1
  have r32 : ph_R h 3 2 = 6 := w3.2.2.1.2.2.1
  have r33 : ph_R h 3 3 = 7 := w3.2.2.1.2.2.2
  have t104 : ph_T h 104 = 2 := fx.2.2.2.1.1
  have f1 : ph_I h 3 4 = st 484 := hR.1
  have sr6 : SR h 6 st := hR.2.2.2.1
  have hmany := hS.2.2.1
  have hb := hS.2.1
  have x21 : ph_R h 2 1 = 36 := fx.1.2.2.1
  have x22 : ph_R h 2 2 = 37 := fx.1.2.2.2.1
  have t36 : ph_T h 36 = 13 := fx.2.1.1
  have l36 : ph_L h 36 = 2 := fx.2.1.2.1
  have t37 : ph_T h 37 = 9 := fx.2.1.2.2.2.2.1
  have l37 : ph_L h 37 = 2 := fx.2.1.2.2.2.2.2
  refine ct_intro rfl (Nat.le_of_ble_eq_true rfl) (fun X hX C => ?_)
  refine B_X6_image_0 C (hM := ct_X6_isIn _ _ _) (kk := fun r1 h1 hq1 => ?_)
  obtain ⟨rfl, ⟨rfl, c1⟩ | ⟨rfl, c1⟩⟩ := hq1
  · refine B_X6_image_6 C (kt := fun c2 => ?_) (kf := fun c2 => absurd c2 (by decide))
    have kb : 0 ≤ k ∧ k ≤ 1 := by omega
    obtain ⟨er, ws⟩ := fx.img kb
    have tr : ph_T h (38 + 33 * Int.toNat k) = 5 := ws.1.1
    refine B_X6_image_12 C (r2 := 36) (m8 := 13) (r9 := 38 + 33 * Int.toNat k) (r12 := 3) (q6 := by rw [l36]; omega) (hM := ct_X5_copyFrom _ _ _ ws w3 hR hS (by omega)) (kk := fun r9 h1 hq9 => ?_)
    obtain ⟨rfl, hF, hw⟩ := hq9
    have xt1 : ph_T h1 2 = 6 := by rw [hF.T]; exact xt2
    have x221 : ph_R h1 2 2 = 37 := by rw [hF.R]; exact x22
    have t371 : ph_T h1 37 = 9 := by rw [hF.T]; exact t37
    have l371 : ph_L h1 37 = 2 := by rw [hF.L]; exact l37
    have x1 : Fr (fun c => c = 37) h1 (ph_setI h1 37 (Int.toNat k) 1) := (Fr.rf (fun c => c = 37) h1).set rfl _ _
    have ws1 := hF.ws ws
    refine B_X6_image_25 C (r2 := 37) (q6 := by rw [l371]; omega) (hq := Or.inr ⟨kb, rfl, (hF.mono (fun c hc => Or.inr hc)).tr (x1.mono (fun c hc => Or.inl hc)), ?_, sI_eq, fun j hj => by rw [sI_k hj, hF.I (by omega)]⟩)
    exact WR_congr ws1 hS.2.2.1.2 (fun j => rfl) (fun e a b j => x1.I (by omega) j) hw
  · refine B_X6_image_6 C (kt := fun c3 => absurd c3 (by decide)) (kf := fun c3 => ?_)
    exact B_X6_image_9 C (hq := by exact Or.inl ⟨by omega, rfl, rfl⟩)
def ResA (st : ST) (k : Int) (kp : Nat → Int) (im : Nat → ST) (v : Int) (st' : ST) : Prop := (¬ (0 ≤ k ∧ k ≤ 1) ∧ v = -2 ∧ st' = st) ∨ ((0 ≤ k ∧ k ≤ 1) ∧ kp (Int.toNat k) = 0 ∧ v = -3 ∧ st' = st) ∨ ((0 ≤ k ∧ k ≤ 1) ∧ kp (Int.toNat k) ≠ 0 ∧ v = 1 ∧ st' = im (Int.toNat k))
theorem ct_X6_restore (G : Gx) (l : Launch) (h : PH) {st : ST} (hW : CW h st) {k : Int} (gk : pR k) {im : Nat → ST} (hk : ∀ j : Nat, j < 2 → ph_I h 37 j = 0 ∨ (ph_I h 37 j = 1 ∧ WR h (38 + 33 * j) (im j) ∧ OkS (im j) ∧ Ok2 (im j))) : CT_X6_restore G l [.inr 2, .inl k] h (KQ (ResA st k (ph_I h 37) im) h) := by
  obtain ⟨fx, hR, hS, h2, hY⟩ := id hW
  have xt2 : ph_T h 2 = 6 := fx.1.1
  have x20 : ph_R h 2 0 = 3 := fx.1.2.1
  have x23 : ph_R h 2 3 = 104 := fx.1.2.2.2.2
  have w3 : WS h 3 := fx.2.2.1.1
  have t3 : ph_T h 3 = 5 := w3.1.1
  have t4 : ph_T h 4 = 10 := w3.1.2.1
  have t5 : ph_T h 5 = 11 := w3.1.2.2.1
  have t6 : ph_T h 6 = 3 := w3.1.2.2.2.1
  have t7 : ph_T h 7 = 8 := w3.1.2.2.2.2
  have l4 : ph_L h 4 = 8 := w3.2.1.1
  have l5 : ph_L h 5 = 4 := w3.2.1.2.1
  have l7 : ph_L h 7 = 168 := w3.2.1.2.2
  have r30 : ph_R h 3 0 = 4 := w3.2.2.1.1
  have r31 : ph_R h 3 1 = 5 := w3.2.2.1.2.1
  have r32 : ph_R h 3 2 = 6 := w3.2.2.1.2.2.1
  have r33 : ph_R h 3 3 = 7 := w3.2.2.1.2.2.2
  have t104 : ph_T h 104 = 2 := fx.2.2.2.1.1
  have f1 : ph_I h 3 4 = st 484 := hR.1
  have sr6 : SR h 6 st := hR.2.2.2.1
  have hmany := hS.2.2.1
  have hb := hS.2.1
  have x21 : ph_R h 2 1 = 36 := fx.1.2.2.1
  have x22 : ph_R h 2 2 = 37 := fx.1.2.2.2.1
  have t36 : ph_T h 36 = 13 := fx.2.1.1
  have l36 : ph_L h 36 = 2 := fx.2.1.2.1
  have t37 : ph_T h 37 = 9 := fx.2.1.2.2.2.2.1
  have l37 : ph_L h 37 = 2 := fx.2.1.2.2.2.2.2
  refine ct_intro rfl (Nat.le_of_ble_eq_true rfl) (fun X hX C => ?_)
  refine B_X6_restore_0 C (hM := ct_X6_isIn _ _ _) (kk := fun r1 h1 hq1 => ?_)
  obtain ⟨rfl, ⟨rfl, c1⟩ | ⟨rfl, c1⟩⟩ := hq1
  · refine B_X6_restore_6 C (kt := fun c2 => ?_) (kf := fun c2 => absurd c2 (by decide))
    have kb : 0 ≤ k ∧ k ≤ 1 := by omega
    obtain ⟨er, ws⟩ := fx.img kb
    have tr : ph_T h (38 + 33 * Int.toNat k) = 5 := ws.1.1
    rcases hk (Int.toNat k) (by omega) with z | ⟨z, wi, oi, oi2⟩
    · refine B_X6_restore_12 C (r2 := 37) (x8 := 0) (e9 := z) (q6 := by rw [l37]; omega) (kt := fun c => absurd rfl c) (kf := fun c => ?_)
      exact B_X6_restore_21 C (hq := KQ_same hW (Or.inr (Or.inl ⟨kb, z, rfl, rfl⟩)))
    · refine B_X6_restore_12 C (r2 := 37) (x8 := 1) (e9 := z) (q6 := by rw [l37]; omega) (kt := fun c => ?_) (kf := fun c => absurd c (by decide))
      refine B_X6_restore_24 C (r2 := 3) (r5 := 36) (m11 := 13) (r12 := 38 + 33 * Int.toNat k) (q9 := by rw [l36]; omega) (hM := ct_X5_copyFrom _ _ _ w3 ws wi oi (by omega)) (kk := fun r9 h1 hq9 => ?_)
      obtain ⟨rfl, hF, hw⟩ := hq9
      have xt1 : ph_T h1 2 = 6 := by rw [hF.T]; exact xt2
      have x231 : ph_R h1 2 3 = 104 := by rw [hF.R]; exact x23
      have t1041 : ph_T h1 104 = 2 := by rw [hF.T]; exact t104
      refine B_X6_restore_37 C (r2 := 104) (hM := ct_X2_forgetWays _ _ h1 (XS_fr hF fx)) (kk := fun rr h5 hq5 => ?_)
      obtain ⟨rfl, hF5, h55, ho5⟩ := hq5
      exact B_X6_restore_44 C (hq := KQ_fw (XS_fr hF fx) (WFl_fr hF (fun c hc => by omega) hW.fl) hw oi oi2 (hF.cfr (fun c hc => by omega)) hF5 h55 ho5 (Or.inr (Or.inr ⟨kb, by rw [z]; decide, rfl, rfl⟩)))
  · refine B_X6_restore_6 C (kt := fun c3 => absurd c3 (by decide)) (kf := fun c3 => ?_)
    exact B_X6_restore_9 C (hq := by exact KQ_same hW (Or.inl ⟨by omega, rfl, rfl⟩))
