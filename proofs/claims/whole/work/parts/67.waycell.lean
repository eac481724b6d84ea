/-! ways: their cells, what is put into them -/
def YS (h : PH) (y : Nat) : Prop := (ph_T h y = 4 ∧ ph_T h (y + 1) = 8 ∧ ph_T h (y + 2) = 8 ∧ ph_T h (y + 3) = 9 ∧ ph_T h (y + 4) = 8 ∧ ph_T h (y + 5) = 8) ∧ (ph_L h (y + 1) = 76 ∧ ph_L h (y + 2) = 76 ∧ ph_L h (y + 3) = 76 ∧ ph_L h (y + 4) = 17 ∧ ph_L h (y + 5) = 17) ∧ (ph_R h y 0 = y + 1 ∧ ph_R h y 1 = y + 2 ∧ ph_R h y 2 = y + 3 ∧ ph_R h y 3 = y + 4 ∧ ph_R h y 4 = y + 5)
theorem SFr.ys {M : Nat → Prop} {h h' : PH} (x : SFr M h h') {y : Nat} (y0 : y ≠ 104) (f : YS h y) : YS h' y := by
  have eR : ∀ k, ph_R h' y k = ph_R h y k := fun k => x.2.2.2.1 y k (fun z => y0 z.1)
  unfold YS at *
  simp only [x.T, x.L, eR]
  exact f
theorem Fr.ys {M : Nat → Prop} {h h' : PH} (x : Fr M h h') {y : Nat} (f : YS h y) : YS h' y := by
  unfold YS at *
  simp only [x.T, x.L, x.R]
  exact f
def pqClear (h : PH) (y : Nat) (nm : Int) : Option PV → PH → Prop := fun rr h' => rr = none ∧ Fr (fun c => y ≤ c ∧ c ≤ y + 5) h h' ∧ (ph_I h' y 5 = nm ∧ ph_I h' y 6 = 0 ∧ ph_I h' y 7 = 0 ∧ ph_I h' y 10 = 0 ∧ ph_I h' y 11 = 0 ∧ ph_I h' y 12 = -6 ∧ ph_I h' y 13 = -6) ∧ (∀ j, j < 76 → ph_I h' (y + 3) j = 0) ∧ ∀ j, j < 17 → ph_I h' (y + 4) j = 0 ∧ ph_I h' (y + 5) j = 0
theorem ct_X4_clear (G : Gx) (l : Launch) (h : PH) {y : Nat} (hY : YS h y) {nm : Int} : CT_X4_clear G l [.inr y, .inl nm] h (pqClear h y nm) := by
  obtain ⟨⟨y0, y1, y2, y3, y4, y5⟩, ⟨yl1, yl2, yl3, yl4, yl5⟩, ⟨yr0, yr1, yr2, yr3, yr4⟩⟩ := id hY
  refine ct_intro rfl (Nat.le_of_ble_eq_true rfl) (fun X hX C => ?_)
  have hF1 : Fr (fun c => y ≤ c ∧ c ≤ y + 5) h (ph_setI h y 5 nm) := (Fr.rf _ h).set (by omega) _ _
  have hv1 : ph_I (ph_setI h y 5 nm) y 5 = nm := sI_eq
  refine B_X4_clear_0 C (r3 := y + 4) (hM := ct_J7_fill _ _ _ (by rw [hF1.T]; exact y4) (by rw [hF1.L, yl4]; decide)) (kk := fun rr h2 hq => ?_)
  obtain ⟨rfl, hF2, hf2⟩ := hq
  rw [hF1.L, yl4] at hf2
  have hF2x := hF1.tr (hF2.mono (N := fun c => y ≤ c ∧ c ≤ y + 5) (fun c hc => by omega))
  have hY2 := hF2x.ys hY
  have v2 : ph_I h2 y 5 = nm := by rw [hF2.I (by omega)]; exact hv1
  refine B_X4_clear_13 C (t1 := hY2.1.1) (r2 := y + 5) (e3 := hY2.2.2.2.2.2.2) (hM := ct_J7_fill _ _ _ hY2.1.2.2.2.2.2 (by rw [hY2.2.1.2.2.2.2]; decide)) (kk := fun rr h3 hq => ?_)
  obtain ⟨rfl, hF3, hf3⟩ := hq
  rw [hY2.2.1.2.2.2.2] at hf3
  have hF3x := hF2x.tr (hF3.mono (N := fun c => y ≤ c ∧ c ≤ y + 5) (fun c hc => by omega))
  have v3 : ph_I h3 y 5 = nm := by rw [hF3.I (by omega)]; exact v2
  have v34 : ∀ j, j < 17 → ph_I h3 (y + 4) j = 0 ∧ ph_I h3 (y + 5) j = 0 := fun j hj => ⟨by rw [hF3.I (by omega)]; exact hf2 j hj, hf3 j hj⟩
  refine B_X4_clear_21 C (kk := ?_)
  have lp : ∀ (m k : Nat) (h1 : PH), k + m = 76 → Fr (fun c => y ≤ c ∧ c ≤ y + 5) h h1 → Fr (fun c => c = y + 3) h3 h1 → (∀ j, j < k → ph_I h1 (y + 3) j = 0) → PW G X 3 (pw_E G X (pqClear h y nm) 0 0) 0 0 23 [some (.inr y), some (.inl nm), some (.inl (k : Int))] [] h1 := by
    intro m
    induction m with
    | zero =>
      intro k h1 hk hF hFb hz
      have hY1 := hF.ys hY
      refine B_X4_clear_23 C (kt := fun c => ?_) (kf := fun c => by omega)
      refine B_X4_clear_42 C (t1 := hY1.1.1) (t3 := hY1.1.1) (t5 := hY1.1.1) (t6 := hY1.1.1) (t7 := hY1.1.1) (t8 := hY1.1.1) (hq := ⟨rfl, ((((((hF.set (by omega) _ _).set (by omega) _ _).set (by omega) _ _).set (by omega) _ _).set (by omega) _ _).set (by omega) _ _), ⟨?_, ?_, ?_, ?_, ?_, ?_, ?_⟩, fun j hj => ?_, fun j hj => ?_⟩)
      · rw [sI_k (by decide), sI_k (by decide), sI_k (by decide), sI_k (by decide), sI_k (by decide), sI_k (by decide), hFb.I (by omega)]; exact v3
      · rw [sI_k (by decide), sI_k (by decide), sI_k (by decide), sI_k (by decide), sI_k (by decide), sI_eq]
      · rw [sI_k (by decide), sI_k (by decide), sI_k (by decide), sI_k (by decide), sI_eq]
      · rw [sI_k (by decide), sI_k (by decide), sI_k (by decide), sI_eq]
      · rw [sI_k (by decide), sI_k (by decide), sI_eq]
      · rw [sI_k (by decide), sI_eq]
      · rw [sI_eq]
      · rw [sI_c (by omega), sI_c (by omega), sI_c (by omega), sI_c (by omega), sI_c (by omega), sI_c (by omega)]; exact hz j (by omega)
      · rw [sI_c (by omega), sI_c (by omega), sI_c (by omega), sI_c (by omega), sI_c (by omega), sI_c (by omega), sI_c (by omega), sI_c (by omega), sI_c (by omega), sI_c (by omega), sI_c (by omega), sI_c (by omega), hFb.I (by omega), hFb.I (by omega)]; exact v34 j hj
    | succ m ih =>
      intro k h1 hk hF hFb hz
      have hY1 := hF.ys hY
      have l3 := hY1.2.1.2.2.1
      refine B_X4_clear_23 C (kt := fun c => by omega) (kf := fun c => ?_)
      refine B_X4_clear_29 C (t1 := hY1.1.1) (r2 := y + 3) (e3 := hY1.2.2.2.2.1) (t4 := hY1.1.2.2.2.1) (kk := ?_)
      have e1 : ((k + 1 : Nat) : Int) = (k : Int) + 1 := by omega
      have e2 : Int.toNat (k : Int) = k := by omega
      have nx := ih (k + 1) (ph_setI h1 (y + 3) k 0) (by omega) (hF.set (by omega) _ _) (hFb.set rfl _ _) (fun j hj => by
        by_cases z : j = k
        · rw [z, sI_eq]
        · rw [sI_k z]; exact hz j (by omega))
      rw [e1] at nx
      rw [e2]
      exact nx
  exact lp 76 0 h3 (by omega) hF3x (Fr.rf _ h3) (fun j hj => by omega)
def pqStart (h : PH) (y : Nat) (a b t : Int) : Option PV → PH → Prop := fun rr h' => rr = none ∧ Fr (fun c => c = y ∨ c = y + 1 ∨ c = y + 2) h h' ∧ (ph_I h' y 6 = 1 ∧ ph_I h' y 8 = t ∧ ph_I h' y 9 = t) ∧ (∀ k, k ≠ 6 → k ≠ 8 → k ≠ 9 → ph_I h' y k = ph_I h y k) ∧ ph_I h' (y + 1) (Int.toNat t) = a ∧ ph_I h' (y + 2) (Int.toNat t) = b
def pqGo (h : PH) (y : Nat) (a b : Int) : Option PV → PH → Prop := fun rr h' => rr = none ∧ Fr (fun c => c = y ∨ c = y + 1 ∨ c = y + 2) h h' ∧ (ph_I h' y 11 = ph_I h y 11 + (zabs (a - ph_I h (y + 1) (Int.toNat (ph_I h y 9))) + zabs (b - ph_I h (y + 2) (Int.toNat (ph_I h y 9)))) ∧ ph_I h' y 9 = ph_I h y 9 + 1) ∧ (∀ k, k ≠ 9 → k ≠ 11 → ph_I h' y k = ph_I h y k) ∧ (ph_I h' (y + 1) (Int.toNat (ph_I h y 9 + 1)) = a ∧ ph_I h' (y + 2) (Int.toNat (ph_I h y 9 + 1)) = b) ∧ ∀ j, j ≠ Int.toNat (ph_I h y 9 + 1) → ph_I h' (y + 1) j = ph_I h (y + 1) j ∧ ph_I h' (y + 2) j = ph_I h (y + 2) j
def pqSee (h : PH) (y : Nat) : Option PV → PH → Prop := fun rr h' => rr = none ∧ Fr (fun c => c = y ∨ c = y + 3) h h' ∧ (ph_I h' y 10 = ph_I h y 10 + 1 ∧ ph_I h' y 13 = ph_I h y 9 ∧ ph_I h' y 12 = if ph_I h y 12 = -6 then ph_I h y 9 else ph_I h y 12) ∧ (∀ k, k ≠ 10 → k ≠ 12 → k ≠ 13 → ph_I h' y k = ph_I h y k) ∧ ph_I h' (y + 3) (Int.toNat (ph_I h y 9)) = 1 ∧ ∀ j, j ≠ Int.toNat (ph_I h y 9) → ph_I h' (y + 3) j = ph_I h (y + 3) j
theorem ct_X4_startAt (G : Gx) (l : Launch) (h : PH) {y : Nat} (hY : YS h y) {a b t : Int} (t0 : 0 ≤ t ∧ t < 76) : CT_X4_startAt G l [.inr y, .inl a, .inl b, .inl t] h (pqStart h y a b t) := by
  obtain ⟨⟨y0, y1, y2, y3, y4, y5⟩, ⟨yl1, yl2, yl3, yl4, yl5⟩, ⟨yr0, yr1, yr2, yr3, yr4⟩⟩ := id hY
  refine ct_intro rfl (Nat.le_of_ble_eq_true rfl) (fun X hX C => ?_)
  refine B_X4_startAt_0 C (r6 := y + 1) (r14 := y + 2) (hq := ⟨rfl, ((((Fr.rf (fun c => c = y ∨ c = y + 1 ∨ c = y + 2) h).set (Or.inl rfl) _ _).set (Or.inl rfl) _ _).set (Or.inl rfl) _ _).set (Or.inr (Or.inl rfl)) _ _ |>.set (Or.inr (Or.inr rfl)) _ _, ⟨?_, ?_, ?_⟩, fun k k1 k2 k3 => ?_, ?_, ?_⟩)
  · rw [sI_c (by omega), sI_c (by omega), sI_k (by decide), sI_k (by decide), sI_eq]
  · rw [sI_c (by omega), sI_c (by omega), sI_k (by decide), sI_eq]
  · rw [sI_c (by omega), sI_c (by omega), sI_eq]
  · rw [sI_c (by omega), sI_c (by omega), sI_k k3, sI_k k2, sI_k k1]
  · rw [sI_c (by omega), sI_eq]
  · rw [sI_eq]
theorem ct_X4_goTo (G : Gx) (l : Launch) (h : PH) {y : Nat} (hY : YS h y) {a b : Int} (t0 : 0 ≤ ph_I h y 9 ∧ ph_I h y 9 < 75) (q1 : pR (a - ph_I h (y + 1) (Int.toNat (ph_I h y 9)))) (q2 : pR (b - ph_I h (y + 2) (Int.toNat (ph_I h y 9)))) : CT_X4_goTo G l [.inr y, .inl a, .inl b] h (pqGo h y a b) := by
  obtain ⟨⟨y0, y1, y2, y3, y4, y5⟩, ⟨yl1, yl2, yl3, yl4, yl5⟩, ⟨yr0, yr1, yr2, yr3, yr4⟩⟩ := id hY
  refine ct_intro rfl (Nat.le_of_ble_eq_true rfl) (fun X hX C => ?_)
  refine B_X4_goTo_0 C (x2 := ph_I h y 11) (e3 := rfl) (r5 := y + 1) (x8 := ph_I h y 9) (e9 := rfl) (x14 := ph_I h (y + 1) (Int.toNat (ph_I h y 9))) (e15 := rfl) (q16 := q1) (x17 := zabs (a - ph_I h (y + 1) (Int.toNat (ph_I h y 9)))) (e18 := rfl) (r20 := y + 2) (x23 := ph_I h y 9) (e24 := rfl) (x29 := ph_I h (y + 2) (Int.toNat (ph_I h y 9))) (e30 := rfl) (q31 := q2) (x32 := zabs (b - ph_I h (y + 2) (Int.toNat (ph_I h y 9)))) (e33 := rfl) (x36 := ph_I h y 9) (e37 := by rw [sI_k (by decide)]) (r40 := y + 1) (x43 := ph_I h y 9 + 1) (e44 := by rw [sI_eq]) (r51 := y + 2) (x54 := ph_I h y 9 + 1) (e55 := by rw [sI_c (by omega), sI_eq]) (hq := ⟨rfl, ((((Fr.rf (fun c => c = y ∨ c = y + 1 ∨ c = y + 2) h).set (Or.inl rfl) _ _).set (Or.inl rfl) _ _).set (Or.inr (Or.inl rfl)) _ _).set (Or.inr (Or.inr rfl)) _ _, ⟨?_, ?_⟩, fun k k1 k2 => ?_, ⟨?_, ?_⟩, fun j hj => ⟨?_, ?_⟩⟩)
  · rw [sI_c (by omega), sI_c (by omega), sI_k (by decide), sI_eq]
  · rw [sI_c (by omega), sI_c (by omega), sI_eq]
  · rw [sI_c (by omega), sI_c (by omega), sI_k k1, sI_k k2]
  · rw [sI_c (by omega), sI_eq]
  · rw [sI_eq]
  · rw [sI_c (by omega), sI_k hj, sI_c (by omega), sI_c (by omega)]
  · rw [sI_k hj, sI_c (by omega), sI_c (by omega), sI_c (by omega)]
theorem ct_X4_see (G : Gx) (l : Launch) (h : PH) {y : Nat} (hY : YS h y) (t0 : 0 ≤ ph_I h y 9 ∧ ph_I h y 9 < 76) (q2 : pR (ph_I h y 12)) : CT_X4_see G l [.inr y] h (pqSee h y) := by
  obtain ⟨⟨y0, y1, y2, y3, y4, y5⟩, ⟨yl1, yl2, yl3, yl4, yl5⟩, ⟨yr0, yr1, yr2, yr3, yr4⟩⟩ := id hY
  refine ct_intro rfl (Nat.le_of_ble_eq_true rfl) (fun X hX C => ?_)
  have hF := (((Fr.rf (fun c => c = y ∨ c = y + 3) h).set (Or.inr rfl) (Int.toNat (ph_I h y 9)) 1).set (Or.inl rfl) 10 (ph_I h y 10 + 1)).set (Or.inl rfl) 13 (ph_I h y 9)
  refine B_X4_see_0 C (r2 := y + 3) (x5 := ph_I h y 9) (e6 := rfl) (x13 := ph_I h y 10) (e14 := by rw [sI_c (by omega)]) (x17 := ph_I h y 9) (e18 := by rw [sI_k (by decide), sI_c (by omega)]) (x21 := ph_I h y 12) (e22 := by rw [sI_k (by decide), sI_k (by decide), sI_c (by omega)]) (q23 := q2) (kt := fun c => ?_) (kf := fun c => ?_)
  · refine B_X4_see_45 C (hq := ⟨rfl, hF, ⟨?_, ?_, ?_⟩, fun k k1 k2 k3 => ?_, ?_, fun j hj => ?_⟩)
    · rw [sI_k (by decide), sI_eq]
    · rw [sI_eq]
    · rw [sI_k (by decide), sI_k (by decide), sI_c (by omega), if_neg c]
    · rw [sI_k k3, sI_k k1, sI_c (by omega)]
    · rw [sI_c (by omega), sI_c (by omega), sI_eq]
    · rw [sI_c (by omega), sI_c (by omega), sI_k hj]
  · refine B_X4_see_37 C (t1 := y0) (t4 := y0) (x2 := ph_I h y 9) (e3 := by rw [sI_k (by decide), sI_k (by decide), sI_c (by omega)]) (kk := ?_)
    refine B_X4_see_45 C (hq := ⟨rfl, hF.set (Or.inl rfl) _ _, ⟨?_, ?_, ?_⟩, fun k k1 k2 k3 => ?_, ?_, fun j hj => ?_⟩)
    · rw [sI_k (by decide), sI_k (by decide), sI_eq]
    · rw [sI_k (by decide), sI_eq]
    · rw [sI_eq, if_pos c]
    · rw [sI_k k2, sI_k k3, sI_k k1, sI_c (by omega)]
    · rw [sI_c (by omega), sI_c (by omega), sI_c (by omega), sI_eq]
    · rw [sI_c (by omega), sI_c (by omega), sI_c (by omega), sI_k hj]
theorem ct_X4_isBetterThan (G : Gx) (l : Launch) (h : PH) {y : Nat} (hY : YS h y) {z : Nat} (tz : ph_T h z = 4) {s1 s2 q1 q2 : Int} (e1 : ph_I h y 10 = s1) (e2 : ph_I h z 10 = s2) (e3 : ph_I h y 11 = q1) (e4 : ph_I h z 11 = q2) (b1 : pR s1) (b2 : pR s2) (b3 : pR q1) (b4 : pR q2) : CT_X4_isBetterThan G l [.inr y, .inr z] h (pqB (s2 < s1 ∨ (s1 = s2 ∧ q1 < q2)) h) := by
  obtain ⟨⟨y0, y1, y2, y3, y4, y5⟩, ⟨yl1, yl2, yl3, yl4, yl5⟩, ⟨yr0, yr1, yr2, yr3, yr4⟩⟩ := id hY
  refine ct_intro rfl (Nat.le_of_ble_eq_true rfl) (fun X hX C => ?_)
  refine B_X4_isBetterThan_0 C (kt := fun c1 => ?_) (kf := fun c1 => ?_)
  · refine B_X4_isBetterThan_33 C (kk := ?_)
    exact B_X4_isBetterThan_38 C (hq := by first | exact ⟨rfl, Or.inl ⟨rfl, by omega⟩⟩ | exact ⟨rfl, Or.inr ⟨rfl, by omega⟩⟩)
  · refine B_X4_isBetterThan_11 C (kt := fun c2 => ?_) (kf := fun c2 => ?_)
    · refine B_X4_isBetterThan_37 C (kk := ?_)
      exact B_X4_isBetterThan_38 C (hq := by first | exact ⟨rfl, Or.inl ⟨rfl, by omega⟩⟩ | exact ⟨rfl, Or.inr ⟨rfl, by omega⟩⟩)
    · refine B_X4_isBetterThan_22 C (kt := fun c3 => ?_) (kf := fun c3 => ?_)
      · refine B_X4_isBetterThan_37 C (kk := ?_)
        exact B_X4_isBetterThan_38 C (hq := by first | exact ⟨rfl, Or.inl ⟨rfl, by omega⟩⟩ | exact ⟨rfl, Or.inr ⟨rfl, by omega⟩⟩)
      · refine B_X4_isBetterThan_33 C (kk := ?_)
        exact B_X4_isBetterThan_38 C (hq := by first | exact ⟨rfl, Or.inl ⟨rfl, by omega⟩⟩ | exact ⟨rfl, Or.inr ⟨rfl, by omega⟩⟩)
