/-! contracts of the leaves -/
def pqB (p : Prop) (h : PH) : Option PV → PH → Prop := fun r h' => h = h' ∧ ((r = some (.inl 1) ∧ p) ∨ (r = some (.inl 0) ∧ ¬ p))
def pqI (v : Int) (h : PH) : Option PV → PH → Prop := fun r h' => r = some (.inl v) ∧ h = h'
def pqV (h2 : PH) : Option PV → PH → Prop := fun r h' => r = none ∧ h2 = h'
theorem pq_i {v w : Int} {h : PH} (e : v = w) : pqI w h (some (.inl v)) h := ⟨by rw [e], rfl⟩
def zabs (x : Int) : Int := if 0 ≤ x then x else -x
theorem ct_X6_isIn (G : Gx) (l : Launch) (h : PH) {a : Int} {b : Int} {c : Int} (ga : pR a := by first | assumption | (unfold pR; omega)) (gb : pR b := by first | assumption | (unfold pR; omega)) (gc : pR c := by first | assumption | (unfold pR; omega))  : CT_X6_isIn G l [.inl a, .inl b, .inl c] h (pqB (b ≤ a ∧ a ≤ c) h) := by
  refine ct_intro rfl (Nat.le_of_ble_eq_true rfl) (fun X hX C => ?_)
  refine B_X6_isIn_0 C (kt := fun c1 => ?_) (kf := fun c1 => ?_)
  · refine B_X6_isIn_14 C (kk := ?_)
    exact B_X6_isIn_15 C (hq := by first | exact ⟨rfl, Or.inl ⟨rfl, by omega⟩⟩ | exact ⟨rfl, Or.inr ⟨rfl, by omega⟩⟩)
  · refine B_X6_isIn_5 C (kt := fun c2 => ?_) (kf := fun c2 => ?_)
    · refine B_X6_isIn_14 C (kk := ?_)
      exact B_X6_isIn_15 C (hq := by first | exact ⟨rfl, Or.inl ⟨rfl, by omega⟩⟩ | exact ⟨rfl, Or.inr ⟨rfl, by omega⟩⟩)
    · refine B_X6_isIn_10 C (kk := ?_)
      exact B_X6_isIn_15 C (hq := by first | exact ⟨rfl, Or.inl ⟨rfl, by omega⟩⟩ | exact ⟨rfl, Or.inr ⟨rfl, by omega⟩⟩)
theorem ct_X7_in (G : Gx) (l : Launch) (h : PH) {a : Int} {b : Int} {c : Int} (ga : pR a := by first | assumption | (unfold pR; omega)) (gb : pR b := by first | assumption | (unfold pR; omega)) (gc : pR c := by first | assumption | (unfold pR; omega))  : CT_X7_in G l [.inl a, .inl b, .inl c] h (pqB (b ≤ a ∧ a ≤ c) h) := by
  refine ct_intro rfl (Nat.le_of_ble_eq_true rfl) (fun X hX C => ?_)
  refine B_X7_in_0 C (kt := fun c1 => ?_) (kf := fun c1 => ?_)
  · refine B_X7_in_14 C (kk := ?_)
    exact B_X7_in_15 C (hq := by first | exact ⟨rfl, Or.inl ⟨rfl, by omega⟩⟩ | exact ⟨rfl, Or.inr ⟨rfl, by omega⟩⟩)
  · refine B_X7_in_5 C (kt := fun c2 => ?_) (kf := fun c2 => ?_)
    · refine B_X7_in_14 C (kk := ?_)
      exact B_X7_in_15 C (hq := by first | exact ⟨rfl, Or.inl ⟨rfl, by omega⟩⟩ | exact ⟨rfl, Or.inr ⟨rfl, by omega⟩⟩)
    · refine B_X7_in_10 C (kk := ?_)
      exact B_X7_in_15 C (hq := by first | exact ⟨rfl, Or.inl ⟨rfl, by omega⟩⟩ | exact ⟨rfl, Or.inr ⟨rfl, by omega⟩⟩)
theorem ct_X6_isDish (G : Gx) (l : Launch) (h : PH) {a : Int} (ga : pR a := by first | assumption | (unfold pR; omega))  : CT_X6_isDish G l [.inl a] h (pqB (0 ≤ a ∧ a ≤ 3) h) := by
  refine ct_intro rfl (Nat.le_of_ble_eq_true rfl) (fun X hX C => ?_)
  refine B_X6_isDish_0 C (hM := ct_X6_isIn _ _ _) (kk := fun r1 h1 hq1 => ?_)
  obtain ⟨rfl, ⟨rfl, c1⟩ | ⟨rfl, c1⟩⟩ := hq1
  · exact B_X6_isDish_6 C (hq := by first | exact ⟨rfl, Or.inl ⟨rfl, by omega⟩⟩ | exact ⟨rfl, Or.inr ⟨rfl, by omega⟩⟩)
  · exact B_X6_isDish_6 C (hq := by first | exact ⟨rfl, Or.inl ⟨rfl, by omega⟩⟩ | exact ⟨rfl, Or.inr ⟨rfl, by omega⟩⟩)
theorem ct_X6_isSide (G : Gx) (l : Launch) (h : PH) {a : Int} (ga : pR a := by first | assumption | (unfold pR; omega))  : CT_X6_isSide G l [.inl a] h (pqB (0 ≤ a ∧ a ≤ 23) h) := by
  refine ct_intro rfl (Nat.le_of_ble_eq_true rfl) (fun X hX C => ?_)
  refine B_X6_isSide_0 C (hM := ct_X6_isIn _ _ _) (kk := fun r1 h1 hq1 => ?_)
  obtain ⟨rfl, ⟨rfl, c1⟩ | ⟨rfl, c1⟩⟩ := hq1
  · exact B_X6_isSide_7 C (hq := by first | exact ⟨rfl, Or.inl ⟨rfl, by omega⟩⟩ | exact ⟨rfl, Or.inr ⟨rfl, by omega⟩⟩)
  · exact B_X6_isSide_7 C (hq := by first | exact ⟨rfl, Or.inl ⟨rfl, by omega⟩⟩ | exact ⟨rfl, Or.inr ⟨rfl, by omega⟩⟩)
theorem ct_X6_isHeight (G : Gx) (l : Launch) (h : PH) {a : Int} (ga : pR a := by first | assumption | (unfold pR; omega))  : CT_X6_isHeight G l [.inl a] h (pqB (0 ≤ a ∧ a ≤ 6) h) := by
  refine ct_intro rfl (Nat.le_of_ble_eq_true rfl) (fun X hX C => ?_)
  refine B_X6_isHeight_0 C (hM := ct_X6_isIn _ _ _) (kk := fun r1 h1 hq1 => ?_)
  obtain ⟨rfl, ⟨rfl, c1⟩ | ⟨rfl, c1⟩⟩ := hq1
  · exact B_X6_isHeight_7 C (hq := by first | exact ⟨rfl, Or.inl ⟨rfl, by omega⟩⟩ | exact ⟨rfl, Or.inr ⟨rfl, by omega⟩⟩)
  · exact B_X6_isHeight_7 C (hq := by first | exact ⟨rfl, Or.inl ⟨rfl, by omega⟩⟩ | exact ⟨rfl, Or.inr ⟨rfl, by omega⟩⟩)
theorem ct_X6_isTick (G : Gx) (l : Launch) (h : PH) {a : Int} (ga : pR a := by first | assumption | (unfold pR; omega))  : CT_X6_isTick G l [.inl a] h (pqB (0 ≤ a ∧ a ≤ 79) h) := by
  refine ct_intro rfl (Nat.le_of_ble_eq_true rfl) (fun X hX C => ?_)
  refine B_X6_isTick_0 C (hM := ct_X6_isIn _ _ _) (kk := fun r1 h1 hq1 => ?_)
  obtain ⟨rfl, ⟨rfl, c1⟩ | ⟨rfl, c1⟩⟩ := hq1
  · exact B_X6_isTick_7 C (hq := by first | exact ⟨rfl, Or.inl ⟨rfl, by omega⟩⟩ | exact ⟨rfl, Or.inr ⟨rfl, by omega⟩⟩)
  · exact B_X6_isTick_7 C (hq := by first | exact ⟨rfl, Or.inl ⟨rfl, by omega⟩⟩ | exact ⟨rfl, Or.inr ⟨rfl, by omega⟩⟩)
theorem ct_X6_isDirection (G : Gx) (l : Launch) (h : PH) {a : Int} {b : Int} (ga : pR a := by first | assumption | (unfold pR; omega)) (gb : pR b := by first | assumption | (unfold pR; omega))  : CT_X6_isDirection G l [.inl a, .inl b] h (pqB ((0 ≤ a ∧ a ≤ 23) ∧ (0 ≤ b ∧ b ≤ 6)) h) := by
  refine ct_intro rfl (Nat.le_of_ble_eq_true rfl) (fun X hX C => ?_)
  refine B_X6_isDirection_0 C (hM := ct_X6_isSide _ _ _) (kk := fun r1 h1 hq1 => ?_)
  obtain ⟨rfl, ⟨rfl, c1⟩ | ⟨rfl, c1⟩⟩ := hq1
  · refine B_X6_isDirection_4 C (kt := fun c2 => absurd c2 (by decide)) (kf := fun c2 => ?_)
    refine B_X6_isDirection_7 C (hM := ct_X6_isHeight _ _ _) (kk := fun r3 h3 hq3 => ?_)
    obtain ⟨rfl, ⟨rfl, c3⟩ | ⟨rfl, c3⟩⟩ := hq3
    · refine B_X6_isDirection_11 C (kt := fun c4 => absurd c4 (by decide)) (kf := fun c4 => ?_)
      refine B_X6_isDirection_14 C (kk := ?_)
      exact B_X6_isDirection_19 C (hq := by first | exact ⟨rfl, Or.inl ⟨rfl, by omega⟩⟩ | exact ⟨rfl, Or.inr ⟨rfl, by omega⟩⟩)
    · refine B_X6_isDirection_11 C (kt := fun c5 => ?_) (kf := fun c5 => absurd c5 (by decide))
      refine B_X6_isDirection_18 C (kk := ?_)
      exact B_X6_isDirection_19 C (hq := by first | exact ⟨rfl, Or.inl ⟨rfl, by omega⟩⟩ | exact ⟨rfl, Or.inr ⟨rfl, by omega⟩⟩)
  · refine B_X6_isDirection_4 C (kt := fun c6 => ?_) (kf := fun c6 => absurd c6 (by decide))
    refine B_X6_isDirection_18 C (kk := ?_)
    exact B_X6_isDirection_19 C (hq := by first | exact ⟨rfl, Or.inl ⟨rfl, by omega⟩⟩ | exact ⟨rfl, Or.inr ⟨rfl, by omega⟩⟩)
theorem ct_X6_isSetting (G : Gx) (l : Launch) (h : PH) {a : Int} {b : Int} (ga : pR a := by first | assumption | (unfold pR; omega)) (gb : pR b := by first | assumption | (unfold pR; omega))  : CT_X6_isSetting G l [.inl a, .inl b] h (pqB ((a = 0 ∧ 12 ≤ b ∧ b ≤ 36) ∨ (a = 1 ∧ 1 ≤ b ∧ b ≤ 3)) h) := by
  refine ct_intro rfl (Nat.le_of_ble_eq_true rfl) (fun X hX C => ?_)
  refine B_X6_isSetting_0 C (kt := fun c1 => ?_) (kf := fun c1 => ?_)
  · refine B_X6_isSetting_15 C (kt := fun c2 => ?_) (kf := fun c2 => ?_)
    · refine B_X6_isSetting_33 C (kk := ?_)
      exact B_X6_isSetting_34 C (hq := by first | exact ⟨rfl, Or.inl ⟨rfl, by omega⟩⟩ | exact ⟨rfl, Or.inr ⟨rfl, by omega⟩⟩)
    · refine B_X6_isSetting_20 C (hM := ct_X6_isIn _ _ _) (kk := fun r3 h3 hq3 => ?_)
      obtain ⟨rfl, ⟨rfl, c3⟩ | ⟨rfl, c3⟩⟩ := hq3
      · refine B_X6_isSetting_26 C (kt := fun c4 => absurd c4 (by decide)) (kf := fun c4 => ?_)
        refine B_X6_isSetting_29 C (kk := ?_)
        exact B_X6_isSetting_34 C (hq := by first | exact ⟨rfl, Or.inl ⟨rfl, by omega⟩⟩ | exact ⟨rfl, Or.inr ⟨rfl, by omega⟩⟩)
      · refine B_X6_isSetting_26 C (kt := fun c5 => ?_) (kf := fun c5 => absurd c5 (by decide))
        refine B_X6_isSetting_33 C (kk := ?_)
        exact B_X6_isSetting_34 C (hq := by first | exact ⟨rfl, Or.inl ⟨rfl, by omega⟩⟩ | exact ⟨rfl, Or.inr ⟨rfl, by omega⟩⟩)
  · refine B_X6_isSetting_4 C (hM := ct_X6_isIn _ _ _) (kk := fun r6 h6 hq6 => ?_)
    obtain ⟨rfl, ⟨rfl, c6⟩ | ⟨rfl, c6⟩⟩ := hq6
    · refine B_X6_isSetting_12 C (kt := fun c7 => ?_) (kf := fun c7 => absurd c7 (by decide))
      refine B_X6_isSetting_29 C (kk := ?_)
      exact B_X6_isSetting_34 C (hq := by first | exact ⟨rfl, Or.inl ⟨rfl, by omega⟩⟩ | exact ⟨rfl, Or.inr ⟨rfl, by omega⟩⟩)
    · refine B_X6_isSetting_12 C (kt := fun c8 => absurd c8 (by decide)) (kf := fun c8 => ?_)
      refine B_X6_isSetting_15 C (kt := fun c9 => ?_) (kf := fun c9 => ?_)
      · refine B_X6_isSetting_33 C (kk := ?_)
        exact B_X6_isSetting_34 C (hq := by first | exact ⟨rfl, Or.inl ⟨rfl, by omega⟩⟩ | exact ⟨rfl, Or.inr ⟨rfl, by omega⟩⟩)
      · refine B_X6_isSetting_20 C (hM := ct_X6_isIn _ _ _) (kk := fun r10 h10 hq10 => ?_)
        obtain ⟨rfl, ⟨rfl, c10⟩ | ⟨rfl, c10⟩⟩ := hq10
        · refine B_X6_isSetting_26 C (kt := fun c11 => absurd c11 (by decide)) (kf := fun c11 => ?_)
          refine B_X6_isSetting_29 C (kk := ?_)
          exact B_X6_isSetting_34 C (hq := by first | exact ⟨rfl, Or.inl ⟨rfl, by omega⟩⟩ | exact ⟨rfl, Or.inr ⟨rfl, by omega⟩⟩)
        · refine B_X6_isSetting_26 C (kt := fun c12 => ?_) (kf := fun c12 => absurd c12 (by decide))
          refine B_X6_isSetting_33 C (kk := ?_)
          exact B_X6_isSetting_34 C (hq := by first | exact ⟨rfl, Or.inl ⟨rfl, by omega⟩⟩ | exact ⟨rfl, Or.inr ⟨rfl, by omega⟩⟩)
theorem ct_X7_isDish (G : Gx) (l : Launch) (h : PH) {a : Int} (ga : pR a := by first | assumption | (unfold pR; omega))  : CT_X7_isDish G l [.inl a] h (pqB (0 ≤ a ∧ a ≤ 3) h) := by
  refine ct_intro rfl (Nat.le_of_ble_eq_true rfl) (fun X hX C => ?_)
  refine B_X7_isDish_0 C (hM := ct_X7_in _ _ _) (kk := fun r1 h1 hq1 => ?_)
  obtain ⟨rfl, ⟨rfl, c1⟩ | ⟨rfl, c1⟩⟩ := hq1
  · exact B_X7_isDish_6 C (hq := by first | exact ⟨rfl, Or.inl ⟨rfl, by omega⟩⟩ | exact ⟨rfl, Or.inr ⟨rfl, by omega⟩⟩)
  · exact B_X7_isDish_6 C (hq := by first | exact ⟨rfl, Or.inl ⟨rfl, by omega⟩⟩ | exact ⟨rfl, Or.inr ⟨rfl, by omega⟩⟩)
theorem ct_X7_isTick (G : Gx) (l : Launch) (h : PH) {a : Int} (ga : pR a := by first | assumption | (unfold pR; omega))  : CT_X7_isTick G l [.inl a] h (pqB (0 ≤ a ∧ a ≤ 79) h) := by
  refine ct_intro rfl (Nat.le_of_ble_eq_true rfl) (fun X hX C => ?_)
  refine B_X7_isTick_0 C (hM := ct_X7_in _ _ _) (kk := fun r1 h1 hq1 => ?_)
  obtain ⟨rfl, ⟨rfl, c1⟩ | ⟨rfl, c1⟩⟩ := hq1
  · exact B_X7_isTick_7 C (hq := by first | exact ⟨rfl, Or.inl ⟨rfl, by omega⟩⟩ | exact ⟨rfl, Or.inr ⟨rfl, by omega⟩⟩)
  · exact B_X7_isTick_7 C (hq := by first | exact ⟨rfl, Or.inl ⟨rfl, by omega⟩⟩ | exact ⟨rfl, Or.inr ⟨rfl, by omega⟩⟩)
theorem ct_X7_isDirection (G : Gx) (l : Launch) (h : PH) {a : Int} {b : Int} (ga : pR a := by first | assumption | (unfold pR; omega)) (gb : pR b := by first | assumption | (unfold pR; omega))  : CT_X7_isDirection G l [.inl a, .inl b] h (pqB ((0 ≤ a ∧ a ≤ 23) ∧ (0 ≤ b ∧ b ≤ 6)) h) := by
  refine ct_intro rfl (Nat.le_of_ble_eq_true rfl) (fun X hX C => ?_)
  refine B_X7_isDirection_0 C (hM := ct_X7_in _ _ _) (kk := fun r1 h1 hq1 => ?_)
  obtain ⟨rfl, ⟨rfl, c1⟩ | ⟨rfl, c1⟩⟩ := hq1
  · refine B_X7_isDirection_7 C (kt := fun c2 => absurd c2 (by decide)) (kf := fun c2 => ?_)
    refine B_X7_isDirection_10 C (hM := ct_X7_in _ _ _) (kk := fun r3 h3 hq3 => ?_)
    obtain ⟨rfl, ⟨rfl, c3⟩ | ⟨rfl, c3⟩⟩ := hq3
    · refine B_X7_isDirection_17 C (kt := fun c4 => absurd c4 (by decide)) (kf := fun c4 => ?_)
      refine B_X7_isDirection_20 C (kk := ?_)
      exact B_X7_isDirection_25 C (hq := by first | exact ⟨rfl, Or.inl ⟨rfl, by omega⟩⟩ | exact ⟨rfl, Or.inr ⟨rfl, by omega⟩⟩)
    · refine B_X7_isDirection_17 C (kt := fun c5 => ?_) (kf := fun c5 => absurd c5 (by decide))
      refine B_X7_isDirection_24 C (kk := ?_)
      exact B_X7_isDirection_25 C (hq := by first | exact ⟨rfl, Or.inl ⟨rfl, by omega⟩⟩ | exact ⟨rfl, Or.inr ⟨rfl, by omega⟩⟩)
  · refine B_X7_isDirection_7 C (kt := fun c6 => ?_) (kf := fun c6 => absurd c6 (by decide))
    refine B_X7_isDirection_24 C (kk := ?_)
    exact B_X7_isDirection_25 C (hq := by first | exact ⟨rfl, Or.inl ⟨rfl, by omega⟩⟩ | exact ⟨rfl, Or.inr ⟨rfl, by omega⟩⟩)
theorem ct_X6_sideOf (G : Gx) (l : Launch) (h : PH) {a : Int} (ga : pR a := by first | assumption | (unfold pR; omega)) (lo : -48 ≤ a := by first | assumption | omega) (hi : a ≤ 1000 := by first | assumption | omega) : CT_X6_sideOf G l [.inl a] h (pqI ((a + 48) % 24) h) := by
  refine ct_intro rfl (Nat.le_of_ble_eq_true rfl) (fun X hX C => ?_)
  exact B_X6_sideOf_0 C (hq := by exact ⟨rfl, rfl⟩)
theorem ct_X7_sideOf (G : Gx) (l : Launch) (h : PH) {a : Int} (ga : pR a := by first | assumption | (unfold pR; omega)) (lo : -48 ≤ a := by first | assumption | omega) (hi : a ≤ 1000 := by first | assumption | omega) : CT_X7_sideOf G l [.inl a] h (pqI ((a + 48) % 24) h) := by
  refine ct_intro rfl (Nat.le_of_ble_eq_true rfl) (fun X hX C => ?_)
  exact B_X7_sideOf_0 C (hq := by exact ⟨rfl, rfl⟩)
theorem ct_X7_size (G : Gx) (l : Launch) (h : PH) {a : Int} (ga : pR a := by first | assumption | (unfold pR; omega))  : CT_X7_size G l [.inl a] h (pqI (zabs a) h) := by
  refine ct_intro rfl (Nat.le_of_ble_eq_true rfl) (fun X hX C => ?_)
  refine B_X7_size_0 C (kt := fun c1 => ?_) (kf := fun c1 => ?_)
  · refine B_X7_size_9 C (kk := ?_)
    exact B_X7_size_10 C (hq := by exact pq_i (by unfold zabs; split <;> omega))
  · refine B_X7_size_4 C (kk := ?_)
    exact B_X7_size_10 C (hq := by exact pq_i (by unfold zabs; split <;> omega))
theorem ct_X7_placeOf (G : Gx) (l : Launch) (h : PH) {a : Int} {b : Int} (ga : pR a := by first | assumption | (unfold pR; omega)) (gb : pR b := by first | assumption | (unfold pR; omega))  : CT_X7_placeOf G l [.inl a, .inl b] h (pqI (7 * (a + 36) + b) h) := by
  refine ct_intro rfl (Nat.le_of_ble_eq_true rfl) (fun X hX C => ?_)
  exact B_X7_placeOf_0 C (hq := by exact ⟨rfl, rfl⟩)
theorem ct_X7_seenOf (G : Gx) (l : Launch) (h : PH) {a : Int} (ga : pR a := by first | assumption | (unfold pR; omega)) (lo : -9999 ≤ a := by first | assumption | omega) (hi : a ≤ 1000000 := by first | assumption | omega) : CT_X7_seenOf G l [.inl a] h (pqI ((a + 10000 - 1) / 10000) h) := by
  refine ct_intro rfl (Nat.le_of_ble_eq_true rfl) (fun X hX C => ?_)
  exact B_X7_seenOf_0 C (hq := by exact ⟨rfl, rfl⟩)
theorem ct_X7_stepsOf (G : Gx) (l : Launch) (h : PH) {a : Int} (ga : pR a := by first | assumption | (unfold pR; omega)) (lo : -9999 ≤ a := by first | assumption | omega) (hi : a ≤ 1000000 := by first | assumption | omega) : CT_X7_stepsOf G l [.inl a] h (pqI (10000 * ((a + 10000 - 1) / 10000) - a) h) := by
  refine ct_intro rfl (Nat.le_of_ble_eq_true rfl) (fun X hX C => ?_)
  refine B_X7_stepsOf_0 C (hM := ct_X7_seenOf _ _ _) (kk := fun r1 h1 hq1 => ?_)
  obtain ⟨rfl, rfl⟩ := hq1
  exact B_X7_stepsOf_7 C (hq := by exact ⟨rfl, rfl⟩)
theorem ite_test (x y : Int) (h : y = if 0 ≤ x then x else -x) (h2 : -5 ≤ x) (h3 : x ≤ 5) : 0 ≤ y ∧ y ≤ 5 := by omega
