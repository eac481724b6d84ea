/-! THE CLASS: how its cells tell the row of numbers; its small parts -/
/-- same cells, same kinds, same references; numbers alike where M doesn't say -/
def Fr (M : Nat → Prop) (h h' : PH) : Prop := h'.1 = h.1 ∧ h'.2.1 = h.2.1 ∧ h'.2.2.1 = h.2.2.1 ∧ h'.2.2.2.2 = h.2.2.2.2 ∧ ∀ c, ¬ M c → ∀ k, ph_I h' c k = ph_I h c k
theorem Fr.rf (M : Nat → Prop) (h : PH) : Fr M h h := ⟨rfl, rfl, rfl, rfl, fun _ _ _ => rfl⟩
theorem Fr.tr {M : Nat → Prop} {a b c : PH} (x : Fr M a b) (y : Fr M b c) : Fr M a c := ⟨y.1.trans x.1, y.2.1.trans x.2.1, y.2.2.1.trans x.2.2.1, y.2.2.2.1.trans x.2.2.2.1, fun e he k => (y.2.2.2.2 e he k).trans (x.2.2.2.2 e he k)⟩
theorem Fr.mono {M N : Nat → Prop} {a b : PH} (x : Fr M a b) (hh : ∀ c, M c → N c) : Fr N a b := ⟨x.1, x.2.1, x.2.2.1, x.2.2.2.1, fun e he k => x.2.2.2.2 e (fun z => he (hh e z)) k⟩
theorem Fr.T {M : Nat → Prop} {h h' : PH} (x : Fr M h h') (c : Nat) : ph_T h' c = ph_T h c := by unfold ph_T; rw [x.2.1]
theorem Fr.L {M : Nat → Prop} {h h' : PH} (x : Fr M h h') (c : Nat) : ph_L h' c = ph_L h c := by unfold ph_L; rw [x.2.2.1]
theorem Fr.R {M : Nat → Prop} {h h' : PH} (x : Fr M h h') (c k : Nat) : ph_R h' c k = ph_R h c k := by unfold ph_R; rw [x.2.2.2.1]
theorem Fr.I {M : Nat → Prop} {h h' : PH} (x : Fr M h h') {c : Nat} (hc : ¬ M c) (k : Nat) : ph_I h' c k = ph_I h c k := x.2.2.2.2 c hc k
theorem Fr.set {M : Nat → Prop} {h h' : PH} (x : Fr M h h') {c : Nat} (hc : M c) (k : Nat) (v : Int) : Fr M h (ph_setI h' c k v) := ⟨x.1, x.2.1, x.2.2.1, x.2.2.2.1, fun e he j => by
  have z : ¬ e = c := fun q => he (q ▸ hc)
  have : ph_I (ph_setI h' c k v) e j = ph_I h' e j := by simp [ph_I, ph_setI, z]
  rw [this]; exact x.2.2.2.2 e he j⟩
theorem Fr.row {M : Nat → Prop} {h h' : PH} (x : Fr M h h') {c : Nat} (hc : M c) (f : Nat → Int) : Fr M h (ph_rowI h' c f) := ⟨x.1, x.2.1, x.2.2.1, x.2.2.2.1, fun e he j => by
  have z : ¬ e = c := fun q => he (q ▸ hc)
  have : ph_I (ph_rowI h' c f) e j = ph_I h' e j := by simp [ph_I, ph_rowI, z]
  rw [this]; exact x.2.2.2.2 e he j⟩
theorem sI_eq {h : PH} {c k : Nat} {v : Int} : ph_I (ph_setI h c k v) c k = v := by simp [ph_I, ph_setI]
theorem sI_c {h : PH} {c k e j : Nat} {v : Int} (q : e ≠ c) : ph_I (ph_setI h c k v) e j = ph_I h e j := by simp [ph_I, ph_setI, q]
theorem sI_k {h : PH} {c k e j : Nat} {v : Int} (q : j ≠ k) : ph_I (ph_setI h c k v) e j = ph_I h e j := by simp [ph_I, ph_setI, q]
theorem rI_eq {h : PH} {c j : Nat} {f : Nat → Int} : ph_I (ph_rowI h c f) c j = f j := by simp [ph_I, ph_rowI]
theorem rI_c {h : PH} {c e j : Nat} {f : Nat → Int} (q : e ≠ c) : ph_I (ph_rowI h c f) e j = ph_I h e j := by simp [ph_I, ph_rowI, q]
/-- a flight's cells -/
def FS (h : PH) (c : Nat) : Prop := (ph_T h c = 0 ∧ ph_T h (c + 1) = 8 ∧ ph_T h (c + 2) = 8) ∧ (ph_L h (c + 1) = 16 ∧ ph_L h (c + 2) = 16) ∧ ph_R h c 0 = c + 1 ∧ ph_R h c 1 = c + 2
/-- a world's cells: the world at b -/
def WS (h : PH) (b : Nat) : Prop := (ph_T h b = 5 ∧ ph_T h (b + 1) = 10 ∧ ph_T h (b + 2) = 11 ∧ ph_T h (b + 3) = 3 ∧ ph_T h (b + 4) = 8) ∧ (ph_L h (b + 1) = 8 ∧ ph_L h (b + 2) = 4 ∧ ph_L h (b + 4) = 168) ∧ (ph_R h b 0 = b + 1 ∧ ph_R h b 1 = b + 2 ∧ ph_R h b 2 = b + 3 ∧ ph_R h b 3 = b + 4) ∧ (∀ i : Nat, i < 8 → FS h (ph_R h (b + 1) i) ∧ ∃ j : Nat, j < 8 ∧ ph_R h (b + 1) i = b + 5 + 3 * j) ∧ (∀ i j : Nat, i < 8 → j < 8 → ph_R h (b + 1) i = ph_R h (b + 1) j → i = j) ∧ ∀ d : Nat, d < 4 → ph_R h (b + 2) d = b + 29 + d ∧ ph_T h (b + 29 + d) = 1
theorem Fr.fs {M : Nat → Prop} {h h' : PH} (x : Fr M h h') {c : Nat} (f : FS h c) : FS h' c := by
  unfold FS at *
  rw [x.T, x.T, x.T, x.L, x.L, x.R, x.R]
  exact f
theorem Fr.ws {M : Nat → Prop} {h h' : PH} (x : Fr M h h') {b : Nat} (f : WS h b) : WS h' b := by
  unfold WS at *
  simp only [x.T, x.L, x.R]
  obtain ⟨f1, f2, f3, f4, f5, f6⟩ := f
  exact ⟨f1, f2, f3, fun i hi => ⟨x.fs (f4 i hi).1, (f4 i hi).2⟩, f5, f6⟩
/-- a flight tells a pass -/
def FR (h : PH) (c : Nat) (st : ST) (p : Int) : Prop := (ph_I h c 2 = st (Int.toNat p) ∧ ph_I h c 3 = st (Int.toNat (8 + p)) ∧ ph_I h c 4 = st (Int.toNat (16 + p)) ∧ ph_I h c 5 = st (Int.toNat (24 + p)) ∧ ph_I h c 6 = st (Int.toNat (32 + p))) ∧ ∀ k : Int, 0 ≤ k → k < st (Int.toNat (16 + p)) → ph_I h (c + 1) (Int.toNat k) = st (Int.toNat ((40 + (16 * p)) + k)) ∧ ph_I h (c + 2) (Int.toNat k) = st (Int.toNat ((168 + (16 * p)) + k))
/-- a mount tells a dish -/
def MR (h : PH) (c : Nat) (st : ST) (d : Int) : Prop := ph_I h c 0 = st (Int.toNat (296 + d)) ∧ ph_I h c 1 = st (Int.toNat (300 + d)) ∧ ph_I h c 2 = st (Int.toNat (304 + d)) ∧ ph_I h c 3 = st (Int.toNat (308 + d)) ∧ ph_I h c 4 = st (Int.toNat (312 + d))
/-- the sky -/
def SR (h : PH) (c : Nat) (st : ST) : Prop := (ph_I h c 0 = st 485 ∧ ph_I h c 1 = st 486 ∧ ph_I h c 2 = st 487 ∧ ph_I h c 3 = st 488 ∧ ph_I h c 6 = st 491) ∧ (0 ≤ ph_I h c 4 ∧ ph_I h c 4 ≤ 79 ∧ 0 ≤ ph_I h c 5 ∧ ph_I h c 5 ≤ 79) ∧ ((ph_I h c 4 ≤ ph_I h c 5 ∧ ph_I h c 4 = st 489 ∧ ph_I h c 5 = st 490) ∨ (ph_I h c 5 < ph_I h c 4 ∧ st 489 = -6 ∧ st 490 = -6))
/-- a world tells the row -/
def WR (h : PH) (b : Nat) (st : ST) : Prop := ph_I h b 4 = st 484 ∧ (∀ p : Int, 0 ≤ p → p < st 484 → FR h (ph_R h (b + 1) (Int.toNat p)) st p) ∧ (∀ d : Int, 0 ≤ d → d ≤ 3 → MR h (b + 29 + Int.toNat d) st d) ∧ SR h (b + 3) st ∧ ∀ j : Int, 0 ≤ j → j < 168 → ph_I h (b + 4) (Int.toNat j) = st (Int.toNat (316 + j))
/-- more that is so of the row -/
def Ok2 (st : ST) : Prop := (∀ p : Int, 0 ≤ p → p < st 484 → (0 ≤ st (Int.toNat p) ∧ st (Int.toNat p) ≤ 99) ∧ (st (Int.toNat (24 + p)) = -6 ∨ (0 ≤ st (Int.toNat (24 + p)) ∧ st (Int.toNat (24 + p)) ≤ 3)) ∧ ∀ k : Int, 0 ≤ k → k < st (Int.toNat (16 + p)) → (0 ≤ st (Int.toNat ((40 + (16 * p)) + k)) ∧ st (Int.toNat ((40 + (16 * p)) + k)) ≤ 23) ∧ (0 ≤ st (Int.toNat ((168 + (16 * p)) + k)) ∧ st (Int.toNat ((168 + (16 * p)) + k)) ≤ 6)) ∧ (∀ p q : Int, 0 ≤ p → p < q → q < st 484 → st (Int.toNat p) ≠ st (Int.toNat q)) ∧ ((st 489 = -6 ∧ st 490 = -6) ∨ (0 ≤ st 489 ∧ st 489 ≤ st 490))
def sSun (st : ST) (side t : Int) : Bool := decide ((if 24 - zabs (side - (st 485 + t / st 486) % 24) < zabs (side - (st 485 + t / st 486) % 24) then 24 - zabs (side - (st 485 + t / st 486) % 24) else zabs (side - (st 485 + t / st 486) % 24)) ≤ st 488)
theorem sB_e (st : ST) (side hh t : Int) : sB st side hh t = (sSun st side t && decide (zabs (hh - st 487) ≤ st 488)) := rfl
theorem ct_X0_isTaken (G : Gx) (l : Launch) (h : PH) {c : Nat} (ft0 : ph_T h c = 0) {v : Int} (e5 : ph_I h c 5 = v) (gv : pR v) : CT_X0_isTaken G l [.inr c] h (pqB (v ≠ -6) h) := by
  refine ct_intro rfl (Nat.le_of_ble_eq_true rfl) (fun X hX C => ?_)
  refine B_X0_isTaken_0 C (kt := fun c1 => ?_) (kf := fun c1 => ?_)
  · refine B_X0_isTaken_13 C (kk := ?_)
    exact B_X0_isTaken_14 C (hq := by first | exact ⟨rfl, Or.inl ⟨rfl, by omega⟩⟩ | exact ⟨rfl, Or.inr ⟨rfl, by omega⟩⟩)
  · refine B_X0_isTaken_9 C (kk := ?_)
    exact B_X0_isTaken_14 C (hq := by first | exact ⟨rfl, Or.inl ⟨rfl, by omega⟩⟩ | exact ⟨rfl, Or.inr ⟨rfl, by omega⟩⟩)
theorem ct_X0_isOpen (G : Gx) (l : Launch) (h : PH) {c : Nat} (ft0 : ph_T h c = 0) {n v : Int} (e4 : ph_I h c 4 = n) (e5 : ph_I h c 5 = v) (gn : pR n) (gv : pR v) : CT_X0_isOpen G l [.inr c] h (pqB (0 < n ∧ v = -6) h) := by
  refine ct_intro rfl (Nat.le_of_ble_eq_true rfl) (fun X hX C => ?_)
  refine B_X0_isOpen_0 C (kt := fun c1 => ?_) (kf := fun c1 => ?_)
  · refine B_X0_isOpen_18 C (kk := ?_)
    exact B_X0_isOpen_19 C (hq := by first | exact ⟨rfl, Or.inl ⟨rfl, by omega⟩⟩ | exact ⟨rfl, Or.inr ⟨rfl, by omega⟩⟩)
  · refine B_X0_isOpen_7 C (hM := ct_X0_isTaken _ _ _ ft0 e5 gv) (kk := fun r2 h2 hq2 => ?_)
    obtain ⟨rfl, ⟨rfl, c2⟩ | ⟨rfl, c2⟩⟩ := hq2
    · refine B_X0_isOpen_11 C (kt := fun c3 => ?_) (kf := fun c3 => absurd c3 (by decide))
      refine B_X0_isOpen_18 C (kk := ?_)
      exact B_X0_isOpen_19 C (hq := by first | exact ⟨rfl, Or.inl ⟨rfl, by omega⟩⟩ | exact ⟨rfl, Or.inr ⟨rfl, by omega⟩⟩)
    · refine B_X0_isOpen_11 C (kt := fun c4 => absurd c4 (by decide)) (kf := fun c4 => ?_)
      refine B_X0_isOpen_14 C (kk := ?_)
      exact B_X0_isOpen_19 C (hq := by first | exact ⟨rfl, Or.inl ⟨rfl, by omega⟩⟩ | exact ⟨rfl, Or.inr ⟨rfl, by omega⟩⟩)
theorem ct_X0_lastTick (G : Gx) (l : Launch) (h : PH) {c : Nat} (ft0 : ph_T h c = 0) {b n : Int} (e3 : ph_I h c 3 = b) (e4 : ph_I h c 4 = n) : CT_X0_lastTick G l [.inr c] h (pqI (b + n - 1) h) := by
  refine ct_intro rfl (Nat.le_of_ble_eq_true rfl) (fun X hX C => ?_)
  exact B_X0_lastTick_0 C (hq := by exact ⟨rfl, rfl⟩)
theorem ct_X0_start (G : Gx) (l : Launch) (h : PH) {c : Nat} (ft0 : ph_T h c = 0) {a b : Int} : CT_X0_start G l [.inr c, .inl a, .inl b] h (pqV (ph_setI (ph_setI (ph_setI (ph_setI (ph_setI h c 2 a) c 3 b) c 4 0) c 5 (-6)) c 6 (-6))) := by
  refine ct_intro rfl (Nat.le_of_ble_eq_true rfl) (fun X hX C => ?_)
  exact B_X0_start_0 C (hq := by exact ⟨rfl, rfl⟩)
theorem ct_X0_addPoint (G : Gx) (l : Launch) (h : PH) {c : Nat} (hf : FS h c) {a b n : Int} (e4 : ph_I h c 4 = n) (gn : 0 ≤ n ∧ n < 16) : CT_X0_addPoint G l [.inr c, .inl a, .inl b] h (pqV (ph_setI (ph_setI (ph_setI h (c + 1) (Int.toNat n) a) (c + 2) (Int.toNat n) b) c 4 (n + 1))) := by
  obtain ⟨⟨ft0, ft1, ft2⟩, ⟨fl1, fl2⟩, fr0, fr1⟩ := id hf
  refine ct_intro rfl (Nat.le_of_ble_eq_true rfl) (fun X hX C => ?_)
  refine B_X0_addPoint_0 C (kt := fun c1 => by omega) (kf := fun c1 => ?_)
  refine B_X0_addPoint_9 C (x16 := n) (e17 := by rw [sI_c (by omega)]; exact e4) (x24 := n) (e25 := by rw [sI_c (by omega), sI_c (by omega)]; exact e4) (kk := ?_)
  exact B_X0_addPoint_39 C (hq := ⟨rfl, rfl⟩)
/-- the flight at a tells what that at b told -/
def pqCpF (h : PH) (a b : Nat) : Option PV → PH → Prop := fun r h' => r = none ∧ Fr (fun c => c = a ∨ c = a + 1 ∨ c = a + 2) h h' ∧ (∀ k, 2 ≤ k → k ≤ 6 → ph_I h' a k = ph_I h b k) ∧ ∀ j, j < 16 → ph_I h' (a + 1) j = ph_I h (b + 1) j ∧ ph_I h' (a + 2) j = ph_I h (b + 2) j
theorem ct_X0_copyFrom (G : Gx) (l : Launch) (h : PH) {a b : Nat} (ha : FS h a) (hb : FS h b) (dj : a + 2 < b ∨ b + 2 < a) : CT_X0_copyFrom G l [.inr a, .inr b] h (pqCpF h a b) := by
  obtain ⟨⟨ft0, ft1, ft2⟩, ⟨fl1, fl2⟩, fr0, fr1⟩ := id ha
  obtain ⟨⟨ht0, ht1, ht2⟩, ⟨hl1, hl2⟩, hr0, hr1⟩ := id hb
  refine ct_intro rfl (Nat.le_of_ble_eq_true rfl) (fun X hX C => ?_)
  refine B_X0_copyFrom_0 C (x26 := ph_I h b 2) (e27 := by rw [rI_c (by omega), rI_c (by omega)]) (x30 := ph_I h b 3) (e31 := by rw [sI_c (by omega), rI_c (by omega), rI_c (by omega)]) (x34 := ph_I h b 4) (e35 := by rw [sI_c (by omega), sI_c (by omega), rI_c (by omega), rI_c (by omega)]) (x38 := ph_I h b 5) (e39 := by rw [sI_c (by omega), sI_c (by omega), sI_c (by omega), rI_c (by omega), rI_c (by omega)]) (x42 := ph_I h b 6) (e43 := by rw [sI_c (by omega), sI_c (by omega), sI_c (by omega), sI_c (by omega), rI_c (by omega), rI_c (by omega)]) (hq := ?_)
  refine ⟨rfl, ?_, ?_, ?_⟩
  · exact ((((((((Fr.rf _ h).row (Or.inr (Or.inl rfl)) _).row (Or.inr (Or.inr rfl)) _).set (Or.inl rfl) _ _).set (Or.inl rfl) _ _).set (Or.inl rfl) _ _).set (Or.inl rfl) _ _).set (Or.inl rfl) _ _)
  · intro k k1 k2
    have hk : k = 2 ∨ k = 3 ∨ k = 4 ∨ k = 5 ∨ k = 6 := by omega
    rcases hk with rfl | rfl | rfl | rfl | rfl
    · rw [sI_k (by omega), sI_k (by omega), sI_k (by omega), sI_k (by omega), sI_eq]
    · rw [sI_k (by omega), sI_k (by omega), sI_k (by omega), sI_eq]
    · rw [sI_k (by omega), sI_k (by omega), sI_eq]
    · rw [sI_k (by omega), sI_eq]
    · rw [sI_eq]
  · intro j hj
    have z : (j : Int) < 16 := by omega
    constructor
    · rw [sI_c (by omega), sI_c (by omega), sI_c (by omega), sI_c (by omega), sI_c (by omega), rI_c (by omega), rI_eq, if_pos z]
    · rw [sI_c (by omega), sI_c (by omega), sI_c (by omega), sI_c (by omega), sI_c (by omega), rI_eq, if_pos z, rI_c (by omega)]
theorem ct_X1_turnTo (G : Gx) (l : Launch) (h : PH) {c : Nat} (ft0 : ph_T h c = 1) {x y z : Int} : CT_X1_turnTo G l [.inr c, .inl x, .inl y, .inl z] h (pqV (ph_setI (ph_setI (ph_setI h c 0 x) c 1 y) c 2 z)) := by
  refine ct_intro rfl (Nat.le_of_ble_eq_true rfl) (fun X hX C => ?_)
  exact B_X1_turnTo_0 C (hq := by exact ⟨rfl, rfl⟩)
def pqCpM (h : PH) (a b n : Nat) : Option PV → PH → Prop := fun r h' => r = none ∧ Fr (fun c => c = a) h h' ∧ ∀ k, k < n → ph_I h' a k = ph_I h b k
theorem ct_X1_copyFrom (G : Gx) (l : Launch) (h : PH) {a b : Nat} (ta : ph_T h a = 1) (tb : ph_T h b = 1) (dj : a ≠ b) : CT_X1_copyFrom G l [.inr a, .inr b] h (pqCpM h a b 5) := by
  refine ct_intro rfl (Nat.le_of_ble_eq_true rfl) (fun X hX C => ?_)
  refine B_X1_copyFrom_0 C (hM := ct_X1_turnTo _ _ _ ta) (kk := fun rr h' hq => ?_)
  obtain ⟨rfl, rfl⟩ := hq
  refine B_X1_copyFrom_16 C (t1 := tb) (x2 := ph_I h b 3) (e3 := by rw [sI_c (by omega), sI_c (by omega), sI_c (by omega)]) (t4 := ta) (t5 := tb) (x6 := ph_I h b 4) (e7 := by rw [sI_c (by omega), sI_c (by omega), sI_c (by omega), sI_c (by omega)]) (t8 := ta) (hq := ?_)
  refine ⟨rfl, (((((Fr.rf (fun c => c = a) h).set rfl _ _).set rfl _ _).set rfl _ _).set rfl _ _).set rfl _ _, fun k hk => ?_⟩
  have hk : k = 0 ∨ k = 1 ∨ k = 2 ∨ k = 3 ∨ k = 4 := by omega
  rcases hk with rfl | rfl | rfl | rfl | rfl
  · rw [sI_k (by omega), sI_k (by omega), sI_k (by omega), sI_k (by omega), sI_eq]
  · rw [sI_k (by omega), sI_k (by omega), sI_k (by omega), sI_eq]
  · rw [sI_k (by omega), sI_k (by omega), sI_eq]
  · rw [sI_k (by omega), sI_eq]
  · rw [sI_eq]
theorem ct_X3_putSun (G : Gx) (l : Launch) (h : PH) {c : Nat} (ft0 : ph_T h c = 3) {x y z u : Int} : CT_X3_putSun G l [.inr c, .inl x, .inl y, .inl z, .inl u] h (pqV (ph_setI (ph_setI (ph_setI (ph_setI h c 0 x) c 1 y) c 2 z) c 3 u)) := by
  refine ct_intro rfl (Nat.le_of_ble_eq_true rfl) (fun X hX C => ?_)
  exact B_X3_putSun_0 C (hq := by exact ⟨rfl, rfl⟩)
theorem ct_X3_copyFrom (G : Gx) (l : Launch) (h : PH) {a b : Nat} (ta : ph_T h a = 3) (tb : ph_T h b = 3) (dj : a ≠ b) : CT_X3_copyFrom G l [.inr a, .inr b] h (pqCpM h a b 7) := by
  refine ct_intro rfl (Nat.le_of_ble_eq_true rfl) (fun X hX C => ?_)
  refine B_X3_copyFrom_0 C (hM := ct_X3_putSun _ _ _ ta) (kk := fun rr h' hq => ?_)
  obtain ⟨rfl, rfl⟩ := hq
  refine B_X3_copyFrom_20 C (t1 := tb) (x2 := ph_I h b 4) (e3 := by rw [sI_c (by omega), sI_c (by omega), sI_c (by omega), sI_c (by omega)]) (t4 := ta) (t5 := tb) (x6 := ph_I h b 5) (e7 := by rw [sI_c (by omega), sI_c (by omega), sI_c (by omega), sI_c (by omega), sI_c (by omega)]) (t8 := ta) (t9 := tb) (x10 := ph_I h b 6) (e11 := by rw [sI_c (by omega), sI_c (by omega), sI_c (by omega), sI_c (by omega), sI_c (by omega), sI_c (by omega)]) (t12 := ta) (hq := ?_)
  refine ⟨rfl, (((((((Fr.rf (fun c => c = a) h).set rfl _ _).set rfl _ _).set rfl _ _).set rfl _ _).set rfl _ _).set rfl _ _).set rfl _ _, fun k hk => ?_⟩
  have hk : k = 0 ∨ k = 1 ∨ k = 2 ∨ k = 3 ∨ k = 4 ∨ k = 5 ∨ k = 6 := by omega
  rcases hk with rfl | rfl | rfl | rfl | rfl | rfl | rfl
  · rw [sI_k (by omega), sI_k (by omega), sI_k (by omega), sI_k (by omega), sI_k (by omega), sI_k (by omega), sI_eq]
  · rw [sI_k (by omega), sI_k (by omega), sI_k (by omega), sI_k (by omega), sI_k (by omega), sI_eq]
  · rw [sI_k (by omega), sI_k (by omega), sI_k (by omega), sI_k (by omega), sI_eq]
  · rw [sI_k (by omega), sI_k (by omega), sI_k (by omega), sI_eq]
  · rw [sI_k (by omega), sI_k (by omega), sI_eq]
  · rw [sI_k (by omega), sI_eq]
  · rw [sI_eq]
theorem ct_X3_isSunSide (G : Gx) (l : Launch) (h : PH) {c : Nat} (ft0 : ph_T h c = 3) {st : ST} (hR : SR h c st) (hs : okSky st) {a t : Int} (a0 : 0 ≤ a ∧ a ≤ 23) (t0 : 0 ≤ t ∧ t ≤ 200) : CT_X3_isSunSide G l [.inr c, .inl a, .inl t] h (pqB (sSun st a t = true) h) := by
  obtain ⟨⟨v0, v1, v2, v3, v6⟩, v45, vs⟩ := id hR
  obtain ⟨o1, o2, o3, o4, o5, o6, o7, o8, o9, o10, o11, o12, o13, o14⟩ := id hs
  have hdv : 0 ≤ t / st 486 ∧ t / st 486 ≤ 200 := ⟨Int.ediv_nonneg t0.1 (by omega), Int.le_trans (Int.ediv_le_self _ t0.1) t0.2⟩
  have hz : 0 ≤ zabs (a - (st 485 + t / st 486) % 24) ∧ zabs (a - (st 485 + t / st 486) % 24) ≤ 24 := by unfold zabs; split <;> omega
  refine ct_intro rfl (Nat.le_of_ble_eq_true rfl) (fun X hX C => ?_)
  refine B_X3_isSunSide_0 C (q4 := by unfold pR; omega) (kt := fun c1 => by omega) (kf := fun c1 => ?_)
  refine B_X3_isSunSide_7 C (x2 := st 486) (e3 := v1) (q5 := by unfold pR; omega) (kk := ?_)
  refine B_X3_isSunSide_17 C (x2 := st 485) (e3 := v0) (x9 := zabs (a - (st 485 + t / st 486) % 24)) (e10 := rfl) (x16 := st 488) (e17 := v3) (x13 := if 24 - zabs (a - (st 485 + t / st 486) % 24) < zabs (a - (st 485 + t / st 486) % 24) then 24 - zabs (a - (st 485 + t / st 486) % 24) else zabs (a - (st 485 + t / st 486) % 24)) (e14 := rfl) (q18 := by unfold pR; split <;> omega) (q19 := by unfold pR; omega) (kt := fun c2 => ?_) (kf := fun c2 => ?_)
  · refine B_X3_isSunSide_55 C (kk := ?_)
    exact B_X3_isSunSide_56 C (hq := ⟨rfl, Or.inr ⟨rfl, fun z => by unfold sSun at z; have := of_decide_eq_true z; omega⟩⟩)
  · refine B_X3_isSunSide_51 C (kk := ?_)
    exact B_X3_isSunSide_56 C (hq := ⟨rfl, Or.inl ⟨rfl, by unfold sSun; exact decide_eq_true (by omega)⟩⟩)
theorem ct_X3_isSunHeight (G : Gx) (l : Launch) (h : PH) {c : Nat} (ft0 : ph_T h c = 3) {st : ST} (hR : SR h c st) (hs : okSky st) {a : Int} (a0 : 0 ≤ a ∧ a ≤ 6) : CT_X3_isSunHeight G l [.inr c, .inl a] h (pqB (zabs (a - st 487) ≤ st 488) h) := by
  obtain ⟨⟨v0, v1, v2, v3, v6⟩, v45, vs⟩ := id hR
  obtain ⟨o1, o2, o3, o4, o5, o6, o7, o8, o9, o10, o11, o12, o13, o14⟩ := id hs
  have hz : 0 ≤ zabs (a - st 487) ∧ zabs (a - st 487) ≤ 24 := by unfold zabs; split <;> omega
  refine ct_intro rfl (Nat.le_of_ble_eq_true rfl) (fun X hX C => ?_)
  refine B_X3_isSunHeight_0 C (x2 := st 487) (e3 := v2) (x5 := zabs (a - st 487)) (e6 := rfl) (x8 := st 488) (e9 := v3) (q10 := by unfold pR; omega) (q11 := by unfold pR; omega) (kt := fun c2 => ?_) (kf := fun c2 => ?_)
  · refine B_X3_isSunHeight_20 C (kk := ?_)
    exact B_X3_isSunHeight_21 C (hq := ⟨rfl, Or.inr ⟨rfl, by omega⟩⟩)
  · refine B_X3_isSunHeight_16 C (kk := ?_)
    exact B_X3_isSunHeight_21 C (hq := ⟨rfl, Or.inl ⟨rfl, by omega⟩⟩)
theorem ct_X3_isBurnt (G : Gx) (l : Launch) (h : PH) {c : Nat} (ft0 : ph_T h c = 3) {st : ST} (hR : SR h c st) (hs : okSky st) {a b t : Int} (a0 : 0 ≤ a ∧ a ≤ 23) (b0 : 0 ≤ b ∧ b ≤ 6) (t0 : 0 ≤ t ∧ t ≤ 200) : CT_X3_isBurnt G l [.inr c, .inl a, .inl b, .inl t] h (pqB (sB st a b t = true) h) := by
  obtain ⟨⟨v0, v1, v2, v3, v6⟩, v45, vs⟩ := id hR
  obtain ⟨o1, o2, o3, o4, o5, o6, o7, o8, o9, o10, o11, o12, o13, o14⟩ := id hs
  refine ct_intro rfl (Nat.le_of_ble_eq_true rfl) (fun X hX C => ?_)
  refine B_X3_isBurnt_0 C (hM := ct_X3_isSunSide _ _ _ ft0 hR hs a0 t0) (kk := fun r1 h1 hq1 => ?_)
  obtain ⟨rfl, ⟨rfl, c1⟩ | ⟨rfl, c1⟩⟩ := hq1
  · refine B_X3_isBurnt_6 C (kt := fun c2 => absurd c2 (by decide)) (kf := fun c2 => ?_)
    refine B_X3_isBurnt_9 C (hM := ct_X3_isSunHeight _ _ _ ft0 hR hs b0) (kk := fun r3 h3 hq3 => ?_)
    obtain ⟨rfl, ⟨rfl, c3⟩ | ⟨rfl, c3⟩⟩ := hq3
    · refine B_X3_isBurnt_14 C (kt := fun c4 => absurd c4 (by decide)) (kf := fun c4 => ?_)
      refine B_X3_isBurnt_17 C (kk := ?_)
      exact B_X3_isBurnt_22 C (hq := by first | exact ⟨rfl, Or.inl ⟨rfl, by rw [sB_e]; simp_all⟩⟩ | exact ⟨rfl, Or.inr ⟨rfl, by rw [sB_e]; simp_all⟩⟩)
    · refine B_X3_isBurnt_14 C (kt := fun c5 => ?_) (kf := fun c5 => absurd c5 (by decide))
      refine B_X3_isBurnt_21 C (kk := ?_)
      exact B_X3_isBurnt_22 C (hq := by first | exact ⟨rfl, Or.inl ⟨rfl, by rw [sB_e]; simp_all⟩⟩ | exact ⟨rfl, Or.inr ⟨rfl, by rw [sB_e]; simp_all⟩⟩)
  · refine B_X3_isBurnt_6 C (kt := fun c6 => ?_) (kf := fun c6 => absurd c6 (by decide))
    refine B_X3_isBurnt_21 C (kk := ?_)
    exact B_X3_isBurnt_22 C (hq := by first | exact ⟨rfl, Or.inl ⟨rfl, by rw [sB_e]; simp_all⟩⟩ | exact ⟨rfl, Or.inr ⟨rfl, by rw [sB_e]; simp_all⟩⟩)
theorem ct_X3_hasStorm (G : Gx) (l : Launch) (h : PH) {c : Nat} (ft0 : ph_T h c = 3) {st : ST} (hR : SR h c st) (hs : okSky st) : CT_X3_hasStorm G l [.inr c] h (pqB (0 ≤ st 489) h) := by
  obtain ⟨⟨v0, v1, v2, v3, v6⟩, v45, vs⟩ := id hR
  obtain ⟨o1, o2, o3, o4, o5, o6, o7, o8, o9, o10, o11, o12, o13, o14⟩ := id hs
  refine ct_intro rfl (Nat.le_of_ble_eq_true rfl) (fun X hX C => ?_)
  refine B_X3_hasStorm_0 C (kt := fun c1 => ?_) (kf := fun c1 => ?_)
  · refine B_X3_hasStorm_15 C (kk := ?_)
    exact B_X3_hasStorm_16 C (hq := by first | exact ⟨rfl, Or.inl ⟨rfl, by omega⟩⟩ | exact ⟨rfl, Or.inr ⟨rfl, by omega⟩⟩)
  · refine B_X3_hasStorm_11 C (kk := ?_)
    exact B_X3_hasStorm_16 C (hq := by first | exact ⟨rfl, Or.inl ⟨rfl, by omega⟩⟩ | exact ⟨rfl, Or.inr ⟨rfl, by omega⟩⟩)
theorem ct_X3_isStormy (G : Gx) (l : Launch) (h : PH) {c : Nat} (ft0 : ph_T h c = 3) {st : ST} (hR : SR h c st) (hs : okSky st) {t : Int} (t0 : 0 ≤ t ∧ t ≤ 200) : CT_X3_isStormy G l [.inr c, .inl t] h (pqB (0 ≤ st 489 ∧ (st 489 ≤ t ∧ t ≤ st 490)) h) := by
  obtain ⟨⟨v0, v1, v2, v3, v6⟩, v45, vs⟩ := id hR
  obtain ⟨o1, o2, o3, o4, o5, o6, o7, o8, o9, o10, o11, o12, o13, o14⟩ := id hs
  refine ct_intro rfl (Nat.le_of_ble_eq_true rfl) (fun X hX C => ?_)
  refine B_X3_isStormy_0 C (hM := ct_X6_isIn _ _ _) (kk := fun r1 h1 hq1 => ?_)
  obtain ⟨rfl, ⟨rfl, c1⟩ | ⟨rfl, c1⟩⟩ := hq1
  · exact B_X3_isStormy_12 C (hq := by first | exact ⟨rfl, Or.inl ⟨rfl, by omega⟩⟩ | exact ⟨rfl, Or.inr ⟨rfl, by omega⟩⟩)
  · exact B_X3_isStormy_12 C (hq := by first | exact ⟨rfl, Or.inl ⟨rfl, by omega⟩⟩ | exact ⟨rfl, Or.inr ⟨rfl, by omega⟩⟩)
