/-! bestWay told of the class whole; sharedWay, forgetWays; the world -/
theorem WayC_7 {h h' : PH} {y : Nat} {st : ST} {d p : Int} (i0 : ∀ k, k ≠ 7 → ph_I h' y k = ph_I h y k) (hI : ∀ e, y + 1 ≤ e → e ≤ y + 3 → ∀ k, ph_I h' e k = ph_I h e k) (f : WayC h y st d p) : WayC h' y st d p := by
  have i6 := i0 6 (by decide)
  have i8 := i0 8 (by decide)
  have i9 := i0 9 (by decide)
  have i10 := i0 10 (by decide)
  have i11 := i0 11 (by decide)
  have i12 := i0 12 (by decide)
  have i13 := i0 13 (by decide)
  have i1 : ph_I h' (y + 1) = ph_I h (y + 1) := funext (hI (y + 1) (by omega) (by omega))
  have i2 : ph_I h' (y + 2) = ph_I h (y + 2) := funext (hI (y + 2) (by omega) (by omega))
  have i3 := hI (y + 3) (by omega) (by omega)
  unfold WayC at *
  simp only [i6, i8, i9, i10, i11, i12, i13, i1, i2, i3]
  exact f
def S2 (h h' : PH) : Prop := SFr (fun c => 104 ≤ c ∧ c < 134) h h'
theorem name_uniq {st : ST} {p q : Int} (h2 : Ok2 st) (p0 : 0 ≤ p ∧ p < st 484) (q0 : 0 ≤ q ∧ q < st 484) (e : st (Int.toNat p) = st (Int.toNat q)) : p = q := by
  rcases Int.lt_trichotomy p q with z | z | z
  · exact absurd e (h2.2.1 p q p0.1 z q0.2)
  · exact z
  · exact absurd e.symm (h2.2.1 q p q0.1 z p0.2)
theorem WY_one {h h' : PH} {st : ST} {d : Nat} (hd : d < 4) (hw : WY h st) (hI : ∀ e, 110 ≤ e → e < 134 → (e < 110 + 6 * d ∨ 110 + 6 * d + 5 < e) → ∀ k, ph_I h' e k = ph_I h e k) (h1 : WY1 h' st d) : WY h' st := by
  intro d' hd'
  by_cases z : d' = d
  · rw [z]; exact h1
  · exact WY1_congr (fun e a b k => hI e (by omega) (by omega) (by omega) k) (hw d' hd')
/-- what bestWay leaves, told of the class whole -/
theorem pqBW.cw {h h' : PH} {st : ST} {d p : Int} {y : Nat} {rr : Option PV} (hW : CW h st) (d0 : 0 ≤ d ∧ d ≤ 3) (p0 : 0 ≤ p ∧ p < st 484) (hn : 0 < st (Int.toNat (16 + p))) (hy : y = 110 + 6 * Int.toNat d) (q : pqBW h st d p y rr h') : rr = some (.inr y) ∧ CW h' st ∧ S2 h h' ∧ WayC h' y st d p ∧ ph_I h' y 5 = st (Int.toNat p) ∧ (∀ e, 110 ≤ e → e < 134 → (e < y ∨ y + 5 < e) → ∀ k, ph_I h' e k = ph_I h e k) ∧ (ph_I h y 5 = st (Int.toNat p) → h' = h) := by
  have dl : Int.toNat d < 4 := by omega
  have de : ((Int.toNat d : Nat) : Int) = d := by omega
  obtain ⟨q1, q2⟩ := q
  obtain ⟨fx, f2, f3, f4, f5⟩ := id hW
  have nm := (f4.1 p p0.1 p0.2).1
  refine ⟨q1, ?_⟩
  rcases q2 with ⟨e, rfl⟩ | ⟨ne, hS, mc, fc, ra, sb, hC, -, -, hWc, h5, h7, -⟩
  · have wy := f5 (Int.toNat d) dl
    unfold WY1 at wy
    rw [← hy, de] at wy
    rcases wy.2 with z | ⟨p', p0', n', z, wc, -⟩
    · omega
    · have : p' = p := name_uniq f4 p0' p0 (by rw [← z, e])
      subst this
      exact ⟨hW, SFr.rf _ _, wc, e, fun _ _ _ _ _ => rfl, fun _ => rfl⟩
  · have hI : ∀ e, 110 ≤ e → e < 134 → (e < y ∨ y + 5 < e) → ∀ k, ph_I h' e k = ph_I h e k := fun e a b c k => hS.I (by omega) k
    have hS2 : S2 h h' := hS.mono (fun c hc => by omega)
    have hr : (ph_R h' 104 4 = 108 ∧ ph_R h' 104 5 = 109) ∨ (ph_R h' 104 4 = 109 ∧ ph_R h' 104 5 = 108) := by
      obtain ⟨-, -, ⟨-, -, -, -, k4, k5, -, -⟩, kk, -⟩ := hC
      rw [k4, k5]; exact kk
    refine ⟨CW_sfr hS2 (fun c hc => hc.1) hr hW (WY_one dl f5 (by rw [← hy]; exact hI) ?_), hS2, hWc, h5, hI, fun e => absurd e ne⟩
    unfold WY1
    rw [← hy, de]
    exact ⟨Or.inl h7, Or.inr ⟨p, p0, hn, h5, hWc, Or.inl h7⟩⟩
def pqSW (h : PH) (st : ST) (d p : Int) (y : Nat) : Option PV → PH → Prop := fun rr h' => rr = some (.inr y) ∧ CW h' st ∧ S2 h h' ∧ ShC h' y st d p ∧ ∀ e, 110 ≤ e → e < 134 → (e < y ∨ y + 5 < e) → ∀ k, ph_I h' e k = ph_I h e k
theorem ct_X2_sharedWay (G : Gx) (l : Launch) (h : PH) {st : ST} {d p : Int} (hW : CW h st) (d0 : 0 ≤ d ∧ d ≤ 3) (p0 : 0 ≤ p ∧ p < st 484) (hn : 0 < st (Int.toNat (16 + p))) {y fc : Nat} (hy : y = 110 + 6 * Int.toNat d) (hfc : fc = ph_R h 4 (Int.toNat p)) : CT_X2_sharedWay G l [.inr 104, .inl d, .inr fc] h (pqSW h st d p y) := by
  have dl : Int.toNat d < 4 := by omega
  have de : ((Int.toNat d : Nat) : Int) = d := by omega
  have yb : 110 ≤ y ∧ y + 5 < 134 := by omega
  obtain ⟨fx, f2, f3, f4, f5⟩ := id hW
  obtain ⟨⟨a1, a2, a3, a4, a5⟩, ⟨b1, b2, b3, b4, b5, b6⟩, ⟨c1, c2, c3⟩, ⟨e1, e2, e3, e4, e5, e6⟩, ⟨g1, g2, g3, g4, g5, g6, g7, g8, g9, g10⟩, f7⟩ := id fx
  have yd := f7 (Int.toNat d) dl
  rw [← hy] at yd
  obtain ⟨yr, hY⟩ := yd
  have ty : ph_T h y = 4 := hY.1.1
  have nm := (f4.1 p p0.1 p0.2).1
  have wy := f5 (Int.toNat d) dl
  unfold WY1 at wy
  rw [← hy, de] at wy
  have c4 : ∀ h' : PH, S2 h h' → ph_R h' 4 = ph_R h 4 := fun h' s => funext fun k => s.Rc (by decide) k
  refine ct_intro rfl (Nat.le_of_ble_eq_true rfl) (fun X hX C => ?_)
  have aft : ∀ (h1 h2 : PH), S2 h h1 → CW h1 st → (∀ e, 110 ≤ e → e < 134 → (e < y ∨ y + 5 < e) → ∀ k, ph_I h1 e k = ph_I h e k) → (ph_I h1 y 7 = 1 → ph_I h1 y 5 = st (Int.toNat p) → ShC h1 y st d p) → (ph_I h1 y 7 = 0 → ph_I h1 y 5 = -6) → (ph_I h1 y 7 = 0 ∨ ph_I h1 y 7 = 1) → pqBW h1 st d p y (some (.inr y)) h2 → PW G X 4 (pw_E G X (pqSW h st d p y) 0 0) 0 0 26 [some (.inr 104), some (.inl d), some (.inr fc), some (.inr y)] [.inr y] h2 := by
    intro h1 h2 hS1 hW1 hI1 hsh h70 h701 hq
    obtain ⟨-, hW2, hS2, hWc2, h52, hI2, hhit⟩ := hq.cw hW1 d0 p0 hn hy
    obtain ⟨-, hq⟩ := hq
    have hSa : S2 h h2 := hS1.tr hS2
    have hIa : ∀ e, 110 ≤ e → e < 134 → (e < y ∨ y + 5 < e) → ∀ k, ph_I h2 e k = ph_I h e k := fun e a b c k => by rw [hI2 e a b c k]; exact hI1 e a b c k
    have ty2 : ph_T h2 y = 4 := by rw [hSa.T]; exact ty
    have t2 : ph_T h2 104 = 2 := by rw [hSa.T]; exact e1
    rcases hq with ⟨e, rfl⟩ | ⟨ne, hS, mc, fc', ra, sb, hC, u8, hT, -, -, h7, z45⟩
    · have h7 : ph_I h2 y 7 = 1 := by
        rcases h701 with z | z
        · have := h70 z; omega
        · exact z
      refine B_X2_sharedWay_26 C (x2 := 1) (e3 := h7) (kt := fun c => ?_) (kf := fun c => absurd c (by decide))
      exact B_X2_sharedWay_39 C (hq := ⟨rfl, hW2, hSa, hsh h7 e, hIa⟩)
    · refine B_X2_sharedWay_26 C (x2 := 0) (e3 := h7) (kt := fun c => absurd rfl c) (kf := fun c => ?_)
      have hY2 : YS h2 y := YS_congr hSa.T hSa.L (fun k => hSa.Rc (by omega) k) hY
      refine B_X2_sharedWay_34 C (hM := ct_X2_goForth _ _ _ hC u8 rfl hn hT hY2 yb hWc2 z45) (kk := fun rr h3 hq3 => ?_)
      obtain ⟨rfl, ra3, sb3, hC3, hF3, hy3, h73, hsh3⟩ := hq3
      have hS3 : S2 h2 h3 := hF3.mono (fun c hc => by omega)
      have hr : (ph_R h3 104 4 = 108 ∧ ph_R h3 104 5 = 109) ∨ (ph_R h3 104 4 = 109 ∧ ph_R h3 104 5 = 108) := by
        obtain ⟨-, -, ⟨-, -, -, -, k4, k5, -, -⟩, kk, -⟩ := hC3
        rw [k4, k5]; exact kk
      have hI3 : ∀ e, 110 ≤ e → e < 134 → (e < y ∨ y + 5 < e) → ∀ k, ph_I h3 e k = ph_I h2 e k := fun e a b c k => hF3.I (by omega) k
      have hW3 : CW h3 st := by
        refine CW_sfr hS3 (fun c hc => hc.1) hr hW2 (WY_one dl hW2.2.2.2.2 (by rw [← hy]; exact hI3) ?_)
        unfold WY1
        rw [← hy, de]
        exact ⟨Or.inr h73, Or.inr ⟨p, p0, hn, by rw [hy3 5 (by decide)]; exact h52, WayC_7 hy3 (fun e a b k => hF3.I (by omega) k) hWc2, Or.inr hsh3⟩⟩
      exact B_X2_sharedWay_39 C (hq := ⟨rfl, hW3, hSa.tr hS3, hsh3, fun e a b c k => by rw [hI3 e a b c k]; exact hIa e a b c k⟩)
  refine B_X2_sharedWay_0 C (r2 := 105) (r9 := y) (m8 := 12) (x13 := ph_I h y 7) (e14 := rfl) (q15 := by rcases wy.1 with z | z <;> (rw [z]; unfold pR; decide)) (kt := fun c => ?_) (kf := fun c => ?_)
  · refine B_X2_sharedWay_20 C (hM := ct_X2_bestWay _ _ _ hW d0 p0 hn hy hfc) (kk := fun rr h2 hq => ?_)
    have er := hq.1
    subst er
    refine aft h h2 (SFr.rf _ h) hW (fun _ _ _ _ _ => rfl) (fun z1 z2 => ?_) (fun z => absurd z c) wy.1 hq
    rcases wy.2 with z | ⟨p', p0', n', z, wc, s⟩
    · omega
    · have : p' = p := name_uniq f4 p0' p0 (by rw [← z, z2])
      subst this
      rcases s with s | s
      · omega
      · exact s
  · refine B_X2_sharedWay_14 C (kk := ?_)
    have hx : Fr (fun c => c = y) h (ph_setI h y 5 (-6)) := (Fr.rf (fun c => c = y) h).set rfl _ _
    have hSx : S2 h (ph_setI h y 5 (-6)) := hx.s.mono (fun c hc => by omega)
    have hIx : ∀ e, 110 ≤ e → e < 134 → (e < y ∨ y + 5 < e) → ∀ k, ph_I (ph_setI h y 5 (-6)) e k = ph_I h e k := fun e a b c k => hx.I (by omega) k
    have x7 : ph_I (ph_setI h y 5 (-6)) y 7 = 0 := by rw [sI_k (by decide)]; exact c
    have hWx : CW (ph_setI h y 5 (-6)) st := by
      refine CW_sfr hSx (fun c hc => hc.1) e6 hW (WY_one dl f5 (by rw [← hy]; exact hIx) ?_)
      unfold WY1
      rw [← hy]
      exact ⟨Or.inl x7, Or.inl sI_eq⟩
    refine B_X2_sharedWay_20 C (hM := ct_X2_bestWay _ _ _ hWx d0 p0 hn hy hfc) (kk := fun rr h2 hq => ?_)
    have er := hq.1
    subst er
    exact aft _ h2 hSx hWx hIx (fun z1 _ => by omega) (fun _ => sI_eq) (Or.inl x7) hq
/-- forgotten ways -/
def WFl (h : PH) : Prop := ∀ d : Nat, d < 4 → ph_I h (110 + 6 * d) 7 = 0 ∨ ph_I h (110 + 6 * d) 7 = 1
theorem ct_X2_forgetWays (G : Gx) (l : Launch) (h : PH) (fx : XS h) : CT_X2_forgetWays G l [.inr 104] h (fun rr h' => rr = none ∧ Fr (fun c => 110 ≤ c ∧ c < 134) h h' ∧ (∀ d : Nat, d < 4 → ph_I h' (110 + 6 * d) 5 = -6) ∧ ∀ c k, k ≠ 5 → ph_I h' c k = ph_I h c k) := by
  obtain ⟨⟨a1, a2, a3, a4, a5⟩, ⟨b1, b2, b3, b4, b5, b6⟩, ⟨c1, c2, c3⟩, ⟨e1, e2, e3, e4, e5, e6⟩, ⟨g1, g2, g3, g4, g5, g6, g7, g8, g9, g10⟩, f7⟩ := id fx
  refine ct_intro rfl (Nat.le_of_ble_eq_true rfl) (fun X hX C => ?_)
  have lp : ∀ (m k : Nat) (h1 : PH), k + m = 4 → Fr (fun c => 110 ≤ c ∧ c < 134) h h1 → (∀ d : Nat, d < k → ph_I h1 (110 + 6 * d) 5 = -6) → (∀ c k, k ≠ 5 → ph_I h1 c k = ph_I h c k) → PW G X 2 (pw_E G X (fun rr h' => rr = none ∧ Fr (fun c => 110 ≤ c ∧ c < 134) h h' ∧ (∀ d : Nat, d < 4 → ph_I h' (110 + 6 * d) 5 = -6) ∧ ∀ c k, k ≠ 5 → ph_I h' c k = ph_I h c k) 0 0) 0 0 2 [some (.inr 104), some (.inl (k : Int))] [] h1 := by
    intro m
    induction m with
    | zero =>
      intro k h1 hk hF hn ho
      refine B_X2_forgetWays_2 C (kt := fun c => ?_) (kf := fun c => by omega)
      exact B_X2_forgetWays_24 C (hq := ⟨rfl, hF, fun d hd => hn d (by omega), ho⟩)
    | succ m ih =>
      intro k h1 hk hF hn ho
      have t1 : ph_T h1 104 = 2 := by rw [hF.T]; exact e1
      have r1 : ph_R h1 104 1 = 105 := by rw [hF.R]; exact e3
      have t5 : ph_T h1 105 = 12 := by rw [hF.T]; exact g1
      have l5 : ph_L h1 105 = 4 := by rw [hF.L]; exact g2
      have ek : Int.toNat (k : Int) = k := by omega
      have yd := f7 k (by omega)
      have ry : ph_R h1 105 (Int.toNat (k : Int)) = 110 + 6 * k := by rw [ek, hF.R]; exact yd.1
      have ty : ph_T h1 (110 + 6 * k) = 4 := by rw [hF.T]; exact yd.2.1.1
      refine B_X2_forgetWays_2 C (kt := fun c => by omega) (kf := fun c => ?_)
      refine B_X2_forgetWays_7 C (r2 := 105) (m8 := 12) (r9 := 110 + 6 * k) (kk := ?_)
      have e4 : ((k + 1 : Nat) : Int) = (k : Int) + 1 := by omega
      have nx := ih (k + 1) (ph_setI h1 (110 + 6 * k) 5 (-6)) (by omega) (hF.set (by omega) _ _) (fun d hd => by
        by_cases z : d = k
        · rw [z, sI_eq]
        · rw [sI_c (by omega)]; exact hn d (by omega)) (fun c j hj => by rw [sI_k hj]; exact ho c j hj)
      rw [e4] at nx
      exact nx
  refine B_X2_forgetWays_0 C (kk := ?_)
  exact lp 4 0 h (by omega) (Fr.rf _ h) (fun d hd => by omega) (fun _ _ _ => rfl)
/-- a world changed, the ways forgotten -/
theorem CW_new {h h' : PH} {st : ST} (fx : XS h) (fw : WFl h) (hr : WR h 3 st) (hS : OkS st) (h2 : Ok2 st) (hF : Fr (fun c => 110 ≤ c ∧ c < 134) h h') (h5 : ∀ d : Nat, d < 4 → ph_I h' (110 + 6 * d) 5 = -6) (ho : ∀ c k, k ≠ 5 → ph_I h' c k = ph_I h c k) : CW h' st := by
  refine ⟨XS_sfr hF.s (by rw [hF.R, hF.R]; exact fx.2.2.2.1.2.2.2.2.2) fx, WR_congr fx.2.2.1.1 hS.2.2.1.2 (fun k => hF.R _ k) (fun e a b k => hF.I (by omega) k) hr, hS, h2, fun d hd => ⟨?_, Or.inl (h5 d hd)⟩⟩
  rw [ho _ 7 (by decide)]
  exact fw d hd
theorem CW.fl {h : PH} {st : ST} (f : CW h st) : WFl h := fun d hd => (f.2.2.2.2 d hd).1
