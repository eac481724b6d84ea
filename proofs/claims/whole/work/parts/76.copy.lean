/-! the world: copyFrom, removeFlight -/
theorem ct_X5_copyFrom (G : Gx) (l : Launch) (h : PH) {a b : Nat} {st : ST} (ha : WS h a) (hw : WS h b) (hR : WR h b st) (hS : OkS st) (dj : a + 33 ≤ b ∨ b + 33 ≤ a) : CT_X5_copyFrom G l [.inr a, .inr b] h (fun rr h' => rr = none ∧ Fr (fun c => a ≤ c ∧ c < a + 33) h h' ∧ WR h' a st) := by
  obtain ⟨⟨wt0, wt1, wt2, wt3, wt4⟩, ⟨wl1, wl2, wl4⟩, ⟨wr0, wr1, wr2, wr3⟩, wfl, winj, wmt⟩ := id hw
  obtain ⟨⟨at0, at1, at2, at3, at4⟩, ⟨al1, al2, al4⟩, ⟨ar0, ar1, ar2, ar3⟩, afl, ainj, amt⟩ := id ha
  obtain ⟨f1, f2, f3, f4, f5⟩ := id hR
  obtain ⟨hs, hb, hmany, hD, hPp⟩ := id hS
  refine ct_intro rfl (Nat.le_of_ble_eq_true rfl) (fun X hX C => ?_)
  have lpM : ∀ (m i : Nat) (h1 : PH), i + m = 4 → Fr (fun c => a ≤ c ∧ c < a + 33) h h1 → (∀ p : Int, 0 ≤ p → p < st 484 → FR h1 (ph_R h (a + 1) (Int.toNat p)) st p) → (∀ d : Int, 0 ≤ d → d < i → MR h1 (a + 29 + Int.toNat d) st d) → PW G X 3 (pw_E G X (fun rr h' => rr = none ∧ Fr (fun c => a ≤ c ∧ c < a + 33) h h' ∧ WR h' a st) 0 0) 0 0 31 [some (.inr a), some (.inr b), some (.inl (i : Int))] [] h1 := by
    intro m
    induction m with
    | zero =>
      intro i h1 hi hF hf hm
      have e3 : ph_T h1 a = 5 := by rw [hF.T]; exact at0
      have e4 : ph_T h1 b = 5 := by rw [hF.T]; exact wt0
      have e5 : ph_R h1 a 2 = a + 3 := by rw [hF.R]; exact ar2
      have e6 : ph_R h1 b 2 = b + 3 := by rw [hF.R]; exact wr2
      have e7 : ph_T h1 (a + 3) = 3 := by rw [hF.T]; exact at3
      have e8 : ph_T h1 (b + 3) = 3 := by rw [hF.T]; exact wt3
      refine B_X5_copyFrom_31 C (kt := fun c => ?_) (kf := fun c => by omega)
      refine B_X5_copyFrom_57 C (r2 := a + 3) (r5 := b + 3) (hM := ct_X3_copyFrom _ _ _ e7 e8 (by omega)) (kk := fun rr h2 hq => ?_)
      obtain ⟨rfl, hF2, hk2⟩ := hq
      have hFa : Fr (fun c => a ≤ c ∧ c < a + 33) h h2 := hF.tr (hF2.mono (fun c hc => by omega))
      have hsr : SR h2 (a + 3) st := by
        have f4' : SR h1 (b + 3) st := SR_congr (fun k => hF.I (by omega) k) f4
        unfold SR at *
        rw [hk2 0 (by decide), hk2 1 (by decide), hk2 2 (by decide), hk2 3 (by decide), hk2 4 (by decide), hk2 5 (by decide), hk2 6 (by decide)]
        exact f4'
      have t3 : ph_T h2 a = 5 := by rw [hFa.T]; exact at0
      have t4 : ph_T h2 b = 5 := by rw [hFa.T]; exact wt0
      have t5 : ph_R h2 a 3 = a + 4 := by rw [hFa.R]; exact ar3
      have t6 : ph_R h2 b 3 = b + 4 := by rw [hFa.R]; exact wr3
      have t7 : ph_T h2 (a + 4) = 8 := by rw [hFa.T]; exact at4
      have t8 : ph_T h2 (b + 4) = 8 := by rw [hFa.T]; exact wt4
      have l7 : ph_L h2 (a + 4) = 168 := by rw [hFa.L]; exact al4
      have l8 : ph_L h2 (b + 4) = 168 := by rw [hFa.L]; exact wl4
      refine B_X5_copyFrom_68 C (r2 := b + 4) (r5 := a + 4) (r8 := a + 4) (x11 := 168) (e12 := by rw [l7]; rfl) (q17 := by rw [l8]; decide) (q18 := by rw [l7]; decide) (x20 := st 484) (e21 := by rw [rI_c (by omega), hFa.I (by omega)]; exact f1) (hq := ?_)
      refine ⟨rfl, (hFa.row (by omega) _).set (by omega) _ _, ?_, fun p p0 p1 => ?_, fun d d0 d1 => ?_, ?_, fun j j0 j1 => ?_⟩
      · rw [sI_eq]
      · have hp := f2 p p0 p1
        obtain ⟨-, j, hj, hjr⟩ := afl (Int.toNat p) (by omega)
        refine FR_congr (h := h1) (fun e y1 y2 k => ?_) ?_
        · have : ph_R (ph_setI (ph_rowI h2 (a + 4) (fun j => if (j : Int) < 168 then ph_I h2 (b + 4) j else ph_I h2 (a + 4) j)) a 4 (st 484)) (a + 1) (Int.toNat p) = ph_R h (a + 1) (Int.toNat p) := hFa.R _ _
          rw [this] at y1 y2
          rw [sI_c (by omega), rI_c (by omega)]
          exact hF2.I (by omega) k
        · have : ph_R (ph_setI (ph_rowI h2 (a + 4) (fun j => if (j : Int) < 168 then ph_I h2 (b + 4) j else ph_I h2 (a + 4) j)) a 4 (st 484)) (a + 1) (Int.toNat p) = ph_R h (a + 1) (Int.toNat p) := hFa.R _ _
          rw [this]
          exact hf p p0 p1
      · refine MR_congr (h := h1) (fun k => ?_) (hm d d0 (by omega))
        rw [sI_c (by omega), rI_c (by omega)]
        exact hF2.I (by omega) k
      · refine SR_congr (h := h2) (fun k => ?_) hsr
        rw [sI_c (by omega), rI_c (by omega)]
      · rw [sI_c (by omega), rI_eq, if_pos (by omega), hFa.I (by omega)]
        exact f5 j j0 j1
    | succ m ih =>
      intro i h1 hi hF hf hm
      have ei : Int.toNat (i : Int) = i := by omega
      have e3 : ph_T h1 a = 5 := by rw [hF.T]; exact at0
      have e4 : ph_T h1 b = 5 := by rw [hF.T]; exact wt0
      have e5 : ph_R h1 a 1 = a + 2 := by rw [hF.R]; exact ar1
      have e6 : ph_R h1 b 1 = b + 2 := by rw [hF.R]; exact wr1
      have e7 : ph_T h1 (a + 2) = 11 := by rw [hF.T]; exact at2
      have e8 : ph_T h1 (b + 2) = 11 := by rw [hF.T]; exact wt2
      have l7 : ph_L h1 (a + 2) = 4 := by rw [hF.L]; exact al2
      have l8 : ph_L h1 (b + 2) = 4 := by rw [hF.L]; exact wl2
      have ma := amt i (by omega)
      have mb := wmt i (by omega)
      have r9 : ph_R h1 (a + 2) i = a + 29 + i := by rw [hF.R]; exact ma.1
      have r19 : ph_R h1 (b + 2) i = b + 29 + i := by rw [hF.R]; exact mb.1
      have t9 : ph_T h1 (a + 29 + i) = 1 := by rw [hF.T]; exact ma.2
      have t19 : ph_T h1 (b + 29 + i) = 1 := by rw [hF.T]; exact mb.2
      refine B_X5_copyFrom_31 C (kt := fun c => by omega) (kf := fun c => ?_)
      refine B_X5_copyFrom_36 C (r2 := a + 2) (m8 := 11) (r9 := a + 29 + i) (e10 := by rw [ei]; exact r9) (r12 := b + 2) (m18 := 11) (r19 := b + 29 + i) (e20 := by rw [ei]; exact r19) (q6 := by rw [l7]; omega) (q16 := by rw [l8]; omega) (hM := ct_X1_copyFrom _ _ _ t9 t19 (by omega)) (kk := fun rr h2 hq => ?_)
      obtain ⟨rfl, hF2, hk2⟩ := hq
      refine B_X5_copyFrom_51 C (kk := ?_)
      have e10 : ((i + 1 : Nat) : Int) = (i : Int) + 1 := by omega
      have nx := ih (i + 1) h2 (by omega) (hF.tr (hF2.mono (fun c hc => by omega))) (fun p p0 p1 => by
        obtain ⟨-, j, hj, hjr⟩ := afl (Int.toNat p) (by omega)
        exact FR_congr (fun e y1 y2 k => hF2.I (by omega) k) (hf p p0 p1)) (fun d d0 d1 => by
        by_cases z : d = i
        · rw [z, ei]
          have mr : MR h1 (b + 29 + i) st i := by
            have := MR_congr (h' := h1) (fun k => hF.I (c := b + 29 + Int.toNat (i : Int)) (by omega) k) (f3 (i : Int) (by omega) (by omega))
            rw [ei] at this
            exact this
          unfold MR at *
          rw [hk2 0 (by decide), hk2 1 (by decide), hk2 2 (by decide), hk2 3 (by decide), hk2 4 (by decide)]
          exact mr
        · exact MR_congr (fun k => hF2.I (by omega) k) (hm d d0 (by omega)))
      rw [e10] at nx
      exact nx
  have lpF : ∀ (m i : Nat) (h1 : PH), i + m = 8 → Fr (fun c => a ≤ c ∧ c < a + 33) h h1 → (∀ p : Int, 0 ≤ p → p < st 484 → p < i → FR h1 (ph_R h (a + 1) (Int.toNat p)) st p) → PW G X 3 (pw_E G X (fun rr h' => rr = none ∧ Fr (fun c => a ≤ c ∧ c < a + 33) h h' ∧ WR h' a st) 0 0) 0 0 2 [some (.inr a), some (.inr b), some (.inl (i : Int))] [] h1 := by
    intro m
    induction m with
    | zero =>
      intro i h1 hi hF hf
      refine B_X5_copyFrom_2 C (kt := fun c => ?_) (kf := fun c => by omega)
      refine B_X5_copyFrom_29 C (kk := ?_)
      exact lpM 4 0 h1 (by omega) hF (fun p p0 p1 => hf p p0 p1 (by omega)) (fun d d0 d1 => by omega)
    | succ m ih =>
      intro i h1 hi hF hf
      have ei : Int.toNat (i : Int) = i := by omega
      have e3 : ph_T h1 a = 5 := by rw [hF.T]; exact at0
      have e4 : ph_T h1 b = 5 := by rw [hF.T]; exact wt0
      have e5 : ph_R h1 a 0 = a + 1 := by rw [hF.R]; exact ar0
      have e6 : ph_R h1 b 0 = b + 1 := by rw [hF.R]; exact wr0
      have e7 : ph_T h1 (a + 1) = 10 := by rw [hF.T]; exact at1
      have e8 : ph_T h1 (b + 1) = 10 := by rw [hF.T]; exact wt1
      have l7 : ph_L h1 (a + 1) = 8 := by rw [hF.L]; exact al1
      have l8 : ph_L h1 (b + 1) = 8 := by rw [hF.L]; exact wl1
      obtain ⟨afs, ja, hja, hjra⟩ := afl i (by omega)
      obtain ⟨bfs, jb, hjb, hjrb⟩ := wfl i (by omega)
      have afs1 := hF.fs afs
      have bfs1 := hF.fs bfs
      refine B_X5_copyFrom_2 C (kt := fun c => by omega) (kf := fun c => ?_)
      refine B_X5_copyFrom_8 C (r2 := a + 1) (m8 := 10) (r9 := ph_R h (a + 1) i) (e10 := by rw [ei]; exact hF.R _ _) (r12 := b + 1) (m18 := 10) (r19 := ph_R h (b + 1) i) (e20 := by rw [ei]; exact hF.R _ _) (q6 := by rw [l7]; omega) (q16 := by rw [l8]; omega) (t21 := afs1.1.1) (hM := ct_X0_copyFrom _ _ _ afs1 bfs1 (by omega)) (kk := fun rr h2 hq => ?_)
      obtain ⟨rfl, hF2, hk2, hj2⟩ := hq
      refine B_X5_copyFrom_23 C (kk := ?_)
      have e10 : ((i + 1 : Nat) : Int) = (i : Int) + 1 := by omega
      have nx := ih (i + 1) h2 (by omega) (hF.tr (hF2.mono (fun c hc => by omega))) (fun p p0 p1 p2 => by
        by_cases z : p = i
        · rw [z, ei]
          have fr : FR h1 (ph_R h (b + 1) i) st i := by
            have := FR_congr (h' := h1) (fun e y1 y2 k => hF.I (c := e) (by rw [ei] at y1 y2; omega) k) (f2 (i : Int) (by omega) (by omega))
            rw [ei] at this
            exact this
          have np := (hPp (i : Int) (by omega) (by omega)).2
          obtain ⟨⟨x1, x2, x3, x4, x5⟩, x6⟩ := fr
          refine ⟨⟨?_, ?_, ?_, ?_, ?_⟩, fun k k0 k1 => ⟨?_, ?_⟩⟩
          · rw [hk2 2 (by decide) (by decide)]; exact x1
          · rw [hk2 3 (by decide) (by decide)]; exact x2
          · rw [hk2 4 (by decide) (by decide)]; exact x3
          · rw [hk2 5 (by decide) (by decide)]; exact x4
          · rw [hk2 6 (by decide) (by decide)]; exact x5
          · rw [(hj2 _ (by omega)).1]; exact (x6 k k0 k1).1
          · rw [(hj2 _ (by omega)).2]; exact (x6 k k0 k1).2
        · obtain ⟨-, j, hj, hjr⟩ := afl (Int.toNat p) (by omega)
          have hne : j ≠ ja := fun q => by
            have := ainj (Int.toNat p) i (by omega) (by omega) (by rw [hjr, hjra, q])
            omega
          exact FR_congr (fun e y1 y2 k => hF2.I (by omega) k) (hf p p0 p1 (by omega)))
      rw [e10] at nx
      exact nx
  refine B_X5_copyFrom_0 C (kk := ?_)
  exact lpF 8 0 h (by omega) (Fr.rf _ h) (fun p p0 p1 p2 => by omega)
/-- where a flight stands behind a drop -/
def sg (p n i : Nat) : Nat := if i < p then i else if i + 1 < n then i + 1 else if i + 1 = n then p else i
theorem sg_b {p n i : Nat} (hp : p < n) (hn : n ≤ 8) (hi : i < 8) : sg p n i < 8 := by unfold sg; split <;> (try split) <;> (try split) <;> omega
theorem sg_inj {p n i j : Nat} (hp : p < n) (e : sg p n i = sg p n j) : i = j := by
  unfold sg at e
  split at e <;> split at e <;> (try split at e) <;> (try split at e) <;> (try split at e) <;> (try split at e) <;> omega
def pqRm (h : PH) (p n : Nat) : Option PV → PH → Prop := fun rr h' => rr = none ∧ h'.1 = h.1 ∧ h'.2.1 = h.2.1 ∧ h'.2.2.1 = h.2.2.1 ∧ (∀ c k, c ≠ 4 → ph_R h' c k = ph_R h c k) ∧ (∀ i, ph_R h' 4 i = ph_R h 4 (sg p n i)) ∧ ph_I h' 3 4 = (n : Int) - 1 ∧ ∀ c k, ¬ (c = 3 ∧ k = 4) → ph_I h' c k = ph_I h c k
theorem ct_X5_removeFlight (G : Gx) (l : Launch) (h : PH) (hw : WS h 3) {p n : Nat} (hn : ph_I h 3 4 = n) (n8 : n ≤ 8) (hp : p < n) : CT_X5_removeFlight G l [.inr 3, .inl (p : Int)] h (pqRm h p n) := by
  obtain ⟨⟨wt0, wt1, wt2, wt3, wt4⟩, ⟨wl1, wl2, wl4⟩, ⟨wr0, wr1, wr2, wr3⟩, wfl, winj, wmt⟩ := id hw
  have t4 : ph_T h 4 = 10 := wt1
  have l4 : ph_L h 4 = 8 := wl1
  have r30 : ph_R h 3 0 = 4 := wr0
  have wf4 : ∀ i : Nat, i < 8 → ph_T h (ph_R h 4 i) = 0 ∧ 2 ≤ ph_R h 4 i := fun i hi => by
    obtain ⟨x, j, hj, y⟩ := wfl i hi
    have y' : ph_R h 4 i = 3 + 5 + 3 * j := y
    exact ⟨x.1.1, by omega⟩
  refine ct_intro rfl (Nat.le_of_ble_eq_true rfl) (fun X hX C => ?_)
  have lp : ∀ (m i : Nat) (h1 : PH), i + m = n - 1 → p ≤ i → h1.1 = h.1 → h1.2.1 = h.2.1 → h1.2.2.1 = h.2.2.1 → (∀ c k, c ≠ 4 → ph_R h1 c k = ph_R h c k) → (∀ k, ph_R h1 4 k = if p ≤ k ∧ k < i then ph_R h 4 (k + 1) else ph_R h 4 k) → (∀ c k, ph_I h1 c k = ph_I h c k) → PW G X 4 (pw_E G X (pqRm h p n) 0 0) 0 0 9 [some (.inr 3), some (.inl (p : Int)), some (.inr (ph_R h 4 p)), some (.inl (i : Int))] [] h1 := by
    intro m
    induction m with
    | zero =>
      intro i h1 hi hpi q1 q2 q3 q4 q5 q6
      have eT : ∀ c, ph_T h1 c = ph_T h c := fun c => by unfold ph_T; rw [q2]
      have eL : ∀ c, ph_L h1 c = ph_L h c := fun c => by unfold ph_L; rw [q3]
      have e3 : ph_T h1 3 = 5 := by rw [eT]; exact wt0
      have e4 : ph_I h1 3 4 = n := by rw [q6]; exact hn
      have e5 : ph_R h1 3 0 = 4 := by rw [q4 3 0 (by decide)]; exact r30
      have e6 : ph_T h1 4 = 10 := by rw [eT]; exact t4
      have e7 : ph_L h1 4 = 8 := by rw [eL]; exact l4
      have e8 : ph_T h1 (ph_R h 4 p) = 0 := by rw [eT]; exact (wf4 p (by omega)).1
      refine B_X5_removeFlight_9 C (x2 := n) (kt := fun c => ?_) (kf := fun c => by omega)
      have ex : Int.toNat ((n : Int) - 1) = n - 1 := by omega
      refine B_X5_removeFlight_39 C (x2 := n) (r6 := 4) (x9 := (n : Int) - 1) (e10 := sI_eq) (m16 := 10) (m16v := 0) (q13 := by omega) (q14 := by show _ < (ph_L h1 4 : Int); rw [e7]; omega) (hq := ?_)
      rw [ex]
      refine ⟨rfl, q1, q2, q3, fun c k hc => ?_, fun k => ?_, ?_, fun c k hc => ?_⟩
      · rw [sR_c hc]; exact q4 c k hc
      · by_cases z : k = n - 1
        · subst z
          rw [sR_eq]
          unfold sg
          rw [if_neg (by omega), if_neg (by omega), if_pos (by omega)]
        · rw [sR_k z]
          show ph_R h1 4 k = _
          rw [q5]
          unfold sg
          by_cases z1 : k < p
          · rw [if_neg (by omega), if_pos z1]
          · by_cases z2 : k + 1 < n
            · rw [if_pos (by omega), if_neg z1, if_pos z2]
            · rw [if_neg (by omega), if_neg z1, if_neg z2, if_neg (by omega)]
      · show ph_I (ph_setI h1 3 4 ((n : Int) - 1)) 3 4 = _
        rw [sI_eq]
      · show ph_I (ph_setI h1 3 4 ((n : Int) - 1)) c k = _
        by_cases z : c = 3
        · rw [sI_k (fun y => hc ⟨z, y⟩)]; exact q6 c k
        · rw [sI_c z]; exact q6 c k
    | succ m ih =>
      intro i h1 hi hpi q1 q2 q3 q4 q5 q6
      have eT : ∀ c, ph_T h1 c = ph_T h c := fun c => by unfold ph_T; rw [q2]
      have eL : ∀ c, ph_L h1 c = ph_L h c := fun c => by unfold ph_L; rw [q3]
      have e3 : ph_T h1 3 = 5 := by rw [eT]; exact wt0
      have e4 : ph_I h1 3 4 = n := by rw [q6]; exact hn
      have e5 : ph_R h1 3 0 = 4 := by rw [q4 3 0 (by decide)]; exact r30
      have e6 : ph_T h1 4 = 10 := by rw [eT]; exact t4
      have e7 : ph_L h1 4 = 8 := by rw [eL]; exact l4
      have er : ph_R h1 4 (i + 1) = ph_R h 4 (i + 1) := by rw [q5, if_neg (by omega)]
      have e8 : ph_T h1 (ph_R h 4 (i + 1)) = 0 := by rw [eT]; exact (wf4 (i + 1) (by omega)).1
      have ei : Int.toNat (i : Int) = i := by omega
      have ei1 : Int.toNat ((i : Int) + 1) = i + 1 := by omega
      refine B_X5_removeFlight_9 C (x2 := n) (kt := fun c => by omega) (kf := fun c => ?_)
      refine B_X5_removeFlight_19 C (r2 := 4) (r5 := 4) (m11 := 10) (r12 := ph_R h 4 (i + 1)) (e13 := by rw [ei1]; exact er) (m19 := 10) (m19v := 0) (q9 := by rw [e7]; omega) (q17 := by rw [e7]; omega) (kk := ?_)
      have e10 : ((i + 1 : Nat) : Int) = (i : Int) + 1 := by omega
      rw [ei]
      have nx := ih (i + 1) (ph_setR h1 4 i (ph_R h 4 (i + 1))) (by omega) (by omega) q1 q2 q3 (fun c k hc => by rw [sR_c hc]; exact q4 c k hc) (fun k => by
        by_cases z : k = i
        · rw [z, sR_eq, if_pos (by omega)]
        · rw [sR_k z, q5]
          by_cases z1 : p ≤ k ∧ k < i
          · rw [if_pos z1, if_pos (by omega)]
          · rw [if_neg z1, if_neg (by omega)]) q6
      rw [e10] at nx
      exact nx
  have ep : Int.toNat (p : Int) = p := by omega
  refine B_X5_removeFlight_0 C (r2 := 4) (m8 := 10) (r9 := ph_R h 4 p) (e10 := by rw [ep]) (q6 := by rw [l4]; omega) (q11 := (wf4 p (by omega)).2) (kk := ?_)
  exact lp (n - 1 - p) p h (by omega) (Nat.le_refl _) rfl rfl rfl (fun _ _ _ => rfl) (fun k => by rw [if_neg (by omega)]) (fun _ _ => rfl)
