/-! constructors: cells made -/
theorem nT_o {h : PH} {t n c : Nat} (hc : c ≠ h.1 + 2) : ph_T (ph_new h t n) c = ph_T h c := if_neg hc
theorem nT_e {h : PH} {t n c : Nat} (hc : c = h.1 + 2) : ph_T (ph_new h t n) c = t := if_pos hc
theorem nL_o {h : PH} {t n c : Nat} (hc : c ≠ h.1 + 2) : ph_L (ph_new h t n) c = ph_L h c := if_neg hc
theorem nL_e {h : PH} {t n c : Nat} (hc : c = h.1 + 2) : ph_L (ph_new h t n) c = n := if_pos hc
theorem nI_o {h : PH} {t n c k : Nat} (hc : c ≠ h.1 + 2) : ph_I (ph_new h t n) c k = ph_I h c k := if_neg hc
theorem nI_e {h : PH} {t n c k : Nat} (hc : c = h.1 + 2) : ph_I (ph_new h t n) c k = 0 := if_pos hc
theorem nR_o {h : PH} {t n c k : Nat} (hc : c ≠ h.1 + 2) : ph_R (ph_new h t n) c k = ph_R h c k := if_neg hc
theorem rT {h : PH} {c k r e : Nat} : ph_T (ph_setR h c k r) e = ph_T h e := rfl
theorem iT {h : PH} {c k e : Nat} {x : Int} : ph_T (ph_setI h c k x) e = ph_T h e := rfl
theorem rL {h : PH} {c k r e : Nat} : ph_L (ph_setR h c k r) e = ph_L h e := rfl
theorem iL {h : PH} {c k e : Nat} {x : Int} : ph_L (ph_setI h c k x) e = ph_L h e := rfl
theorem rI {h : PH} {c k r e j : Nat} : ph_I (ph_setR h c k r) e j = ph_I h e j := rfl
theorem iR {h : PH} {c k e j : Nat} {x : Int} : ph_R (ph_setI h c k x) e j = ph_R h e j := rfl
/-- n cells more; of the old ones only c may have changed, not its kind -/
def GrE (c : Nat) (h h' : PH) (n : Nat) : Prop := h'.1 = h.1 + n ∧ (∀ e, e < h.1 + 2 → ph_T h' e = ph_T h e ∧ ph_L h' e = ph_L h e) ∧ ∀ e, e < h.1 + 2 → e ≠ c → (∀ k, ph_I h' e k = ph_I h e k) ∧ ∀ k, ph_R h' e k = ph_R h e k
theorem GrE.rf (c : Nat) (h : PH) : GrE c h h 0 := ⟨rfl, fun _ _ => ⟨rfl, rfl⟩, fun _ _ _ => ⟨fun _ => rfl, fun _ => rfl⟩⟩
theorem GrE.new {c : Nat} {h h' : PH} {n : Nat} (x : GrE c h h' n) (t m : Nat) : GrE c h (ph_new h' t m) (n + 1) := by
  obtain ⟨x1, x2, x3⟩ := x
  refine ⟨by show h'.1 + 1 = _; omega, fun e he => ⟨?_, ?_⟩, fun e he hc => ⟨fun k => ?_, fun k => ?_⟩⟩
  · rw [nT_o (by omega)]; exact (x2 e he).1
  · rw [nL_o (by omega)]; exact (x2 e he).2
  · rw [nI_o (by omega)]; exact (x3 e he hc).1 k
  · rw [nR_o (by omega)]; exact (x3 e he hc).2 k
theorem GrE.setI {c : Nat} {h h' : PH} {n : Nat} (x : GrE c h h' n) {e : Nat} (he : e = c ∨ h.1 + 2 ≤ e) (k : Nat) (v : Int) : GrE c h (ph_setI h' e k v) n := by
  obtain ⟨x1, x2, x3⟩ := x
  refine ⟨x1, x2, fun f hf hc => ⟨fun j => ?_, (x3 f hf hc).2⟩⟩
  rw [sI_c (by omega)]; exact (x3 f hf hc).1 j
theorem GrE.setR {c : Nat} {h h' : PH} {n : Nat} (x : GrE c h h' n) {e : Nat} (he : e = c ∨ h.1 + 2 ≤ e) (k r : Nat) : GrE c h (ph_setR h' e k r) n := by
  obtain ⟨x1, x2, x3⟩ := x
  refine ⟨x1, x2, fun f hf hc => ⟨(x3 f hf hc).1, fun j => ?_⟩⟩
  rw [sR_c (by omega)]; exact (x3 f hf hc).2 j
theorem GrE.tr {c c2 : Nat} {h h1 h' : PH} {n m : Nat} (x : GrE c h h1 n) (y : GrE c2 h1 h' m) (hc : c2 = c ∨ h.1 + 2 ≤ c2) : GrE c h h' (n + m) := by
  obtain ⟨x1, x2, x3⟩ := x
  obtain ⟨y1, y2, y3⟩ := y
  refine ⟨by omega, fun e he => ⟨?_, ?_⟩, fun e he hne => ⟨fun k => ?_, fun k => ?_⟩⟩
  · rw [(y2 e (by omega)).1]; exact (x2 e he).1
  · rw [(y2 e (by omega)).2]; exact (x2 e he).2
  · rw [(y3 e (by omega) (by omega)).1]; exact (x3 e he hne).1 k
  · rw [(y3 e (by omega) (by omega)).2]; exact (x3 e he hne).2 k
theorem FS_loc {h h' : PH} {c : Nat} (hq : ∀ e, c ≤ e → e ≤ c + 2 → (ph_T h' e = ph_T h e ∧ ph_L h' e = ph_L h e) ∧ ∀ k, ph_R h' e k = ph_R h e k) (f : FS h c) : FS h' c := by
  have q0 := hq c (by omega) (by omega)
  have q1 := hq (c + 1) (by omega) (by omega)
  have q2 := hq (c + 2) (by omega) (by omega)
  unfold FS at *
  rw [q0.1.1, q1.1.1, q2.1.1, q1.1.2, q2.1.2, q0.2, q0.2]
  exact f
theorem YS_loc {h h' : PH} {c : Nat} (hq : ∀ e, c ≤ e → e ≤ c + 5 → (ph_T h' e = ph_T h e ∧ ph_L h' e = ph_L h e) ∧ ∀ k, ph_R h' e k = ph_R h e k) (f : YS h c) : YS h' c := by
  have q0 := hq c (by omega) (by omega)
  have q1 := hq (c + 1) (by omega) (by omega)
  have q2 := hq (c + 2) (by omega) (by omega)
  have q3 := hq (c + 3) (by omega) (by omega)
  have q4 := hq (c + 4) (by omega) (by omega)
  have q5 := hq (c + 5) (by omega) (by omega)
  unfold YS at *
  rw [q0.1.1, q1.1.1, q2.1.1, q3.1.1, q4.1.1, q5.1.1, q1.1.2, q2.1.2, q3.1.2, q4.1.2, q5.1.2, q0.2, q0.2, q0.2, q0.2, q0.2]
  exact f
theorem WS_loc {h h' : PH} {b : Nat} (hq : ∀ e, b ≤ e → e < b + 33 → (ph_T h' e = ph_T h e ∧ ph_L h' e = ph_L h e) ∧ ∀ k, ph_R h' e k = ph_R h e k) (f : WS h b) : WS h' b := by
  obtain ⟨f1, f2, f3, f4, f5, f6⟩ := f
  have q0 := hq b (by omega) (by omega)
  have q1 := hq (b + 1) (by omega) (by omega)
  have q2 := hq (b + 2) (by omega) (by omega)
  have q3 := hq (b + 3) (by omega) (by omega)
  have q4 := hq (b + 4) (by omega) (by omega)
  refine ⟨by rw [q0.1.1, q1.1.1, q2.1.1, q3.1.1, q4.1.1]; exact f1, by rw [q1.1.2, q2.1.2, q4.1.2]; exact f2, by rw [q0.2, q0.2, q0.2, q0.2]; exact f3, fun i hi => ?_, fun i j hi hj e => ?_, fun d hd => ?_⟩
  · obtain ⟨g1, j, hj, g2⟩ := f4 i hi
    rw [q1.2]
    exact ⟨FS_loc (fun e e0 e1 => hq e (by omega) (by omega)) g1, j, hj, g2⟩
  · rw [q1.2, q1.2] at e
    exact f5 i j hi hj e
  · rw [q2.2, (hq (b + 29 + d) (by omega) (by omega)).1.1]
    exact f6 d hd
def iniS (j : Nat) : Int := if 300 ≤ j ∧ j < 304 then 6 else if 308 ≤ j ∧ j < 312 then 24 else if 312 ≤ j ∧ j < 316 then 1 else if j = 486 then 10 else if j = 487 then 3 else if j = 488 then -1 else if j = 489 then -6 else if j = 490 then -6 else if j = 491 then 5 else 0
theorem ct_X0_init (G : Gx) (l : Launch) (h : PH) {c : Nat} (hc : c = h.1 + 1) (c2 : 2 ≤ c) (tc : ph_T h c = 0) : CT_X0_init G l [.inr c] h (fun rr h' => rr = none ∧ GrE c h h' 2 ∧ FS h' c ∧ (ph_I h' c 2 = -6 ∧ ph_I h' c 3 = 0 ∧ ph_I h' c 4 = 0 ∧ ph_I h' c 5 = -6 ∧ ph_I h' c 6 = -6)) := by
  refine ct_intro rfl (Nat.le_of_ble_eq_true rfl) (fun X hX C => ?_)
  refine B_X0_init_0 C (hk2 := by omega) (hn3 := by omega) (S := []) (kk := ?_)
  refine B_X0_init_9 C (hk2 := by omega) (hn3 := by omega) (t1 := by rw [nT_o (by omega)]; exact tc) (kk := ?_)
  have T0 : ph_T (ph_new (ph_setR (ph_new h 8 16) c 0 (h.1 + 2)) 8 16) c = 0 := by rw [nT_o (by show c ≠ h.1 + 1 + 2; omega), rT, nT_o (by omega)]; exact tc
  refine B_X0_init_17 C (t1 := T0) (t2 := T0) (t3 := T0) (t4 := T0) (t5 := T0) (t6 := T0) (hq := ?_)
  refine ⟨rfl, ?_, ?_, ?_, ?_, ?_, ?_, ?_⟩
  · exact (((((((((GrE.rf c h).new 8 16).setR (Or.inl rfl) _ _).new 8 16).setR (Or.inl rfl) _ _).setI (Or.inl rfl) _ _).setI (Or.inl rfl) _ _).setI (Or.inl rfl) _ _).setI (Or.inl rfl) _ _).setI (Or.inl rfl) _ _
  · unfold FS
    simp only [iT, rT, iL, rL]
    refine ⟨⟨T0, ?_, ?_⟩, ⟨?_, ?_⟩, ?_, ?_⟩
    · show ph_T (ph_new (ph_setR (ph_new h 8 16) c 0 (h.1 + 2)) 8 16) (c + 1) = 8
      rw [nT_o (by show c + 1 ≠ h.1 + 1 + 2; omega), rT, nT_e (by omega)]
    · show ph_T (ph_new (ph_setR (ph_new h 8 16) c 0 (h.1 + 2)) 8 16) (c + 2) = 8
      rw [nT_e (by show c + 2 = h.1 + 1 + 2; omega)]
    · show ph_L (ph_new (ph_setR (ph_new h 8 16) c 0 (h.1 + 2)) 8 16) (c + 1) = 16
      rw [nL_o (by show c + 1 ≠ h.1 + 1 + 2; omega), rL, nL_e (by omega)]
    · show ph_L (ph_new (ph_setR (ph_new h 8 16) c 0 (h.1 + 2)) 8 16) (c + 2) = 16
      rw [nL_e (by show c + 2 = h.1 + 1 + 2; omega)]
    · rw [iR, iR, iR, iR, iR, sR_k (by decide), nR_o (by show c ≠ h.1 + 1 + 2; omega), sR_eq]
      show h.1 + 2 = c + 1
      omega
    · rw [iR, iR, iR, iR, iR, sR_eq]
      show h.1 + 1 + 2 = c + 2
      omega
  · rw [sI_k (by decide), sI_k (by decide), sI_k (by decide), sI_k (by decide), sI_eq]
  · rw [sI_k (by decide), sI_k (by decide), sI_k (by decide), sI_eq]
  · rw [sI_k (by decide), sI_k (by decide), sI_eq]
  · rw [sI_k (by decide), sI_eq]
  · rw [sI_eq]
theorem ct_X1_init (G : Gx) (l : Launch) (h : PH) {c : Nat} (c2 : 2 ≤ c) (tc : ph_T h c = 1) : CT_X1_init G l [.inr c] h (fun rr h' => rr = none ∧ GrE c h h' 0 ∧ (ph_I h' c 0 = 0 ∧ ph_I h' c 1 = 6 ∧ ph_I h' c 2 = 0 ∧ ph_I h' c 3 = 24 ∧ ph_I h' c 4 = 1) ∧ ∀ k, ph_R h' c k = ph_R h c k) := by
  refine ct_intro rfl (Nat.le_of_ble_eq_true rfl) (fun X hX C => ?_)
  refine B_X1_init_0 C (hq := ⟨rfl, (((((GrE.rf c h).setI (Or.inl rfl) _ _).setI (Or.inl rfl) _ _).setI (Or.inl rfl) _ _).setI (Or.inl rfl) _ _).setI (Or.inl rfl) _ _, ⟨?_, ?_, ?_, ?_, ?_⟩, fun k => rfl⟩)
  · rw [sI_k (by decide), sI_k (by decide), sI_k (by decide), sI_k (by decide), sI_eq]
  · rw [sI_k (by decide), sI_k (by decide), sI_k (by decide), sI_eq]
  · rw [sI_k (by decide), sI_k (by decide), sI_eq]
  · rw [sI_k (by decide), sI_eq]
  · rw [sI_eq]
theorem ct_X3_init (G : Gx) (l : Launch) (h : PH) {c : Nat} (c2 : 2 ≤ c) (tc : ph_T h c = 3) : CT_X3_init G l [.inr c] h (fun rr h' => rr = none ∧ GrE c h h' 0 ∧ (ph_I h' c 0 = 0 ∧ ph_I h' c 1 = 10 ∧ ph_I h' c 2 = 3 ∧ ph_I h' c 3 = -1 ∧ ph_I h' c 4 = 1 ∧ ph_I h' c 5 = 0 ∧ ph_I h' c 6 = 5) ∧ ∀ k, ph_R h' c k = ph_R h c k) := by
  refine ct_intro rfl (Nat.le_of_ble_eq_true rfl) (fun X hX C => ?_)
  refine B_X3_init_0 C (hq := ⟨rfl, (((((((GrE.rf c h).setI (Or.inl rfl) _ _).setI (Or.inl rfl) _ _).setI (Or.inl rfl) _ _).setI (Or.inl rfl) _ _).setI (Or.inl rfl) _ _).setI (Or.inl rfl) _ _).setI (Or.inl rfl) _ _, ⟨?_, ?_, ?_, ?_, ?_, ?_, ?_⟩, fun k => rfl⟩)
  · rw [sI_k (by decide), sI_k (by decide), sI_k (by decide), sI_k (by decide), sI_k (by decide), sI_k (by decide), sI_eq]
  · rw [sI_k (by decide), sI_k (by decide), sI_k (by decide), sI_k (by decide), sI_k (by decide), sI_eq]
  · rw [sI_k (by decide), sI_k (by decide), sI_k (by decide), sI_k (by decide), sI_eq]
  · rw [sI_k (by decide), sI_k (by decide), sI_k (by decide), sI_eq]
  · rw [sI_k (by decide), sI_k (by decide), sI_eq]
  · rw [sI_k (by decide), sI_eq]
  · rw [sI_eq]
/-- a reference set in c, a cell made behind it -/
theorem sn_T {h : PH} {c k r t m e : Nat} (he : e ≠ h.1 + 2) : ph_T (ph_new (ph_setR h c k r) t m) e = ph_T h e := nT_o he
theorem sn_L {h : PH} {c k r t m e : Nat} (he : e ≠ h.1 + 2) : ph_L (ph_new (ph_setR h c k r) t m) e = ph_L h e := nL_o he
theorem ct_X4_init (G : Gx) (l : Launch) (h : PH) {c : Nat} (hc : c = h.1 + 1) (c2 : 2 ≤ c) (tc : ph_T h c = 4) : CT_X4_init G l [.inr c] h (fun rr h' => rr = none ∧ GrE c h h' 5 ∧ YS h' c ∧ (ph_I h' c 5 = -6 ∧ ph_I h' c 7 = 0)) := by
  refine ct_intro rfl (Nat.le_of_ble_eq_true rfl) (fun X hX C => ?_)
  refine B_X4_init_0 C (hk2 := by omega) (hn3 := by omega) (S := []) (kk := ?_)
  have A1 : ∃ h1, h1 = ph_new h 8 76 := ⟨_, rfl⟩
  obtain ⟨h1, e1⟩ := A1
  rw [← e1]
  have s1 : h1.1 = h.1 + 1 := by rw [e1]; rfl
  have g1 : GrE c h h1 1 := by rw [e1]; exact (GrE.rf c h).new 8 76
  have T1 : ph_T h1 (c + 1) = 8 := by rw [e1, nT_e (by omega)]
  have L1 : ph_L h1 (c + 1) = 76 := by rw [e1, nL_e (by omega)]
  have t1 : ph_T h1 c = 4 := by rw [(g1.2.1 c (by omega)).1]; exact tc
  clear e1
  refine B_X4_init_9 C (hk2 := by omega) (hn3 := by omega) (t1 := t1) (kk := ?_)
  have A2 : ∃ h2, h2 = ph_new (ph_setR h1 c 0 (ph_S h + 2)) 8 76 := ⟨_, rfl⟩
  obtain ⟨h2, e2⟩ := A2
  rw [← e2]
  have s2 : h2.1 = h.1 + 2 := by rw [e2]; show h1.1 + 1 = _; omega
  have g2 : GrE c h h2 2 := by rw [e2]; exact (g1.setR (Or.inl rfl) _ _).new 8 76
  have T2 : ph_T h2 (c + 2) = 8 := by rw [e2, nT_e (by show c + 2 = h1.1 + 2; omega)]
  have L2 : ph_L h2 (c + 2) = 76 := by rw [e2, nL_e (by show c + 2 = h1.1 + 2; omega)]
  have T21 : ph_T h2 (c + 1) = 8 ∧ ph_L h2 (c + 1) = 76 := by rw [e2, sn_T (by omega), sn_L (by omega)]; exact ⟨T1, L1⟩
  have R2 : ph_R h2 c 0 = c + 1 := by rw [e2, nR_o (by show c ≠ h1.1 + 2; omega), sR_eq]; show h.1 + 2 = _; omega
  have t2 : ph_T h2 c = 4 := by rw [(g2.2.1 c (by omega)).1]; exact tc
  have S2' : ph_S (ph_setR h1 c 0 (ph_S h + 2)) = h.1 + 1 := s1
  rw [S2']
  clear e2 S2'
  refine B_X4_init_17 C (hk2 := by omega) (hn3 := by omega) (t1 := t2) (kk := ?_)
  have A3 : ∃ h3, h3 = ph_new (ph_setR h2 c 1 (h.1 + 1 + 2)) 9 76 := ⟨_, rfl⟩
  obtain ⟨h3, e3⟩ := A3
  rw [← e3]
  have s3 : h3.1 = h.1 + 3 := by rw [e3]; show h2.1 + 1 = _; omega
  have g3 : GrE c h h3 3 := by rw [e3]; exact (g2.setR (Or.inl rfl) _ _).new 9 76
  have T3 : ph_T h3 (c + 3) = 9 := by rw [e3, nT_e (by show c + 3 = h2.1 + 2; omega)]
  have L3 : ph_L h3 (c + 3) = 76 := by rw [e3, nL_e (by show c + 3 = h2.1 + 2; omega)]
  have T31 : ph_T h3 (c + 1) = 8 ∧ ph_L h3 (c + 1) = 76 := by rw [e3, sn_T (by omega), sn_L (by omega)]; exact T21
  have T32 : ph_T h3 (c + 2) = 8 ∧ ph_L h3 (c + 2) = 76 := by rw [e3, sn_T (by omega), sn_L (by omega)]; exact ⟨T2, L2⟩
  have R30 : ph_R h3 c 0 = c + 1 := by rw [e3, nR_o (by show c ≠ h2.1 + 2; omega), sR_k (by decide)]; exact R2
  have R31 : ph_R h3 c 1 = c + 2 := by rw [e3, nR_o (by show c ≠ h2.1 + 2; omega), sR_eq]; omega
  have t3 : ph_T h3 c = 4 := by rw [(g3.2.1 c (by omega)).1]; exact tc
  have S3' : ph_S (ph_setR h2 c 1 (h.1 + 1 + 2)) = h.1 + 2 := s2
  rw [S3']
  clear e3 S3'
  refine B_X4_init_25 C (hk2 := by omega) (hn3 := by omega) (t1 := t3) (kk := ?_)
  have A4 : ∃ h4, h4 = ph_new (ph_setR h3 c 2 (h.1 + 2 + 2)) 8 17 := ⟨_, rfl⟩
  obtain ⟨h4, e4⟩ := A4
  rw [← e4]
  have s4 : h4.1 = h.1 + 4 := by rw [e4]; show h3.1 + 1 = _; omega
  have g4 : GrE c h h4 4 := by rw [e4]; exact (g3.setR (Or.inl rfl) _ _).new 8 17
  have T4 : ph_T h4 (c + 4) = 8 := by rw [e4, nT_e (by show c + 4 = h3.1 + 2; omega)]
  have L4 : ph_L h4 (c + 4) = 17 := by rw [e4, nL_e (by show c + 4 = h3.1 + 2; omega)]
  have T41 : ph_T h4 (c + 1) = 8 ∧ ph_L h4 (c + 1) = 76 := by rw [e4, sn_T (by omega), sn_L (by omega)]; exact T31
  have T42 : ph_T h4 (c + 2) = 8 ∧ ph_L h4 (c + 2) = 76 := by rw [e4, sn_T (by omega), sn_L (by omega)]; exact T32
  have T43 : ph_T h4 (c + 3) = 9 ∧ ph_L h4 (c + 3) = 76 := by rw [e4, sn_T (by omega), sn_L (by omega)]; exact ⟨T3, L3⟩
  have R40 : ph_R h4 c 0 = c + 1 := by rw [e4, nR_o (by show c ≠ h3.1 + 2; omega), sR_k (by decide)]; exact R30
  have R41 : ph_R h4 c 1 = c + 2 := by rw [e4, nR_o (by show c ≠ h3.1 + 2; omega), sR_k (by decide)]; exact R31
  have R42 : ph_R h4 c 2 = c + 3 := by rw [e4, nR_o (by show c ≠ h3.1 + 2; omega), sR_eq]; omega
  have t4 : ph_T h4 c = 4 := by rw [(g4.2.1 c (by omega)).1]; exact tc
  have S4' : ph_S (ph_setR h3 c 2 (h.1 + 2 + 2)) = h.1 + 3 := s3
  rw [S4']
  clear e4 S4'
  refine B_X4_init_33 C (hk2 := by omega) (hn3 := by omega) (t1 := t4) (kk := ?_)
  have A5 : ∃ h5, h5 = ph_new (ph_setR h4 c 3 (h.1 + 3 + 2)) 8 17 := ⟨_, rfl⟩
  obtain ⟨h5, e5⟩ := A5
  rw [← e5]
  have s5 : h5.1 = h.1 + 5 := by rw [e5]; show h4.1 + 1 = _; omega
  have g5 : GrE c h h5 5 := by rw [e5]; exact (g4.setR (Or.inl rfl) _ _).new 8 17
  have T5 : ph_T h5 (c + 5) = 8 := by rw [e5, nT_e (by show c + 5 = h4.1 + 2; omega)]
  have L5 : ph_L h5 (c + 5) = 17 := by rw [e5, nL_e (by show c + 5 = h4.1 + 2; omega)]
  have T51 : ph_T h5 (c + 1) = 8 ∧ ph_L h5 (c + 1) = 76 := by rw [e5, sn_T (by omega), sn_L (by omega)]; exact T41
  have T52 : ph_T h5 (c + 2) = 8 ∧ ph_L h5 (c + 2) = 76 := by rw [e5, sn_T (by omega), sn_L (by omega)]; exact T42
  have T53 : ph_T h5 (c + 3) = 9 ∧ ph_L h5 (c + 3) = 76 := by rw [e5, sn_T (by omega), sn_L (by omega)]; exact T43
  have T54 : ph_T h5 (c + 4) = 8 ∧ ph_L h5 (c + 4) = 17 := by rw [e5, sn_T (by omega), sn_L (by omega)]; exact ⟨T4, L4⟩
  have R50 : ph_R h5 c 0 = c + 1 := by rw [e5, nR_o (by show c ≠ h4.1 + 2; omega), sR_k (by decide)]; exact R40
  have R51 : ph_R h5 c 1 = c + 2 := by rw [e5, nR_o (by show c ≠ h4.1 + 2; omega), sR_k (by decide)]; exact R41
  have R52 : ph_R h5 c 2 = c + 3 := by rw [e5, nR_o (by show c ≠ h4.1 + 2; omega), sR_k (by decide)]; exact R42
  have R53 : ph_R h5 c 3 = c + 4 := by rw [e5, nR_o (by show c ≠ h4.1 + 2; omega), sR_eq]; omega
  have t5 : ph_T h5 c = 4 := by rw [(g5.2.1 c (by omega)).1]; exact tc
  have S5' : ph_S (ph_setR h4 c 3 (h.1 + 3 + 2)) = h.1 + 4 := s4
  rw [S5']
  clear e5 S5'
  refine B_X4_init_41 C (t1 := t5) (t2 := t5) (t3 := t5) (t5 := t5) (t7 := t5) (t8 := t5) (t9 := t5) (t10 := t5) (t11 := t5) (t12 := t5) (hq := ?_)
  refine ⟨rfl, (((((((((g5.setR (Or.inl rfl) _ _).setI (Or.inl rfl) _ _).setI (Or.inl rfl) _ _).setI (Or.inl rfl) _ _).setI (Or.inl rfl) _ _).setI (Or.inl rfl) _ _).setI (Or.inl rfl) _ _).setI (Or.inl rfl) _ _).setI (Or.inl rfl) _ _).setI (Or.inl rfl) _ _, ⟨by simp only [iT, rT]; exact ⟨t5, T51.1, T52.1, T53.1, T54.1, T5⟩, by simp only [iL, rL]; exact ⟨T51.2, T52.2, T53.2, T54.2, L5⟩, ?_, ?_, ?_, ?_, ?_⟩, ?_, ?_⟩
  · rw [iR, iR, iR, iR, iR, iR, iR, iR, iR, sR_k (by decide)]; exact R50
  · rw [iR, iR, iR, iR, iR, iR, iR, iR, iR, sR_k (by decide)]; exact R51
  · rw [iR, iR, iR, iR, iR, iR, iR, iR, iR, sR_k (by decide)]; exact R52
  · rw [iR, iR, iR, iR, iR, iR, iR, iR, iR, sR_k (by decide)]; exact R53
  · rw [iR, iR, iR, iR, iR, iR, iR, iR, iR, sR_eq]; omega
  · rw [sI_k (by decide), sI_k (by decide), sI_k (by decide), sI_k (by decide), sI_k (by decide), sI_k (by decide), sI_k (by decide), sI_k (by decide), sI_eq]
  · rw [sI_k (by decide), sI_k (by decide), sI_k (by decide), sI_k (by decide), sI_k (by decide), sI_k (by decide), sI_eq]
