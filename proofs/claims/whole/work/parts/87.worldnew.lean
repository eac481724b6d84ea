/-! constructors: a world, the search -/
/-- a world half made: its first five cells, and i flights -/
def WHm (h h1 : PH) (c i : Nat) : Prop := GrE c h h1 (4 + 3 * i) ∧ (ph_T h1 (c + 1) = 10 ∧ ph_T h1 (c + 2) = 11 ∧ ph_T h1 (c + 3) = 3 ∧ ph_T h1 (c + 4) = 8) ∧ (ph_L h1 (c + 1) = 8 ∧ ph_L h1 (c + 2) = 4 ∧ ph_L h1 (c + 4) = 168) ∧ (ph_R h1 c 0 = c + 1 ∧ ph_R h1 c 1 = c + 2 ∧ ph_R h1 c 2 = c + 3 ∧ ph_R h1 c 3 = c + 4) ∧ ph_I h1 c 4 = 0 ∧ (ph_I h1 (c + 3) 0 = 0 ∧ ph_I h1 (c + 3) 1 = 10 ∧ ph_I h1 (c + 3) 2 = 3 ∧ ph_I h1 (c + 3) 3 = -1 ∧ ph_I h1 (c + 3) 4 = 1 ∧ ph_I h1 (c + 3) 5 = 0 ∧ ph_I h1 (c + 3) 6 = 5) ∧ (∀ k, ph_I h1 (c + 4) k = 0) ∧ ∀ j : Nat, j < i → ph_R h1 (c + 1) j = c + 5 + 3 * j ∧ FS h1 (c + 5 + 3 * j)
/-- what is kept, when cells behind are made and those of f written -/
theorem WHm_keep {h h1 h2 : PH} {c i m : Nat} (hc : c = h.1 + 1) (x : WHm h h1 c i) (f : Nat) (g : GrE f h1 h2 m) (hf : c + 5 + 3 * i ≤ f) : (∀ e, e < c + 5 + 3 * i → ph_T h2 e = ph_T h1 e ∧ ph_L h2 e = ph_L h1 e ∧ (∀ k, ph_I h2 e k = ph_I h1 e k) ∧ ∀ k, ph_R h2 e k = ph_R h1 e k) := by
  intro e he
  have s1 := x.1.1
  exact ⟨(g.2.1 e (by omega)).1, (g.2.1 e (by omega)).2, (g.2.2 e (by omega) (by omega)).1, (g.2.2 e (by omega) (by omega)).2⟩
set_option maxHeartbeats 4000000 in
theorem lp_X5_M {G : Gx} {X : Cx} {h : PH} {c : Nat} (C : CX_X5_init G X) (hc : c = h.1 + 1) (c2 : 2 ≤ c) (tc : ph_T h c = 5) {h0 : PH} (hw0 : WHm h h0 c 8) : ∀ (m i : Nat) (h1 : PH) (k n : Nat), i + m = 4 → k = 28 + i → n = 499 + 5 * i → (h1.1 = h.1 + 28 + i) → (∀ e, e < h.1 + 2 → e ≠ c → ph_T h1 e = ph_T h e ∧ ph_L h1 e = ph_L h e ∧ (∀ k, ph_I h1 e k = ph_I h e k) ∧ ∀ k, ph_R h1 e k = ph_R h e k) → (ph_T h1 c = 5 ∧ ph_L h1 c = ph_L h c) → (∀ e, e < c + 29 → ph_T h1 e = ph_T h0 e ∧ ph_L h1 e = ph_L h0 e ∧ (∀ k, ph_I h1 e k = ph_I h0 e k) ∧ (e ≠ c + 2 → ∀ k, ph_R h1 e k = ph_R h0 e k)) → (∀ d : Nat, d < i → ph_R h1 (c + 2) d = c + 29 + d ∧ ph_T h1 (c + 29 + d) = 1 ∧ (ph_I h1 (c + 29 + d) 0 = 0 ∧ ph_I h1 (c + 29 + d) 1 = 6 ∧ ph_I h1 (c + 29 + d) 2 = 0 ∧ ph_I h1 (c + 29 + d) 3 = 24 ∧ ph_I h1 (c + 29 + d) 4 = 1)) → PW G X 2 (pw_E G X (fun rr h' => rr = none ∧ GrE c h h' 32 ∧ WS h' c ∧ WR h' c iniS) 32 519) k n 75 [some (.inr c), some (.inl (i : Int))] [] h1 := by
  obtain ⟨g0, ⟨w1, w2, w3, w4⟩, ⟨l1, l2, l4⟩, ⟨r0, r1, r2, r3⟩, i4, isk, ilk, ifl⟩ := hw0
  intro m
  induction m with
  | zero =>
    intro i h1 k n hi hk hn s1 old oc same hmt
    have e4 : i = 4 := by omega
    subst e4
    subst hk
    subst hn
    refine B_X5_init_75 C (kt := fun c1 => ?_) (kf := fun c1 => by omega)
    have q1 := same (c + 1) (by omega)
    have q2 := same (c + 2) (by omega)
    have q3 := same (c + 3) (by omega)
    have q4 := same (c + 4) (by omega)
    have qc := same c (by omega)
    have h1s : ph_I h1 c 4 = 0 := by rw [qc.2.2.1]; exact i4
    refine B_X5_init_99 C (hq := ⟨rfl, ⟨by omega, fun e he => ?_, fun e he hne => ⟨(old e he hne).2.2.1, (old e he hne).2.2.2⟩⟩, ?_, ?_⟩)
    · by_cases z : e = c
      · rw [z]; exact ⟨oc.1.trans tc.symm, oc.2⟩
      · exact ⟨(old e he z).1, (old e he z).2.1⟩
    · refine ⟨⟨oc.1, by rw [q1.1]; exact w1, by rw [q2.1]; exact w2, by rw [q3.1]; exact w3, by rw [q4.1]; exact w4⟩, ⟨by rw [q1.2.1]; exact l1, by rw [q2.2.1]; exact l2, by rw [q4.2.1]; exact l4⟩, ⟨by rw [qc.2.2.2 (by omega)]; exact r0, by rw [qc.2.2.2 (by omega)]; exact r1, by rw [qc.2.2.2 (by omega)]; exact r2, by rw [qc.2.2.2 (by omega)]; exact r3⟩, fun j hj => ?_, fun a b ha hb e => ?_, fun d hd => ⟨(hmt d hd).1, (hmt d hd).2.1⟩⟩
      · rw [q1.2.2.2 (by omega), (ifl j hj).1]
        exact ⟨FS_loc (fun e e0 e1 => ⟨⟨(same e (by omega)).1, (same e (by omega)).2.1⟩, (same e (by omega)).2.2.2 (by omega)⟩) (ifl j hj).2, j, hj, rfl⟩
      · rw [q1.2.2.2 (by omega), q1.2.2.2 (by omega), (ifl a ha).1, (ifl b hb).1] at e
        omega
    · refine ⟨h1s, fun p p0 p1 => by have : iniS 484 = 0 := rfl; omega, fun d d0 d1 => ?_, ?_, fun j j0 j1 => ?_⟩
      · obtain ⟨-, -, m0, m1, m2, m3, m4⟩ := hmt (Int.toNat d) (by omega)
        unfold MR
        rw [m0, m1, m2, m3, m4]
        refine ⟨?_, ?_, ?_, ?_, ?_⟩
        · unfold iniS; rw [if_neg (by omega), if_neg (by omega), if_neg (by omega), if_neg (by omega), if_neg (by omega), if_neg (by omega), if_neg (by omega), if_neg (by omega), if_neg (by omega)]
        · unfold iniS; rw [if_pos (by omega)]
        · unfold iniS; rw [if_neg (by omega), if_neg (by omega), if_neg (by omega), if_neg (by omega), if_neg (by omega), if_neg (by omega), if_neg (by omega), if_neg (by omega), if_neg (by omega)]
        · unfold iniS; rw [if_neg (by omega), if_pos (by omega)]
        · unfold iniS; rw [if_neg (by omega), if_neg (by omega), if_pos (by omega)]
      · obtain ⟨k0, k1, k2, k3, k4, k5, k6⟩ := isk
        unfold SR
        rw [q3.2.2.1, q3.2.2.1, q3.2.2.1, q3.2.2.1, q3.2.2.1, q3.2.2.1, q3.2.2.1, k0, k1, k2, k3, k4, k5, k6]
        exact ⟨⟨rfl, rfl, rfl, rfl, rfl⟩, by decide, Or.inr ⟨by decide, rfl, rfl⟩⟩
      · rw [q4.2.2.1, ilk]
        unfold iniS; rw [if_neg (by omega), if_neg (by omega), if_neg (by omega), if_neg (by omega), if_neg (by omega), if_neg (by omega), if_neg (by omega), if_neg (by omega), if_neg (by omega)]
  | succ m ih =>
    intro i h1 k n hi hk hn s1 old oc same hmt
    have ei : Int.toNat (i : Int) = i := by omega
    have t2 : ph_T h1 (c + 2) = 11 := by rw [(same (c + 2) (by omega)).1]; exact w2
    have l2' : ph_L h1 (c + 2) = 4 := by rw [(same (c + 2) (by omega)).2.1]; exact l2
    have rc1 : ph_R h1 c 1 = c + 2 := by rw [(same c (by omega)).2.2.2 (by omega)]; exact r1
    have tc1 := oc.1
    refine B_X5_init_75 C (kt := fun c1 => by omega) (kf := fun c1 => ?_)
    refine B_X5_init_80 C (hk4 := by omega) (hn5 := by omega) (r2 := c + 2) (kk := ?_)
    have es : ph_S h1 + 2 = c + 29 + i := by show h1.1 + 2 = _; omega
    rw [es]
    have A1 : ∃ ha, ha = ph_new h1 1 5 := ⟨_, rfl⟩
    obtain ⟨ha, ea⟩ := A1
    rw [← ea]
    have ga : GrE c h1 ha 1 := by rw [ea]; exact (GrE.rf c h1).new 1 5
    have ta : ph_T ha (c + 29 + i) = 1 := by rw [ea, nT_e (by omega)]
    have na : ∀ e, e < c + 29 + i → ph_T ha e = ph_T h1 e ∧ ph_L ha e = ph_L h1 e ∧ (∀ k, ph_I ha e k = ph_I h1 e k) ∧ ∀ k, ph_R ha e k = ph_R h1 e k := fun e he => by rw [ea]; exact ⟨nT_o (by omega), nL_o (by omega), fun k => nI_o (by omega), fun k => nR_o (by omega)⟩
    have sa : ha.1 = h1.1 + 1 := by rw [ea]; rfl
    clear ea
    refine B_X5_init_88 C (hk0 := by omega) (hn0 := by omega) (hM := ct_X1_init _ _ ha (c := c + 29 + i) (by omega) ta) (kk := fun rr hb hq => ?_)
    obtain ⟨rfl, gb, ib, rb⟩ := hq
    have sb : hb.1 = h1.1 + 1 := by rw [gb.1, sa]
    have nb : ∀ e, e < c + 29 + i → ph_T hb e = ph_T h1 e ∧ ph_L hb e = ph_L h1 e ∧ (∀ k, ph_I hb e k = ph_I h1 e k) ∧ ∀ k, ph_R hb e k = ph_R h1 e k := fun e he => by
      have x := gb.2.1 e (by omega)
      have y := gb.2.2 e (by omega) (by omega)
      have z := na e he
      exact ⟨x.1.trans z.1, x.2.trans z.2.1, fun k => (y.1 k).trans (z.2.2.1 k), fun k => (y.2 k).trans (z.2.2.2 k)⟩
    have tb : ph_T hb (c + 29 + i) = 1 := by rw [(gb.2.1 _ (by omega)).1]; exact ta
    have tb2 : ph_T hb (c + 2) = 11 := by rw [(nb _ (by omega)).1]; exact t2
    have lb2 : ph_L hb (c + 2) = 4 := by rw [(nb _ (by omega)).2.1]; exact l2'
    refine B_X5_init_92 C (m6 := 11) (m6v := 1) (q4 := by rw [lb2]; omega) (kk := ?_)
    rw [ei]
    have e1 : ((i + 1 : Nat) : Int) = (i : Int) + 1 := by omega
    have nx := ih (i + 1) (ph_setR hb (c + 2) i (c + 29 + i)) (k + 1) (n + 5) (by omega) (by omega) (by omega) (by show hb.1 = _; omega) (fun e he hne => by
      have z := nb e (by omega)
      have w := old e he hne
      exact ⟨z.1.trans w.1, z.2.1.trans w.2.1, fun k => (z.2.2.1 k).trans (w.2.2.1 k), fun k => by rw [sR_c (by omega)]; exact (z.2.2.2 k).trans (w.2.2.2 k)⟩) ⟨by show ph_T hb c = 5; rw [(nb c (by omega)).1]; exact oc.1, by show ph_L hb c = _; rw [(nb c (by omega)).2.1]; exact oc.2⟩ (fun e he => by
      have z := nb e (by omega)
      have w := same e he
      exact ⟨z.1.trans w.1, z.2.1.trans w.2.1, fun k => (z.2.2.1 k).trans (w.2.2.1 k), fun hne k => by rw [sR_c hne]; exact (z.2.2.2 k).trans (w.2.2.2 hne k)⟩) (fun d hd => by
      by_cases z : d = i
      · rw [z, sR_eq]; exact ⟨rfl, tb, ib⟩
      · have y := hmt d (by omega)
        have w := nb (c + 29 + d) (by omega)
        have w2 := nb (c + 2) (by omega)
        refine ⟨by rw [sR_k z, w2.2.2.2]; exact y.1, w.1.trans y.2.1, ?_⟩
        show ph_I hb _ 0 = 0 ∧ ph_I hb _ 1 = 6 ∧ ph_I hb _ 2 = 0 ∧ ph_I hb _ 3 = 24 ∧ ph_I hb _ 4 = 1
        rw [w.2.2.1, w.2.2.1, w.2.2.1, w.2.2.1, w.2.2.1]
        exact y.2.2)
    rw [e1] at nx
    exact nx
set_option maxHeartbeats 4000000 in
theorem lp_X5_F {G : Gx} {X : Cx} {h : PH} {c : Nat} (C : CX_X5_init G X) (hc : c = h.1 + 1) (c2 : 2 ≤ c) (tc : ph_T h c = 5) : ∀ (m i : Nat) (h1 : PH) (k n : Nat), i + m = 8 → k = 4 + 3 * i → n = 187 + 39 * i → WHm h h1 c i → PW G X 2 (pw_E G X (fun rr h' => rr = none ∧ GrE c h h' 32 ∧ WS h' c ∧ WR h' c iniS) 32 519) k n 48 [some (.inr c), some (.inl (i : Int))] [] h1 := by
  intro m
  induction m with
  | zero =>
    intro i h1 k n hi hk hn hw
    have e8 : i = 8 := by omega
    subst e8
    refine B_X5_init_48 C (kt := fun c1 => ?_) (kf := fun c1 => by omega)
    refine B_X5_init_73 C (kk := ?_)
    have g := hw.1
    exact lp_X5_M C hc c2 tc hw 4 0 h1 k n (by omega) (by omega) (by omega) (by have := g.1; omega) (fun e he hne => ⟨(g.2.1 e he).1, (g.2.1 e he).2, (g.2.2 e he hne).1, (g.2.2 e he hne).2⟩) ⟨by rw [(g.2.1 c (by omega)).1]; exact tc, (g.2.1 c (by omega)).2⟩ (fun e he => ⟨rfl, rfl, fun _ => rfl, fun _ _ => rfl⟩) (fun d hd => by omega)
  | succ m ih =>
    intro i h1 k n hi hk hn hw
    obtain ⟨g0, ⟨w1, w2, w3, w4⟩, ⟨l1, l2, l4⟩, ⟨r0, r1, r2, r3⟩, i4, isk, ilk, ifl⟩ := id hw
    have ei : Int.toNat (i : Int) = i := by omega
    have s1 := g0.1
    have tc1 : ph_T h1 c = 5 := by rw [(g0.2.1 c (by omega)).1]; exact tc
    refine B_X5_init_48 C (kt := fun c1 => by omega) (kf := fun c1 => ?_)
    refine B_X5_init_54 C (hk4 := by omega) (hn5 := by omega) (r2 := c + 1) (kk := ?_)
    have es : ph_S h1 + 2 = c + 5 + 3 * i := by show h1.1 + 2 = _; omega
    rw [es]
    have A1 : ∃ ha, ha = ph_new h1 0 7 := ⟨_, rfl⟩
    obtain ⟨ha, ea⟩ := A1
    rw [← ea]
    have ta : ph_T ha (c + 5 + 3 * i) = 0 := by rw [ea, nT_e (by omega)]
    have ga : GrE (c + 5 + 3 * i) h1 ha 1 := by rw [ea]; exact (GrE.rf _ h1).new 0 7
    have sa : ha.1 = h1.1 + 1 := ga.1
    clear ea
    refine B_X5_init_62 C (hM := ct_X0_init _ _ ha (c := c + 5 + 3 * i) (by omega) (by omega) ta) (hkc := by omega) (hnc := by omega) (kk := fun rr hb hq => ?_)
    obtain ⟨rfl, gb, fb, -⟩ := hq
    have gab : GrE (c + 5 + 3 * i) h1 hb 3 := ga.tr gb (Or.inl rfl)
    have nb := WHm_keep hc hw (c + 5 + 3 * i) gab (by omega)
    have tb1 : ph_T hb (c + 1) = 10 := by rw [(nb _ (by omega)).1]; exact w1
    have lb1 : ph_L hb (c + 1) = 8 := by rw [(nb _ (by omega)).2.1]; exact l1
    have tbf : ph_T hb (c + 5 + 3 * i) = 0 := fb.1.1
    refine B_X5_init_66 C (m6 := 10) (m6v := 0) (q4 := by rw [lb1]; omega) (kk := ?_)
    rw [ei]
    have e1 : ((i + 1 : Nat) : Int) = (i : Int) + 1 := by omega
    have nx := ih (i + 1) (ph_setR hb (c + 1) i (c + 5 + 3 * i)) (k + 1 + 2) (n + 7 + 32) (by omega) (by omega) (by omega) (by
      have nc := nb c (by omega)
      have n1 := nb (c + 1) (by omega)
      have n2 := nb (c + 2) (by omega)
      have n3 := nb (c + 3) (by omega)
      have n4 := nb (c + 4) (by omega)
      refine ⟨⟨by have := gab.1; show hb.1 = _; omega, fun e he => ⟨?_, ?_⟩, fun e he hne => ⟨fun k => ?_, fun k => ?_⟩⟩, ⟨tb1, n2.1.trans w2, n3.1.trans w3, n4.1.trans w4⟩, ⟨lb1, n2.2.1.trans l2, n4.2.1.trans l4⟩, ⟨?_, ?_, ?_, ?_⟩, (nc.2.2.1 4).trans i4, ?_, fun k => (n4.2.2.1 k).trans (ilk k), fun j hj => ?_⟩
      · exact (nb e (by omega)).1.trans (g0.2.1 e he).1
      · exact (nb e (by omega)).2.1.trans (g0.2.1 e he).2
      · exact ((nb e (by omega)).2.2.1 k).trans ((g0.2.2 e he hne).1 k)
      · rw [sR_c (by omega)]; exact ((nb e (by omega)).2.2.2 k).trans ((g0.2.2 e he hne).2 k)
      · rw [sR_c (by omega)]; exact (nc.2.2.2 0).trans r0
      · rw [sR_c (by omega)]; exact (nc.2.2.2 1).trans r1
      · rw [sR_c (by omega)]; exact (nc.2.2.2 2).trans r2
      · rw [sR_c (by omega)]; exact (nc.2.2.2 3).trans r3
      · show ph_I hb _ 0 = 0 ∧ ph_I hb _ 1 = 10 ∧ ph_I hb _ 2 = 3 ∧ ph_I hb _ 3 = -1 ∧ ph_I hb _ 4 = 1 ∧ ph_I hb _ 5 = 0 ∧ ph_I hb _ 6 = 5
        rw [n3.2.2.1, n3.2.2.1, n3.2.2.1, n3.2.2.1, n3.2.2.1, n3.2.2.1, n3.2.2.1]
        exact isk
      · by_cases z : j = i
        · rw [z]
          exact ⟨sR_eq, FS_loc (h := hb) (fun e e0 e1 => ⟨⟨rfl, rfl⟩, fun k => sR_c (by omega)⟩) fb⟩
        · have y := ifl j (by omega)
          refine ⟨by rw [sR_k z, n1.2.2.2]; exact y.1, FS_loc (h := h1) (fun e e0 e1 => ?_) y.2⟩
          have w := nb e (by omega)
          exact ⟨⟨w.1, w.2.1⟩, fun k => by rw [sR_c (by omega)]; exact w.2.2.2 k⟩)
    rw [e1] at nx
    exact nx
set_option maxHeartbeats 4000000 in
theorem ct_X5_init (G : Gx) (l : Launch) (h : PH) {c : Nat} (hc : c = h.1 + 1) (c2 : 2 ≤ c) (tc : ph_T h c = 5) : CT_X5_init G l [.inr c] h (fun rr h' => rr = none ∧ GrE c h h' 32 ∧ WS h' c ∧ WR h' c iniS) := by
  refine ct_intro rfl (Nat.le_of_ble_eq_true rfl) (fun X hX C => ?_)
  refine B_X5_init_0 C (hk2 := by omega) (hn3 := by omega) (S := []) (kk := ?_)
  have A1 : ∃ h1, h1 = ph_new h 10 8 := ⟨_, rfl⟩
  obtain ⟨h1, e1⟩ := A1
  rw [← e1]
  have s1 : h1.1 = h.1 + 1 := by rw [e1]; rfl
  have g1 : GrE c h h1 1 := by rw [e1]; exact (GrE.rf c h).new 10 8
  have T1 : ph_T h1 (c + 1) = 10 ∧ ph_L h1 (c + 1) = 8 := by rw [e1, nT_e (by omega), nL_e (by omega)]; exact ⟨rfl, rfl⟩
  have t1 : ph_T h1 c = 5 := by rw [(g1.2.1 c (by omega)).1]; exact tc
  clear e1
  refine B_X5_init_10 C (hk2 := by omega) (hn3 := by omega) (t1 := t1) (kk := ?_)
  have A2 : ∃ h2, h2 = ph_new (ph_setR h1 c 0 (ph_S h + 2)) 11 4 := ⟨_, rfl⟩
  obtain ⟨h2, e2⟩ := A2
  rw [← e2]
  have s2 : h2.1 = h.1 + 2 := by rw [e2]; show h1.1 + 1 = _; omega
  have g2 : GrE c h h2 2 := by rw [e2]; exact (g1.setR (Or.inl rfl) _ _).new 11 4
  have T21 : ph_T h2 (c + 1) = 10 ∧ ph_L h2 (c + 1) = 8 := by rw [e2, sn_T (by omega), sn_L (by omega)]; exact T1
  have T22 : ph_T h2 (c + 2) = 11 ∧ ph_L h2 (c + 2) = 4 := by rw [e2, nT_e (by show c + 2 = h1.1 + 2; omega), nL_e (by show c + 2 = h1.1 + 2; omega)]; exact ⟨rfl, rfl⟩
  have R20 : ph_R h2 c 0 = c + 1 := by rw [e2, nR_o (by show c ≠ h1.1 + 2; omega), sR_eq]; show h.1 + 2 = _; omega
  have t2 : ph_T h2 c = 5 := by rw [(g2.2.1 c (by omega)).1]; exact tc
  have S2' : ph_S (ph_setR h1 c 0 (ph_S h + 2)) = h.1 + 1 := s1
  rw [S2']
  clear e2 S2'
  refine B_X5_init_18 C (hk2 := by omega) (hn3 := by omega) (t1 := t2) (kk := ?_)
  have A3 : ∃ h3, h3 = ph_new (ph_setR h2 c 1 (h.1 + 1 + 2)) 3 7 := ⟨_, rfl⟩
  obtain ⟨h3, e3⟩ := A3
  rw [← e3]
  have s3 : h3.1 = h.1 + 3 := by rw [e3]; show h2.1 + 1 = _; omega
  have g3 : GrE c h h3 3 := by rw [e3]; exact (g2.setR (Or.inl rfl) _ _).new 3 7
  have T31 : ph_T h3 (c + 1) = 10 ∧ ph_L h3 (c + 1) = 8 := by rw [e3, sn_T (by omega), sn_L (by omega)]; exact T21
  have T32 : ph_T h3 (c + 2) = 11 ∧ ph_L h3 (c + 2) = 4 := by rw [e3, sn_T (by omega), sn_L (by omega)]; exact T22
  have T33 : ph_T h3 (c + 3) = 3 := by rw [e3, nT_e (by show c + 3 = h2.1 + 2; omega)]
  have R30 : ph_R h3 c 0 = c + 1 := by rw [e3, nR_o (by show c ≠ h2.1 + 2; omega), sR_k (by decide)]; exact R20
  have R31 : ph_R h3 c 1 = c + 2 := by rw [e3, nR_o (by show c ≠ h2.1 + 2; omega), sR_eq]; omega
  have S3' : ph_S (ph_setR h2 c 1 (h.1 + 1 + 2)) + 2 = c + 3 := by show h2.1 + 2 = _; omega
  rw [S3']
  clear e3 S3'
  refine B_X5_init_25 C (hM := ct_X3_init _ _ h3 (c := c + 3) (by omega) T33) (kk := fun rr h4 hq => ?_)
  obtain ⟨rfl, gq, isk, -⟩ := hq
  have s4 : h4.1 = h.1 + 3 := by have := gq.1; omega
  have g4 : GrE c h h4 3 := g3.tr gq (Or.inr (by omega))
  have k4 : ∀ e, e < c + 3 → ph_T h4 e = ph_T h3 e ∧ ph_L h4 e = ph_L h3 e ∧ ∀ k, ph_R h4 e k = ph_R h3 e k := fun e he => ⟨(gq.2.1 e (by omega)).1, (gq.2.1 e (by omega)).2, (gq.2.2 e (by omega) (by omega)).2⟩
  have T43 : ph_T h4 (c + 3) = 3 := by rw [(gq.2.1 _ (by omega)).1]; exact T33
  have t4 : ph_T h4 c = 5 := by rw [(g4.2.1 c (by omega)).1]; exact tc
  refine B_X5_init_29 C (hk2 := by omega) (hn3 := by omega) (t1 := t4) (kk := ?_)
  have A5 : ∃ h5, h5 = ph_new (ph_setR h4 c 2 (c + 3)) 8 168 := ⟨_, rfl⟩
  obtain ⟨h5, e5⟩ := A5
  rw [← e5]
  have s5 : h5.1 = h.1 + 4 := by rw [e5]; show h4.1 + 1 = _; omega
  have g5 : GrE c h h5 4 := by rw [e5]; exact (g4.setR (Or.inl rfl) _ _).new 8 168
  have T51 : ph_T h5 (c + 1) = 10 ∧ ph_L h5 (c + 1) = 8 := by rw [e5, sn_T (by omega), sn_L (by omega), (k4 _ (by omega)).1, (k4 _ (by omega)).2.1]; exact T31
  have T52 : ph_T h5 (c + 2) = 11 ∧ ph_L h5 (c + 2) = 4 := by rw [e5, sn_T (by omega), sn_L (by omega), (k4 _ (by omega)).1, (k4 _ (by omega)).2.1]; exact T32
  have T53 : ph_T h5 (c + 3) = 3 := by rw [e5, sn_T (by omega)]; exact T43
  have T54 : ph_T h5 (c + 4) = 8 ∧ ph_L h5 (c + 4) = 168 := by rw [e5, nT_e (by show c + 4 = h4.1 + 2; omega), nL_e (by show c + 4 = h4.1 + 2; omega)]; exact ⟨rfl, rfl⟩
  have R50 : ph_R h5 c 0 = c + 1 := by rw [e5, nR_o (by show c ≠ h4.1 + 2; omega), sR_k (by decide), (k4 c (by omega)).2.2]; exact R30
  have R51 : ph_R h5 c 1 = c + 2 := by rw [e5, nR_o (by show c ≠ h4.1 + 2; omega), sR_k (by decide), (k4 c (by omega)).2.2]; exact R31
  have R52 : ph_R h5 c 2 = c + 3 := by rw [e5, nR_o (by show c ≠ h4.1 + 2; omega), sR_eq]
  have I53 : ∀ k, ph_I h5 (c + 3) k = ph_I h4 (c + 3) k := fun k => by rw [e5, nI_o (by show c + 3 ≠ h4.1 + 2; omega), rI]
  have I54 : ∀ k, ph_I h5 (c + 4) k = 0 := fun k => by rw [e5, nI_e (by show c + 4 = h4.1 + 2; omega)]
  have t5 : ph_T h5 c = 5 := by rw [(g5.2.1 c (by omega)).1]; exact tc
  have S5' : ph_S (ph_setR h4 c 2 (c + 3)) + 2 = c + 4 := by show h4.1 + 2 = _; omega
  rw [S5']
  clear e5 S5'
  refine B_X5_init_38 C (t1 := t5) (t2 := t5) (kk := ?_)
  refine lp_X5_F C hc c2 tc 8 0 _ _ _ (by omega) rfl rfl ⟨(g5.setR (Or.inl rfl) _ _).setI (Or.inl rfl) _ _, ⟨T51.1, T52.1, T53, T54.1⟩, ⟨T51.2, T52.2, T54.2⟩, ⟨?_, ?_, ?_, ?_⟩, sI_eq, ?_, fun k => ?_, fun j hj => by omega⟩
  · rw [iR, sR_k (by decide)]; exact R50
  · rw [iR, sR_k (by decide)]; exact R51
  · rw [iR, sR_k (by decide)]; exact R52
  · rw [iR, sR_eq]
  · have z : ∀ k, ph_I (ph_setI (ph_setR h5 c 3 (c + 4)) c 4 0) (c + 3) k = ph_I h4 (c + 3) k := fun k => by rw [sI_c (by omega), rI]; exact I53 k
    rw [z, z, z, z, z, z, z]
    exact isk
  · rw [sI_c (by omega), rI]; exact I54 k
