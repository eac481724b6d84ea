/-! constructors: the search, the reference, the class -/
/-- the search half made: i ways -/
def SHm (h h1 : PH) (c w i : Nat) : Prop := GrE c h h1 (5 + 6 * i) ∧ (ph_R h1 c 0 = w ∧ ph_R h1 c 1 = c + 1 ∧ ph_R h1 c 2 = c + 2 ∧ ph_R h1 c 3 = c + 3 ∧ ph_R h1 c 4 = c + 4 ∧ ph_R h1 c 5 = c + 5) ∧ ((ph_T h1 (c + 1) = 12 ∧ ph_L h1 (c + 1) = 4) ∧ (ph_T h1 (c + 2) = 8 ∧ ph_L h1 (c + 2) = 38836) ∧ (ph_T h1 (c + 3) = 8 ∧ ph_L h1 (c + 3) = 511) ∧ (ph_T h1 (c + 4) = 8 ∧ ph_L h1 (c + 4) = 525) ∧ (ph_T h1 (c + 5) = 8 ∧ ph_L h1 (c + 5) = 525)) ∧ ∀ d : Nat, d < i → ph_R h1 (c + 1) d = c + 6 + 6 * d ∧ YS h1 (c + 6 + 6 * d) ∧ ph_I h1 (c + 6 + 6 * d) 5 = -6 ∧ ph_I h1 (c + 6 + 6 * d) 7 = 0
set_option maxHeartbeats 4000000 in
theorem lp_X2_W {G : Gx} {X : Cx} {h : PH} {c w : Nat} (C : CX_X2_init G X) (hc : c = h.1 + 1) (c2 : 2 ≤ c) (tc : ph_T h c = 2) : ∀ (m i : Nat) (h1 : PH) (k n : Nat), i + m = 4 → k = 5 + 6 * i → n = 40401 + 276 * i → SHm h h1 c w i → PW G X 3 (pw_E G X (fun rr h' => rr = none ∧ SHm h h' c w 4) 29 41505) k n 91 [some (.inr c), some (.inr w), some (.inl (i : Int))] [] h1 := by
  intro m
  induction m with
  | zero =>
    intro i h1 k n hi hk hn hw
    have e4 : i = 4 := by omega
    subst e4
    subst hk
    subst hn
    refine B_X2_init_91 C (kt := fun c1 => ?_) (kf := fun c1 => by omega)
    exact B_X2_init_115 C (hq := ⟨rfl, hw⟩)
  | succ m ih =>
    intro i h1 k n hi hk hn hw
    obtain ⟨g0, ⟨r0, r1, r2, r3, r4, r5⟩, ⟨w1, w2, w3, w4, w5⟩, ifl⟩ := id hw
    have ei : Int.toNat (i : Int) = i := by omega
    have s1 := g0.1
    have tc1 : ph_T h1 c = 2 := by rw [(g0.2.1 c (by omega)).1]; exact tc
    refine B_X2_init_91 C (kt := fun c1 => by omega) (kf := fun c1 => ?_)
    refine B_X2_init_96 C (hk4 := by omega) (hn5 := by omega) (r2 := c + 1) (kk := ?_)
    have es : ph_S h1 + 2 = c + 6 + 6 * i := by show h1.1 + 2 = _; omega
    rw [es]
    have A1 : ∃ ha, ha = ph_new h1 4 14 := ⟨_, rfl⟩
    obtain ⟨ha, ea⟩ := A1
    rw [← ea]
    have ta : ph_T ha (c + 6 + 6 * i) = 4 := by rw [ea, nT_e (by omega)]
    have ga : GrE (c + 6 + 6 * i) h1 ha 1 := by rw [ea]; exact (GrE.rf _ h1).new 4 14
    have sa : ha.1 = h1.1 + 1 := ga.1
    clear ea
    refine B_X2_init_104 C (hM := ct_X4_init _ _ ha (c := c + 6 + 6 * i) (by omega) (by omega) ta) (hkc := by omega) (hnc := by omega) (kk := fun rr hb hq => ?_)
    obtain ⟨rfl, gb, fb, v5, v7⟩ := hq
    have gab : GrE (c + 6 + 6 * i) h1 hb 6 := ga.tr gb (Or.inl rfl)
    have nb : ∀ e, e < c + 6 + 6 * i → ph_T hb e = ph_T h1 e ∧ ph_L hb e = ph_L h1 e ∧ (∀ k, ph_I hb e k = ph_I h1 e k) ∧ ∀ k, ph_R hb e k = ph_R h1 e k := fun e he => ⟨(gab.2.1 e (by omega)).1, (gab.2.1 e (by omega)).2, (gab.2.2 e (by omega) (by omega)).1, (gab.2.2 e (by omega) (by omega)).2⟩
    have tb1 : ph_T hb (c + 1) = 12 := by rw [(nb _ (by omega)).1]; exact w1.1
    have lb1 : ph_L hb (c + 1) = 4 := by rw [(nb _ (by omega)).2.1]; exact w1.2
    have tbf : ph_T hb (c + 6 + 6 * i) = 4 := fb.1.1
    refine B_X2_init_108 C (m6 := 12) (m6v := 4) (q4 := by rw [lb1]; omega) (kk := ?_)
    rw [ei]
    have e1 : ((i + 1 : Nat) : Int) = (i : Int) + 1 := by omega
    have nx := ih (i + 1) (ph_setR hb (c + 1) i (c + 6 + 6 * i)) (k + 1 + 5) (n + 14 + 262) (by omega) (by omega) (by omega) (by
      have nc := nb c (by omega)
      have n1 := nb (c + 1) (by omega)
      have n2 := nb (c + 2) (by omega)
      have n3 := nb (c + 3) (by omega)
      have n4 := nb (c + 4) (by omega)
      have n5 := nb (c + 5) (by omega)
      refine ⟨⟨by have := gab.1; show hb.1 = _; omega, fun e he => ⟨?_, ?_⟩, fun e he hne => ⟨fun k => ?_, fun k => ?_⟩⟩, ⟨?_, ?_, ?_, ?_, ?_, ?_⟩, ⟨⟨tb1, lb1⟩, ⟨n2.1.trans w2.1, n2.2.1.trans w2.2⟩, ⟨n3.1.trans w3.1, n3.2.1.trans w3.2⟩, ⟨n4.1.trans w4.1, n4.2.1.trans w4.2⟩, ⟨n5.1.trans w5.1, n5.2.1.trans w5.2⟩⟩, fun j hj => ?_⟩
      · exact (nb e (by omega)).1.trans (g0.2.1 e he).1
      · exact (nb e (by omega)).2.1.trans (g0.2.1 e he).2
      · exact ((nb e (by omega)).2.2.1 k).trans ((g0.2.2 e he hne).1 k)
      · rw [sR_c (by omega)]; exact ((nb e (by omega)).2.2.2 k).trans ((g0.2.2 e he hne).2 k)
      · rw [sR_c (by omega)]; exact (nc.2.2.2 0).trans r0
      · rw [sR_c (by omega)]; exact (nc.2.2.2 1).trans r1
      · rw [sR_c (by omega)]; exact (nc.2.2.2 2).trans r2
      · rw [sR_c (by omega)]; exact (nc.2.2.2 3).trans r3
      · rw [sR_c (by omega)]; exact (nc.2.2.2 4).trans r4
      · rw [sR_c (by omega)]; exact (nc.2.2.2 5).trans r5
      · by_cases z : j = i
        · rw [z]
          exact ⟨sR_eq, YS_loc (h := hb) (fun e e0 e1 => ⟨⟨rfl, rfl⟩, fun k => sR_c (by omega)⟩) fb, v5, v7⟩
        · have y := ifl j (by omega)
          have wj := nb (c + 6 + 6 * j) (by omega)
          refine ⟨by rw [sR_k z, n1.2.2.2]; exact y.1, YS_loc (h := h1) (fun e e0 e1 => ?_) y.2.1, (wj.2.2.1 5).trans y.2.2.1, (wj.2.2.1 7).trans y.2.2.2⟩
          have w := nb e (by omega)
          exact ⟨⟨w.1, w.2.1⟩, fun k => by rw [sR_c (by omega)]; exact w.2.2.2 k⟩)
    rw [e1] at nx
    exact nx
set_option maxHeartbeats 4000000 in
theorem ct_X2_init (G : Gx) (l : Launch) (h : PH) {c w : Nat} (hc : c = h.1 + 1) (c2 : 2 ≤ c) (tc : ph_T h c = 2) (hw : WS h w) (wb : w + 33 ≤ c) : CT_X2_init G l [.inr c, .inr w] h (fun rr h' => rr = none ∧ SHm h h' c w 4) := by
  refine ct_intro rfl (Nat.le_of_ble_eq_true rfl) (fun X hX C => ?_)
  refine B_X2_init_0 C (hk2 := by omega) (hn3 := by omega) (S := []) (kk := ?_)
  have A1 : ∃ hh1, hh1 = ph_new h 12 4 := ⟨_, rfl⟩
  obtain ⟨hh1, ea1⟩ := A1
  rw [← ea1]
  have s1 : hh1.1 = h.1 + 1 := by rw [ea1]; rfl
  have gg1 : GrE c h hh1 1 := by rw [ea1]; exact (GrE.rf c h).new 12 4
  have F1_1 : ph_T hh1 (c + 1) = 12 ∧ ph_L hh1 (c + 1) = 4 := by rw [ea1, nT_e (by omega), nL_e (by omega)]; exact ⟨rfl, rfl⟩
  have S1' : ph_S h + 2 = c + 1 := by show h.1 + 2 = _; omega
  rw [S1']
  have Z1_1 : ∀ k, ph_I hh1 (c + 1) k = 0 := fun k => by rw [ea1, nI_e (by omega)]
  have tt1 : ph_T hh1 c = 2 := by rw [(gg1.2.1 c (by omega)).1]; exact tc
  clear ea1 S1'
  refine B_X2_init_9 C (hk2 := by omega) (hn3 := by omega) (t1 := tt1) (kk := ?_)
  have A2 : ∃ hh2, hh2 = ph_new (ph_setR hh1 c 1 (c + 1)) 8 38836 := ⟨_, rfl⟩
  obtain ⟨hh2, ea2⟩ := A2
  rw [← ea2]
  have s2 : hh2.1 = h.1 + 2 := by rw [ea2]; show hh1.1 + 1 = _; omega
  have gg2 : GrE c h hh2 2 := by rw [ea2]; exact (gg1.setR (Or.inl rfl) _ _).new 8 38836
  have F2_1 : ph_T hh2 (c + 1) = 12 ∧ ph_L hh2 (c + 1) = 4 := by rw [ea2, sn_T (by omega), sn_L (by omega)]; exact F1_1
  have F2_2 : ph_T hh2 (c + 2) = 8 ∧ ph_L hh2 (c + 2) = 38836 := by rw [ea2, nT_e (by show c + 2 = hh1.1 + 2; omega), nL_e (by show c + 2 = hh1.1 + 2; omega)]; exact ⟨rfl, rfl⟩
  have Q2_1 : ph_R hh2 c 1 = c + 1 := by rw [ea2, nR_o (by show c ≠ hh1.1 + 2; omega), sR_eq]
  have S2' : ph_S (ph_setR hh1 c 1 (c + 1)) + 2 = c + 2 := by show hh1.1 + 2 = _; omega
  rw [S2']
  have Z2_1 : ∀ k, ph_I hh2 (c + 1) k = 0 := fun k => by rw [ea2, nI_o (by show c + 1 ≠ hh1.1 + 2; omega), rI]; exact Z1_1 k
  have Z2_2 : ∀ k, ph_I hh2 (c + 2) k = 0 := fun k => by rw [ea2, nI_e (by show c + 2 = hh1.1 + 2; omega)]
  have tt2 : ph_T hh2 c = 2 := by rw [(gg2.2.1 c (by omega)).1]; exact tc
  clear ea2 S2' F1_1 Z1_1
  refine B_X2_init_17 C (hk2 := by omega) (hn3 := by omega) (t1 := tt2) (kk := ?_)
  have A3 : ∃ hh3, hh3 = ph_new (ph_setR hh2 c 2 (c + 2)) 8 511 := ⟨_, rfl⟩
  obtain ⟨hh3, ea3⟩ := A3
  rw [← ea3]
  have s3 : hh3.1 = h.1 + 3 := by rw [ea3]; show hh2.1 + 1 = _; omega
  have gg3 : GrE c h hh3 3 := by rw [ea3]; exact (gg2.setR (Or.inl rfl) _ _).new 8 511
  have F3_1 : ph_T hh3 (c + 1) = 12 ∧ ph_L hh3 (c + 1) = 4 := by rw [ea3, sn_T (by omega), sn_L (by omega)]; exact F2_1
  have F3_2 : ph_T hh3 (c + 2) = 8 ∧ ph_L hh3 (c + 2) = 38836 := by rw [ea3, sn_T (by omega), sn_L (by omega)]; exact F2_2
  have F3_3 : ph_T hh3 (c + 3) = 8 ∧ ph_L hh3 (c + 3) = 511 := by rw [ea3, nT_e (by show c + 3 = hh2.1 + 2; omega), nL_e (by show c + 3 = hh2.1 + 2; omega)]; exact ⟨rfl, rfl⟩
  have Q3_1 : ph_R hh3 c 1 = c + 1 := by rw [ea3, nR_o (by show c ≠ hh2.1 + 2; omega), sR_k (by decide)]; exact Q2_1
  have Q3_2 : ph_R hh3 c 2 = c + 2 := by rw [ea3, nR_o (by show c ≠ hh2.1 + 2; omega), sR_eq]
  have S3' : ph_S (ph_setR hh2 c 2 (c + 2)) + 2 = c + 3 := by show hh2.1 + 2 = _; omega
  rw [S3']
  have Z3_1 : ∀ k, ph_I hh3 (c + 1) k = 0 := fun k => by rw [ea3, nI_o (by show c + 1 ≠ hh2.1 + 2; omega), rI]; exact Z2_1 k
  have Z3_2 : ∀ k, ph_I hh3 (c + 2) k = 0 := fun k => by rw [ea3, nI_o (by show c + 2 ≠ hh2.1 + 2; omega), rI]; exact Z2_2 k
  have Z3_3 : ∀ k, ph_I hh3 (c + 3) k = 0 := fun k => by rw [ea3, nI_e (by show c + 3 = hh2.1 + 2; omega)]
  have tt3 : ph_T hh3 c = 2 := by rw [(gg3.2.1 c (by omega)).1]; exact tc
  clear ea3 S3' F2_1 F2_2 Z2_1 Z2_2 Q2_1
  refine B_X2_init_26 C (hk2 := by omega) (hn3 := by omega) (t1 := tt3) (kk := ?_)
  have A4 : ∃ hh4, hh4 = ph_new (ph_setR hh3 c 3 (c + 3)) 8 525 := ⟨_, rfl⟩
  obtain ⟨hh4, ea4⟩ := A4
  rw [← ea4]
  have s4 : hh4.1 = h.1 + 4 := by rw [ea4]; show hh3.1 + 1 = _; omega
  have gg4 : GrE c h hh4 4 := by rw [ea4]; exact (gg3.setR (Or.inl rfl) _ _).new 8 525
  have F4_1 : ph_T hh4 (c + 1) = 12 ∧ ph_L hh4 (c + 1) = 4 := by rw [ea4, sn_T (by omega), sn_L (by omega)]; exact F3_1
  have F4_2 : ph_T hh4 (c + 2) = 8 ∧ ph_L hh4 (c + 2) = 38836 := by rw [ea4, sn_T (by omega), sn_L (by omega)]; exact F3_2
  have F4_3 : ph_T hh4 (c + 3) = 8 ∧ ph_L hh4 (c + 3) = 511 := by rw [ea4, sn_T (by omega), sn_L (by omega)]; exact F3_3
  have F4_4 : ph_T hh4 (c + 4) = 8 ∧ ph_L hh4 (c + 4) = 525 := by rw [ea4, nT_e (by show c + 4 = hh3.1 + 2; omega), nL_e (by show c + 4 = hh3.1 + 2; omega)]; exact ⟨rfl, rfl⟩
  have Q4_1 : ph_R hh4 c 1 = c + 1 := by rw [ea4, nR_o (by show c ≠ hh3.1 + 2; omega), sR_k (by decide)]; exact Q3_1
  have Q4_2 : ph_R hh4 c 2 = c + 2 := by rw [ea4, nR_o (by show c ≠ hh3.1 + 2; omega), sR_k (by decide)]; exact Q3_2
  have Q4_3 : ph_R hh4 c 3 = c + 3 := by rw [ea4, nR_o (by show c ≠ hh3.1 + 2; omega), sR_eq]
  have S4' : ph_S (ph_setR hh3 c 3 (c + 3)) + 2 = c + 4 := by show hh3.1 + 2 = _; omega
  rw [S4']
  have Z4_1 : ∀ k, ph_I hh4 (c + 1) k = 0 := fun k => by rw [ea4, nI_o (by show c + 1 ≠ hh3.1 + 2; omega), rI]; exact Z3_1 k
  have Z4_2 : ∀ k, ph_I hh4 (c + 2) k = 0 := fun k => by rw [ea4, nI_o (by show c + 2 ≠ hh3.1 + 2; omega), rI]; exact Z3_2 k
  have Z4_3 : ∀ k, ph_I hh4 (c + 3) k = 0 := fun k => by rw [ea4, nI_o (by show c + 3 ≠ hh3.1 + 2; omega), rI]; exact Z3_3 k
  have Z4_4 : ∀ k, ph_I hh4 (c + 4) k = 0 := fun k => by rw [ea4, nI_e (by show c + 4 = hh3.1 + 2; omega)]
  have tt4 : ph_T hh4 c = 2 := by rw [(gg4.2.1 c (by omega)).1]; exact tc
  clear ea4 S4' F3_1 F3_2 F3_3 Z3_1 Z3_2 Z3_3 Q3_1 Q3_2
  refine B_X2_init_35 C (hk2 := by omega) (hn3 := by omega) (t1 := tt4) (kk := ?_)
  have A5 : ∃ hh5, hh5 = ph_new (ph_setR hh4 c 4 (c + 4)) 8 525 := ⟨_, rfl⟩
  obtain ⟨hh5, ea5⟩ := A5
  rw [← ea5]
  have s5 : hh5.1 = h.1 + 5 := by rw [ea5]; show hh4.1 + 1 = _; omega
  have gg5 : GrE c h hh5 5 := by rw [ea5]; exact (gg4.setR (Or.inl rfl) _ _).new 8 525
  have F5_1 : ph_T hh5 (c + 1) = 12 ∧ ph_L hh5 (c + 1) = 4 := by rw [ea5, sn_T (by omega), sn_L (by omega)]; exact F4_1
  have F5_2 : ph_T hh5 (c + 2) = 8 ∧ ph_L hh5 (c + 2) = 38836 := by rw [ea5, sn_T (by omega), sn_L (by omega)]; exact F4_2
  have F5_3 : ph_T hh5 (c + 3) = 8 ∧ ph_L hh5 (c + 3) = 511 := by rw [ea5, sn_T (by omega), sn_L (by omega)]; exact F4_3
  have F5_4 : ph_T hh5 (c + 4) = 8 ∧ ph_L hh5 (c + 4) = 525 := by rw [ea5, sn_T (by omega), sn_L (by omega)]; exact F4_4
  have F5_5 : ph_T hh5 (c + 5) = 8 ∧ ph_L hh5 (c + 5) = 525 := by rw [ea5, nT_e (by show c + 5 = hh4.1 + 2; omega), nL_e (by show c + 5 = hh4.1 + 2; omega)]; exact ⟨rfl, rfl⟩
  have Q5_1 : ph_R hh5 c 1 = c + 1 := by rw [ea5, nR_o (by show c ≠ hh4.1 + 2; omega), sR_k (by decide)]; exact Q4_1
  have Q5_2 : ph_R hh5 c 2 = c + 2 := by rw [ea5, nR_o (by show c ≠ hh4.1 + 2; omega), sR_k (by decide)]; exact Q4_2
  have Q5_3 : ph_R hh5 c 3 = c + 3 := by rw [ea5, nR_o (by show c ≠ hh4.1 + 2; omega), sR_k (by decide)]; exact Q4_3
  have Q5_4 : ph_R hh5 c 4 = c + 4 := by rw [ea5, nR_o (by show c ≠ hh4.1 + 2; omega), sR_eq]
  have S5' : ph_S (ph_setR hh4 c 4 (c + 4)) + 2 = c + 5 := by show hh4.1 + 2 = _; omega
  rw [S5']
  have Z5_1 : ∀ k, ph_I hh5 (c + 1) k = 0 := fun k => by rw [ea5, nI_o (by show c + 1 ≠ hh4.1 + 2; omega), rI]; exact Z4_1 k
  have Z5_2 : ∀ k, ph_I hh5 (c + 2) k = 0 := fun k => by rw [ea5, nI_o (by show c + 2 ≠ hh4.1 + 2; omega), rI]; exact Z4_2 k
  have Z5_3 : ∀ k, ph_I hh5 (c + 3) k = 0 := fun k => by rw [ea5, nI_o (by show c + 3 ≠ hh4.1 + 2; omega), rI]; exact Z4_3 k
  have Z5_4 : ∀ k, ph_I hh5 (c + 4) k = 0 := fun k => by rw [ea5, nI_o (by show c + 4 ≠ hh4.1 + 2; omega), rI]; exact Z4_4 k
  have Z5_5 : ∀ k, ph_I hh5 (c + 5) k = 0 := fun k => by rw [ea5, nI_e (by show c + 5 = hh4.1 + 2; omega)]
  have tt5 : ph_T hh5 c = 2 := by rw [(gg5.2.1 c (by omega)).1]; exact tc
  clear ea5 S5' F4_1 F4_2 F4_3 F4_4 Z4_1 Z4_2 Z4_3 Z4_4 Q4_1 Q4_2 Q4_3
  obtain ⟨⟨wt0, wt1, wt2, wt3, wt4⟩, ⟨wl1, wl2, wl4⟩, ⟨wr0, wr1, wr2, wr3⟩, wfl, winj, wmt⟩ := hw
  have ow : ∀ e, w ≤ e → e < w + 33 → ph_T hh5 e = ph_T h e ∧ ph_L hh5 e = ph_L h e ∧ ∀ k, ph_R hh5 e k = ph_R h e k := fun e a b => ⟨(gg5.2.1 e (by omega)).1, (gg5.2.1 e (by omega)).2, (gg5.2.2 e (by omega) (by omega)).2⟩
  have u0 : ph_T hh5 w = 5 := by rw [(ow w (by omega) (by omega)).1]; exact wt0
  have u1 : ph_T hh5 (w + 1) = 10 := by rw [(ow (w + 1) (by omega) (by omega)).1]; exact wt1
  have u2 : ph_T hh5 (w + 2) = 11 := by rw [(ow (w + 2) (by omega) (by omega)).1]; exact wt2
  have v1 : ph_L hh5 (w + 1) = 8 := by rw [(ow (w + 1) (by omega) (by omega)).2.1]; exact wl1
  have v2 : ph_L hh5 (w + 2) = 4 := by rw [(ow (w + 2) (by omega) (by omega)).2.1]; exact wl2
  have x0 : ph_R hh5 w 0 = w + 1 := by rw [(ow w (by omega) (by omega)).2.2]; exact wr0
  have x1 : ph_R hh5 w 1 = w + 2 := by rw [(ow w (by omega) (by omega)).2.2]; exact wr1
  refine B_X2_init_44 C (t1 := tt5) (t2 := tt5) (t3 := tt5) (t4 := tt5) (t5 := tt5) (t6 := u0) (r7 := w + 2) (e8 := by rw [sR_c (by omega), sR_c (by omega)]; exact x1) (m13 := 11) (t9 := u2) (q11 := by show (0 : Int) < (ph_L hh5 (w + 2) : Int); rw [v2]; decide) (r14 := ph_R hh5 (w + 2) 0) (e15 := by rw [sR_c (by omega), sR_c (by omega)]) (t16 := tt5) (t17 := u0) (r18 := w + 1) (e19 := by rw [sR_c (by omega), sR_c (by omega), sR_c (by omega)]; exact x0) (m24 := 10) (t20 := u1) (q22 := by show (0 : Int) < (ph_L hh5 (w + 1) : Int); rw [v1]; decide) (r25 := ph_R hh5 (w + 1) 0) (e26 := by rw [sR_c (by omega), sR_c (by omega), sR_c (by omega)]) (t27 := tt5) (kk := ?_)
  refine lp_X2_W C hc c2 tc 4 0 _ _ _ (by omega) rfl rfl ⟨((((((gg5.setR (Or.inl rfl) _ _).setI (Or.inl rfl) _ _).setI (Or.inl rfl) _ _).setI (Or.inl rfl) _ _).setR (Or.inl rfl) _ _).setR (Or.inl rfl) _ _).setR (Or.inl rfl) _ _, ⟨?_, ?_, ?_, ?_, ?_, ?_⟩, ?_, fun d hd => by omega⟩
  · rw [sR_k (by decide), sR_k (by decide), sR_eq]
  · rw [sR_k (by decide), sR_k (by decide), sR_k (by decide), iR, iR, iR, sR_k (by decide)]; exact Q5_1
  · rw [sR_k (by decide), sR_k (by decide), sR_k (by decide), iR, iR, iR, sR_k (by decide)]; exact Q5_2
  · rw [sR_k (by decide), sR_k (by decide), sR_k (by decide), iR, iR, iR, sR_k (by decide)]; exact Q5_3
  · rw [sR_k (by decide), sR_k (by decide), sR_k (by decide), iR, iR, iR, sR_k (by decide)]; exact Q5_4
  · rw [sR_k (by decide), sR_k (by decide), sR_k (by decide), iR, iR, iR, sR_eq]
  · simp only [iT, rT, iL, rL]
    exact ⟨F5_1, F5_2, F5_3, F5_4, F5_5⟩
def inD (i j : Nat) : Int := if 300 ≤ j ∧ j < 300 + i then 6 else if 308 ≤ j ∧ j < 308 + i then 24 else if 312 ≤ j ∧ j < 312 + i then 1 else 0
theorem inD_s {i : Nat} (hi : i < 4) (j : Nat) : up (up (up (inD i) (300 + i) 6) (308 + i) 24) (312 + i) 1 j = inD (i + 1) j := by
  unfold up inD
  (repeat' split) <;> omega
theorem inD_f (j : Nat) : up (up (up (up (up (up (inD 4) 486 10) 487 3) 488 (-1)) 489 (-6)) 490 (-6)) 491 5 j = iniS j := by
  unfold up inD iniS
  (repeat' split) <;> omega
theorem ph_up {h : PH} {c k : Nat} {v : Int} {f : Nat → Int} (hf : ∀ j, ph_I h c j = f j) : ∀ j, ph_I (ph_setI h c k v) c j = up f k v j := fun j => by
  by_cases z : j = k
  · rw [z, sI_eq, up_eq]
  · rw [sI_k z, up_ne z]; exact hf j
def M7 (h h1 : PH) : Prop := GrE 134 h h1 7 ∧ MF h1 ∧ (∀ j, ph_I h1 136 j = 0) ∧ ∀ j, ph_I h1 137 j = 0
theorem M7.set {h h1 : PH} (x : M7 h h1) (hc : h.1 = 133) (k : Nat) (v : Int) : M7 h (ph_setI h1 135 k v) := ⟨x.1.setI (Or.inr (by omega)) k v, x.2.1, fun j => by rw [sI_c (by decide)]; exact x.2.2.1 j, fun j => by rw [sI_c (by decide)]; exact x.2.2.2 j⟩
set_option maxHeartbeats 4000000 in
theorem ct_X7_init (G : Gx) (l : Launch) (h : PH) (h133 : h.1 = 133) (tc0 : ph_T h 134 = 7) : CT_X7_init G l [.inr 134] h (fun rr h' => rr = none ∧ GrE 134 h h' 7 ∧ MF h' ∧ (∀ j, ph_I h' 135 j = iniS j) ∧ (∀ j, ph_I h' 136 j = 0) ∧ ∀ j, ph_I h' 137 j = 0) := by
  obtain ⟨c, ec⟩ : ∃ c : Nat, c = 134 := ⟨_, rfl⟩
  rw [← ec] at tc0 ⊢
  have tc := tc0
  have hc : c = h.1 + 1 := by omega
  refine ct_intro rfl (Nat.le_of_ble_eq_true rfl) (fun X hX C => ?_)
  have fin : ∀ h1 : PH, M7 h h1 → (∀ j, ph_I h1 135 j = inD 4 j) → ∀ a1 : Int, PW G X 2 (pw_E G X (fun rr h' => rr = none ∧ GrE 134 h h' 7 ∧ MF h' ∧ (∀ j, ph_I h' 135 j = iniS j) ∧ (∀ j, ph_I h' 136 j = 0) ∧ ∀ j, ph_I h' 137 j = 0) 7 42598) 7 42598 109 [some (.inr 134), some (.inl a1)] [] h1 := by
    intro h1 hm hd a1
    obtain ⟨g, ⟨⟨t0, r0, -⟩, ⟨t1, -⟩, ⟨l1, -⟩⟩, -, -⟩ := id hm
    have q6 : (486 : Int) < (ph_L h1 135 : Int) := by rw [l1]; decide
    have q14 : (487 : Int) < (ph_L h1 135 : Int) := by rw [l1]; decide
    have q22 : (488 : Int) < (ph_L h1 135 : Int) := by rw [l1]; decide
    have q30 : (489 : Int) < (ph_L h1 135 : Int) := by rw [l1]; decide
    have q38 : (490 : Int) < (ph_L h1 135 : Int) := by rw [l1]; decide
    have q46 : (491 : Int) < (ph_L h1 135 : Int) := by rw [l1]; decide
    have z := ((((((hm.set h133 486 10).set h133 487 3).set h133 488 (-1)).set h133 489 (-6)).set h133 490 (-6)).set h133 491 5)
    refine B_X7_init_109 C (t1 := t0) (r2 := 135) (e3 := r0) (t4 := t1) (q6 := q6) (t9 := t0) (r10 := 135) (e11 := r0) (t12 := t1) (q14 := q14) (t17 := t0) (r18 := 135) (e19 := r0) (t20 := t1) (q22 := q22) (t25 := t0) (r26 := 135) (e27 := r0) (t28 := t1) (q30 := q30) (t33 := t0) (r34 := 135) (e35 := r0) (t36 := t1) (q38 := q38) (t41 := t0) (r42 := 135) (e43 := r0) (t44 := t1) (q46 := q46) (hq := ⟨rfl, z.1, z.2.1, fun j => ?_, z.2.2.1, z.2.2.2⟩)
    exact (ph_up (ph_up (ph_up (ph_up (ph_up (ph_up hd))))) j).trans (inD_f j)
  have lp : ∀ (m i : Nat) (h1 : PH), i + m = 4 → M7 h h1 → (∀ j, ph_I h1 135 j = inD i j) → PW G X 2 (pw_E G X (fun rr h' => rr = none ∧ GrE 134 h h' 7 ∧ MF h' ∧ (∀ j, ph_I h' 135 j = iniS j) ∧ (∀ j, ph_I h' 136 j = 0) ∧ ∀ j, ph_I h' 137 j = 0) 7 42598) 7 42598 63 [some (.inr 134), some (.inl (i : Int))] [] h1 := by
    intro m
    induction m with
    | zero =>
      intro i h1 hi hm hd
      have e4 : i = 4 := by omega
      subst e4
      refine B_X7_init_63 C (kt := fun c1 => ?_) (kf := fun c1 => by omega)
      exact fin h1 hm hd _
    | succ m ih =>
      intro i h1 hi hm hd
      obtain ⟨g, ⟨⟨t0, r0, -⟩, ⟨t1, -⟩, ⟨l1, -⟩⟩, -, -⟩ := id hm
      refine B_X7_init_63 C (kt := fun c1 => by omega) (kf := fun c1 => ?_)
      refine B_X7_init_68 C (t1 := t0) (r2 := 135) (e3 := r0) (t4 := t1) (q6 := by rw [l1]; omega) (t9 := t0) (r10 := 135) (e11 := r0) (t12 := t1) (q14 := by show _ < (ph_L h1 135 : Int); rw [l1]; omega) (t17 := t0) (r18 := 135) (e19 := r0) (t20 := t1) (q22 := by show _ < (ph_L h1 135 : Int); rw [l1]; omega) (kk := ?_)
      have e1 : ((i + 1 : Nat) : Int) = (i : Int) + 1 := by omega
      have x0 : Int.toNat (300 + (i : Int)) = 300 + i := by omega
      have x1 : Int.toNat (308 + (i : Int)) = 308 + i := by omega
      have x2 : Int.toNat (312 + (i : Int)) = 312 + i := by omega
      rw [x0, x1, x2]
      have nx := ih (i + 1) _ (by omega) (((hm.set h133 (300 + i) 6).set h133 (308 + i) 24).set h133 (312 + i) 1) (fun j => (ph_up (ph_up (ph_up hd)) j).trans (inD_s (by omega) j))
      rw [e1] at nx
      exact nx
  refine B_X7_init_0 C (hk2 := by omega) (hn3 := by omega) (S := []) (kk := ?_)
  have A1 : ∃ hh1, hh1 = ph_new h 8 492 := ⟨_, rfl⟩
  obtain ⟨hh1, ea1⟩ := A1
  rw [← ea1]
  have s1 : hh1.1 = h.1 + 1 := by rw [ea1]; rfl
  have gg1 : GrE c h hh1 1 := by rw [ea1]; exact (GrE.rf c h).new 8 492
  have F1_1 : ph_T hh1 (c + 1) = 8 ∧ ph_L hh1 (c + 1) = 492 := by rw [ea1, nT_e (by omega), nL_e (by omega)]; exact ⟨rfl, rfl⟩
  have S1' : ph_S h + 2 = c + 1 := by show h.1 + 2 = _; omega
  rw [S1']
  have Z1_1 : ∀ k, ph_I hh1 (c + 1) k = 0 := fun k => by rw [ea1, nI_e (by omega)]
  have tt1 : ph_T hh1 c = 7 := by rw [(gg1.2.1 c (by omega)).1]; exact tc
  clear ea1 S1'
  refine B_X7_init_10 C (hk2 := by omega) (hn3 := by omega) (t1 := tt1) (kk := ?_)
  have A2 : ∃ hh2, hh2 = ph_new (ph_setR hh1 c 0 (c + 1)) 8 984 := ⟨_, rfl⟩
  obtain ⟨hh2, ea2⟩ := A2
  rw [← ea2]
  have s2 : hh2.1 = h.1 + 2 := by rw [ea2]; show hh1.1 + 1 = _; omega
  have gg2 : GrE c h hh2 2 := by rw [ea2]; exact (gg1.setR (Or.inl rfl) _ _).new 8 984
  have F2_1 : ph_T hh2 (c + 1) = 8 ∧ ph_L hh2 (c + 1) = 492 := by rw [ea2, sn_T (by omega), sn_L (by omega)]; exact F1_1
  have F2_2 : ph_T hh2 (c + 2) = 8 ∧ ph_L hh2 (c + 2) = 984 := by rw [ea2, nT_e (by show c + 2 = hh1.1 + 2; omega), nL_e (by show c + 2 = hh1.1 + 2; omega)]; exact ⟨rfl, rfl⟩
  have Q2_0 : ph_R hh2 c 0 = c + 1 := by rw [ea2, nR_o (by show c ≠ hh1.1 + 2; omega), sR_eq]
  have S2' : ph_S (ph_setR hh1 c 0 (c + 1)) + 2 = c + 2 := by show hh1.1 + 2 = _; omega
  rw [S2']
  have Z2_1 : ∀ k, ph_I hh2 (c + 1) k = 0 := fun k => by rw [ea2, nI_o (by show c + 1 ≠ hh1.1 + 2; omega), rI]; exact Z1_1 k
  have Z2_2 : ∀ k, ph_I hh2 (c + 2) k = 0 := fun k => by rw [ea2, nI_e (by show c + 2 = hh1.1 + 2; omega)]
  have tt2 : ph_T hh2 c = 7 := by rw [(gg2.2.1 c (by omega)).1]; exact tc
  clear ea2 S2' F1_1 Z1_1
  refine B_X7_init_19 C (hk2 := by omega) (hn3 := by omega) (t1 := tt2) (kk := ?_)
  have A3 : ∃ hh3, hh3 = ph_new (ph_setR hh2 c 1 (c + 2)) 9 2 := ⟨_, rfl⟩
  obtain ⟨hh3, ea3⟩ := A3
  rw [← ea3]
  have s3 : hh3.1 = h.1 + 3 := by rw [ea3]; show hh2.1 + 1 = _; omega
  have gg3 : GrE c h hh3 3 := by rw [ea3]; exact (gg2.setR (Or.inl rfl) _ _).new 9 2
  have F3_1 : ph_T hh3 (c + 1) = 8 ∧ ph_L hh3 (c + 1) = 492 := by rw [ea3, sn_T (by omega), sn_L (by omega)]; exact F2_1
  have F3_2 : ph_T hh3 (c + 2) = 8 ∧ ph_L hh3 (c + 2) = 984 := by rw [ea3, sn_T (by omega), sn_L (by omega)]; exact F2_2
  have F3_3 : ph_T hh3 (c + 3) = 9 ∧ ph_L hh3 (c + 3) = 2 := by rw [ea3, nT_e (by show c + 3 = hh2.1 + 2; omega), nL_e (by show c + 3 = hh2.1 + 2; omega)]; exact ⟨rfl, rfl⟩
  have Q3_0 : ph_R hh3 c 0 = c + 1 := by rw [ea3, nR_o (by show c ≠ hh2.1 + 2; omega), sR_k (by decide)]; exact Q2_0
  have Q3_1 : ph_R hh3 c 1 = c + 2 := by rw [ea3, nR_o (by show c ≠ hh2.1 + 2; omega), sR_eq]
  have S3' : ph_S (ph_setR hh2 c 1 (c + 2)) + 2 = c + 3 := by show hh2.1 + 2 = _; omega
  rw [S3']
  have Z3_1 : ∀ k, ph_I hh3 (c + 1) k = 0 := fun k => by rw [ea3, nI_o (by show c + 1 ≠ hh2.1 + 2; omega), rI]; exact Z2_1 k
  have Z3_2 : ∀ k, ph_I hh3 (c + 2) k = 0 := fun k => by rw [ea3, nI_o (by show c + 2 ≠ hh2.1 + 2; omega), rI]; exact Z2_2 k
  have Z3_3 : ∀ k, ph_I hh3 (c + 3) k = 0 := fun k => by rw [ea3, nI_e (by show c + 3 = hh2.1 + 2; omega)]
  have tt3 : ph_T hh3 c = 7 := by rw [(gg3.2.1 c (by omega)).1]; exact tc
  clear ea3 S3' F2_1 F2_2 Z2_1 Z2_2 Q2_0
  refine B_X7_init_26 C (hk2 := by omega) (hn3 := by omega) (t1 := tt3) (kk := ?_)
  have A4 : ∃ hh4, hh4 = ph_new (ph_setR hh3 c 2 (c + 3)) 8 40880 := ⟨_, rfl⟩
  obtain ⟨hh4, ea4⟩ := A4
  rw [← ea4]
  have s4 : hh4.1 = h.1 + 4 := by rw [ea4]; show hh3.1 + 1 = _; omega
  have gg4 : GrE c h hh4 4 := by rw [ea4]; exact (gg3.setR (Or.inl rfl) _ _).new 8 40880
  have F4_1 : ph_T hh4 (c + 1) = 8 ∧ ph_L hh4 (c + 1) = 492 := by rw [ea4, sn_T (by omega), sn_L (by omega)]; exact F3_1
  have F4_2 : ph_T hh4 (c + 2) = 8 ∧ ph_L hh4 (c + 2) = 984 := by rw [ea4, sn_T (by omega), sn_L (by omega)]; exact F3_2
  have F4_3 : ph_T hh4 (c + 3) = 9 ∧ ph_L hh4 (c + 3) = 2 := by rw [ea4, sn_T (by omega), sn_L (by omega)]; exact F3_3
  have F4_4 : ph_T hh4 (c + 4) = 8 ∧ ph_L hh4 (c + 4) = 40880 := by rw [ea4, nT_e (by show c + 4 = hh3.1 + 2; omega), nL_e (by show c + 4 = hh3.1 + 2; omega)]; exact ⟨rfl, rfl⟩
  have Q4_0 : ph_R hh4 c 0 = c + 1 := by rw [ea4, nR_o (by show c ≠ hh3.1 + 2; omega), sR_k (by decide)]; exact Q3_0
  have Q4_1 : ph_R hh4 c 1 = c + 2 := by rw [ea4, nR_o (by show c ≠ hh3.1 + 2; omega), sR_k (by decide)]; exact Q3_1
  have Q4_2 : ph_R hh4 c 2 = c + 3 := by rw [ea4, nR_o (by show c ≠ hh3.1 + 2; omega), sR_eq]
  have S4' : ph_S (ph_setR hh3 c 2 (c + 3)) + 2 = c + 4 := by show hh3.1 + 2 = _; omega
  rw [S4']
  have Z4_1 : ∀ k, ph_I hh4 (c + 1) k = 0 := fun k => by rw [ea4, nI_o (by show c + 1 ≠ hh3.1 + 2; omega), rI]; exact Z3_1 k
  have Z4_2 : ∀ k, ph_I hh4 (c + 2) k = 0 := fun k => by rw [ea4, nI_o (by show c + 2 ≠ hh3.1 + 2; omega), rI]; exact Z3_2 k
  have Z4_3 : ∀ k, ph_I hh4 (c + 3) k = 0 := fun k => by rw [ea4, nI_o (by show c + 3 ≠ hh3.1 + 2; omega), rI]; exact Z3_3 k
  have Z4_4 : ∀ k, ph_I hh4 (c + 4) k = 0 := fun k => by rw [ea4, nI_e (by show c + 4 = hh3.1 + 2; omega)]
  have tt4 : ph_T hh4 c = 7 := by rw [(gg4.2.1 c (by omega)).1]; exact tc
  clear ea4 S4' F3_1 F3_2 F3_3 Z3_1 Z3_2 Z3_3 Q3_0 Q3_1
  refine B_X7_init_34 C (hk2 := by omega) (hn3 := by omega) (t1 := tt4) (kk := ?_)
  have A5 : ∃ hh5, hh5 = ph_new (ph_setR hh4 c 3 (c + 4)) 8 80 := ⟨_, rfl⟩
  obtain ⟨hh5, ea5⟩ := A5
  rw [← ea5]
  have s5 : hh5.1 = h.1 + 5 := by rw [ea5]; show hh4.1 + 1 = _; omega
  have gg5 : GrE c h hh5 5 := by rw [ea5]; exact (gg4.setR (Or.inl rfl) _ _).new 8 80
  have F5_1 : ph_T hh5 (c + 1) = 8 ∧ ph_L hh5 (c + 1) = 492 := by rw [ea5, sn_T (by omega), sn_L (by omega)]; exact F4_1
  have F5_2 : ph_T hh5 (c + 2) = 8 ∧ ph_L hh5 (c + 2) = 984 := by rw [ea5, sn_T (by omega), sn_L (by omega)]; exact F4_2
  have F5_3 : ph_T hh5 (c + 3) = 9 ∧ ph_L hh5 (c + 3) = 2 := by rw [ea5, sn_T (by omega), sn_L (by omega)]; exact F4_3
  have F5_4 : ph_T hh5 (c + 4) = 8 ∧ ph_L hh5 (c + 4) = 40880 := by rw [ea5, sn_T (by omega), sn_L (by omega)]; exact F4_4
  have F5_5 : ph_T hh5 (c + 5) = 8 ∧ ph_L hh5 (c + 5) = 80 := by rw [ea5, nT_e (by show c + 5 = hh4.1 + 2; omega), nL_e (by show c + 5 = hh4.1 + 2; omega)]; exact ⟨rfl, rfl⟩
  have Q5_0 : ph_R hh5 c 0 = c + 1 := by rw [ea5, nR_o (by show c ≠ hh4.1 + 2; omega), sR_k (by decide)]; exact Q4_0
  have Q5_1 : ph_R hh5 c 1 = c + 2 := by rw [ea5, nR_o (by show c ≠ hh4.1 + 2; omega), sR_k (by decide)]; exact Q4_1
  have Q5_2 : ph_R hh5 c 2 = c + 3 := by rw [ea5, nR_o (by show c ≠ hh4.1 + 2; omega), sR_k (by decide)]; exact Q4_2
  have Q5_3 : ph_R hh5 c 3 = c + 4 := by rw [ea5, nR_o (by show c ≠ hh4.1 + 2; omega), sR_eq]
  have S5' : ph_S (ph_setR hh4 c 3 (c + 4)) + 2 = c + 5 := by show hh4.1 + 2 = _; omega
  rw [S5']
  have Z5_1 : ∀ k, ph_I hh5 (c + 1) k = 0 := fun k => by rw [ea5, nI_o (by show c + 1 ≠ hh4.1 + 2; omega), rI]; exact Z4_1 k
  have Z5_2 : ∀ k, ph_I hh5 (c + 2) k = 0 := fun k => by rw [ea5, nI_o (by show c + 2 ≠ hh4.1 + 2; omega), rI]; exact Z4_2 k
  have Z5_3 : ∀ k, ph_I hh5 (c + 3) k = 0 := fun k => by rw [ea5, nI_o (by show c + 3 ≠ hh4.1 + 2; omega), rI]; exact Z4_3 k
  have Z5_4 : ∀ k, ph_I hh5 (c + 4) k = 0 := fun k => by rw [ea5, nI_o (by show c + 4 ≠ hh4.1 + 2; omega), rI]; exact Z4_4 k
  have Z5_5 : ∀ k, ph_I hh5 (c + 5) k = 0 := fun k => by rw [ea5, nI_e (by show c + 5 = hh4.1 + 2; omega)]
  have tt5 : ph_T hh5 c = 7 := by rw [(gg5.2.1 c (by omega)).1]; exact tc
  clear ea5 S5' F4_1 F4_2 F4_3 F4_4 Z4_1 Z4_2 Z4_3 Z4_4 Q4_0 Q4_1 Q4_2
  refine B_X7_init_42 C (hk2 := by omega) (hn3 := by omega) (t1 := tt5) (kk := ?_)
  have A6 : ∃ hh6, hh6 = ph_new (ph_setR hh5 c 8 (c + 5)) 8 80 := ⟨_, rfl⟩
  obtain ⟨hh6, ea6⟩ := A6
  rw [← ea6]
  have s6 : hh6.1 = h.1 + 6 := by rw [ea6]; show hh5.1 + 1 = _; omega
  have gg6 : GrE c h hh6 6 := by rw [ea6]; exact (gg5.setR (Or.inl rfl) _ _).new 8 80
  have F6_1 : ph_T hh6 (c + 1) = 8 ∧ ph_L hh6 (c + 1) = 492 := by rw [ea6, sn_T (by omega), sn_L (by omega)]; exact F5_1
  have F6_2 : ph_T hh6 (c + 2) = 8 ∧ ph_L hh6 (c + 2) = 984 := by rw [ea6, sn_T (by omega), sn_L (by omega)]; exact F5_2
  have F6_3 : ph_T hh6 (c + 3) = 9 ∧ ph_L hh6 (c + 3) = 2 := by rw [ea6, sn_T (by omega), sn_L (by omega)]; exact F5_3
  have F6_4 : ph_T hh6 (c + 4) = 8 ∧ ph_L hh6 (c + 4) = 40880 := by rw [ea6, sn_T (by omega), sn_L (by omega)]; exact F5_4
  have F6_5 : ph_T hh6 (c + 5) = 8 ∧ ph_L hh6 (c + 5) = 80 := by rw [ea6, sn_T (by omega), sn_L (by omega)]; exact F5_5
  have F6_6 : ph_T hh6 (c + 6) = 8 ∧ ph_L hh6 (c + 6) = 80 := by rw [ea6, nT_e (by show c + 6 = hh5.1 + 2; omega), nL_e (by show c + 6 = hh5.1 + 2; omega)]; exact ⟨rfl, rfl⟩
  have Q6_0 : ph_R hh6 c 0 = c + 1 := by rw [ea6, nR_o (by show c ≠ hh5.1 + 2; omega), sR_k (by decide)]; exact Q5_0
  have Q6_1 : ph_R hh6 c 1 = c + 2 := by rw [ea6, nR_o (by show c ≠ hh5.1 + 2; omega), sR_k (by decide)]; exact Q5_1
  have Q6_2 : ph_R hh6 c 2 = c + 3 := by rw [ea6, nR_o (by show c ≠ hh5.1 + 2; omega), sR_k (by decide)]; exact Q5_2
  have Q6_3 : ph_R hh6 c 3 = c + 4 := by rw [ea6, nR_o (by show c ≠ hh5.1 + 2; omega), sR_k (by decide)]; exact Q5_3
  have Q6_8 : ph_R hh6 c 8 = c + 5 := by rw [ea6, nR_o (by show c ≠ hh5.1 + 2; omega), sR_eq]
  have S6' : ph_S (ph_setR hh5 c 8 (c + 5)) + 2 = c + 6 := by show hh5.1 + 2 = _; omega
  rw [S6']
  have Z6_1 : ∀ k, ph_I hh6 (c + 1) k = 0 := fun k => by rw [ea6, nI_o (by show c + 1 ≠ hh5.1 + 2; omega), rI]; exact Z5_1 k
  have Z6_2 : ∀ k, ph_I hh6 (c + 2) k = 0 := fun k => by rw [ea6, nI_o (by show c + 2 ≠ hh5.1 + 2; omega), rI]; exact Z5_2 k
  have Z6_3 : ∀ k, ph_I hh6 (c + 3) k = 0 := fun k => by rw [ea6, nI_o (by show c + 3 ≠ hh5.1 + 2; omega), rI]; exact Z5_3 k
  have Z6_4 : ∀ k, ph_I hh6 (c + 4) k = 0 := fun k => by rw [ea6, nI_o (by show c + 4 ≠ hh5.1 + 2; omega), rI]; exact Z5_4 k
  have Z6_5 : ∀ k, ph_I hh6 (c + 5) k = 0 := fun k => by rw [ea6, nI_o (by show c + 5 ≠ hh5.1 + 2; omega), rI]; exact Z5_5 k
  have Z6_6 : ∀ k, ph_I hh6 (c + 6) k = 0 := fun k => by rw [ea6, nI_e (by show c + 6 = hh5.1 + 2; omega)]
  have tt6 : ph_T hh6 c = 7 := by rw [(gg6.2.1 c (by omega)).1]; exact tc
  clear ea6 S6' F5_1 F5_2 F5_3 F5_4 F5_5 Z5_1 Z5_2 Z5_3 Z5_4 Z5_5 Q5_0 Q5_1 Q5_2 Q5_3
  refine B_X7_init_50 C (hk2 := by omega) (hn3 := by omega) (t1 := tt6) (kk := ?_)
  have A7 : ∃ hh7, hh7 = ph_new (ph_setR hh6 c 9 (c + 6)) 9 80 := ⟨_, rfl⟩
  obtain ⟨hh7, ea7⟩ := A7
  rw [← ea7]
  have s7 : hh7.1 = h.1 + 7 := by rw [ea7]; show hh6.1 + 1 = _; omega
  have gg7 : GrE c h hh7 7 := by rw [ea7]; exact (gg6.setR (Or.inl rfl) _ _).new 9 80
  have F7_1 : ph_T hh7 (c + 1) = 8 ∧ ph_L hh7 (c + 1) = 492 := by rw [ea7, sn_T (by omega), sn_L (by omega)]; exact F6_1
  have F7_2 : ph_T hh7 (c + 2) = 8 ∧ ph_L hh7 (c + 2) = 984 := by rw [ea7, sn_T (by omega), sn_L (by omega)]; exact F6_2
  have F7_3 : ph_T hh7 (c + 3) = 9 ∧ ph_L hh7 (c + 3) = 2 := by rw [ea7, sn_T (by omega), sn_L (by omega)]; exact F6_3
  have F7_4 : ph_T hh7 (c + 4) = 8 ∧ ph_L hh7 (c + 4) = 40880 := by rw [ea7, sn_T (by omega), sn_L (by omega)]; exact F6_4
  have F7_5 : ph_T hh7 (c + 5) = 8 ∧ ph_L hh7 (c + 5) = 80 := by rw [ea7, sn_T (by omega), sn_L (by omega)]; exact F6_5
  have F7_6 : ph_T hh7 (c + 6) = 8 ∧ ph_L hh7 (c + 6) = 80 := by rw [ea7, sn_T (by omega), sn_L (by omega)]; exact F6_6
  have F7_7 : ph_T hh7 (c + 7) = 9 ∧ ph_L hh7 (c + 7) = 80 := by rw [ea7, nT_e (by show c + 7 = hh6.1 + 2; omega), nL_e (by show c + 7 = hh6.1 + 2; omega)]; exact ⟨rfl, rfl⟩
  have Q7_0 : ph_R hh7 c 0 = c + 1 := by rw [ea7, nR_o (by show c ≠ hh6.1 + 2; omega), sR_k (by decide)]; exact Q6_0
  have Q7_1 : ph_R hh7 c 1 = c + 2 := by rw [ea7, nR_o (by show c ≠ hh6.1 + 2; omega), sR_k (by decide)]; exact Q6_1
  have Q7_2 : ph_R hh7 c 2 = c + 3 := by rw [ea7, nR_o (by show c ≠ hh6.1 + 2; omega), sR_k (by decide)]; exact Q6_2
  have Q7_3 : ph_R hh7 c 3 = c + 4 := by rw [ea7, nR_o (by show c ≠ hh6.1 + 2; omega), sR_k (by decide)]; exact Q6_3
  have Q7_8 : ph_R hh7 c 8 = c + 5 := by rw [ea7, nR_o (by show c ≠ hh6.1 + 2; omega), sR_k (by decide)]; exact Q6_8
  have Q7_9 : ph_R hh7 c 9 = c + 6 := by rw [ea7, nR_o (by show c ≠ hh6.1 + 2; omega), sR_eq]
  have S7' : ph_S (ph_setR hh6 c 9 (c + 6)) + 2 = c + 7 := by show hh6.1 + 2 = _; omega
  rw [S7']
  have Z7_1 : ∀ k, ph_I hh7 (c + 1) k = 0 := fun k => by rw [ea7, nI_o (by show c + 1 ≠ hh6.1 + 2; omega), rI]; exact Z6_1 k
  have Z7_2 : ∀ k, ph_I hh7 (c + 2) k = 0 := fun k => by rw [ea7, nI_o (by show c + 2 ≠ hh6.1 + 2; omega), rI]; exact Z6_2 k
  have Z7_3 : ∀ k, ph_I hh7 (c + 3) k = 0 := fun k => by rw [ea7, nI_o (by show c + 3 ≠ hh6.1 + 2; omega), rI]; exact Z6_3 k
  have Z7_4 : ∀ k, ph_I hh7 (c + 4) k = 0 := fun k => by rw [ea7, nI_o (by show c + 4 ≠ hh6.1 + 2; omega), rI]; exact Z6_4 k
  have Z7_5 : ∀ k, ph_I hh7 (c + 5) k = 0 := fun k => by rw [ea7, nI_o (by show c + 5 ≠ hh6.1 + 2; omega), rI]; exact Z6_5 k
  have Z7_6 : ∀ k, ph_I hh7 (c + 6) k = 0 := fun k => by rw [ea7, nI_o (by show c + 6 ≠ hh6.1 + 2; omega), rI]; exact Z6_6 k
  have Z7_7 : ∀ k, ph_I hh7 (c + 7) k = 0 := fun k => by rw [ea7, nI_e (by show c + 7 = hh6.1 + 2; omega)]
  have tt7 : ph_T hh7 c = 7 := by rw [(gg7.2.1 c (by omega)).1]; exact tc
  clear ea7 S7' F6_1 F6_2 F6_3 F6_4 F6_5 F6_6 Z6_1 Z6_2 Z6_3 Z6_4 Z6_5 Z6_6 Q6_0 Q6_1 Q6_2 Q6_3 Q6_8
  refine B_X7_init_58 C (t1 := tt7) (kk := ?_)
  subst ec
  refine lp 4 0 _ (by omega) ⟨gg7.setR (Or.inl rfl) _ _, ⟨⟨tt7, ?_, ?_, ?_, ?_, ?_, ?_, ?_⟩, ?_, ?_⟩, Z7_2, Z7_3⟩ (fun j => ?_)
  · rw [sR_k (by decide)]; exact Q7_0
  · rw [sR_k (by decide)]; exact Q7_1
  · rw [sR_k (by decide)]; exact Q7_2
  · rw [sR_k (by decide)]; exact Q7_3
  · rw [sR_k (by decide)]; exact Q7_8
  · rw [sR_k (by decide)]; exact Q7_9
  · rw [sR_eq]
  · simp only [rT]
    exact ⟨F7_1.1, F7_2.1, F7_3.1, F7_4.1, F7_5.1, F7_6.1, F7_7.1⟩
  · simp only [rL]
    exact ⟨F7_1.2, F7_2.2, F7_3.2, F7_4.2, F7_5.2, F7_6.2, F7_7.2⟩
  · rw [rI, Z7_1]
    unfold inD
    rw [if_neg (by omega), if_neg (by omega), if_neg (by omega)]
