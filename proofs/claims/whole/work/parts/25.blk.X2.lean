theorem dX2_init_0 : decode cX2_init 0 = .ok (.aload_n 0, 1) := by decide +kernel
theorem dX2_init_1 : decode cX2_init 1 = .ok (.invokespecial 3, 3) := by decide +kernel
theorem dX2_init_4 : decode cX2_init 4 = .ok (.aload_n 0, 1) := by decide +kernel
theorem dX2_init_5 : decode cX2_init 5 = .ok (.iconst 4, 1) := by decide +kernel
theorem dX2_init_6 : decode cX2_init 6 = .ok (.anewarray 9, 3) := by decide +kernel
theorem dX2_init_9 : decode cX2_init 9 = .ok (.putfield 11, 3) := by decide +kernel
theorem dX2_init_12 : decode cX2_init 12 = .ok (.aload_n 0, 1) := by decide +kernel
theorem dX2_init_13 : decode cX2_init 13 = .ok (.ldc 17, 2) := by decide +kernel
theorem dX2_init_15 : decode cX2_init 15 = .ok (.newarray .int, 2) := by decide +kernel
theorem dX2_init_17 : decode cX2_init 17 = .ok (.putfield 18, 3) := by decide +kernel
theorem dX2_init_20 : decode cX2_init 20 = .ok (.aload_n 0, 1) := by decide +kernel
theorem dX2_init_21 : decode cX2_init 21 = .ok (.sipush 511, 3) := by decide +kernel
theorem dX2_init_24 : decode cX2_init 24 = .ok (.newarray .int, 2) := by decide +kernel
theorem dX2_init_26 : decode cX2_init 26 = .ok (.putfield 22, 3) := by decide +kernel
theorem dX2_init_29 : decode cX2_init 29 = .ok (.aload_n 0, 1) := by decide +kernel
theorem dX2_init_30 : decode cX2_init 30 = .ok (.sipush 525, 3) := by decide +kernel
theorem dX2_init_33 : decode cX2_init 33 = .ok (.newarray .int, 2) := by decide +kernel
theorem dX2_init_35 : decode cX2_init 35 = .ok (.putfield 25, 3) := by decide +kernel
theorem dX2_init_38 : decode cX2_init 38 = .ok (.aload_n 0, 1) := by decide +kernel
theorem dX2_init_39 : decode cX2_init 39 = .ok (.sipush 525, 3) := by decide +kernel
theorem dX2_init_42 : decode cX2_init 42 = .ok (.newarray .int, 2) := by decide +kernel
theorem dX2_init_44 : decode cX2_init 44 = .ok (.putfield 28, 3) := by decide +kernel
theorem dX2_init_47 : decode cX2_init 47 = .ok (.aload_n 0, 1) := by decide +kernel
theorem dX2_init_48 : decode cX2_init 48 = .ok (.iconst 0, 1) := by decide +kernel
theorem dX2_init_49 : decode cX2_init 49 = .ok (.putfield 31, 3) := by decide +kernel
theorem dX2_init_52 : decode cX2_init 52 = .ok (.aload_n 0, 1) := by decide +kernel
theorem dX2_init_53 : decode cX2_init 53 = .ok (.bipush (-6), 2) := by decide +kernel
theorem dX2_init_55 : decode cX2_init 55 = .ok (.putfield 35, 3) := by decide +kernel
theorem dX2_init_58 : decode cX2_init 58 = .ok (.aload_n 0, 1) := by decide +kernel
theorem dX2_init_59 : decode cX2_init 59 = .ok (.bipush (-6), 2) := by decide +kernel
theorem dX2_init_61 : decode cX2_init 61 = .ok (.putfield 38, 3) := by decide +kernel
theorem dX2_init_64 : decode cX2_init 64 = .ok (.aload_n 0, 1) := by decide +kernel
theorem dX2_init_65 : decode cX2_init 65 = .ok (.aload_n 1, 1) := by decide +kernel
theorem dX2_init_66 : decode cX2_init 66 = .ok (.putfield 41, 3) := by decide +kernel
theorem dX2_init_69 : decode cX2_init 69 = .ok (.aload_n 0, 1) := by decide +kernel
theorem dX2_init_70 : decode cX2_init 70 = .ok (.aload_n 1, 1) := by decide +kernel
theorem dX2_init_71 : decode cX2_init 71 = .ok (.getfield 45, 3) := by decide +kernel
theorem dX2_init_74 : decode cX2_init 74 = .ok (.iconst 0, 1) := by decide +kernel
theorem dX2_init_75 : decode cX2_init 75 = .ok (.aaload, 1) := by decide +kernel
theorem dX2_init_76 : decode cX2_init 76 = .ok (.putfield 51, 3) := by decide +kernel
theorem dX2_init_79 : decode cX2_init 79 = .ok (.aload_n 0, 1) := by decide +kernel
theorem dX2_init_80 : decode cX2_init 80 = .ok (.aload_n 1, 1) := by decide +kernel
theorem dX2_init_81 : decode cX2_init 81 = .ok (.getfield 55, 3) := by decide +kernel
theorem dX2_init_84 : decode cX2_init 84 = .ok (.iconst 0, 1) := by decide +kernel
theorem dX2_init_85 : decode cX2_init 85 = .ok (.aaload, 1) := by decide +kernel
theorem dX2_init_86 : decode cX2_init 86 = .ok (.putfield 59, 3) := by decide +kernel
theorem dX2_init_89 : decode cX2_init 89 = .ok (.iconst 0, 1) := by decide +kernel
theorem dX2_init_90 : decode cX2_init 90 = .ok (.istore_n 2, 1) := by decide +kernel
theorem dX2_init_91 : decode cX2_init 91 = .ok (.iload_n 2, 1) := by decide +kernel
theorem dX2_init_92 : decode cX2_init 92 = .ok (.iconst 4, 1) := by decide +kernel
theorem dX2_init_93 : decode cX2_init 93 = .ok (.if_icmp .ge 22, 3) := by decide +kernel
theorem dX2_init_96 : decode cX2_init 96 = .ok (.aload_n 0, 1) := by decide +kernel
theorem dX2_init_97 : decode cX2_init 97 = .ok (.getfield 11, 3) := by decide +kernel
theorem dX2_init_100 : decode cX2_init 100 = .ok (.iload_n 2, 1) := by decide +kernel
theorem dX2_init_101 : decode cX2_init 101 = .ok (.new 9, 3) := by decide +kernel
theorem dX2_init_104 : decode cX2_init 104 = .ok (.dup, 1) := by decide +kernel
theorem dX2_init_105 : decode cX2_init 105 = .ok (.invokespecial 63, 3) := by decide +kernel
theorem dX2_init_108 : decode cX2_init 108 = .ok (.aastore, 1) := by decide +kernel
theorem dX2_init_109 : decode cX2_init 109 = .ok (.iinc 2 1, 3) := by decide +kernel
theorem dX2_init_112 : decode cX2_init 112 = .ok (.goto (-21), 3) := by decide +kernel
theorem dX2_init_115 : decode cX2_init 115 = .ok (.return_, 1) := by decide +kernel
set_option maxRecDepth 20000 in
theorem B_X2_init_0 {G : Gx} {X : Cx} {h : PH} {k n : Nat} {Q : State → Prop} {S : List PV} {a0 : Nat} {a1 : Nat} (C : CX_X2_init G X) (q1 : 2 ≤ a0 := by first | assumption | omega) (hS : S.length ≤ 4 := by decide) (hk2 : k + 1 ≤ 29) (hn3 : n + 4 ≤ 41505) (kk : PW G X 3 Q (k + 1) (n + 4) 9 [some (.inr a0), some (.inr a1), none] (.inr (ph_S h + 2) :: .inr a0 :: S) (ph_new h 12 4)) : PW G X 3 Q k n 0 [some (.inr a0), some (.inr a1), none] (S) h := by
  refine pw_aload_n C dX2_init_0 rfl ?_
  refine pw_objInit C q1 kw206 kw55 kwObj dX2_init_1 (by decide) (by simp only [List.length_cons]; omega) ?_
  refine pw_aload_n C dX2_init_4 rfl ?_
  refine pw_iconst C dX2_init_5 ?_
  refine pw_anew C (t := 12) (by decide) rfl kw207 C.2.2.2.2.2.2.2.2.1.2.2.2.1 dX2_init_6 (by unfold pR; decide) (by decide) (by decide) hk2 hn3 ?_
  exact kk
set_option maxRecDepth 20000 in
theorem B_X2_init_9 {G : Gx} {X : Cx} {h : PH} {k n : Nat} {Q : State → Prop} {S : List PV} {a0 : Nat} {a1 : Nat} {s0 : Nat} {s1 : Nat} (C : CX_X2_init G X) (t1 : ph_T h s1 = 2 := by first | assumption | rfl) (hk2 : k + 1 ≤ 29) (hn3 : n + 38836 ≤ 41505) (kk : PW G X 3 Q (k + 1) (n + 38836) 17 [some (.inr a0), some (.inr a1), none] (.inr (ph_S (ph_setR h s1 1 s0) + 2) :: .inr a0 :: S) (ph_new (ph_setR h s1 1 s0) 8 38836)) : PW G X 3 Q k n 9 [some (.inr a0), some (.inr a1), none] (.inr s0 :: .inr s1 :: S) h := by
  refine pw_putR C (t := 2) (f := 1) rfl inF2 tyX2_ok nmX2 rfl (by decide) (by decide) rfl (Or.inr ⟨rfl, rfl, rfl⟩) (Or.inr ⟨_, rfl⟩) kw277 dX2_init_9 t1 ?_
  refine pw_aload_n C dX2_init_12 rfl ?_
  refine pw_ldc C (z := 38836) kw209 rfl dX2_init_13 ?_
  refine pw_newarr C (t := 8) (atype := .int) (by decide) (by decide) rfl kw144 rfl (fun U cA z => z) dX2_init_15 (by unfold pR; decide) (by decide) (by decide) hk2 hn3 ?_
  exact kk
set_option maxRecDepth 20000 in
theorem B_X2_init_17 {G : Gx} {X : Cx} {h : PH} {k n : Nat} {Q : State → Prop} {S : List PV} {a0 : Nat} {a1 : Nat} {s0 : Nat} {s1 : Nat} (C : CX_X2_init G X) (t1 : ph_T h s1 = 2 := by first | assumption | rfl) (hk2 : k + 1 ≤ 29) (hn3 : n + 511 ≤ 41505) (kk : PW G X 3 Q (k + 1) (n + 511) 26 [some (.inr a0), some (.inr a1), none] (.inr (ph_S (ph_setR h s1 2 s0) + 2) :: .inr a0 :: S) (ph_new (ph_setR h s1 2 s0) 8 511)) : PW G X 3 Q k n 17 [some (.inr a0), some (.inr a1), none] (.inr s0 :: .inr s1 :: S) h := by
  refine pw_putR C (t := 2) (f := 2) rfl inF2 tyX2_ok nmX2 rfl (by decide) (by decide) rfl (Or.inr ⟨rfl, rfl, rfl⟩) (Or.inr ⟨_, rfl⟩) kw278 dX2_init_17 t1 ?_
  refine pw_aload_n C dX2_init_20 rfl ?_
  refine pw_sipush C dX2_init_21 rfl ?_
  refine pw_newarr C (t := 8) (atype := .int) (by decide) (by decide) rfl kw144 rfl (fun U cA z => z) dX2_init_24 (by unfold pR; decide) (by decide) (by decide) hk2 hn3 ?_
  exact kk
set_option maxRecDepth 20000 in
theorem B_X2_init_26 {G : Gx} {X : Cx} {h : PH} {k n : Nat} {Q : State → Prop} {S : List PV} {a0 : Nat} {a1 : Nat} {s0 : Nat} {s1 : Nat} (C : CX_X2_init G X) (t1 : ph_T h s1 = 2 := by first | assumption | rfl) (hk2 : k + 1 ≤ 29) (hn3 : n + 525 ≤ 41505) (kk : PW G X 3 Q (k + 1) (n + 525) 35 [some (.inr a0), some (.inr a1), none] (.inr (ph_S (ph_setR h s1 3 s0) + 2) :: .inr a0 :: S) (ph_new (ph_setR h s1 3 s0) 8 525)) : PW G X 3 Q k n 26 [some (.inr a0), some (.inr a1), none] (.inr s0 :: .inr s1 :: S) h := by
  refine pw_putR C (t := 2) (f := 3) rfl inF2 tyX2_ok nmX2 rfl (by decide) (by decide) rfl (Or.inr ⟨rfl, rfl, rfl⟩) (Or.inr ⟨_, rfl⟩) kw279 dX2_init_26 t1 ?_
  refine pw_aload_n C dX2_init_29 rfl ?_
  refine pw_sipush C dX2_init_30 rfl ?_
  refine pw_newarr C (t := 8) (atype := .int) (by decide) (by decide) rfl kw144 rfl (fun U cA z => z) dX2_init_33 (by unfold pR; decide) (by decide) (by decide) hk2 hn3 ?_
  exact kk
set_option maxRecDepth 20000 in
theorem B_X2_init_35 {G : Gx} {X : Cx} {h : PH} {k n : Nat} {Q : State → Prop} {S : List PV} {a0 : Nat} {a1 : Nat} {s0 : Nat} {s1 : Nat} (C : CX_X2_init G X) (t1 : ph_T h s1 = 2 := by first | assumption | rfl) (hk2 : k + 1 ≤ 29) (hn3 : n + 525 ≤ 41505) (kk : PW G X 3 Q (k + 1) (n + 525) 44 [some (.inr a0), some (.inr a1), none] (.inr (ph_S (ph_setR h s1 4 s0) + 2) :: .inr a0 :: S) (ph_new (ph_setR h s1 4 s0) 8 525)) : PW G X 3 Q k n 35 [some (.inr a0), some (.inr a1), none] (.inr s0 :: .inr s1 :: S) h := by
  refine pw_putR C (t := 2) (f := 4) rfl inF2 tyX2_ok nmX2 rfl (by decide) (by decide) rfl (Or.inl rfl) (Or.inr ⟨_, rfl⟩) kw280 dX2_init_35 t1 ?_
  refine pw_aload_n C dX2_init_38 rfl ?_
  refine pw_sipush C dX2_init_39 rfl ?_
  refine pw_newarr C (t := 8) (atype := .int) (by decide) (by decide) rfl kw144 rfl (fun U cA z => z) dX2_init_42 (by unfold pR; decide) (by decide) (by decide) hk2 hn3 ?_
  exact kk
set_option maxRecDepth 20000 in
theorem B_X2_init_44 {G : Gx} {X : Cx} {h : PH} {k n : Nat} {Q : State → Prop} {S : List PV} {a0 : Nat} {a1 : Nat} {s0 : Nat} {s1 : Nat} {r7 : Nat} {m13 : Nat} {m13E : String} {r14 : Nat} {r18 : Nat} {m24 : Nat} {m24E : String} {r25 : Nat} (C : CX_X2_init G X) (t1 : ph_T h s1 = 2 := by first | assumption | rfl) (t2 : ph_T h a0 = 2 := by first | assumption | rfl) (t3 : ph_T h a0 = 2 := by first | assumption | rfl) (t4 : ph_T h a0 = 2 := by first | assumption | rfl) (t5 : ph_T h a0 = 2 := by first | assumption | rfl) (t6 : ph_T h a1 = 5 := by first | assumption | rfl) (e8 : ph_R (ph_setR (ph_setR h s1 5 s0) a0 0 a1) a1 1 = r7 := by first | assumption | rfl) (m13a : ¬ m13 < 10 := by decide) (m13b : m13 < 14 := by decide) (t9 : ph_T h r7 = m13 := by first | assumption | rfl) (m13c : (pw_tys G)[m13 - 8]? = some (G.2.2.2.2 m13, .object m13E) := by rfl) (q10 : (0 : Int) ≤ 0 := by first | assumption | omega) (q11 : 0 < (ph_L h r7 : Int) := by first | assumption | omega) (q12 : pR 0 := by first | assumption | (unfold pR; omega)) (e15 : ph_R (ph_setR (ph_setR h s1 5 s0) a0 0 a1) r7 0 = r14 := by first | assumption | rfl) (t16 : ph_T h a0 = 2 := by first | assumption | rfl) (t17 : ph_T h a1 = 5 := by first | assumption | rfl) (e19 : ph_R (ph_setR (ph_setR (ph_setR h s1 5 s0) a0 0 a1) a0 6 r14) a1 0 = r18 := by first | assumption | rfl) (m24a : ¬ m24 < 10 := by decide) (m24b : m24 < 14 := by decide) (t20 : ph_T h r18 = m24 := by first | assumption | rfl) (m24c : (pw_tys G)[m24 - 8]? = some (G.2.2.2.2 m24, .object m24E) := by rfl) (q21 : (0 : Int) ≤ 0 := by first | assumption | omega) (q22 : 0 < (ph_L h r18 : Int) := by first | assumption | omega) (q23 : pR 0 := by first | assumption | (unfold pR; omega)) (e26 : ph_R (ph_setR (ph_setR (ph_setR h s1 5 s0) a0 0 a1) a0 6 r14) r18 0 = r25 := by first | assumption | rfl) (t27 : ph_T h a0 = 2 := by first | assumption | rfl) (kk : PW G X 3 Q k n 91 [some (.inr a0), some (.inr a1), some (.inl 0)] (S) (ph_setR (ph_setR (ph_setR (ph_setI (ph_setI (ph_setI (ph_setR h s1 5 s0) a0 8 0) a0 9 (-6)) a0 10 (-6)) a0 0 a1) a0 6 r14) a0 7 r25)) : PW G X 3 Q k n 44 [some (.inr a0), some (.inr a1), none] (.inr s0 :: .inr s1 :: S) h := by
  refine pw_putR C (t := 2) (f := 5) rfl inF2 tyX2_ok nmX2 rfl (by decide) (by decide) rfl (Or.inl rfl) (Or.inr ⟨_, rfl⟩) kw281 dX2_init_44 t1 ?_
  refine pw_aload_n C dX2_init_47 rfl ?_
  refine pw_iconst C dX2_init_48 ?_
  refine pw_putI C (t := 2) (f := 8) rfl inF2 tyX2_ok nmX2 rfl (by decide) (by decide) rfl (Or.inl rfl) (Or.inl rfl) kw284 dX2_init_49 t2 ?_
  refine pw_aload_n C dX2_init_52 rfl ?_
  refine pw_bipush C dX2_init_53 rfl ?_
  refine pw_putI C (t := 2) (f := 9) rfl inF2 tyX2_ok nmX2 rfl (by decide) (by decide) rfl (Or.inl rfl) (Or.inl rfl) kw285 dX2_init_55 t3 ?_
  refine pw_aload_n C dX2_init_58 rfl ?_
  refine pw_bipush C dX2_init_59 rfl ?_
  refine pw_putI C (t := 2) (f := 10) rfl inF2 tyX2_ok nmX2 rfl (by decide) (by decide) rfl (Or.inl rfl) (Or.inl rfl) kw286 dX2_init_61 t4 ?_
  refine pw_aload_n C dX2_init_64 rfl ?_
  refine pw_aload_n C dX2_init_65 rfl ?_
  refine pw_putR C (t := 2) (f := 0) rfl inF2 tyX2_ok nmX2 rfl (by decide) (by decide) rfl (Or.inr ⟨rfl, rfl, rfl⟩) (Or.inl ⟨_, rfl⟩) kw276 dX2_init_66 t5 ?_
  refine pw_aload_n C dX2_init_69 rfl ?_
  refine pw_aload_n C dX2_init_70 rfl ?_
  refine pw_getR C (t := 5) (f := 1) rfl inF5 rfl (by decide) (by decide) rfl kw180 dX2_init_71 t6 ?_
  rw [show ph_R (ph_setR (ph_setI (ph_setI (ph_setI (ph_setR h s1 5 s0) a0 8 0) a0 9 (-6)) a0 10 (-6)) a0 0 a1) a1 1 = r7 from e8]
  refine pw_iconst C dX2_init_74 ?_
  refine pw_aald C (t := m13) dX2_init_75 t9 m13a m13b m13c q10 q11 q12 ?_
  rw [show ph_R (ph_setR (ph_setI (ph_setI (ph_setI (ph_setR h s1 5 s0) a0 8 0) a0 9 (-6)) a0 10 (-6)) a0 0 a1) r7 (Int.toNat 0) = r14 from e15]
  refine pw_putR C (t := 2) (f := 6) rfl inF2 tyX2_ok nmX2 rfl (by decide) (by decide) rfl (Or.inl rfl) (Or.inl ⟨_, rfl⟩) kw282 dX2_init_76 t16 ?_
  refine pw_aload_n C dX2_init_79 rfl ?_
  refine pw_aload_n C dX2_init_80 rfl ?_
  refine pw_getR C (t := 5) (f := 0) rfl inF5 rfl (by decide) (by decide) rfl kw177 dX2_init_81 t17 ?_
  rw [show ph_R (ph_setR (ph_setR (ph_setI (ph_setI (ph_setI (ph_setR h s1 5 s0) a0 8 0) a0 9 (-6)) a0 10 (-6)) a0 0 a1) a0 6 r14) a1 0 = r18 from e19]
  refine pw_iconst C dX2_init_84 ?_
  refine pw_aald C (t := m24) dX2_init_85 t20 m24a m24b m24c q21 q22 q23 ?_
  rw [show ph_R (ph_setR (ph_setR (ph_setI (ph_setI (ph_setI (ph_setR h s1 5 s0) a0 8 0) a0 9 (-6)) a0 10 (-6)) a0 0 a1) a0 6 r14) r18 (Int.toNat 0) = r25 from e26]
  refine pw_putR C (t := 2) (f := 7) rfl inF2 tyX2_ok nmX2 rfl (by decide) (by decide) rfl (Or.inl rfl) (Or.inl ⟨_, rfl⟩) kw283 dX2_init_86 t27 ?_
  refine pw_iconst C dX2_init_89 ?_
  refine pw_istore_n C dX2_init_90 (by decide) ?_
  exact kk
set_option maxRecDepth 20000 in
theorem B_X2_init_91 {G : Gx} {X : Cx} {h : PH} {k n : Nat} {Q : State → Prop} {S : List PV} {a0 : Nat} {a1 : Nat} {a2 : Int} (C : CX_X2_init G X) (q1 : pR a2 := by first | assumption | (unfold pR; omega)) (q2 : pR 4 := by first | assumption | (unfold pR; omega)) (kt : 4 ≤ a2 → PW G X 3 Q k n 115 [some (.inr a0), some (.inr a1), some (.inl a2)] (S) h) (kf : ¬ 4 ≤ a2 → PW G X 3 Q k n 96 [some (.inr a0), some (.inr a1), some (.inl a2)] (S) h) : PW G X 3 Q k n 91 [some (.inr a0), some (.inr a1), some (.inl a2)] (S) h := by
  refine pw_iload_n C dX2_init_91 rfl ?_
  refine pw_iconst C dX2_init_92 ?_
  exact pw_icmp_ge C 115 dX2_init_93 (by decide) q1 q2 kt kf
set_option maxRecDepth 20000 in
theorem B_X2_init_96 {G : Gx} {X : Cx} {h : PH} {k n : Nat} {Q : State → Prop} {S : List PV} {a0 : Nat} {a1 : Nat} {a2 : Int} {r2 : Nat} (C : CX_X2_init G X) (t1 : ph_T h a0 = 2 := by first | assumption | rfl) (e3 : ph_R h a0 1 = r2 := by first | assumption | rfl) (hk4 : k + 1 ≤ 29) (hn5 : n + 14 ≤ 41505) (kk : PW G X 3 Q (k + 1) (n + 14) 104 [some (.inr a0), some (.inr a1), some (.inl a2)] (.inr (ph_S h + 2) :: .inl a2 :: .inr r2 :: S) (ph_new h 4 14)) : PW G X 3 Q k n 96 [some (.inr a0), some (.inr a1), some (.inl a2)] (S) h := by
  refine pw_aload_n C dX2_init_96 rfl ?_
  refine pw_getR C (t := 2) (f := 1) rfl inF2 rfl (by decide) (by decide) rfl kw277 dX2_init_97 t1 ?_
  rw [e3]
  refine pw_iload_n C dX2_init_100 rfl ?_
  refine pw_new C (t := 4) rfl inF4 tyX4_ok rfl (by decide) (by decide +kernel) kw207 kw210 kw44 dX2_init_101 hk4 hn5 ?_
  exact kk
set_option maxRecDepth 20000 in
theorem B_X2_init_104 {G : Gx} {X : Cx} {h : PH} {k n : Nat} {Q : State → Prop} {S : List PV} {a0 : Nat} {a1 : Nat} {a2 : Int} {s0 : Nat} {s1 : Int} {s2 : Nat} {PQ : Option PV → PH → Prop} (C : CX_X2_init G X) (q1 : 2 ≤ s0 := by first | assumption | omega) (hM : CT_X4_init G X.2.1 [.inr s0] h PQ) (hkc : k + 5 ≤ 29) (hnc : n + 262 ≤ 41505) (hS : S.length ≤ 5 := by decide) (kk : ∀ r h', PQ r h' → PW G X 3 Q (k + 5) (n + 262) 108 [some (.inr a0), some (.inr a1), some (.inl a2)] (r.toList ++ (.inr s0 :: .inl s1 :: .inr s2 :: S)) h') : PW G X 3 Q k n 104 [some (.inr a0), some (.inr a1), some (.inl a2)] (.inr s0 :: .inl s1 :: .inr s2 :: S) h := by
  refine pw_dup C dX2_init_104 ?_
  exact pw_callIN C (na := 0) (As := []) (S := .inr s0 :: .inl s1 :: .inr s2 :: S) hM q1 C.2.2.2.2.2.2.2.2.1.1.2.2.2.1 kw212 kw44 kw213 rfl (by decide +kernel) rfl dX2_init_105 (by decide) (by decide) hkc hnc (by first | exact hS | (simp only [List.length_cons]; omega)) kk
set_option maxRecDepth 20000 in
theorem B_X2_init_108 {G : Gx} {X : Cx} {h : PH} {k n : Nat} {Q : State → Prop} {S : List PV} {a0 : Nat} {a1 : Nat} {a2 : Int} {s0 : Nat} {s1 : Int} {s2 : Nat} {m6 m6v : Nat} {m6r : vw_C} (C : CX_X2_init G X) (t1 : ph_T h s2 = m6 := by first | assumption | rfl) (t2 : ph_T h s0 = m6v := by first | assumption | rfl) (m6a : ¬ m6 < 10 := by decide) (m6b : m6 < 14 := by decide) (m6d : m6v < 8 := by decide) (m6e : vwCl[m6v]? = some m6r := by rfl) (m6c : (pw_tys G)[m6 - 8]? = some (G.2.2.2.2 m6, .object m6r.1) := by rfl) (q3 : (0 : Int) ≤ s1 := by first | assumption | omega) (q4 : s1 < (ph_L h s2 : Int) := by first | assumption | omega) (q5 : pR s1 := by first | assumption | (unfold pR; omega)) (kk : PW G X 3 Q k n 91 [some (.inr a0), some (.inr a1), some (.inl (a2 + 1))] (S) (ph_setR h s2 (Int.toNat s1) s0)) : PW G X 3 Q k n 108 [some (.inr a0), some (.inr a1), some (.inl a2)] (.inr s0 :: .inl s1 :: .inr s2 :: S) h := by
  refine pw_aast C (t := m6) (te := m6v) (r := m6r) dX2_init_108 t1 m6a m6b m6c t2 m6d m6e q3 q4 q5 ?_
  refine pw_iinc C dX2_init_109 rfl (by decide) ?_
  refine pw_goto C 91 dX2_init_112 (by decide) ?_
  exact kk
set_option maxRecDepth 20000 in
theorem B_X2_init_115 {G : Gx} {X : Cx} {h : PH} {k n : Nat} {a0 : Nat} {a1 : Nat} {a2 : Int} {PQ : Option PV → PH → Prop} (C : CX_X2_init G X) (hq : PQ none h) : PW G X 3 (pw_E G X PQ k n) k n 115 [some (.inr a0), some (.inr a1), some (.inl a2)] [] h := by
  exact pw_vreturn C dX2_init_115 hq
theorem dX2_forgetWays_0 : decode cX2_forgetWays 0 = .ok (.iconst 0, 1) := by decide +kernel
theorem dX2_forgetWays_1 : decode cX2_forgetWays 1 = .ok (.istore_n 1, 1) := by decide +kernel
theorem dX2_forgetWays_2 : decode cX2_forgetWays 2 = .ok (.iload_n 1, 1) := by decide +kernel
theorem dX2_forgetWays_3 : decode cX2_forgetWays 3 = .ok (.iconst 4, 1) := by decide +kernel
theorem dX2_forgetWays_4 : decode cX2_forgetWays 4 = .ok (.if_icmp .ge 20, 3) := by decide +kernel
theorem dX2_forgetWays_7 : decode cX2_forgetWays 7 = .ok (.aload_n 0, 1) := by decide +kernel
theorem dX2_forgetWays_8 : decode cX2_forgetWays 8 = .ok (.getfield 11, 3) := by decide +kernel
theorem dX2_forgetWays_11 : decode cX2_forgetWays 11 = .ok (.iload_n 1, 1) := by decide +kernel
theorem dX2_forgetWays_12 : decode cX2_forgetWays 12 = .ok (.aaload, 1) := by decide +kernel
theorem dX2_forgetWays_13 : decode cX2_forgetWays 13 = .ok (.bipush (-6), 2) := by decide +kernel
theorem dX2_forgetWays_15 : decode cX2_forgetWays 15 = .ok (.putfield 64, 3) := by decide +kernel
theorem dX2_forgetWays_18 : decode cX2_forgetWays 18 = .ok (.iinc 1 1, 3) := by decide +kernel
theorem dX2_forgetWays_21 : decode cX2_forgetWays 21 = .ok (.goto (-19), 3) := by decide +kernel
theorem dX2_forgetWays_24 : decode cX2_forgetWays 24 = .ok (.return_, 1) := by decide +kernel
set_option maxRecDepth 20000 in
theorem B_X2_forgetWays_0 {G : Gx} {X : Cx} {h : PH} {k n : Nat} {Q : State → Prop} {S : List PV} {a0 : Nat} (C : CX_X2_forgetWays G X) (kk : PW G X 2 Q k n 2 [some (.inr a0), some (.inl 0)] (S) h) : PW G X 2 Q k n 0 [some (.inr a0), none] (S) h := by
  refine pw_iconst C dX2_forgetWays_0 ?_
  refine pw_istore_n C dX2_forgetWays_1 (by decide) ?_
  exact kk
set_option maxRecDepth 20000 in
theorem B_X2_forgetWays_2 {G : Gx} {X : Cx} {h : PH} {k n : Nat} {Q : State → Prop} {S : List PV} {a0 : Nat} {a1 : Int} (C : CX_X2_forgetWays G X) (q1 : pR a1 := by first | assumption | (unfold pR; omega)) (q2 : pR 4 := by first | assumption | (unfold pR; omega)) (kt : 4 ≤ a1 → PW G X 2 Q k n 24 [some (.inr a0), some (.inl a1)] (S) h) (kf : ¬ 4 ≤ a1 → PW G X 2 Q k n 7 [some (.inr a0), some (.inl a1)] (S) h) : PW G X 2 Q k n 2 [some (.inr a0), some (.inl a1)] (S) h := by
  refine pw_iload_n C dX2_forgetWays_2 rfl ?_
  refine pw_iconst C dX2_forgetWays_3 ?_
  exact pw_icmp_ge C 24 dX2_forgetWays_4 (by decide) q1 q2 kt kf
set_option maxRecDepth 20000 in
theorem B_X2_forgetWays_7 {G : Gx} {X : Cx} {h : PH} {k n : Nat} {Q : State → Prop} {S : List PV} {a0 : Nat} {a1 : Int} {r2 : Nat} {m8 : Nat} {m8E : String} {r9 : Nat} (C : CX_X2_forgetWays G X) (t1 : ph_T h a0 = 2 := by first | assumption | rfl) (e3 : ph_R h a0 1 = r2 := by first | assumption | rfl) (m8a : ¬ m8 < 10 := by decide) (m8b : m8 < 14 := by decide) (t4 : ph_T h r2 = m8 := by first | assumption | rfl) (m8c : (pw_tys G)[m8 - 8]? = some (G.2.2.2.2 m8, .object m8E) := by rfl) (q5 : (0 : Int) ≤ a1 := by first | assumption | omega) (q6 : a1 < (ph_L h r2 : Int) := by first | assumption | omega) (q7 : pR a1 := by first | assumption | (unfold pR; omega)) (e10 : ph_R h r2 (Int.toNat a1) = r9 := by first | assumption | rfl) (t11 : ph_T h r9 = 4 := by first | assumption | rfl) (kk : PW G X 2 Q k n 2 [some (.inr a0), some (.inl (a1 + 1))] (S) (ph_setI h r9 5 (-6))) : PW G X 2 Q k n 7 [some (.inr a0), some (.inl a1)] (S) h := by
  refine pw_aload_n C dX2_forgetWays_7 rfl ?_
  refine pw_getR C (t := 2) (f := 1) rfl inF2 rfl (by decide) (by decide) rfl kw277 dX2_forgetWays_8 t1 ?_
  rw [e3]
  refine pw_iload_n C dX2_forgetWays_11 rfl ?_
  refine pw_aald C (t := m8) dX2_forgetWays_12 t4 m8a m8b m8c q5 q6 q7 ?_
  rw [e10]
  refine pw_bipush C dX2_forgetWays_13 rfl ?_
  refine pw_putI C (t := 4) (f := 5) rfl inF4 tyX4_ok nmX4 rfl (by decide) (by decide) rfl (Or.inl rfl) (Or.inl rfl) kw228 dX2_forgetWays_15 t11 ?_
  refine pw_iinc C dX2_forgetWays_18 rfl (by decide) ?_
  refine pw_goto C 2 dX2_forgetWays_21 (by decide) ?_
  exact kk
set_option maxRecDepth 20000 in
theorem B_X2_forgetWays_24 {G : Gx} {X : Cx} {h : PH} {k n : Nat} {a0 : Nat} {a1 : Int} {PQ : Option PV → PH → Prop} (C : CX_X2_forgetWays G X) (hq : PQ none h) : PW G X 2 (pw_E G X PQ k n) k n 24 [some (.inr a0), some (.inl a1)] [] h := by
  exact pw_vreturn C dX2_forgetWays_24 hq
theorem dX2_bestWay_0 : decode cX2_bestWay 0 = .ok (.aload_n 0, 1) := by decide +kernel
theorem dX2_bestWay_1 : decode cX2_bestWay 1 = .ok (.getfield 11, 3) := by decide +kernel
theorem dX2_bestWay_4 : decode cX2_bestWay 4 = .ok (.iload_n 1, 1) := by decide +kernel
theorem dX2_bestWay_5 : decode cX2_bestWay 5 = .ok (.aaload, 1) := by decide +kernel
theorem dX2_bestWay_6 : decode cX2_bestWay 6 = .ok (.astore_n 3, 1) := by decide +kernel
theorem dX2_bestWay_7 : decode cX2_bestWay 7 = .ok (.aload_n 3, 1) := by decide +kernel
theorem dX2_bestWay_8 : decode cX2_bestWay 8 = .ok (.getfield 64, 3) := by decide +kernel
theorem dX2_bestWay_11 : decode cX2_bestWay 11 = .ok (.aload_n 2, 1) := by decide +kernel
theorem dX2_bestWay_12 : decode cX2_bestWay 12 = .ok (.getfield 67, 3) := by decide +kernel
theorem dX2_bestWay_15 : decode cX2_bestWay 15 = .ok (.if_icmp .eq 67, 3) := by decide +kernel
theorem dX2_bestWay_18 : decode cX2_bestWay 18 = .ok (.aload_n 0, 1) := by decide +kernel
theorem dX2_bestWay_19 : decode cX2_bestWay 19 = .ok (.aload_n 0, 1) := by decide +kernel
theorem dX2_bestWay_20 : decode cX2_bestWay 20 = .ok (.getfield 41, 3) := by decide +kernel
theorem dX2_bestWay_23 : decode cX2_bestWay 23 = .ok (.getfield 45, 3) := by decide +kernel
theorem dX2_bestWay_26 : decode cX2_bestWay 26 = .ok (.iload_n 1, 1) := by decide +kernel
theorem dX2_bestWay_27 : decode cX2_bestWay 27 = .ok (.aaload, 1) := by decide +kernel
theorem dX2_bestWay_28 : decode cX2_bestWay 28 = .ok (.putfield 51, 3) := by decide +kernel
theorem dX2_bestWay_31 : decode cX2_bestWay 31 = .ok (.aload_n 0, 1) := by decide +kernel
theorem dX2_bestWay_32 : decode cX2_bestWay 32 = .ok (.aload_n 2, 1) := by decide +kernel
theorem dX2_bestWay_33 : decode cX2_bestWay 33 = .ok (.putfield 59, 3) := by decide +kernel
theorem dX2_bestWay_36 : decode cX2_bestWay 36 = .ok (.aload_n 0, 1) := by decide +kernel
theorem dX2_bestWay_37 : decode cX2_bestWay 37 = .ok (.bipush 76, 2) := by decide +kernel
theorem dX2_bestWay_39 : decode cX2_bestWay 39 = .ok (.aload_n 0, 1) := by decide +kernel
theorem dX2_bestWay_40 : decode cX2_bestWay 40 = .ok (.getfield 59, 3) := by decide +kernel
theorem dX2_bestWay_43 : decode cX2_bestWay 43 = .ok (.invokevirtual 70, 3) := by decide +kernel
theorem dX2_bestWay_46 : decode cX2_bestWay 46 = .ok (.aload_n 0, 1) := by decide +kernel
theorem dX2_bestWay_47 : decode cX2_bestWay 47 = .ok (.getfield 51, 3) := by decide +kernel
theorem dX2_bestWay_50 : decode cX2_bestWay 50 = .ok (.getfield 74, 3) := by decide +kernel
theorem dX2_bestWay_53 : decode cX2_bestWay 53 = .ok (.isub, 1) := by decide +kernel
theorem dX2_bestWay_54 : decode cX2_bestWay 54 = .ok (.iconst 1, 1) := by decide +kernel
theorem dX2_bestWay_55 : decode cX2_bestWay 55 = .ok (.iadd, 1) := by decide +kernel
theorem dX2_bestWay_56 : decode cX2_bestWay 56 = .ok (.invokestatic 79, 3) := by decide +kernel
theorem dX2_bestWay_59 : decode cX2_bestWay 59 = .ok (.putfield 31, 3) := by decide +kernel
theorem dX2_bestWay_62 : decode cX2_bestWay 62 = .ok (.aload_n 3, 1) := by decide +kernel
theorem dX2_bestWay_63 : decode cX2_bestWay 63 = .ok (.aload_n 0, 1) := by decide +kernel
theorem dX2_bestWay_64 : decode cX2_bestWay 64 = .ok (.getfield 59, 3) := by decide +kernel
theorem dX2_bestWay_67 : decode cX2_bestWay 67 = .ok (.getfield 67, 3) := by decide +kernel
theorem dX2_bestWay_70 : decode cX2_bestWay 70 = .ok (.invokevirtual 85, 3) := by decide +kernel
theorem dX2_bestWay_73 : decode cX2_bestWay 73 = .ok (.aload_n 0, 1) := by decide +kernel
theorem dX2_bestWay_74 : decode cX2_bestWay 74 = .ok (.invokevirtual 89, 3) := by decide +kernel
theorem dX2_bestWay_77 : decode cX2_bestWay 77 = .ok (.aload_n 0, 1) := by decide +kernel
theorem dX2_bestWay_78 : decode cX2_bestWay 78 = .ok (.aload_n 3, 1) := by decide +kernel
theorem dX2_bestWay_79 : decode cX2_bestWay 79 = .ok (.invokevirtual 92, 3) := by decide +kernel
theorem dX2_bestWay_82 : decode cX2_bestWay 82 = .ok (.aload_n 3, 1) := by decide +kernel
theorem dX2_bestWay_83 : decode cX2_bestWay 83 = .ok (.areturn, 1) := by decide +kernel
set_option maxRecDepth 20000 in
theorem B_X2_bestWay_0 {G : Gx} {X : Cx} {h : PH} {k n : Nat} {Q : State → Prop} {S : List PV} {a0 : Nat} {a1 : Int} {a2 : Nat} {r2 : Nat} {m8 : Nat} {m8E : String} {r9 : Nat} {x13 : Int} {x16 : Int} (C : CX_X2_bestWay G X) (t1 : ph_T h a0 = 2 := by first | assumption | rfl) (e3 : ph_R h a0 1 = r2 := by first | assumption | rfl) (m8a : ¬ m8 < 10 := by decide) (m8b : m8 < 14 := by decide) (t4 : ph_T h r2 = m8 := by first | assumption | rfl) (m8c : (pw_tys G)[m8 - 8]? = some (G.2.2.2.2 m8, .object m8E) := by rfl) (q5 : (0 : Int) ≤ a1 := by first | assumption | omega) (q6 : a1 < (ph_L h r2 : Int) := by first | assumption | omega) (q7 : pR a1 := by first | assumption | (unfold pR; omega)) (e10 : ph_R h r2 (Int.toNat a1) = r9 := by first | assumption | rfl) (q11 : 2 ≤ r9 := by first | assumption | omega) (t12 : ph_T h r9 = 4 := by first | assumption | rfl) (e14 : ph_I h r9 5 = x13 := by first | assumption | rfl) (t15 : ph_T h a2 = 0 := by first | assumption | rfl) (e17 : ph_I h a2 2 = x16 := by first | assumption | rfl) (q18 : pR x13 := by first | assumption | (unfold pR; omega)) (q19 : pR x16 := by first | assumption | (unfold pR; omega)) (kt : x13 = x16 → PW G X 4 Q k n 82 [some (.inr a0), some (.inl a1), some (.inr a2), some (.inr r9)] (S) h) (kf : ¬ x13 = x16 → PW G X 4 Q k n 18 [some (.inr a0), some (.inl a1), some (.inr a2), some (.inr r9)] (S) h) : PW G X 4 Q k n 0 [some (.inr a0), some (.inl a1), some (.inr a2), none] (S) h := by
  refine pw_aload_n C dX2_bestWay_0 rfl ?_
  refine pw_getR C (t := 2) (f := 1) rfl inF2 rfl (by decide) (by decide) rfl kw277 dX2_bestWay_1 t1 ?_
  rw [e3]
  refine pw_iload_n C dX2_bestWay_4 rfl ?_
  refine pw_aald C (t := m8) dX2_bestWay_5 t4 m8a m8b m8c q5 q6 q7 ?_
  rw [e10]
  refine pw_astore_n C dX2_bestWay_6 (by decide) q11 ?_
  refine pw_aload_n C dX2_bestWay_7 rfl ?_
  refine pw_getI C (t := 4) (f := 5) rfl inF4 rfl (by decide) (by decide) rfl kw228 dX2_bestWay_8 t12 ?_
  rw [e14]
  refine pw_aload_n C dX2_bestWay_11 rfl ?_
  refine pw_getI C (t := 0) (f := 2) rfl inF0 rfl (by decide) (by decide) rfl kw114 dX2_bestWay_12 t15 ?_
  rw [e17]
  exact pw_icmp_eq C 82 dX2_bestWay_15 (by decide) q18 q19 kt kf
set_option maxRecDepth 20000 in
theorem B_X2_bestWay_18 {G : Gx} {X : Cx} {h : PH} {k n : Nat} {Q : State → Prop} {S : List PV} {a0 : Nat} {a1 : Int} {a2 : Nat} {a3 : Nat} {r2 : Nat} {r5 : Nat} {m11 : Nat} {m11E : String} {r12 : Nat} {r17 : Nat} {PQ : Option PV → PH → Prop} (C : CX_X2_bestWay G X) (hk0 : k ≤ 0 := by decide) (hn0 : n ≤ 0 := by decide) (t1 : ph_T h a0 = 2 := by first | assumption | rfl) (e3 : ph_R h a0 0 = r2 := by first | assumption | rfl) (t4 : ph_T h r2 = 5 := by first | assumption | rfl) (e6 : ph_R h r2 1 = r5 := by first | assumption | rfl) (m11a : ¬ m11 < 10 := by decide) (m11b : m11 < 14 := by decide) (t7 : ph_T h r5 = m11 := by first | assumption | rfl) (m11c : (pw_tys G)[m11 - 8]? = some (G.2.2.2.2 m11, .object m11E) := by rfl) (q8 : (0 : Int) ≤ a1 := by first | assumption | omega) (q9 : a1 < (ph_L h r5 : Int) := by first | assumption | omega) (q10 : pR a1 := by first | assumption | (unfold pR; omega)) (e13 : ph_R h r5 (Int.toNat a1) = r12 := by first | assumption | rfl) (t14 : ph_T h a0 = 2 := by first | assumption | rfl) (t15 : ph_T h a0 = 2 := by first | assumption | rfl) (t16 : ph_T h a0 = 2 := by first | assumption | rfl) (e18 : ph_R (ph_setR (ph_setR h a0 6 r12) a0 7 a2) a0 7 = r17 := by first | assumption | rfl) (t19 : ph_T h r17 = 0 := by first | assumption | rfl) (hM : CT_X0_lastTick G X.2.1 [.inr r17] (ph_setR (ph_setR h a0 6 r12) a0 7 a2) PQ) (hS : S.length ≤ 6 := by decide) (kk : ∀ r h', PQ r h' → PW G X 4 Q k n 46 [some (.inr a0), some (.inl a1), some (.inr a2), some (.inr a3)] (r.toList ++ (.inl 76 :: .inr a0 :: S)) h') : PW G X 4 Q k n 18 [some (.inr a0), some (.inl a1), some (.inr a2), some (.inr a3)] (S) h := by
  refine pw_aload_n C dX2_bestWay_18 rfl ?_
  refine pw_aload_n C dX2_bestWay_19 rfl ?_
  refine pw_getR C (t := 2) (f := 0) rfl inF2 rfl (by decide) (by decide) rfl kw276 dX2_bestWay_20 t1 ?_
  rw [e3]
  refine pw_getR C (t := 5) (f := 1) rfl inF5 rfl (by decide) (by decide) rfl kw180 dX2_bestWay_23 t4 ?_
  rw [e6]
  refine pw_iload_n C dX2_bestWay_26 rfl ?_
  refine pw_aald C (t := m11) dX2_bestWay_27 t7 m11a m11b m11c q8 q9 q10 ?_
  rw [e13]
  refine pw_putR C (t := 2) (f := 6) rfl inF2 tyX2_ok nmX2 rfl (by decide) (by decide) rfl (Or.inl rfl) (Or.inl ⟨_, rfl⟩) kw282 dX2_bestWay_28 t14 ?_
  refine pw_aload_n C dX2_bestWay_31 rfl ?_
  refine pw_aload_n C dX2_bestWay_32 rfl ?_
  refine pw_putR C (t := 2) (f := 7) rfl inF2 tyX2_ok nmX2 rfl (by decide) (by decide) rfl (Or.inl rfl) (Or.inl ⟨_, rfl⟩) kw283 dX2_bestWay_33 t15 ?_
  refine pw_aload_n C dX2_bestWay_36 rfl ?_
  refine pw_bipush C dX2_bestWay_37 rfl ?_
  refine pw_aload_n C dX2_bestWay_39 rfl ?_
  refine pw_getR C (t := 2) (f := 7) rfl inF2 rfl (by decide) (by decide) rfl kw283 dX2_bestWay_40 t16 ?_
  rw [show ph_R (ph_setR (ph_setR h a0 6 r12) a0 7 a2) a0 7 = r17 from e18]
  exact pw_callV C (na := 0) (As := []) (S := .inl 76 :: .inr a0 :: S) hM t19 (by decide) (hcl := by rfl) kw458 kw459 kw460 kw41 kw461 (by decide +kernel) rfl dX2_bestWay_43 (by decide) (by decide) hk0 hn0 (by first | exact hS | (simp only [List.length_cons]; omega)) kk
set_option maxRecDepth 20000 in
theorem B_X2_bestWay_46 {G : Gx} {X : Cx} {h : PH} {k n : Nat} {Q : State → Prop} {S : List PV} {a0 : Nat} {a1 : Int} {a2 : Nat} {a3 : Nat} {s0 : Int} {s1 : Int} {s2 : Nat} {r2 : Nat} {x5 : Int} {x9 : Int} {r13 : Nat} {x16 : Int} {PQ : Option PV → PH → Prop} (C : CX_X2_bestWay G X) (hk0 : k ≤ 0 := by decide) (hn0 : n ≤ 0 := by decide) (t1 : ph_T h a0 = 2 := by first | assumption | rfl) (e3 : ph_R h a0 6 = r2 := by first | assumption | rfl) (t4 : ph_T h r2 = 1 := by first | assumption | rfl) (e6 : ph_I h r2 2 = x5 := by first | assumption | rfl) (q7 : pR s1 := by first | assumption | (unfold pR; omega)) (q8 : pR ((s0 - x5) + 1) := by first | assumption | (unfold pR; omega)) (hS : S.length ≤ 4 := by decide) (e10 : (if (s0 - x5) + 1 < s1 then (s0 - x5) + 1 else s1) = x9 := by first | assumption | rfl) (t11 : ph_T h s2 = 2 := by first | assumption | rfl) (t12 : ph_T h a0 = 2 := by first | assumption | rfl) (e14 : ph_R h a0 7 = r13 := by first | assumption | rfl) (t15 : ph_T h r13 = 0 := by first | assumption | rfl) (e17 : ph_I (ph_setI h s2 8 x9) r13 2 = x16 := by first | assumption | rfl) (t18 : ph_T h a3 = 4 := by first | assumption | rfl) (hM : CT_X4_clear G X.2.1 [.inr a3, .inl x16] (ph_setI h s2 8 x9) PQ) (hS : S.length ≤ 8 := by decide) (kk : ∀ r h', PQ r h' → PW G X 4 Q k n 73 [some (.inr a0), some (.inl a1), some (.inr a2), some (.inr a3)] (r.toList ++ S) h') : PW G X 4 Q k n 46 [some (.inr a0), some (.inl a1), some (.inr a2), some (.inr a3)] (.inl s0 :: .inl s1 :: .inr s2 :: S) h := by
  refine pw_aload_n C dX2_bestWay_46 rfl ?_
  refine pw_getR C (t := 2) (f := 6) rfl inF2 rfl (by decide) (by decide) rfl kw282 dX2_bestWay_47 t1 ?_
  rw [e3]
  refine pw_getI C (t := 1) (f := 2) rfl inF1 rfl (by decide) (by decide) rfl kw157 dX2_bestWay_50 t4 ?_
  rw [e6]
  refine pw_isub C dX2_bestWay_53 ?_
  refine pw_iconst C dX2_bestWay_54 ?_
  refine pw_iadd C dX2_bestWay_55 ?_
  refine pw_min C kw462 kw424 kw46 kwMin dX2_bestWay_56 (by decide) (by simp only [List.length_cons]; omega) hk0 hn0 q7 q8 ?_
  rw [e10]
  refine pw_putI C (t := 2) (f := 8) rfl inF2 tyX2_ok nmX2 rfl (by decide) (by decide) rfl (Or.inl rfl) (Or.inl rfl) kw284 dX2_bestWay_59 t11 ?_
  refine pw_aload_n C dX2_bestWay_62 rfl ?_
  refine pw_aload_n C dX2_bestWay_63 rfl ?_
  refine pw_getR C (t := 2) (f := 7) rfl inF2 rfl (by decide) (by decide) rfl kw283 dX2_bestWay_64 t12 ?_
  rw [show ph_R (ph_setI h s2 8 x9) a0 7 = r13 from e14]
  refine pw_getI C (t := 0) (f := 2) rfl inF0 rfl (by decide) (by decide) rfl kw114 dX2_bestWay_67 t15 ?_
  rw [show ph_I (ph_setI h s2 8 x9) r13 2 = x16 from e17]
  exact pw_callV C (na := 1) (As := [.inl x16]) (S := S) hM t18 (by decide) (hcl := by rfl) kw463 kw464 kw465 kw44 kw466 (by decide +kernel) rfl dX2_bestWay_70 (by decide) (by decide) hk0 hn0 (by first | exact hS | (simp only [List.length_cons]; omega)) kk
set_option maxRecDepth 20000 in
theorem B_X2_bestWay_73 {G : Gx} {X : Cx} {h : PH} {k n : Nat} {Q : State → Prop} {S : List PV} {a0 : Nat} {a1 : Int} {a2 : Nat} {a3 : Nat} {PQ : Option PV → PH → Prop} (C : CX_X2_bestWay G X) (hk0 : k ≤ 0 := by decide) (hn0 : n ≤ 0 := by decide) (t1 : ph_T h a0 = 2 := by first | assumption | rfl) (hM : CT_X2_goBack G X.2.1 [.inr a0] h PQ) (hS : S.length ≤ 8 := by decide) (kk : ∀ r h', PQ r h' → PW G X 4 Q k n 77 [some (.inr a0), some (.inl a1), some (.inr a2), some (.inr a3)] (r.toList ++ S) h') : PW G X 4 Q k n 73 [some (.inr a0), some (.inl a1), some (.inr a2), some (.inr a3)] (S) h := by
  refine pw_aload_n C dX2_bestWay_73 rfl ?_
  exact pw_callV C (na := 0) (As := []) (S := S) hM t1 (by decide) (hcl := by rfl) kw470 kw472 kw0 kw43 kw473 (by decide +kernel) rfl dX2_bestWay_74 (by decide) (by decide) hk0 hn0 (by first | exact hS | (simp only [List.length_cons]; omega)) kk
set_option maxRecDepth 20000 in
theorem B_X2_bestWay_77 {G : Gx} {X : Cx} {h : PH} {k n : Nat} {Q : State → Prop} {S : List PV} {a0 : Nat} {a1 : Int} {a2 : Nat} {a3 : Nat} {PQ : Option PV → PH → Prop} (C : CX_X2_bestWay G X) (hk0 : k ≤ 0 := by decide) (hn0 : n ≤ 0 := by decide) (t1 : ph_T h a0 = 2 := by first | assumption | rfl) (hM : CT_X2_follow G X.2.1 [.inr a0, .inr a3] h PQ) (hS : S.length ≤ 8 := by decide) (kk : ∀ r h', PQ r h' → PW G X 4 Q k n 82 [some (.inr a0), some (.inl a1), some (.inr a2), some (.inr a3)] (r.toList ++ S) h') : PW G X 4 Q k n 77 [some (.inr a0), some (.inl a1), some (.inr a2), some (.inr a3)] (S) h := by
  refine pw_aload_n C dX2_bestWay_77 rfl ?_
  refine pw_aload_n C dX2_bestWay_78 rfl ?_
  exact pw_callV C (na := 1) (As := [.inr a3]) (S := S) hM t1 (by decide) (hcl := by rfl) kw534 kw536 kw11 kw43 kw537 (by decide +kernel) rfl dX2_bestWay_79 (by decide) (by decide) hk0 hn0 (by first | exact hS | (simp only [List.length_cons]; omega)) kk
set_option maxRecDepth 20000 in
theorem B_X2_bestWay_82 {G : Gx} {X : Cx} {h : PH} {k n : Nat} {a0 : Nat} {a1 : Int} {a2 : Nat} {a3 : Nat} {PQ : Option PV → PH → Prop} (C : CX_X2_bestWay G X) (q1 : 2 ≤ a3 := by first | assumption | omega) (hq : PQ (some (.inr a3)) h) : PW G X 4 (pw_E G X PQ k n) k n 82 [some (.inr a0), some (.inl a1), some (.inr a2), some (.inr a3)] [] h := by
  refine pw_aload_n C dX2_bestWay_82 rfl ?_
  exact pw_areturn C dX2_bestWay_83 q1 hq
theorem dX2_sharedWay_0 : decode cX2_sharedWay 0 = .ok (.aload_n 0, 1) := by decide +kernel
theorem dX2_sharedWay_1 : decode cX2_sharedWay 1 = .ok (.getfield 11, 3) := by decide +kernel
theorem dX2_sharedWay_4 : decode cX2_sharedWay 4 = .ok (.iload_n 1, 1) := by decide +kernel
theorem dX2_sharedWay_5 : decode cX2_sharedWay 5 = .ok (.aaload, 1) := by decide +kernel
theorem dX2_sharedWay_6 : decode cX2_sharedWay 6 = .ok (.astore_n 3, 1) := by decide +kernel
theorem dX2_sharedWay_7 : decode cX2_sharedWay 7 = .ok (.aload_n 3, 1) := by decide +kernel
theorem dX2_sharedWay_8 : decode cX2_sharedWay 8 = .ok (.getfield 96, 3) := by decide +kernel
theorem dX2_sharedWay_11 : decode cX2_sharedWay 11 = .ok (.ifCond .ne 9, 3) := by decide +kernel
theorem dX2_sharedWay_14 : decode cX2_sharedWay 14 = .ok (.aload_n 3, 1) := by decide +kernel
theorem dX2_sharedWay_15 : decode cX2_sharedWay 15 = .ok (.bipush (-6), 2) := by decide +kernel
theorem dX2_sharedWay_17 : decode cX2_sharedWay 17 = .ok (.putfield 64, 3) := by decide +kernel
theorem dX2_sharedWay_20 : decode cX2_sharedWay 20 = .ok (.aload_n 0, 1) := by decide +kernel
theorem dX2_sharedWay_21 : decode cX2_sharedWay 21 = .ok (.iload_n 1, 1) := by decide +kernel
theorem dX2_sharedWay_22 : decode cX2_sharedWay 22 = .ok (.aload_n 2, 1) := by decide +kernel
theorem dX2_sharedWay_23 : decode cX2_sharedWay 23 = .ok (.invokevirtual 100, 3) := by decide +kernel
theorem dX2_sharedWay_26 : decode cX2_sharedWay 26 = .ok (.pop, 1) := by decide +kernel
theorem dX2_sharedWay_27 : decode cX2_sharedWay 27 = .ok (.aload_n 3, 1) := by decide +kernel
theorem dX2_sharedWay_28 : decode cX2_sharedWay 28 = .ok (.getfield 96, 3) := by decide +kernel
theorem dX2_sharedWay_31 : decode cX2_sharedWay 31 = .ok (.ifCond .ne 8, 3) := by decide +kernel
theorem dX2_sharedWay_34 : decode cX2_sharedWay 34 = .ok (.aload_n 0, 1) := by decide +kernel
theorem dX2_sharedWay_35 : decode cX2_sharedWay 35 = .ok (.aload_n 3, 1) := by decide +kernel
theorem dX2_sharedWay_36 : decode cX2_sharedWay 36 = .ok (.invokevirtual 104, 3) := by decide +kernel
theorem dX2_sharedWay_39 : decode cX2_sharedWay 39 = .ok (.aload_n 3, 1) := by decide +kernel
theorem dX2_sharedWay_40 : decode cX2_sharedWay 40 = .ok (.areturn, 1) := by decide +kernel
set_option maxRecDepth 20000 in
theorem B_X2_sharedWay_0 {G : Gx} {X : Cx} {h : PH} {k n : Nat} {Q : State → Prop} {S : List PV} {a0 : Nat} {a1 : Int} {a2 : Nat} {r2 : Nat} {m8 : Nat} {m8E : String} {r9 : Nat} {x13 : Int} (C : CX_X2_sharedWay G X) (t1 : ph_T h a0 = 2 := by first | assumption | rfl) (e3 : ph_R h a0 1 = r2 := by first | assumption | rfl) (m8a : ¬ m8 < 10 := by decide) (m8b : m8 < 14 := by decide) (t4 : ph_T h r2 = m8 := by first | assumption | rfl) (m8c : (pw_tys G)[m8 - 8]? = some (G.2.2.2.2 m8, .object m8E) := by rfl) (q5 : (0 : Int) ≤ a1 := by first | assumption | omega) (q6 : a1 < (ph_L h r2 : Int) := by first | assumption | omega) (q7 : pR a1 := by first | assumption | (unfold pR; omega)) (e10 : ph_R h r2 (Int.toNat a1) = r9 := by first | assumption | rfl) (q11 : 2 ≤ r9 := by first | assumption | omega) (t12 : ph_T h r9 = 4 := by first | assumption | rfl) (e14 : ph_I h r9 7 = x13 := by first | assumption | rfl) (q15 : pR x13 := by first | assumption | (unfold pR; omega)) (kt : ¬ x13 = 0 → PW G X 4 Q k n 20 [some (.inr a0), some (.inl a1), some (.inr a2), some (.inr r9)] (S) h) (kf : x13 = 0 → PW G X 4 Q k n 14 [some (.inr a0), some (.inl a1), some (.inr a2), some (.inr r9)] (S) h) : PW G X 4 Q k n 0 [some (.inr a0), some (.inl a1), some (.inr a2), none] (S) h := by
  refine pw_aload_n C dX2_sharedWay_0 rfl ?_
  refine pw_getR C (t := 2) (f := 1) rfl inF2 rfl (by decide) (by decide) rfl kw277 dX2_sharedWay_1 t1 ?_
  rw [e3]
  refine pw_iload_n C dX2_sharedWay_4 rfl ?_
  refine pw_aald C (t := m8) dX2_sharedWay_5 t4 m8a m8b m8c q5 q6 q7 ?_
  rw [e10]
  refine pw_astore_n C dX2_sharedWay_6 (by decide) q11 ?_
  refine pw_aload_n C dX2_sharedWay_7 rfl ?_
  refine pw_getI C (t := 4) (f := 7) rfl inF4 rfl (by decide) (by decide) rfl kw232 dX2_sharedWay_8 t12 ?_
  rw [e14]
  exact pw_if_ne C 20 dX2_sharedWay_11 (by decide) q15 kt kf
set_option maxRecDepth 20000 in
theorem B_X2_sharedWay_14 {G : Gx} {X : Cx} {h : PH} {k n : Nat} {Q : State → Prop} {S : List PV} {a0 : Nat} {a1 : Int} {a2 : Nat} {a3 : Nat} (C : CX_X2_sharedWay G X) (t1 : ph_T h a3 = 4 := by first | assumption | rfl) (kk : PW G X 4 Q k n 20 [some (.inr a0), some (.inl a1), some (.inr a2), some (.inr a3)] (S) (ph_setI h a3 5 (-6))) : PW G X 4 Q k n 14 [some (.inr a0), some (.inl a1), some (.inr a2), some (.inr a3)] (S) h := by
  refine pw_aload_n C dX2_sharedWay_14 rfl ?_
  refine pw_bipush C dX2_sharedWay_15 rfl ?_
  refine pw_putI C (t := 4) (f := 5) rfl inF4 tyX4_ok nmX4 rfl (by decide) (by decide) rfl (Or.inl rfl) (Or.inl rfl) kw228 dX2_sharedWay_17 t1 ?_
  exact kk
set_option maxRecDepth 20000 in
theorem B_X2_sharedWay_20 {G : Gx} {X : Cx} {h : PH} {k n : Nat} {Q : State → Prop} {S : List PV} {a0 : Nat} {a1 : Int} {a2 : Nat} {a3 : Nat} {PQ : Option PV → PH → Prop} (C : CX_X2_sharedWay G X) (hk0 : k ≤ 0 := by decide) (hn0 : n ≤ 0 := by decide) (t1 : ph_T h a0 = 2 := by first | assumption | rfl) (hM : CT_X2_bestWay G X.2.1 [.inr a0, .inl a1, .inr a2] h PQ) (hS : S.length ≤ 8 := by decide) (kk : ∀ r h', PQ r h' → PW G X 4 Q k n 26 [some (.inr a0), some (.inl a1), some (.inr a2), some (.inr a3)] (r.toList ++ S) h') : PW G X 4 Q k n 20 [some (.inr a0), some (.inl a1), some (.inr a2), some (.inr a3)] (S) h := by
  refine pw_aload_n C dX2_sharedWay_20 rfl ?_
  refine pw_iload_n C dX2_sharedWay_21 rfl ?_
  refine pw_aload_n C dX2_sharedWay_22 rfl ?_
  exact pw_callV C (na := 2) (As := [.inl a1, .inr a2]) (S := S) hM t1 (by decide) (hcl := by rfl) kw583 kw455 kw456 kw43 kw457 (by decide +kernel) rfl dX2_sharedWay_23 (by decide) (by decide) hk0 hn0 (by first | exact hS | (simp only [List.length_cons]; omega)) kk
set_option maxRecDepth 20000 in
theorem B_X2_sharedWay_26 {G : Gx} {X : Cx} {h : PH} {k n : Nat} {Q : State → Prop} {S : List PV} {a0 : Nat} {a1 : Int} {a2 : Nat} {a3 : Nat} {s0 : Nat} {x2 : Int} (C : CX_X2_sharedWay G X) (t1 : ph_T h a3 = 4 := by first | assumption | rfl) (e3 : ph_I h a3 7 = x2 := by first | assumption | rfl) (q4 : pR x2 := by first | assumption | (unfold pR; omega)) (kt : ¬ x2 = 0 → PW G X 4 Q k n 39 [some (.inr a0), some (.inl a1), some (.inr a2), some (.inr a3)] (S) h) (kf : x2 = 0 → PW G X 4 Q k n 34 [some (.inr a0), some (.inl a1), some (.inr a2), some (.inr a3)] (S) h) : PW G X 4 Q k n 26 [some (.inr a0), some (.inl a1), some (.inr a2), some (.inr a3)] (.inr s0 :: S) h := by
  refine pw_pop C dX2_sharedWay_26 ?_
  refine pw_aload_n C dX2_sharedWay_27 rfl ?_
  refine pw_getI C (t := 4) (f := 7) rfl inF4 rfl (by decide) (by decide) rfl kw232 dX2_sharedWay_28 t1 ?_
  rw [e3]
  exact pw_if_ne C 39 dX2_sharedWay_31 (by decide) q4 kt kf
set_option maxRecDepth 20000 in
theorem B_X2_sharedWay_34 {G : Gx} {X : Cx} {h : PH} {k n : Nat} {Q : State → Prop} {S : List PV} {a0 : Nat} {a1 : Int} {a2 : Nat} {a3 : Nat} {PQ : Option PV → PH → Prop} (C : CX_X2_sharedWay G X) (hk0 : k ≤ 0 := by decide) (hn0 : n ≤ 0 := by decide) (t1 : ph_T h a0 = 2 := by first | assumption | rfl) (hM : CT_X2_goForth G X.2.1 [.inr a0, .inr a3] h PQ) (hS : S.length ≤ 8 := by decide) (kk : ∀ r h', PQ r h' → PW G X 4 Q k n 39 [some (.inr a0), some (.inl a1), some (.inr a2), some (.inr a3)] (r.toList ++ S) h') : PW G X 4 Q k n 34 [some (.inr a0), some (.inl a1), some (.inr a2), some (.inr a3)] (S) h := by
  refine pw_aload_n C dX2_sharedWay_34 rfl ?_
  refine pw_aload_n C dX2_sharedWay_35 rfl ?_
  exact pw_callV C (na := 1) (As := [.inr a3]) (S := S) hM t1 (by decide) (hcl := by rfl) kw584 kw586 kw14 kw43 kw587 (by decide +kernel) rfl dX2_sharedWay_36 (by decide) (by decide) hk0 hn0 (by first | exact hS | (simp only [List.length_cons]; omega)) kk
set_option maxRecDepth 20000 in
theorem B_X2_sharedWay_39 {G : Gx} {X : Cx} {h : PH} {k n : Nat} {a0 : Nat} {a1 : Int} {a2 : Nat} {a3 : Nat} {PQ : Option PV → PH → Prop} (C : CX_X2_sharedWay G X) (q1 : 2 ≤ a3 := by first | assumption | omega) (hq : PQ (some (.inr a3)) h) : PW G X 4 (pw_E G X PQ k n) k n 39 [some (.inr a0), some (.inl a1), some (.inr a2), some (.inr a3)] [] h := by
  refine pw_aload_n C dX2_sharedWay_39 rfl ?_
  exact pw_areturn C dX2_sharedWay_40 q1 hq
theorem dX2_goBack_0 : decode cX2_goBack 0 = .ok (.aload_n 0, 1) := by decide +kernel
theorem dX2_goBack_1 : decode cX2_goBack 1 = .ok (.getfield 25, 3) := by decide +kernel
theorem dX2_goBack_4 : decode cX2_goBack 4 = .ok (.iconst 0, 1) := by decide +kernel
theorem dX2_goBack_5 : decode cX2_goBack 5 = .ok (.invokestatic 107, 3) := by decide +kernel
theorem dX2_goBack_8 : decode cX2_goBack 8 = .ok (.aload_n 0, 1) := by decide +kernel
theorem dX2_goBack_9 : decode cX2_goBack 9 = .ok (.getfield 31, 3) := by decide +kernel
theorem dX2_goBack_12 : decode cX2_goBack 12 = .ok (.iconst 1, 1) := by decide +kernel
theorem dX2_goBack_13 : decode cX2_goBack 13 = .ok (.isub, 1) := by decide +kernel
theorem dX2_goBack_14 : decode cX2_goBack 14 = .ok (.istore_n 1, 1) := by decide +kernel
theorem dX2_goBack_15 : decode cX2_goBack 15 = .ok (.iload_n 1, 1) := by decide +kernel
theorem dX2_goBack_16 : decode cX2_goBack 16 = .ok (.ifCond .lt 70, 3) := by decide +kernel
theorem dX2_goBack_19 : decode cX2_goBack 19 = .ok (.iload_n 1, 1) := by decide +kernel
theorem dX2_goBack_20 : decode cX2_goBack 20 = .ok (.aload_n 0, 1) := by decide +kernel
theorem dX2_goBack_21 : decode cX2_goBack 21 = .ok (.getfield 31, 3) := by decide +kernel
theorem dX2_goBack_24 : decode cX2_goBack 24 = .ok (.iconst 1, 1) := by decide +kernel
theorem dX2_goBack_25 : decode cX2_goBack 25 = .ok (.isub, 1) := by decide +kernel
theorem dX2_goBack_26 : decode cX2_goBack 26 = .ok (.if_icmp .ge 21, 3) := by decide +kernel
theorem dX2_goBack_29 : decode cX2_goBack 29 = .ok (.aload_n 0, 1) := by decide +kernel
theorem dX2_goBack_30 : decode cX2_goBack 30 = .ok (.aload_n 0, 1) := by decide +kernel
theorem dX2_goBack_31 : decode cX2_goBack 31 = .ok (.getfield 18, 3) := by decide +kernel
theorem dX2_goBack_34 : decode cX2_goBack 34 = .ok (.iload_n 1, 1) := by decide +kernel
theorem dX2_goBack_35 : decode cX2_goBack 35 = .ok (.iconst 1, 1) := by decide +kernel
theorem dX2_goBack_36 : decode cX2_goBack 36 = .ok (.iadd, 1) := by decide +kernel
theorem dX2_goBack_37 : decode cX2_goBack 37 = .ok (.sipush 511, 3) := by decide +kernel
theorem dX2_goBack_40 : decode cX2_goBack 40 = .ok (.imul, 1) := by decide +kernel
theorem dX2_goBack_41 : decode cX2_goBack 41 = .ok (.iload_n 1, 1) := by decide +kernel
theorem dX2_goBack_42 : decode cX2_goBack 42 = .ok (.iconst 1, 1) := by decide +kernel
theorem dX2_goBack_43 : decode cX2_goBack 43 = .ok (.iadd, 1) := by decide +kernel
theorem dX2_goBack_44 : decode cX2_goBack 44 = .ok (.invokevirtual 113, 3) := by decide +kernel
theorem dX2_goBack_47 : decode cX2_goBack 47 = .ok (.aload_n 0, 1) := by decide +kernel
theorem dX2_goBack_48 : decode cX2_goBack 48 = .ok (.aload_n 0, 1) := by decide +kernel
theorem dX2_goBack_49 : decode cX2_goBack 49 = .ok (.getfield 18, 3) := by decide +kernel
theorem dX2_goBack_52 : decode cX2_goBack 52 = .ok (.iload_n 1, 1) := by decide +kernel
theorem dX2_goBack_53 : decode cX2_goBack 53 = .ok (.sipush 511, 3) := by decide +kernel
theorem dX2_goBack_56 : decode cX2_goBack 56 = .ok (.imul, 1) := by decide +kernel
theorem dX2_goBack_57 : decode cX2_goBack 57 = .ok (.iload_n 1, 1) := by decide +kernel
theorem dX2_goBack_58 : decode cX2_goBack 58 = .ok (.invokevirtual 117, 3) := by decide +kernel
theorem dX2_goBack_61 : decode cX2_goBack 61 = .ok (.aload_n 0, 1) := by decide +kernel
theorem dX2_goBack_62 : decode cX2_goBack 62 = .ok (.iload_n 1, 1) := by decide +kernel
theorem dX2_goBack_63 : decode cX2_goBack 63 = .ok (.invokevirtual 120, 3) := by decide +kernel
theorem dX2_goBack_66 : decode cX2_goBack 66 = .ok (.aload_n 0, 1) := by decide +kernel
theorem dX2_goBack_67 : decode cX2_goBack 67 = .ok (.aload_n 0, 1) := by decide +kernel
theorem dX2_goBack_68 : decode cX2_goBack 68 = .ok (.getfield 18, 3) := by decide +kernel
theorem dX2_goBack_71 : decode cX2_goBack 71 = .ok (.iload_n 1, 1) := by decide +kernel
theorem dX2_goBack_72 : decode cX2_goBack 72 = .ok (.sipush 511, 3) := by decide +kernel
theorem dX2_goBack_75 : decode cX2_goBack 75 = .ok (.imul, 1) := by decide +kernel
theorem dX2_goBack_76 : decode cX2_goBack 76 = .ok (.iload_n 1, 1) := by decide +kernel
theorem dX2_goBack_77 : decode cX2_goBack 77 = .ok (.invokevirtual 123, 3) := by decide +kernel
theorem dX2_goBack_80 : decode cX2_goBack 80 = .ok (.iinc 1 (-1), 3) := by decide +kernel
theorem dX2_goBack_83 : decode cX2_goBack 83 = .ok (.goto (-68), 3) := by decide +kernel
theorem dX2_goBack_86 : decode cX2_goBack 86 = .ok (.return_, 1) := by decide +kernel
set_option maxRecDepth 20000 in
theorem B_X2_goBack_0 {G : Gx} {X : Cx} {h : PH} {k n : Nat} {Q : State → Prop} {S : List PV} {a0 : Nat} {r2 : Nat} {PQ : Option PV → PH → Prop} (C : CX_X2_goBack G X) (hk0 : k ≤ 0 := by decide) (hn0 : n ≤ 0 := by decide) (t1 : ph_T h a0 = 2 := by first | assumption | rfl) (e3 : ph_R h a0 4 = r2 := by first | assumption | rfl) (hM : CT_J7_fill_53178 G X.2.1 [.inr r2, .inl 0] h PQ) (hS : S.length ≤ 8 := by decide) (kk : ∀ r h', PQ r h' → PW G X 2 Q k n 8 [some (.inr a0), none] (r.toList ++ S) h') : PW G X 2 Q k n 0 [some (.inr a0), none] (S) h := by
  refine pw_aload_n C dX2_goBack_0 rfl ?_
  refine pw_getR C (t := 2) (f := 4) rfl inF2 rfl (by decide) (by decide) rfl kw280 dX2_goBack_1 t1 ?_
  rw [e3]
  refine pw_iconst C dX2_goBack_4 ?_
  exact pw_callS C (na := 2) (As := [.inr r2, .inl 0]) (S := S) hM kw474 kw468 kw47 kw469 (by decide +kernel) rfl dX2_goBack_5 (by decide) (by decide) hk0 hn0 (by first | exact hS | (simp only [List.length_cons]; omega)) kk
set_option maxRecDepth 20000 in
theorem B_X2_goBack_8 {G : Gx} {X : Cx} {h : PH} {k n : Nat} {Q : State → Prop} {S : List PV} {a0 : Nat} {x2 : Int} (C : CX_X2_goBack G X) (t1 : ph_T h a0 = 2 := by first | assumption | rfl) (e3 : ph_I h a0 8 = x2 := by first | assumption | rfl) (kk : PW G X 2 Q k n 15 [some (.inr a0), some (.inl (x2 - 1))] (S) h) : PW G X 2 Q k n 8 [some (.inr a0), none] (S) h := by
  refine pw_aload_n C dX2_goBack_8 rfl ?_
  refine pw_getI C (t := 2) (f := 8) rfl inF2 rfl (by decide) (by decide) rfl kw284 dX2_goBack_9 t1 ?_
  rw [e3]
  refine pw_iconst C dX2_goBack_12 ?_
  refine pw_isub C dX2_goBack_13 ?_
  refine pw_istore_n C dX2_goBack_14 (by decide) ?_
  exact kk
set_option maxRecDepth 20000 in
theorem B_X2_goBack_15 {G : Gx} {X : Cx} {h : PH} {k n : Nat} {Q : State → Prop} {S : List PV} {a0 : Nat} {a1 : Int} (C : CX_X2_goBack G X) (q1 : pR a1 := by first | assumption | (unfold pR; omega)) (kt : a1 < 0 → PW G X 2 Q k n 86 [some (.inr a0), some (.inl a1)] (S) h) (kf : ¬ a1 < 0 → PW G X 2 Q k n 19 [some (.inr a0), some (.inl a1)] (S) h) : PW G X 2 Q k n 15 [some (.inr a0), some (.inl a1)] (S) h := by
  refine pw_iload_n C dX2_goBack_15 rfl ?_
  exact pw_if_lt C 86 dX2_goBack_16 (by decide) q1 kt kf
set_option maxRecDepth 20000 in
theorem B_X2_goBack_19 {G : Gx} {X : Cx} {h : PH} {k n : Nat} {Q : State → Prop} {S : List PV} {a0 : Nat} {a1 : Int} {x2 : Int} (C : CX_X2_goBack G X) (t1 : ph_T h a0 = 2 := by first | assumption | rfl) (e3 : ph_I h a0 8 = x2 := by first | assumption | rfl) (q4 : pR a1 := by first | assumption | (unfold pR; omega)) (q5 : pR (x2 - 1) := by first | assumption | (unfold pR; omega)) (kt : x2 - 1 ≤ a1 → PW G X 2 Q k n 47 [some (.inr a0), some (.inl a1)] (S) h) (kf : ¬ x2 - 1 ≤ a1 → PW G X 2 Q k n 29 [some (.inr a0), some (.inl a1)] (S) h) : PW G X 2 Q k n 19 [some (.inr a0), some (.inl a1)] (S) h := by
  refine pw_iload_n C dX2_goBack_19 rfl ?_
  refine pw_aload_n C dX2_goBack_20 rfl ?_
  refine pw_getI C (t := 2) (f := 8) rfl inF2 rfl (by decide) (by decide) rfl kw284 dX2_goBack_21 t1 ?_
  rw [e3]
  refine pw_iconst C dX2_goBack_24 ?_
  refine pw_isub C dX2_goBack_25 ?_
  exact pw_icmp_ge C 47 dX2_goBack_26 (by decide) q4 q5 kt kf
set_option maxRecDepth 20000 in
theorem B_X2_goBack_29 {G : Gx} {X : Cx} {h : PH} {k n : Nat} {Q : State → Prop} {S : List PV} {a0 : Nat} {a1 : Int} {r2 : Nat} {PQ : Option PV → PH → Prop} (C : CX_X2_goBack G X) (hk0 : k ≤ 0 := by decide) (hn0 : n ≤ 0 := by decide) (t1 : ph_T h a0 = 2 := by first | assumption | rfl) (e3 : ph_R h a0 2 = r2 := by first | assumption | rfl) (t4 : ph_T h a0 = 2 := by first | assumption | rfl) (hM : CT_X2_reach G X.2.1 [.inr a0, .inr r2, .inl ((a1 + 1) * 511), .inl (a1 + 1)] h PQ) (hS : S.length ≤ 8 := by decide) (kk : ∀ r h', PQ r h' → PW G X 2 Q k n 47 [some (.inr a0), some (.inl a1)] (r.toList ++ S) h') : PW G X 2 Q k n 29 [some (.inr a0), some (.inl a1)] (S) h := by
  refine pw_aload_n C dX2_goBack_29 rfl ?_
  refine pw_aload_n C dX2_goBack_30 rfl ?_
  refine pw_getR C (t := 2) (f := 2) rfl inF2 rfl (by decide) (by decide) rfl kw278 dX2_goBack_31 t1 ?_
  rw [e3]
  refine pw_iload_n C dX2_goBack_34 rfl ?_
  refine pw_iconst C dX2_goBack_35 ?_
  refine pw_iadd C dX2_goBack_36 ?_
  refine pw_sipush C dX2_goBack_37 rfl ?_
  refine pw_imul C dX2_goBack_40 ?_
  refine pw_iload_n C dX2_goBack_41 rfl ?_
  refine pw_iconst C dX2_goBack_42 ?_
  refine pw_iadd C dX2_goBack_43 ?_
  exact pw_callV C (na := 3) (As := [.inr r2, .inl ((a1 + 1) * 511), .inl (a1 + 1)]) (S := S) hM t4 (by decide) (hcl := by rfl) kw475 kw477 kw1 kw43 kw478 (by decide +kernel) rfl dX2_goBack_44 (by decide) (by decide) hk0 hn0 (by first | exact hS | (simp only [List.length_cons]; omega)) kk
set_option maxRecDepth 20000 in
theorem B_X2_goBack_47 {G : Gx} {X : Cx} {h : PH} {k n : Nat} {Q : State → Prop} {S : List PV} {a0 : Nat} {a1 : Int} {r2 : Nat} {PQ : Option PV → PH → Prop} (C : CX_X2_goBack G X) (hk0 : k ≤ 0 := by decide) (hn0 : n ≤ 0 := by decide) (t1 : ph_T h a0 = 2 := by first | assumption | rfl) (e3 : ph_R h a0 2 = r2 := by first | assumption | rfl) (t4 : ph_T h a0 = 2 := by first | assumption | rfl) (hM : CT_X2_enterRow G X.2.1 [.inr a0, .inr r2, .inl (a1 * 511), .inl a1] h PQ) (hS : S.length ≤ 8 := by decide) (kk : ∀ r h', PQ r h' → PW G X 2 Q k n 61 [some (.inr a0), some (.inl a1)] (r.toList ++ S) h') : PW G X 2 Q k n 47 [some (.inr a0), some (.inl a1)] (S) h := by
  refine pw_aload_n C dX2_goBack_47 rfl ?_
  refine pw_aload_n C dX2_goBack_48 rfl ?_
  refine pw_getR C (t := 2) (f := 2) rfl inF2 rfl (by decide) (by decide) rfl kw278 dX2_goBack_49 t1 ?_
  rw [e3]
  refine pw_iload_n C dX2_goBack_52 rfl ?_
  refine pw_sipush C dX2_goBack_53 rfl ?_
  refine pw_imul C dX2_goBack_56 ?_
  refine pw_iload_n C dX2_goBack_57 rfl ?_
  exact pw_callV C (na := 3) (As := [.inr r2, .inl (a1 * 511), .inl a1]) (S := S) hM t4 (by decide) (hcl := by rfl) kw499 kw501 kw6 kw43 kw502 (by decide +kernel) rfl dX2_goBack_58 (by decide) (by decide) hk0 hn0 (by first | exact hS | (simp only [List.length_cons]; omega)) kk
set_option maxRecDepth 20000 in
theorem B_X2_goBack_61 {G : Gx} {X : Cx} {h : PH} {k n : Nat} {Q : State → Prop} {S : List PV} {a0 : Nat} {a1 : Int} {PQ : Option PV → PH → Prop} (C : CX_X2_goBack G X) (hk0 : k ≤ 0 := by decide) (hn0 : n ≤ 0 := by decide) (t1 : ph_T h a0 = 2 := by first | assumption | rfl) (hM : CT_X2_aimAt G X.2.1 [.inr a0, .inl a1] h PQ) (hS : S.length ≤ 8 := by decide) (kk : ∀ r h', PQ r h' → PW G X 2 Q k n 66 [some (.inr a0), some (.inl a1)] (r.toList ++ S) h') : PW G X 2 Q k n 61 [some (.inr a0), some (.inl a1)] (S) h := by
  refine pw_aload_n C dX2_goBack_61 rfl ?_
  refine pw_iload_n C dX2_goBack_62 rfl ?_
  exact pw_callV C (na := 1) (As := [.inl a1]) (S := S) hM t1 (by decide) (hcl := by rfl) kw511 kw513 kw7 kw43 kw514 (by decide +kernel) rfl dX2_goBack_63 (by decide) (by decide) hk0 hn0 (by first | exact hS | (simp only [List.length_cons]; omega)) kk
set_option maxRecDepth 20000 in
theorem B_X2_goBack_66 {G : Gx} {X : Cx} {h : PH} {k n : Nat} {Q : State → Prop} {S : List PV} {a0 : Nat} {a1 : Int} {r2 : Nat} {PQ : Option PV → PH → Prop} (C : CX_X2_goBack G X) (hk0 : k ≤ 0 := by decide) (hn0 : n ≤ 0 := by decide) (t1 : ph_T h a0 = 2 := by first | assumption | rfl) (e3 : ph_R h a0 2 = r2 := by first | assumption | rfl) (t4 : ph_T h a0 = 2 := by first | assumption | rfl) (hM : CT_X2_addGain G X.2.1 [.inr a0, .inr r2, .inl (a1 * 511), .inl a1] h PQ) (hS : S.length ≤ 8 := by decide) (kk : ∀ r h', PQ r h' → PW G X 2 Q k n 80 [some (.inr a0), some (.inl a1)] (r.toList ++ S) h') : PW G X 2 Q k n 66 [some (.inr a0), some (.inl a1)] (S) h := by
  refine pw_aload_n C dX2_goBack_66 rfl ?_
  refine pw_aload_n C dX2_goBack_67 rfl ?_
  refine pw_getR C (t := 2) (f := 2) rfl inF2 rfl (by decide) (by decide) rfl kw278 dX2_goBack_68 t1 ?_
  rw [e3]
  refine pw_iload_n C dX2_goBack_71 rfl ?_
  refine pw_sipush C dX2_goBack_72 rfl ?_
  refine pw_imul C dX2_goBack_75 ?_
  refine pw_iload_n C dX2_goBack_76 rfl ?_
  exact pw_callV C (na := 3) (As := [.inr r2, .inl (a1 * 511), .inl a1]) (S := S) hM t4 (by decide) (hcl := by rfl) kw521 kw523 kw9 kw43 kw524 (by decide +kernel) rfl dX2_goBack_77 (by decide) (by decide) hk0 hn0 (by first | exact hS | (simp only [List.length_cons]; omega)) kk
set_option maxRecDepth 20000 in
theorem B_X2_goBack_80 {G : Gx} {X : Cx} {h : PH} {k n : Nat} {Q : State → Prop} {S : List PV} {a0 : Nat} {a1 : Int} (C : CX_X2_goBack G X) (kk : PW G X 2 Q k n 15 [some (.inr a0), some (.inl (a1 + (-1)))] (S) h) : PW G X 2 Q k n 80 [some (.inr a0), some (.inl a1)] (S) h := by
  refine pw_iinc C dX2_goBack_80 rfl (by decide) ?_
  refine pw_goto C 15 dX2_goBack_83 (by decide) ?_
  exact kk
set_option maxRecDepth 20000 in
theorem B_X2_goBack_86 {G : Gx} {X : Cx} {h : PH} {k n : Nat} {a0 : Nat} {a1 : Int} {PQ : Option PV → PH → Prop} (C : CX_X2_goBack G X) (hq : PQ none h) : PW G X 2 (pw_E G X PQ k n) k n 86 [some (.inr a0), some (.inl a1)] [] h := by
  exact pw_vreturn C dX2_goBack_86 hq
theorem dX2_follow_0 : decode cX2_follow 0 = .ok (.aload_n 0, 1) := by decide +kernel
theorem dX2_follow_1 : decode cX2_follow 1 = .ok (.getfield 51, 3) := by decide +kernel
theorem dX2_follow_4 : decode cX2_follow 4 = .ok (.getfield 126, 3) := by decide +kernel
theorem dX2_follow_7 : decode cX2_follow 7 = .ok (.aload_n 0, 1) := by decide +kernel
theorem dX2_follow_8 : decode cX2_follow 8 = .ok (.getfield 51, 3) := by decide +kernel
theorem dX2_follow_11 : decode cX2_follow 11 = .ok (.getfield 129, 3) := by decide +kernel
theorem dX2_follow_14 : decode cX2_follow 14 = .ok (.iadd, 1) := by decide +kernel
theorem dX2_follow_15 : decode cX2_follow 15 = .ok (.istore_n 2, 1) := by decide +kernel
theorem dX2_follow_16 : decode cX2_follow 16 = .ok (.aload_n 0, 1) := by decide +kernel
theorem dX2_follow_17 : decode cX2_follow 17 = .ok (.getfield 51, 3) := by decide +kernel
theorem dX2_follow_20 : decode cX2_follow 20 = .ok (.getfield 132, 3) := by decide +kernel
theorem dX2_follow_23 : decode cX2_follow 23 = .ok (.istore_n 3, 1) := by decide +kernel
theorem dX2_follow_24 : decode cX2_follow 24 = .ok (.aload_n 0, 1) := by decide +kernel
theorem dX2_follow_25 : decode cX2_follow 25 = .ok (.getfield 31, 3) := by decide +kernel
theorem dX2_follow_28 : decode cX2_follow 28 = .ok (.iconst 1, 1) := by decide +kernel
theorem dX2_follow_29 : decode cX2_follow 29 = .ok (.if_icmp .lt 20, 3) := by decide +kernel
theorem dX2_follow_32 : decode cX2_follow 32 = .ok (.aload_n 0, 1) := by decide +kernel
theorem dX2_follow_33 : decode cX2_follow 33 = .ok (.getfield 18, 3) := by decide +kernel
theorem dX2_follow_36 : decode cX2_follow 36 = .ok (.iconst 0, 1) := by decide +kernel
theorem dX2_follow_37 : decode cX2_follow 37 = .ok (.iload_n 2, 1) := by decide +kernel
theorem dX2_follow_38 : decode cX2_follow 38 = .ok (.iload_n 3, 1) := by decide +kernel
theorem dX2_follow_39 : decode cX2_follow 39 = .ok (.invokestatic 135, 3) := by decide +kernel
theorem dX2_follow_42 : decode cX2_follow 42 = .ok (.iaload, 1) := by decide +kernel
theorem dX2_follow_43 : decode cX2_follow 43 = .ok (.invokestatic 139, 3) := by decide +kernel
theorem dX2_follow_46 : decode cX2_follow 46 = .ok (.ifCond .eq 4, 3) := by decide +kernel
theorem dX2_follow_49 : decode cX2_follow 49 = .ok (.return_, 1) := by decide +kernel
theorem dX2_follow_50 : decode cX2_follow 50 = .ok (.iconst 0, 1) := by decide +kernel
theorem dX2_follow_51 : decode cX2_follow 51 = .ok (.istore 4, 2) := by decide +kernel
theorem dX2_follow_53 : decode cX2_follow 53 = .ok (.iload 4, 2) := by decide +kernel
theorem dX2_follow_55 : decode cX2_follow 55 = .ok (.aload_n 0, 1) := by decide +kernel
theorem dX2_follow_56 : decode cX2_follow 56 = .ok (.getfield 31, 3) := by decide +kernel
theorem dX2_follow_59 : decode cX2_follow 59 = .ok (.if_icmp .ge 91, 3) := by decide +kernel
theorem dX2_follow_62 : decode cX2_follow 62 = .ok (.iload 4, 2) := by decide +kernel
theorem dX2_follow_64 : decode cX2_follow 64 = .ok (.ifCond .ne 25, 3) := by decide +kernel
theorem dX2_follow_67 : decode cX2_follow 67 = .ok (.aload_n 1, 1) := by decide +kernel
theorem dX2_follow_68 : decode cX2_follow 68 = .ok (.aload_n 0, 1) := by decide +kernel
theorem dX2_follow_69 : decode cX2_follow 69 = .ok (.getfield 51, 3) := by decide +kernel
theorem dX2_follow_72 : decode cX2_follow 72 = .ok (.getfield 126, 3) := by decide +kernel
theorem dX2_follow_75 : decode cX2_follow 75 = .ok (.iload_n 3, 1) := by decide +kernel
theorem dX2_follow_76 : decode cX2_follow 76 = .ok (.aload_n 0, 1) := by decide +kernel
theorem dX2_follow_77 : decode cX2_follow 77 = .ok (.getfield 51, 3) := by decide +kernel
theorem dX2_follow_80 : decode cX2_follow 80 = .ok (.getfield 74, 3) := by decide +kernel
theorem dX2_follow_83 : decode cX2_follow 83 = .ok (.invokevirtual 143, 3) := by decide +kernel
theorem dX2_follow_86 : decode cX2_follow 86 = .ok (.goto 39, 3) := by decide +kernel
theorem dX2_follow_89 : decode cX2_follow 89 = .ok (.aload_n 0, 1) := by decide +kernel
theorem dX2_follow_90 : decode cX2_follow 90 = .ok (.iload 4, 2) := by decide +kernel
theorem dX2_follow_92 : decode cX2_follow 92 = .ok (.iload_n 2, 1) := by decide +kernel
theorem dX2_follow_93 : decode cX2_follow 93 = .ok (.iload_n 3, 1) := by decide +kernel
theorem dX2_follow_94 : decode cX2_follow 94 = .ok (.invokevirtual 147, 3) := by decide +kernel
theorem dX2_follow_97 : decode cX2_follow 97 = .ok (.istore 5, 2) := by decide +kernel
theorem dX2_follow_99 : decode cX2_follow 99 = .ok (.iload 5, 2) := by decide +kernel
theorem dX2_follow_101 : decode cX2_follow 101 = .ok (.bipush 7, 2) := by decide +kernel
theorem dX2_follow_103 : decode cX2_follow 103 = .ok (.idiv, 1) := by decide +kernel
theorem dX2_follow_104 : decode cX2_follow 104 = .ok (.istore_n 2, 1) := by decide +kernel
theorem dX2_follow_105 : decode cX2_follow 105 = .ok (.iload 5, 2) := by decide +kernel
theorem dX2_follow_107 : decode cX2_follow 107 = .ok (.bipush 7, 2) := by decide +kernel
theorem dX2_follow_109 : decode cX2_follow 109 = .ok (.irem, 1) := by decide +kernel
theorem dX2_follow_110 : decode cX2_follow 110 = .ok (.istore_n 3, 1) := by decide +kernel
theorem dX2_follow_111 : decode cX2_follow 111 = .ok (.aload_n 1, 1) := by decide +kernel
theorem dX2_follow_112 : decode cX2_follow 112 = .ok (.iload_n 2, 1) := by decide +kernel
theorem dX2_follow_113 : decode cX2_follow 113 = .ok (.aload_n 0, 1) := by decide +kernel
theorem dX2_follow_114 : decode cX2_follow 114 = .ok (.getfield 51, 3) := by decide +kernel
theorem dX2_follow_117 : decode cX2_follow 117 = .ok (.getfield 129, 3) := by decide +kernel
theorem dX2_follow_120 : decode cX2_follow 120 = .ok (.isub, 1) := by decide +kernel
theorem dX2_follow_121 : decode cX2_follow 121 = .ok (.iload_n 3, 1) := by decide +kernel
theorem dX2_follow_122 : decode cX2_follow 122 = .ok (.invokevirtual 150, 3) := by decide +kernel
theorem dX2_follow_125 : decode cX2_follow 125 = .ok (.aload_n 0, 1) := by decide +kernel
theorem dX2_follow_126 : decode cX2_follow 126 = .ok (.iload 4, 2) := by decide +kernel
theorem dX2_follow_128 : decode cX2_follow 128 = .ok (.invokevirtual 120, 3) := by decide +kernel
theorem dX2_follow_131 : decode cX2_follow 131 = .ok (.aload_n 0, 1) := by decide +kernel
theorem dX2_follow_132 : decode cX2_follow 132 = .ok (.iload_n 2, 1) := by decide +kernel
theorem dX2_follow_133 : decode cX2_follow 133 = .ok (.iload_n 3, 1) := by decide +kernel
theorem dX2_follow_134 : decode cX2_follow 134 = .ok (.invokevirtual 154, 3) := by decide +kernel
theorem dX2_follow_137 : decode cX2_follow 137 = .ok (.ifCond .le 7, 3) := by decide +kernel
theorem dX2_follow_140 : decode cX2_follow 140 = .ok (.aload_n 1, 1) := by decide +kernel
theorem dX2_follow_141 : decode cX2_follow 141 = .ok (.invokevirtual 157, 3) := by decide +kernel
theorem dX2_follow_144 : decode cX2_follow 144 = .ok (.iinc 4 1, 3) := by decide +kernel
theorem dX2_follow_147 : decode cX2_follow 147 = .ok (.goto (-94), 3) := by decide +kernel
theorem dX2_follow_150 : decode cX2_follow 150 = .ok (.return_, 1) := by decide +kernel
set_option maxRecDepth 20000 in
theorem B_X2_follow_0 {G : Gx} {X : Cx} {h : PH} {k n : Nat} {Q : State → Prop} {S : List PV} {a0 : Nat} {a1 : Nat} {r2 : Nat} {x5 : Int} {r8 : Nat} {x11 : Int} {r14 : Nat} {x17 : Int} {x20 : Int} (C : CX_X2_follow G X) (t1 : ph_T h a0 = 2 := by first | assumption | rfl) (e3 : ph_R h a0 6 = r2 := by first | assumption | rfl) (t4 : ph_T h r2 = 1 := by first | assumption | rfl) (e6 : ph_I h r2 0 = x5 := by first | assumption | rfl) (t7 : ph_T h a0 = 2 := by first | assumption | rfl) (e9 : ph_R h a0 6 = r8 := by first | assumption | rfl) (t10 : ph_T h r8 = 1 := by first | assumption | rfl) (e12 : ph_I h r8 3 = x11 := by first | assumption | rfl) (t13 : ph_T h a0 = 2 := by first | assumption | rfl) (e15 : ph_R h a0 6 = r14 := by first | assumption | rfl) (t16 : ph_T h r14 = 1 := by first | assumption | rfl) (e18 : ph_I h r14 1 = x17 := by first | assumption | rfl) (t19 : ph_T h a0 = 2 := by first | assumption | rfl) (e21 : ph_I h a0 8 = x20 := by first | assumption | rfl) (q22 : pR x20 := by first | assumption | (unfold pR; omega)) (q23 : pR 1 := by first | assumption | (unfold pR; omega)) (kt : x20 < 1 → PW G X 6 Q k n 49 [some (.inr a0), some (.inr a1), some (.inl (x5 + x11)), some (.inl x17), none, none] (S) h) (kf : ¬ x20 < 1 → PW G X 6 Q k n 32 [some (.inr a0), some (.inr a1), some (.inl (x5 + x11)), some (.inl x17), none, none] (S) h) : PW G X 6 Q k n 0 [some (.inr a0), some (.inr a1), none, none, none, none] (S) h := by
  refine pw_aload_n C dX2_follow_0 rfl ?_
  refine pw_getR C (t := 2) (f := 6) rfl inF2 rfl (by decide) (by decide) rfl kw282 dX2_follow_1 t1 ?_
  rw [e3]
  refine pw_getI C (t := 1) (f := 0) rfl inF1 rfl (by decide) (by decide) rfl kw151 dX2_follow_4 t4 ?_
  rw [e6]
  refine pw_aload_n C dX2_follow_7 rfl ?_
  refine pw_getR C (t := 2) (f := 6) rfl inF2 rfl (by decide) (by decide) rfl kw282 dX2_follow_8 t7 ?_
  rw [e9]
  refine pw_getI C (t := 1) (f := 3) rfl inF1 rfl (by decide) (by decide) rfl kw161 dX2_follow_11 t10 ?_
  rw [e12]
  refine pw_iadd C dX2_follow_14 ?_
  refine pw_istore_n C dX2_follow_15 (by decide) ?_
  refine pw_aload_n C dX2_follow_16 rfl ?_
  refine pw_getR C (t := 2) (f := 6) rfl inF2 rfl (by decide) (by decide) rfl kw282 dX2_follow_17 t13 ?_
  rw [e15]
  refine pw_getI C (t := 1) (f := 1) rfl inF1 rfl (by decide) (by decide) rfl kw154 dX2_follow_20 t16 ?_
  rw [e18]
  refine pw_istore_n C dX2_follow_23 (by decide) ?_
  refine pw_aload_n C dX2_follow_24 rfl ?_
  refine pw_getI C (t := 2) (f := 8) rfl inF2 rfl (by decide) (by decide) rfl kw284 dX2_follow_25 t19 ?_
  rw [e21]
  refine pw_iconst C dX2_follow_28 ?_
  exact pw_icmp_lt C 49 dX2_follow_29 (by decide) q22 q23 kt kf
set_option maxRecDepth 20000 in
theorem B_X2_follow_32 {G : Gx} {X : Cx} {h : PH} {k n : Nat} {Q : State → Prop} {S : List PV} {a0 : Nat} {a1 : Nat} {a2 : Int} {a3 : Int} {r2 : Nat} {PQ : Option PV → PH → Prop} (C : CX_X2_follow G X) (hk0 : k ≤ 0 := by decide) (hn0 : n ≤ 0 := by decide) (t1 : ph_T h a0 = 2 := by first | assumption | rfl) (e3 : ph_R h a0 2 = r2 := by first | assumption | rfl) (hM : CT_X2_cell G X.2.1 [.inl 0, .inl a2, .inl a3] h PQ) (hS : S.length ≤ 7 := by decide) (kk : ∀ r h', PQ r h' → PW G X 6 Q k n 42 [some (.inr a0), some (.inr a1), some (.inl a2), some (.inl a3), none, none] (r.toList ++ (.inr r2 :: S)) h') : PW G X 6 Q k n 32 [some (.inr a0), some (.inr a1), some (.inl a2), some (.inl a3), none, none] (S) h := by
  refine pw_aload_n C dX2_follow_32 rfl ?_
  refine pw_getR C (t := 2) (f := 2) rfl inF2 rfl (by decide) (by decide) rfl kw278 dX2_follow_33 t1 ?_
  rw [e3]
  refine pw_iconst C dX2_follow_36 ?_
  refine pw_iload_n C dX2_follow_37 rfl ?_
  refine pw_iload_n C dX2_follow_38 rfl ?_
  exact pw_callS C (na := 3) (As := [.inl 0, .inl a2, .inl a3]) (S := .inr r2 :: S) hM kw538 kw539 kw43 kw540 (by decide +kernel) rfl dX2_follow_39 (by decide) (by decide) hk0 hn0 (by first | exact hS | (simp only [List.length_cons]; omega)) kk
set_option maxRecDepth 20000 in
theorem B_X2_follow_42 {G : Gx} {X : Cx} {h : PH} {k n : Nat} {Q : State → Prop} {S : List PV} {a0 : Nat} {a1 : Nat} {a2 : Int} {a3 : Int} {s0 : Int} {s1 : Nat} {x5 : Int} {PQ : Option PV → PH → Prop} (C : CX_X2_follow G X) (hk0 : k ≤ 0 := by decide) (hn0 : n ≤ 0 := by decide) (t1 : ph_T h s1 = 8 := by first | assumption | rfl) (q2 : (0 : Int) ≤ s0 := by first | assumption | omega) (q3 : s0 < (ph_L h s1 : Int) := by first | assumption | omega) (q4 : pR s0 := by first | assumption | (unfold pR; omega)) (e6 : ph_I h s1 (Int.toNat s0) = x5 := by first | assumption | rfl) (hM : CT_X2_isDead G X.2.1 [.inl x5] h PQ) (hS : S.length ≤ 8 := by decide) (kk : ∀ r h', PQ r h' → PW G X 6 Q k n 46 [some (.inr a0), some (.inr a1), some (.inl a2), some (.inl a3), none, none] (r.toList ++ S) h') : PW G X 6 Q k n 42 [some (.inr a0), some (.inr a1), some (.inl a2), some (.inl a3), none, none] (.inl s0 :: .inr s1 :: S) h := by
  refine pw_iald C dX2_follow_42 t1 q2 q3 q4 ?_
  rw [e6]
  exact pw_callS C (na := 1) (As := [.inl x5]) (S := S) hM kw526 kw527 kw43 kw528 (by decide +kernel) rfl dX2_follow_43 (by decide) (by decide) hk0 hn0 (by first | exact hS | (simp only [List.length_cons]; omega)) kk
set_option maxRecDepth 20000 in
theorem B_X2_follow_46 {G : Gx} {X : Cx} {h : PH} {k n : Nat} {Q : State → Prop} {S : List PV} {a0 : Nat} {a1 : Nat} {a2 : Int} {a3 : Int} {s0 : Int} (C : CX_X2_follow G X) (q1 : pR s0 := by first | assumption | (unfold pR; omega)) (kt : s0 = 0 → PW G X 6 Q k n 50 [some (.inr a0), some (.inr a1), some (.inl a2), some (.inl a3), none, none] (S) h) (kf : ¬ s0 = 0 → PW G X 6 Q k n 49 [some (.inr a0), some (.inr a1), some (.inl a2), some (.inl a3), none, none] (S) h) : PW G X 6 Q k n 46 [some (.inr a0), some (.inr a1), some (.inl a2), some (.inl a3), none, none] (.inl s0 :: S) h := by
  exact pw_if_eq C 50 dX2_follow_46 (by decide) q1 kt kf
set_option maxRecDepth 20000 in
theorem B_X2_follow_49 {G : Gx} {X : Cx} {h : PH} {k n : Nat} {a0 : Nat} {a1 : Nat} {a2 : Int} {a3 : Int} {PQ : Option PV → PH → Prop} (C : CX_X2_follow G X) (hq : PQ none h) : PW G X 6 (pw_E G X PQ k n) k n 49 [some (.inr a0), some (.inr a1), some (.inl a2), some (.inl a3), none, none] [] h := by
  exact pw_vreturn C dX2_follow_49 hq
set_option maxRecDepth 20000 in
theorem B_X2_follow_50 {G : Gx} {X : Cx} {h : PH} {k n : Nat} {Q : State → Prop} {S : List PV} {a0 : Nat} {a1 : Nat} {a2 : Int} {a3 : Int} (C : CX_X2_follow G X) (kk : PW G X 6 Q k n 53 [some (.inr a0), some (.inr a1), some (.inl a2), some (.inl a3), some (.inl 0), none] (S) h) : PW G X 6 Q k n 50 [some (.inr a0), some (.inr a1), some (.inl a2), some (.inl a3), none, none] (S) h := by
  refine pw_iconst C dX2_follow_50 ?_
  refine pw_istore C dX2_follow_51 (by decide) ?_
  exact kk
set_option maxRecDepth 20000 in
theorem B_X2_follow_53 {G : Gx} {X : Cx} {h : PH} {k n : Nat} {Q : State → Prop} {S : List PV} {a0 : Nat} {a1 : Nat} {a2 : Int} {a3 : Int} {a4 : Int} {x2 : Int} (C : CX_X2_follow G X) (t1 : ph_T h a0 = 2 := by first | assumption | rfl) (e3 : ph_I h a0 8 = x2 := by first | assumption | rfl) (q4 : pR a4 := by first | assumption | (unfold pR; omega)) (q5 : pR x2 := by first | assumption | (unfold pR; omega)) (kt : x2 ≤ a4 → PW G X 6 Q k n 150 [some (.inr a0), some (.inr a1), some (.inl a2), some (.inl a3), some (.inl a4), none] (S) h) (kf : ¬ x2 ≤ a4 → PW G X 6 Q k n 62 [some (.inr a0), some (.inr a1), some (.inl a2), some (.inl a3), some (.inl a4), none] (S) h) : PW G X 6 Q k n 53 [some (.inr a0), some (.inr a1), some (.inl a2), some (.inl a3), some (.inl a4), none] (S) h := by
  refine pw_iload C dX2_follow_53 rfl ?_
  refine pw_aload_n C dX2_follow_55 rfl ?_
  refine pw_getI C (t := 2) (f := 8) rfl inF2 rfl (by decide) (by decide) rfl kw284 dX2_follow_56 t1 ?_
  rw [e3]
  exact pw_icmp_ge C 150 dX2_follow_59 (by decide) q4 q5 kt kf
set_option maxRecDepth 20000 in
theorem B_X2_follow_62 {G : Gx} {X : Cx} {h : PH} {k n : Nat} {Q : State → Prop} {S : List PV} {a0 : Nat} {a1 : Nat} {a2 : Int} {a3 : Int} {a4 : Int} (C : CX_X2_follow G X) (q1 : pR a4 := by first | assumption | (unfold pR; omega)) (kt : ¬ a4 = 0 → PW G X 6 Q k n 89 [some (.inr a0), some (.inr a1), some (.inl a2), some (.inl a3), some (.inl a4), none] (S) h) (kf : a4 = 0 → PW G X 6 Q k n 67 [some (.inr a0), some (.inr a1), some (.inl a2), some (.inl a3), some (.inl a4), none] (S) h) : PW G X 6 Q k n 62 [some (.inr a0), some (.inr a1), some (.inl a2), some (.inl a3), some (.inl a4), none] (S) h := by
  refine pw_iload C dX2_follow_62 rfl ?_
  exact pw_if_ne C 89 dX2_follow_64 (by decide) q1 kt kf
set_option maxRecDepth 20000 in
theorem B_X2_follow_67 {G : Gx} {X : Cx} {h : PH} {k n : Nat} {Q : State → Prop} {S : List PV} {a0 : Nat} {a1 : Nat} {a2 : Int} {a3 : Int} {a4 : Int} {r2 : Nat} {x5 : Int} {r8 : Nat} {x11 : Int} {PQ : Option PV → PH → Prop} (C : CX_X2_follow G X) (hk0 : k ≤ 0 := by decide) (hn0 : n ≤ 0 := by decide) (t1 : ph_T h a0 = 2 := by first | assumption | rfl) (e3 : ph_R h a0 6 = r2 := by first | assumption | rfl) (t4 : ph_T h r2 = 1 := by first | assumption | rfl) (e6 : ph_I h r2 0 = x5 := by first | assumption | rfl) (t7 : ph_T h a0 = 2 := by first | assumption | rfl) (e9 : ph_R h a0 6 = r8 := by first | assumption | rfl) (t10 : ph_T h r8 = 1 := by first | assumption | rfl) (e12 : ph_I h r8 2 = x11 := by first | assumption | rfl) (t13 : ph_T h a1 = 4 := by first | assumption | rfl) (hM : CT_X4_startAt G X.2.1 [.inr a1, .inl x5, .inl a3, .inl x11] h PQ) (hS : S.length ≤ 8 := by decide) (kk : ∀ r h', PQ r h' → PW G X 6 Q k n 86 [some (.inr a0), some (.inr a1), some (.inl a2), some (.inl a3), some (.inl a4), none] (r.toList ++ S) h') : PW G X 6 Q k n 67 [some (.inr a0), some (.inr a1), some (.inl a2), some (.inl a3), some (.inl a4), none] (S) h := by
  refine pw_aload_n C dX2_follow_67 rfl ?_
  refine pw_aload_n C dX2_follow_68 rfl ?_
  refine pw_getR C (t := 2) (f := 6) rfl inF2 rfl (by decide) (by decide) rfl kw282 dX2_follow_69 t1 ?_
  rw [e3]
  refine pw_getI C (t := 1) (f := 0) rfl inF1 rfl (by decide) (by decide) rfl kw151 dX2_follow_72 t4 ?_
  rw [e6]
  refine pw_iload_n C dX2_follow_75 rfl ?_
  refine pw_aload_n C dX2_follow_76 rfl ?_
  refine pw_getR C (t := 2) (f := 6) rfl inF2 rfl (by decide) (by decide) rfl kw282 dX2_follow_77 t7 ?_
  rw [e9]
  refine pw_getI C (t := 1) (f := 2) rfl inF1 rfl (by decide) (by decide) rfl kw157 dX2_follow_80 t10 ?_
  rw [e12]
  exact pw_callV C (na := 3) (As := [.inl x5, .inl a3, .inl x11]) (S := S) hM t13 (by decide) (hcl := by rfl) kw541 kw542 kw543 kw44 kw544 (by decide +kernel) rfl dX2_follow_83 (by decide) (by decide) hk0 hn0 (by first | exact hS | (simp only [List.length_cons]; omega)) kk
set_option maxRecDepth 20000 in
theorem B_X2_follow_86 {G : Gx} {X : Cx} {h : PH} {k n : Nat} {Q : State → Prop} {S : List PV} {a0 : Nat} {a1 : Nat} {a2 : Int} {a3 : Int} {a4 : Int} (C : CX_X2_follow G X) (kk : PW G X 6 Q k n 125 [some (.inr a0), some (.inr a1), some (.inl a2), some (.inl a3), some (.inl a4), none] (S) h) : PW G X 6 Q k n 86 [some (.inr a0), some (.inr a1), some (.inl a2), some (.inl a3), some (.inl a4), none] (S) h := by
  refine pw_goto C 125 dX2_follow_86 (by decide) ?_
  exact kk
set_option maxRecDepth 20000 in
theorem B_X2_follow_89 {G : Gx} {X : Cx} {h : PH} {k n : Nat} {Q : State → Prop} {S : List PV} {a0 : Nat} {a1 : Nat} {a2 : Int} {a3 : Int} {a4 : Int} {PQ : Option PV → PH → Prop} (C : CX_X2_follow G X) (hk0 : k ≤ 0 := by decide) (hn0 : n ≤ 0 := by decide) (t1 : ph_T h a0 = 2 := by first | assumption | rfl) (hM : CT_X2_nextCell G X.2.1 [.inr a0, .inl a4, .inl a2, .inl a3] h PQ) (hS : S.length ≤ 8 := by decide) (kk : ∀ r h', PQ r h' → PW G X 6 Q k n 97 [some (.inr a0), some (.inr a1), some (.inl a2), some (.inl a3), some (.inl a4), none] (r.toList ++ S) h') : PW G X 6 Q k n 89 [some (.inr a0), some (.inr a1), some (.inl a2), some (.inl a3), some (.inl a4), none] (S) h := by
  refine pw_aload_n C dX2_follow_89 rfl ?_
  refine pw_iload C dX2_follow_90 rfl ?_
  refine pw_iload_n C dX2_follow_92 rfl ?_
  refine pw_iload_n C dX2_follow_93 rfl ?_
  exact pw_callV C (na := 3) (As := [.inl a4, .inl a2, .inl a3]) (S := S) hM t1 (by decide) (hcl := by rfl) kw545 kw547 kw12 kw43 kw548 (by decide +kernel) rfl dX2_follow_94 (by decide) (by decide) hk0 hn0 (by first | exact hS | (simp only [List.length_cons]; omega)) kk
set_option maxRecDepth 20000 in
theorem B_X2_follow_97 {G : Gx} {X : Cx} {h : PH} {k n : Nat} {Q : State → Prop} {S : List PV} {a0 : Nat} {a1 : Nat} {a2 : Int} {a3 : Int} {a4 : Int} {s0 : Int} {r10 : Nat} {x13 : Int} {PQ : Option PV → PH → Prop} (C : CX_X2_follow G X) (hk0 : k ≤ 0 := by decide) (hn0 : n ≤ 0 := by decide) (q1 : pR s0 := by first | assumption | (unfold pR; omega)) (q2 : pR 7 := by first | assumption | (unfold pR; omega)) (q3 : (0 : Int) ≤ s0 := by first | assumption | omega) (q4 : (0 : Int) < 7 := by first | assumption | omega) (q5 : pR s0 := by first | assumption | (unfold pR; omega)) (q6 : pR 7 := by first | assumption | (unfold pR; omega)) (q7 : (0 : Int) ≤ s0 := by first | assumption | omega) (q8 : (0 : Int) < 7 := by first | assumption | omega) (t9 : ph_T h a0 = 2 := by first | assumption | rfl) (e11 : ph_R h a0 6 = r10 := by first | assumption | rfl) (t12 : ph_T h r10 = 1 := by first | assumption | rfl) (e14 : ph_I h r10 3 = x13 := by first | assumption | rfl) (t15 : ph_T h a1 = 4 := by first | assumption | rfl) (hM : CT_X4_goTo G X.2.1 [.inr a1, .inl ((s0 / 7) - x13), .inl (s0 % 7)] h PQ) (hS : S.length ≤ 8 := by decide) (kk : ∀ r h', PQ r h' → PW G X 6 Q k n 125 [some (.inr a0), some (.inr a1), some (.inl (s0 / 7)), some (.inl (s0 % 7)), some (.inl a4), some (.inl s0)] (r.toList ++ S) h') : PW G X 6 Q k n 97 [some (.inr a0), some (.inr a1), some (.inl a2), some (.inl a3), some (.inl a4), none] (.inl s0 :: S) h := by
  refine pw_istore C dX2_follow_97 (by decide) ?_
  refine pw_iload C dX2_follow_99 rfl ?_
  refine pw_bipush C dX2_follow_101 rfl ?_
  refine pw_idiv C dX2_follow_103 q1 q2 q3 q4 ?_
  refine pw_istore_n C dX2_follow_104 (by decide) ?_
  refine pw_iload C dX2_follow_105 rfl ?_
  refine pw_bipush C dX2_follow_107 rfl ?_
  refine pw_irem C dX2_follow_109 q5 q6 q7 q8 ?_
  refine pw_istore_n C dX2_follow_110 (by decide) ?_
  refine pw_aload_n C dX2_follow_111 rfl ?_
  refine pw_iload_n C dX2_follow_112 rfl ?_
  refine pw_aload_n C dX2_follow_113 rfl ?_
  refine pw_getR C (t := 2) (f := 6) rfl inF2 rfl (by decide) (by decide) rfl kw282 dX2_follow_114 t9 ?_
  rw [e11]
  refine pw_getI C (t := 1) (f := 3) rfl inF1 rfl (by decide) (by decide) rfl kw161 dX2_follow_117 t12 ?_
  rw [e14]
  refine pw_isub C dX2_follow_120 ?_
  refine pw_iload_n C dX2_follow_121 rfl ?_
  exact pw_callV C (na := 2) (As := [.inl ((s0 / 7) - x13), .inl (s0 % 7)]) (S := S) hM t15 (by decide) (hcl := by rfl) kw550 kw551 kw552 kw44 kw553 (by decide +kernel) rfl dX2_follow_122 (by decide) (by decide) hk0 hn0 (by first | exact hS | (simp only [List.length_cons]; omega)) kk
set_option maxRecDepth 20000 in
theorem B_X2_follow_125 {G : Gx} {X : Cx} {h : PH} {k n : Nat} {Q : State → Prop} {S : List PV} {a0 : Nat} {a1 : Nat} {a2 : Int} {a3 : Int} {a4 : Int} {PQ : Option PV → PH → Prop} (C : CX_X2_follow G X) (hk0 : k ≤ 0 := by decide) (hn0 : n ≤ 0 := by decide) (t1 : ph_T h a0 = 2 := by first | assumption | rfl) (hM : CT_X2_aimAt G X.2.1 [.inr a0, .inl a4] h PQ) (hS : S.length ≤ 8 := by decide) (kk : ∀ r h', PQ r h' → PW G X 6 Q k n 131 [some (.inr a0), some (.inr a1), some (.inl a2), some (.inl a3), some (.inl a4), none] (r.toList ++ S) h') : PW G X 6 Q k n 125 [some (.inr a0), some (.inr a1), some (.inl a2), some (.inl a3), some (.inl a4), none] (S) h := by
  refine pw_aload_n C dX2_follow_125 rfl ?_
  refine pw_iload C dX2_follow_126 rfl ?_
  exact pw_callV C (na := 1) (As := [.inl a4]) (S := S) hM t1 (by decide) (hcl := by rfl) kw511 kw513 kw7 kw43 kw514 (by decide +kernel) rfl dX2_follow_128 (by decide) (by decide) hk0 hn0 (by first | exact hS | (simp only [List.length_cons]; omega)) kk
set_option maxRecDepth 20000 in
theorem B_X2_follow_131 {G : Gx} {X : Cx} {h : PH} {k n : Nat} {Q : State → Prop} {S : List PV} {a0 : Nat} {a1 : Nat} {a2 : Int} {a3 : Int} {a4 : Int} {PQ : Option PV → PH → Prop} (C : CX_X2_follow G X) (hk0 : k ≤ 0 := by decide) (hn0 : n ≤ 0 := by decide) (t1 : ph_T h a0 = 2 := by first | assumption | rfl) (hM : CT_X2_gain G X.2.1 [.inr a0, .inl a2, .inl a3] h PQ) (hS : S.length ≤ 8 := by decide) (kk : ∀ r h', PQ r h' → PW G X 6 Q k n 137 [some (.inr a0), some (.inr a1), some (.inl a2), some (.inl a3), some (.inl a4), none] (r.toList ++ S) h') : PW G X 6 Q k n 131 [some (.inr a0), some (.inr a1), some (.inl a2), some (.inl a3), some (.inl a4), none] (S) h := by
  refine pw_aload_n C dX2_follow_131 rfl ?_
  refine pw_iload_n C dX2_follow_132 rfl ?_
  refine pw_iload_n C dX2_follow_133 rfl ?_
  exact pw_callV C (na := 2) (As := [.inl a2, .inl a3]) (S := S) hM t1 (by decide) (hcl := by rfl) kw530 kw532 kw10 kw43 kw533 (by decide +kernel) rfl dX2_follow_134 (by decide) (by decide) hk0 hn0 (by first | exact hS | (simp only [List.length_cons]; omega)) kk
set_option maxRecDepth 20000 in
theorem B_X2_follow_137 {G : Gx} {X : Cx} {h : PH} {k n : Nat} {Q : State → Prop} {S : List PV} {a0 : Nat} {a1 : Nat} {a2 : Int} {a3 : Int} {a4 : Int} {s0 : Int} (C : CX_X2_follow G X) (q1 : pR s0 := by first | assumption | (unfold pR; omega)) (kt : s0 ≤ 0 → PW G X 6 Q k n 144 [some (.inr a0), some (.inr a1), some (.inl a2), some (.inl a3), some (.inl a4), none] (S) h) (kf : ¬ s0 ≤ 0 → PW G X 6 Q k n 140 [some (.inr a0), some (.inr a1), some (.inl a2), some (.inl a3), some (.inl a4), none] (S) h) : PW G X 6 Q k n 137 [some (.inr a0), some (.inr a1), some (.inl a2), some (.inl a3), some (.inl a4), none] (.inl s0 :: S) h := by
  exact pw_if_le C 144 dX2_follow_137 (by decide) q1 kt kf
set_option maxRecDepth 20000 in
theorem B_X2_follow_140 {G : Gx} {X : Cx} {h : PH} {k n : Nat} {Q : State → Prop} {S : List PV} {a0 : Nat} {a1 : Nat} {a2 : Int} {a3 : Int} {a4 : Int} {PQ : Option PV → PH → Prop} (C : CX_X2_follow G X) (hk0 : k ≤ 0 := by decide) (hn0 : n ≤ 0 := by decide) (t1 : ph_T h a1 = 4 := by first | assumption | rfl) (hM : CT_X4_see G X.2.1 [.inr a1] h PQ) (hS : S.length ≤ 8 := by decide) (kk : ∀ r h', PQ r h' → PW G X 6 Q k n 144 [some (.inr a0), some (.inr a1), some (.inl a2), some (.inl a3), some (.inl a4), none] (r.toList ++ S) h') : PW G X 6 Q k n 140 [some (.inr a0), some (.inr a1), some (.inl a2), some (.inl a3), some (.inl a4), none] (S) h := by
  refine pw_aload_n C dX2_follow_140 rfl ?_
  exact pw_callV C (na := 0) (As := []) (S := S) hM t1 (by decide) (hcl := by rfl) kw555 kw556 kw557 kw44 kw558 (by decide +kernel) rfl dX2_follow_141 (by decide) (by decide) hk0 hn0 (by first | exact hS | (simp only [List.length_cons]; omega)) kk
set_option maxRecDepth 20000 in
theorem B_X2_follow_144 {G : Gx} {X : Cx} {h : PH} {k n : Nat} {Q : State → Prop} {S : List PV} {a0 : Nat} {a1 : Nat} {a2 : Int} {a3 : Int} {a4 : Int} (C : CX_X2_follow G X) (kk : PW G X 6 Q k n 53 [some (.inr a0), some (.inr a1), some (.inl a2), some (.inl a3), some (.inl (a4 + 1)), none] (S) h) : PW G X 6 Q k n 144 [some (.inr a0), some (.inr a1), some (.inl a2), some (.inl a3), some (.inl a4), none] (S) h := by
  refine pw_iinc C dX2_follow_144 rfl (by decide) ?_
  refine pw_goto C 53 dX2_follow_147 (by decide) ?_
  exact kk
set_option maxRecDepth 20000 in
theorem B_X2_follow_150 {G : Gx} {X : Cx} {h : PH} {k n : Nat} {a0 : Nat} {a1 : Nat} {a2 : Int} {a3 : Int} {a4 : Int} {PQ : Option PV → PH → Prop} (C : CX_X2_follow G X) (hq : PQ none h) : PW G X 6 (pw_E G X PQ k n) k n 150 [some (.inr a0), some (.inr a1), some (.inl a2), some (.inl a3), some (.inl a4), none] [] h := by
  exact pw_vreturn C dX2_follow_150 hq
theorem dX2_nextCell_0 : decode cX2_nextCell 0 = .ok (.aload_n 0, 1) := by decide +kernel
theorem dX2_nextCell_1 : decode cX2_nextCell 1 = .ok (.getfield 18, 3) := by decide +kernel
theorem dX2_nextCell_4 : decode cX2_nextCell 4 = .ok (.iload_n 1, 1) := by decide +kernel
theorem dX2_nextCell_5 : decode cX2_nextCell 5 = .ok (.iconst 1, 1) := by decide +kernel
theorem dX2_nextCell_6 : decode cX2_nextCell 6 = .ok (.isub, 1) := by decide +kernel
theorem dX2_nextCell_7 : decode cX2_nextCell 7 = .ok (.iload_n 2, 1) := by decide +kernel
theorem dX2_nextCell_8 : decode cX2_nextCell 8 = .ok (.iload_n 3, 1) := by decide +kernel
theorem dX2_nextCell_9 : decode cX2_nextCell 9 = .ok (.invokestatic 135, 3) := by decide +kernel
theorem dX2_nextCell_12 : decode cX2_nextCell 12 = .ok (.iaload, 1) := by decide +kernel
theorem dX2_nextCell_13 : decode cX2_nextCell 13 = .ok (.aload_n 0, 1) := by decide +kernel
theorem dX2_nextCell_14 : decode cX2_nextCell 14 = .ok (.iload_n 2, 1) := by decide +kernel
theorem dX2_nextCell_15 : decode cX2_nextCell 15 = .ok (.iload_n 3, 1) := by decide +kernel
theorem dX2_nextCell_16 : decode cX2_nextCell 16 = .ok (.invokevirtual 154, 3) := by decide +kernel
theorem dX2_nextCell_19 : decode cX2_nextCell 19 = .ok (.isub, 1) := by decide +kernel
theorem dX2_nextCell_20 : decode cX2_nextCell 20 = .ok (.istore 4, 2) := by decide +kernel
theorem dX2_nextCell_22 : decode cX2_nextCell 22 = .ok (.aload_n 0, 1) := by decide +kernel
theorem dX2_nextCell_23 : decode cX2_nextCell 23 = .ok (.iload_n 1, 1) := by decide +kernel
theorem dX2_nextCell_24 : decode cX2_nextCell 24 = .ok (.invokevirtual 160, 3) := by decide +kernel
theorem dX2_nextCell_27 : decode cX2_nextCell 27 = .ok (.iload_n 2, 1) := by decide +kernel
theorem dX2_nextCell_28 : decode cX2_nextCell 28 = .ok (.aload_n 0, 1) := by decide +kernel
theorem dX2_nextCell_29 : decode cX2_nextCell 29 = .ok (.getfield 51, 3) := by decide +kernel
theorem dX2_nextCell_32 : decode cX2_nextCell 32 = .ok (.getfield 164, 3) := by decide +kernel
theorem dX2_nextCell_35 : decode cX2_nextCell 35 = .ok (.iadd, 1) := by decide +kernel
theorem dX2_nextCell_36 : decode cX2_nextCell 36 = .ok (.invokestatic 79, 3) := by decide +kernel
theorem dX2_nextCell_39 : decode cX2_nextCell 39 = .ok (.istore 5, 2) := by decide +kernel
theorem dX2_nextCell_41 : decode cX2_nextCell 41 = .ok (.bipush 6, 2) := by decide +kernel
theorem dX2_nextCell_43 : decode cX2_nextCell 43 = .ok (.iload_n 3, 1) := by decide +kernel
theorem dX2_nextCell_44 : decode cX2_nextCell 44 = .ok (.iconst 1, 1) := by decide +kernel
theorem dX2_nextCell_45 : decode cX2_nextCell 45 = .ok (.iadd, 1) := by decide +kernel
theorem dX2_nextCell_46 : decode cX2_nextCell 46 = .ok (.invokestatic 79, 3) := by decide +kernel
theorem dX2_nextCell_49 : decode cX2_nextCell 49 = .ok (.istore 6, 2) := by decide +kernel
theorem dX2_nextCell_51 : decode cX2_nextCell 51 = .ok (.aload_n 0, 1) := by decide +kernel
theorem dX2_nextCell_52 : decode cX2_nextCell 52 = .ok (.iload_n 1, 1) := by decide +kernel
theorem dX2_nextCell_53 : decode cX2_nextCell 53 = .ok (.invokevirtual 167, 3) := by decide +kernel
theorem dX2_nextCell_56 : decode cX2_nextCell 56 = .ok (.iload_n 2, 1) := by decide +kernel
theorem dX2_nextCell_57 : decode cX2_nextCell 57 = .ok (.aload_n 0, 1) := by decide +kernel
theorem dX2_nextCell_58 : decode cX2_nextCell 58 = .ok (.getfield 51, 3) := by decide +kernel
theorem dX2_nextCell_61 : decode cX2_nextCell 61 = .ok (.getfield 164, 3) := by decide +kernel
theorem dX2_nextCell_64 : decode cX2_nextCell 64 = .ok (.isub, 1) := by decide +kernel
theorem dX2_nextCell_65 : decode cX2_nextCell 65 = .ok (.invokestatic 170, 3) := by decide +kernel
theorem dX2_nextCell_68 : decode cX2_nextCell 68 = .ok (.istore 7, 2) := by decide +kernel
theorem dX2_nextCell_70 : decode cX2_nextCell 70 = .ok (.iload 7, 2) := by decide +kernel
theorem dX2_nextCell_72 : decode cX2_nextCell 72 = .ok (.iload 5, 2) := by decide +kernel
theorem dX2_nextCell_74 : decode cX2_nextCell 74 = .ok (.if_icmp .gt 74, 3) := by decide +kernel
theorem dX2_nextCell_77 : decode cX2_nextCell 77 = .ok (.iconst 0, 1) := by decide +kernel
theorem dX2_nextCell_78 : decode cX2_nextCell 78 = .ok (.iload_n 3, 1) := by decide +kernel
theorem dX2_nextCell_79 : decode cX2_nextCell 79 = .ok (.iconst 1, 1) := by decide +kernel
theorem dX2_nextCell_80 : decode cX2_nextCell 80 = .ok (.isub, 1) := by decide +kernel
theorem dX2_nextCell_81 : decode cX2_nextCell 81 = .ok (.invokestatic 170, 3) := by decide +kernel
theorem dX2_nextCell_84 : decode cX2_nextCell 84 = .ok (.istore 8, 2) := by decide +kernel
theorem dX2_nextCell_86 : decode cX2_nextCell 86 = .ok (.iload 8, 2) := by decide +kernel
theorem dX2_nextCell_88 : decode cX2_nextCell 88 = .ok (.iload 6, 2) := by decide +kernel
theorem dX2_nextCell_90 : decode cX2_nextCell 90 = .ok (.if_icmp .gt 52, 3) := by decide +kernel
theorem dX2_nextCell_93 : decode cX2_nextCell 93 = .ok (.aload_n 0, 1) := by decide +kernel
theorem dX2_nextCell_94 : decode cX2_nextCell 94 = .ok (.getfield 18, 3) := by decide +kernel
theorem dX2_nextCell_97 : decode cX2_nextCell 97 = .ok (.iload_n 1, 1) := by decide +kernel
theorem dX2_nextCell_98 : decode cX2_nextCell 98 = .ok (.iload 7, 2) := by decide +kernel
theorem dX2_nextCell_100 : decode cX2_nextCell 100 = .ok (.iload 8, 2) := by decide +kernel
theorem dX2_nextCell_102 : decode cX2_nextCell 102 = .ok (.invokestatic 135, 3) := by decide +kernel
theorem dX2_nextCell_105 : decode cX2_nextCell 105 = .ok (.iaload, 1) := by decide +kernel
theorem dX2_nextCell_106 : decode cX2_nextCell 106 = .ok (.iload 7, 2) := by decide +kernel
theorem dX2_nextCell_108 : decode cX2_nextCell 108 = .ok (.iload_n 2, 1) := by decide +kernel
theorem dX2_nextCell_109 : decode cX2_nextCell 109 = .ok (.isub, 1) := by decide +kernel
theorem dX2_nextCell_110 : decode cX2_nextCell 110 = .ok (.invokestatic 173, 3) := by decide +kernel
theorem dX2_nextCell_113 : decode cX2_nextCell 113 = .ok (.isub, 1) := by decide +kernel
theorem dX2_nextCell_114 : decode cX2_nextCell 114 = .ok (.iload 8, 2) := by decide +kernel
theorem dX2_nextCell_116 : decode cX2_nextCell 116 = .ok (.iload_n 3, 1) := by decide +kernel
theorem dX2_nextCell_117 : decode cX2_nextCell 117 = .ok (.isub, 1) := by decide +kernel
theorem dX2_nextCell_118 : decode cX2_nextCell 118 = .ok (.invokestatic 173, 3) := by decide +kernel
theorem dX2_nextCell_121 : decode cX2_nextCell 121 = .ok (.isub, 1) := by decide +kernel
theorem dX2_nextCell_122 : decode cX2_nextCell 122 = .ok (.iload 4, 2) := by decide +kernel
theorem dX2_nextCell_124 : decode cX2_nextCell 124 = .ok (.if_icmp .ne 12, 3) := by decide +kernel
theorem dX2_nextCell_127 : decode cX2_nextCell 127 = .ok (.iload 7, 2) := by decide +kernel
theorem dX2_nextCell_129 : decode cX2_nextCell 129 = .ok (.bipush 7, 2) := by decide +kernel
theorem dX2_nextCell_131 : decode cX2_nextCell 131 = .ok (.imul, 1) := by decide +kernel
theorem dX2_nextCell_132 : decode cX2_nextCell 132 = .ok (.iload 8, 2) := by decide +kernel
theorem dX2_nextCell_134 : decode cX2_nextCell 134 = .ok (.iadd, 1) := by decide +kernel
theorem dX2_nextCell_135 : decode cX2_nextCell 135 = .ok (.ireturn, 1) := by decide +kernel
theorem dX2_nextCell_136 : decode cX2_nextCell 136 = .ok (.iinc 8 1, 3) := by decide +kernel
theorem dX2_nextCell_139 : decode cX2_nextCell 139 = .ok (.goto (-53), 3) := by decide +kernel
theorem dX2_nextCell_142 : decode cX2_nextCell 142 = .ok (.iinc 7 1, 3) := by decide +kernel
theorem dX2_nextCell_145 : decode cX2_nextCell 145 = .ok (.goto (-75), 3) := by decide +kernel
theorem dX2_nextCell_148 : decode cX2_nextCell 148 = .ok (.iload_n 2, 1) := by decide +kernel
theorem dX2_nextCell_149 : decode cX2_nextCell 149 = .ok (.bipush 7, 2) := by decide +kernel
theorem dX2_nextCell_151 : decode cX2_nextCell 151 = .ok (.imul, 1) := by decide +kernel
theorem dX2_nextCell_152 : decode cX2_nextCell 152 = .ok (.iload_n 3, 1) := by decide +kernel
theorem dX2_nextCell_153 : decode cX2_nextCell 153 = .ok (.iadd, 1) := by decide +kernel
theorem dX2_nextCell_154 : decode cX2_nextCell 154 = .ok (.ireturn, 1) := by decide +kernel
set_option maxRecDepth 20000 in
theorem B_X2_nextCell_0 {G : Gx} {X : Cx} {h : PH} {k n : Nat} {Q : State → Prop} {S : List PV} {a0 : Nat} {a1 : Int} {a2 : Int} {a3 : Int} {r2 : Nat} {PQ : Option PV → PH → Prop} (C : CX_X2_nextCell G X) (hk0 : k ≤ 0 := by decide) (hn0 : n ≤ 0 := by decide) (t1 : ph_T h a0 = 2 := by first | assumption | rfl) (e3 : ph_R h a0 2 = r2 := by first | assumption | rfl) (hM : CT_X2_cell G X.2.1 [.inl (a1 - 1), .inl a2, .inl a3] h PQ) (hS : S.length ≤ 7 := by decide) (kk : ∀ r h', PQ r h' → PW G X 9 Q k n 12 [some (.inr a0), some (.inl a1), some (.inl a2), some (.inl a3), none, none, none, none, none] (r.toList ++ (.inr r2 :: S)) h') : PW G X 9 Q k n 0 [some (.inr a0), some (.inl a1), some (.inl a2), some (.inl a3), none, none, none, none, none] (S) h := by
  refine pw_aload_n C dX2_nextCell_0 rfl ?_
  refine pw_getR C (t := 2) (f := 2) rfl inF2 rfl (by decide) (by decide) rfl kw278 dX2_nextCell_1 t1 ?_
  rw [e3]
  refine pw_iload_n C dX2_nextCell_4 rfl ?_
  refine pw_iconst C dX2_nextCell_5 ?_
  refine pw_isub C dX2_nextCell_6 ?_
  refine pw_iload_n C dX2_nextCell_7 rfl ?_
  refine pw_iload_n C dX2_nextCell_8 rfl ?_
  exact pw_callS C (na := 3) (As := [.inl (a1 - 1), .inl a2, .inl a3]) (S := .inr r2 :: S) hM kw538 kw539 kw43 kw540 (by decide +kernel) rfl dX2_nextCell_9 (by decide) (by decide) hk0 hn0 (by first | exact hS | (simp only [List.length_cons]; omega)) kk
set_option maxRecDepth 20000 in
theorem B_X2_nextCell_12 {G : Gx} {X : Cx} {h : PH} {k n : Nat} {Q : State → Prop} {S : List PV} {a0 : Nat} {a1 : Int} {a2 : Int} {a3 : Int} {s0 : Int} {s1 : Nat} {x5 : Int} {PQ : Option PV → PH → Prop} (C : CX_X2_nextCell G X) (hk0 : k ≤ 0 := by decide) (hn0 : n ≤ 0 := by decide) (t1 : ph_T h s1 = 8 := by first | assumption | rfl) (q2 : (0 : Int) ≤ s0 := by first | assumption | omega) (q3 : s0 < (ph_L h s1 : Int) := by first | assumption | omega) (q4 : pR s0 := by first | assumption | (unfold pR; omega)) (e6 : ph_I h s1 (Int.toNat s0) = x5 := by first | assumption | rfl) (t7 : ph_T h a0 = 2 := by first | assumption | rfl) (hM : CT_X2_gain G X.2.1 [.inr a0, .inl a2, .inl a3] h PQ) (hS : S.length ≤ 7 := by decide) (kk : ∀ r h', PQ r h' → PW G X 9 Q k n 19 [some (.inr a0), some (.inl a1), some (.inl a2), some (.inl a3), none, none, none, none, none] (r.toList ++ (.inl x5 :: S)) h') : PW G X 9 Q k n 12 [some (.inr a0), some (.inl a1), some (.inl a2), some (.inl a3), none, none, none, none, none] (.inl s0 :: .inr s1 :: S) h := by
  refine pw_iald C dX2_nextCell_12 t1 q2 q3 q4 ?_
  rw [e6]
  refine pw_aload_n C dX2_nextCell_13 rfl ?_
  refine pw_iload_n C dX2_nextCell_14 rfl ?_
  refine pw_iload_n C dX2_nextCell_15 rfl ?_
  exact pw_callV C (na := 2) (As := [.inl a2, .inl a3]) (S := .inl x5 :: S) hM t7 (by decide) (hcl := by rfl) kw530 kw532 kw10 kw43 kw533 (by decide +kernel) rfl dX2_nextCell_16 (by decide) (by decide) hk0 hn0 (by first | exact hS | (simp only [List.length_cons]; omega)) kk
set_option maxRecDepth 20000 in
theorem B_X2_nextCell_19 {G : Gx} {X : Cx} {h : PH} {k n : Nat} {Q : State → Prop} {S : List PV} {a0 : Nat} {a1 : Int} {a2 : Int} {a3 : Int} {s0 : Int} {s1 : Int} {PQ : Option PV → PH → Prop} (C : CX_X2_nextCell G X) (hk0 : k ≤ 0 := by decide) (hn0 : n ≤ 0 := by decide) (t1 : ph_T h a0 = 2 := by first | assumption | rfl) (hM : CT_X2_highWind G X.2.1 [.inr a0, .inl a1] h PQ) (hS : S.length ≤ 8 := by decide) (kk : ∀ r h', PQ r h' → PW G X 9 Q k n 27 [some (.inr a0), some (.inl a1), some (.inl a2), some (.inl a3), some (.inl (s1 - s0)), none, none, none, none] (r.toList ++ S) h') : PW G X 9 Q k n 19 [some (.inr a0), some (.inl a1), some (.inl a2), some (.inl a3), none, none, none, none, none] (.inl s0 :: .inl s1 :: S) h := by
  refine pw_isub C dX2_nextCell_19 ?_
  refine pw_istore C dX2_nextCell_20 (by decide) ?_
  refine pw_aload_n C dX2_nextCell_22 rfl ?_
  refine pw_iload_n C dX2_nextCell_23 rfl ?_
  exact pw_callV C (na := 1) (As := [.inl a1]) (S := S) hM t1 (by decide) (hcl := by rfl) kw487 kw489 kw3 kw43 kw490 (by decide +kernel) rfl dX2_nextCell_24 (by decide) (by decide) hk0 hn0 (by first | exact hS | (simp only [List.length_cons]; omega)) kk
set_option maxRecDepth 20000 in
theorem B_X2_nextCell_27 {G : Gx} {X : Cx} {h : PH} {k n : Nat} {Q : State → Prop} {S : List PV} {a0 : Nat} {a1 : Int} {a2 : Int} {a3 : Int} {a4 : Int} {s0 : Int} {r2 : Nat} {x5 : Int} {x9 : Int} {x13 : Int} {PQ : Option PV → PH → Prop} (C : CX_X2_nextCell G X) (hk0 : k ≤ 0 := by decide) (hn0 : n ≤ 0 := by decide) (t1 : ph_T h a0 = 2 := by first | assumption | rfl) (e3 : ph_R h a0 6 = r2 := by first | assumption | rfl) (t4 : ph_T h r2 = 1 := by first | assumption | rfl) (e6 : ph_I h r2 4 = x5 := by first | assumption | rfl) (q7 : pR s0 := by first | assumption | (unfold pR; omega)) (q8 : pR (a2 + x5) := by first | assumption | (unfold pR; omega)) (hS : S.length ≤ 4 := by decide) (e10 : (if a2 + x5 < s0 then a2 + x5 else s0) = x9 := by first | assumption | rfl) (q11 : pR 6 := by first | assumption | (unfold pR; omega)) (q12 : pR (a3 + 1) := by first | assumption | (unfold pR; omega)) (e14 : (if a3 + 1 < 6 then a3 + 1 else 6) = x13 := by first | assumption | rfl) (t15 : ph_T h a0 = 2 := by first | assumption | rfl) (hM : CT_X2_lowWind G X.2.1 [.inr a0, .inl a1] h PQ) (hS : S.length ≤ 8 := by decide) (kk : ∀ r h', PQ r h' → PW G X 9 Q k n 56 [some (.inr a0), some (.inl a1), some (.inl a2), some (.inl a3), some (.inl a4), some (.inl x9), some (.inl x13), none, none] (r.toList ++ S) h') : PW G X 9 Q k n 27 [some (.inr a0), some (.inl a1), some (.inl a2), some (.inl a3), some (.inl a4), none, none, none, none] (.inl s0 :: S) h := by
  refine pw_iload_n C dX2_nextCell_27 rfl ?_
  refine pw_aload_n C dX2_nextCell_28 rfl ?_
  refine pw_getR C (t := 2) (f := 6) rfl inF2 rfl (by decide) (by decide) rfl kw282 dX2_nextCell_29 t1 ?_
  rw [e3]
  refine pw_getI C (t := 1) (f := 4) rfl inF1 rfl (by decide) (by decide) rfl kw164 dX2_nextCell_32 t4 ?_
  rw [e6]
  refine pw_iadd C dX2_nextCell_35 ?_
  refine pw_min C kw462 kw424 kw46 kwMin dX2_nextCell_36 (by decide) (by simp only [List.length_cons]; omega) hk0 hn0 q7 q8 ?_
  rw [e10]
  refine pw_istore C dX2_nextCell_39 (by decide) ?_
  refine pw_bipush C dX2_nextCell_41 rfl ?_
  refine pw_iload_n C dX2_nextCell_43 rfl ?_
  refine pw_iconst C dX2_nextCell_44 ?_
  refine pw_iadd C dX2_nextCell_45 ?_
  refine pw_min C kw462 kw424 kw46 kwMin dX2_nextCell_46 (by decide) (by simp only [List.length_cons]; omega) hk0 hn0 q11 q12 ?_
  rw [e14]
  refine pw_istore C dX2_nextCell_49 (by decide) ?_
  refine pw_aload_n C dX2_nextCell_51 rfl ?_
  refine pw_iload_n C dX2_nextCell_52 rfl ?_
  exact pw_callV C (na := 1) (As := [.inl a1]) (S := S) hM t15 (by decide) (hcl := by rfl) kw480 kw482 kw2 kw43 kw483 (by decide +kernel) rfl dX2_nextCell_53 (by decide) (by decide) hk0 hn0 (by first | exact hS | (simp only [List.length_cons]; omega)) kk
set_option maxRecDepth 20000 in
theorem B_X2_nextCell_56 {G : Gx} {X : Cx} {h : PH} {k n : Nat} {Q : State → Prop} {S : List PV} {a0 : Nat} {a1 : Int} {a2 : Int} {a3 : Int} {a4 : Int} {a5 : Int} {a6 : Int} {s0 : Int} {r2 : Nat} {x5 : Int} {x9 : Int} (C : CX_X2_nextCell G X) (hk0 : k ≤ 0 := by decide) (hn0 : n ≤ 0 := by decide) (t1 : ph_T h a0 = 2 := by first | assumption | rfl) (e3 : ph_R h a0 6 = r2 := by first | assumption | rfl) (t4 : ph_T h r2 = 1 := by first | assumption | rfl) (e6 : ph_I h r2 4 = x5 := by first | assumption | rfl) (q7 : pR s0 := by first | assumption | (unfold pR; omega)) (q8 : pR (a2 - x5) := by first | assumption | (unfold pR; omega)) (hS : S.length ≤ 4 := by decide) (e10 : (if s0 < a2 - x5 then a2 - x5 else s0) = x9 := by first | assumption | rfl) (kk : PW G X 9 Q k n 70 [some (.inr a0), some (.inl a1), some (.inl a2), some (.inl a3), some (.inl a4), some (.inl a5), some (.inl a6), some (.inl x9), none] (S) h) : PW G X 9 Q k n 56 [some (.inr a0), some (.inl a1), some (.inl a2), some (.inl a3), some (.inl a4), some (.inl a5), some (.inl a6), none, none] (.inl s0 :: S) h := by
  refine pw_iload_n C dX2_nextCell_56 rfl ?_
  refine pw_aload_n C dX2_nextCell_57 rfl ?_
  refine pw_getR C (t := 2) (f := 6) rfl inF2 rfl (by decide) (by decide) rfl kw282 dX2_nextCell_58 t1 ?_
  rw [e3]
  refine pw_getI C (t := 1) (f := 4) rfl inF1 rfl (by decide) (by decide) rfl kw164 dX2_nextCell_61 t4 ?_
  rw [e6]
  refine pw_isub C dX2_nextCell_64 ?_
  refine pw_max C kw484 kw485 kw46 kwMax dX2_nextCell_65 (by decide) (by simp only [List.length_cons]; omega) hk0 hn0 q7 q8 ?_
  rw [e10]
  refine pw_istore C dX2_nextCell_68 (by decide) ?_
  exact kk
set_option maxRecDepth 20000 in
theorem B_X2_nextCell_70 {G : Gx} {X : Cx} {h : PH} {k n : Nat} {Q : State → Prop} {S : List PV} {a0 : Nat} {a1 : Int} {a2 : Int} {a3 : Int} {a4 : Int} {a5 : Int} {a6 : Int} {a7 : Int} (C : CX_X2_nextCell G X) (q1 : pR a7 := by first | assumption | (unfold pR; omega)) (q2 : pR a5 := by first | assumption | (unfold pR; omega)) (kt : a5 < a7 → PW G X 9 Q k n 148 [some (.inr a0), some (.inl a1), some (.inl a2), some (.inl a3), some (.inl a4), some (.inl a5), some (.inl a6), some (.inl a7), none] (S) h) (kf : ¬ a5 < a7 → PW G X 9 Q k n 77 [some (.inr a0), some (.inl a1), some (.inl a2), some (.inl a3), some (.inl a4), some (.inl a5), some (.inl a6), some (.inl a7), none] (S) h) : PW G X 9 Q k n 70 [some (.inr a0), some (.inl a1), some (.inl a2), some (.inl a3), some (.inl a4), some (.inl a5), some (.inl a6), some (.inl a7), none] (S) h := by
  refine pw_iload C dX2_nextCell_70 rfl ?_
  refine pw_iload C dX2_nextCell_72 rfl ?_
  exact pw_icmp_gt C 148 dX2_nextCell_74 (by decide) q1 q2 kt kf
set_option maxRecDepth 20000 in
theorem B_X2_nextCell_77 {G : Gx} {X : Cx} {h : PH} {k n : Nat} {Q : State → Prop} {S : List PV} {a0 : Nat} {a1 : Int} {a2 : Int} {a3 : Int} {a4 : Int} {a5 : Int} {a6 : Int} {a7 : Int} {x3 : Int} (C : CX_X2_nextCell G X) (hk0 : k ≤ 0 := by decide) (hn0 : n ≤ 0 := by decide) (q1 : pR 0 := by first | assumption | (unfold pR; omega)) (q2 : pR (a3 - 1) := by first | assumption | (unfold pR; omega)) (hS : S.length ≤ 4 := by decide) (e4 : (if 0 < a3 - 1 then a3 - 1 else 0) = x3 := by first | assumption | rfl) (kk : PW G X 9 Q k n 86 [some (.inr a0), some (.inl a1), some (.inl a2), some (.inl a3), some (.inl a4), some (.inl a5), some (.inl a6), some (.inl a7), some (.inl x3)] (S) h) : PW G X 9 Q k n 77 [some (.inr a0), some (.inl a1), some (.inl a2), some (.inl a3), some (.inl a4), some (.inl a5), some (.inl a6), some (.inl a7), none] (S) h := by
  refine pw_iconst C dX2_nextCell_77 ?_
  refine pw_iload_n C dX2_nextCell_78 rfl ?_
  refine pw_iconst C dX2_nextCell_79 ?_
  refine pw_isub C dX2_nextCell_80 ?_
  refine pw_max C kw484 kw485 kw46 kwMax dX2_nextCell_81 (by decide) (by simp only [List.length_cons]; omega) hk0 hn0 q1 q2 ?_
  rw [e4]
  refine pw_istore C dX2_nextCell_84 (by decide) ?_
  exact kk
set_option maxRecDepth 20000 in
theorem B_X2_nextCell_86 {G : Gx} {X : Cx} {h : PH} {k n : Nat} {Q : State → Prop} {S : List PV} {a0 : Nat} {a1 : Int} {a2 : Int} {a3 : Int} {a4 : Int} {a5 : Int} {a6 : Int} {a7 : Int} {a8 : Int} (C : CX_X2_nextCell G X) (q1 : pR a8 := by first | assumption | (unfold pR; omega)) (q2 : pR a6 := by first | assumption | (unfold pR; omega)) (kt : a6 < a8 → PW G X 9 Q k n 142 [some (.inr a0), some (.inl a1), some (.inl a2), some (.inl a3), some (.inl a4), some (.inl a5), some (.inl a6), some (.inl a7), some (.inl a8)] (S) h) (kf : ¬ a6 < a8 → PW G X 9 Q k n 93 [some (.inr a0), some (.inl a1), some (.inl a2), some (.inl a3), some (.inl a4), some (.inl a5), some (.inl a6), some (.inl a7), some (.inl a8)] (S) h) : PW G X 9 Q k n 86 [some (.inr a0), some (.inl a1), some (.inl a2), some (.inl a3), some (.inl a4), some (.inl a5), some (.inl a6), some (.inl a7), some (.inl a8)] (S) h := by
  refine pw_iload C dX2_nextCell_86 rfl ?_
  refine pw_iload C dX2_nextCell_88 rfl ?_
  exact pw_icmp_gt C 142 dX2_nextCell_90 (by decide) q1 q2 kt kf
set_option maxRecDepth 20000 in
theorem B_X2_nextCell_93 {G : Gx} {X : Cx} {h : PH} {k n : Nat} {Q : State → Prop} {S : List PV} {a0 : Nat} {a1 : Int} {a2 : Int} {a3 : Int} {a4 : Int} {a5 : Int} {a6 : Int} {a7 : Int} {a8 : Int} {r2 : Nat} {PQ : Option PV → PH → Prop} (C : CX_X2_nextCell G X) (hk0 : k ≤ 0 := by decide) (hn0 : n ≤ 0 := by decide) (t1 : ph_T h a0 = 2 := by first | assumption | rfl) (e3 : ph_R h a0 2 = r2 := by first | assumption | rfl) (hM : CT_X2_cell G X.2.1 [.inl a1, .inl a7, .inl a8] h PQ) (hS : S.length ≤ 7 := by decide) (kk : ∀ r h', PQ r h' → PW G X 9 Q k n 105 [some (.inr a0), some (.inl a1), some (.inl a2), some (.inl a3), some (.inl a4), some (.inl a5), some (.inl a6), some (.inl a7), some (.inl a8)] (r.toList ++ (.inr r2 :: S)) h') : PW G X 9 Q k n 93 [some (.inr a0), some (.inl a1), some (.inl a2), some (.inl a3), some (.inl a4), some (.inl a5), some (.inl a6), some (.inl a7), some (.inl a8)] (S) h := by
  refine pw_aload_n C dX2_nextCell_93 rfl ?_
  refine pw_getR C (t := 2) (f := 2) rfl inF2 rfl (by decide) (by decide) rfl kw278 dX2_nextCell_94 t1 ?_
  rw [e3]
  refine pw_iload_n C dX2_nextCell_97 rfl ?_
  refine pw_iload C dX2_nextCell_98 rfl ?_
  refine pw_iload C dX2_nextCell_100 rfl ?_
  exact pw_callS C (na := 3) (As := [.inl a1, .inl a7, .inl a8]) (S := .inr r2 :: S) hM kw538 kw539 kw43 kw540 (by decide +kernel) rfl dX2_nextCell_102 (by decide) (by decide) hk0 hn0 (by first | exact hS | (simp only [List.length_cons]; omega)) kk
set_option maxRecDepth 20000 in
theorem B_X2_nextCell_105 {G : Gx} {X : Cx} {h : PH} {k n : Nat} {Q : State → Prop} {S : List PV} {a0 : Nat} {a1 : Int} {a2 : Int} {a3 : Int} {a4 : Int} {a5 : Int} {a6 : Int} {a7 : Int} {a8 : Int} {s0 : Int} {s1 : Nat} {x5 : Int} {x8 : Int} {x11 : Int} (C : CX_X2_nextCell G X) (hk0 : k ≤ 0 := by decide) (hn0 : n ≤ 0 := by decide) (t1 : ph_T h s1 = 8 := by first | assumption | rfl) (q2 : (0 : Int) ≤ s0 := by first | assumption | omega) (q3 : s0 < (ph_L h s1 : Int) := by first | assumption | omega) (q4 : pR s0 := by first | assumption | (unfold pR; omega)) (e6 : ph_I h s1 (Int.toNat s0) = x5 := by first | assumption | rfl) (q7 : pR (a7 - a2) := by first | assumption | (unfold pR; omega)) (hS : S.length ≤ 4 := by decide) (e9 : (if 0 ≤ a7 - a2 then a7 - a2 else -(a7 - a2)) = x8 := by first | assumption | rfl) (q10 : pR (a8 - a3) := by first | assumption | (unfold pR; omega)) (e12 : (if 0 ≤ a8 - a3 then a8 - a3 else -(a8 - a3)) = x11 := by first | assumption | rfl) (q13 : pR ((x5 - x8) - x11) := by first | assumption | (unfold pR; omega)) (q14 : pR a4 := by first | assumption | (unfold pR; omega)) (kt : ¬ (x5 - x8) - x11 = a4 → PW G X 9 Q k n 136 [some (.inr a0), some (.inl a1), some (.inl a2), some (.inl a3), some (.inl a4), some (.inl a5), some (.inl a6), some (.inl a7), some (.inl a8)] (S) h) (kf : (x5 - x8) - x11 = a4 → PW G X 9 Q k n 127 [some (.inr a0), some (.inl a1), some (.inl a2), some (.inl a3), some (.inl a4), some (.inl a5), some (.inl a6), some (.inl a7), some (.inl a8)] (S) h) : PW G X 9 Q k n 105 [some (.inr a0), some (.inl a1), some (.inl a2), some (.inl a3), some (.inl a4), some (.inl a5), some (.inl a6), some (.inl a7), some (.inl a8)] (.inl s0 :: .inr s1 :: S) h := by
  refine pw_iald C dX2_nextCell_105 t1 q2 q3 q4 ?_
  rw [e6]
  refine pw_iload C dX2_nextCell_106 rfl ?_
  refine pw_iload_n C dX2_nextCell_108 rfl ?_
  refine pw_isub C dX2_nextCell_109 ?_
  refine pw_abs C kw549 kw421 kw46 kwAbs dX2_nextCell_110 (by decide) (by simp only [List.length_cons]; omega) hk0 hn0 q7 ?_
  rw [e9]
  refine pw_isub C dX2_nextCell_113 ?_
  refine pw_iload C dX2_nextCell_114 rfl ?_
  refine pw_iload_n C dX2_nextCell_116 rfl ?_
  refine pw_isub C dX2_nextCell_117 ?_
  refine pw_abs C kw549 kw421 kw46 kwAbs dX2_nextCell_118 (by decide) (by simp only [List.length_cons]; omega) hk0 hn0 q10 ?_
  rw [e12]
  refine pw_isub C dX2_nextCell_121 ?_
  refine pw_iload C dX2_nextCell_122 rfl ?_
  exact pw_icmp_ne C 136 dX2_nextCell_124 (by decide) q13 q14 kt kf
set_option maxRecDepth 20000 in
theorem B_X2_nextCell_127 {G : Gx} {X : Cx} {h : PH} {k n : Nat} {a0 : Nat} {a1 : Int} {a2 : Int} {a3 : Int} {a4 : Int} {a5 : Int} {a6 : Int} {a7 : Int} {a8 : Int} {PQ : Option PV → PH → Prop} (C : CX_X2_nextCell G X) (hq : PQ (some (.inl ((a7 * 7) + a8))) h) : PW G X 9 (pw_E G X PQ k n) k n 127 [some (.inr a0), some (.inl a1), some (.inl a2), some (.inl a3), some (.inl a4), some (.inl a5), some (.inl a6), some (.inl a7), some (.inl a8)] [] h := by
  refine pw_iload C dX2_nextCell_127 rfl ?_
  refine pw_bipush C dX2_nextCell_129 rfl ?_
  refine pw_imul C dX2_nextCell_131 ?_
  refine pw_iload C dX2_nextCell_132 rfl ?_
  refine pw_iadd C dX2_nextCell_134 ?_
  exact pw_ireturn C dX2_nextCell_135 hq
set_option maxRecDepth 20000 in
theorem B_X2_nextCell_136 {G : Gx} {X : Cx} {h : PH} {k n : Nat} {Q : State → Prop} {S : List PV} {a0 : Nat} {a1 : Int} {a2 : Int} {a3 : Int} {a4 : Int} {a5 : Int} {a6 : Int} {a7 : Int} {a8 : Int} (C : CX_X2_nextCell G X) (kk : PW G X 9 Q k n 86 [some (.inr a0), some (.inl a1), some (.inl a2), some (.inl a3), some (.inl a4), some (.inl a5), some (.inl a6), some (.inl a7), some (.inl (a8 + 1))] (S) h) : PW G X 9 Q k n 136 [some (.inr a0), some (.inl a1), some (.inl a2), some (.inl a3), some (.inl a4), some (.inl a5), some (.inl a6), some (.inl a7), some (.inl a8)] (S) h := by
  refine pw_iinc C dX2_nextCell_136 rfl (by decide) ?_
  refine pw_goto C 86 dX2_nextCell_139 (by decide) ?_
  exact kk
set_option maxRecDepth 20000 in
theorem B_X2_nextCell_142 {G : Gx} {X : Cx} {h : PH} {k n : Nat} {Q : State → Prop} {S : List PV} {a0 : Nat} {a1 : Int} {a2 : Int} {a3 : Int} {a4 : Int} {a5 : Int} {a6 : Int} {a7 : Int} {a8 : Int} (C : CX_X2_nextCell G X) (kk : PW G X 9 Q k n 70 [some (.inr a0), some (.inl a1), some (.inl a2), some (.inl a3), some (.inl a4), some (.inl a5), some (.inl a6), some (.inl (a7 + 1)), none] (S) h) : PW G X 9 Q k n 142 [some (.inr a0), some (.inl a1), some (.inl a2), some (.inl a3), some (.inl a4), some (.inl a5), some (.inl a6), some (.inl a7), some (.inl a8)] (S) h := by
  refine pw_iinc C dX2_nextCell_142 rfl (by decide) ?_
  refine pw_goto C 70 dX2_nextCell_145 (by decide) ?_
  exact pw_weak [true, true, true, true, true, true, true, true, false] kk
set_option maxRecDepth 20000 in
theorem B_X2_nextCell_148 {G : Gx} {X : Cx} {h : PH} {k n : Nat} {a0 : Nat} {a1 : Int} {a2 : Int} {a3 : Int} {a4 : Int} {a5 : Int} {a6 : Int} {a7 : Int} {PQ : Option PV → PH → Prop} (C : CX_X2_nextCell G X) (hq : PQ (some (.inl ((a2 * 7) + a3))) h) : PW G X 9 (pw_E G X PQ k n) k n 148 [some (.inr a0), some (.inl a1), some (.inl a2), some (.inl a3), some (.inl a4), some (.inl a5), some (.inl a6), some (.inl a7), none] [] h := by
  refine pw_iload_n C dX2_nextCell_148 rfl ?_
  refine pw_bipush C dX2_nextCell_149 rfl ?_
  refine pw_imul C dX2_nextCell_151 ?_
  refine pw_iload_n C dX2_nextCell_152 rfl ?_
  refine pw_iadd C dX2_nextCell_153 ?_
  exact pw_ireturn C dX2_nextCell_154 hq
theorem dX2_goForth_0 : decode cX2_goForth 0 = .ok (.aload_n 1, 1) := by decide +kernel
theorem dX2_goForth_1 : decode cX2_goForth 1 = .ok (.iconst 1, 1) := by decide +kernel
theorem dX2_goForth_2 : decode cX2_goForth 2 = .ok (.putfield 96, 3) := by decide +kernel
theorem dX2_goForth_5 : decode cX2_goForth 5 = .ok (.aload_n 0, 1) := by decide +kernel
theorem dX2_goForth_6 : decode cX2_goForth 6 = .ok (.getfield 25, 3) := by decide +kernel
theorem dX2_goForth_9 : decode cX2_goForth 9 = .ok (.iconst 0, 1) := by decide +kernel
theorem dX2_goForth_10 : decode cX2_goForth 10 = .ok (.invokestatic 107, 3) := by decide +kernel
theorem dX2_goForth_13 : decode cX2_goForth 13 = .ok (.iconst 0, 1) := by decide +kernel
theorem dX2_goForth_14 : decode cX2_goForth 14 = .ok (.istore_n 2, 1) := by decide +kernel
theorem dX2_goForth_15 : decode cX2_goForth 15 = .ok (.iload_n 2, 1) := by decide +kernel
theorem dX2_goForth_16 : decode cX2_goForth 16 = .ok (.aload_n 0, 1) := by decide +kernel
theorem dX2_goForth_17 : decode cX2_goForth 17 = .ok (.getfield 31, 3) := by decide +kernel
theorem dX2_goForth_20 : decode cX2_goForth 20 = .ok (.if_icmp .ge 98, 3) := by decide +kernel
theorem dX2_goForth_23 : decode cX2_goForth 23 = .ok (.iload_n 2, 1) := by decide +kernel
theorem dX2_goForth_24 : decode cX2_goForth 24 = .ok (.ifCond .le 15, 3) := by decide +kernel
theorem dX2_goForth_27 : decode cX2_goForth 27 = .ok (.aload_n 0, 1) := by decide +kernel
theorem dX2_goForth_28 : decode cX2_goForth 28 = .ok (.aload_n 0, 1) := by decide +kernel
theorem dX2_goForth_29 : decode cX2_goForth 29 = .ok (.getfield 22, 3) := by decide +kernel
theorem dX2_goForth_32 : decode cX2_goForth 32 = .ok (.iconst 0, 1) := by decide +kernel
theorem dX2_goForth_33 : decode cX2_goForth 33 = .ok (.iload_n 2, 1) := by decide +kernel
theorem dX2_goForth_34 : decode cX2_goForth 34 = .ok (.iconst 1, 1) := by decide +kernel
theorem dX2_goForth_35 : decode cX2_goForth 35 = .ok (.isub, 1) := by decide +kernel
theorem dX2_goForth_36 : decode cX2_goForth 36 = .ok (.invokevirtual 113, 3) := by decide +kernel
theorem dX2_goForth_39 : decode cX2_goForth 39 = .ok (.aload_n 0, 1) := by decide +kernel
theorem dX2_goForth_40 : decode cX2_goForth 40 = .ok (.aload_n 0, 1) := by decide +kernel
theorem dX2_goForth_41 : decode cX2_goForth 41 = .ok (.getfield 22, 3) := by decide +kernel
theorem dX2_goForth_44 : decode cX2_goForth 44 = .ok (.iconst 0, 1) := by decide +kernel
theorem dX2_goForth_45 : decode cX2_goForth 45 = .ok (.iload_n 2, 1) := by decide +kernel
theorem dX2_goForth_46 : decode cX2_goForth 46 = .ok (.invokevirtual 117, 3) := by decide +kernel
theorem dX2_goForth_49 : decode cX2_goForth 49 = .ok (.aload_n 0, 1) := by decide +kernel
theorem dX2_goForth_50 : decode cX2_goForth 50 = .ok (.iload_n 2, 1) := by decide +kernel
theorem dX2_goForth_51 : decode cX2_goForth 51 = .ok (.invokevirtual 120, 3) := by decide +kernel
theorem dX2_goForth_54 : decode cX2_goForth 54 = .ok (.aload_n 0, 1) := by decide +kernel
theorem dX2_goForth_55 : decode cX2_goForth 55 = .ok (.aload_n 0, 1) := by decide +kernel
theorem dX2_goForth_56 : decode cX2_goForth 56 = .ok (.getfield 22, 3) := by decide +kernel
theorem dX2_goForth_59 : decode cX2_goForth 59 = .ok (.iconst 0, 1) := by decide +kernel
theorem dX2_goForth_60 : decode cX2_goForth 60 = .ok (.iload_n 2, 1) := by decide +kernel
theorem dX2_goForth_61 : decode cX2_goForth 61 = .ok (.invokevirtual 123, 3) := by decide +kernel
theorem dX2_goForth_64 : decode cX2_goForth 64 = .ok (.aload_n 0, 1) := by decide +kernel
theorem dX2_goForth_65 : decode cX2_goForth 65 = .ok (.iload_n 2, 1) := by decide +kernel
theorem dX2_goForth_66 : decode cX2_goForth 66 = .ok (.invokevirtual 176, 3) := by decide +kernel
theorem dX2_goForth_69 : decode cX2_goForth 69 = .ok (.istore_n 3, 1) := by decide +kernel
theorem dX2_goForth_70 : decode cX2_goForth 70 = .ok (.iload_n 3, 1) := by decide +kernel
theorem dX2_goForth_71 : decode cX2_goForth 71 = .ok (.ifCond .lt 41, 3) := by decide +kernel
theorem dX2_goForth_74 : decode cX2_goForth 74 = .ok (.aload_n 1, 1) := by decide +kernel
theorem dX2_goForth_75 : decode cX2_goForth 75 = .ok (.getfield 179, 3) := by decide +kernel
theorem dX2_goForth_78 : decode cX2_goForth 78 = .ok (.iload_n 3, 1) := by decide +kernel
theorem dX2_goForth_79 : decode cX2_goForth 79 = .ok (.iconst 1, 1) := by decide +kernel
theorem dX2_goForth_80 : decode cX2_goForth 80 = .ok (.iadd, 1) := by decide +kernel
theorem dX2_goForth_81 : decode cX2_goForth 81 = .ok (.aload_n 0, 1) := by decide +kernel
theorem dX2_goForth_82 : decode cX2_goForth 82 = .ok (.aload_n 0, 1) := by decide +kernel
theorem dX2_goForth_83 : decode cX2_goForth 83 = .ok (.getfield 22, 3) := by decide +kernel
theorem dX2_goForth_86 : decode cX2_goForth 86 = .ok (.iconst 0, 1) := by decide +kernel
theorem dX2_goForth_87 : decode cX2_goForth 87 = .ok (.iload_n 2, 1) := by decide +kernel
theorem dX2_goForth_88 : decode cX2_goForth 88 = .ok (.invokevirtual 182, 3) := by decide +kernel
theorem dX2_goForth_91 : decode cX2_goForth 91 = .ok (.iastore, 1) := by decide +kernel
theorem dX2_goForth_92 : decode cX2_goForth 92 = .ok (.aload_n 1, 1) := by decide +kernel
theorem dX2_goForth_93 : decode cX2_goForth 93 = .ok (.getfield 186, 3) := by decide +kernel
theorem dX2_goForth_96 : decode cX2_goForth 96 = .ok (.iload_n 3, 1) := by decide +kernel
theorem dX2_goForth_97 : decode cX2_goForth 97 = .ok (.aload_n 0, 1) := by decide +kernel
theorem dX2_goForth_98 : decode cX2_goForth 98 = .ok (.aload_n 0, 1) := by decide +kernel
theorem dX2_goForth_99 : decode cX2_goForth 99 = .ok (.getfield 18, 3) := by decide +kernel
theorem dX2_goForth_102 : decode cX2_goForth 102 = .ok (.iload_n 2, 1) := by decide +kernel
theorem dX2_goForth_103 : decode cX2_goForth 103 = .ok (.sipush 511, 3) := by decide +kernel
theorem dX2_goForth_106 : decode cX2_goForth 106 = .ok (.imul, 1) := by decide +kernel
theorem dX2_goForth_107 : decode cX2_goForth 107 = .ok (.iload_n 2, 1) := by decide +kernel
theorem dX2_goForth_108 : decode cX2_goForth 108 = .ok (.invokevirtual 182, 3) := by decide +kernel
theorem dX2_goForth_111 : decode cX2_goForth 111 = .ok (.iastore, 1) := by decide +kernel
theorem dX2_goForth_112 : decode cX2_goForth 112 = .ok (.iinc 2 1, 3) := by decide +kernel
theorem dX2_goForth_115 : decode cX2_goForth 115 = .ok (.goto (-100), 3) := by decide +kernel
theorem dX2_goForth_118 : decode cX2_goForth 118 = .ok (.iconst 0, 1) := by decide +kernel
theorem dX2_goForth_119 : decode cX2_goForth 119 = .ok (.istore_n 2, 1) := by decide +kernel
theorem dX2_goForth_120 : decode cX2_goForth 120 = .ok (.iload_n 2, 1) := by decide +kernel
theorem dX2_goForth_121 : decode cX2_goForth 121 = .ok (.aload_n 0, 1) := by decide +kernel
theorem dX2_goForth_122 : decode cX2_goForth 122 = .ok (.getfield 59, 3) := by decide +kernel
theorem dX2_goForth_125 : decode cX2_goForth 125 = .ok (.getfield 189, 3) := by decide +kernel
theorem dX2_goForth_128 : decode cX2_goForth 128 = .ok (.if_icmp .ge 38, 3) := by decide +kernel
theorem dX2_goForth_131 : decode cX2_goForth 131 = .ok (.aload_n 0, 1) := by decide +kernel
theorem dX2_goForth_132 : decode cX2_goForth 132 = .ok (.getfield 59, 3) := by decide +kernel
theorem dX2_goForth_135 : decode cX2_goForth 135 = .ok (.getfield 192, 3) := by decide +kernel
theorem dX2_goForth_138 : decode cX2_goForth 138 = .ok (.iload_n 2, 1) := by decide +kernel
theorem dX2_goForth_139 : decode cX2_goForth 139 = .ok (.iadd, 1) := by decide +kernel
theorem dX2_goForth_140 : decode cX2_goForth 140 = .ok (.aload_n 0, 1) := by decide +kernel
theorem dX2_goForth_141 : decode cX2_goForth 141 = .ok (.getfield 51, 3) := by decide +kernel
theorem dX2_goForth_144 : decode cX2_goForth 144 = .ok (.getfield 74, 3) := by decide +kernel
theorem dX2_goForth_147 : decode cX2_goForth 147 = .ok (.if_icmp .ge 19, 3) := by decide +kernel
theorem dX2_goForth_150 : decode cX2_goForth 150 = .ok (.aload_n 1, 1) := by decide +kernel
theorem dX2_goForth_151 : decode cX2_goForth 151 = .ok (.getfield 186, 3) := by decide +kernel
theorem dX2_goForth_154 : decode cX2_goForth 154 = .ok (.iload_n 2, 1) := by decide +kernel
theorem dX2_goForth_155 : decode cX2_goForth 155 = .ok (.aload_n 1, 1) := by decide +kernel
theorem dX2_goForth_156 : decode cX2_goForth 156 = .ok (.getfield 195, 3) := by decide +kernel
theorem dX2_goForth_159 : decode cX2_goForth 159 = .ok (.iastore, 1) := by decide +kernel
theorem dX2_goForth_160 : decode cX2_goForth 160 = .ok (.iinc 2 1, 3) := by decide +kernel
theorem dX2_goForth_163 : decode cX2_goForth 163 = .ok (.goto (-43), 3) := by decide +kernel
theorem dX2_goForth_166 : decode cX2_goForth 166 = .ok (.return_, 1) := by decide +kernel
set_option maxRecDepth 20000 in
theorem B_X2_goForth_0 {G : Gx} {X : Cx} {h : PH} {k n : Nat} {Q : State → Prop} {S : List PV} {a0 : Nat} {a1 : Nat} {r4 : Nat} {PQ : Option PV → PH → Prop} (C : CX_X2_goForth G X) (hk0 : k ≤ 0 := by decide) (hn0 : n ≤ 0 := by decide) (t1 : ph_T h a1 = 4 := by first | assumption | rfl) (q2 : (1 : Int) = 0 ∨ (1 : Int) = 1 := by omega) (t3 : ph_T h a0 = 2 := by first | assumption | rfl) (e5 : ph_R h a0 4 = r4 := by first | assumption | rfl) (hM : CT_J7_fill_53178 G X.2.1 [.inr r4, .inl 0] (ph_setI h a1 7 1) PQ) (hS : S.length ≤ 8 := by decide) (kk : ∀ r h', PQ r h' → PW G X 4 Q k n 13 [some (.inr a0), some (.inr a1), none, none] (r.toList ++ S) h') : PW G X 4 Q k n 0 [some (.inr a0), some (.inr a1), none, none] (S) h := by
  refine pw_aload_n C dX2_goForth_0 rfl ?_
  refine pw_iconst C dX2_goForth_1 ?_
  refine pw_putI C (t := 4) (f := 7) rfl inF4 tyX4_ok nmX4 rfl (by decide) (by decide) rfl (Or.inl rfl) (Or.inr ⟨rfl, q2⟩) kw232 dX2_goForth_2 t1 ?_
  refine pw_aload_n C dX2_goForth_5 rfl ?_
  refine pw_getR C (t := 2) (f := 4) rfl inF2 rfl (by decide) (by decide) rfl kw280 dX2_goForth_6 t3 ?_
  rw [show ph_R (ph_setI h a1 7 1) a0 4 = r4 from e5]
  refine pw_iconst C dX2_goForth_9 ?_
  exact pw_callS C (na := 2) (As := [.inr r4, .inl 0]) (S := S) hM kw474 kw468 kw47 kw469 (by decide +kernel) rfl dX2_goForth_10 (by decide) (by decide) hk0 hn0 (by first | exact hS | (simp only [List.length_cons]; omega)) kk
set_option maxRecDepth 20000 in
theorem B_X2_goForth_13 {G : Gx} {X : Cx} {h : PH} {k n : Nat} {Q : State → Prop} {S : List PV} {a0 : Nat} {a1 : Nat} (C : CX_X2_goForth G X) (kk : PW G X 4 Q k n 15 [some (.inr a0), some (.inr a1), some (.inl 0), none] (S) h) : PW G X 4 Q k n 13 [some (.inr a0), some (.inr a1), none, none] (S) h := by
  refine pw_iconst C dX2_goForth_13 ?_
  refine pw_istore_n C dX2_goForth_14 (by decide) ?_
  exact kk
set_option maxRecDepth 20000 in
theorem B_X2_goForth_15 {G : Gx} {X : Cx} {h : PH} {k n : Nat} {Q : State → Prop} {S : List PV} {a0 : Nat} {a1 : Nat} {a2 : Int} {x2 : Int} (C : CX_X2_goForth G X) (t1 : ph_T h a0 = 2 := by first | assumption | rfl) (e3 : ph_I h a0 8 = x2 := by first | assumption | rfl) (q4 : pR a2 := by first | assumption | (unfold pR; omega)) (q5 : pR x2 := by first | assumption | (unfold pR; omega)) (kt : x2 ≤ a2 → PW G X 4 Q k n 118 [some (.inr a0), some (.inr a1), some (.inl a2), none] (S) h) (kf : ¬ x2 ≤ a2 → PW G X 4 Q k n 23 [some (.inr a0), some (.inr a1), some (.inl a2), none] (S) h) : PW G X 4 Q k n 15 [some (.inr a0), some (.inr a1), some (.inl a2), none] (S) h := by
  refine pw_iload_n C dX2_goForth_15 rfl ?_
  refine pw_aload_n C dX2_goForth_16 rfl ?_
  refine pw_getI C (t := 2) (f := 8) rfl inF2 rfl (by decide) (by decide) rfl kw284 dX2_goForth_17 t1 ?_
  rw [e3]
  exact pw_icmp_ge C 118 dX2_goForth_20 (by decide) q4 q5 kt kf
set_option maxRecDepth 20000 in
theorem B_X2_goForth_23 {G : Gx} {X : Cx} {h : PH} {k n : Nat} {Q : State → Prop} {S : List PV} {a0 : Nat} {a1 : Nat} {a2 : Int} (C : CX_X2_goForth G X) (q1 : pR a2 := by first | assumption | (unfold pR; omega)) (kt : a2 ≤ 0 → PW G X 4 Q k n 39 [some (.inr a0), some (.inr a1), some (.inl a2), none] (S) h) (kf : ¬ a2 ≤ 0 → PW G X 4 Q k n 27 [some (.inr a0), some (.inr a1), some (.inl a2), none] (S) h) : PW G X 4 Q k n 23 [some (.inr a0), some (.inr a1), some (.inl a2), none] (S) h := by
  refine pw_iload_n C dX2_goForth_23 rfl ?_
  exact pw_if_le C 39 dX2_goForth_24 (by decide) q1 kt kf
set_option maxRecDepth 20000 in
theorem B_X2_goForth_27 {G : Gx} {X : Cx} {h : PH} {k n : Nat} {Q : State → Prop} {S : List PV} {a0 : Nat} {a1 : Nat} {a2 : Int} {r2 : Nat} {PQ : Option PV → PH → Prop} (C : CX_X2_goForth G X) (hk0 : k ≤ 0 := by decide) (hn0 : n ≤ 0 := by decide) (t1 : ph_T h a0 = 2 := by first | assumption | rfl) (e3 : ph_R h a0 3 = r2 := by first | assumption | rfl) (t4 : ph_T h a0 = 2 := by first | assumption | rfl) (hM : CT_X2_reach G X.2.1 [.inr a0, .inr r2, .inl 0, .inl (a2 - 1)] h PQ) (hS : S.length ≤ 8 := by decide) (kk : ∀ r h', PQ r h' → PW G X 4 Q k n 39 [some (.inr a0), some (.inr a1), some (.inl a2), none] (r.toList ++ S) h') : PW G X 4 Q k n 27 [some (.inr a0), some (.inr a1), some (.inl a2), none] (S) h := by
  refine pw_aload_n C dX2_goForth_27 rfl ?_
  refine pw_aload_n C dX2_goForth_28 rfl ?_
  refine pw_getR C (t := 2) (f := 3) rfl inF2 rfl (by decide) (by decide) rfl kw279 dX2_goForth_29 t1 ?_
  rw [e3]
  refine pw_iconst C dX2_goForth_32 ?_
  refine pw_iload_n C dX2_goForth_33 rfl ?_
  refine pw_iconst C dX2_goForth_34 ?_
  refine pw_isub C dX2_goForth_35 ?_
  exact pw_callV C (na := 3) (As := [.inr r2, .inl 0, .inl (a2 - 1)]) (S := S) hM t4 (by decide) (hcl := by rfl) kw475 kw477 kw1 kw43 kw478 (by decide +kernel) rfl dX2_goForth_36 (by decide) (by decide) hk0 hn0 (by first | exact hS | (simp only [List.length_cons]; omega)) kk
set_option maxRecDepth 20000 in
theorem B_X2_goForth_39 {G : Gx} {X : Cx} {h : PH} {k n : Nat} {Q : State → Prop} {S : List PV} {a0 : Nat} {a1 : Nat} {a2 : Int} {r2 : Nat} {PQ : Option PV → PH → Prop} (C : CX_X2_goForth G X) (hk0 : k ≤ 0 := by decide) (hn0 : n ≤ 0 := by decide) (t1 : ph_T h a0 = 2 := by first | assumption | rfl) (e3 : ph_R h a0 3 = r2 := by first | assumption | rfl) (t4 : ph_T h a0 = 2 := by first | assumption | rfl) (hM : CT_X2_enterRow G X.2.1 [.inr a0, .inr r2, .inl 0, .inl a2] h PQ) (hS : S.length ≤ 8 := by decide) (kk : ∀ r h', PQ r h' → PW G X 4 Q k n 49 [some (.inr a0), some (.inr a1), some (.inl a2), none] (r.toList ++ S) h') : PW G X 4 Q k n 39 [some (.inr a0), some (.inr a1), some (.inl a2), none] (S) h := by
  refine pw_aload_n C dX2_goForth_39 rfl ?_
  refine pw_aload_n C dX2_goForth_40 rfl ?_
  refine pw_getR C (t := 2) (f := 3) rfl inF2 rfl (by decide) (by decide) rfl kw279 dX2_goForth_41 t1 ?_
  rw [e3]
  refine pw_iconst C dX2_goForth_44 ?_
  refine pw_iload_n C dX2_goForth_45 rfl ?_
  exact pw_callV C (na := 3) (As := [.inr r2, .inl 0, .inl a2]) (S := S) hM t4 (by decide) (hcl := by rfl) kw499 kw501 kw6 kw43 kw502 (by decide +kernel) rfl dX2_goForth_46 (by decide) (by decide) hk0 hn0 (by first | exact hS | (simp only [List.length_cons]; omega)) kk
set_option maxRecDepth 20000 in
theorem B_X2_goForth_49 {G : Gx} {X : Cx} {h : PH} {k n : Nat} {Q : State → Prop} {S : List PV} {a0 : Nat} {a1 : Nat} {a2 : Int} {PQ : Option PV → PH → Prop} (C : CX_X2_goForth G X) (hk0 : k ≤ 0 := by decide) (hn0 : n ≤ 0 := by decide) (t1 : ph_T h a0 = 2 := by first | assumption | rfl) (hM : CT_X2_aimAt G X.2.1 [.inr a0, .inl a2] h PQ) (hS : S.length ≤ 8 := by decide) (kk : ∀ r h', PQ r h' → PW G X 4 Q k n 54 [some (.inr a0), some (.inr a1), some (.inl a2), none] (r.toList ++ S) h') : PW G X 4 Q k n 49 [some (.inr a0), some (.inr a1), some (.inl a2), none] (S) h := by
  refine pw_aload_n C dX2_goForth_49 rfl ?_
  refine pw_iload_n C dX2_goForth_50 rfl ?_
  exact pw_callV C (na := 1) (As := [.inl a2]) (S := S) hM t1 (by decide) (hcl := by rfl) kw511 kw513 kw7 kw43 kw514 (by decide +kernel) rfl dX2_goForth_51 (by decide) (by decide) hk0 hn0 (by first | exact hS | (simp only [List.length_cons]; omega)) kk
set_option maxRecDepth 20000 in
theorem B_X2_goForth_54 {G : Gx} {X : Cx} {h : PH} {k n : Nat} {Q : State → Prop} {S : List PV} {a0 : Nat} {a1 : Nat} {a2 : Int} {r2 : Nat} {PQ : Option PV → PH → Prop} (C : CX_X2_goForth G X) (hk0 : k ≤ 0 := by decide) (hn0 : n ≤ 0 := by decide) (t1 : ph_T h a0 = 2 := by first | assumption | rfl) (e3 : ph_R h a0 3 = r2 := by first | assumption | rfl) (t4 : ph_T h a0 = 2 := by first | assumption | rfl) (hM : CT_X2_addGain G X.2.1 [.inr a0, .inr r2, .inl 0, .inl a2] h PQ) (hS : S.length ≤ 8 := by decide) (kk : ∀ r h', PQ r h' → PW G X 4 Q k n 64 [some (.inr a0), some (.inr a1), some (.inl a2), none] (r.toList ++ S) h') : PW G X 4 Q k n 54 [some (.inr a0), some (.inr a1), some (.inl a2), none] (S) h := by
  refine pw_aload_n C dX2_goForth_54 rfl ?_
  refine pw_aload_n C dX2_goForth_55 rfl ?_
  refine pw_getR C (t := 2) (f := 3) rfl inF2 rfl (by decide) (by decide) rfl kw279 dX2_goForth_56 t1 ?_
  rw [e3]
  refine pw_iconst C dX2_goForth_59 ?_
  refine pw_iload_n C dX2_goForth_60 rfl ?_
  exact pw_callV C (na := 3) (As := [.inr r2, .inl 0, .inl a2]) (S := S) hM t4 (by decide) (hcl := by rfl) kw521 kw523 kw9 kw43 kw524 (by decide +kernel) rfl dX2_goForth_61 (by decide) (by decide) hk0 hn0 (by first | exact hS | (simp only [List.length_cons]; omega)) kk
set_option maxRecDepth 20000 in
theorem B_X2_goForth_64 {G : Gx} {X : Cx} {h : PH} {k n : Nat} {Q : State → Prop} {S : List PV} {a0 : Nat} {a1 : Nat} {a2 : Int} {PQ : Option PV → PH → Prop} (C : CX_X2_goForth G X) (hk0 : k ≤ 0 := by decide) (hn0 : n ≤ 0 := by decide) (t1 : ph_T h a0 = 2 := by first | assumption | rfl) (hM : CT_X2_pointOf G X.2.1 [.inr a0, .inl a2] h PQ) (hS : S.length ≤ 8 := by decide) (kk : ∀ r h', PQ r h' → PW G X 4 Q k n 69 [some (.inr a0), some (.inr a1), some (.inl a2), none] (r.toList ++ S) h') : PW G X 4 Q k n 64 [some (.inr a0), some (.inr a1), some (.inl a2), none] (S) h := by
  refine pw_aload_n C dX2_goForth_64 rfl ?_
  refine pw_iload_n C dX2_goForth_65 rfl ?_
  exact pw_callV C (na := 1) (As := [.inl a2]) (S := S) hM t1 (by decide) (hcl := by rfl) kw515 kw517 kw8 kw43 kw518 (by decide +kernel) rfl dX2_goForth_66 (by decide) (by decide) hk0 hn0 (by first | exact hS | (simp only [List.length_cons]; omega)) kk
set_option maxRecDepth 20000 in
theorem B_X2_goForth_69 {G : Gx} {X : Cx} {h : PH} {k n : Nat} {Q : State → Prop} {S : List PV} {a0 : Nat} {a1 : Nat} {a2 : Int} {s0 : Int} (C : CX_X2_goForth G X) (q1 : pR s0 := by first | assumption | (unfold pR; omega)) (kt : s0 < 0 → PW G X 4 Q k n 112 [some (.inr a0), some (.inr a1), some (.inl a2), some (.inl s0)] (S) h) (kf : ¬ s0 < 0 → PW G X 4 Q k n 74 [some (.inr a0), some (.inr a1), some (.inl a2), some (.inl s0)] (S) h) : PW G X 4 Q k n 69 [some (.inr a0), some (.inr a1), some (.inl a2), none] (.inl s0 :: S) h := by
  refine pw_istore_n C dX2_goForth_69 (by decide) ?_
  refine pw_iload_n C dX2_goForth_70 rfl ?_
  exact pw_if_lt C 112 dX2_goForth_71 (by decide) q1 kt kf
set_option maxRecDepth 20000 in
theorem B_X2_goForth_74 {G : Gx} {X : Cx} {h : PH} {k n : Nat} {Q : State → Prop} {S : List PV} {a0 : Nat} {a1 : Nat} {a2 : Int} {a3 : Int} {r2 : Nat} {r5 : Nat} {PQ : Option PV → PH → Prop} (C : CX_X2_goForth G X) (hk0 : k ≤ 0 := by decide) (hn0 : n ≤ 0 := by decide) (t1 : ph_T h a1 = 4 := by first | assumption | rfl) (e3 : ph_R h a1 3 = r2 := by first | assumption | rfl) (t4 : ph_T h a0 = 2 := by first | assumption | rfl) (e6 : ph_R h a0 3 = r5 := by first | assumption | rfl) (t7 : ph_T h a0 = 2 := by first | assumption | rfl) (hM : CT_X2_mostSeen G X.2.1 [.inr a0, .inr r5, .inl 0, .inl a2] h PQ) (hS : S.length ≤ 6 := by decide) (kk : ∀ r h', PQ r h' → PW G X 4 Q k n 91 [some (.inr a0), some (.inr a1), some (.inl a2), some (.inl a3)] (r.toList ++ (.inl (a3 + 1) :: .inr r2 :: S)) h') : PW G X 4 Q k n 74 [some (.inr a0), some (.inr a1), some (.inl a2), some (.inl a3)] (S) h := by
  refine pw_aload_n C dX2_goForth_74 rfl ?_
  refine pw_getR C (t := 4) (f := 3) rfl inF4 rfl (by decide) (by decide) rfl kw222 dX2_goForth_75 t1 ?_
  rw [e3]
  refine pw_iload_n C dX2_goForth_78 rfl ?_
  refine pw_iconst C dX2_goForth_79 ?_
  refine pw_iadd C dX2_goForth_80 ?_
  refine pw_aload_n C dX2_goForth_81 rfl ?_
  refine pw_aload_n C dX2_goForth_82 rfl ?_
  refine pw_getR C (t := 2) (f := 3) rfl inF2 rfl (by decide) (by decide) rfl kw279 dX2_goForth_83 t4 ?_
  rw [e6]
  refine pw_iconst C dX2_goForth_86 ?_
  refine pw_iload_n C dX2_goForth_87 rfl ?_
  exact pw_callV C (na := 3) (As := [.inr r5, .inl 0, .inl a2]) (S := .inl (a3 + 1) :: .inr r2 :: S) hM t7 (by decide) (hcl := by rfl) kw588 kw590 kw15 kw43 kw591 (by decide +kernel) rfl dX2_goForth_88 (by decide) (by decide) hk0 hn0 (by first | exact hS | (simp only [List.length_cons]; omega)) kk
set_option maxRecDepth 20000 in
theorem B_X2_goForth_91 {G : Gx} {X : Cx} {h : PH} {k n : Nat} {Q : State → Prop} {S : List PV} {a0 : Nat} {a1 : Nat} {a2 : Int} {a3 : Int} {s0 : Int} {s1 : Int} {s2 : Nat} {r7 : Nat} {r10 : Nat} {PQ : Option PV → PH → Prop} (C : CX_X2_goForth G X) (hk0 : k ≤ 0 := by decide) (hn0 : n ≤ 0 := by decide) (t1 : ph_T h s2 = 8 := by first | assumption | rfl) (q2 : (0 : Int) ≤ s1 := by first | assumption | omega) (q3 : s1 < (ph_L h s2 : Int) := by first | assumption | omega) (q4 : pR s1 := by first | assumption | (unfold pR; omega)) (t6 : ph_T h a1 = 4 := by first | assumption | rfl) (e8 : ph_R h a1 4 = r7 := by first | assumption | rfl) (t9 : ph_T h a0 = 2 := by first | assumption | rfl) (e11 : ph_R h a0 2 = r10 := by first | assumption | rfl) (t12 : ph_T h a0 = 2 := by first | assumption | rfl) (hM : CT_X2_mostSeen G X.2.1 [.inr a0, .inr r10, .inl (a2 * 511), .inl a2] (ph_setI h s2 (Int.toNat s1) s0) PQ) (hS : S.length ≤ 6 := by decide) (kk : ∀ r h', PQ r h' → PW G X 4 Q k n 111 [some (.inr a0), some (.inr a1), some (.inl a2), some (.inl a3)] (r.toList ++ (.inl a3 :: .inr r7 :: S)) h') : PW G X 4 Q k n 91 [some (.inr a0), some (.inr a1), some (.inl a2), some (.inl a3)] (.inl s0 :: .inl s1 :: .inr s2 :: S) h := by
  refine pw_iast C dX2_goForth_91 t1 q2 q3 q4 ?_
  refine pw_aload_n C dX2_goForth_92 rfl ?_
  refine pw_getR C (t := 4) (f := 4) rfl inF4 rfl (by decide) (by decide) rfl kw225 dX2_goForth_93 t6 ?_
  rw [show ph_R (ph_setI h s2 (Int.toNat s1) s0) a1 4 = r7 from e8]
  refine pw_iload_n C dX2_goForth_96 rfl ?_
  refine pw_aload_n C dX2_goForth_97 rfl ?_
  refine pw_aload_n C dX2_goForth_98 rfl ?_
  refine pw_getR C (t := 2) (f := 2) rfl inF2 rfl (by decide) (by decide) rfl kw278 dX2_goForth_99 t9 ?_
  rw [show ph_R (ph_setI h s2 (Int.toNat s1) s0) a0 2 = r10 from e11]
  refine pw_iload_n C dX2_goForth_102 rfl ?_
  refine pw_sipush C dX2_goForth_103 rfl ?_
  refine pw_imul C dX2_goForth_106 ?_
  refine pw_iload_n C dX2_goForth_107 rfl ?_
  exact pw_callV C (na := 3) (As := [.inr r10, .inl (a2 * 511), .inl a2]) (S := .inl a3 :: .inr r7 :: S) hM t12 (by decide) (hcl := by rfl) kw588 kw590 kw15 kw43 kw591 (by decide +kernel) rfl dX2_goForth_108 (by decide) (by decide) hk0 hn0 (by first | exact hS | (simp only [List.length_cons]; omega)) kk
set_option maxRecDepth 20000 in
theorem B_X2_goForth_111 {G : Gx} {X : Cx} {h : PH} {k n : Nat} {Q : State → Prop} {S : List PV} {a0 : Nat} {a1 : Nat} {a2 : Int} {a3 : Int} {s0 : Int} {s1 : Int} {s2 : Nat} (C : CX_X2_goForth G X) (t1 : ph_T h s2 = 8 := by first | assumption | rfl) (q2 : (0 : Int) ≤ s1 := by first | assumption | omega) (q3 : s1 < (ph_L h s2 : Int) := by first | assumption | omega) (q4 : pR s1 := by first | assumption | (unfold pR; omega)) (kk : PW G X 4 Q k n 112 [some (.inr a0), some (.inr a1), some (.inl a2), some (.inl a3)] (S) (ph_setI h s2 (Int.toNat s1) s0)) : PW G X 4 Q k n 111 [some (.inr a0), some (.inr a1), some (.inl a2), some (.inl a3)] (.inl s0 :: .inl s1 :: .inr s2 :: S) h := by
  refine pw_iast C dX2_goForth_111 t1 q2 q3 q4 ?_
  exact kk
set_option maxRecDepth 20000 in
theorem B_X2_goForth_112 {G : Gx} {X : Cx} {h : PH} {k n : Nat} {Q : State → Prop} {S : List PV} {a0 : Nat} {a1 : Nat} {a2 : Int} {a3 : Int} (C : CX_X2_goForth G X) (kk : PW G X 4 Q k n 15 [some (.inr a0), some (.inr a1), some (.inl (a2 + 1)), none] (S) h) : PW G X 4 Q k n 112 [some (.inr a0), some (.inr a1), some (.inl a2), some (.inl a3)] (S) h := by
  refine pw_iinc C dX2_goForth_112 rfl (by decide) ?_
  refine pw_goto C 15 dX2_goForth_115 (by decide) ?_
  exact pw_weak [true, true, true, false] kk
set_option maxRecDepth 20000 in
theorem B_X2_goForth_118 {G : Gx} {X : Cx} {h : PH} {k n : Nat} {Q : State → Prop} {S : List PV} {a0 : Nat} {a1 : Nat} {a2 : Int} (C : CX_X2_goForth G X) (kk : PW G X 4 Q k n 120 [some (.inr a0), some (.inr a1), some (.inl 0), none] (S) h) : PW G X 4 Q k n 118 [some (.inr a0), some (.inr a1), some (.inl a2), none] (S) h := by
  refine pw_iconst C dX2_goForth_118 ?_
  refine pw_istore_n C dX2_goForth_119 (by decide) ?_
  exact kk
set_option maxRecDepth 20000 in
theorem B_X2_goForth_120 {G : Gx} {X : Cx} {h : PH} {k n : Nat} {Q : State → Prop} {S : List PV} {a0 : Nat} {a1 : Nat} {a2 : Int} {r2 : Nat} {x5 : Int} (C : CX_X2_goForth G X) (t1 : ph_T h a0 = 2 := by first | assumption | rfl) (e3 : ph_R h a0 7 = r2 := by first | assumption | rfl) (t4 : ph_T h r2 = 0 := by first | assumption | rfl) (e6 : ph_I h r2 4 = x5 := by first | assumption | rfl) (q7 : pR a2 := by first | assumption | (unfold pR; omega)) (q8 : pR x5 := by first | assumption | (unfold pR; omega)) (kt : x5 ≤ a2 → PW G X 4 Q k n 166 [some (.inr a0), some (.inr a1), some (.inl a2), none] (S) h) (kf : ¬ x5 ≤ a2 → PW G X 4 Q k n 131 [some (.inr a0), some (.inr a1), some (.inl a2), none] (S) h) : PW G X 4 Q k n 120 [some (.inr a0), some (.inr a1), some (.inl a2), none] (S) h := by
  refine pw_iload_n C dX2_goForth_120 rfl ?_
  refine pw_aload_n C dX2_goForth_121 rfl ?_
  refine pw_getR C (t := 2) (f := 7) rfl inF2 rfl (by decide) (by decide) rfl kw283 dX2_goForth_122 t1 ?_
  rw [e3]
  refine pw_getI C (t := 0) (f := 4) rfl inF0 rfl (by decide) (by decide) rfl kw124 dX2_goForth_125 t4 ?_
  rw [e6]
  exact pw_icmp_ge C 166 dX2_goForth_128 (by decide) q7 q8 kt kf
set_option maxRecDepth 20000 in
theorem B_X2_goForth_131 {G : Gx} {X : Cx} {h : PH} {k n : Nat} {Q : State → Prop} {S : List PV} {a0 : Nat} {a1 : Nat} {a2 : Int} {r2 : Nat} {x5 : Int} {r8 : Nat} {x11 : Int} (C : CX_X2_goForth G X) (t1 : ph_T h a0 = 2 := by first | assumption | rfl) (e3 : ph_R h a0 7 = r2 := by first | assumption | rfl) (t4 : ph_T h r2 = 0 := by first | assumption | rfl) (e6 : ph_I h r2 3 = x5 := by first | assumption | rfl) (t7 : ph_T h a0 = 2 := by first | assumption | rfl) (e9 : ph_R h a0 6 = r8 := by first | assumption | rfl) (t10 : ph_T h r8 = 1 := by first | assumption | rfl) (e12 : ph_I h r8 2 = x11 := by first | assumption | rfl) (q13 : pR (x5 + a2) := by first | assumption | (unfold pR; omega)) (q14 : pR x11 := by first | assumption | (unfold pR; omega)) (kt : x11 ≤ x5 + a2 → PW G X 4 Q k n 166 [some (.inr a0), some (.inr a1), some (.inl a2), none] (S) h) (kf : ¬ x11 ≤ x5 + a2 → PW G X 4 Q k n 150 [some (.inr a0), some (.inr a1), some (.inl a2), none] (S) h) : PW G X 4 Q k n 131 [some (.inr a0), some (.inr a1), some (.inl a2), none] (S) h := by
  refine pw_aload_n C dX2_goForth_131 rfl ?_
  refine pw_getR C (t := 2) (f := 7) rfl inF2 rfl (by decide) (by decide) rfl kw283 dX2_goForth_132 t1 ?_
  rw [e3]
  refine pw_getI C (t := 0) (f := 3) rfl inF0 rfl (by decide) (by decide) rfl kw119 dX2_goForth_135 t4 ?_
  rw [e6]
  refine pw_iload_n C dX2_goForth_138 rfl ?_
  refine pw_iadd C dX2_goForth_139 ?_
  refine pw_aload_n C dX2_goForth_140 rfl ?_
  refine pw_getR C (t := 2) (f := 6) rfl inF2 rfl (by decide) (by decide) rfl kw282 dX2_goForth_141 t7 ?_
  rw [e9]
  refine pw_getI C (t := 1) (f := 2) rfl inF1 rfl (by decide) (by decide) rfl kw157 dX2_goForth_144 t10 ?_
  rw [e12]
  exact pw_icmp_ge C 166 dX2_goForth_147 (by decide) q13 q14 kt kf
set_option maxRecDepth 20000 in
theorem B_X2_goForth_150 {G : Gx} {X : Cx} {h : PH} {k n : Nat} {Q : State → Prop} {S : List PV} {a0 : Nat} {a1 : Nat} {a2 : Int} {r2 : Nat} {x5 : Int} (C : CX_X2_goForth G X) (t1 : ph_T h a1 = 4 := by first | assumption | rfl) (e3 : ph_R h a1 4 = r2 := by first | assumption | rfl) (t4 : ph_T h a1 = 4 := by first | assumption | rfl) (e6 : ph_I h a1 10 = x5 := by first | assumption | rfl) (t7 : ph_T h r2 = 8 := by first | assumption | rfl) (q8 : (0 : Int) ≤ a2 := by first | assumption | omega) (q9 : a2 < (ph_L h r2 : Int) := by first | assumption | omega) (q10 : pR a2 := by first | assumption | (unfold pR; omega)) (kk : PW G X 4 Q k n 120 [some (.inr a0), some (.inr a1), some (.inl (a2 + 1)), none] (S) (ph_setI h r2 (Int.toNat a2) x5)) : PW G X 4 Q k n 150 [some (.inr a0), some (.inr a1), some (.inl a2), none] (S) h := by
  refine pw_aload_n C dX2_goForth_150 rfl ?_
  refine pw_getR C (t := 4) (f := 4) rfl inF4 rfl (by decide) (by decide) rfl kw225 dX2_goForth_151 t1 ?_
  rw [e3]
  refine pw_iload_n C dX2_goForth_154 rfl ?_
  refine pw_aload_n C dX2_goForth_155 rfl ?_
  refine pw_getI C (t := 4) (f := 10) rfl inF4 rfl (by decide) (by decide) rfl kw238 dX2_goForth_156 t4 ?_
  rw [e6]
  refine pw_iast C dX2_goForth_159 t7 q8 q9 q10 ?_
  refine pw_iinc C dX2_goForth_160 rfl (by decide) ?_
  refine pw_goto C 120 dX2_goForth_163 (by decide) ?_
  exact kk
set_option maxRecDepth 20000 in
theorem B_X2_goForth_166 {G : Gx} {X : Cx} {h : PH} {k n : Nat} {a0 : Nat} {a1 : Nat} {a2 : Int} {PQ : Option PV → PH → Prop} (C : CX_X2_goForth G X) (hq : PQ none h) : PW G X 4 (pw_E G X PQ k n) k n 166 [some (.inr a0), some (.inr a1), some (.inl a2), none] [] h := by
  exact pw_vreturn C dX2_goForth_166 hq
theorem dX2_reach_0 : decode cX2_reach 0 = .ok (.aload_n 0, 1) := by decide +kernel
theorem dX2_reach_1 : decode cX2_reach 1 = .ok (.getfield 25, 3) := by decide +kernel
theorem dX2_reach_4 : decode cX2_reach 4 = .ok (.ldc 198, 2) := by decide +kernel
theorem dX2_reach_6 : decode cX2_reach 6 = .ok (.invokestatic 107, 3) := by decide +kernel
theorem dX2_reach_9 : decode cX2_reach 9 = .ok (.aload_n 0, 1) := by decide +kernel
theorem dX2_reach_10 : decode cX2_reach 10 = .ok (.getfield 28, 3) := by decide +kernel
theorem dX2_reach_13 : decode cX2_reach 13 = .ok (.ldc 198, 2) := by decide +kernel
theorem dX2_reach_15 : decode cX2_reach 15 = .ok (.invokestatic 107, 3) := by decide +kernel
theorem dX2_reach_18 : decode cX2_reach 18 = .ok (.aload_n 0, 1) := by decide +kernel
theorem dX2_reach_19 : decode cX2_reach 19 = .ok (.iload_n 3, 1) := by decide +kernel
theorem dX2_reach_20 : decode cX2_reach 20 = .ok (.invokevirtual 167, 3) := by decide +kernel
theorem dX2_reach_23 : decode cX2_reach 23 = .ok (.istore 4, 2) := by decide +kernel
theorem dX2_reach_25 : decode cX2_reach 25 = .ok (.aload_n 0, 1) := by decide +kernel
theorem dX2_reach_26 : decode cX2_reach 26 = .ok (.iload_n 3, 1) := by decide +kernel
theorem dX2_reach_27 : decode cX2_reach 27 = .ok (.invokevirtual 160, 3) := by decide +kernel
theorem dX2_reach_30 : decode cX2_reach 30 = .ok (.istore 5, 2) := by decide +kernel
theorem dX2_reach_32 : decode cX2_reach 32 = .ok (.aload_n 0, 1) := by decide +kernel
theorem dX2_reach_33 : decode cX2_reach 33 = .ok (.aload_n 1, 1) := by decide +kernel
theorem dX2_reach_34 : decode cX2_reach 34 = .ok (.iload_n 2, 1) := by decide +kernel
theorem dX2_reach_35 : decode cX2_reach 35 = .ok (.iload 4, 2) := by decide +kernel
theorem dX2_reach_37 : decode cX2_reach 37 = .ok (.iload 5, 2) := by decide +kernel
theorem dX2_reach_39 : decode cX2_reach 39 = .ok (.invokevirtual 199, 3) := by decide +kernel
theorem dX2_reach_42 : decode cX2_reach 42 = .ok (.iconst 0, 1) := by decide +kernel
theorem dX2_reach_43 : decode cX2_reach 43 = .ok (.istore 6, 2) := by decide +kernel
theorem dX2_reach_45 : decode cX2_reach 45 = .ok (.iload 6, 2) := by decide +kernel
theorem dX2_reach_47 : decode cX2_reach 47 = .ok (.aload_n 0, 1) := by decide +kernel
theorem dX2_reach_48 : decode cX2_reach 48 = .ok (.getfield 51, 3) := by decide +kernel
theorem dX2_reach_51 : decode cX2_reach 51 = .ok (.getfield 164, 3) := by decide +kernel
theorem dX2_reach_54 : decode cX2_reach 54 = .ok (.if_icmp .ge 45, 3) := by decide +kernel
theorem dX2_reach_57 : decode cX2_reach 57 = .ok (.iconst 0, 1) := by decide +kernel
theorem dX2_reach_58 : decode cX2_reach 58 = .ok (.iload 4, 2) := by decide +kernel
theorem dX2_reach_60 : decode cX2_reach 60 = .ok (.iconst 1, 1) := by decide +kernel
theorem dX2_reach_61 : decode cX2_reach 61 = .ok (.isub, 1) := by decide +kernel
theorem dX2_reach_62 : decode cX2_reach 62 = .ok (.invokestatic 170, 3) := by decide +kernel
theorem dX2_reach_65 : decode cX2_reach 65 = .ok (.istore 4, 2) := by decide +kernel
theorem dX2_reach_67 : decode cX2_reach 67 = .ok (.iconst 2, 1) := by decide +kernel
theorem dX2_reach_68 : decode cX2_reach 68 = .ok (.aload_n 0, 1) := by decide +kernel
theorem dX2_reach_69 : decode cX2_reach 69 = .ok (.getfield 51, 3) := by decide +kernel
theorem dX2_reach_72 : decode cX2_reach 72 = .ok (.getfield 129, 3) := by decide +kernel
theorem dX2_reach_75 : decode cX2_reach 75 = .ok (.imul, 1) := by decide +kernel
theorem dX2_reach_76 : decode cX2_reach 76 = .ok (.iload 5, 2) := by decide +kernel
theorem dX2_reach_78 : decode cX2_reach 78 = .ok (.iconst 1, 1) := by decide +kernel
theorem dX2_reach_79 : decode cX2_reach 79 = .ok (.iadd, 1) := by decide +kernel
theorem dX2_reach_80 : decode cX2_reach 80 = .ok (.invokestatic 79, 3) := by decide +kernel
theorem dX2_reach_83 : decode cX2_reach 83 = .ok (.istore 5, 2) := by decide +kernel
theorem dX2_reach_85 : decode cX2_reach 85 = .ok (.aload_n 0, 1) := by decide +kernel
theorem dX2_reach_86 : decode cX2_reach 86 = .ok (.iload 4, 2) := by decide +kernel
theorem dX2_reach_88 : decode cX2_reach 88 = .ok (.iload 5, 2) := by decide +kernel
theorem dX2_reach_90 : decode cX2_reach 90 = .ok (.invokevirtual 203, 3) := by decide +kernel
theorem dX2_reach_93 : decode cX2_reach 93 = .ok (.iinc 6 1, 3) := by decide +kernel
theorem dX2_reach_96 : decode cX2_reach 96 = .ok (.goto (-51), 3) := by decide +kernel
theorem dX2_reach_99 : decode cX2_reach 99 = .ok (.return_, 1) := by decide +kernel
set_option maxRecDepth 20000 in
theorem B_X2_reach_0 {G : Gx} {X : Cx} {h : PH} {k n : Nat} {Q : State → Prop} {S : List PV} {a0 : Nat} {a1 : Nat} {a2 : Int} {a3 : Int} {r2 : Nat} {PQ : Option PV → PH → Prop} (C : CX_X2_reach G X) (hk0 : k ≤ 0 := by decide) (hn0 : n ≤ 0 := by decide) (t1 : ph_T h a0 = 2 := by first | assumption | rfl) (e3 : ph_R h a0 4 = r2 := by first | assumption | rfl) (hM : CT_J7_fill_53178 G X.2.1 [.inr r2, .inl (-1000000)] h PQ) (hS : S.length ≤ 8 := by decide) (kk : ∀ r h', PQ r h' → PW G X 7 Q k n 9 [some (.inr a0), some (.inr a1), some (.inl a2), some (.inl a3), none, none, none] (r.toList ++ S) h') : PW G X 7 Q k n 0 [some (.inr a0), some (.inr a1), some (.inl a2), some (.inl a3), none, none, none] (S) h := by
  refine pw_aload_n C dX2_reach_0 rfl ?_
  refine pw_getR C (t := 2) (f := 4) rfl inF2 rfl (by decide) (by decide) rfl kw280 dX2_reach_1 t1 ?_
  rw [e3]
  refine pw_ldc C (z := -1000000) kw479 rfl dX2_reach_4 ?_
  exact pw_callS C (na := 2) (As := [.inr r2, .inl (-1000000)]) (S := S) hM kw474 kw468 kw47 kw469 (by decide +kernel) rfl dX2_reach_6 (by decide) (by decide) hk0 hn0 (by first | exact hS | (simp only [List.length_cons]; omega)) kk
set_option maxRecDepth 20000 in
theorem B_X2_reach_9 {G : Gx} {X : Cx} {h : PH} {k n : Nat} {Q : State → Prop} {S : List PV} {a0 : Nat} {a1 : Nat} {a2 : Int} {a3 : Int} {r2 : Nat} {PQ : Option PV → PH → Prop} (C : CX_X2_reach G X) (hk0 : k ≤ 0 := by decide) (hn0 : n ≤ 0 := by decide) (t1 : ph_T h a0 = 2 := by first | assumption | rfl) (e3 : ph_R h a0 5 = r2 := by first | assumption | rfl) (hM : CT_J7_fill_53178 G X.2.1 [.inr r2, .inl (-1000000)] h PQ) (hS : S.length ≤ 8 := by decide) (kk : ∀ r h', PQ r h' → PW G X 7 Q k n 18 [some (.inr a0), some (.inr a1), some (.inl a2), some (.inl a3), none, none, none] (r.toList ++ S) h') : PW G X 7 Q k n 9 [some (.inr a0), some (.inr a1), some (.inl a2), some (.inl a3), none, none, none] (S) h := by
  refine pw_aload_n C dX2_reach_9 rfl ?_
  refine pw_getR C (t := 2) (f := 5) rfl inF2 rfl (by decide) (by decide) rfl kw281 dX2_reach_10 t1 ?_
  rw [e3]
  refine pw_ldc C (z := -1000000) kw479 rfl dX2_reach_13 ?_
  exact pw_callS C (na := 2) (As := [.inr r2, .inl (-1000000)]) (S := S) hM kw474 kw468 kw47 kw469 (by decide +kernel) rfl dX2_reach_15 (by decide) (by decide) hk0 hn0 (by first | exact hS | (simp only [List.length_cons]; omega)) kk
set_option maxRecDepth 20000 in
theorem B_X2_reach_18 {G : Gx} {X : Cx} {h : PH} {k n : Nat} {Q : State → Prop} {S : List PV} {a0 : Nat} {a1 : Nat} {a2 : Int} {a3 : Int} {PQ : Option PV → PH → Prop} (C : CX_X2_reach G X) (hk0 : k ≤ 0 := by decide) (hn0 : n ≤ 0 := by decide) (t1 : ph_T h a0 = 2 := by first | assumption | rfl) (hM : CT_X2_lowWind G X.2.1 [.inr a0, .inl a3] h PQ) (hS : S.length ≤ 8 := by decide) (kk : ∀ r h', PQ r h' → PW G X 7 Q k n 23 [some (.inr a0), some (.inr a1), some (.inl a2), some (.inl a3), none, none, none] (r.toList ++ S) h') : PW G X 7 Q k n 18 [some (.inr a0), some (.inr a1), some (.inl a2), some (.inl a3), none, none, none] (S) h := by
  refine pw_aload_n C dX2_reach_18 rfl ?_
  refine pw_iload_n C dX2_reach_19 rfl ?_
  exact pw_callV C (na := 1) (As := [.inl a3]) (S := S) hM t1 (by decide) (hcl := by rfl) kw480 kw482 kw2 kw43 kw483 (by decide +kernel) rfl dX2_reach_20 (by decide) (by decide) hk0 hn0 (by first | exact hS | (simp only [List.length_cons]; omega)) kk
set_option maxRecDepth 20000 in
theorem B_X2_reach_23 {G : Gx} {X : Cx} {h : PH} {k n : Nat} {Q : State → Prop} {S : List PV} {a0 : Nat} {a1 : Nat} {a2 : Int} {a3 : Int} {s0 : Int} {PQ : Option PV → PH → Prop} (C : CX_X2_reach G X) (hk0 : k ≤ 0 := by decide) (hn0 : n ≤ 0 := by decide) (t1 : ph_T h a0 = 2 := by first | assumption | rfl) (hM : CT_X2_highWind G X.2.1 [.inr a0, .inl a3] h PQ) (hS : S.length ≤ 8 := by decide) (kk : ∀ r h', PQ r h' → PW G X 7 Q k n 30 [some (.inr a0), some (.inr a1), some (.inl a2), some (.inl a3), some (.inl s0), none, none] (r.toList ++ S) h') : PW G X 7 Q k n 23 [some (.inr a0), some (.inr a1), some (.inl a2), some (.inl a3), none, none, none] (.inl s0 :: S) h := by
  refine pw_istore C dX2_reach_23 (by decide) ?_
  refine pw_aload_n C dX2_reach_25 rfl ?_
  refine pw_iload_n C dX2_reach_26 rfl ?_
  exact pw_callV C (na := 1) (As := [.inl a3]) (S := S) hM t1 (by decide) (hcl := by rfl) kw487 kw489 kw3 kw43 kw490 (by decide +kernel) rfl dX2_reach_27 (by decide) (by decide) hk0 hn0 (by first | exact hS | (simp only [List.length_cons]; omega)) kk
set_option maxRecDepth 20000 in
theorem B_X2_reach_30 {G : Gx} {X : Cx} {h : PH} {k n : Nat} {Q : State → Prop} {S : List PV} {a0 : Nat} {a1 : Nat} {a2 : Int} {a3 : Int} {a4 : Int} {s0 : Int} {PQ : Option PV → PH → Prop} (C : CX_X2_reach G X) (hk0 : k ≤ 0 := by decide) (hn0 : n ≤ 0 := by decide) (t1 : ph_T h a0 = 2 := by first | assumption | rfl) (hM : CT_X2_tilt G X.2.1 [.inr a0, .inr a1, .inl a2, .inl a4, .inl s0] h PQ) (hS : S.length ≤ 8 := by decide) (kk : ∀ r h', PQ r h' → PW G X 7 Q k n 42 [some (.inr a0), some (.inr a1), some (.inl a2), some (.inl a3), some (.inl a4), some (.inl s0), none] (r.toList ++ S) h') : PW G X 7 Q k n 30 [some (.inr a0), some (.inr a1), some (.inl a2), some (.inl a3), some (.inl a4), none, none] (.inl s0 :: S) h := by
  refine pw_istore C dX2_reach_30 (by decide) ?_
  refine pw_aload_n C dX2_reach_32 rfl ?_
  refine pw_aload_n C dX2_reach_33 rfl ?_
  refine pw_iload_n C dX2_reach_34 rfl ?_
  refine pw_iload C dX2_reach_35 rfl ?_
  refine pw_iload C dX2_reach_37 rfl ?_
  exact pw_callV C (na := 4) (As := [.inr a1, .inl a2, .inl a4, .inl s0]) (S := S) hM t1 (by decide) (hcl := by rfl) kw491 kw493 kw4 kw43 kw494 (by decide +kernel) rfl dX2_reach_39 (by decide) (by decide) hk0 hn0 (by first | exact hS | (simp only [List.length_cons]; omega)) kk
set_option maxRecDepth 20000 in
theorem B_X2_reach_42 {G : Gx} {X : Cx} {h : PH} {k n : Nat} {Q : State → Prop} {S : List PV} {a0 : Nat} {a1 : Nat} {a2 : Int} {a3 : Int} {a4 : Int} {a5 : Int} (C : CX_X2_reach G X) (kk : PW G X 7 Q k n 45 [some (.inr a0), some (.inr a1), some (.inl a2), some (.inl a3), some (.inl a4), some (.inl a5), some (.inl 0)] (S) h) : PW G X 7 Q k n 42 [some (.inr a0), some (.inr a1), some (.inl a2), some (.inl a3), some (.inl a4), some (.inl a5), none] (S) h := by
  refine pw_iconst C dX2_reach_42 ?_
  refine pw_istore C dX2_reach_43 (by decide) ?_
  exact kk
set_option maxRecDepth 20000 in
theorem B_X2_reach_45 {G : Gx} {X : Cx} {h : PH} {k n : Nat} {Q : State → Prop} {S : List PV} {a0 : Nat} {a1 : Nat} {a2 : Int} {a3 : Int} {a4 : Int} {a5 : Int} {a6 : Int} {r2 : Nat} {x5 : Int} (C : CX_X2_reach G X) (t1 : ph_T h a0 = 2 := by first | assumption | rfl) (e3 : ph_R h a0 6 = r2 := by first | assumption | rfl) (t4 : ph_T h r2 = 1 := by first | assumption | rfl) (e6 : ph_I h r2 4 = x5 := by first | assumption | rfl) (q7 : pR a6 := by first | assumption | (unfold pR; omega)) (q8 : pR x5 := by first | assumption | (unfold pR; omega)) (kt : x5 ≤ a6 → PW G X 7 Q k n 99 [some (.inr a0), some (.inr a1), some (.inl a2), some (.inl a3), some (.inl a4), some (.inl a5), some (.inl a6)] (S) h) (kf : ¬ x5 ≤ a6 → PW G X 7 Q k n 57 [some (.inr a0), some (.inr a1), some (.inl a2), some (.inl a3), some (.inl a4), some (.inl a5), some (.inl a6)] (S) h) : PW G X 7 Q k n 45 [some (.inr a0), some (.inr a1), some (.inl a2), some (.inl a3), some (.inl a4), some (.inl a5), some (.inl a6)] (S) h := by
  refine pw_iload C dX2_reach_45 rfl ?_
  refine pw_aload_n C dX2_reach_47 rfl ?_
  refine pw_getR C (t := 2) (f := 6) rfl inF2 rfl (by decide) (by decide) rfl kw282 dX2_reach_48 t1 ?_
  rw [e3]
  refine pw_getI C (t := 1) (f := 4) rfl inF1 rfl (by decide) (by decide) rfl kw164 dX2_reach_51 t4 ?_
  rw [e6]
  exact pw_icmp_ge C 99 dX2_reach_54 (by decide) q7 q8 kt kf
set_option maxRecDepth 20000 in
theorem B_X2_reach_57 {G : Gx} {X : Cx} {h : PH} {k n : Nat} {Q : State → Prop} {S : List PV} {a0 : Nat} {a1 : Nat} {a2 : Int} {a3 : Int} {a4 : Int} {a5 : Int} {a6 : Int} {x3 : Int} {r6 : Nat} {x9 : Int} {x13 : Int} {PQ : Option PV → PH → Prop} (C : CX_X2_reach G X) (hk0 : k ≤ 0 := by decide) (hn0 : n ≤ 0 := by decide) (q1 : pR 0 := by first | assumption | (unfold pR; omega)) (q2 : pR (a4 - 1) := by first | assumption | (unfold pR; omega)) (hS : S.length ≤ 4 := by decide) (e4 : (if 0 < a4 - 1 then a4 - 1 else 0) = x3 := by first | assumption | rfl) (t5 : ph_T h a0 = 2 := by first | assumption | rfl) (e7 : ph_R h a0 6 = r6 := by first | assumption | rfl) (t8 : ph_T h r6 = 1 := by first | assumption | rfl) (e10 : ph_I h r6 3 = x9 := by first | assumption | rfl) (q11 : pR (2 * x9) := by first | assumption | (unfold pR; omega)) (q12 : pR (a5 + 1) := by first | assumption | (unfold pR; omega)) (e14 : (if a5 + 1 < 2 * x9 then a5 + 1 else 2 * x9) = x13 := by first | assumption | rfl) (t15 : ph_T h a0 = 2 := by first | assumption | rfl) (hM : CT_X2_turn G X.2.1 [.inr a0, .inl x3, .inl x13] h PQ) (hS : S.length ≤ 8 := by decide) (kk : ∀ r h', PQ r h' → PW G X 7 Q k n 93 [some (.inr a0), some (.inr a1), some (.inl a2), some (.inl a3), some (.inl x3), some (.inl x13), some (.inl a6)] (r.toList ++ S) h') : PW G X 7 Q k n 57 [some (.inr a0), some (.inr a1), some (.inl a2), some (.inl a3), some (.inl a4), some (.inl a5), some (.inl a6)] (S) h := by
  refine pw_iconst C dX2_reach_57 ?_
  refine pw_iload C dX2_reach_58 rfl ?_
  refine pw_iconst C dX2_reach_60 ?_
  refine pw_isub C dX2_reach_61 ?_
  refine pw_max C kw484 kw485 kw46 kwMax dX2_reach_62 (by decide) (by simp only [List.length_cons]; omega) hk0 hn0 q1 q2 ?_
  rw [e4]
  refine pw_istore C dX2_reach_65 (by decide) ?_
  refine pw_iconst C dX2_reach_67 ?_
  refine pw_aload_n C dX2_reach_68 rfl ?_
  refine pw_getR C (t := 2) (f := 6) rfl inF2 rfl (by decide) (by decide) rfl kw282 dX2_reach_69 t5 ?_
  rw [e7]
  refine pw_getI C (t := 1) (f := 3) rfl inF1 rfl (by decide) (by decide) rfl kw161 dX2_reach_72 t8 ?_
  rw [e10]
  refine pw_imul C dX2_reach_75 ?_
  refine pw_iload C dX2_reach_76 rfl ?_
  refine pw_iconst C dX2_reach_78 ?_
  refine pw_iadd C dX2_reach_79 ?_
  refine pw_min C kw462 kw424 kw46 kwMin dX2_reach_80 (by decide) (by simp only [List.length_cons]; omega) hk0 hn0 q11 q12 ?_
  rw [e14]
  refine pw_istore C dX2_reach_83 (by decide) ?_
  refine pw_aload_n C dX2_reach_85 rfl ?_
  refine pw_iload C dX2_reach_86 rfl ?_
  refine pw_iload C dX2_reach_88 rfl ?_
  exact pw_callV C (na := 2) (As := [.inl x3, .inl x13]) (S := S) hM t15 (by decide) (hcl := by rfl) kw495 kw497 kw5 kw43 kw498 (by decide +kernel) rfl dX2_reach_90 (by decide) (by decide) hk0 hn0 (by first | exact hS | (simp only [List.length_cons]; omega)) kk
set_option maxRecDepth 20000 in
theorem B_X2_reach_93 {G : Gx} {X : Cx} {h : PH} {k n : Nat} {Q : State → Prop} {S : List PV} {a0 : Nat} {a1 : Nat} {a2 : Int} {a3 : Int} {a4 : Int} {a5 : Int} {a6 : Int} (C : CX_X2_reach G X) (kk : PW G X 7 Q k n 45 [some (.inr a0), some (.inr a1), some (.inl a2), some (.inl a3), some (.inl a4), some (.inl a5), some (.inl (a6 + 1))] (S) h) : PW G X 7 Q k n 93 [some (.inr a0), some (.inr a1), some (.inl a2), some (.inl a3), some (.inl a4), some (.inl a5), some (.inl a6)] (S) h := by
  refine pw_iinc C dX2_reach_93 rfl (by decide) ?_
  refine pw_goto C 45 dX2_reach_96 (by decide) ?_
  exact kk
set_option maxRecDepth 20000 in
theorem B_X2_reach_99 {G : Gx} {X : Cx} {h : PH} {k n : Nat} {a0 : Nat} {a1 : Nat} {a2 : Int} {a3 : Int} {a4 : Int} {a5 : Int} {a6 : Int} {PQ : Option PV → PH → Prop} (C : CX_X2_reach G X) (hq : PQ none h) : PW G X 7 (pw_E G X PQ k n) k n 99 [some (.inr a0), some (.inr a1), some (.inl a2), some (.inl a3), some (.inl a4), some (.inl a5), some (.inl a6)] [] h := by
  exact pw_vreturn C dX2_reach_99 hq
theorem dX2_tilt_0 : decode cX2_tilt 0 = .ok (.iload_n 3, 1) := by decide +kernel
theorem dX2_tilt_1 : decode cX2_tilt 1 = .ok (.istore 5, 2) := by decide +kernel
theorem dX2_tilt_3 : decode cX2_tilt 3 = .ok (.iload 5, 2) := by decide +kernel
theorem dX2_tilt_5 : decode cX2_tilt 5 = .ok (.iload 4, 2) := by decide +kernel
theorem dX2_tilt_7 : decode cX2_tilt 7 = .ok (.if_icmp .gt 134, 3) := by decide +kernel
theorem dX2_tilt_10 : decode cX2_tilt 10 = .ok (.iload_n 2, 1) := by decide +kernel
theorem dX2_tilt_11 : decode cX2_tilt 11 = .ok (.iload 5, 2) := by decide +kernel
theorem dX2_tilt_13 : decode cX2_tilt 13 = .ok (.bipush 7, 2) := by decide +kernel
theorem dX2_tilt_15 : decode cX2_tilt 15 = .ok (.imul, 1) := by decide +kernel
theorem dX2_tilt_16 : decode cX2_tilt 16 = .ok (.iadd, 1) := by decide +kernel
theorem dX2_tilt_17 : decode cX2_tilt 17 = .ok (.istore 6, 2) := by decide +kernel
theorem dX2_tilt_19 : decode cX2_tilt 19 = .ok (.iload 5, 2) := by decide +kernel
theorem dX2_tilt_21 : decode cX2_tilt 21 = .ok (.iconst 1, 1) := by decide +kernel
theorem dX2_tilt_22 : decode cX2_tilt 22 = .ok (.iadd, 1) := by decide +kernel
theorem dX2_tilt_23 : decode cX2_tilt 23 = .ok (.bipush 7, 2) := by decide +kernel
theorem dX2_tilt_25 : decode cX2_tilt 25 = .ok (.imul, 1) := by decide +kernel
theorem dX2_tilt_26 : decode cX2_tilt 26 = .ok (.istore 7, 2) := by decide +kernel
theorem dX2_tilt_28 : decode cX2_tilt 28 = .ok (.iconst 0, 1) := by decide +kernel
theorem dX2_tilt_29 : decode cX2_tilt 29 = .ok (.istore 8, 2) := by decide +kernel
theorem dX2_tilt_31 : decode cX2_tilt 31 = .ok (.iload 8, 2) := by decide +kernel
theorem dX2_tilt_33 : decode cX2_tilt 33 = .ok (.bipush 7, 2) := by decide +kernel
theorem dX2_tilt_35 : decode cX2_tilt 35 = .ok (.if_icmp .ge 100, 3) := by decide +kernel
theorem dX2_tilt_38 : decode cX2_tilt 38 = .ok (.aload_n 1, 1) := by decide +kernel
theorem dX2_tilt_39 : decode cX2_tilt 39 = .ok (.iload 6, 2) := by decide +kernel
theorem dX2_tilt_41 : decode cX2_tilt 41 = .ok (.iload 8, 2) := by decide +kernel
theorem dX2_tilt_43 : decode cX2_tilt 43 = .ok (.iadd, 1) := by decide +kernel
theorem dX2_tilt_44 : decode cX2_tilt 44 = .ok (.iaload, 1) := by decide +kernel
theorem dX2_tilt_45 : decode cX2_tilt 45 = .ok (.istore 9, 2) := by decide +kernel
theorem dX2_tilt_47 : decode cX2_tilt 47 = .ok (.iload 8, 2) := by decide +kernel
theorem dX2_tilt_49 : decode cX2_tilt 49 = .ok (.ifCond .le 32, 3) := by decide +kernel
theorem dX2_tilt_52 : decode cX2_tilt 52 = .ok (.aload_n 1, 1) := by decide +kernel
theorem dX2_tilt_53 : decode cX2_tilt 53 = .ok (.iload 6, 2) := by decide +kernel
theorem dX2_tilt_55 : decode cX2_tilt 55 = .ok (.iload 8, 2) := by decide +kernel
theorem dX2_tilt_57 : decode cX2_tilt 57 = .ok (.iadd, 1) := by decide +kernel
theorem dX2_tilt_58 : decode cX2_tilt 58 = .ok (.iconst 1, 1) := by decide +kernel
theorem dX2_tilt_59 : decode cX2_tilt 59 = .ok (.isub, 1) := by decide +kernel
theorem dX2_tilt_60 : decode cX2_tilt 60 = .ok (.iaload, 1) := by decide +kernel
theorem dX2_tilt_61 : decode cX2_tilt 61 = .ok (.iconst 1, 1) := by decide +kernel
theorem dX2_tilt_62 : decode cX2_tilt 62 = .ok (.isub, 1) := by decide +kernel
theorem dX2_tilt_63 : decode cX2_tilt 63 = .ok (.iload 9, 2) := by decide +kernel
theorem dX2_tilt_65 : decode cX2_tilt 65 = .ok (.if_icmp .le 16, 3) := by decide +kernel
theorem dX2_tilt_68 : decode cX2_tilt 68 = .ok (.aload_n 1, 1) := by decide +kernel
theorem dX2_tilt_69 : decode cX2_tilt 69 = .ok (.iload 6, 2) := by decide +kernel
theorem dX2_tilt_71 : decode cX2_tilt 71 = .ok (.iload 8, 2) := by decide +kernel
theorem dX2_tilt_73 : decode cX2_tilt 73 = .ok (.iadd, 1) := by decide +kernel
theorem dX2_tilt_74 : decode cX2_tilt 74 = .ok (.iconst 1, 1) := by decide +kernel
theorem dX2_tilt_75 : decode cX2_tilt 75 = .ok (.isub, 1) := by decide +kernel
theorem dX2_tilt_76 : decode cX2_tilt 76 = .ok (.iaload, 1) := by decide +kernel
theorem dX2_tilt_77 : decode cX2_tilt 77 = .ok (.iconst 1, 1) := by decide +kernel
theorem dX2_tilt_78 : decode cX2_tilt 78 = .ok (.isub, 1) := by decide +kernel
theorem dX2_tilt_79 : decode cX2_tilt 79 = .ok (.istore 9, 2) := by decide +kernel
theorem dX2_tilt_81 : decode cX2_tilt 81 = .ok (.iload 8, 2) := by decide +kernel
theorem dX2_tilt_83 : decode cX2_tilt 83 = .ok (.bipush 6, 2) := by decide +kernel
theorem dX2_tilt_85 : decode cX2_tilt 85 = .ok (.if_icmp .ge 32, 3) := by decide +kernel
theorem dX2_tilt_88 : decode cX2_tilt 88 = .ok (.aload_n 1, 1) := by decide +kernel
theorem dX2_tilt_89 : decode cX2_tilt 89 = .ok (.iload 6, 2) := by decide +kernel
theorem dX2_tilt_91 : decode cX2_tilt 91 = .ok (.iload 8, 2) := by decide +kernel
theorem dX2_tilt_93 : decode cX2_tilt 93 = .ok (.iadd, 1) := by decide +kernel
theorem dX2_tilt_94 : decode cX2_tilt 94 = .ok (.iconst 1, 1) := by decide +kernel
theorem dX2_tilt_95 : decode cX2_tilt 95 = .ok (.iadd, 1) := by decide +kernel
theorem dX2_tilt_96 : decode cX2_tilt 96 = .ok (.iaload, 1) := by decide +kernel
theorem dX2_tilt_97 : decode cX2_tilt 97 = .ok (.iconst 1, 1) := by decide +kernel
theorem dX2_tilt_98 : decode cX2_tilt 98 = .ok (.isub, 1) := by decide +kernel
theorem dX2_tilt_99 : decode cX2_tilt 99 = .ok (.iload 9, 2) := by decide +kernel
theorem dX2_tilt_101 : decode cX2_tilt 101 = .ok (.if_icmp .le 16, 3) := by decide +kernel
theorem dX2_tilt_104 : decode cX2_tilt 104 = .ok (.aload_n 1, 1) := by decide +kernel
theorem dX2_tilt_105 : decode cX2_tilt 105 = .ok (.iload 6, 2) := by decide +kernel
theorem dX2_tilt_107 : decode cX2_tilt 107 = .ok (.iload 8, 2) := by decide +kernel
theorem dX2_tilt_109 : decode cX2_tilt 109 = .ok (.iadd, 1) := by decide +kernel
theorem dX2_tilt_110 : decode cX2_tilt 110 = .ok (.iconst 1, 1) := by decide +kernel
theorem dX2_tilt_111 : decode cX2_tilt 111 = .ok (.iadd, 1) := by decide +kernel
theorem dX2_tilt_112 : decode cX2_tilt 112 = .ok (.iaload, 1) := by decide +kernel
theorem dX2_tilt_113 : decode cX2_tilt 113 = .ok (.iconst 1, 1) := by decide +kernel
theorem dX2_tilt_114 : decode cX2_tilt 114 = .ok (.isub, 1) := by decide +kernel
theorem dX2_tilt_115 : decode cX2_tilt 115 = .ok (.istore 9, 2) := by decide +kernel
theorem dX2_tilt_117 : decode cX2_tilt 117 = .ok (.aload_n 0, 1) := by decide +kernel
theorem dX2_tilt_118 : decode cX2_tilt 118 = .ok (.getfield 25, 3) := by decide +kernel
theorem dX2_tilt_121 : decode cX2_tilt 121 = .ok (.iload 7, 2) := by decide +kernel
theorem dX2_tilt_123 : decode cX2_tilt 123 = .ok (.iload 8, 2) := by decide +kernel
theorem dX2_tilt_125 : decode cX2_tilt 125 = .ok (.iadd, 1) := by decide +kernel
theorem dX2_tilt_126 : decode cX2_tilt 126 = .ok (.iload 9, 2) := by decide +kernel
theorem dX2_tilt_128 : decode cX2_tilt 128 = .ok (.iastore, 1) := by decide +kernel
theorem dX2_tilt_129 : decode cX2_tilt 129 = .ok (.iinc 8 1, 3) := by decide +kernel
theorem dX2_tilt_132 : decode cX2_tilt 132 = .ok (.goto (-101), 3) := by decide +kernel
theorem dX2_tilt_135 : decode cX2_tilt 135 = .ok (.iinc 5 1, 3) := by decide +kernel
theorem dX2_tilt_138 : decode cX2_tilt 138 = .ok (.goto (-135), 3) := by decide +kernel
theorem dX2_tilt_141 : decode cX2_tilt 141 = .ok (.return_, 1) := by decide +kernel
set_option maxRecDepth 20000 in
theorem B_X2_tilt_0 {G : Gx} {X : Cx} {h : PH} {k n : Nat} {Q : State → Prop} {S : List PV} {a0 : Nat} {a1 : Nat} {a2 : Int} {a3 : Int} {a4 : Int} (C : CX_X2_tilt G X) (kk : PW G X 10 Q k n 3 [some (.inr a0), some (.inr a1), some (.inl a2), some (.inl a3), some (.inl a4), some (.inl a3), none, none, none, none] (S) h) : PW G X 10 Q k n 0 [some (.inr a0), some (.inr a1), some (.inl a2), some (.inl a3), some (.inl a4), none, none, none, none, none] (S) h := by
  refine pw_iload_n C dX2_tilt_0 rfl ?_
  refine pw_istore C dX2_tilt_1 (by decide) ?_
  exact kk
set_option maxRecDepth 20000 in
theorem B_X2_tilt_3 {G : Gx} {X : Cx} {h : PH} {k n : Nat} {Q : State → Prop} {S : List PV} {a0 : Nat} {a1 : Nat} {a2 : Int} {a3 : Int} {a4 : Int} {a5 : Int} (C : CX_X2_tilt G X) (q1 : pR a5 := by first | assumption | (unfold pR; omega)) (q2 : pR a4 := by first | assumption | (unfold pR; omega)) (kt : a4 < a5 → PW G X 10 Q k n 141 [some (.inr a0), some (.inr a1), some (.inl a2), some (.inl a3), some (.inl a4), some (.inl a5), none, none, none, none] (S) h) (kf : ¬ a4 < a5 → PW G X 10 Q k n 10 [some (.inr a0), some (.inr a1), some (.inl a2), some (.inl a3), some (.inl a4), some (.inl a5), none, none, none, none] (S) h) : PW G X 10 Q k n 3 [some (.inr a0), some (.inr a1), some (.inl a2), some (.inl a3), some (.inl a4), some (.inl a5), none, none, none, none] (S) h := by
  refine pw_iload C dX2_tilt_3 rfl ?_
  refine pw_iload C dX2_tilt_5 rfl ?_
  exact pw_icmp_gt C 141 dX2_tilt_7 (by decide) q1 q2 kt kf
set_option maxRecDepth 20000 in
theorem B_X2_tilt_10 {G : Gx} {X : Cx} {h : PH} {k n : Nat} {Q : State → Prop} {S : List PV} {a0 : Nat} {a1 : Nat} {a2 : Int} {a3 : Int} {a4 : Int} {a5 : Int} (C : CX_X2_tilt G X) (kk : PW G X 10 Q k n 31 [some (.inr a0), some (.inr a1), some (.inl a2), some (.inl a3), some (.inl a4), some (.inl a5), some (.inl (a2 + (a5 * 7))), some (.inl ((a5 + 1) * 7)), some (.inl 0), none] (S) h) : PW G X 10 Q k n 10 [some (.inr a0), some (.inr a1), some (.inl a2), some (.inl a3), some (.inl a4), some (.inl a5), none, none, none, none] (S) h := by
  refine pw_iload_n C dX2_tilt_10 rfl ?_
  refine pw_iload C dX2_tilt_11 rfl ?_
  refine pw_bipush C dX2_tilt_13 rfl ?_
  refine pw_imul C dX2_tilt_15 ?_
  refine pw_iadd C dX2_tilt_16 ?_
  refine pw_istore C dX2_tilt_17 (by decide) ?_
  refine pw_iload C dX2_tilt_19 rfl ?_
  refine pw_iconst C dX2_tilt_21 ?_
  refine pw_iadd C dX2_tilt_22 ?_
  refine pw_bipush C dX2_tilt_23 rfl ?_
  refine pw_imul C dX2_tilt_25 ?_
  refine pw_istore C dX2_tilt_26 (by decide) ?_
  refine pw_iconst C dX2_tilt_28 ?_
  refine pw_istore C dX2_tilt_29 (by decide) ?_
  exact kk
set_option maxRecDepth 20000 in
theorem B_X2_tilt_31 {G : Gx} {X : Cx} {h : PH} {k n : Nat} {Q : State → Prop} {S : List PV} {a0 : Nat} {a1 : Nat} {a2 : Int} {a3 : Int} {a4 : Int} {a5 : Int} {a6 : Int} {a7 : Int} {a8 : Int} (C : CX_X2_tilt G X) (q1 : pR a8 := by first | assumption | (unfold pR; omega)) (q2 : pR 7 := by first | assumption | (unfold pR; omega)) (kt : 7 ≤ a8 → PW G X 10 Q k n 135 [some (.inr a0), some (.inr a1), some (.inl a2), some (.inl a3), some (.inl a4), some (.inl a5), some (.inl a6), some (.inl a7), some (.inl a8), none] (S) h) (kf : ¬ 7 ≤ a8 → PW G X 10 Q k n 38 [some (.inr a0), some (.inr a1), some (.inl a2), some (.inl a3), some (.inl a4), some (.inl a5), some (.inl a6), some (.inl a7), some (.inl a8), none] (S) h) : PW G X 10 Q k n 31 [some (.inr a0), some (.inr a1), some (.inl a2), some (.inl a3), some (.inl a4), some (.inl a5), some (.inl a6), some (.inl a7), some (.inl a8), none] (S) h := by
  refine pw_iload C dX2_tilt_31 rfl ?_
  refine pw_bipush C dX2_tilt_33 rfl ?_
  exact pw_icmp_ge C 135 dX2_tilt_35 (by decide) q1 q2 kt kf
set_option maxRecDepth 20000 in
theorem B_X2_tilt_38 {G : Gx} {X : Cx} {h : PH} {k n : Nat} {Q : State → Prop} {S : List PV} {a0 : Nat} {a1 : Nat} {a2 : Int} {a3 : Int} {a4 : Int} {a5 : Int} {a6 : Int} {a7 : Int} {a8 : Int} {x5 : Int} (C : CX_X2_tilt G X) (t1 : ph_T h a1 = 8 := by first | assumption | rfl) (q2 : (0 : Int) ≤ a6 + a8 := by first | assumption | omega) (q3 : a6 + a8 < (ph_L h a1 : Int) := by first | assumption | omega) (q4 : pR (a6 + a8) := by first | assumption | (unfold pR; omega)) (e6 : ph_I h a1 (Int.toNat (a6 + a8)) = x5 := by first | assumption | rfl) (q7 : pR a8 := by first | assumption | (unfold pR; omega)) (kt : a8 ≤ 0 → PW G X 10 Q k n 81 [some (.inr a0), some (.inr a1), some (.inl a2), some (.inl a3), some (.inl a4), some (.inl a5), some (.inl a6), some (.inl a7), some (.inl a8), some (.inl x5)] (S) h) (kf : ¬ a8 ≤ 0 → PW G X 10 Q k n 52 [some (.inr a0), some (.inr a1), some (.inl a2), some (.inl a3), some (.inl a4), some (.inl a5), some (.inl a6), some (.inl a7), some (.inl a8), some (.inl x5)] (S) h) : PW G X 10 Q k n 38 [some (.inr a0), some (.inr a1), some (.inl a2), some (.inl a3), some (.inl a4), some (.inl a5), some (.inl a6), some (.inl a7), some (.inl a8), none] (S) h := by
  refine pw_aload_n C dX2_tilt_38 rfl ?_
  refine pw_iload C dX2_tilt_39 rfl ?_
  refine pw_iload C dX2_tilt_41 rfl ?_
  refine pw_iadd C dX2_tilt_43 ?_
  refine pw_iald C dX2_tilt_44 t1 q2 q3 q4 ?_
  rw [e6]
  refine pw_istore C dX2_tilt_45 (by decide) ?_
  refine pw_iload C dX2_tilt_47 rfl ?_
  exact pw_if_le C 81 dX2_tilt_49 (by decide) q7 kt kf
set_option maxRecDepth 20000 in
theorem B_X2_tilt_52 {G : Gx} {X : Cx} {h : PH} {k n : Nat} {Q : State → Prop} {S : List PV} {a0 : Nat} {a1 : Nat} {a2 : Int} {a3 : Int} {a4 : Int} {a5 : Int} {a6 : Int} {a7 : Int} {a8 : Int} {a9 : Int} {x5 : Int} (C : CX_X2_tilt G X) (t1 : ph_T h a1 = 8 := by first | assumption | rfl) (q2 : (0 : Int) ≤ (a6 + a8) - 1 := by first | assumption | omega) (q3 : (a6 + a8) - 1 < (ph_L h a1 : Int) := by first | assumption | omega) (q4 : pR ((a6 + a8) - 1) := by first | assumption | (unfold pR; omega)) (e6 : ph_I h a1 (Int.toNat ((a6 + a8) - 1)) = x5 := by first | assumption | rfl) (q7 : pR (x5 - 1) := by first | assumption | (unfold pR; omega)) (q8 : pR a9 := by first | assumption | (unfold pR; omega)) (kt : x5 - 1 ≤ a9 → PW G X 10 Q k n 81 [some (.inr a0), some (.inr a1), some (.inl a2), some (.inl a3), some (.inl a4), some (.inl a5), some (.inl a6), some (.inl a7), some (.inl a8), some (.inl a9)] (S) h) (kf : ¬ x5 - 1 ≤ a9 → PW G X 10 Q k n 68 [some (.inr a0), some (.inr a1), some (.inl a2), some (.inl a3), some (.inl a4), some (.inl a5), some (.inl a6), some (.inl a7), some (.inl a8), some (.inl a9)] (S) h) : PW G X 10 Q k n 52 [some (.inr a0), some (.inr a1), some (.inl a2), some (.inl a3), some (.inl a4), some (.inl a5), some (.inl a6), some (.inl a7), some (.inl a8), some (.inl a9)] (S) h := by
  refine pw_aload_n C dX2_tilt_52 rfl ?_
  refine pw_iload C dX2_tilt_53 rfl ?_
  refine pw_iload C dX2_tilt_55 rfl ?_
  refine pw_iadd C dX2_tilt_57 ?_
  refine pw_iconst C dX2_tilt_58 ?_
  refine pw_isub C dX2_tilt_59 ?_
  refine pw_iald C dX2_tilt_60 t1 q2 q3 q4 ?_
  rw [e6]
  refine pw_iconst C dX2_tilt_61 ?_
  refine pw_isub C dX2_tilt_62 ?_
  refine pw_iload C dX2_tilt_63 rfl ?_
  exact pw_icmp_le C 81 dX2_tilt_65 (by decide) q7 q8 kt kf
set_option maxRecDepth 20000 in
theorem B_X2_tilt_68 {G : Gx} {X : Cx} {h : PH} {k n : Nat} {Q : State → Prop} {S : List PV} {a0 : Nat} {a1 : Nat} {a2 : Int} {a3 : Int} {a4 : Int} {a5 : Int} {a6 : Int} {a7 : Int} {a8 : Int} {a9 : Int} {x5 : Int} (C : CX_X2_tilt G X) (t1 : ph_T h a1 = 8 := by first | assumption | rfl) (q2 : (0 : Int) ≤ (a6 + a8) - 1 := by first | assumption | omega) (q3 : (a6 + a8) - 1 < (ph_L h a1 : Int) := by first | assumption | omega) (q4 : pR ((a6 + a8) - 1) := by first | assumption | (unfold pR; omega)) (e6 : ph_I h a1 (Int.toNat ((a6 + a8) - 1)) = x5 := by first | assumption | rfl) (kk : PW G X 10 Q k n 81 [some (.inr a0), some (.inr a1), some (.inl a2), some (.inl a3), some (.inl a4), some (.inl a5), some (.inl a6), some (.inl a7), some (.inl a8), some (.inl (x5 - 1))] (S) h) : PW G X 10 Q k n 68 [some (.inr a0), some (.inr a1), some (.inl a2), some (.inl a3), some (.inl a4), some (.inl a5), some (.inl a6), some (.inl a7), some (.inl a8), some (.inl a9)] (S) h := by
  refine pw_aload_n C dX2_tilt_68 rfl ?_
  refine pw_iload C dX2_tilt_69 rfl ?_
  refine pw_iload C dX2_tilt_71 rfl ?_
  refine pw_iadd C dX2_tilt_73 ?_
  refine pw_iconst C dX2_tilt_74 ?_
  refine pw_isub C dX2_tilt_75 ?_
  refine pw_iald C dX2_tilt_76 t1 q2 q3 q4 ?_
  rw [e6]
  refine pw_iconst C dX2_tilt_77 ?_
  refine pw_isub C dX2_tilt_78 ?_
  refine pw_istore C dX2_tilt_79 (by decide) ?_
  exact kk
set_option maxRecDepth 20000 in
theorem B_X2_tilt_81 {G : Gx} {X : Cx} {h : PH} {k n : Nat} {Q : State → Prop} {S : List PV} {a0 : Nat} {a1 : Nat} {a2 : Int} {a3 : Int} {a4 : Int} {a5 : Int} {a6 : Int} {a7 : Int} {a8 : Int} {a9 : Int} (C : CX_X2_tilt G X) (q1 : pR a8 := by first | assumption | (unfold pR; omega)) (q2 : pR 6 := by first | assumption | (unfold pR; omega)) (kt : 6 ≤ a8 → PW G X 10 Q k n 117 [some (.inr a0), some (.inr a1), some (.inl a2), some (.inl a3), some (.inl a4), some (.inl a5), some (.inl a6), some (.inl a7), some (.inl a8), some (.inl a9)] (S) h) (kf : ¬ 6 ≤ a8 → PW G X 10 Q k n 88 [some (.inr a0), some (.inr a1), some (.inl a2), some (.inl a3), some (.inl a4), some (.inl a5), some (.inl a6), some (.inl a7), some (.inl a8), some (.inl a9)] (S) h) : PW G X 10 Q k n 81 [some (.inr a0), some (.inr a1), some (.inl a2), some (.inl a3), some (.inl a4), some (.inl a5), some (.inl a6), some (.inl a7), some (.inl a8), some (.inl a9)] (S) h := by
  refine pw_iload C dX2_tilt_81 rfl ?_
  refine pw_bipush C dX2_tilt_83 rfl ?_
  exact pw_icmp_ge C 117 dX2_tilt_85 (by decide) q1 q2 kt kf
set_option maxRecDepth 20000 in
theorem B_X2_tilt_88 {G : Gx} {X : Cx} {h : PH} {k n : Nat} {Q : State → Prop} {S : List PV} {a0 : Nat} {a1 : Nat} {a2 : Int} {a3 : Int} {a4 : Int} {a5 : Int} {a6 : Int} {a7 : Int} {a8 : Int} {a9 : Int} {x5 : Int} (C : CX_X2_tilt G X) (t1 : ph_T h a1 = 8 := by first | assumption | rfl) (q2 : (0 : Int) ≤ (a6 + a8) + 1 := by first | assumption | omega) (q3 : (a6 + a8) + 1 < (ph_L h a1 : Int) := by first | assumption | omega) (q4 : pR ((a6 + a8) + 1) := by first | assumption | (unfold pR; omega)) (e6 : ph_I h a1 (Int.toNat ((a6 + a8) + 1)) = x5 := by first | assumption | rfl) (q7 : pR (x5 - 1) := by first | assumption | (unfold pR; omega)) (q8 : pR a9 := by first | assumption | (unfold pR; omega)) (kt : x5 - 1 ≤ a9 → PW G X 10 Q k n 117 [some (.inr a0), some (.inr a1), some (.inl a2), some (.inl a3), some (.inl a4), some (.inl a5), some (.inl a6), some (.inl a7), some (.inl a8), some (.inl a9)] (S) h) (kf : ¬ x5 - 1 ≤ a9 → PW G X 10 Q k n 104 [some (.inr a0), some (.inr a1), some (.inl a2), some (.inl a3), some (.inl a4), some (.inl a5), some (.inl a6), some (.inl a7), some (.inl a8), some (.inl a9)] (S) h) : PW G X 10 Q k n 88 [some (.inr a0), some (.inr a1), some (.inl a2), some (.inl a3), some (.inl a4), some (.inl a5), some (.inl a6), some (.inl a7), some (.inl a8), some (.inl a9)] (S) h := by
  refine pw_aload_n C dX2_tilt_88 rfl ?_
  refine pw_iload C dX2_tilt_89 rfl ?_
  refine pw_iload C dX2_tilt_91 rfl ?_
  refine pw_iadd C dX2_tilt_93 ?_
  refine pw_iconst C dX2_tilt_94 ?_
  refine pw_iadd C dX2_tilt_95 ?_
  refine pw_iald C dX2_tilt_96 t1 q2 q3 q4 ?_
  rw [e6]
  refine pw_iconst C dX2_tilt_97 ?_
  refine pw_isub C dX2_tilt_98 ?_
  refine pw_iload C dX2_tilt_99 rfl ?_
  exact pw_icmp_le C 117 dX2_tilt_101 (by decide) q7 q8 kt kf
set_option maxRecDepth 20000 in
theorem B_X2_tilt_104 {G : Gx} {X : Cx} {h : PH} {k n : Nat} {Q : State → Prop} {S : List PV} {a0 : Nat} {a1 : Nat} {a2 : Int} {a3 : Int} {a4 : Int} {a5 : Int} {a6 : Int} {a7 : Int} {a8 : Int} {a9 : Int} {x5 : Int} (C : CX_X2_tilt G X) (t1 : ph_T h a1 = 8 := by first | assumption | rfl) (q2 : (0 : Int) ≤ (a6 + a8) + 1 := by first | assumption | omega) (q3 : (a6 + a8) + 1 < (ph_L h a1 : Int) := by first | assumption | omega) (q4 : pR ((a6 + a8) + 1) := by first | assumption | (unfold pR; omega)) (e6 : ph_I h a1 (Int.toNat ((a6 + a8) + 1)) = x5 := by first | assumption | rfl) (kk : PW G X 10 Q k n 117 [some (.inr a0), some (.inr a1), some (.inl a2), some (.inl a3), some (.inl a4), some (.inl a5), some (.inl a6), some (.inl a7), some (.inl a8), some (.inl (x5 - 1))] (S) h) : PW G X 10 Q k n 104 [some (.inr a0), some (.inr a1), some (.inl a2), some (.inl a3), some (.inl a4), some (.inl a5), some (.inl a6), some (.inl a7), some (.inl a8), some (.inl a9)] (S) h := by
  refine pw_aload_n C dX2_tilt_104 rfl ?_
  refine pw_iload C dX2_tilt_105 rfl ?_
  refine pw_iload C dX2_tilt_107 rfl ?_
  refine pw_iadd C dX2_tilt_109 ?_
  refine pw_iconst C dX2_tilt_110 ?_
  refine pw_iadd C dX2_tilt_111 ?_
  refine pw_iald C dX2_tilt_112 t1 q2 q3 q4 ?_
  rw [e6]
  refine pw_iconst C dX2_tilt_113 ?_
  refine pw_isub C dX2_tilt_114 ?_
  refine pw_istore C dX2_tilt_115 (by decide) ?_
  exact kk
set_option maxRecDepth 20000 in
theorem B_X2_tilt_117 {G : Gx} {X : Cx} {h : PH} {k n : Nat} {Q : State → Prop} {S : List PV} {a0 : Nat} {a1 : Nat} {a2 : Int} {a3 : Int} {a4 : Int} {a5 : Int} {a6 : Int} {a7 : Int} {a8 : Int} {a9 : Int} {r2 : Nat} (C : CX_X2_tilt G X) (t1 : ph_T h a0 = 2 := by first | assumption | rfl) (e3 : ph_R h a0 4 = r2 := by first | assumption | rfl) (t4 : ph_T h r2 = 8 := by first | assumption | rfl) (q5 : (0 : Int) ≤ a7 + a8 := by first | assumption | omega) (q6 : a7 + a8 < (ph_L h r2 : Int) := by first | assumption | omega) (q7 : pR (a7 + a8) := by first | assumption | (unfold pR; omega)) (kk : PW G X 10 Q k n 31 [some (.inr a0), some (.inr a1), some (.inl a2), some (.inl a3), some (.inl a4), some (.inl a5), some (.inl a6), some (.inl a7), some (.inl (a8 + 1)), none] (S) (ph_setI h r2 (Int.toNat (a7 + a8)) a9)) : PW G X 10 Q k n 117 [some (.inr a0), some (.inr a1), some (.inl a2), some (.inl a3), some (.inl a4), some (.inl a5), some (.inl a6), some (.inl a7), some (.inl a8), some (.inl a9)] (S) h := by
  refine pw_aload_n C dX2_tilt_117 rfl ?_
  refine pw_getR C (t := 2) (f := 4) rfl inF2 rfl (by decide) (by decide) rfl kw280 dX2_tilt_118 t1 ?_
  rw [e3]
  refine pw_iload C dX2_tilt_121 rfl ?_
  refine pw_iload C dX2_tilt_123 rfl ?_
  refine pw_iadd C dX2_tilt_125 ?_
  refine pw_iload C dX2_tilt_126 rfl ?_
  refine pw_iast C dX2_tilt_128 t4 q5 q6 q7 ?_
  refine pw_iinc C dX2_tilt_129 rfl (by decide) ?_
  refine pw_goto C 31 dX2_tilt_132 (by decide) ?_
  exact pw_weak [true, true, true, true, true, true, true, true, true, false] kk
set_option maxRecDepth 20000 in
theorem B_X2_tilt_135 {G : Gx} {X : Cx} {h : PH} {k n : Nat} {Q : State → Prop} {S : List PV} {a0 : Nat} {a1 : Nat} {a2 : Int} {a3 : Int} {a4 : Int} {a5 : Int} {a6 : Int} {a7 : Int} {a8 : Int} (C : CX_X2_tilt G X) (kk : PW G X 10 Q k n 3 [some (.inr a0), some (.inr a1), some (.inl a2), some (.inl a3), some (.inl a4), some (.inl (a5 + 1)), none, none, none, none] (S) h) : PW G X 10 Q k n 135 [some (.inr a0), some (.inr a1), some (.inl a2), some (.inl a3), some (.inl a4), some (.inl a5), some (.inl a6), some (.inl a7), some (.inl a8), none] (S) h := by
  refine pw_iinc C dX2_tilt_135 rfl (by decide) ?_
  refine pw_goto C 3 dX2_tilt_138 (by decide) ?_
  exact pw_weak [true, true, true, true, true, true, false, false, false, true] kk
set_option maxRecDepth 20000 in
theorem B_X2_tilt_141 {G : Gx} {X : Cx} {h : PH} {k n : Nat} {a0 : Nat} {a1 : Nat} {a2 : Int} {a3 : Int} {a4 : Int} {a5 : Int} {PQ : Option PV → PH → Prop} (C : CX_X2_tilt G X) (hq : PQ none h) : PW G X 10 (pw_E G X PQ k n) k n 141 [some (.inr a0), some (.inr a1), some (.inl a2), some (.inl a3), some (.inl a4), some (.inl a5), none, none, none, none] [] h := by
  exact pw_vreturn C dX2_tilt_141 hq
theorem dX2_turn_0 : decode cX2_turn 0 = .ok (.iload_n 2, 1) := by decide +kernel
theorem dX2_turn_1 : decode cX2_turn 1 = .ok (.iconst 2, 1) := by decide +kernel
theorem dX2_turn_2 : decode cX2_turn 2 = .ok (.iadd, 1) := by decide +kernel
theorem dX2_turn_3 : decode cX2_turn 3 = .ok (.bipush 7, 2) := by decide +kernel
theorem dX2_turn_5 : decode cX2_turn 5 = .ok (.imul, 1) := by decide +kernel
theorem dX2_turn_6 : decode cX2_turn 6 = .ok (.istore_n 3, 1) := by decide +kernel
theorem dX2_turn_7 : decode cX2_turn 7 = .ok (.iload_n 1, 1) := by decide +kernel
theorem dX2_turn_8 : decode cX2_turn 8 = .ok (.iconst 1, 1) := by decide +kernel
theorem dX2_turn_9 : decode cX2_turn 9 = .ok (.iadd, 1) := by decide +kernel
theorem dX2_turn_10 : decode cX2_turn 10 = .ok (.bipush 7, 2) := by decide +kernel
theorem dX2_turn_12 : decode cX2_turn 12 = .ok (.imul, 1) := by decide +kernel
theorem dX2_turn_13 : decode cX2_turn 13 = .ok (.istore 4, 2) := by decide +kernel
theorem dX2_turn_15 : decode cX2_turn 15 = .ok (.iload 4, 2) := by decide +kernel
theorem dX2_turn_17 : decode cX2_turn 17 = .ok (.iload_n 3, 1) := by decide +kernel
theorem dX2_turn_18 : decode cX2_turn 18 = .ok (.if_icmp .ge 89, 3) := by decide +kernel
theorem dX2_turn_21 : decode cX2_turn 21 = .ok (.aload_n 0, 1) := by decide +kernel
theorem dX2_turn_22 : decode cX2_turn 22 = .ok (.getfield 25, 3) := by decide +kernel
theorem dX2_turn_25 : decode cX2_turn 25 = .ok (.iload 4, 2) := by decide +kernel
theorem dX2_turn_27 : decode cX2_turn 27 = .ok (.iaload, 1) := by decide +kernel
theorem dX2_turn_28 : decode cX2_turn 28 = .ok (.istore 5, 2) := by decide +kernel
theorem dX2_turn_30 : decode cX2_turn 30 = .ok (.aload_n 0, 1) := by decide +kernel
theorem dX2_turn_31 : decode cX2_turn 31 = .ok (.getfield 25, 3) := by decide +kernel
theorem dX2_turn_34 : decode cX2_turn 34 = .ok (.iload 4, 2) := by decide +kernel
theorem dX2_turn_36 : decode cX2_turn 36 = .ok (.bipush 7, 2) := by decide +kernel
theorem dX2_turn_38 : decode cX2_turn 38 = .ok (.isub, 1) := by decide +kernel
theorem dX2_turn_39 : decode cX2_turn 39 = .ok (.iaload, 1) := by decide +kernel
theorem dX2_turn_40 : decode cX2_turn 40 = .ok (.iconst 1, 1) := by decide +kernel
theorem dX2_turn_41 : decode cX2_turn 41 = .ok (.isub, 1) := by decide +kernel
theorem dX2_turn_42 : decode cX2_turn 42 = .ok (.iload 5, 2) := by decide +kernel
theorem dX2_turn_44 : decode cX2_turn 44 = .ok (.if_icmp .le 17, 3) := by decide +kernel
theorem dX2_turn_47 : decode cX2_turn 47 = .ok (.aload_n 0, 1) := by decide +kernel
theorem dX2_turn_48 : decode cX2_turn 48 = .ok (.getfield 25, 3) := by decide +kernel
theorem dX2_turn_51 : decode cX2_turn 51 = .ok (.iload 4, 2) := by decide +kernel
theorem dX2_turn_53 : decode cX2_turn 53 = .ok (.bipush 7, 2) := by decide +kernel
theorem dX2_turn_55 : decode cX2_turn 55 = .ok (.isub, 1) := by decide +kernel
theorem dX2_turn_56 : decode cX2_turn 56 = .ok (.iaload, 1) := by decide +kernel
theorem dX2_turn_57 : decode cX2_turn 57 = .ok (.iconst 1, 1) := by decide +kernel
theorem dX2_turn_58 : decode cX2_turn 58 = .ok (.isub, 1) := by decide +kernel
theorem dX2_turn_59 : decode cX2_turn 59 = .ok (.istore 5, 2) := by decide +kernel
theorem dX2_turn_61 : decode cX2_turn 61 = .ok (.aload_n 0, 1) := by decide +kernel
theorem dX2_turn_62 : decode cX2_turn 62 = .ok (.getfield 25, 3) := by decide +kernel
theorem dX2_turn_65 : decode cX2_turn 65 = .ok (.iload 4, 2) := by decide +kernel
theorem dX2_turn_67 : decode cX2_turn 67 = .ok (.bipush 7, 2) := by decide +kernel
theorem dX2_turn_69 : decode cX2_turn 69 = .ok (.iadd, 1) := by decide +kernel
theorem dX2_turn_70 : decode cX2_turn 70 = .ok (.iaload, 1) := by decide +kernel
theorem dX2_turn_71 : decode cX2_turn 71 = .ok (.iconst 1, 1) := by decide +kernel
theorem dX2_turn_72 : decode cX2_turn 72 = .ok (.isub, 1) := by decide +kernel
theorem dX2_turn_73 : decode cX2_turn 73 = .ok (.iload 5, 2) := by decide +kernel
theorem dX2_turn_75 : decode cX2_turn 75 = .ok (.if_icmp .le 17, 3) := by decide +kernel
theorem dX2_turn_78 : decode cX2_turn 78 = .ok (.aload_n 0, 1) := by decide +kernel
theorem dX2_turn_79 : decode cX2_turn 79 = .ok (.getfield 25, 3) := by decide +kernel
theorem dX2_turn_82 : decode cX2_turn 82 = .ok (.iload 4, 2) := by decide +kernel
theorem dX2_turn_84 : decode cX2_turn 84 = .ok (.bipush 7, 2) := by decide +kernel
theorem dX2_turn_86 : decode cX2_turn 86 = .ok (.iadd, 1) := by decide +kernel
theorem dX2_turn_87 : decode cX2_turn 87 = .ok (.iaload, 1) := by decide +kernel
theorem dX2_turn_88 : decode cX2_turn 88 = .ok (.iconst 1, 1) := by decide +kernel
theorem dX2_turn_89 : decode cX2_turn 89 = .ok (.isub, 1) := by decide +kernel
theorem dX2_turn_90 : decode cX2_turn 90 = .ok (.istore 5, 2) := by decide +kernel
theorem dX2_turn_92 : decode cX2_turn 92 = .ok (.aload_n 0, 1) := by decide +kernel
theorem dX2_turn_93 : decode cX2_turn 93 = .ok (.getfield 28, 3) := by decide +kernel
theorem dX2_turn_96 : decode cX2_turn 96 = .ok (.iload 4, 2) := by decide +kernel
theorem dX2_turn_98 : decode cX2_turn 98 = .ok (.iload 5, 2) := by decide +kernel
theorem dX2_turn_100 : decode cX2_turn 100 = .ok (.iastore, 1) := by decide +kernel
theorem dX2_turn_101 : decode cX2_turn 101 = .ok (.iinc 4 1, 3) := by decide +kernel
theorem dX2_turn_104 : decode cX2_turn 104 = .ok (.goto (-89), 3) := by decide +kernel
theorem dX2_turn_107 : decode cX2_turn 107 = .ok (.aload_n 0, 1) := by decide +kernel
theorem dX2_turn_108 : decode cX2_turn 108 = .ok (.getfield 28, 3) := by decide +kernel
theorem dX2_turn_111 : decode cX2_turn 111 = .ok (.astore 4, 2) := by decide +kernel
theorem dX2_turn_113 : decode cX2_turn 113 = .ok (.aload_n 0, 1) := by decide +kernel
theorem dX2_turn_114 : decode cX2_turn 114 = .ok (.aload_n 0, 1) := by decide +kernel
theorem dX2_turn_115 : decode cX2_turn 115 = .ok (.getfield 25, 3) := by decide +kernel
theorem dX2_turn_118 : decode cX2_turn 118 = .ok (.putfield 28, 3) := by decide +kernel
theorem dX2_turn_121 : decode cX2_turn 121 = .ok (.aload_n 0, 1) := by decide +kernel
theorem dX2_turn_122 : decode cX2_turn 122 = .ok (.aload 4, 2) := by decide +kernel
theorem dX2_turn_124 : decode cX2_turn 124 = .ok (.putfield 25, 3) := by decide +kernel
theorem dX2_turn_127 : decode cX2_turn 127 = .ok (.return_, 1) := by decide +kernel
set_option maxRecDepth 20000 in
theorem B_X2_turn_0 {G : Gx} {X : Cx} {h : PH} {k n : Nat} {Q : State → Prop} {S : List PV} {a0 : Nat} {a1 : Int} {a2 : Int} (C : CX_X2_turn G X) (kk : PW G X 6 Q k n 15 [some (.inr a0), some (.inl a1), some (.inl a2), some (.inl ((a2 + 2) * 7)), some (.inl ((a1 + 1) * 7)), none] (S) h) : PW G X 6 Q k n 0 [some (.inr a0), some (.inl a1), some (.inl a2), none, none, none] (S) h := by
  refine pw_iload_n C dX2_turn_0 rfl ?_
  refine pw_iconst C dX2_turn_1 ?_
  refine pw_iadd C dX2_turn_2 ?_
  refine pw_bipush C dX2_turn_3 rfl ?_
  refine pw_imul C dX2_turn_5 ?_
  refine pw_istore_n C dX2_turn_6 (by decide) ?_
  refine pw_iload_n C dX2_turn_7 rfl ?_
  refine pw_iconst C dX2_turn_8 ?_
  refine pw_iadd C dX2_turn_9 ?_
  refine pw_bipush C dX2_turn_10 rfl ?_
  refine pw_imul C dX2_turn_12 ?_
  refine pw_istore C dX2_turn_13 (by decide) ?_
  exact kk
set_option maxRecDepth 20000 in
theorem B_X2_turn_15 {G : Gx} {X : Cx} {h : PH} {k n : Nat} {Q : State → Prop} {S : List PV} {a0 : Nat} {a1 : Int} {a2 : Int} {a3 : Int} {a4 : Int} (C : CX_X2_turn G X) (q1 : pR a4 := by first | assumption | (unfold pR; omega)) (q2 : pR a3 := by first | assumption | (unfold pR; omega)) (kt : a3 ≤ a4 → PW G X 6 Q k n 107 [some (.inr a0), some (.inl a1), some (.inl a2), some (.inl a3), some (.inl a4), none] (S) h) (kf : ¬ a3 ≤ a4 → PW G X 6 Q k n 21 [some (.inr a0), some (.inl a1), some (.inl a2), some (.inl a3), some (.inl a4), none] (S) h) : PW G X 6 Q k n 15 [some (.inr a0), some (.inl a1), some (.inl a2), some (.inl a3), some (.inl a4), none] (S) h := by
  refine pw_iload C dX2_turn_15 rfl ?_
  refine pw_iload_n C dX2_turn_17 rfl ?_
  exact pw_icmp_ge C 107 dX2_turn_18 (by decide) q1 q2 kt kf
set_option maxRecDepth 20000 in
theorem B_X2_turn_21 {G : Gx} {X : Cx} {h : PH} {k n : Nat} {Q : State → Prop} {S : List PV} {a0 : Nat} {a1 : Int} {a2 : Int} {a3 : Int} {a4 : Int} {r2 : Nat} {x8 : Int} {r11 : Nat} {x17 : Int} (C : CX_X2_turn G X) (t1 : ph_T h a0 = 2 := by first | assumption | rfl) (e3 : ph_R h a0 4 = r2 := by first | assumption | rfl) (t4 : ph_T h r2 = 8 := by first | assumption | rfl) (q5 : (0 : Int) ≤ a4 := by first | assumption | omega) (q6 : a4 < (ph_L h r2 : Int) := by first | assumption | omega) (q7 : pR a4 := by first | assumption | (unfold pR; omega)) (e9 : ph_I h r2 (Int.toNat a4) = x8 := by first | assumption | rfl) (t10 : ph_T h a0 = 2 := by first | assumption | rfl) (e12 : ph_R h a0 4 = r11 := by first | assumption | rfl) (t13 : ph_T h r11 = 8 := by first | assumption | rfl) (q14 : (0 : Int) ≤ a4 - 7 := by first | assumption | omega) (q15 : a4 - 7 < (ph_L h r11 : Int) := by first | assumption | omega) (q16 : pR (a4 - 7) := by first | assumption | (unfold pR; omega)) (e18 : ph_I h r11 (Int.toNat (a4 - 7)) = x17 := by first | assumption | rfl) (q19 : pR (x17 - 1) := by first | assumption | (unfold pR; omega)) (q20 : pR x8 := by first | assumption | (unfold pR; omega)) (kt : x17 - 1 ≤ x8 → PW G X 6 Q k n 61 [some (.inr a0), some (.inl a1), some (.inl a2), some (.inl a3), some (.inl a4), some (.inl x8)] (S) h) (kf : ¬ x17 - 1 ≤ x8 → PW G X 6 Q k n 47 [some (.inr a0), some (.inl a1), some (.inl a2), some (.inl a3), some (.inl a4), some (.inl x8)] (S) h) : PW G X 6 Q k n 21 [some (.inr a0), some (.inl a1), some (.inl a2), some (.inl a3), some (.inl a4), none] (S) h := by
  refine pw_aload_n C dX2_turn_21 rfl ?_
  refine pw_getR C (t := 2) (f := 4) rfl inF2 rfl (by decide) (by decide) rfl kw280 dX2_turn_22 t1 ?_
  rw [e3]
  refine pw_iload C dX2_turn_25 rfl ?_
  refine pw_iald C dX2_turn_27 t4 q5 q6 q7 ?_
  rw [e9]
  refine pw_istore C dX2_turn_28 (by decide) ?_
  refine pw_aload_n C dX2_turn_30 rfl ?_
  refine pw_getR C (t := 2) (f := 4) rfl inF2 rfl (by decide) (by decide) rfl kw280 dX2_turn_31 t10 ?_
  rw [e12]
  refine pw_iload C dX2_turn_34 rfl ?_
  refine pw_bipush C dX2_turn_36 rfl ?_
  refine pw_isub C dX2_turn_38 ?_
  refine pw_iald C dX2_turn_39 t13 q14 q15 q16 ?_
  rw [e18]
  refine pw_iconst C dX2_turn_40 ?_
  refine pw_isub C dX2_turn_41 ?_
  refine pw_iload C dX2_turn_42 rfl ?_
  exact pw_icmp_le C 61 dX2_turn_44 (by decide) q19 q20 kt kf
set_option maxRecDepth 20000 in
theorem B_X2_turn_47 {G : Gx} {X : Cx} {h : PH} {k n : Nat} {Q : State → Prop} {S : List PV} {a0 : Nat} {a1 : Int} {a2 : Int} {a3 : Int} {a4 : Int} {a5 : Int} {r2 : Nat} {x8 : Int} (C : CX_X2_turn G X) (t1 : ph_T h a0 = 2 := by first | assumption | rfl) (e3 : ph_R h a0 4 = r2 := by first | assumption | rfl) (t4 : ph_T h r2 = 8 := by first | assumption | rfl) (q5 : (0 : Int) ≤ a4 - 7 := by first | assumption | omega) (q6 : a4 - 7 < (ph_L h r2 : Int) := by first | assumption | omega) (q7 : pR (a4 - 7) := by first | assumption | (unfold pR; omega)) (e9 : ph_I h r2 (Int.toNat (a4 - 7)) = x8 := by first | assumption | rfl) (kk : PW G X 6 Q k n 61 [some (.inr a0), some (.inl a1), some (.inl a2), some (.inl a3), some (.inl a4), some (.inl (x8 - 1))] (S) h) : PW G X 6 Q k n 47 [some (.inr a0), some (.inl a1), some (.inl a2), some (.inl a3), some (.inl a4), some (.inl a5)] (S) h := by
  refine pw_aload_n C dX2_turn_47 rfl ?_
  refine pw_getR C (t := 2) (f := 4) rfl inF2 rfl (by decide) (by decide) rfl kw280 dX2_turn_48 t1 ?_
  rw [e3]
  refine pw_iload C dX2_turn_51 rfl ?_
  refine pw_bipush C dX2_turn_53 rfl ?_
  refine pw_isub C dX2_turn_55 ?_
  refine pw_iald C dX2_turn_56 t4 q5 q6 q7 ?_
  rw [e9]
  refine pw_iconst C dX2_turn_57 ?_
  refine pw_isub C dX2_turn_58 ?_
  refine pw_istore C dX2_turn_59 (by decide) ?_
  exact kk
set_option maxRecDepth 20000 in
theorem B_X2_turn_61 {G : Gx} {X : Cx} {h : PH} {k n : Nat} {Q : State → Prop} {S : List PV} {a0 : Nat} {a1 : Int} {a2 : Int} {a3 : Int} {a4 : Int} {a5 : Int} {r2 : Nat} {x8 : Int} (C : CX_X2_turn G X) (t1 : ph_T h a0 = 2 := by first | assumption | rfl) (e3 : ph_R h a0 4 = r2 := by first | assumption | rfl) (t4 : ph_T h r2 = 8 := by first | assumption | rfl) (q5 : (0 : Int) ≤ a4 + 7 := by first | assumption | omega) (q6 : a4 + 7 < (ph_L h r2 : Int) := by first | assumption | omega) (q7 : pR (a4 + 7) := by first | assumption | (unfold pR; omega)) (e9 : ph_I h r2 (Int.toNat (a4 + 7)) = x8 := by first | assumption | rfl) (q10 : pR (x8 - 1) := by first | assumption | (unfold pR; omega)) (q11 : pR a5 := by first | assumption | (unfold pR; omega)) (kt : x8 - 1 ≤ a5 → PW G X 6 Q k n 92 [some (.inr a0), some (.inl a1), some (.inl a2), some (.inl a3), some (.inl a4), some (.inl a5)] (S) h) (kf : ¬ x8 - 1 ≤ a5 → PW G X 6 Q k n 78 [some (.inr a0), some (.inl a1), some (.inl a2), some (.inl a3), some (.inl a4), some (.inl a5)] (S) h) : PW G X 6 Q k n 61 [some (.inr a0), some (.inl a1), some (.inl a2), some (.inl a3), some (.inl a4), some (.inl a5)] (S) h := by
  refine pw_aload_n C dX2_turn_61 rfl ?_
  refine pw_getR C (t := 2) (f := 4) rfl inF2 rfl (by decide) (by decide) rfl kw280 dX2_turn_62 t1 ?_
  rw [e3]
  refine pw_iload C dX2_turn_65 rfl ?_
  refine pw_bipush C dX2_turn_67 rfl ?_
  refine pw_iadd C dX2_turn_69 ?_
  refine pw_iald C dX2_turn_70 t4 q5 q6 q7 ?_
  rw [e9]
  refine pw_iconst C dX2_turn_71 ?_
  refine pw_isub C dX2_turn_72 ?_
  refine pw_iload C dX2_turn_73 rfl ?_
  exact pw_icmp_le C 92 dX2_turn_75 (by decide) q10 q11 kt kf
set_option maxRecDepth 20000 in
theorem B_X2_turn_78 {G : Gx} {X : Cx} {h : PH} {k n : Nat} {Q : State → Prop} {S : List PV} {a0 : Nat} {a1 : Int} {a2 : Int} {a3 : Int} {a4 : Int} {a5 : Int} {r2 : Nat} {x8 : Int} (C : CX_X2_turn G X) (t1 : ph_T h a0 = 2 := by first | assumption | rfl) (e3 : ph_R h a0 4 = r2 := by first | assumption | rfl) (t4 : ph_T h r2 = 8 := by first | assumption | rfl) (q5 : (0 : Int) ≤ a4 + 7 := by first | assumption | omega) (q6 : a4 + 7 < (ph_L h r2 : Int) := by first | assumption | omega) (q7 : pR (a4 + 7) := by first | assumption | (unfold pR; omega)) (e9 : ph_I h r2 (Int.toNat (a4 + 7)) = x8 := by first | assumption | rfl) (kk : PW G X 6 Q k n 92 [some (.inr a0), some (.inl a1), some (.inl a2), some (.inl a3), some (.inl a4), some (.inl (x8 - 1))] (S) h) : PW G X 6 Q k n 78 [some (.inr a0), some (.inl a1), some (.inl a2), some (.inl a3), some (.inl a4), some (.inl a5)] (S) h := by
  refine pw_aload_n C dX2_turn_78 rfl ?_
  refine pw_getR C (t := 2) (f := 4) rfl inF2 rfl (by decide) (by decide) rfl kw280 dX2_turn_79 t1 ?_
  rw [e3]
  refine pw_iload C dX2_turn_82 rfl ?_
  refine pw_bipush C dX2_turn_84 rfl ?_
  refine pw_iadd C dX2_turn_86 ?_
  refine pw_iald C dX2_turn_87 t4 q5 q6 q7 ?_
  rw [e9]
  refine pw_iconst C dX2_turn_88 ?_
  refine pw_isub C dX2_turn_89 ?_
  refine pw_istore C dX2_turn_90 (by decide) ?_
  exact kk
set_option maxRecDepth 20000 in
theorem B_X2_turn_92 {G : Gx} {X : Cx} {h : PH} {k n : Nat} {Q : State → Prop} {S : List PV} {a0 : Nat} {a1 : Int} {a2 : Int} {a3 : Int} {a4 : Int} {a5 : Int} {r2 : Nat} (C : CX_X2_turn G X) (t1 : ph_T h a0 = 2 := by first | assumption | rfl) (e3 : ph_R h a0 5 = r2 := by first | assumption | rfl) (t4 : ph_T h r2 = 8 := by first | assumption | rfl) (q5 : (0 : Int) ≤ a4 := by first | assumption | omega) (q6 : a4 < (ph_L h r2 : Int) := by first | assumption | omega) (q7 : pR a4 := by first | assumption | (unfold pR; omega)) (kk : PW G X 6 Q k n 15 [some (.inr a0), some (.inl a1), some (.inl a2), some (.inl a3), some (.inl (a4 + 1)), none] (S) (ph_setI h r2 (Int.toNat a4) a5)) : PW G X 6 Q k n 92 [some (.inr a0), some (.inl a1), some (.inl a2), some (.inl a3), some (.inl a4), some (.inl a5)] (S) h := by
  refine pw_aload_n C dX2_turn_92 rfl ?_
  refine pw_getR C (t := 2) (f := 5) rfl inF2 rfl (by decide) (by decide) rfl kw281 dX2_turn_93 t1 ?_
  rw [e3]
  refine pw_iload C dX2_turn_96 rfl ?_
  refine pw_iload C dX2_turn_98 rfl ?_
  refine pw_iast C dX2_turn_100 t4 q5 q6 q7 ?_
  refine pw_iinc C dX2_turn_101 rfl (by decide) ?_
  refine pw_goto C 15 dX2_turn_104 (by decide) ?_
  exact pw_weak [true, true, true, true, true, false] kk
set_option maxRecDepth 20000 in
theorem B_X2_turn_107 {G : Gx} {X : Cx} {h : PH} {k n : Nat} {a0 : Nat} {a1 : Int} {a2 : Int} {a3 : Int} {a4 : Int} {r2 : Nat} {r6 : Nat} {PQ : Option PV → PH → Prop} (C : CX_X2_turn G X) (t1 : ph_T h a0 = 2 := by first | assumption | rfl) (e3 : ph_R h a0 5 = r2 := by first | assumption | rfl) (q4 : 2 ≤ r2 := by first | assumption | omega) (t5 : ph_T h a0 = 2 := by first | assumption | rfl) (e7 : ph_R h a0 4 = r6 := by first | assumption | rfl) (t8 : ph_T h a0 = 2 := by first | assumption | rfl) (t9 : ph_T h a0 = 2 := by first | assumption | rfl) (hq : PQ none (ph_setR (ph_setR h a0 5 r6) a0 4 r2)) : PW G X 6 (pw_E G X PQ k n) k n 107 [some (.inr a0), some (.inl a1), some (.inl a2), some (.inl a3), some (.inl a4), none] [] h := by
  refine pw_aload_n C dX2_turn_107 rfl ?_
  refine pw_getR C (t := 2) (f := 5) rfl inF2 rfl (by decide) (by decide) rfl kw281 dX2_turn_108 t1 ?_
  rw [e3]
  refine pw_astore C dX2_turn_111 (by decide) q4 ?_
  refine pw_aload_n C dX2_turn_113 rfl ?_
  refine pw_aload_n C dX2_turn_114 rfl ?_
  refine pw_getR C (t := 2) (f := 4) rfl inF2 rfl (by decide) (by decide) rfl kw280 dX2_turn_115 t5 ?_
  rw [e7]
  refine pw_putR C (t := 2) (f := 5) rfl inF2 tyX2_ok nmX2 rfl (by decide) (by decide) rfl (Or.inl rfl) (Or.inr ⟨_, rfl⟩) kw281 dX2_turn_118 t8 ?_
  refine pw_aload_n C dX2_turn_121 rfl ?_
  refine pw_aload C dX2_turn_122 rfl ?_
  refine pw_putR C (t := 2) (f := 4) rfl inF2 tyX2_ok nmX2 rfl (by decide) (by decide) rfl (Or.inl rfl) (Or.inr ⟨_, rfl⟩) kw280 dX2_turn_124 t9 ?_
  exact pw_vreturn C dX2_turn_127 hq
theorem dX2_enterRow_0 : decode cX2_enterRow 0 = .ok (.aload_n 0, 1) := by decide +kernel
theorem dX2_enterRow_1 : decode cX2_enterRow 1 = .ok (.getfield 51, 3) := by decide +kernel
theorem dX2_enterRow_4 : decode cX2_enterRow 4 = .ok (.getfield 74, 3) := by decide +kernel
theorem dX2_enterRow_7 : decode cX2_enterRow 7 = .ok (.iload_n 3, 1) := by decide +kernel
theorem dX2_enterRow_8 : decode cX2_enterRow 8 = .ok (.iadd, 1) := by decide +kernel
theorem dX2_enterRow_9 : decode cX2_enterRow 9 = .ok (.istore 4, 2) := by decide +kernel
theorem dX2_enterRow_11 : decode cX2_enterRow 11 = .ok (.iload_n 3, 1) := by decide +kernel
theorem dX2_enterRow_12 : decode cX2_enterRow 12 = .ok (.ifCond .le 22, 3) := by decide +kernel
theorem dX2_enterRow_15 : decode cX2_enterRow 15 = .ok (.aload_n 0, 1) := by decide +kernel
theorem dX2_enterRow_16 : decode cX2_enterRow 16 = .ok (.getfield 41, 3) := by decide +kernel
theorem dX2_enterRow_19 : decode cX2_enterRow 19 = .ok (.getfield 206, 3) := by decide +kernel
theorem dX2_enterRow_22 : decode cX2_enterRow 22 = .ok (.iload 4, 2) := by decide +kernel
theorem dX2_enterRow_24 : decode cX2_enterRow 24 = .ok (.invokevirtual 210, 3) := by decide +kernel
theorem dX2_enterRow_27 : decode cX2_enterRow 27 = .ok (.ifCond .eq 7, 3) := by decide +kernel
theorem dX2_enterRow_30 : decode cX2_enterRow 30 = .ok (.iconst 1, 1) := by decide +kernel
theorem dX2_enterRow_31 : decode cX2_enterRow 31 = .ok (.goto 4, 3) := by decide +kernel
theorem dX2_enterRow_34 : decode cX2_enterRow 34 = .ok (.iconst 0, 1) := by decide +kernel
theorem dX2_enterRow_35 : decode cX2_enterRow 35 = .ok (.istore 5, 2) := by decide +kernel
theorem dX2_enterRow_37 : decode cX2_enterRow 37 = .ok (.aload_n 0, 1) := by decide +kernel
theorem dX2_enterRow_38 : decode cX2_enterRow 38 = .ok (.iload_n 3, 1) := by decide +kernel
theorem dX2_enterRow_39 : decode cX2_enterRow 39 = .ok (.invokevirtual 160, 3) := by decide +kernel
theorem dX2_enterRow_42 : decode cX2_enterRow 42 = .ok (.istore 6, 2) := by decide +kernel
theorem dX2_enterRow_44 : decode cX2_enterRow 44 = .ok (.aload_n 0, 1) := by decide +kernel
theorem dX2_enterRow_45 : decode cX2_enterRow 45 = .ok (.iload_n 3, 1) := by decide +kernel
theorem dX2_enterRow_46 : decode cX2_enterRow 46 = .ok (.invokevirtual 167, 3) := by decide +kernel
theorem dX2_enterRow_49 : decode cX2_enterRow 49 = .ok (.istore 7, 2) := by decide +kernel
theorem dX2_enterRow_51 : decode cX2_enterRow 51 = .ok (.iload 7, 2) := by decide +kernel
theorem dX2_enterRow_53 : decode cX2_enterRow 53 = .ok (.iload 6, 2) := by decide +kernel
theorem dX2_enterRow_55 : decode cX2_enterRow 55 = .ok (.if_icmp .gt 164, 3) := by decide +kernel
theorem dX2_enterRow_58 : decode cX2_enterRow 58 = .ok (.iload_n 3, 1) := by decide +kernel
theorem dX2_enterRow_59 : decode cX2_enterRow 59 = .ok (.ifCond .le 35, 3) := by decide +kernel
theorem dX2_enterRow_62 : decode cX2_enterRow 62 = .ok (.aload_n 0, 1) := by decide +kernel
theorem dX2_enterRow_63 : decode cX2_enterRow 63 = .ok (.getfield 41, 3) := by decide +kernel
theorem dX2_enterRow_66 : decode cX2_enterRow 66 = .ok (.getfield 206, 3) := by decide +kernel
theorem dX2_enterRow_69 : decode cX2_enterRow 69 = .ok (.iload 7, 2) := by decide +kernel
theorem dX2_enterRow_71 : decode cX2_enterRow 71 = .ok (.aload_n 0, 1) := by decide +kernel
theorem dX2_enterRow_72 : decode cX2_enterRow 72 = .ok (.getfield 51, 3) := by decide +kernel
theorem dX2_enterRow_75 : decode cX2_enterRow 75 = .ok (.getfield 129, 3) := by decide +kernel
theorem dX2_enterRow_78 : decode cX2_enterRow 78 = .ok (.isub, 1) := by decide +kernel
theorem dX2_enterRow_79 : decode cX2_enterRow 79 = .ok (.invokestatic 215, 3) := by decide +kernel
theorem dX2_enterRow_82 : decode cX2_enterRow 82 = .ok (.iload 4, 2) := by decide +kernel
theorem dX2_enterRow_84 : decode cX2_enterRow 84 = .ok (.invokevirtual 218, 3) := by decide +kernel
theorem dX2_enterRow_87 : decode cX2_enterRow 87 = .ok (.ifCond .eq 7, 3) := by decide +kernel
theorem dX2_enterRow_90 : decode cX2_enterRow 90 = .ok (.iconst 1, 1) := by decide +kernel
theorem dX2_enterRow_91 : decode cX2_enterRow 91 = .ok (.goto 4, 3) := by decide +kernel
theorem dX2_enterRow_94 : decode cX2_enterRow 94 = .ok (.iconst 0, 1) := by decide +kernel
theorem dX2_enterRow_95 : decode cX2_enterRow 95 = .ok (.istore 8, 2) := by decide +kernel
theorem dX2_enterRow_97 : decode cX2_enterRow 97 = .ok (.iload 7, 2) := by decide +kernel
theorem dX2_enterRow_99 : decode cX2_enterRow 99 = .ok (.iconst 1, 1) := by decide +kernel
theorem dX2_enterRow_100 : decode cX2_enterRow 100 = .ok (.iadd, 1) := by decide +kernel
theorem dX2_enterRow_101 : decode cX2_enterRow 101 = .ok (.bipush 7, 2) := by decide +kernel
theorem dX2_enterRow_103 : decode cX2_enterRow 103 = .ok (.imul, 1) := by decide +kernel
theorem dX2_enterRow_104 : decode cX2_enterRow 104 = .ok (.istore 9, 2) := by decide +kernel
theorem dX2_enterRow_106 : decode cX2_enterRow 106 = .ok (.iload_n 2, 1) := by decide +kernel
theorem dX2_enterRow_107 : decode cX2_enterRow 107 = .ok (.iload 7, 2) := by decide +kernel
theorem dX2_enterRow_109 : decode cX2_enterRow 109 = .ok (.bipush 7, 2) := by decide +kernel
theorem dX2_enterRow_111 : decode cX2_enterRow 111 = .ok (.imul, 1) := by decide +kernel
theorem dX2_enterRow_112 : decode cX2_enterRow 112 = .ok (.iadd, 1) := by decide +kernel
theorem dX2_enterRow_113 : decode cX2_enterRow 113 = .ok (.istore 10, 2) := by decide +kernel
theorem dX2_enterRow_115 : decode cX2_enterRow 115 = .ok (.iconst 0, 1) := by decide +kernel
theorem dX2_enterRow_116 : decode cX2_enterRow 116 = .ok (.istore 11, 2) := by decide +kernel
theorem dX2_enterRow_118 : decode cX2_enterRow 118 = .ok (.iload 11, 2) := by decide +kernel
theorem dX2_enterRow_120 : decode cX2_enterRow 120 = .ok (.bipush 7, 2) := by decide +kernel
theorem dX2_enterRow_122 : decode cX2_enterRow 122 = .ok (.if_icmp .ge 91, 3) := by decide +kernel
theorem dX2_enterRow_125 : decode cX2_enterRow 125 = .ok (.iload_n 3, 1) := by decide +kernel
theorem dX2_enterRow_126 : decode cX2_enterRow 126 = .ok (.ifCond .ne 15, 3) := by decide +kernel
theorem dX2_enterRow_129 : decode cX2_enterRow 129 = .ok (.iload 11, 2) := by decide +kernel
theorem dX2_enterRow_131 : decode cX2_enterRow 131 = .ok (.aload_n 0, 1) := by decide +kernel
theorem dX2_enterRow_132 : decode cX2_enterRow 132 = .ok (.getfield 51, 3) := by decide +kernel
theorem dX2_enterRow_135 : decode cX2_enterRow 135 = .ok (.getfield 132, 3) := by decide +kernel
theorem dX2_enterRow_138 : decode cX2_enterRow 138 = .ok (.if_icmp .ne 35, 3) := by decide +kernel
theorem dX2_enterRow_141 : decode cX2_enterRow 141 = .ok (.iload 5, 2) := by decide +kernel
theorem dX2_enterRow_143 : decode cX2_enterRow 143 = .ok (.ifCond .eq 10, 3) := by decide +kernel
theorem dX2_enterRow_146 : decode cX2_enterRow 146 = .ok (.iload 11, 2) := by decide +kernel
theorem dX2_enterRow_148 : decode cX2_enterRow 148 = .ok (.bipush 6, 2) := by decide +kernel
theorem dX2_enterRow_150 : decode cX2_enterRow 150 = .ok (.if_icmp .ne 23, 3) := by decide +kernel
theorem dX2_enterRow_153 : decode cX2_enterRow 153 = .ok (.iload 8, 2) := by decide +kernel
theorem dX2_enterRow_155 : decode cX2_enterRow 155 = .ok (.ifCond .eq 22, 3) := by decide +kernel
theorem dX2_enterRow_158 : decode cX2_enterRow 158 = .ok (.aload_n 0, 1) := by decide +kernel
theorem dX2_enterRow_159 : decode cX2_enterRow 159 = .ok (.getfield 41, 3) := by decide +kernel
theorem dX2_enterRow_162 : decode cX2_enterRow 162 = .ok (.getfield 206, 3) := by decide +kernel
theorem dX2_enterRow_165 : decode cX2_enterRow 165 = .ok (.iload 11, 2) := by decide +kernel
theorem dX2_enterRow_167 : decode cX2_enterRow 167 = .ok (.invokevirtual 222, 3) := by decide +kernel
theorem dX2_enterRow_170 : decode cX2_enterRow 170 = .ok (.ifCond .eq 7, 3) := by decide +kernel
theorem dX2_enterRow_173 : decode cX2_enterRow 173 = .ok (.iconst 1, 1) := by decide +kernel
theorem dX2_enterRow_174 : decode cX2_enterRow 174 = .ok (.goto 4, 3) := by decide +kernel
theorem dX2_enterRow_177 : decode cX2_enterRow 177 = .ok (.iconst 0, 1) := by decide +kernel
theorem dX2_enterRow_178 : decode cX2_enterRow 178 = .ok (.istore 12, 2) := by decide +kernel
theorem dX2_enterRow_180 : decode cX2_enterRow 180 = .ok (.aload_n 1, 1) := by decide +kernel
theorem dX2_enterRow_181 : decode cX2_enterRow 181 = .ok (.iload 10, 2) := by decide +kernel
theorem dX2_enterRow_183 : decode cX2_enterRow 183 = .ok (.iload 11, 2) := by decide +kernel
theorem dX2_enterRow_185 : decode cX2_enterRow 185 = .ok (.iadd, 1) := by decide +kernel
theorem dX2_enterRow_186 : decode cX2_enterRow 186 = .ok (.iload 12, 2) := by decide +kernel
theorem dX2_enterRow_188 : decode cX2_enterRow 188 = .ok (.ifCond .eq 8, 3) := by decide +kernel
theorem dX2_enterRow_191 : decode cX2_enterRow 191 = .ok (.ldc 198, 2) := by decide +kernel
theorem dX2_enterRow_193 : decode cX2_enterRow 193 = .ok (.goto 13, 3) := by decide +kernel
theorem dX2_enterRow_196 : decode cX2_enterRow 196 = .ok (.aload_n 0, 1) := by decide +kernel
theorem dX2_enterRow_197 : decode cX2_enterRow 197 = .ok (.getfield 25, 3) := by decide +kernel
theorem dX2_enterRow_200 : decode cX2_enterRow 200 = .ok (.iload 9, 2) := by decide +kernel
theorem dX2_enterRow_202 : decode cX2_enterRow 202 = .ok (.iload 11, 2) := by decide +kernel
theorem dX2_enterRow_204 : decode cX2_enterRow 204 = .ok (.iadd, 1) := by decide +kernel
theorem dX2_enterRow_205 : decode cX2_enterRow 205 = .ok (.iaload, 1) := by decide +kernel
theorem dX2_enterRow_206 : decode cX2_enterRow 206 = .ok (.iastore, 1) := by decide +kernel
theorem dX2_enterRow_207 : decode cX2_enterRow 207 = .ok (.iinc 11 1, 3) := by decide +kernel
theorem dX2_enterRow_210 : decode cX2_enterRow 210 = .ok (.goto (-92), 3) := by decide +kernel
theorem dX2_enterRow_213 : decode cX2_enterRow 213 = .ok (.iinc 7 1, 3) := by decide +kernel
theorem dX2_enterRow_216 : decode cX2_enterRow 216 = .ok (.goto (-165), 3) := by decide +kernel
theorem dX2_enterRow_219 : decode cX2_enterRow 219 = .ok (.return_, 1) := by decide +kernel
set_option maxRecDepth 20000 in
theorem B_X2_enterRow_0 {G : Gx} {X : Cx} {h : PH} {k n : Nat} {Q : State → Prop} {S : List PV} {a0 : Nat} {a1 : Nat} {a2 : Int} {a3 : Int} {r2 : Nat} {x5 : Int} (C : CX_X2_enterRow G X) (t1 : ph_T h a0 = 2 := by first | assumption | rfl) (e3 : ph_R h a0 6 = r2 := by first | assumption | rfl) (t4 : ph_T h r2 = 1 := by first | assumption | rfl) (e6 : ph_I h r2 2 = x5 := by first | assumption | rfl) (q7 : pR a3 := by first | assumption | (unfold pR; omega)) (kt : a3 ≤ 0 → PW G X 13 Q k n 34 [some (.inr a0), some (.inr a1), some (.inl a2), some (.inl a3), some (.inl (x5 + a3)), none, none, none, none, none, none, none, none] (S) h) (kf : ¬ a3 ≤ 0 → PW G X 13 Q k n 15 [some (.inr a0), some (.inr a1), some (.inl a2), some (.inl a3), some (.inl (x5 + a3)), none, none, none, none, none, none, none, none] (S) h) : PW G X 13 Q k n 0 [some (.inr a0), some (.inr a1), some (.inl a2), some (.inl a3), none, none, none, none, none, none, none, none, none] (S) h := by
  refine pw_aload_n C dX2_enterRow_0 rfl ?_
  refine pw_getR C (t := 2) (f := 6) rfl inF2 rfl (by decide) (by decide) rfl kw282 dX2_enterRow_1 t1 ?_
  rw [e3]
  refine pw_getI C (t := 1) (f := 2) rfl inF1 rfl (by decide) (by decide) rfl kw157 dX2_enterRow_4 t4 ?_
  rw [e6]
  refine pw_iload_n C dX2_enterRow_7 rfl ?_
  refine pw_iadd C dX2_enterRow_8 ?_
  refine pw_istore C dX2_enterRow_9 (by decide) ?_
  refine pw_iload_n C dX2_enterRow_11 rfl ?_
  exact pw_if_le C 34 dX2_enterRow_12 (by decide) q7 kt kf
set_option maxRecDepth 20000 in
theorem B_X2_enterRow_15 {G : Gx} {X : Cx} {h : PH} {k n : Nat} {Q : State → Prop} {S : List PV} {a0 : Nat} {a1 : Nat} {a2 : Int} {a3 : Int} {a4 : Int} {r2 : Nat} {r5 : Nat} {PQ : Option PV → PH → Prop} (C : CX_X2_enterRow G X) (hk0 : k ≤ 0 := by decide) (hn0 : n ≤ 0 := by decide) (t1 : ph_T h a0 = 2 := by first | assumption | rfl) (e3 : ph_R h a0 0 = r2 := by first | assumption | rfl) (t4 : ph_T h r2 = 5 := by first | assumption | rfl) (e6 : ph_R h r2 2 = r5 := by first | assumption | rfl) (t7 : ph_T h r5 = 3 := by first | assumption | rfl) (hM : CT_X3_isStormy G X.2.1 [.inr r5, .inl a4] h PQ) (hS : S.length ≤ 8 := by decide) (kk : ∀ r h', PQ r h' → PW G X 13 Q k n 27 [some (.inr a0), some (.inr a1), some (.inl a2), some (.inl a3), some (.inl a4), none, none, none, none, none, none, none, none] (r.toList ++ S) h') : PW G X 13 Q k n 15 [some (.inr a0), some (.inr a1), some (.inl a2), some (.inl a3), some (.inl a4), none, none, none, none, none, none, none, none] (S) h := by
  refine pw_aload_n C dX2_enterRow_15 rfl ?_
  refine pw_getR C (t := 2) (f := 0) rfl inF2 rfl (by decide) (by decide) rfl kw276 dX2_enterRow_16 t1 ?_
  rw [e3]
  refine pw_getR C (t := 5) (f := 2) rfl inF5 rfl (by decide) (by decide) rfl kw184 dX2_enterRow_19 t4 ?_
  rw [e6]
  refine pw_iload C dX2_enterRow_22 rfl ?_
  exact pw_callV C (na := 1) (As := [.inl a4]) (S := S) hM t7 (by decide) (hcl := by rfl) kw503 kw504 kw505 kw40 kw506 (by decide +kernel) rfl dX2_enterRow_24 (by decide) (by decide) hk0 hn0 (by first | exact hS | (simp only [List.length_cons]; omega)) kk
set_option maxRecDepth 20000 in
theorem B_X2_enterRow_27 {G : Gx} {X : Cx} {h : PH} {k n : Nat} {Q : State → Prop} {S : List PV} {a0 : Nat} {a1 : Nat} {a2 : Int} {a3 : Int} {a4 : Int} {s0 : Int} (C : CX_X2_enterRow G X) (q1 : pR s0 := by first | assumption | (unfold pR; omega)) (kt : s0 = 0 → PW G X 13 Q k n 34 [some (.inr a0), some (.inr a1), some (.inl a2), some (.inl a3), some (.inl a4), none, none, none, none, none, none, none, none] (S) h) (kf : ¬ s0 = 0 → PW G X 13 Q k n 30 [some (.inr a0), some (.inr a1), some (.inl a2), some (.inl a3), some (.inl a4), none, none, none, none, none, none, none, none] (S) h) : PW G X 13 Q k n 27 [some (.inr a0), some (.inr a1), some (.inl a2), some (.inl a3), some (.inl a4), none, none, none, none, none, none, none, none] (.inl s0 :: S) h := by
  exact pw_if_eq C 34 dX2_enterRow_27 (by decide) q1 kt kf
set_option maxRecDepth 20000 in
theorem B_X2_enterRow_30 {G : Gx} {X : Cx} {h : PH} {k n : Nat} {Q : State → Prop} {S : List PV} {a0 : Nat} {a1 : Nat} {a2 : Int} {a3 : Int} {a4 : Int} (C : CX_X2_enterRow G X) (kk : PW G X 13 Q k n 35 [some (.inr a0), some (.inr a1), some (.inl a2), some (.inl a3), some (.inl a4), none, none, none, none, none, none, none, none] (.inl 1 :: S) h) : PW G X 13 Q k n 30 [some (.inr a0), some (.inr a1), some (.inl a2), some (.inl a3), some (.inl a4), none, none, none, none, none, none, none, none] (S) h := by
  refine pw_iconst C dX2_enterRow_30 ?_
  refine pw_goto C 35 dX2_enterRow_31 (by decide) ?_
  exact kk
set_option maxRecDepth 20000 in
theorem B_X2_enterRow_34 {G : Gx} {X : Cx} {h : PH} {k n : Nat} {Q : State → Prop} {S : List PV} {a0 : Nat} {a1 : Nat} {a2 : Int} {a3 : Int} {a4 : Int} (C : CX_X2_enterRow G X) (kk : PW G X 13 Q k n 35 [some (.inr a0), some (.inr a1), some (.inl a2), some (.inl a3), some (.inl a4), none, none, none, none, none, none, none, none] (.inl 0 :: S) h) : PW G X 13 Q k n 34 [some (.inr a0), some (.inr a1), some (.inl a2), some (.inl a3), some (.inl a4), none, none, none, none, none, none, none, none] (S) h := by
  refine pw_iconst C dX2_enterRow_34 ?_
  exact kk
set_option maxRecDepth 20000 in
theorem B_X2_enterRow_35 {G : Gx} {X : Cx} {h : PH} {k n : Nat} {Q : State → Prop} {S : List PV} {a0 : Nat} {a1 : Nat} {a2 : Int} {a3 : Int} {a4 : Int} {s0 : Int} {PQ : Option PV → PH → Prop} (C : CX_X2_enterRow G X) (hk0 : k ≤ 0 := by decide) (hn0 : n ≤ 0 := by decide) (t1 : ph_T h a0 = 2 := by first | assumption | rfl) (hM : CT_X2_highWind G X.2.1 [.inr a0, .inl a3] h PQ) (hS : S.length ≤ 8 := by decide) (kk : ∀ r h', PQ r h' → PW G X 13 Q k n 42 [some (.inr a0), some (.inr a1), some (.inl a2), some (.inl a3), some (.inl a4), some (.inl s0), none, none, none, none, none, none, none] (r.toList ++ S) h') : PW G X 13 Q k n 35 [some (.inr a0), some (.inr a1), some (.inl a2), some (.inl a3), some (.inl a4), none, none, none, none, none, none, none, none] (.inl s0 :: S) h := by
  refine pw_istore C dX2_enterRow_35 (by decide) ?_
  refine pw_aload_n C dX2_enterRow_37 rfl ?_
  refine pw_iload_n C dX2_enterRow_38 rfl ?_
  exact pw_callV C (na := 1) (As := [.inl a3]) (S := S) hM t1 (by decide) (hcl := by rfl) kw487 kw489 kw3 kw43 kw490 (by decide +kernel) rfl dX2_enterRow_39 (by decide) (by decide) hk0 hn0 (by first | exact hS | (simp only [List.length_cons]; omega)) kk
set_option maxRecDepth 20000 in
theorem B_X2_enterRow_42 {G : Gx} {X : Cx} {h : PH} {k n : Nat} {Q : State → Prop} {S : List PV} {a0 : Nat} {a1 : Nat} {a2 : Int} {a3 : Int} {a4 : Int} {a5 : Int} {s0 : Int} {PQ : Option PV → PH → Prop} (C : CX_X2_enterRow G X) (hk0 : k ≤ 0 := by decide) (hn0 : n ≤ 0 := by decide) (t1 : ph_T h a0 = 2 := by first | assumption | rfl) (hM : CT_X2_lowWind G X.2.1 [.inr a0, .inl a3] h PQ) (hS : S.length ≤ 8 := by decide) (kk : ∀ r h', PQ r h' → PW G X 13 Q k n 49 [some (.inr a0), some (.inr a1), some (.inl a2), some (.inl a3), some (.inl a4), some (.inl a5), some (.inl s0), none, none, none, none, none, none] (r.toList ++ S) h') : PW G X 13 Q k n 42 [some (.inr a0), some (.inr a1), some (.inl a2), some (.inl a3), some (.inl a4), some (.inl a5), none, none, none, none, none, none, none] (.inl s0 :: S) h := by
  refine pw_istore C dX2_enterRow_42 (by decide) ?_
  refine pw_aload_n C dX2_enterRow_44 rfl ?_
  refine pw_iload_n C dX2_enterRow_45 rfl ?_
  exact pw_callV C (na := 1) (As := [.inl a3]) (S := S) hM t1 (by decide) (hcl := by rfl) kw480 kw482 kw2 kw43 kw483 (by decide +kernel) rfl dX2_enterRow_46 (by decide) (by decide) hk0 hn0 (by first | exact hS | (simp only [List.length_cons]; omega)) kk
set_option maxRecDepth 20000 in
theorem B_X2_enterRow_49 {G : Gx} {X : Cx} {h : PH} {k n : Nat} {Q : State → Prop} {S : List PV} {a0 : Nat} {a1 : Nat} {a2 : Int} {a3 : Int} {a4 : Int} {a5 : Int} {a6 : Int} {s0 : Int} (C : CX_X2_enterRow G X) (kk : PW G X 13 Q k n 51 [some (.inr a0), some (.inr a1), some (.inl a2), some (.inl a3), some (.inl a4), some (.inl a5), some (.inl a6), some (.inl s0), none, none, none, none, none] (S) h) : PW G X 13 Q k n 49 [some (.inr a0), some (.inr a1), some (.inl a2), some (.inl a3), some (.inl a4), some (.inl a5), some (.inl a6), none, none, none, none, none, none] (.inl s0 :: S) h := by
  refine pw_istore C dX2_enterRow_49 (by decide) ?_
  exact kk
set_option maxRecDepth 20000 in
theorem B_X2_enterRow_51 {G : Gx} {X : Cx} {h : PH} {k n : Nat} {Q : State → Prop} {S : List PV} {a0 : Nat} {a1 : Nat} {a2 : Int} {a3 : Int} {a4 : Int} {a5 : Int} {a6 : Int} {a7 : Int} (C : CX_X2_enterRow G X) (q1 : pR a7 := by first | assumption | (unfold pR; omega)) (q2 : pR a6 := by first | assumption | (unfold pR; omega)) (kt : a6 < a7 → PW G X 13 Q k n 219 [some (.inr a0), some (.inr a1), some (.inl a2), some (.inl a3), some (.inl a4), some (.inl a5), some (.inl a6), some (.inl a7), none, none, none, none, none] (S) h) (kf : ¬ a6 < a7 → PW G X 13 Q k n 58 [some (.inr a0), some (.inr a1), some (.inl a2), some (.inl a3), some (.inl a4), some (.inl a5), some (.inl a6), some (.inl a7), none, none, none, none, none] (S) h) : PW G X 13 Q k n 51 [some (.inr a0), some (.inr a1), some (.inl a2), some (.inl a3), some (.inl a4), some (.inl a5), some (.inl a6), some (.inl a7), none, none, none, none, none] (S) h := by
  refine pw_iload C dX2_enterRow_51 rfl ?_
  refine pw_iload C dX2_enterRow_53 rfl ?_
  exact pw_icmp_gt C 219 dX2_enterRow_55 (by decide) q1 q2 kt kf
set_option maxRecDepth 20000 in
theorem B_X2_enterRow_58 {G : Gx} {X : Cx} {h : PH} {k n : Nat} {Q : State → Prop} {S : List PV} {a0 : Nat} {a1 : Nat} {a2 : Int} {a3 : Int} {a4 : Int} {a5 : Int} {a6 : Int} {a7 : Int} (C : CX_X2_enterRow G X) (q1 : pR a3 := by first | assumption | (unfold pR; omega)) (kt : a3 ≤ 0 → PW G X 13 Q k n 94 [some (.inr a0), some (.inr a1), some (.inl a2), some (.inl a3), some (.inl a4), some (.inl a5), some (.inl a6), some (.inl a7), none, none, none, none, none] (S) h) (kf : ¬ a3 ≤ 0 → PW G X 13 Q k n 62 [some (.inr a0), some (.inr a1), some (.inl a2), some (.inl a3), some (.inl a4), some (.inl a5), some (.inl a6), some (.inl a7), none, none, none, none, none] (S) h) : PW G X 13 Q k n 58 [some (.inr a0), some (.inr a1), some (.inl a2), some (.inl a3), some (.inl a4), some (.inl a5), some (.inl a6), some (.inl a7), none, none, none, none, none] (S) h := by
  refine pw_iload_n C dX2_enterRow_58 rfl ?_
  exact pw_if_le C 94 dX2_enterRow_59 (by decide) q1 kt kf
set_option maxRecDepth 20000 in
theorem B_X2_enterRow_62 {G : Gx} {X : Cx} {h : PH} {k n : Nat} {Q : State → Prop} {S : List PV} {a0 : Nat} {a1 : Nat} {a2 : Int} {a3 : Int} {a4 : Int} {a5 : Int} {a6 : Int} {a7 : Int} {r2 : Nat} {r5 : Nat} {r8 : Nat} {x11 : Int} {PQ : Option PV → PH → Prop} (C : CX_X2_enterRow G X) (hk0 : k ≤ 0 := by decide) (hn0 : n ≤ 0 := by decide) (t1 : ph_T h a0 = 2 := by first | assumption | rfl) (e3 : ph_R h a0 0 = r2 := by first | assumption | rfl) (t4 : ph_T h r2 = 5 := by first | assumption | rfl) (e6 : ph_R h r2 2 = r5 := by first | assumption | rfl) (t7 : ph_T h a0 = 2 := by first | assumption | rfl) (e9 : ph_R h a0 6 = r8 := by first | assumption | rfl) (t10 : ph_T h r8 = 1 := by first | assumption | rfl) (e12 : ph_I h r8 3 = x11 := by first | assumption | rfl) (hM : CT_X6_sideOf G X.2.1 [.inl (a7 - x11)] h PQ) (hS : S.length ≤ 7 := by decide) (kk : ∀ r h', PQ r h' → PW G X 13 Q k n 82 [some (.inr a0), some (.inr a1), some (.inl a2), some (.inl a3), some (.inl a4), some (.inl a5), some (.inl a6), some (.inl a7), none, none, none, none, none] (r.toList ++ (.inr r5 :: S)) h') : PW G X 13 Q k n 62 [some (.inr a0), some (.inr a1), some (.inl a2), some (.inl a3), some (.inl a4), some (.inl a5), some (.inl a6), some (.inl a7), none, none, none, none, none] (S) h := by
  refine pw_aload_n C dX2_enterRow_62 rfl ?_
  refine pw_getR C (t := 2) (f := 0) rfl inF2 rfl (by decide) (by decide) rfl kw276 dX2_enterRow_63 t1 ?_
  rw [e3]
  refine pw_getR C (t := 5) (f := 2) rfl inF5 rfl (by decide) (by decide) rfl kw184 dX2_enterRow_66 t4 ?_
  rw [e6]
  refine pw_iload C dX2_enterRow_69 rfl ?_
  refine pw_aload_n C dX2_enterRow_71 rfl ?_
  refine pw_getR C (t := 2) (f := 6) rfl inF2 rfl (by decide) (by decide) rfl kw282 dX2_enterRow_72 t7 ?_
  rw [e9]
  refine pw_getI C (t := 1) (f := 3) rfl inF1 rfl (by decide) (by decide) rfl kw161 dX2_enterRow_75 t10 ?_
  rw [e12]
  refine pw_isub C dX2_enterRow_78 ?_
  exact pw_callSN C (na := 1) (As := [.inl (a7 - x11)]) (S := .inr r5 :: S) hM C.2.2.2.2.2.2.2.2.1.1.2.2.2.2.2.1 kw443 kw38 kw444 (by decide +kernel) rfl dX2_enterRow_79 (by decide) (by decide) hk0 hn0 (by first | exact hS | (simp only [List.length_cons]; omega)) kk
set_option maxRecDepth 20000 in
theorem B_X2_enterRow_82 {G : Gx} {X : Cx} {h : PH} {k n : Nat} {Q : State → Prop} {S : List PV} {a0 : Nat} {a1 : Nat} {a2 : Int} {a3 : Int} {a4 : Int} {a5 : Int} {a6 : Int} {a7 : Int} {s0 : Int} {s1 : Nat} {PQ : Option PV → PH → Prop} (C : CX_X2_enterRow G X) (hk0 : k ≤ 0 := by decide) (hn0 : n ≤ 0 := by decide) (t1 : ph_T h s1 = 3 := by first | assumption | rfl) (hM : CT_X3_isSunSide G X.2.1 [.inr s1, .inl s0, .inl a4] h PQ) (hS : S.length ≤ 8 := by decide) (kk : ∀ r h', PQ r h' → PW G X 13 Q k n 87 [some (.inr a0), some (.inr a1), some (.inl a2), some (.inl a3), some (.inl a4), some (.inl a5), some (.inl a6), some (.inl a7), none, none, none, none, none] (r.toList ++ S) h') : PW G X 13 Q k n 82 [some (.inr a0), some (.inr a1), some (.inl a2), some (.inl a3), some (.inl a4), some (.inl a5), some (.inl a6), some (.inl a7), none, none, none, none, none] (.inl s0 :: .inr s1 :: S) h := by
  refine pw_iload C dX2_enterRow_82 rfl ?_
  exact pw_callV C (na := 2) (As := [.inl s0, .inl a4]) (S := S) hM t1 (by decide) (hcl := by rfl) kw509 kw417 kw418 kw40 kw419 (by decide +kernel) rfl dX2_enterRow_84 (by decide) (by decide) hk0 hn0 (by first | exact hS | (simp only [List.length_cons]; omega)) kk
set_option maxRecDepth 20000 in
theorem B_X2_enterRow_87 {G : Gx} {X : Cx} {h : PH} {k n : Nat} {Q : State → Prop} {S : List PV} {a0 : Nat} {a1 : Nat} {a2 : Int} {a3 : Int} {a4 : Int} {a5 : Int} {a6 : Int} {a7 : Int} {s0 : Int} (C : CX_X2_enterRow G X) (q1 : pR s0 := by first | assumption | (unfold pR; omega)) (kt : s0 = 0 → PW G X 13 Q k n 94 [some (.inr a0), some (.inr a1), some (.inl a2), some (.inl a3), some (.inl a4), some (.inl a5), some (.inl a6), some (.inl a7), none, none, none, none, none] (S) h) (kf : ¬ s0 = 0 → PW G X 13 Q k n 90 [some (.inr a0), some (.inr a1), some (.inl a2), some (.inl a3), some (.inl a4), some (.inl a5), some (.inl a6), some (.inl a7), none, none, none, none, none] (S) h) : PW G X 13 Q k n 87 [some (.inr a0), some (.inr a1), some (.inl a2), some (.inl a3), some (.inl a4), some (.inl a5), some (.inl a6), some (.inl a7), none, none, none, none, none] (.inl s0 :: S) h := by
  exact pw_if_eq C 94 dX2_enterRow_87 (by decide) q1 kt kf
set_option maxRecDepth 20000 in
theorem B_X2_enterRow_90 {G : Gx} {X : Cx} {h : PH} {k n : Nat} {Q : State → Prop} {S : List PV} {a0 : Nat} {a1 : Nat} {a2 : Int} {a3 : Int} {a4 : Int} {a5 : Int} {a6 : Int} {a7 : Int} (C : CX_X2_enterRow G X) (kk : PW G X 13 Q k n 95 [some (.inr a0), some (.inr a1), some (.inl a2), some (.inl a3), some (.inl a4), some (.inl a5), some (.inl a6), some (.inl a7), none, none, none, none, none] (.inl 1 :: S) h) : PW G X 13 Q k n 90 [some (.inr a0), some (.inr a1), some (.inl a2), some (.inl a3), some (.inl a4), some (.inl a5), some (.inl a6), some (.inl a7), none, none, none, none, none] (S) h := by
  refine pw_iconst C dX2_enterRow_90 ?_
  refine pw_goto C 95 dX2_enterRow_91 (by decide) ?_
  exact kk
set_option maxRecDepth 20000 in
theorem B_X2_enterRow_94 {G : Gx} {X : Cx} {h : PH} {k n : Nat} {Q : State → Prop} {S : List PV} {a0 : Nat} {a1 : Nat} {a2 : Int} {a3 : Int} {a4 : Int} {a5 : Int} {a6 : Int} {a7 : Int} (C : CX_X2_enterRow G X) (kk : PW G X 13 Q k n 95 [some (.inr a0), some (.inr a1), some (.inl a2), some (.inl a3), some (.inl a4), some (.inl a5), some (.inl a6), some (.inl a7), none, none, none, none, none] (.inl 0 :: S) h) : PW G X 13 Q k n 94 [some (.inr a0), some (.inr a1), some (.inl a2), some (.inl a3), some (.inl a4), some (.inl a5), some (.inl a6), some (.inl a7), none, none, none, none, none] (S) h := by
  refine pw_iconst C dX2_enterRow_94 ?_
  exact kk
set_option maxRecDepth 20000 in
theorem B_X2_enterRow_95 {G : Gx} {X : Cx} {h : PH} {k n : Nat} {Q : State → Prop} {S : List PV} {a0 : Nat} {a1 : Nat} {a2 : Int} {a3 : Int} {a4 : Int} {a5 : Int} {a6 : Int} {a7 : Int} {s0 : Int} (C : CX_X2_enterRow G X) (kk : PW G X 13 Q k n 118 [some (.inr a0), some (.inr a1), some (.inl a2), some (.inl a3), some (.inl a4), some (.inl a5), some (.inl a6), some (.inl a7), some (.inl s0), some (.inl ((a7 + 1) * 7)), some (.inl (a2 + (a7 * 7))), some (.inl 0), none] (S) h) : PW G X 13 Q k n 95 [some (.inr a0), some (.inr a1), some (.inl a2), some (.inl a3), some (.inl a4), some (.inl a5), some (.inl a6), some (.inl a7), none, none, none, none, none] (.inl s0 :: S) h := by
  refine pw_istore C dX2_enterRow_95 (by decide) ?_
  refine pw_iload C dX2_enterRow_97 rfl ?_
  refine pw_iconst C dX2_enterRow_99 ?_
  refine pw_iadd C dX2_enterRow_100 ?_
  refine pw_bipush C dX2_enterRow_101 rfl ?_
  refine pw_imul C dX2_enterRow_103 ?_
  refine pw_istore C dX2_enterRow_104 (by decide) ?_
  refine pw_iload_n C dX2_enterRow_106 rfl ?_
  refine pw_iload C dX2_enterRow_107 rfl ?_
  refine pw_bipush C dX2_enterRow_109 rfl ?_
  refine pw_imul C dX2_enterRow_111 ?_
  refine pw_iadd C dX2_enterRow_112 ?_
  refine pw_istore C dX2_enterRow_113 (by decide) ?_
  refine pw_iconst C dX2_enterRow_115 ?_
  refine pw_istore C dX2_enterRow_116 (by decide) ?_
  exact kk
set_option maxRecDepth 20000 in
theorem B_X2_enterRow_118 {G : Gx} {X : Cx} {h : PH} {k n : Nat} {Q : State → Prop} {S : List PV} {a0 : Nat} {a1 : Nat} {a2 : Int} {a3 : Int} {a4 : Int} {a5 : Int} {a6 : Int} {a7 : Int} {a8 : Int} {a9 : Int} {a10 : Int} {a11 : Int} (C : CX_X2_enterRow G X) (q1 : pR a11 := by first | assumption | (unfold pR; omega)) (q2 : pR 7 := by first | assumption | (unfold pR; omega)) (kt : 7 ≤ a11 → PW G X 13 Q k n 213 [some (.inr a0), some (.inr a1), some (.inl a2), some (.inl a3), some (.inl a4), some (.inl a5), some (.inl a6), some (.inl a7), some (.inl a8), some (.inl a9), some (.inl a10), some (.inl a11), none] (S) h) (kf : ¬ 7 ≤ a11 → PW G X 13 Q k n 125 [some (.inr a0), some (.inr a1), some (.inl a2), some (.inl a3), some (.inl a4), some (.inl a5), some (.inl a6), some (.inl a7), some (.inl a8), some (.inl a9), some (.inl a10), some (.inl a11), none] (S) h) : PW G X 13 Q k n 118 [some (.inr a0), some (.inr a1), some (.inl a2), some (.inl a3), some (.inl a4), some (.inl a5), some (.inl a6), some (.inl a7), some (.inl a8), some (.inl a9), some (.inl a10), some (.inl a11), none] (S) h := by
  refine pw_iload C dX2_enterRow_118 rfl ?_
  refine pw_bipush C dX2_enterRow_120 rfl ?_
  exact pw_icmp_ge C 213 dX2_enterRow_122 (by decide) q1 q2 kt kf
set_option maxRecDepth 20000 in
theorem B_X2_enterRow_125 {G : Gx} {X : Cx} {h : PH} {k n : Nat} {Q : State → Prop} {S : List PV} {a0 : Nat} {a1 : Nat} {a2 : Int} {a3 : Int} {a4 : Int} {a5 : Int} {a6 : Int} {a7 : Int} {a8 : Int} {a9 : Int} {a10 : Int} {a11 : Int} (C : CX_X2_enterRow G X) (q1 : pR a3 := by first | assumption | (unfold pR; omega)) (kt : ¬ a3 = 0 → PW G X 13 Q k n 141 [some (.inr a0), some (.inr a1), some (.inl a2), some (.inl a3), some (.inl a4), some (.inl a5), some (.inl a6), some (.inl a7), some (.inl a8), some (.inl a9), some (.inl a10), some (.inl a11), none] (S) h) (kf : a3 = 0 → PW G X 13 Q k n 129 [some (.inr a0), some (.inr a1), some (.inl a2), some (.inl a3), some (.inl a4), some (.inl a5), some (.inl a6), some (.inl a7), some (.inl a8), some (.inl a9), some (.inl a10), some (.inl a11), none] (S) h) : PW G X 13 Q k n 125 [some (.inr a0), some (.inr a1), some (.inl a2), some (.inl a3), some (.inl a4), some (.inl a5), some (.inl a6), some (.inl a7), some (.inl a8), some (.inl a9), some (.inl a10), some (.inl a11), none] (S) h := by
  refine pw_iload_n C dX2_enterRow_125 rfl ?_
  exact pw_if_ne C 141 dX2_enterRow_126 (by decide) q1 kt kf
set_option maxRecDepth 20000 in
theorem B_X2_enterRow_129 {G : Gx} {X : Cx} {h : PH} {k n : Nat} {Q : State → Prop} {S : List PV} {a0 : Nat} {a1 : Nat} {a2 : Int} {a3 : Int} {a4 : Int} {a5 : Int} {a6 : Int} {a7 : Int} {a8 : Int} {a9 : Int} {a10 : Int} {a11 : Int} {r2 : Nat} {x5 : Int} (C : CX_X2_enterRow G X) (t1 : ph_T h a0 = 2 := by first | assumption | rfl) (e3 : ph_R h a0 6 = r2 := by first | assumption | rfl) (t4 : ph_T h r2 = 1 := by first | assumption | rfl) (e6 : ph_I h r2 1 = x5 := by first | assumption | rfl) (q7 : pR a11 := by first | assumption | (unfold pR; omega)) (q8 : pR x5 := by first | assumption | (unfold pR; omega)) (kt : ¬ a11 = x5 → PW G X 13 Q k n 173 [some (.inr a0), some (.inr a1), some (.inl a2), some (.inl a3), some (.inl a4), some (.inl a5), some (.inl a6), some (.inl a7), some (.inl a8), some (.inl a9), some (.inl a10), some (.inl a11), none] (S) h) (kf : a11 = x5 → PW G X 13 Q k n 141 [some (.inr a0), some (.inr a1), some (.inl a2), some (.inl a3), some (.inl a4), some (.inl a5), some (.inl a6), some (.inl a7), some (.inl a8), some (.inl a9), some (.inl a10), some (.inl a11), none] (S) h) : PW G X 13 Q k n 129 [some (.inr a0), some (.inr a1), some (.inl a2), some (.inl a3), some (.inl a4), some (.inl a5), some (.inl a6), some (.inl a7), some (.inl a8), some (.inl a9), some (.inl a10), some (.inl a11), none] (S) h := by
  refine pw_iload C dX2_enterRow_129 rfl ?_
  refine pw_aload_n C dX2_enterRow_131 rfl ?_
  refine pw_getR C (t := 2) (f := 6) rfl inF2 rfl (by decide) (by decide) rfl kw282 dX2_enterRow_132 t1 ?_
  rw [e3]
  refine pw_getI C (t := 1) (f := 1) rfl inF1 rfl (by decide) (by decide) rfl kw154 dX2_enterRow_135 t4 ?_
  rw [e6]
  exact pw_icmp_ne C 173 dX2_enterRow_138 (by decide) q7 q8 kt kf
set_option maxRecDepth 20000 in
theorem B_X2_enterRow_141 {G : Gx} {X : Cx} {h : PH} {k n : Nat} {Q : State → Prop} {S : List PV} {a0 : Nat} {a1 : Nat} {a2 : Int} {a3 : Int} {a4 : Int} {a5 : Int} {a6 : Int} {a7 : Int} {a8 : Int} {a9 : Int} {a10 : Int} {a11 : Int} (C : CX_X2_enterRow G X) (q1 : pR a5 := by first | assumption | (unfold pR; omega)) (kt : a5 = 0 → PW G X 13 Q k n 153 [some (.inr a0), some (.inr a1), some (.inl a2), some (.inl a3), some (.inl a4), some (.inl a5), some (.inl a6), some (.inl a7), some (.inl a8), some (.inl a9), some (.inl a10), some (.inl a11), none] (S) h) (kf : ¬ a5 = 0 → PW G X 13 Q k n 146 [some (.inr a0), some (.inr a1), some (.inl a2), some (.inl a3), some (.inl a4), some (.inl a5), some (.inl a6), some (.inl a7), some (.inl a8), some (.inl a9), some (.inl a10), some (.inl a11), none] (S) h) : PW G X 13 Q k n 141 [some (.inr a0), some (.inr a1), some (.inl a2), some (.inl a3), some (.inl a4), some (.inl a5), some (.inl a6), some (.inl a7), some (.inl a8), some (.inl a9), some (.inl a10), some (.inl a11), none] (S) h := by
  refine pw_iload C dX2_enterRow_141 rfl ?_
  exact pw_if_eq C 153 dX2_enterRow_143 (by decide) q1 kt kf
set_option maxRecDepth 20000 in
theorem B_X2_enterRow_146 {G : Gx} {X : Cx} {h : PH} {k n : Nat} {Q : State → Prop} {S : List PV} {a0 : Nat} {a1 : Nat} {a2 : Int} {a3 : Int} {a4 : Int} {a5 : Int} {a6 : Int} {a7 : Int} {a8 : Int} {a9 : Int} {a10 : Int} {a11 : Int} (C : CX_X2_enterRow G X) (q1 : pR a11 := by first | assumption | (unfold pR; omega)) (q2 : pR 6 := by first | assumption | (unfold pR; omega)) (kt : ¬ a11 = 6 → PW G X 13 Q k n 173 [some (.inr a0), some (.inr a1), some (.inl a2), some (.inl a3), some (.inl a4), some (.inl a5), some (.inl a6), some (.inl a7), some (.inl a8), some (.inl a9), some (.inl a10), some (.inl a11), none] (S) h) (kf : a11 = 6 → PW G X 13 Q k n 153 [some (.inr a0), some (.inr a1), some (.inl a2), some (.inl a3), some (.inl a4), some (.inl a5), some (.inl a6), some (.inl a7), some (.inl a8), some (.inl a9), some (.inl a10), some (.inl a11), none] (S) h) : PW G X 13 Q k n 146 [some (.inr a0), some (.inr a1), some (.inl a2), some (.inl a3), some (.inl a4), some (.inl a5), some (.inl a6), some (.inl a7), some (.inl a8), some (.inl a9), some (.inl a10), some (.inl a11), none] (S) h := by
  refine pw_iload C dX2_enterRow_146 rfl ?_
  refine pw_bipush C dX2_enterRow_148 rfl ?_
  exact pw_icmp_ne C 173 dX2_enterRow_150 (by decide) q1 q2 kt kf
set_option maxRecDepth 20000 in
theorem B_X2_enterRow_153 {G : Gx} {X : Cx} {h : PH} {k n : Nat} {Q : State → Prop} {S : List PV} {a0 : Nat} {a1 : Nat} {a2 : Int} {a3 : Int} {a4 : Int} {a5 : Int} {a6 : Int} {a7 : Int} {a8 : Int} {a9 : Int} {a10 : Int} {a11 : Int} (C : CX_X2_enterRow G X) (q1 : pR a8 := by first | assumption | (unfold pR; omega)) (kt : a8 = 0 → PW G X 13 Q k n 177 [some (.inr a0), some (.inr a1), some (.inl a2), some (.inl a3), some (.inl a4), some (.inl a5), some (.inl a6), some (.inl a7), some (.inl a8), some (.inl a9), some (.inl a10), some (.inl a11), none] (S) h) (kf : ¬ a8 = 0 → PW G X 13 Q k n 158 [some (.inr a0), some (.inr a1), some (.inl a2), some (.inl a3), some (.inl a4), some (.inl a5), some (.inl a6), some (.inl a7), some (.inl a8), some (.inl a9), some (.inl a10), some (.inl a11), none] (S) h) : PW G X 13 Q k n 153 [some (.inr a0), some (.inr a1), some (.inl a2), some (.inl a3), some (.inl a4), some (.inl a5), some (.inl a6), some (.inl a7), some (.inl a8), some (.inl a9), some (.inl a10), some (.inl a11), none] (S) h := by
  refine pw_iload C dX2_enterRow_153 rfl ?_
  exact pw_if_eq C 177 dX2_enterRow_155 (by decide) q1 kt kf
set_option maxRecDepth 20000 in
theorem B_X2_enterRow_158 {G : Gx} {X : Cx} {h : PH} {k n : Nat} {Q : State → Prop} {S : List PV} {a0 : Nat} {a1 : Nat} {a2 : Int} {a3 : Int} {a4 : Int} {a5 : Int} {a6 : Int} {a7 : Int} {a8 : Int} {a9 : Int} {a10 : Int} {a11 : Int} {r2 : Nat} {r5 : Nat} {PQ : Option PV → PH → Prop} (C : CX_X2_enterRow G X) (hk0 : k ≤ 0 := by decide) (hn0 : n ≤ 0 := by decide) (t1 : ph_T h a0 = 2 := by first | assumption | rfl) (e3 : ph_R h a0 0 = r2 := by first | assumption | rfl) (t4 : ph_T h r2 = 5 := by first | assumption | rfl) (e6 : ph_R h r2 2 = r5 := by first | assumption | rfl) (t7 : ph_T h r5 = 3 := by first | assumption | rfl) (hM : CT_X3_isSunHeight G X.2.1 [.inr r5, .inl a11] h PQ) (hS : S.length ≤ 8 := by decide) (kk : ∀ r h', PQ r h' → PW G X 13 Q k n 170 [some (.inr a0), some (.inr a1), some (.inl a2), some (.inl a3), some (.inl a4), some (.inl a5), some (.inl a6), some (.inl a7), some (.inl a8), some (.inl a9), some (.inl a10), some (.inl a11), none] (r.toList ++ S) h') : PW G X 13 Q k n 158 [some (.inr a0), some (.inr a1), some (.inl a2), some (.inl a3), some (.inl a4), some (.inl a5), some (.inl a6), some (.inl a7), some (.inl a8), some (.inl a9), some (.inl a10), some (.inl a11), none] (S) h := by
  refine pw_aload_n C dX2_enterRow_158 rfl ?_
  refine pw_getR C (t := 2) (f := 0) rfl inF2 rfl (by decide) (by decide) rfl kw276 dX2_enterRow_159 t1 ?_
  rw [e3]
  refine pw_getR C (t := 5) (f := 2) rfl inF5 rfl (by decide) (by decide) rfl kw184 dX2_enterRow_162 t4 ?_
  rw [e6]
  refine pw_iload C dX2_enterRow_165 rfl ?_
  exact pw_callV C (na := 1) (As := [.inl a11]) (S := S) hM t7 (by decide) (hcl := by rfl) kw510 kw427 kw428 kw40 kw429 (by decide +kernel) rfl dX2_enterRow_167 (by decide) (by decide) hk0 hn0 (by first | exact hS | (simp only [List.length_cons]; omega)) kk
set_option maxRecDepth 20000 in
theorem B_X2_enterRow_170 {G : Gx} {X : Cx} {h : PH} {k n : Nat} {Q : State → Prop} {S : List PV} {a0 : Nat} {a1 : Nat} {a2 : Int} {a3 : Int} {a4 : Int} {a5 : Int} {a6 : Int} {a7 : Int} {a8 : Int} {a9 : Int} {a10 : Int} {a11 : Int} {s0 : Int} (C : CX_X2_enterRow G X) (q1 : pR s0 := by first | assumption | (unfold pR; omega)) (kt : s0 = 0 → PW G X 13 Q k n 177 [some (.inr a0), some (.inr a1), some (.inl a2), some (.inl a3), some (.inl a4), some (.inl a5), some (.inl a6), some (.inl a7), some (.inl a8), some (.inl a9), some (.inl a10), some (.inl a11), none] (S) h) (kf : ¬ s0 = 0 → PW G X 13 Q k n 173 [some (.inr a0), some (.inr a1), some (.inl a2), some (.inl a3), some (.inl a4), some (.inl a5), some (.inl a6), some (.inl a7), some (.inl a8), some (.inl a9), some (.inl a10), some (.inl a11), none] (S) h) : PW G X 13 Q k n 170 [some (.inr a0), some (.inr a1), some (.inl a2), some (.inl a3), some (.inl a4), some (.inl a5), some (.inl a6), some (.inl a7), some (.inl a8), some (.inl a9), some (.inl a10), some (.inl a11), none] (.inl s0 :: S) h := by
  exact pw_if_eq C 177 dX2_enterRow_170 (by decide) q1 kt kf
set_option maxRecDepth 20000 in
theorem B_X2_enterRow_173 {G : Gx} {X : Cx} {h : PH} {k n : Nat} {Q : State → Prop} {S : List PV} {a0 : Nat} {a1 : Nat} {a2 : Int} {a3 : Int} {a4 : Int} {a5 : Int} {a6 : Int} {a7 : Int} {a8 : Int} {a9 : Int} {a10 : Int} {a11 : Int} (C : CX_X2_enterRow G X) (kk : PW G X 13 Q k n 178 [some (.inr a0), some (.inr a1), some (.inl a2), some (.inl a3), some (.inl a4), some (.inl a5), some (.inl a6), some (.inl a7), some (.inl a8), some (.inl a9), some (.inl a10), some (.inl a11), none] (.inl 1 :: S) h) : PW G X 13 Q k n 173 [some (.inr a0), some (.inr a1), some (.inl a2), some (.inl a3), some (.inl a4), some (.inl a5), some (.inl a6), some (.inl a7), some (.inl a8), some (.inl a9), some (.inl a10), some (.inl a11), none] (S) h := by
  refine pw_iconst C dX2_enterRow_173 ?_
  refine pw_goto C 178 dX2_enterRow_174 (by decide) ?_
  exact kk
set_option maxRecDepth 20000 in
theorem B_X2_enterRow_177 {G : Gx} {X : Cx} {h : PH} {k n : Nat} {Q : State → Prop} {S : List PV} {a0 : Nat} {a1 : Nat} {a2 : Int} {a3 : Int} {a4 : Int} {a5 : Int} {a6 : Int} {a7 : Int} {a8 : Int} {a9 : Int} {a10 : Int} {a11 : Int} (C : CX_X2_enterRow G X) (kk : PW G X 13 Q k n 178 [some (.inr a0), some (.inr a1), some (.inl a2), some (.inl a3), some (.inl a4), some (.inl a5), some (.inl a6), some (.inl a7), some (.inl a8), some (.inl a9), some (.inl a10), some (.inl a11), none] (.inl 0 :: S) h) : PW G X 13 Q k n 177 [some (.inr a0), some (.inr a1), some (.inl a2), some (.inl a3), some (.inl a4), some (.inl a5), some (.inl a6), some (.inl a7), some (.inl a8), some (.inl a9), some (.inl a10), some (.inl a11), none] (S) h := by
  refine pw_iconst C dX2_enterRow_177 ?_
  exact kk
set_option maxRecDepth 20000 in
theorem B_X2_enterRow_178 {G : Gx} {X : Cx} {h : PH} {k n : Nat} {Q : State → Prop} {S : List PV} {a0 : Nat} {a1 : Nat} {a2 : Int} {a3 : Int} {a4 : Int} {a5 : Int} {a6 : Int} {a7 : Int} {a8 : Int} {a9 : Int} {a10 : Int} {a11 : Int} {s0 : Int} (C : CX_X2_enterRow G X) (q1 : pR s0 := by first | assumption | (unfold pR; omega)) (kt : s0 = 0 → PW G X 13 Q k n 196 [some (.inr a0), some (.inr a1), some (.inl a2), some (.inl a3), some (.inl a4), some (.inl a5), some (.inl a6), some (.inl a7), some (.inl a8), some (.inl a9), some (.inl a10), some (.inl a11), some (.inl s0)] (.inl (a10 + a11) :: .inr a1 :: S) h) (kf : ¬ s0 = 0 → PW G X 13 Q k n 191 [some (.inr a0), some (.inr a1), some (.inl a2), some (.inl a3), some (.inl a4), some (.inl a5), some (.inl a6), some (.inl a7), some (.inl a8), some (.inl a9), some (.inl a10), some (.inl a11), some (.inl s0)] (.inl (a10 + a11) :: .inr a1 :: S) h) : PW G X 13 Q k n 178 [some (.inr a0), some (.inr a1), some (.inl a2), some (.inl a3), some (.inl a4), some (.inl a5), some (.inl a6), some (.inl a7), some (.inl a8), some (.inl a9), some (.inl a10), some (.inl a11), none] (.inl s0 :: S) h := by
  refine pw_istore C dX2_enterRow_178 (by decide) ?_
  refine pw_aload_n C dX2_enterRow_180 rfl ?_
  refine pw_iload C dX2_enterRow_181 rfl ?_
  refine pw_iload C dX2_enterRow_183 rfl ?_
  refine pw_iadd C dX2_enterRow_185 ?_
  refine pw_iload C dX2_enterRow_186 rfl ?_
  exact pw_if_eq C 196 dX2_enterRow_188 (by decide) q1 kt kf
set_option maxRecDepth 20000 in
theorem B_X2_enterRow_191 {G : Gx} {X : Cx} {h : PH} {k n : Nat} {Q : State → Prop} {S : List PV} {a0 : Nat} {a1 : Nat} {a2 : Int} {a3 : Int} {a4 : Int} {a5 : Int} {a6 : Int} {a7 : Int} {a8 : Int} {a9 : Int} {a10 : Int} {a11 : Int} {a12 : Int} {s0 : Int} {s1 : Nat} (C : CX_X2_enterRow G X) (kk : PW G X 13 Q k n 206 [some (.inr a0), some (.inr a1), some (.inl a2), some (.inl a3), some (.inl a4), some (.inl a5), some (.inl a6), some (.inl a7), some (.inl a8), some (.inl a9), some (.inl a10), some (.inl a11), some (.inl a12)] (.inl (-1000000) :: .inl s0 :: .inr s1 :: S) h) : PW G X 13 Q k n 191 [some (.inr a0), some (.inr a1), some (.inl a2), some (.inl a3), some (.inl a4), some (.inl a5), some (.inl a6), some (.inl a7), some (.inl a8), some (.inl a9), some (.inl a10), some (.inl a11), some (.inl a12)] (.inl s0 :: .inr s1 :: S) h := by
  refine pw_ldc C (z := -1000000) kw479 rfl dX2_enterRow_191 ?_
  refine pw_goto C 206 dX2_enterRow_193 (by decide) ?_
  exact kk
set_option maxRecDepth 20000 in
theorem B_X2_enterRow_196 {G : Gx} {X : Cx} {h : PH} {k n : Nat} {Q : State → Prop} {S : List PV} {a0 : Nat} {a1 : Nat} {a2 : Int} {a3 : Int} {a4 : Int} {a5 : Int} {a6 : Int} {a7 : Int} {a8 : Int} {a9 : Int} {a10 : Int} {a11 : Int} {a12 : Int} {s0 : Int} {s1 : Nat} {r2 : Nat} {x8 : Int} (C : CX_X2_enterRow G X) (t1 : ph_T h a0 = 2 := by first | assumption | rfl) (e3 : ph_R h a0 4 = r2 := by first | assumption | rfl) (t4 : ph_T h r2 = 8 := by first | assumption | rfl) (q5 : (0 : Int) ≤ a9 + a11 := by first | assumption | omega) (q6 : a9 + a11 < (ph_L h r2 : Int) := by first | assumption | omega) (q7 : pR (a9 + a11) := by first | assumption | (unfold pR; omega)) (e9 : ph_I h r2 (Int.toNat (a9 + a11)) = x8 := by first | assumption | rfl) (kk : PW G X 13 Q k n 206 [some (.inr a0), some (.inr a1), some (.inl a2), some (.inl a3), some (.inl a4), some (.inl a5), some (.inl a6), some (.inl a7), some (.inl a8), some (.inl a9), some (.inl a10), some (.inl a11), some (.inl a12)] (.inl x8 :: .inl s0 :: .inr s1 :: S) h) : PW G X 13 Q k n 196 [some (.inr a0), some (.inr a1), some (.inl a2), some (.inl a3), some (.inl a4), some (.inl a5), some (.inl a6), some (.inl a7), some (.inl a8), some (.inl a9), some (.inl a10), some (.inl a11), some (.inl a12)] (.inl s0 :: .inr s1 :: S) h := by
  refine pw_aload_n C dX2_enterRow_196 rfl ?_
  refine pw_getR C (t := 2) (f := 4) rfl inF2 rfl (by decide) (by decide) rfl kw280 dX2_enterRow_197 t1 ?_
  rw [e3]
  refine pw_iload C dX2_enterRow_200 rfl ?_
  refine pw_iload C dX2_enterRow_202 rfl ?_
  refine pw_iadd C dX2_enterRow_204 ?_
  refine pw_iald C dX2_enterRow_205 t4 q5 q6 q7 ?_
  rw [e9]
  exact kk
set_option maxRecDepth 20000 in
theorem B_X2_enterRow_206 {G : Gx} {X : Cx} {h : PH} {k n : Nat} {Q : State → Prop} {S : List PV} {a0 : Nat} {a1 : Nat} {a2 : Int} {a3 : Int} {a4 : Int} {a5 : Int} {a6 : Int} {a7 : Int} {a8 : Int} {a9 : Int} {a10 : Int} {a11 : Int} {a12 : Int} {s0 : Int} {s1 : Int} {s2 : Nat} (C : CX_X2_enterRow G X) (t1 : ph_T h s2 = 8 := by first | assumption | rfl) (q2 : (0 : Int) ≤ s1 := by first | assumption | omega) (q3 : s1 < (ph_L h s2 : Int) := by first | assumption | omega) (q4 : pR s1 := by first | assumption | (unfold pR; omega)) (kk : PW G X 13 Q k n 118 [some (.inr a0), some (.inr a1), some (.inl a2), some (.inl a3), some (.inl a4), some (.inl a5), some (.inl a6), some (.inl a7), some (.inl a8), some (.inl a9), some (.inl a10), some (.inl (a11 + 1)), none] (S) (ph_setI h s2 (Int.toNat s1) s0)) : PW G X 13 Q k n 206 [some (.inr a0), some (.inr a1), some (.inl a2), some (.inl a3), some (.inl a4), some (.inl a5), some (.inl a6), some (.inl a7), some (.inl a8), some (.inl a9), some (.inl a10), some (.inl a11), some (.inl a12)] (.inl s0 :: .inl s1 :: .inr s2 :: S) h := by
  refine pw_iast C dX2_enterRow_206 t1 q2 q3 q4 ?_
  refine pw_iinc C dX2_enterRow_207 rfl (by decide) ?_
  refine pw_goto C 118 dX2_enterRow_210 (by decide) ?_
  exact pw_weak [true, true, true, true, true, true, true, true, true, true, true, true, false] kk
set_option maxRecDepth 20000 in
theorem B_X2_enterRow_213 {G : Gx} {X : Cx} {h : PH} {k n : Nat} {Q : State → Prop} {S : List PV} {a0 : Nat} {a1 : Nat} {a2 : Int} {a3 : Int} {a4 : Int} {a5 : Int} {a6 : Int} {a7 : Int} {a8 : Int} {a9 : Int} {a10 : Int} {a11 : Int} (C : CX_X2_enterRow G X) (kk : PW G X 13 Q k n 51 [some (.inr a0), some (.inr a1), some (.inl a2), some (.inl a3), some (.inl a4), some (.inl a5), some (.inl a6), some (.inl (a7 + 1)), none, none, none, none, none] (S) h) : PW G X 13 Q k n 213 [some (.inr a0), some (.inr a1), some (.inl a2), some (.inl a3), some (.inl a4), some (.inl a5), some (.inl a6), some (.inl a7), some (.inl a8), some (.inl a9), some (.inl a10), some (.inl a11), none] (S) h := by
  refine pw_iinc C dX2_enterRow_213 rfl (by decide) ?_
  refine pw_goto C 51 dX2_enterRow_216 (by decide) ?_
  exact pw_weak [true, true, true, true, true, true, true, true, false, false, false, false, true] kk
set_option maxRecDepth 20000 in
theorem B_X2_enterRow_219 {G : Gx} {X : Cx} {h : PH} {k n : Nat} {a0 : Nat} {a1 : Nat} {a2 : Int} {a3 : Int} {a4 : Int} {a5 : Int} {a6 : Int} {a7 : Int} {PQ : Option PV → PH → Prop} (C : CX_X2_enterRow G X) (hq : PQ none h) : PW G X 13 (pw_E G X PQ k n) k n 219 [some (.inr a0), some (.inr a1), some (.inl a2), some (.inl a3), some (.inl a4), some (.inl a5), some (.inl a6), some (.inl a7), none, none, none, none, none] [] h := by
  exact pw_vreturn C dX2_enterRow_219 hq
theorem dX2_aimAt_0 : decode cX2_aimAt 0 = .ok (.aload_n 0, 1) := by decide +kernel
theorem dX2_aimAt_1 : decode cX2_aimAt 1 = .ok (.getfield 51, 3) := by decide +kernel
theorem dX2_aimAt_4 : decode cX2_aimAt 4 = .ok (.getfield 74, 3) := by decide +kernel
theorem dX2_aimAt_7 : decode cX2_aimAt 7 = .ok (.iload_n 1, 1) := by decide +kernel
theorem dX2_aimAt_8 : decode cX2_aimAt 8 = .ok (.iadd, 1) := by decide +kernel
theorem dX2_aimAt_9 : decode cX2_aimAt 9 = .ok (.istore_n 2, 1) := by decide +kernel
theorem dX2_aimAt_10 : decode cX2_aimAt 10 = .ok (.aload_n 0, 1) := by decide +kernel
theorem dX2_aimAt_11 : decode cX2_aimAt 11 = .ok (.iload_n 1, 1) := by decide +kernel
theorem dX2_aimAt_12 : decode cX2_aimAt 12 = .ok (.invokevirtual 176, 3) := by decide +kernel
theorem dX2_aimAt_15 : decode cX2_aimAt 15 = .ok (.istore_n 3, 1) := by decide +kernel
theorem dX2_aimAt_16 : decode cX2_aimAt 16 = .ok (.aload_n 0, 1) := by decide +kernel
theorem dX2_aimAt_17 : decode cX2_aimAt 17 = .ok (.bipush (-6), 2) := by decide +kernel
theorem dX2_aimAt_19 : decode cX2_aimAt 19 = .ok (.putfield 35, 3) := by decide +kernel
theorem dX2_aimAt_22 : decode cX2_aimAt 22 = .ok (.aload_n 0, 1) := by decide +kernel
theorem dX2_aimAt_23 : decode cX2_aimAt 23 = .ok (.bipush (-6), 2) := by decide +kernel
theorem dX2_aimAt_25 : decode cX2_aimAt 25 = .ok (.putfield 38, 3) := by decide +kernel
theorem dX2_aimAt_28 : decode cX2_aimAt 28 = .ok (.iload_n 3, 1) := by decide +kernel
theorem dX2_aimAt_29 : decode cX2_aimAt 29 = .ok (.ifCond .lt 83, 3) := by decide +kernel
theorem dX2_aimAt_32 : decode cX2_aimAt 32 = .ok (.aload_n 0, 1) := by decide +kernel
theorem dX2_aimAt_33 : decode cX2_aimAt 33 = .ok (.getfield 59, 3) := by decide +kernel
theorem dX2_aimAt_36 : decode cX2_aimAt 36 = .ok (.getfield 225, 3) := by decide +kernel
theorem dX2_aimAt_39 : decode cX2_aimAt 39 = .ok (.iload_n 3, 1) := by decide +kernel
theorem dX2_aimAt_40 : decode cX2_aimAt 40 = .ok (.iaload, 1) := by decide +kernel
theorem dX2_aimAt_41 : decode cX2_aimAt 41 = .ok (.aload_n 0, 1) := by decide +kernel
theorem dX2_aimAt_42 : decode cX2_aimAt 42 = .ok (.getfield 41, 3) := by decide +kernel
theorem dX2_aimAt_45 : decode cX2_aimAt 45 = .ok (.getfield 206, 3) := by decide +kernel
theorem dX2_aimAt_48 : decode cX2_aimAt 48 = .ok (.getfield 228, 3) := by decide +kernel
theorem dX2_aimAt_51 : decode cX2_aimAt 51 = .ok (.if_icmp .gt 61, 3) := by decide +kernel
theorem dX2_aimAt_54 : decode cX2_aimAt 54 = .ok (.aload_n 0, 1) := by decide +kernel
theorem dX2_aimAt_55 : decode cX2_aimAt 55 = .ok (.getfield 41, 3) := by decide +kernel
theorem dX2_aimAt_58 : decode cX2_aimAt 58 = .ok (.getfield 206, 3) := by decide +kernel
theorem dX2_aimAt_61 : decode cX2_aimAt 61 = .ok (.aload_n 0, 1) := by decide +kernel
theorem dX2_aimAt_62 : decode cX2_aimAt 62 = .ok (.getfield 59, 3) := by decide +kernel
theorem dX2_aimAt_65 : decode cX2_aimAt 65 = .ok (.getfield 231, 3) := by decide +kernel
theorem dX2_aimAt_68 : decode cX2_aimAt 68 = .ok (.iload_n 3, 1) := by decide +kernel
theorem dX2_aimAt_69 : decode cX2_aimAt 69 = .ok (.iaload, 1) := by decide +kernel
theorem dX2_aimAt_70 : decode cX2_aimAt 70 = .ok (.aload_n 0, 1) := by decide +kernel
theorem dX2_aimAt_71 : decode cX2_aimAt 71 = .ok (.getfield 59, 3) := by decide +kernel
theorem dX2_aimAt_74 : decode cX2_aimAt 74 = .ok (.getfield 225, 3) := by decide +kernel
theorem dX2_aimAt_77 : decode cX2_aimAt 77 = .ok (.iload_n 3, 1) := by decide +kernel
theorem dX2_aimAt_78 : decode cX2_aimAt 78 = .ok (.iaload, 1) := by decide +kernel
theorem dX2_aimAt_79 : decode cX2_aimAt 79 = .ok (.iload_n 2, 1) := by decide +kernel
theorem dX2_aimAt_80 : decode cX2_aimAt 80 = .ok (.invokevirtual 234, 3) := by decide +kernel
theorem dX2_aimAt_83 : decode cX2_aimAt 83 = .ok (.ifCond .ne 29, 3) := by decide +kernel
theorem dX2_aimAt_86 : decode cX2_aimAt 86 = .ok (.aload_n 0, 1) := by decide +kernel
theorem dX2_aimAt_87 : decode cX2_aimAt 87 = .ok (.aload_n 0, 1) := by decide +kernel
theorem dX2_aimAt_88 : decode cX2_aimAt 88 = .ok (.getfield 59, 3) := by decide +kernel
theorem dX2_aimAt_91 : decode cX2_aimAt 91 = .ok (.getfield 231, 3) := by decide +kernel
theorem dX2_aimAt_94 : decode cX2_aimAt 94 = .ok (.iload_n 3, 1) := by decide +kernel
theorem dX2_aimAt_95 : decode cX2_aimAt 95 = .ok (.iaload, 1) := by decide +kernel
theorem dX2_aimAt_96 : decode cX2_aimAt 96 = .ok (.putfield 35, 3) := by decide +kernel
theorem dX2_aimAt_99 : decode cX2_aimAt 99 = .ok (.aload_n 0, 1) := by decide +kernel
theorem dX2_aimAt_100 : decode cX2_aimAt 100 = .ok (.aload_n 0, 1) := by decide +kernel
theorem dX2_aimAt_101 : decode cX2_aimAt 101 = .ok (.getfield 59, 3) := by decide +kernel
theorem dX2_aimAt_104 : decode cX2_aimAt 104 = .ok (.getfield 225, 3) := by decide +kernel
theorem dX2_aimAt_107 : decode cX2_aimAt 107 = .ok (.iload_n 3, 1) := by decide +kernel
theorem dX2_aimAt_108 : decode cX2_aimAt 108 = .ok (.iaload, 1) := by decide +kernel
theorem dX2_aimAt_109 : decode cX2_aimAt 109 = .ok (.putfield 38, 3) := by decide +kernel
theorem dX2_aimAt_112 : decode cX2_aimAt 112 = .ok (.return_, 1) := by decide +kernel
set_option maxRecDepth 20000 in
theorem B_X2_aimAt_0 {G : Gx} {X : Cx} {h : PH} {k n : Nat} {Q : State → Prop} {S : List PV} {a0 : Nat} {a1 : Int} {r2 : Nat} {x5 : Int} {PQ : Option PV → PH → Prop} (C : CX_X2_aimAt G X) (hk0 : k ≤ 0 := by decide) (hn0 : n ≤ 0 := by decide) (t1 : ph_T h a0 = 2 := by first | assumption | rfl) (e3 : ph_R h a0 6 = r2 := by first | assumption | rfl) (t4 : ph_T h r2 = 1 := by first | assumption | rfl) (e6 : ph_I h r2 2 = x5 := by first | assumption | rfl) (t7 : ph_T h a0 = 2 := by first | assumption | rfl) (hM : CT_X2_pointOf G X.2.1 [.inr a0, .inl a1] h PQ) (hS : S.length ≤ 8 := by decide) (kk : ∀ r h', PQ r h' → PW G X 4 Q k n 15 [some (.inr a0), some (.inl a1), some (.inl (x5 + a1)), none] (r.toList ++ S) h') : PW G X 4 Q k n 0 [some (.inr a0), some (.inl a1), none, none] (S) h := by
  refine pw_aload_n C dX2_aimAt_0 rfl ?_
  refine pw_getR C (t := 2) (f := 6) rfl inF2 rfl (by decide) (by decide) rfl kw282 dX2_aimAt_1 t1 ?_
  rw [e3]
  refine pw_getI C (t := 1) (f := 2) rfl inF1 rfl (by decide) (by decide) rfl kw157 dX2_aimAt_4 t4 ?_
  rw [e6]
  refine pw_iload_n C dX2_aimAt_7 rfl ?_
  refine pw_iadd C dX2_aimAt_8 ?_
  refine pw_istore_n C dX2_aimAt_9 (by decide) ?_
  refine pw_aload_n C dX2_aimAt_10 rfl ?_
  refine pw_iload_n C dX2_aimAt_11 rfl ?_
  exact pw_callV C (na := 1) (As := [.inl a1]) (S := S) hM t7 (by decide) (hcl := by rfl) kw515 kw517 kw8 kw43 kw518 (by decide +kernel) rfl dX2_aimAt_12 (by decide) (by decide) hk0 hn0 (by first | exact hS | (simp only [List.length_cons]; omega)) kk
set_option maxRecDepth 20000 in
theorem B_X2_aimAt_15 {G : Gx} {X : Cx} {h : PH} {k n : Nat} {Q : State → Prop} {S : List PV} {a0 : Nat} {a1 : Int} {a2 : Int} {s0 : Int} (C : CX_X2_aimAt G X) (t1 : ph_T h a0 = 2 := by first | assumption | rfl) (t2 : ph_T h a0 = 2 := by first | assumption | rfl) (q3 : pR s0 := by first | assumption | (unfold pR; omega)) (kt : s0 < 0 → PW G X 4 Q k n 112 [some (.inr a0), some (.inl a1), some (.inl a2), some (.inl s0)] (S) (ph_setI (ph_setI h a0 9 (-6)) a0 10 (-6))) (kf : ¬ s0 < 0 → PW G X 4 Q k n 32 [some (.inr a0), some (.inl a1), some (.inl a2), some (.inl s0)] (S) (ph_setI (ph_setI h a0 9 (-6)) a0 10 (-6))) : PW G X 4 Q k n 15 [some (.inr a0), some (.inl a1), some (.inl a2), none] (.inl s0 :: S) h := by
  refine pw_istore_n C dX2_aimAt_15 (by decide) ?_
  refine pw_aload_n C dX2_aimAt_16 rfl ?_
  refine pw_bipush C dX2_aimAt_17 rfl ?_
  refine pw_putI C (t := 2) (f := 9) rfl inF2 tyX2_ok nmX2 rfl (by decide) (by decide) rfl (Or.inl rfl) (Or.inl rfl) kw285 dX2_aimAt_19 t1 ?_
  refine pw_aload_n C dX2_aimAt_22 rfl ?_
  refine pw_bipush C dX2_aimAt_23 rfl ?_
  refine pw_putI C (t := 2) (f := 10) rfl inF2 tyX2_ok nmX2 rfl (by decide) (by decide) rfl (Or.inl rfl) (Or.inl rfl) kw286 dX2_aimAt_25 t2 ?_
  refine pw_iload_n C dX2_aimAt_28 rfl ?_
  exact pw_if_lt C 112 dX2_aimAt_29 (by decide) q3 kt kf
set_option maxRecDepth 20000 in
theorem B_X2_aimAt_32 {G : Gx} {X : Cx} {h : PH} {k n : Nat} {Q : State → Prop} {S : List PV} {a0 : Nat} {a1 : Int} {a2 : Int} {a3 : Int} {r2 : Nat} {r5 : Nat} {x11 : Int} {r14 : Nat} {r17 : Nat} {x20 : Int} (C : CX_X2_aimAt G X) (t1 : ph_T h a0 = 2 := by first | assumption | rfl) (e3 : ph_R h a0 7 = r2 := by first | assumption | rfl) (t4 : ph_T h r2 = 0 := by first | assumption | rfl) (e6 : ph_R h r2 1 = r5 := by first | assumption | rfl) (t7 : ph_T h r5 = 8 := by first | assumption | rfl) (q8 : (0 : Int) ≤ a3 := by first | assumption | omega) (q9 : a3 < (ph_L h r5 : Int) := by first | assumption | omega) (q10 : pR a3 := by first | assumption | (unfold pR; omega)) (e12 : ph_I h r5 (Int.toNat a3) = x11 := by first | assumption | rfl) (t13 : ph_T h a0 = 2 := by first | assumption | rfl) (e15 : ph_R h a0 0 = r14 := by first | assumption | rfl) (t16 : ph_T h r14 = 5 := by first | assumption | rfl) (e18 : ph_R h r14 2 = r17 := by first | assumption | rfl) (t19 : ph_T h r17 = 3 := by first | assumption | rfl) (e21 : ph_I h r17 6 = x20 := by first | assumption | rfl) (q22 : pR x11 := by first | assumption | (unfold pR; omega)) (q23 : pR x20 := by first | assumption | (unfold pR; omega)) (kt : x20 < x11 → PW G X 4 Q k n 112 [some (.inr a0), some (.inl a1), some (.inl a2), some (.inl a3)] (S) h) (kf : ¬ x20 < x11 → PW G X 4 Q k n 54 [some (.inr a0), some (.inl a1), some (.inl a2), some (.inl a3)] (S) h) : PW G X 4 Q k n 32 [some (.inr a0), some (.inl a1), some (.inl a2), some (.inl a3)] (S) h := by
  refine pw_aload_n C dX2_aimAt_32 rfl ?_
  refine pw_getR C (t := 2) (f := 7) rfl inF2 rfl (by decide) (by decide) rfl kw283 dX2_aimAt_33 t1 ?_
  rw [e3]
  refine pw_getR C (t := 0) (f := 1) rfl inF0 rfl (by decide) (by decide) rfl kw111 dX2_aimAt_36 t4 ?_
  rw [e6]
  refine pw_iload_n C dX2_aimAt_39 rfl ?_
  refine pw_iald C dX2_aimAt_40 t7 q8 q9 q10 ?_
  rw [e12]
  refine pw_aload_n C dX2_aimAt_41 rfl ?_
  refine pw_getR C (t := 2) (f := 0) rfl inF2 rfl (by decide) (by decide) rfl kw276 dX2_aimAt_42 t13 ?_
  rw [e15]
  refine pw_getR C (t := 5) (f := 2) rfl inF5 rfl (by decide) (by decide) rfl kw184 dX2_aimAt_45 t16 ?_
  rw [e18]
  refine pw_getI C (t := 3) (f := 6) rfl inF3 rfl (by decide) (by decide) rfl kw86 dX2_aimAt_48 t19 ?_
  rw [e21]
  exact pw_icmp_gt C 112 dX2_aimAt_51 (by decide) q22 q23 kt kf
set_option maxRecDepth 20000 in
theorem B_X2_aimAt_54 {G : Gx} {X : Cx} {h : PH} {k n : Nat} {Q : State → Prop} {S : List PV} {a0 : Nat} {a1 : Int} {a2 : Int} {a3 : Int} {r2 : Nat} {r5 : Nat} {r8 : Nat} {r11 : Nat} {x17 : Int} {r20 : Nat} {r23 : Nat} {x29 : Int} {PQ : Option PV → PH → Prop} (C : CX_X2_aimAt G X) (hk0 : k ≤ 0 := by decide) (hn0 : n ≤ 0 := by decide) (t1 : ph_T h a0 = 2 := by first | assumption | rfl) (e3 : ph_R h a0 0 = r2 := by first | assumption | rfl) (t4 : ph_T h r2 = 5 := by first | assumption | rfl) (e6 : ph_R h r2 2 = r5 := by first | assumption | rfl) (t7 : ph_T h a0 = 2 := by first | assumption | rfl) (e9 : ph_R h a0 7 = r8 := by first | assumption | rfl) (t10 : ph_T h r8 = 0 := by first | assumption | rfl) (e12 : ph_R h r8 0 = r11 := by first | assumption | rfl) (t13 : ph_T h r11 = 8 := by first | assumption | rfl) (q14 : (0 : Int) ≤ a3 := by first | assumption | omega) (q15 : a3 < (ph_L h r11 : Int) := by first | assumption | omega) (q16 : pR a3 := by first | assumption | (unfold pR; omega)) (e18 : ph_I h r11 (Int.toNat a3) = x17 := by first | assumption | rfl) (t19 : ph_T h a0 = 2 := by first | assumption | rfl) (e21 : ph_R h a0 7 = r20 := by first | assumption | rfl) (t22 : ph_T h r20 = 0 := by first | assumption | rfl) (e24 : ph_R h r20 1 = r23 := by first | assumption | rfl) (t25 : ph_T h r23 = 8 := by first | assumption | rfl) (q26 : (0 : Int) ≤ a3 := by first | assumption | omega) (q27 : a3 < (ph_L h r23 : Int) := by first | assumption | omega) (q28 : pR a3 := by first | assumption | (unfold pR; omega)) (e30 : ph_I h r23 (Int.toNat a3) = x29 := by first | assumption | rfl) (t31 : ph_T h r5 = 3 := by first | assumption | rfl) (hM : CT_X3_isBurnt G X.2.1 [.inr r5, .inl x17, .inl x29, .inl a2] h PQ) (hS : S.length ≤ 8 := by decide) (kk : ∀ r h', PQ r h' → PW G X 4 Q k n 83 [some (.inr a0), some (.inl a1), some (.inl a2), some (.inl a3)] (r.toList ++ S) h') : PW G X 4 Q k n 54 [some (.inr a0), some (.inl a1), some (.inl a2), some (.inl a3)] (S) h := by
  refine pw_aload_n C dX2_aimAt_54 rfl ?_
  refine pw_getR C (t := 2) (f := 0) rfl inF2 rfl (by decide) (by decide) rfl kw276 dX2_aimAt_55 t1 ?_
  rw [e3]
  refine pw_getR C (t := 5) (f := 2) rfl inF5 rfl (by decide) (by decide) rfl kw184 dX2_aimAt_58 t4 ?_
  rw [e6]
  refine pw_aload_n C dX2_aimAt_61 rfl ?_
  refine pw_getR C (t := 2) (f := 7) rfl inF2 rfl (by decide) (by decide) rfl kw283 dX2_aimAt_62 t7 ?_
  rw [e9]
  refine pw_getR C (t := 0) (f := 0) rfl inF0 rfl (by decide) (by decide) rfl kw108 dX2_aimAt_65 t10 ?_
  rw [e12]
  refine pw_iload_n C dX2_aimAt_68 rfl ?_
  refine pw_iald C dX2_aimAt_69 t13 q14 q15 q16 ?_
  rw [e18]
  refine pw_aload_n C dX2_aimAt_70 rfl ?_
  refine pw_getR C (t := 2) (f := 7) rfl inF2 rfl (by decide) (by decide) rfl kw283 dX2_aimAt_71 t19 ?_
  rw [e21]
  refine pw_getR C (t := 0) (f := 1) rfl inF0 rfl (by decide) (by decide) rfl kw111 dX2_aimAt_74 t22 ?_
  rw [e24]
  refine pw_iload_n C dX2_aimAt_77 rfl ?_
  refine pw_iald C dX2_aimAt_78 t25 q26 q27 q28 ?_
  rw [e30]
  refine pw_iload_n C dX2_aimAt_79 rfl ?_
  exact pw_callV C (na := 3) (As := [.inl x17, .inl x29, .inl a2]) (S := S) hM t31 (by decide) (hcl := by rfl) kw520 kw413 kw414 kw40 kw415 (by decide +kernel) rfl dX2_aimAt_80 (by decide) (by decide) hk0 hn0 (by first | exact hS | (simp only [List.length_cons]; omega)) kk
set_option maxRecDepth 20000 in
theorem B_X2_aimAt_83 {G : Gx} {X : Cx} {h : PH} {k n : Nat} {Q : State → Prop} {S : List PV} {a0 : Nat} {a1 : Int} {a2 : Int} {a3 : Int} {s0 : Int} (C : CX_X2_aimAt G X) (q1 : pR s0 := by first | assumption | (unfold pR; omega)) (kt : ¬ s0 = 0 → PW G X 4 Q k n 112 [some (.inr a0), some (.inl a1), some (.inl a2), some (.inl a3)] (S) h) (kf : s0 = 0 → PW G X 4 Q k n 86 [some (.inr a0), some (.inl a1), some (.inl a2), some (.inl a3)] (S) h) : PW G X 4 Q k n 83 [some (.inr a0), some (.inl a1), some (.inl a2), some (.inl a3)] (.inl s0 :: S) h := by
  exact pw_if_ne C 112 dX2_aimAt_83 (by decide) q1 kt kf
set_option maxRecDepth 20000 in
theorem B_X2_aimAt_86 {G : Gx} {X : Cx} {h : PH} {k n : Nat} {Q : State → Prop} {S : List PV} {a0 : Nat} {a1 : Int} {a2 : Int} {a3 : Int} {r2 : Nat} {r5 : Nat} {x11 : Int} {r15 : Nat} {r18 : Nat} {x24 : Int} (C : CX_X2_aimAt G X) (t1 : ph_T h a0 = 2 := by first | assumption | rfl) (e3 : ph_R h a0 7 = r2 := by first | assumption | rfl) (t4 : ph_T h r2 = 0 := by first | assumption | rfl) (e6 : ph_R h r2 0 = r5 := by first | assumption | rfl) (t7 : ph_T h r5 = 8 := by first | assumption | rfl) (q8 : (0 : Int) ≤ a3 := by first | assumption | omega) (q9 : a3 < (ph_L h r5 : Int) := by first | assumption | omega) (q10 : pR a3 := by first | assumption | (unfold pR; omega)) (e12 : ph_I h r5 (Int.toNat a3) = x11 := by first | assumption | rfl) (t13 : ph_T h a0 = 2 := by first | assumption | rfl) (t14 : ph_T h a0 = 2 := by first | assumption | rfl) (e16 : ph_R h a0 7 = r15 := by first | assumption | rfl) (t17 : ph_T h r15 = 0 := by first | assumption | rfl) (e19 : ph_R h r15 1 = r18 := by first | assumption | rfl) (t20 : ph_T h r18 = 8 := by first | assumption | rfl) (q21 : (0 : Int) ≤ a3 := by first | assumption | omega) (q22 : a3 < (ph_L h r18 : Int) := by first | assumption | omega) (q23 : pR a3 := by first | assumption | (unfold pR; omega)) (e25 : ph_I (ph_setI h a0 9 x11) r18 (Int.toNat a3) = x24 := by first | assumption | rfl) (t26 : ph_T h a0 = 2 := by first | assumption | rfl) (kk : PW G X 4 Q k n 112 [some (.inr a0), some (.inl a1), some (.inl a2), some (.inl a3)] (S) (ph_setI (ph_setI h a0 9 x11) a0 10 x24)) : PW G X 4 Q k n 86 [some (.inr a0), some (.inl a1), some (.inl a2), some (.inl a3)] (S) h := by
  refine pw_aload_n C dX2_aimAt_86 rfl ?_
  refine pw_aload_n C dX2_aimAt_87 rfl ?_
  refine pw_getR C (t := 2) (f := 7) rfl inF2 rfl (by decide) (by decide) rfl kw283 dX2_aimAt_88 t1 ?_
  rw [e3]
  refine pw_getR C (t := 0) (f := 0) rfl inF0 rfl (by decide) (by decide) rfl kw108 dX2_aimAt_91 t4 ?_
  rw [e6]
  refine pw_iload_n C dX2_aimAt_94 rfl ?_
  refine pw_iald C dX2_aimAt_95 t7 q8 q9 q10 ?_
  rw [e12]
  refine pw_putI C (t := 2) (f := 9) rfl inF2 tyX2_ok nmX2 rfl (by decide) (by decide) rfl (Or.inl rfl) (Or.inl rfl) kw285 dX2_aimAt_96 t13 ?_
  refine pw_aload_n C dX2_aimAt_99 rfl ?_
  refine pw_aload_n C dX2_aimAt_100 rfl ?_
  refine pw_getR C (t := 2) (f := 7) rfl inF2 rfl (by decide) (by decide) rfl kw283 dX2_aimAt_101 t14 ?_
  rw [show ph_R (ph_setI h a0 9 x11) a0 7 = r15 from e16]
  refine pw_getR C (t := 0) (f := 1) rfl inF0 rfl (by decide) (by decide) rfl kw111 dX2_aimAt_104 t17 ?_
  rw [show ph_R (ph_setI h a0 9 x11) r15 1 = r18 from e19]
  refine pw_iload_n C dX2_aimAt_107 rfl ?_
  refine pw_iald C dX2_aimAt_108 t20 q21 q22 q23 ?_
  rw [show ph_I (ph_setI h a0 9 x11) r18 (Int.toNat a3) = x24 from e25]
  refine pw_putI C (t := 2) (f := 10) rfl inF2 tyX2_ok nmX2 rfl (by decide) (by decide) rfl (Or.inl rfl) (Or.inl rfl) kw286 dX2_aimAt_109 t26 ?_
  exact kk
set_option maxRecDepth 20000 in
theorem B_X2_aimAt_112 {G : Gx} {X : Cx} {h : PH} {k n : Nat} {a0 : Nat} {a1 : Int} {a2 : Int} {a3 : Int} {PQ : Option PV → PH → Prop} (C : CX_X2_aimAt G X) (hq : PQ none h) : PW G X 4 (pw_E G X PQ k n) k n 112 [some (.inr a0), some (.inl a1), some (.inl a2), some (.inl a3)] [] h := by
  exact pw_vreturn C dX2_aimAt_112 hq
theorem dX2_addGain_0 : decode cX2_addGain 0 = .ok (.aload_n 0, 1) := by decide +kernel
theorem dX2_addGain_1 : decode cX2_addGain 1 = .ok (.getfield 38, 3) := by decide +kernel
theorem dX2_addGain_4 : decode cX2_addGain 4 = .ok (.invokestatic 238, 3) := by decide +kernel
theorem dX2_addGain_7 : decode cX2_addGain 7 = .ok (.ifCond .ne 4, 3) := by decide +kernel
theorem dX2_addGain_10 : decode cX2_addGain 10 = .ok (.return_, 1) := by decide +kernel
theorem dX2_addGain_11 : decode cX2_addGain 11 = .ok (.aload_n 0, 1) := by decide +kernel
theorem dX2_addGain_12 : decode cX2_addGain 12 = .ok (.iload_n 3, 1) := by decide +kernel
theorem dX2_addGain_13 : decode cX2_addGain 13 = .ok (.invokevirtual 160, 3) := by decide +kernel
theorem dX2_addGain_16 : decode cX2_addGain 16 = .ok (.istore 4, 2) := by decide +kernel
theorem dX2_addGain_18 : decode cX2_addGain 18 = .ok (.aload_n 0, 1) := by decide +kernel
theorem dX2_addGain_19 : decode cX2_addGain 19 = .ok (.iload_n 3, 1) := by decide +kernel
theorem dX2_addGain_20 : decode cX2_addGain 20 = .ok (.invokevirtual 167, 3) := by decide +kernel
theorem dX2_addGain_23 : decode cX2_addGain 23 = .ok (.istore 5, 2) := by decide +kernel
theorem dX2_addGain_25 : decode cX2_addGain 25 = .ok (.iload 5, 2) := by decide +kernel
theorem dX2_addGain_27 : decode cX2_addGain 27 = .ok (.iload 4, 2) := by decide +kernel
theorem dX2_addGain_29 : decode cX2_addGain 29 = .ok (.if_icmp .gt 50, 3) := by decide +kernel
theorem dX2_addGain_32 : decode cX2_addGain 32 = .ok (.iload_n 2, 1) := by decide +kernel
theorem dX2_addGain_33 : decode cX2_addGain 33 = .ok (.iload 5, 2) := by decide +kernel
theorem dX2_addGain_35 : decode cX2_addGain 35 = .ok (.bipush 7, 2) := by decide +kernel
theorem dX2_addGain_37 : decode cX2_addGain 37 = .ok (.imul, 1) := by decide +kernel
theorem dX2_addGain_38 : decode cX2_addGain 38 = .ok (.iadd, 1) := by decide +kernel
theorem dX2_addGain_39 : decode cX2_addGain 39 = .ok (.aload_n 0, 1) := by decide +kernel
theorem dX2_addGain_40 : decode cX2_addGain 40 = .ok (.getfield 38, 3) := by decide +kernel
theorem dX2_addGain_43 : decode cX2_addGain 43 = .ok (.iadd, 1) := by decide +kernel
theorem dX2_addGain_44 : decode cX2_addGain 44 = .ok (.istore 6, 2) := by decide +kernel
theorem dX2_addGain_46 : decode cX2_addGain 46 = .ok (.aload_n 1, 1) := by decide +kernel
theorem dX2_addGain_47 : decode cX2_addGain 47 = .ok (.iload 6, 2) := by decide +kernel
theorem dX2_addGain_49 : decode cX2_addGain 49 = .ok (.iaload, 1) := by decide +kernel
theorem dX2_addGain_50 : decode cX2_addGain 50 = .ok (.invokestatic 139, 3) := by decide +kernel
theorem dX2_addGain_53 : decode cX2_addGain 53 = .ok (.ifCond .ne 20, 3) := by decide +kernel
theorem dX2_addGain_56 : decode cX2_addGain 56 = .ok (.aload_n 1, 1) := by decide +kernel
theorem dX2_addGain_57 : decode cX2_addGain 57 = .ok (.iload 6, 2) := by decide +kernel
theorem dX2_addGain_59 : decode cX2_addGain 59 = .ok (.dup2, 1) := by decide +kernel
theorem dX2_addGain_60 : decode cX2_addGain 60 = .ok (.iaload, 1) := by decide +kernel
theorem dX2_addGain_61 : decode cX2_addGain 61 = .ok (.aload_n 0, 1) := by decide +kernel
theorem dX2_addGain_62 : decode cX2_addGain 62 = .ok (.iload 5, 2) := by decide +kernel
theorem dX2_addGain_64 : decode cX2_addGain 64 = .ok (.aload_n 0, 1) := by decide +kernel
theorem dX2_addGain_65 : decode cX2_addGain 65 = .ok (.getfield 38, 3) := by decide +kernel
theorem dX2_addGain_68 : decode cX2_addGain 68 = .ok (.invokevirtual 154, 3) := by decide +kernel
theorem dX2_addGain_71 : decode cX2_addGain 71 = .ok (.iadd, 1) := by decide +kernel
theorem dX2_addGain_72 : decode cX2_addGain 72 = .ok (.iastore, 1) := by decide +kernel
theorem dX2_addGain_73 : decode cX2_addGain 73 = .ok (.iinc 5 1, 3) := by decide +kernel
theorem dX2_addGain_76 : decode cX2_addGain 76 = .ok (.goto (-51), 3) := by decide +kernel
theorem dX2_addGain_79 : decode cX2_addGain 79 = .ok (.return_, 1) := by decide +kernel
set_option maxRecDepth 20000 in
theorem B_X2_addGain_0 {G : Gx} {X : Cx} {h : PH} {k n : Nat} {Q : State → Prop} {S : List PV} {a0 : Nat} {a1 : Nat} {a2 : Int} {a3 : Int} {x2 : Int} {PQ : Option PV → PH → Prop} (C : CX_X2_addGain G X) (hk0 : k ≤ 0 := by decide) (hn0 : n ≤ 0 := by decide) (t1 : ph_T h a0 = 2 := by first | assumption | rfl) (e3 : ph_I h a0 10 = x2 := by first | assumption | rfl) (hM : CT_X6_isHeight G X.2.1 [.inl x2] h PQ) (hS : S.length ≤ 8 := by decide) (kk : ∀ r h', PQ r h' → PW G X 7 Q k n 7 [some (.inr a0), some (.inr a1), some (.inl a2), some (.inl a3), none, none, none] (r.toList ++ S) h') : PW G X 7 Q k n 0 [some (.inr a0), some (.inr a1), some (.inl a2), some (.inl a3), none, none, none] (S) h := by
  refine pw_aload_n C dX2_addGain_0 rfl ?_
  refine pw_getI C (t := 2) (f := 10) rfl inF2 rfl (by decide) (by decide) rfl kw286 dX2_addGain_1 t1 ?_
  rw [e3]
  exact pw_callSN C (na := 1) (As := [.inl x2]) (S := S) hM C.2.2.2.2.2.2.2.2.1.1.2.2.2.2.2.2.2 kw353 kw38 kw354 (by decide +kernel) rfl dX2_addGain_4 (by decide) (by decide) hk0 hn0 (by first | exact hS | (simp only [List.length_cons]; omega)) kk
set_option maxRecDepth 20000 in
theorem B_X2_addGain_7 {G : Gx} {X : Cx} {h : PH} {k n : Nat} {Q : State → Prop} {S : List PV} {a0 : Nat} {a1 : Nat} {a2 : Int} {a3 : Int} {s0 : Int} (C : CX_X2_addGain G X) (q1 : pR s0 := by first | assumption | (unfold pR; omega)) (kt : ¬ s0 = 0 → PW G X 7 Q k n 11 [some (.inr a0), some (.inr a1), some (.inl a2), some (.inl a3), none, none, none] (S) h) (kf : s0 = 0 → PW G X 7 Q k n 10 [some (.inr a0), some (.inr a1), some (.inl a2), some (.inl a3), none, none, none] (S) h) : PW G X 7 Q k n 7 [some (.inr a0), some (.inr a1), some (.inl a2), some (.inl a3), none, none, none] (.inl s0 :: S) h := by
  exact pw_if_ne C 11 dX2_addGain_7 (by decide) q1 kt kf
set_option maxRecDepth 20000 in
theorem B_X2_addGain_10 {G : Gx} {X : Cx} {h : PH} {k n : Nat} {a0 : Nat} {a1 : Nat} {a2 : Int} {a3 : Int} {PQ : Option PV → PH → Prop} (C : CX_X2_addGain G X) (hq : PQ none h) : PW G X 7 (pw_E G X PQ k n) k n 10 [some (.inr a0), some (.inr a1), some (.inl a2), some (.inl a3), none, none, none] [] h := by
  exact pw_vreturn C dX2_addGain_10 hq
set_option maxRecDepth 20000 in
theorem B_X2_addGain_11 {G : Gx} {X : Cx} {h : PH} {k n : Nat} {Q : State → Prop} {S : List PV} {a0 : Nat} {a1 : Nat} {a2 : Int} {a3 : Int} {PQ : Option PV → PH → Prop} (C : CX_X2_addGain G X) (hk0 : k ≤ 0 := by decide) (hn0 : n ≤ 0 := by decide) (t1 : ph_T h a0 = 2 := by first | assumption | rfl) (hM : CT_X2_highWind G X.2.1 [.inr a0, .inl a3] h PQ) (hS : S.length ≤ 8 := by decide) (kk : ∀ r h', PQ r h' → PW G X 7 Q k n 16 [some (.inr a0), some (.inr a1), some (.inl a2), some (.inl a3), none, none, none] (r.toList ++ S) h') : PW G X 7 Q k n 11 [some (.inr a0), some (.inr a1), some (.inl a2), some (.inl a3), none, none, none] (S) h := by
  refine pw_aload_n C dX2_addGain_11 rfl ?_
  refine pw_iload_n C dX2_addGain_12 rfl ?_
  exact pw_callV C (na := 1) (As := [.inl a3]) (S := S) hM t1 (by decide) (hcl := by rfl) kw487 kw489 kw3 kw43 kw490 (by decide +kernel) rfl dX2_addGain_13 (by decide) (by decide) hk0 hn0 (by first | exact hS | (simp only [List.length_cons]; omega)) kk
set_option maxRecDepth 20000 in
theorem B_X2_addGain_16 {G : Gx} {X : Cx} {h : PH} {k n : Nat} {Q : State → Prop} {S : List PV} {a0 : Nat} {a1 : Nat} {a2 : Int} {a3 : Int} {s0 : Int} {PQ : Option PV → PH → Prop} (C : CX_X2_addGain G X) (hk0 : k ≤ 0 := by decide) (hn0 : n ≤ 0 := by decide) (t1 : ph_T h a0 = 2 := by first | assumption | rfl) (hM : CT_X2_lowWind G X.2.1 [.inr a0, .inl a3] h PQ) (hS : S.length ≤ 8 := by decide) (kk : ∀ r h', PQ r h' → PW G X 7 Q k n 23 [some (.inr a0), some (.inr a1), some (.inl a2), some (.inl a3), some (.inl s0), none, none] (r.toList ++ S) h') : PW G X 7 Q k n 16 [some (.inr a0), some (.inr a1), some (.inl a2), some (.inl a3), none, none, none] (.inl s0 :: S) h := by
  refine pw_istore C dX2_addGain_16 (by decide) ?_
  refine pw_aload_n C dX2_addGain_18 rfl ?_
  refine pw_iload_n C dX2_addGain_19 rfl ?_
  exact pw_callV C (na := 1) (As := [.inl a3]) (S := S) hM t1 (by decide) (hcl := by rfl) kw480 kw482 kw2 kw43 kw483 (by decide +kernel) rfl dX2_addGain_20 (by decide) (by decide) hk0 hn0 (by first | exact hS | (simp only [List.length_cons]; omega)) kk
set_option maxRecDepth 20000 in
theorem B_X2_addGain_23 {G : Gx} {X : Cx} {h : PH} {k n : Nat} {Q : State → Prop} {S : List PV} {a0 : Nat} {a1 : Nat} {a2 : Int} {a3 : Int} {a4 : Int} {s0 : Int} (C : CX_X2_addGain G X) (kk : PW G X 7 Q k n 25 [some (.inr a0), some (.inr a1), some (.inl a2), some (.inl a3), some (.inl a4), some (.inl s0), none] (S) h) : PW G X 7 Q k n 23 [some (.inr a0), some (.inr a1), some (.inl a2), some (.inl a3), some (.inl a4), none, none] (.inl s0 :: S) h := by
  refine pw_istore C dX2_addGain_23 (by decide) ?_
  exact kk
set_option maxRecDepth 20000 in
theorem B_X2_addGain_25 {G : Gx} {X : Cx} {h : PH} {k n : Nat} {Q : State → Prop} {S : List PV} {a0 : Nat} {a1 : Nat} {a2 : Int} {a3 : Int} {a4 : Int} {a5 : Int} (C : CX_X2_addGain G X) (q1 : pR a5 := by first | assumption | (unfold pR; omega)) (q2 : pR a4 := by first | assumption | (unfold pR; omega)) (kt : a4 < a5 → PW G X 7 Q k n 79 [some (.inr a0), some (.inr a1), some (.inl a2), some (.inl a3), some (.inl a4), some (.inl a5), none] (S) h) (kf : ¬ a4 < a5 → PW G X 7 Q k n 32 [some (.inr a0), some (.inr a1), some (.inl a2), some (.inl a3), some (.inl a4), some (.inl a5), none] (S) h) : PW G X 7 Q k n 25 [some (.inr a0), some (.inr a1), some (.inl a2), some (.inl a3), some (.inl a4), some (.inl a5), none] (S) h := by
  refine pw_iload C dX2_addGain_25 rfl ?_
  refine pw_iload C dX2_addGain_27 rfl ?_
  exact pw_icmp_gt C 79 dX2_addGain_29 (by decide) q1 q2 kt kf
set_option maxRecDepth 20000 in
theorem B_X2_addGain_32 {G : Gx} {X : Cx} {h : PH} {k n : Nat} {Q : State → Prop} {S : List PV} {a0 : Nat} {a1 : Nat} {a2 : Int} {a3 : Int} {a4 : Int} {a5 : Int} {x2 : Int} {x8 : Int} {PQ : Option PV → PH → Prop} (C : CX_X2_addGain G X) (hk0 : k ≤ 0 := by decide) (hn0 : n ≤ 0 := by decide) (t1 : ph_T h a0 = 2 := by first | assumption | rfl) (e3 : ph_I h a0 10 = x2 := by first | assumption | rfl) (t4 : ph_T h a1 = 8 := by first | assumption | rfl) (q5 : (0 : Int) ≤ (a2 + (a5 * 7)) + x2 := by first | assumption | omega) (q6 : (a2 + (a5 * 7)) + x2 < (ph_L h a1 : Int) := by first | assumption | omega) (q7 : pR ((a2 + (a5 * 7)) + x2) := by first | assumption | (unfold pR; omega)) (e9 : ph_I h a1 (Int.toNat ((a2 + (a5 * 7)) + x2)) = x8 := by first | assumption | rfl) (hM : CT_X2_isDead G X.2.1 [.inl x8] h PQ) (hS : S.length ≤ 8 := by decide) (kk : ∀ r h', PQ r h' → PW G X 7 Q k n 53 [some (.inr a0), some (.inr a1), some (.inl a2), some (.inl a3), some (.inl a4), some (.inl a5), some (.inl ((a2 + (a5 * 7)) + x2))] (r.toList ++ S) h') : PW G X 7 Q k n 32 [some (.inr a0), some (.inr a1), some (.inl a2), some (.inl a3), some (.inl a4), some (.inl a5), none] (S) h := by
  refine pw_iload_n C dX2_addGain_32 rfl ?_
  refine pw_iload C dX2_addGain_33 rfl ?_
  refine pw_bipush C dX2_addGain_35 rfl ?_
  refine pw_imul C dX2_addGain_37 ?_
  refine pw_iadd C dX2_addGain_38 ?_
  refine pw_aload_n C dX2_addGain_39 rfl ?_
  refine pw_getI C (t := 2) (f := 10) rfl inF2 rfl (by decide) (by decide) rfl kw286 dX2_addGain_40 t1 ?_
  rw [e3]
  refine pw_iadd C dX2_addGain_43 ?_
  refine pw_istore C dX2_addGain_44 (by decide) ?_
  refine pw_aload_n C dX2_addGain_46 rfl ?_
  refine pw_iload C dX2_addGain_47 rfl ?_
  refine pw_iald C dX2_addGain_49 t4 q5 q6 q7 ?_
  rw [e9]
  exact pw_callS C (na := 1) (As := [.inl x8]) (S := S) hM kw526 kw527 kw43 kw528 (by decide +kernel) rfl dX2_addGain_50 (by decide) (by decide) hk0 hn0 (by first | exact hS | (simp only [List.length_cons]; omega)) kk
set_option maxRecDepth 20000 in
theorem B_X2_addGain_53 {G : Gx} {X : Cx} {h : PH} {k n : Nat} {Q : State → Prop} {S : List PV} {a0 : Nat} {a1 : Nat} {a2 : Int} {a3 : Int} {a4 : Int} {a5 : Int} {a6 : Int} {s0 : Int} (C : CX_X2_addGain G X) (q1 : pR s0 := by first | assumption | (unfold pR; omega)) (kt : ¬ s0 = 0 → PW G X 7 Q k n 73 [some (.inr a0), some (.inr a1), some (.inl a2), some (.inl a3), some (.inl a4), some (.inl a5), some (.inl a6)] (S) h) (kf : s0 = 0 → PW G X 7 Q k n 56 [some (.inr a0), some (.inr a1), some (.inl a2), some (.inl a3), some (.inl a4), some (.inl a5), some (.inl a6)] (S) h) : PW G X 7 Q k n 53 [some (.inr a0), some (.inr a1), some (.inl a2), some (.inl a3), some (.inl a4), some (.inl a5), some (.inl a6)] (.inl s0 :: S) h := by
  exact pw_if_ne C 73 dX2_addGain_53 (by decide) q1 kt kf
set_option maxRecDepth 20000 in
theorem B_X2_addGain_56 {G : Gx} {X : Cx} {h : PH} {k n : Nat} {Q : State → Prop} {S : List PV} {a0 : Nat} {a1 : Nat} {a2 : Int} {a3 : Int} {a4 : Int} {a5 : Int} {a6 : Int} {x5 : Int} {x8 : Int} {PQ : Option PV → PH → Prop} (C : CX_X2_addGain G X) (hk0 : k ≤ 0 := by decide) (hn0 : n ≤ 0 := by decide) (t1 : ph_T h a1 = 8 := by first | assumption | rfl) (q2 : (0 : Int) ≤ a6 := by first | assumption | omega) (q3 : a6 < (ph_L h a1 : Int) := by first | assumption | omega) (q4 : pR a6 := by first | assumption | (unfold pR; omega)) (e6 : ph_I h a1 (Int.toNat a6) = x5 := by first | assumption | rfl) (t7 : ph_T h a0 = 2 := by first | assumption | rfl) (e9 : ph_I h a0 10 = x8 := by first | assumption | rfl) (t10 : ph_T h a0 = 2 := by first | assumption | rfl) (hM : CT_X2_gain G X.2.1 [.inr a0, .inl a5, .inl x8] h PQ) (hS : S.length ≤ 5 := by decide) (kk : ∀ r h', PQ r h' → PW G X 7 Q k n 71 [some (.inr a0), some (.inr a1), some (.inl a2), some (.inl a3), some (.inl a4), some (.inl a5), some (.inl a6)] (r.toList ++ (.inl x5 :: .inl a6 :: .inr a1 :: S)) h') : PW G X 7 Q k n 56 [some (.inr a0), some (.inr a1), some (.inl a2), some (.inl a3), some (.inl a4), some (.inl a5), some (.inl a6)] (S) h := by
  refine pw_aload_n C dX2_addGain_56 rfl ?_
  refine pw_iload C dX2_addGain_57 rfl ?_
  refine pw_dup2 C dX2_addGain_59 ?_
  refine pw_iald C dX2_addGain_60 t1 q2 q3 q4 ?_
  rw [e6]
  refine pw_aload_n C dX2_addGain_61 rfl ?_
  refine pw_iload C dX2_addGain_62 rfl ?_
  refine pw_aload_n C dX2_addGain_64 rfl ?_
  refine pw_getI C (t := 2) (f := 10) rfl inF2 rfl (by decide) (by decide) rfl kw286 dX2_addGain_65 t7 ?_
  rw [e9]
  exact pw_callV C (na := 2) (As := [.inl a5, .inl x8]) (S := .inl x5 :: .inl a6 :: .inr a1 :: S) hM t10 (by decide) (hcl := by rfl) kw530 kw532 kw10 kw43 kw533 (by decide +kernel) rfl dX2_addGain_68 (by decide) (by decide) hk0 hn0 (by first | exact hS | (simp only [List.length_cons]; omega)) kk
set_option maxRecDepth 20000 in
theorem B_X2_addGain_71 {G : Gx} {X : Cx} {h : PH} {k n : Nat} {Q : State → Prop} {S : List PV} {a0 : Nat} {a1 : Nat} {a2 : Int} {a3 : Int} {a4 : Int} {a5 : Int} {a6 : Int} {s0 : Int} {s1 : Int} {s2 : Int} {s3 : Nat} (C : CX_X2_addGain G X) (t1 : ph_T h s3 = 8 := by first | assumption | rfl) (q2 : (0 : Int) ≤ s2 := by first | assumption | omega) (q3 : s2 < (ph_L h s3 : Int) := by first | assumption | omega) (q4 : pR s2 := by first | assumption | (unfold pR; omega)) (kk : PW G X 7 Q k n 73 [some (.inr a0), some (.inr a1), some (.inl a2), some (.inl a3), some (.inl a4), some (.inl a5), some (.inl a6)] (S) (ph_setI h s3 (Int.toNat s2) (s1 + s0))) : PW G X 7 Q k n 71 [some (.inr a0), some (.inr a1), some (.inl a2), some (.inl a3), some (.inl a4), some (.inl a5), some (.inl a6)] (.inl s0 :: .inl s1 :: .inl s2 :: .inr s3 :: S) h := by
  refine pw_iadd C dX2_addGain_71 ?_
  refine pw_iast C dX2_addGain_72 t1 q2 q3 q4 ?_
  exact kk
set_option maxRecDepth 20000 in
theorem B_X2_addGain_73 {G : Gx} {X : Cx} {h : PH} {k n : Nat} {Q : State → Prop} {S : List PV} {a0 : Nat} {a1 : Nat} {a2 : Int} {a3 : Int} {a4 : Int} {a5 : Int} {a6 : Int} (C : CX_X2_addGain G X) (kk : PW G X 7 Q k n 25 [some (.inr a0), some (.inr a1), some (.inl a2), some (.inl a3), some (.inl a4), some (.inl (a5 + 1)), none] (S) h) : PW G X 7 Q k n 73 [some (.inr a0), some (.inr a1), some (.inl a2), some (.inl a3), some (.inl a4), some (.inl a5), some (.inl a6)] (S) h := by
  refine pw_iinc C dX2_addGain_73 rfl (by decide) ?_
  refine pw_goto C 25 dX2_addGain_76 (by decide) ?_
  exact pw_weak [true, true, true, true, true, true, false] kk
set_option maxRecDepth 20000 in
theorem B_X2_addGain_79 {G : Gx} {X : Cx} {h : PH} {k n : Nat} {a0 : Nat} {a1 : Nat} {a2 : Int} {a3 : Int} {a4 : Int} {a5 : Int} {PQ : Option PV → PH → Prop} (C : CX_X2_addGain G X) (hq : PQ none h) : PW G X 7 (pw_E G X PQ k n) k n 79 [some (.inr a0), some (.inr a1), some (.inl a2), some (.inl a3), some (.inl a4), some (.inl a5), none] [] h := by
  exact pw_vreturn C dX2_addGain_79 hq
theorem dX2_gain_0 : decode cX2_gain 0 = .ok (.iload_n 2, 1) := by decide +kernel
theorem dX2_gain_1 : decode cX2_gain 1 = .ok (.aload_n 0, 1) := by decide +kernel
theorem dX2_gain_2 : decode cX2_gain 2 = .ok (.getfield 38, 3) := by decide +kernel
theorem dX2_gain_5 : decode cX2_gain 5 = .ok (.if_icmp .ne 28, 3) := by decide +kernel
theorem dX2_gain_8 : decode cX2_gain 8 = .ok (.iload_n 1, 1) := by decide +kernel
theorem dX2_gain_9 : decode cX2_gain 9 = .ok (.aload_n 0, 1) := by decide +kernel
theorem dX2_gain_10 : decode cX2_gain 10 = .ok (.getfield 51, 3) := by decide +kernel
theorem dX2_gain_13 : decode cX2_gain 13 = .ok (.getfield 129, 3) := by decide +kernel
theorem dX2_gain_16 : decode cX2_gain 16 = .ok (.isub, 1) := by decide +kernel
theorem dX2_gain_17 : decode cX2_gain 17 = .ok (.invokestatic 215, 3) := by decide +kernel
theorem dX2_gain_20 : decode cX2_gain 20 = .ok (.aload_n 0, 1) := by decide +kernel
theorem dX2_gain_21 : decode cX2_gain 21 = .ok (.getfield 35, 3) := by decide +kernel
theorem dX2_gain_24 : decode cX2_gain 24 = .ok (.if_icmp .ne 9, 3) := by decide +kernel
theorem dX2_gain_27 : decode cX2_gain 27 = .ok (.sipush 1024, 3) := by decide +kernel
theorem dX2_gain_30 : decode cX2_gain 30 = .ok (.goto 4, 3) := by decide +kernel
theorem dX2_gain_33 : decode cX2_gain 33 = .ok (.iconst 0, 1) := by decide +kernel
theorem dX2_gain_34 : decode cX2_gain 34 = .ok (.ireturn, 1) := by decide +kernel
set_option maxRecDepth 20000 in
theorem B_X2_gain_0 {G : Gx} {X : Cx} {h : PH} {k n : Nat} {Q : State → Prop} {S : List PV} {a0 : Nat} {a1 : Int} {a2 : Int} {x2 : Int} (C : CX_X2_gain G X) (t1 : ph_T h a0 = 2 := by first | assumption | rfl) (e3 : ph_I h a0 10 = x2 := by first | assumption | rfl) (q4 : pR a2 := by first | assumption | (unfold pR; omega)) (q5 : pR x2 := by first | assumption | (unfold pR; omega)) (kt : ¬ a2 = x2 → PW G X 3 Q k n 33 [some (.inr a0), some (.inl a1), some (.inl a2)] (S) h) (kf : a2 = x2 → PW G X 3 Q k n 8 [some (.inr a0), some (.inl a1), some (.inl a2)] (S) h) : PW G X 3 Q k n 0 [some (.inr a0), some (.inl a1), some (.inl a2)] (S) h := by
  refine pw_iload_n C dX2_gain_0 rfl ?_
  refine pw_aload_n C dX2_gain_1 rfl ?_
  refine pw_getI C (t := 2) (f := 10) rfl inF2 rfl (by decide) (by decide) rfl kw286 dX2_gain_2 t1 ?_
  rw [e3]
  exact pw_icmp_ne C 33 dX2_gain_5 (by decide) q4 q5 kt kf
set_option maxRecDepth 20000 in
theorem B_X2_gain_8 {G : Gx} {X : Cx} {h : PH} {k n : Nat} {Q : State → Prop} {S : List PV} {a0 : Nat} {a1 : Int} {a2 : Int} {r2 : Nat} {x5 : Int} {PQ : Option PV → PH → Prop} (C : CX_X2_gain G X) (hk0 : k ≤ 0 := by decide) (hn0 : n ≤ 0 := by decide) (t1 : ph_T h a0 = 2 := by first | assumption | rfl) (e3 : ph_R h a0 6 = r2 := by first | assumption | rfl) (t4 : ph_T h r2 = 1 := by first | assumption | rfl) (e6 : ph_I h r2 3 = x5 := by first | assumption | rfl) (hM : CT_X6_sideOf G X.2.1 [.inl (a1 - x5)] h PQ) (hS : S.length ≤ 8 := by decide) (kk : ∀ r h', PQ r h' → PW G X 3 Q k n 20 [some (.inr a0), some (.inl a1), some (.inl a2)] (r.toList ++ S) h') : PW G X 3 Q k n 8 [some (.inr a0), some (.inl a1), some (.inl a2)] (S) h := by
  refine pw_iload_n C dX2_gain_8 rfl ?_
  refine pw_aload_n C dX2_gain_9 rfl ?_
  refine pw_getR C (t := 2) (f := 6) rfl inF2 rfl (by decide) (by decide) rfl kw282 dX2_gain_10 t1 ?_
  rw [e3]
  refine pw_getI C (t := 1) (f := 3) rfl inF1 rfl (by decide) (by decide) rfl kw161 dX2_gain_13 t4 ?_
  rw [e6]
  refine pw_isub C dX2_gain_16 ?_
  exact pw_callSN C (na := 1) (As := [.inl (a1 - x5)]) (S := S) hM C.2.2.2.2.2.2.2.2.1.1.2.2.2.2.2.1 kw443 kw38 kw444 (by decide +kernel) rfl dX2_gain_17 (by decide) (by decide) hk0 hn0 (by first | exact hS | (simp only [List.length_cons]; omega)) kk
set_option maxRecDepth 20000 in
theorem B_X2_gain_20 {G : Gx} {X : Cx} {h : PH} {k n : Nat} {Q : State → Prop} {S : List PV} {a0 : Nat} {a1 : Int} {a2 : Int} {s0 : Int} {x2 : Int} (C : CX_X2_gain G X) (t1 : ph_T h a0 = 2 := by first | assumption | rfl) (e3 : ph_I h a0 9 = x2 := by first | assumption | rfl) (q4 : pR s0 := by first | assumption | (unfold pR; omega)) (q5 : pR x2 := by first | assumption | (unfold pR; omega)) (kt : ¬ s0 = x2 → PW G X 3 Q k n 33 [some (.inr a0), some (.inl a1), some (.inl a2)] (S) h) (kf : s0 = x2 → PW G X 3 Q k n 27 [some (.inr a0), some (.inl a1), some (.inl a2)] (S) h) : PW G X 3 Q k n 20 [some (.inr a0), some (.inl a1), some (.inl a2)] (.inl s0 :: S) h := by
  refine pw_aload_n C dX2_gain_20 rfl ?_
  refine pw_getI C (t := 2) (f := 9) rfl inF2 rfl (by decide) (by decide) rfl kw285 dX2_gain_21 t1 ?_
  rw [e3]
  exact pw_icmp_ne C 33 dX2_gain_24 (by decide) q4 q5 kt kf
set_option maxRecDepth 20000 in
theorem B_X2_gain_27 {G : Gx} {X : Cx} {h : PH} {k n : Nat} {Q : State → Prop} {S : List PV} {a0 : Nat} {a1 : Int} {a2 : Int} (C : CX_X2_gain G X) (kk : PW G X 3 Q k n 34 [some (.inr a0), some (.inl a1), some (.inl a2)] (.inl 1024 :: S) h) : PW G X 3 Q k n 27 [some (.inr a0), some (.inl a1), some (.inl a2)] (S) h := by
  refine pw_sipush C dX2_gain_27 rfl ?_
  refine pw_goto C 34 dX2_gain_30 (by decide) ?_
  exact kk
set_option maxRecDepth 20000 in
theorem B_X2_gain_33 {G : Gx} {X : Cx} {h : PH} {k n : Nat} {Q : State → Prop} {S : List PV} {a0 : Nat} {a1 : Int} {a2 : Int} (C : CX_X2_gain G X) (kk : PW G X 3 Q k n 34 [some (.inr a0), some (.inl a1), some (.inl a2)] (.inl 0 :: S) h) : PW G X 3 Q k n 33 [some (.inr a0), some (.inl a1), some (.inl a2)] (S) h := by
  refine pw_iconst C dX2_gain_33 ?_
  exact kk
set_option maxRecDepth 20000 in
theorem B_X2_gain_34 {G : Gx} {X : Cx} {h : PH} {k n : Nat} {a0 : Nat} {a1 : Int} {a2 : Int} {s0 : Int} {PQ : Option PV → PH → Prop} (C : CX_X2_gain G X) (hq : PQ (some (.inl s0)) h) : PW G X 3 (pw_E G X PQ k n) k n 34 [some (.inr a0), some (.inl a1), some (.inl a2)] [.inl s0] h := by
  exact pw_ireturn C dX2_gain_34 hq
theorem dX2_pointOf_0 : decode cX2_pointOf 0 = .ok (.aload_n 0, 1) := by decide +kernel
theorem dX2_pointOf_1 : decode cX2_pointOf 1 = .ok (.getfield 51, 3) := by decide +kernel
theorem dX2_pointOf_4 : decode cX2_pointOf 4 = .ok (.getfield 74, 3) := by decide +kernel
theorem dX2_pointOf_7 : decode cX2_pointOf 7 = .ok (.iload_n 1, 1) := by decide +kernel
theorem dX2_pointOf_8 : decode cX2_pointOf 8 = .ok (.iadd, 1) := by decide +kernel
theorem dX2_pointOf_9 : decode cX2_pointOf 9 = .ok (.aload_n 0, 1) := by decide +kernel
theorem dX2_pointOf_10 : decode cX2_pointOf 10 = .ok (.getfield 59, 3) := by decide +kernel
theorem dX2_pointOf_13 : decode cX2_pointOf 13 = .ok (.getfield 192, 3) := by decide +kernel
theorem dX2_pointOf_16 : decode cX2_pointOf 16 = .ok (.isub, 1) := by decide +kernel
theorem dX2_pointOf_17 : decode cX2_pointOf 17 = .ok (.istore_n 2, 1) := by decide +kernel
theorem dX2_pointOf_18 : decode cX2_pointOf 18 = .ok (.iload_n 2, 1) := by decide +kernel
theorem dX2_pointOf_19 : decode cX2_pointOf 19 = .ok (.iconst 0, 1) := by decide +kernel
theorem dX2_pointOf_20 : decode cX2_pointOf 20 = .ok (.aload_n 0, 1) := by decide +kernel
theorem dX2_pointOf_21 : decode cX2_pointOf 21 = .ok (.getfield 59, 3) := by decide +kernel
theorem dX2_pointOf_24 : decode cX2_pointOf 24 = .ok (.getfield 189, 3) := by decide +kernel
theorem dX2_pointOf_27 : decode cX2_pointOf 27 = .ok (.iconst 1, 1) := by decide +kernel
theorem dX2_pointOf_28 : decode cX2_pointOf 28 = .ok (.isub, 1) := by decide +kernel
theorem dX2_pointOf_29 : decode cX2_pointOf 29 = .ok (.invokestatic 241, 3) := by decide +kernel
theorem dX2_pointOf_32 : decode cX2_pointOf 32 = .ok (.ifCond .eq 7, 3) := by decide +kernel
theorem dX2_pointOf_35 : decode cX2_pointOf 35 = .ok (.iload_n 2, 1) := by decide +kernel
theorem dX2_pointOf_36 : decode cX2_pointOf 36 = .ok (.goto 4, 3) := by decide +kernel
theorem dX2_pointOf_39 : decode cX2_pointOf 39 = .ok (.iconst (-1), 1) := by decide +kernel
theorem dX2_pointOf_40 : decode cX2_pointOf 40 = .ok (.ireturn, 1) := by decide +kernel
set_option maxRecDepth 20000 in
theorem B_X2_pointOf_0 {G : Gx} {X : Cx} {h : PH} {k n : Nat} {Q : State → Prop} {S : List PV} {a0 : Nat} {a1 : Int} {r2 : Nat} {x5 : Int} {r8 : Nat} {x11 : Int} {r14 : Nat} {x17 : Int} {PQ : Option PV → PH → Prop} (C : CX_X2_pointOf G X) (hk0 : k ≤ 0 := by decide) (hn0 : n ≤ 0 := by decide) (t1 : ph_T h a0 = 2 := by first | assumption | rfl) (e3 : ph_R h a0 6 = r2 := by first | assumption | rfl) (t4 : ph_T h r2 = 1 := by first | assumption | rfl) (e6 : ph_I h r2 2 = x5 := by first | assumption | rfl) (t7 : ph_T h a0 = 2 := by first | assumption | rfl) (e9 : ph_R h a0 7 = r8 := by first | assumption | rfl) (t10 : ph_T h r8 = 0 := by first | assumption | rfl) (e12 : ph_I h r8 3 = x11 := by first | assumption | rfl) (t13 : ph_T h a0 = 2 := by first | assumption | rfl) (e15 : ph_R h a0 7 = r14 := by first | assumption | rfl) (t16 : ph_T h r14 = 0 := by first | assumption | rfl) (e18 : ph_I h r14 4 = x17 := by first | assumption | rfl) (hM : CT_X6_isIn G X.2.1 [.inl ((x5 + a1) - x11), .inl 0, .inl (x17 - 1)] h PQ) (hS : S.length ≤ 8 := by decide) (kk : ∀ r h', PQ r h' → PW G X 3 Q k n 32 [some (.inr a0), some (.inl a1), some (.inl ((x5 + a1) - x11))] (r.toList ++ S) h') : PW G X 3 Q k n 0 [some (.inr a0), some (.inl a1), none] (S) h := by
  refine pw_aload_n C dX2_pointOf_0 rfl ?_
  refine pw_getR C (t := 2) (f := 6) rfl inF2 rfl (by decide) (by decide) rfl kw282 dX2_pointOf_1 t1 ?_
  rw [e3]
  refine pw_getI C (t := 1) (f := 2) rfl inF1 rfl (by decide) (by decide) rfl kw157 dX2_pointOf_4 t4 ?_
  rw [e6]
  refine pw_iload_n C dX2_pointOf_7 rfl ?_
  refine pw_iadd C dX2_pointOf_8 ?_
  refine pw_aload_n C dX2_pointOf_9 rfl ?_
  refine pw_getR C (t := 2) (f := 7) rfl inF2 rfl (by decide) (by decide) rfl kw283 dX2_pointOf_10 t7 ?_
  rw [e9]
  refine pw_getI C (t := 0) (f := 3) rfl inF0 rfl (by decide) (by decide) rfl kw119 dX2_pointOf_13 t10 ?_
  rw [e12]
  refine pw_isub C dX2_pointOf_16 ?_
  refine pw_istore_n C dX2_pointOf_17 (by decide) ?_
  refine pw_iload_n C dX2_pointOf_18 rfl ?_
  refine pw_iconst C dX2_pointOf_19 ?_
  refine pw_aload_n C dX2_pointOf_20 rfl ?_
  refine pw_getR C (t := 2) (f := 7) rfl inF2 rfl (by decide) (by decide) rfl kw283 dX2_pointOf_21 t13 ?_
  rw [e15]
  refine pw_getI C (t := 0) (f := 4) rfl inF0 rfl (by decide) (by decide) rfl kw124 dX2_pointOf_24 t16 ?_
  rw [e18]
  refine pw_iconst C dX2_pointOf_27 ?_
  refine pw_isub C dX2_pointOf_28 ?_
  exact pw_callSN C (na := 3) (As := [.inl ((x5 + a1) - x11), .inl 0, .inl (x17 - 1)]) (S := S) hM C.2.2.2.2.2.2.2.2.1.1.2.2.2.2.2.2.1 kw328 kw38 kw329 (by decide +kernel) rfl dX2_pointOf_29 (by decide) (by decide) hk0 hn0 (by first | exact hS | (simp only [List.length_cons]; omega)) kk
set_option maxRecDepth 20000 in
theorem B_X2_pointOf_32 {G : Gx} {X : Cx} {h : PH} {k n : Nat} {Q : State → Prop} {S : List PV} {a0 : Nat} {a1 : Int} {a2 : Int} {s0 : Int} (C : CX_X2_pointOf G X) (q1 : pR s0 := by first | assumption | (unfold pR; omega)) (kt : s0 = 0 → PW G X 3 Q k n 39 [some (.inr a0), some (.inl a1), some (.inl a2)] (S) h) (kf : ¬ s0 = 0 → PW G X 3 Q k n 35 [some (.inr a0), some (.inl a1), some (.inl a2)] (S) h) : PW G X 3 Q k n 32 [some (.inr a0), some (.inl a1), some (.inl a2)] (.inl s0 :: S) h := by
  exact pw_if_eq C 39 dX2_pointOf_32 (by decide) q1 kt kf
set_option maxRecDepth 20000 in
theorem B_X2_pointOf_35 {G : Gx} {X : Cx} {h : PH} {k n : Nat} {Q : State → Prop} {S : List PV} {a0 : Nat} {a1 : Int} {a2 : Int} (C : CX_X2_pointOf G X) (kk : PW G X 3 Q k n 40 [some (.inr a0), some (.inl a1), some (.inl a2)] (.inl a2 :: S) h) : PW G X 3 Q k n 35 [some (.inr a0), some (.inl a1), some (.inl a2)] (S) h := by
  refine pw_iload_n C dX2_pointOf_35 rfl ?_
  refine pw_goto C 40 dX2_pointOf_36 (by decide) ?_
  exact kk
set_option maxRecDepth 20000 in
theorem B_X2_pointOf_39 {G : Gx} {X : Cx} {h : PH} {k n : Nat} {Q : State → Prop} {S : List PV} {a0 : Nat} {a1 : Int} {a2 : Int} (C : CX_X2_pointOf G X) (kk : PW G X 3 Q k n 40 [some (.inr a0), some (.inl a1), some (.inl a2)] (.inl (-1) :: S) h) : PW G X 3 Q k n 39 [some (.inr a0), some (.inl a1), some (.inl a2)] (S) h := by
  refine pw_iconst C dX2_pointOf_39 ?_
  exact kk
set_option maxRecDepth 20000 in
theorem B_X2_pointOf_40 {G : Gx} {X : Cx} {h : PH} {k n : Nat} {a0 : Nat} {a1 : Int} {a2 : Int} {s0 : Int} {PQ : Option PV → PH → Prop} (C : CX_X2_pointOf G X) (hq : PQ (some (.inl s0)) h) : PW G X 3 (pw_E G X PQ k n) k n 40 [some (.inr a0), some (.inl a1), some (.inl a2)] [.inl s0] h := by
  exact pw_ireturn C dX2_pointOf_40 hq
theorem dX2_mostSeen_0 : decode cX2_mostSeen 0 = .ok (.ldc 198, 2) := by decide +kernel
theorem dX2_mostSeen_2 : decode cX2_mostSeen 2 = .ok (.istore 4, 2) := by decide +kernel
theorem dX2_mostSeen_4 : decode cX2_mostSeen 4 = .ok (.aload_n 0, 1) := by decide +kernel
theorem dX2_mostSeen_5 : decode cX2_mostSeen 5 = .ok (.iload_n 3, 1) := by decide +kernel
theorem dX2_mostSeen_6 : decode cX2_mostSeen 6 = .ok (.invokevirtual 160, 3) := by decide +kernel
theorem dX2_mostSeen_9 : decode cX2_mostSeen 9 = .ok (.iconst 1, 1) := by decide +kernel
theorem dX2_mostSeen_10 : decode cX2_mostSeen 10 = .ok (.iadd, 1) := by decide +kernel
theorem dX2_mostSeen_11 : decode cX2_mostSeen 11 = .ok (.bipush 7, 2) := by decide +kernel
theorem dX2_mostSeen_13 : decode cX2_mostSeen 13 = .ok (.imul, 1) := by decide +kernel
theorem dX2_mostSeen_14 : decode cX2_mostSeen 14 = .ok (.istore 5, 2) := by decide +kernel
theorem dX2_mostSeen_16 : decode cX2_mostSeen 16 = .ok (.aload_n 0, 1) := by decide +kernel
theorem dX2_mostSeen_17 : decode cX2_mostSeen 17 = .ok (.iload_n 3, 1) := by decide +kernel
theorem dX2_mostSeen_18 : decode cX2_mostSeen 18 = .ok (.invokevirtual 167, 3) := by decide +kernel
theorem dX2_mostSeen_21 : decode cX2_mostSeen 21 = .ok (.bipush 7, 2) := by decide +kernel
theorem dX2_mostSeen_23 : decode cX2_mostSeen 23 = .ok (.imul, 1) := by decide +kernel
theorem dX2_mostSeen_24 : decode cX2_mostSeen 24 = .ok (.istore 6, 2) := by decide +kernel
theorem dX2_mostSeen_26 : decode cX2_mostSeen 26 = .ok (.iload 6, 2) := by decide +kernel
theorem dX2_mostSeen_28 : decode cX2_mostSeen 28 = .ok (.iload 5, 2) := by decide +kernel
theorem dX2_mostSeen_30 : decode cX2_mostSeen 30 = .ok (.if_icmp .ge 35, 3) := by decide +kernel
theorem dX2_mostSeen_33 : decode cX2_mostSeen 33 = .ok (.aload_n 0, 1) := by decide +kernel
theorem dX2_mostSeen_34 : decode cX2_mostSeen 34 = .ok (.getfield 22, 3) := by decide +kernel
theorem dX2_mostSeen_37 : decode cX2_mostSeen 37 = .ok (.iload 6, 2) := by decide +kernel
theorem dX2_mostSeen_39 : decode cX2_mostSeen 39 = .ok (.iaload, 1) := by decide +kernel
theorem dX2_mostSeen_40 : decode cX2_mostSeen 40 = .ok (.invokestatic 139, 3) := by decide +kernel
theorem dX2_mostSeen_43 : decode cX2_mostSeen 43 = .ok (.ifCond .ne 16, 3) := by decide +kernel
theorem dX2_mostSeen_46 : decode cX2_mostSeen 46 = .ok (.iload 4, 2) := by decide +kernel
theorem dX2_mostSeen_48 : decode cX2_mostSeen 48 = .ok (.aload_n 1, 1) := by decide +kernel
theorem dX2_mostSeen_49 : decode cX2_mostSeen 49 = .ok (.iload_n 2, 1) := by decide +kernel
theorem dX2_mostSeen_50 : decode cX2_mostSeen 50 = .ok (.iload 6, 2) := by decide +kernel
theorem dX2_mostSeen_52 : decode cX2_mostSeen 52 = .ok (.iadd, 1) := by decide +kernel
theorem dX2_mostSeen_53 : decode cX2_mostSeen 53 = .ok (.iaload, 1) := by decide +kernel
theorem dX2_mostSeen_54 : decode cX2_mostSeen 54 = .ok (.invokestatic 170, 3) := by decide +kernel
theorem dX2_mostSeen_57 : decode cX2_mostSeen 57 = .ok (.istore 4, 2) := by decide +kernel
theorem dX2_mostSeen_59 : decode cX2_mostSeen 59 = .ok (.iinc 6 1, 3) := by decide +kernel
theorem dX2_mostSeen_62 : decode cX2_mostSeen 62 = .ok (.goto (-36), 3) := by decide +kernel
theorem dX2_mostSeen_65 : decode cX2_mostSeen 65 = .ok (.iload 4, 2) := by decide +kernel
theorem dX2_mostSeen_67 : decode cX2_mostSeen 67 = .ok (.invokestatic 139, 3) := by decide +kernel
theorem dX2_mostSeen_70 : decode cX2_mostSeen 70 = .ok (.ifCond .eq 7, 3) := by decide +kernel
theorem dX2_mostSeen_73 : decode cX2_mostSeen 73 = .ok (.iconst 0, 1) := by decide +kernel
theorem dX2_mostSeen_74 : decode cX2_mostSeen 74 = .ok (.goto 15, 3) := by decide +kernel
theorem dX2_mostSeen_77 : decode cX2_mostSeen 77 = .ok (.iload 4, 2) := by decide +kernel
theorem dX2_mostSeen_79 : decode cX2_mostSeen 79 = .ok (.sipush 1024, 3) := by decide +kernel
theorem dX2_mostSeen_82 : decode cX2_mostSeen 82 = .ok (.iadd, 1) := by decide +kernel
theorem dX2_mostSeen_83 : decode cX2_mostSeen 83 = .ok (.iconst 1, 1) := by decide +kernel
theorem dX2_mostSeen_84 : decode cX2_mostSeen 84 = .ok (.isub, 1) := by decide +kernel
theorem dX2_mostSeen_85 : decode cX2_mostSeen 85 = .ok (.sipush 1024, 3) := by decide +kernel
theorem dX2_mostSeen_88 : decode cX2_mostSeen 88 = .ok (.idiv, 1) := by decide +kernel
theorem dX2_mostSeen_89 : decode cX2_mostSeen 89 = .ok (.ireturn, 1) := by decide +kernel
set_option maxRecDepth 20000 in
theorem B_X2_mostSeen_0 {G : Gx} {X : Cx} {h : PH} {k n : Nat} {Q : State → Prop} {S : List PV} {a0 : Nat} {a1 : Nat} {a2 : Int} {a3 : Int} {PQ : Option PV → PH → Prop} (C : CX_X2_mostSeen G X) (hk0 : k ≤ 0 := by decide) (hn0 : n ≤ 0 := by decide) (t1 : ph_T h a0 = 2 := by first | assumption | rfl) (hM : CT_X2_highWind G X.2.1 [.inr a0, .inl a3] h PQ) (hS : S.length ≤ 8 := by decide) (kk : ∀ r h', PQ r h' → PW G X 7 Q k n 9 [some (.inr a0), some (.inr a1), some (.inl a2), some (.inl a3), some (.inl (-1000000)), none, none] (r.toList ++ S) h') : PW G X 7 Q k n 0 [some (.inr a0), some (.inr a1), some (.inl a2), some (.inl a3), none, none, none] (S) h := by
  refine pw_ldc C (z := -1000000) kw479 rfl dX2_mostSeen_0 ?_
  refine pw_istore C dX2_mostSeen_2 (by decide) ?_
  refine pw_aload_n C dX2_mostSeen_4 rfl ?_
  refine pw_iload_n C dX2_mostSeen_5 rfl ?_
  exact pw_callV C (na := 1) (As := [.inl a3]) (S := S) hM t1 (by decide) (hcl := by rfl) kw487 kw489 kw3 kw43 kw490 (by decide +kernel) rfl dX2_mostSeen_6 (by decide) (by decide) hk0 hn0 (by first | exact hS | (simp only [List.length_cons]; omega)) kk
set_option maxRecDepth 20000 in
theorem B_X2_mostSeen_9 {G : Gx} {X : Cx} {h : PH} {k n : Nat} {Q : State → Prop} {S : List PV} {a0 : Nat} {a1 : Nat} {a2 : Int} {a3 : Int} {a4 : Int} {s0 : Int} {PQ : Option PV → PH → Prop} (C : CX_X2_mostSeen G X) (hk0 : k ≤ 0 := by decide) (hn0 : n ≤ 0 := by decide) (t1 : ph_T h a0 = 2 := by first | assumption | rfl) (hM : CT_X2_lowWind G X.2.1 [.inr a0, .inl a3] h PQ) (hS : S.length ≤ 8 := by decide) (kk : ∀ r h', PQ r h' → PW G X 7 Q k n 21 [some (.inr a0), some (.inr a1), some (.inl a2), some (.inl a3), some (.inl a4), some (.inl ((s0 + 1) * 7)), none] (r.toList ++ S) h') : PW G X 7 Q k n 9 [some (.inr a0), some (.inr a1), some (.inl a2), some (.inl a3), some (.inl a4), none, none] (.inl s0 :: S) h := by
  refine pw_iconst C dX2_mostSeen_9 ?_
  refine pw_iadd C dX2_mostSeen_10 ?_
  refine pw_bipush C dX2_mostSeen_11 rfl ?_
  refine pw_imul C dX2_mostSeen_13 ?_
  refine pw_istore C dX2_mostSeen_14 (by decide) ?_
  refine pw_aload_n C dX2_mostSeen_16 rfl ?_
  refine pw_iload_n C dX2_mostSeen_17 rfl ?_
  exact pw_callV C (na := 1) (As := [.inl a3]) (S := S) hM t1 (by decide) (hcl := by rfl) kw480 kw482 kw2 kw43 kw483 (by decide +kernel) rfl dX2_mostSeen_18 (by decide) (by decide) hk0 hn0 (by first | exact hS | (simp only [List.length_cons]; omega)) kk
set_option maxRecDepth 20000 in
theorem B_X2_mostSeen_21 {G : Gx} {X : Cx} {h : PH} {k n : Nat} {Q : State → Prop} {S : List PV} {a0 : Nat} {a1 : Nat} {a2 : Int} {a3 : Int} {a4 : Int} {a5 : Int} {s0 : Int} (C : CX_X2_mostSeen G X) (kk : PW G X 7 Q k n 26 [some (.inr a0), some (.inr a1), some (.inl a2), some (.inl a3), some (.inl a4), some (.inl a5), some (.inl (s0 * 7))] (S) h) : PW G X 7 Q k n 21 [some (.inr a0), some (.inr a1), some (.inl a2), some (.inl a3), some (.inl a4), some (.inl a5), none] (.inl s0 :: S) h := by
  refine pw_bipush C dX2_mostSeen_21 rfl ?_
  refine pw_imul C dX2_mostSeen_23 ?_
  refine pw_istore C dX2_mostSeen_24 (by decide) ?_
  exact kk
set_option maxRecDepth 20000 in
theorem B_X2_mostSeen_26 {G : Gx} {X : Cx} {h : PH} {k n : Nat} {Q : State → Prop} {S : List PV} {a0 : Nat} {a1 : Nat} {a2 : Int} {a3 : Int} {a4 : Int} {a5 : Int} {a6 : Int} (C : CX_X2_mostSeen G X) (q1 : pR a6 := by first | assumption | (unfold pR; omega)) (q2 : pR a5 := by first | assumption | (unfold pR; omega)) (kt : a5 ≤ a6 → PW G X 7 Q k n 65 [some (.inr a0), some (.inr a1), some (.inl a2), some (.inl a3), some (.inl a4), some (.inl a5), some (.inl a6)] (S) h) (kf : ¬ a5 ≤ a6 → PW G X 7 Q k n 33 [some (.inr a0), some (.inr a1), some (.inl a2), some (.inl a3), some (.inl a4), some (.inl a5), some (.inl a6)] (S) h) : PW G X 7 Q k n 26 [some (.inr a0), some (.inr a1), some (.inl a2), some (.inl a3), some (.inl a4), some (.inl a5), some (.inl a6)] (S) h := by
  refine pw_iload C dX2_mostSeen_26 rfl ?_
  refine pw_iload C dX2_mostSeen_28 rfl ?_
  exact pw_icmp_ge C 65 dX2_mostSeen_30 (by decide) q1 q2 kt kf
set_option maxRecDepth 20000 in
theorem B_X2_mostSeen_33 {G : Gx} {X : Cx} {h : PH} {k n : Nat} {Q : State → Prop} {S : List PV} {a0 : Nat} {a1 : Nat} {a2 : Int} {a3 : Int} {a4 : Int} {a5 : Int} {a6 : Int} {r2 : Nat} {x8 : Int} {PQ : Option PV → PH → Prop} (C : CX_X2_mostSeen G X) (hk0 : k ≤ 0 := by decide) (hn0 : n ≤ 0 := by decide) (t1 : ph_T h a0 = 2 := by first | assumption | rfl) (e3 : ph_R h a0 3 = r2 := by first | assumption | rfl) (t4 : ph_T h r2 = 8 := by first | assumption | rfl) (q5 : (0 : Int) ≤ a6 := by first | assumption | omega) (q6 : a6 < (ph_L h r2 : Int) := by first | assumption | omega) (q7 : pR a6 := by first | assumption | (unfold pR; omega)) (e9 : ph_I h r2 (Int.toNat a6) = x8 := by first | assumption | rfl) (hM : CT_X2_isDead G X.2.1 [.inl x8] h PQ) (hS : S.length ≤ 8 := by decide) (kk : ∀ r h', PQ r h' → PW G X 7 Q k n 43 [some (.inr a0), some (.inr a1), some (.inl a2), some (.inl a3), some (.inl a4), some (.inl a5), some (.inl a6)] (r.toList ++ S) h') : PW G X 7 Q k n 33 [some (.inr a0), some (.inr a1), some (.inl a2), some (.inl a3), some (.inl a4), some (.inl a5), some (.inl a6)] (S) h := by
  refine pw_aload_n C dX2_mostSeen_33 rfl ?_
  refine pw_getR C (t := 2) (f := 3) rfl inF2 rfl (by decide) (by decide) rfl kw279 dX2_mostSeen_34 t1 ?_
  rw [e3]
  refine pw_iload C dX2_mostSeen_37 rfl ?_
  refine pw_iald C dX2_mostSeen_39 t4 q5 q6 q7 ?_
  rw [e9]
  exact pw_callS C (na := 1) (As := [.inl x8]) (S := S) hM kw526 kw527 kw43 kw528 (by decide +kernel) rfl dX2_mostSeen_40 (by decide) (by decide) hk0 hn0 (by first | exact hS | (simp only [List.length_cons]; omega)) kk
set_option maxRecDepth 20000 in
theorem B_X2_mostSeen_43 {G : Gx} {X : Cx} {h : PH} {k n : Nat} {Q : State → Prop} {S : List PV} {a0 : Nat} {a1 : Nat} {a2 : Int} {a3 : Int} {a4 : Int} {a5 : Int} {a6 : Int} {s0 : Int} (C : CX_X2_mostSeen G X) (q1 : pR s0 := by first | assumption | (unfold pR; omega)) (kt : ¬ s0 = 0 → PW G X 7 Q k n 59 [some (.inr a0), some (.inr a1), some (.inl a2), some (.inl a3), some (.inl a4), some (.inl a5), some (.inl a6)] (S) h) (kf : s0 = 0 → PW G X 7 Q k n 46 [some (.inr a0), some (.inr a1), some (.inl a2), some (.inl a3), some (.inl a4), some (.inl a5), some (.inl a6)] (S) h) : PW G X 7 Q k n 43 [some (.inr a0), some (.inr a1), some (.inl a2), some (.inl a3), some (.inl a4), some (.inl a5), some (.inl a6)] (.inl s0 :: S) h := by
  exact pw_if_ne C 59 dX2_mostSeen_43 (by decide) q1 kt kf
set_option maxRecDepth 20000 in
theorem B_X2_mostSeen_46 {G : Gx} {X : Cx} {h : PH} {k n : Nat} {Q : State → Prop} {S : List PV} {a0 : Nat} {a1 : Nat} {a2 : Int} {a3 : Int} {a4 : Int} {a5 : Int} {a6 : Int} {x5 : Int} {x9 : Int} (C : CX_X2_mostSeen G X) (hk0 : k ≤ 0 := by decide) (hn0 : n ≤ 0 := by decide) (t1 : ph_T h a1 = 8 := by first | assumption | rfl) (q2 : (0 : Int) ≤ a2 + a6 := by first | assumption | omega) (q3 : a2 + a6 < (ph_L h a1 : Int) := by first | assumption | omega) (q4 : pR (a2 + a6) := by first | assumption | (unfold pR; omega)) (e6 : ph_I h a1 (Int.toNat (a2 + a6)) = x5 := by first | assumption | rfl) (q7 : pR a4 := by first | assumption | (unfold pR; omega)) (q8 : pR x5 := by first | assumption | (unfold pR; omega)) (hS : S.length ≤ 4 := by decide) (e10 : (if a4 < x5 then x5 else a4) = x9 := by first | assumption | rfl) (kk : PW G X 7 Q k n 59 [some (.inr a0), some (.inr a1), some (.inl a2), some (.inl a3), some (.inl x9), some (.inl a5), some (.inl a6)] (S) h) : PW G X 7 Q k n 46 [some (.inr a0), some (.inr a1), some (.inl a2), some (.inl a3), some (.inl a4), some (.inl a5), some (.inl a6)] (S) h := by
  refine pw_iload C dX2_mostSeen_46 rfl ?_
  refine pw_aload_n C dX2_mostSeen_48 rfl ?_
  refine pw_iload_n C dX2_mostSeen_49 rfl ?_
  refine pw_iload C dX2_mostSeen_50 rfl ?_
  refine pw_iadd C dX2_mostSeen_52 ?_
  refine pw_iald C dX2_mostSeen_53 t1 q2 q3 q4 ?_
  rw [e6]
  refine pw_max C kw484 kw485 kw46 kwMax dX2_mostSeen_54 (by decide) (by simp only [List.length_cons]; omega) hk0 hn0 q7 q8 ?_
  rw [e10]
  refine pw_istore C dX2_mostSeen_57 (by decide) ?_
  exact kk
set_option maxRecDepth 20000 in
theorem B_X2_mostSeen_59 {G : Gx} {X : Cx} {h : PH} {k n : Nat} {Q : State → Prop} {S : List PV} {a0 : Nat} {a1 : Nat} {a2 : Int} {a3 : Int} {a4 : Int} {a5 : Int} {a6 : Int} (C : CX_X2_mostSeen G X) (kk : PW G X 7 Q k n 26 [some (.inr a0), some (.inr a1), some (.inl a2), some (.inl a3), some (.inl a4), some (.inl a5), some (.inl (a6 + 1))] (S) h) : PW G X 7 Q k n 59 [some (.inr a0), some (.inr a1), some (.inl a2), some (.inl a3), some (.inl a4), some (.inl a5), some (.inl a6)] (S) h := by
  refine pw_iinc C dX2_mostSeen_59 rfl (by decide) ?_
  refine pw_goto C 26 dX2_mostSeen_62 (by decide) ?_
  exact kk
set_option maxRecDepth 20000 in
theorem B_X2_mostSeen_65 {G : Gx} {X : Cx} {h : PH} {k n : Nat} {Q : State → Prop} {S : List PV} {a0 : Nat} {a1 : Nat} {a2 : Int} {a3 : Int} {a4 : Int} {a5 : Int} {a6 : Int} {PQ : Option PV → PH → Prop} (C : CX_X2_mostSeen G X) (hk0 : k ≤ 0 := by decide) (hn0 : n ≤ 0 := by decide) (hM : CT_X2_isDead G X.2.1 [.inl a4] h PQ) (hS : S.length ≤ 8 := by decide) (kk : ∀ r h', PQ r h' → PW G X 7 Q k n 70 [some (.inr a0), some (.inr a1), some (.inl a2), some (.inl a3), some (.inl a4), some (.inl a5), some (.inl a6)] (r.toList ++ S) h') : PW G X 7 Q k n 65 [some (.inr a0), some (.inr a1), some (.inl a2), some (.inl a3), some (.inl a4), some (.inl a5), some (.inl a6)] (S) h := by
  refine pw_iload C dX2_mostSeen_65 rfl ?_
  exact pw_callS C (na := 1) (As := [.inl a4]) (S := S) hM kw526 kw527 kw43 kw528 (by decide +kernel) rfl dX2_mostSeen_67 (by decide) (by decide) hk0 hn0 (by first | exact hS | (simp only [List.length_cons]; omega)) kk
set_option maxRecDepth 20000 in
theorem B_X2_mostSeen_70 {G : Gx} {X : Cx} {h : PH} {k n : Nat} {Q : State → Prop} {S : List PV} {a0 : Nat} {a1 : Nat} {a2 : Int} {a3 : Int} {a4 : Int} {a5 : Int} {a6 : Int} {s0 : Int} (C : CX_X2_mostSeen G X) (q1 : pR s0 := by first | assumption | (unfold pR; omega)) (kt : s0 = 0 → PW G X 7 Q k n 77 [some (.inr a0), some (.inr a1), some (.inl a2), some (.inl a3), some (.inl a4), some (.inl a5), some (.inl a6)] (S) h) (kf : ¬ s0 = 0 → PW G X 7 Q k n 73 [some (.inr a0), some (.inr a1), some (.inl a2), some (.inl a3), some (.inl a4), some (.inl a5), some (.inl a6)] (S) h) : PW G X 7 Q k n 70 [some (.inr a0), some (.inr a1), some (.inl a2), some (.inl a3), some (.inl a4), some (.inl a5), some (.inl a6)] (.inl s0 :: S) h := by
  exact pw_if_eq C 77 dX2_mostSeen_70 (by decide) q1 kt kf
set_option maxRecDepth 20000 in
theorem B_X2_mostSeen_73 {G : Gx} {X : Cx} {h : PH} {k n : Nat} {Q : State → Prop} {S : List PV} {a0 : Nat} {a1 : Nat} {a2 : Int} {a3 : Int} {a4 : Int} {a5 : Int} {a6 : Int} (C : CX_X2_mostSeen G X) (kk : PW G X 7 Q k n 89 [some (.inr a0), some (.inr a1), some (.inl a2), some (.inl a3), some (.inl a4), some (.inl a5), some (.inl a6)] (.inl 0 :: S) h) : PW G X 7 Q k n 73 [some (.inr a0), some (.inr a1), some (.inl a2), some (.inl a3), some (.inl a4), some (.inl a5), some (.inl a6)] (S) h := by
  refine pw_iconst C dX2_mostSeen_73 ?_
  refine pw_goto C 89 dX2_mostSeen_74 (by decide) ?_
  exact kk
set_option maxRecDepth 20000 in
theorem B_X2_mostSeen_77 {G : Gx} {X : Cx} {h : PH} {k n : Nat} {Q : State → Prop} {S : List PV} {a0 : Nat} {a1 : Nat} {a2 : Int} {a3 : Int} {a4 : Int} {a5 : Int} {a6 : Int} (C : CX_X2_mostSeen G X) (q1 : pR ((a4 + 1024) - 1) := by first | assumption | (unfold pR; omega)) (q2 : pR 1024 := by first | assumption | (unfold pR; omega)) (q3 : (0 : Int) ≤ (a4 + 1024) - 1 := by first | assumption | omega) (q4 : (0 : Int) < 1024 := by first | assumption | omega) (kk : PW G X 7 Q k n 89 [some (.inr a0), some (.inr a1), some (.inl a2), some (.inl a3), some (.inl a4), some (.inl a5), some (.inl a6)] (.inl (((a4 + 1024) - 1) / 1024) :: S) h) : PW G X 7 Q k n 77 [some (.inr a0), some (.inr a1), some (.inl a2), some (.inl a3), some (.inl a4), some (.inl a5), some (.inl a6)] (S) h := by
  refine pw_iload C dX2_mostSeen_77 rfl ?_
  refine pw_sipush C dX2_mostSeen_79 rfl ?_
  refine pw_iadd C dX2_mostSeen_82 ?_
  refine pw_iconst C dX2_mostSeen_83 ?_
  refine pw_isub C dX2_mostSeen_84 ?_
  refine pw_sipush C dX2_mostSeen_85 rfl ?_
  refine pw_idiv C dX2_mostSeen_88 q1 q2 q3 q4 ?_
  exact kk
set_option maxRecDepth 20000 in
theorem B_X2_mostSeen_89 {G : Gx} {X : Cx} {h : PH} {k n : Nat} {a0 : Nat} {a1 : Nat} {a2 : Int} {a3 : Int} {a4 : Int} {a5 : Int} {a6 : Int} {s0 : Int} {PQ : Option PV → PH → Prop} (C : CX_X2_mostSeen G X) (hq : PQ (some (.inl s0)) h) : PW G X 7 (pw_E G X PQ k n) k n 89 [some (.inr a0), some (.inr a1), some (.inl a2), some (.inl a3), some (.inl a4), some (.inl a5), some (.inl a6)] [.inl s0] h := by
  exact pw_ireturn C dX2_mostSeen_89 hq
theorem dX2_lowWind_0 : decode cX2_lowWind 0 = .ok (.iconst 0, 1) := by decide +kernel
theorem dX2_lowWind_1 : decode cX2_lowWind 1 = .ok (.aload_n 0, 1) := by decide +kernel
theorem dX2_lowWind_2 : decode cX2_lowWind 2 = .ok (.getfield 51, 3) := by decide +kernel
theorem dX2_lowWind_5 : decode cX2_lowWind 5 = .ok (.getfield 126, 3) := by decide +kernel
theorem dX2_lowWind_8 : decode cX2_lowWind 8 = .ok (.aload_n 0, 1) := by decide +kernel
theorem dX2_lowWind_9 : decode cX2_lowWind 9 = .ok (.getfield 51, 3) := by decide +kernel
theorem dX2_lowWind_12 : decode cX2_lowWind 12 = .ok (.getfield 129, 3) := by decide +kernel
theorem dX2_lowWind_15 : decode cX2_lowWind 15 = .ok (.iadd, 1) := by decide +kernel
theorem dX2_lowWind_16 : decode cX2_lowWind 16 = .ok (.iload_n 1, 1) := by decide +kernel
theorem dX2_lowWind_17 : decode cX2_lowWind 17 = .ok (.aload_n 0, 1) := by decide +kernel
theorem dX2_lowWind_18 : decode cX2_lowWind 18 = .ok (.getfield 51, 3) := by decide +kernel
theorem dX2_lowWind_21 : decode cX2_lowWind 21 = .ok (.getfield 164, 3) := by decide +kernel
theorem dX2_lowWind_24 : decode cX2_lowWind 24 = .ok (.imul, 1) := by decide +kernel
theorem dX2_lowWind_25 : decode cX2_lowWind 25 = .ok (.isub, 1) := by decide +kernel
theorem dX2_lowWind_26 : decode cX2_lowWind 26 = .ok (.invokestatic 170, 3) := by decide +kernel
theorem dX2_lowWind_29 : decode cX2_lowWind 29 = .ok (.ireturn, 1) := by decide +kernel
set_option maxRecDepth 20000 in
theorem B_X2_lowWind_0 {G : Gx} {X : Cx} {h : PH} {k n : Nat} {a0 : Nat} {a1 : Int} {r2 : Nat} {x5 : Int} {r8 : Nat} {x11 : Int} {r14 : Nat} {x17 : Int} {x21 : Int} {PQ : Option PV → PH → Prop} (C : CX_X2_lowWind G X) (hk0 : k ≤ 0 := by decide) (hn0 : n ≤ 0 := by decide) (t1 : ph_T h a0 = 2 := by first | assumption | rfl) (e3 : ph_R h a0 6 = r2 := by first | assumption | rfl) (t4 : ph_T h r2 = 1 := by first | assumption | rfl) (e6 : ph_I h r2 0 = x5 := by first | assumption | rfl) (t7 : ph_T h a0 = 2 := by first | assumption | rfl) (e9 : ph_R h a0 6 = r8 := by first | assumption | rfl) (t10 : ph_T h r8 = 1 := by first | assumption | rfl) (e12 : ph_I h r8 3 = x11 := by first | assumption | rfl) (t13 : ph_T h a0 = 2 := by first | assumption | rfl) (e15 : ph_R h a0 6 = r14 := by first | assumption | rfl) (t16 : ph_T h r14 = 1 := by first | assumption | rfl) (e18 : ph_I h r14 4 = x17 := by first | assumption | rfl) (q19 : pR 0 := by first | assumption | (unfold pR; omega)) (q20 : pR ((x5 + x11) - (a1 * x17)) := by first | assumption | (unfold pR; omega))  (e22 : (if 0 < (x5 + x11) - (a1 * x17) then (x5 + x11) - (a1 * x17) else 0) = x21 := by first | assumption | rfl) (hq : PQ (some (.inl x21)) h) : PW G X 2 (pw_E G X PQ k n) k n 0 [some (.inr a0), some (.inl a1)] [] h := by
  refine pw_iconst C dX2_lowWind_0 ?_
  refine pw_aload_n C dX2_lowWind_1 rfl ?_
  refine pw_getR C (t := 2) (f := 6) rfl inF2 rfl (by decide) (by decide) rfl kw282 dX2_lowWind_2 t1 ?_
  rw [e3]
  refine pw_getI C (t := 1) (f := 0) rfl inF1 rfl (by decide) (by decide) rfl kw151 dX2_lowWind_5 t4 ?_
  rw [e6]
  refine pw_aload_n C dX2_lowWind_8 rfl ?_
  refine pw_getR C (t := 2) (f := 6) rfl inF2 rfl (by decide) (by decide) rfl kw282 dX2_lowWind_9 t7 ?_
  rw [e9]
  refine pw_getI C (t := 1) (f := 3) rfl inF1 rfl (by decide) (by decide) rfl kw161 dX2_lowWind_12 t10 ?_
  rw [e12]
  refine pw_iadd C dX2_lowWind_15 ?_
  refine pw_iload_n C dX2_lowWind_16 rfl ?_
  refine pw_aload_n C dX2_lowWind_17 rfl ?_
  refine pw_getR C (t := 2) (f := 6) rfl inF2 rfl (by decide) (by decide) rfl kw282 dX2_lowWind_18 t13 ?_
  rw [e15]
  refine pw_getI C (t := 1) (f := 4) rfl inF1 rfl (by decide) (by decide) rfl kw164 dX2_lowWind_21 t16 ?_
  rw [e18]
  refine pw_imul C dX2_lowWind_24 ?_
  refine pw_isub C dX2_lowWind_25 ?_
  refine pw_max C kw484 kw485 kw46 kwMax dX2_lowWind_26 (by decide) (Nat.le_of_ble_eq_true rfl) hk0 hn0 q19 q20 ?_
  rw [e22]
  exact pw_ireturn C dX2_lowWind_29 hq
theorem dX2_highWind_0 : decode cX2_highWind 0 = .ok (.iconst 2, 1) := by decide +kernel
theorem dX2_highWind_1 : decode cX2_highWind 1 = .ok (.aload_n 0, 1) := by decide +kernel
theorem dX2_highWind_2 : decode cX2_highWind 2 = .ok (.getfield 51, 3) := by decide +kernel
theorem dX2_highWind_5 : decode cX2_highWind 5 = .ok (.getfield 129, 3) := by decide +kernel
theorem dX2_highWind_8 : decode cX2_highWind 8 = .ok (.imul, 1) := by decide +kernel
theorem dX2_highWind_9 : decode cX2_highWind 9 = .ok (.aload_n 0, 1) := by decide +kernel
theorem dX2_highWind_10 : decode cX2_highWind 10 = .ok (.getfield 51, 3) := by decide +kernel
theorem dX2_highWind_13 : decode cX2_highWind 13 = .ok (.getfield 126, 3) := by decide +kernel
theorem dX2_highWind_16 : decode cX2_highWind 16 = .ok (.aload_n 0, 1) := by decide +kernel
theorem dX2_highWind_17 : decode cX2_highWind 17 = .ok (.getfield 51, 3) := by decide +kernel
theorem dX2_highWind_20 : decode cX2_highWind 20 = .ok (.getfield 129, 3) := by decide +kernel
theorem dX2_highWind_23 : decode cX2_highWind 23 = .ok (.iadd, 1) := by decide +kernel
theorem dX2_highWind_24 : decode cX2_highWind 24 = .ok (.iload_n 1, 1) := by decide +kernel
theorem dX2_highWind_25 : decode cX2_highWind 25 = .ok (.aload_n 0, 1) := by decide +kernel
theorem dX2_highWind_26 : decode cX2_highWind 26 = .ok (.getfield 51, 3) := by decide +kernel
theorem dX2_highWind_29 : decode cX2_highWind 29 = .ok (.getfield 164, 3) := by decide +kernel
theorem dX2_highWind_32 : decode cX2_highWind 32 = .ok (.imul, 1) := by decide +kernel
theorem dX2_highWind_33 : decode cX2_highWind 33 = .ok (.iadd, 1) := by decide +kernel
theorem dX2_highWind_34 : decode cX2_highWind 34 = .ok (.invokestatic 79, 3) := by decide +kernel
theorem dX2_highWind_37 : decode cX2_highWind 37 = .ok (.ireturn, 1) := by decide +kernel
set_option maxRecDepth 20000 in
theorem B_X2_highWind_0 {G : Gx} {X : Cx} {h : PH} {k n : Nat} {a0 : Nat} {a1 : Int} {r2 : Nat} {x5 : Int} {r8 : Nat} {x11 : Int} {r14 : Nat} {x17 : Int} {r20 : Nat} {x23 : Int} {x27 : Int} {PQ : Option PV → PH → Prop} (C : CX_X2_highWind G X) (hk0 : k ≤ 0 := by decide) (hn0 : n ≤ 0 := by decide) (t1 : ph_T h a0 = 2 := by first | assumption | rfl) (e3 : ph_R h a0 6 = r2 := by first | assumption | rfl) (t4 : ph_T h r2 = 1 := by first | assumption | rfl) (e6 : ph_I h r2 3 = x5 := by first | assumption | rfl) (t7 : ph_T h a0 = 2 := by first | assumption | rfl) (e9 : ph_R h a0 6 = r8 := by first | assumption | rfl) (t10 : ph_T h r8 = 1 := by first | assumption | rfl) (e12 : ph_I h r8 0 = x11 := by first | assumption | rfl) (t13 : ph_T h a0 = 2 := by first | assumption | rfl) (e15 : ph_R h a0 6 = r14 := by first | assumption | rfl) (t16 : ph_T h r14 = 1 := by first | assumption | rfl) (e18 : ph_I h r14 3 = x17 := by first | assumption | rfl) (t19 : ph_T h a0 = 2 := by first | assumption | rfl) (e21 : ph_R h a0 6 = r20 := by first | assumption | rfl) (t22 : ph_T h r20 = 1 := by first | assumption | rfl) (e24 : ph_I h r20 4 = x23 := by first | assumption | rfl) (q25 : pR (2 * x5) := by first | assumption | (unfold pR; omega)) (q26 : pR ((x11 + x17) + (a1 * x23)) := by first | assumption | (unfold pR; omega))  (e28 : (if (x11 + x17) + (a1 * x23) < 2 * x5 then (x11 + x17) + (a1 * x23) else 2 * x5) = x27 := by first | assumption | rfl) (hq : PQ (some (.inl x27)) h) : PW G X 2 (pw_E G X PQ k n) k n 0 [some (.inr a0), some (.inl a1)] [] h := by
  refine pw_iconst C dX2_highWind_0 ?_
  refine pw_aload_n C dX2_highWind_1 rfl ?_
  refine pw_getR C (t := 2) (f := 6) rfl inF2 rfl (by decide) (by decide) rfl kw282 dX2_highWind_2 t1 ?_
  rw [e3]
  refine pw_getI C (t := 1) (f := 3) rfl inF1 rfl (by decide) (by decide) rfl kw161 dX2_highWind_5 t4 ?_
  rw [e6]
  refine pw_imul C dX2_highWind_8 ?_
  refine pw_aload_n C dX2_highWind_9 rfl ?_
  refine pw_getR C (t := 2) (f := 6) rfl inF2 rfl (by decide) (by decide) rfl kw282 dX2_highWind_10 t7 ?_
  rw [e9]
  refine pw_getI C (t := 1) (f := 0) rfl inF1 rfl (by decide) (by decide) rfl kw151 dX2_highWind_13 t10 ?_
  rw [e12]
  refine pw_aload_n C dX2_highWind_16 rfl ?_
  refine pw_getR C (t := 2) (f := 6) rfl inF2 rfl (by decide) (by decide) rfl kw282 dX2_highWind_17 t13 ?_
  rw [e15]
  refine pw_getI C (t := 1) (f := 3) rfl inF1 rfl (by decide) (by decide) rfl kw161 dX2_highWind_20 t16 ?_
  rw [e18]
  refine pw_iadd C dX2_highWind_23 ?_
  refine pw_iload_n C dX2_highWind_24 rfl ?_
  refine pw_aload_n C dX2_highWind_25 rfl ?_
  refine pw_getR C (t := 2) (f := 6) rfl inF2 rfl (by decide) (by decide) rfl kw282 dX2_highWind_26 t19 ?_
  rw [e21]
  refine pw_getI C (t := 1) (f := 4) rfl inF1 rfl (by decide) (by decide) rfl kw164 dX2_highWind_29 t22 ?_
  rw [e24]
  refine pw_imul C dX2_highWind_32 ?_
  refine pw_iadd C dX2_highWind_33 ?_
  refine pw_min C kw462 kw424 kw46 kwMin dX2_highWind_34 (by decide) (Nat.le_of_ble_eq_true rfl) hk0 hn0 q25 q26 ?_
  rw [e28]
  exact pw_ireturn C dX2_highWind_37 hq
theorem dX2_cell_0 : decode cX2_cell 0 = .ok (.iload_n 0, 1) := by decide +kernel
theorem dX2_cell_1 : decode cX2_cell 1 = .ok (.sipush 511, 3) := by decide +kernel
theorem dX2_cell_4 : decode cX2_cell 4 = .ok (.imul, 1) := by decide +kernel
theorem dX2_cell_5 : decode cX2_cell 5 = .ok (.iload_n 1, 1) := by decide +kernel
theorem dX2_cell_6 : decode cX2_cell 6 = .ok (.bipush 7, 2) := by decide +kernel
theorem dX2_cell_8 : decode cX2_cell 8 = .ok (.imul, 1) := by decide +kernel
theorem dX2_cell_9 : decode cX2_cell 9 = .ok (.iadd, 1) := by decide +kernel
theorem dX2_cell_10 : decode cX2_cell 10 = .ok (.iload_n 2, 1) := by decide +kernel
theorem dX2_cell_11 : decode cX2_cell 11 = .ok (.iadd, 1) := by decide +kernel
theorem dX2_cell_12 : decode cX2_cell 12 = .ok (.ireturn, 1) := by decide +kernel
set_option maxRecDepth 20000 in
theorem B_X2_cell_0 {G : Gx} {X : Cx} {h : PH} {k n : Nat} {a0 : Int} {a1 : Int} {a2 : Int} {PQ : Option PV → PH → Prop} (C : CX_X2_cell G X) (hq : PQ (some (.inl (((a0 * 511) + (a1 * 7)) + a2))) h) : PW G X 3 (pw_E G X PQ k n) k n 0 [some (.inl a0), some (.inl a1), some (.inl a2)] [] h := by
  refine pw_iload_n C dX2_cell_0 rfl ?_
  refine pw_sipush C dX2_cell_1 rfl ?_
  refine pw_imul C dX2_cell_4 ?_
  refine pw_iload_n C dX2_cell_5 rfl ?_
  refine pw_bipush C dX2_cell_6 rfl ?_
  refine pw_imul C dX2_cell_8 ?_
  refine pw_iadd C dX2_cell_9 ?_
  refine pw_iload_n C dX2_cell_10 rfl ?_
  refine pw_iadd C dX2_cell_11 ?_
  exact pw_ireturn C dX2_cell_12 hq
theorem dX2_isDead_0 : decode cX2_isDead 0 = .ok (.iload_n 0, 1) := by decide +kernel
theorem dX2_isDead_1 : decode cX2_isDead 1 = .ok (.ldc 244, 2) := by decide +kernel
theorem dX2_isDead_3 : decode cX2_isDead 3 = .ok (.if_icmp .ge 7, 3) := by decide +kernel
theorem dX2_isDead_6 : decode cX2_isDead 6 = .ok (.iconst 1, 1) := by decide +kernel
theorem dX2_isDead_7 : decode cX2_isDead 7 = .ok (.goto 4, 3) := by decide +kernel
theorem dX2_isDead_10 : decode cX2_isDead 10 = .ok (.iconst 0, 1) := by decide +kernel
theorem dX2_isDead_11 : decode cX2_isDead 11 = .ok (.ireturn, 1) := by decide +kernel
set_option maxRecDepth 20000 in
theorem B_X2_isDead_0 {G : Gx} {X : Cx} {h : PH} {k n : Nat} {Q : State → Prop} {S : List PV} {a0 : Int} (C : CX_X2_isDead G X) (q1 : pR a0 := by first | assumption | (unfold pR; omega)) (q2 : pR (-500000) := by first | assumption | (unfold pR; omega)) (kt : (-500000) ≤ a0 → PW G X 1 Q k n 10 [some (.inl a0)] (S) h) (kf : ¬ (-500000) ≤ a0 → PW G X 1 Q k n 6 [some (.inl a0)] (S) h) : PW G X 1 Q k n 0 [some (.inl a0)] (S) h := by
  refine pw_iload_n C dX2_isDead_0 rfl ?_
  refine pw_ldc C (z := -500000) kw529 rfl dX2_isDead_1 ?_
  exact pw_icmp_ge C 10 dX2_isDead_3 (by decide) q1 q2 kt kf
set_option maxRecDepth 20000 in
theorem B_X2_isDead_6 {G : Gx} {X : Cx} {h : PH} {k n : Nat} {Q : State → Prop} {S : List PV} {a0 : Int} (C : CX_X2_isDead G X) (kk : PW G X 1 Q k n 11 [some (.inl a0)] (.inl 1 :: S) h) : PW G X 1 Q k n 6 [some (.inl a0)] (S) h := by
  refine pw_iconst C dX2_isDead_6 ?_
  refine pw_goto C 11 dX2_isDead_7 (by decide) ?_
  exact kk
set_option maxRecDepth 20000 in
theorem B_X2_isDead_10 {G : Gx} {X : Cx} {h : PH} {k n : Nat} {Q : State → Prop} {S : List PV} {a0 : Int} (C : CX_X2_isDead G X) (kk : PW G X 1 Q k n 11 [some (.inl a0)] (.inl 0 :: S) h) : PW G X 1 Q k n 10 [some (.inl a0)] (S) h := by
  refine pw_iconst C dX2_isDead_10 ?_
  exact kk
set_option maxRecDepth 20000 in
theorem B_X2_isDead_11 {G : Gx} {X : Cx} {h : PH} {k n : Nat} {a0 : Int} {s0 : Int} {PQ : Option PV → PH → Prop} (C : CX_X2_isDead G X) (q1 : (s0 : Int) = 0 ∨ (s0 : Int) = 1 := by omega) (hq : PQ (some (.inl s0)) h) : PW G X 1 (pw_E G X PQ k n) k n 11 [some (.inl a0)] [.inl s0] h := by
  exact pw_zreturn C dX2_isDead_11 q1 hq
