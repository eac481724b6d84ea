theorem dX4_init_0 : decode cX4_init 0 = .ok (.aload_n 0, 1) := by decide +kernel
theorem dX4_init_1 : decode cX4_init 1 = .ok (.invokespecial 3, 3) := by decide +kernel
theorem dX4_init_4 : decode cX4_init 4 = .ok (.aload_n 0, 1) := by decide +kernel
theorem dX4_init_5 : decode cX4_init 5 = .ok (.bipush 76, 2) := by decide +kernel
theorem dX4_init_7 : decode cX4_init 7 = .ok (.newarray .int, 2) := by decide +kernel
theorem dX4_init_9 : decode cX4_init 9 = .ok (.putfield 9, 3) := by decide +kernel
theorem dX4_init_12 : decode cX4_init 12 = .ok (.aload_n 0, 1) := by decide +kernel
theorem dX4_init_13 : decode cX4_init 13 = .ok (.bipush 76, 2) := by decide +kernel
theorem dX4_init_15 : decode cX4_init 15 = .ok (.newarray .int, 2) := by decide +kernel
theorem dX4_init_17 : decode cX4_init 17 = .ok (.putfield 15, 3) := by decide +kernel
theorem dX4_init_20 : decode cX4_init 20 = .ok (.aload_n 0, 1) := by decide +kernel
theorem dX4_init_21 : decode cX4_init 21 = .ok (.bipush 76, 2) := by decide +kernel
theorem dX4_init_23 : decode cX4_init 23 = .ok (.newarray .boolean, 2) := by decide +kernel
theorem dX4_init_25 : decode cX4_init 25 = .ok (.putfield 18, 3) := by decide +kernel
theorem dX4_init_28 : decode cX4_init 28 = .ok (.aload_n 0, 1) := by decide +kernel
theorem dX4_init_29 : decode cX4_init 29 = .ok (.bipush 17, 2) := by decide +kernel
theorem dX4_init_31 : decode cX4_init 31 = .ok (.newarray .int, 2) := by decide +kernel
theorem dX4_init_33 : decode cX4_init 33 = .ok (.putfield 22, 3) := by decide +kernel
theorem dX4_init_36 : decode cX4_init 36 = .ok (.aload_n 0, 1) := by decide +kernel
theorem dX4_init_37 : decode cX4_init 37 = .ok (.bipush 17, 2) := by decide +kernel
theorem dX4_init_39 : decode cX4_init 39 = .ok (.newarray .int, 2) := by decide +kernel
theorem dX4_init_41 : decode cX4_init 41 = .ok (.putfield 25, 3) := by decide +kernel
theorem dX4_init_44 : decode cX4_init 44 = .ok (.aload_n 0, 1) := by decide +kernel
theorem dX4_init_45 : decode cX4_init 45 = .ok (.bipush (-6), 2) := by decide +kernel
theorem dX4_init_47 : decode cX4_init 47 = .ok (.putfield 28, 3) := by decide +kernel
theorem dX4_init_50 : decode cX4_init 50 = .ok (.aload_n 0, 1) := by decide +kernel
theorem dX4_init_51 : decode cX4_init 51 = .ok (.iconst 0, 1) := by decide +kernel
theorem dX4_init_52 : decode cX4_init 52 = .ok (.putfield 32, 3) := by decide +kernel
theorem dX4_init_55 : decode cX4_init 55 = .ok (.aload_n 0, 1) := by decide +kernel
theorem dX4_init_56 : decode cX4_init 56 = .ok (.iconst 0, 1) := by decide +kernel
theorem dX4_init_57 : decode cX4_init 57 = .ok (.putfield 36, 3) := by decide +kernel
theorem dX4_init_60 : decode cX4_init 60 = .ok (.aload_n 0, 1) := by decide +kernel
theorem dX4_init_61 : decode cX4_init 61 = .ok (.iconst 0, 1) := by decide +kernel
theorem dX4_init_62 : decode cX4_init 62 = .ok (.putfield 39, 3) := by decide +kernel
theorem dX4_init_65 : decode cX4_init 65 = .ok (.aload_n 0, 1) := by decide +kernel
theorem dX4_init_66 : decode cX4_init 66 = .ok (.iconst 0, 1) := by decide +kernel
theorem dX4_init_67 : decode cX4_init 67 = .ok (.putfield 42, 3) := by decide +kernel
theorem dX4_init_70 : decode cX4_init 70 = .ok (.aload_n 0, 1) := by decide +kernel
theorem dX4_init_71 : decode cX4_init 71 = .ok (.iconst 0, 1) := by decide +kernel
theorem dX4_init_72 : decode cX4_init 72 = .ok (.putfield 45, 3) := by decide +kernel
theorem dX4_init_75 : decode cX4_init 75 = .ok (.aload_n 0, 1) := by decide +kernel
theorem dX4_init_76 : decode cX4_init 76 = .ok (.iconst 0, 1) := by decide +kernel
theorem dX4_init_77 : decode cX4_init 77 = .ok (.putfield 48, 3) := by decide +kernel
theorem dX4_init_80 : decode cX4_init 80 = .ok (.aload_n 0, 1) := by decide +kernel
theorem dX4_init_81 : decode cX4_init 81 = .ok (.bipush (-6), 2) := by decide +kernel
theorem dX4_init_83 : decode cX4_init 83 = .ok (.putfield 51, 3) := by decide +kernel
theorem dX4_init_86 : decode cX4_init 86 = .ok (.aload_n 0, 1) := by decide +kernel
theorem dX4_init_87 : decode cX4_init 87 = .ok (.bipush (-6), 2) := by decide +kernel
theorem dX4_init_89 : decode cX4_init 89 = .ok (.putfield 54, 3) := by decide +kernel
theorem dX4_init_92 : decode cX4_init 92 = .ok (.return_, 1) := by decide +kernel
set_option maxRecDepth 20000 in
theorem B_X4_init_0 {G : Gx} {X : Cx} {h : PH} {k n : Nat} {Q : State → Prop} {S : List PV} {a0 : Nat} (C : CX_X4_init G X) (q1 : 2 ≤ a0 := by first | assumption | omega) (hS : S.length ≤ 4 := by decide) (hk2 : k + 1 ≤ 5) (hn3 : n + 76 ≤ 262) (kk : PW G X 1 Q (k + 1) (n + 76) 9 [some (.inr a0)] (.inr (ph_S h + 2) :: .inr a0 :: S) (ph_new h 8 76)) : PW G X 1 Q k n 0 [some (.inr a0)] (S) h := by
  refine pw_aload_n C dX4_init_0 rfl ?_
  refine pw_objInit C q1 kw214 kw55 kwObj dX4_init_1 (by decide) (by simp only [List.length_cons]; omega) ?_
  refine pw_aload_n C dX4_init_4 rfl ?_
  refine pw_bipush C dX4_init_5 rfl ?_
  refine pw_newarr C (t := 8) (atype := .int) (by decide) (by decide) rfl kw144 rfl (fun U cA z => z) dX4_init_7 (by unfold pR; decide) (by decide) (by decide) hk2 hn3 ?_
  exact kk
set_option maxRecDepth 20000 in
theorem B_X4_init_9 {G : Gx} {X : Cx} {h : PH} {k n : Nat} {Q : State → Prop} {S : List PV} {a0 : Nat} {s0 : Nat} {s1 : Nat} (C : CX_X4_init G X) (t1 : ph_T h s1 = 4 := by first | assumption | rfl) (hk2 : k + 1 ≤ 5) (hn3 : n + 76 ≤ 262) (kk : PW G X 1 Q (k + 1) (n + 76) 17 [some (.inr a0)] (.inr (ph_S (ph_setR h s1 0 s0) + 2) :: .inr a0 :: S) (ph_new (ph_setR h s1 0 s0) 8 76)) : PW G X 1 Q k n 9 [some (.inr a0)] (.inr s0 :: .inr s1 :: S) h := by
  refine pw_putR C (t := 4) (f := 0) rfl inF4 tyX4_ok nmX4 rfl (by decide) (by decide) rfl (Or.inr ⟨rfl, rfl, rfl⟩) (Or.inr ⟨_, rfl⟩) kw215 dX4_init_9 t1 ?_
  refine pw_aload_n C dX4_init_12 rfl ?_
  refine pw_bipush C dX4_init_13 rfl ?_
  refine pw_newarr C (t := 8) (atype := .int) (by decide) (by decide) rfl kw144 rfl (fun U cA z => z) dX4_init_15 (by unfold pR; decide) (by decide) (by decide) hk2 hn3 ?_
  exact kk
set_option maxRecDepth 20000 in
theorem B_X4_init_17 {G : Gx} {X : Cx} {h : PH} {k n : Nat} {Q : State → Prop} {S : List PV} {a0 : Nat} {s0 : Nat} {s1 : Nat} (C : CX_X4_init G X) (t1 : ph_T h s1 = 4 := by first | assumption | rfl) (hk2 : k + 1 ≤ 5) (hn3 : n + 76 ≤ 262) (kk : PW G X 1 Q (k + 1) (n + 76) 25 [some (.inr a0)] (.inr (ph_S (ph_setR h s1 1 s0) + 2) :: .inr a0 :: S) (ph_new (ph_setR h s1 1 s0) 9 76)) : PW G X 1 Q k n 17 [some (.inr a0)] (.inr s0 :: .inr s1 :: S) h := by
  refine pw_putR C (t := 4) (f := 1) rfl inF4 tyX4_ok nmX4 rfl (by decide) (by decide) rfl (Or.inr ⟨rfl, rfl, rfl⟩) (Or.inr ⟨_, rfl⟩) kw217 dX4_init_17 t1 ?_
  refine pw_aload_n C dX4_init_20 rfl ?_
  refine pw_bipush C dX4_init_21 rfl ?_
  refine pw_newarr C (t := 9) (atype := .boolean) (by decide) (by decide) rfl kw275 rfl (fun U cA z => z) dX4_init_23 (by unfold pR; decide) (by decide) (by decide) hk2 hn3 ?_
  exact kk
set_option maxRecDepth 20000 in
theorem B_X4_init_25 {G : Gx} {X : Cx} {h : PH} {k n : Nat} {Q : State → Prop} {S : List PV} {a0 : Nat} {s0 : Nat} {s1 : Nat} (C : CX_X4_init G X) (t1 : ph_T h s1 = 4 := by first | assumption | rfl) (hk2 : k + 1 ≤ 5) (hn3 : n + 17 ≤ 262) (kk : PW G X 1 Q (k + 1) (n + 17) 33 [some (.inr a0)] (.inr (ph_S (ph_setR h s1 2 s0) + 2) :: .inr a0 :: S) (ph_new (ph_setR h s1 2 s0) 8 17)) : PW G X 1 Q k n 25 [some (.inr a0)] (.inr s0 :: .inr s1 :: S) h := by
  refine pw_putR C (t := 4) (f := 2) rfl inF4 tyX4_ok nmX4 rfl (by decide) (by decide) rfl (Or.inr ⟨rfl, rfl, rfl⟩) (Or.inr ⟨_, rfl⟩) kw219 dX4_init_25 t1 ?_
  refine pw_aload_n C dX4_init_28 rfl ?_
  refine pw_bipush C dX4_init_29 rfl ?_
  refine pw_newarr C (t := 8) (atype := .int) (by decide) (by decide) rfl kw144 rfl (fun U cA z => z) dX4_init_31 (by unfold pR; decide) (by decide) (by decide) hk2 hn3 ?_
  exact kk
set_option maxRecDepth 20000 in
theorem B_X4_init_33 {G : Gx} {X : Cx} {h : PH} {k n : Nat} {Q : State → Prop} {S : List PV} {a0 : Nat} {s0 : Nat} {s1 : Nat} (C : CX_X4_init G X) (t1 : ph_T h s1 = 4 := by first | assumption | rfl) (hk2 : k + 1 ≤ 5) (hn3 : n + 17 ≤ 262) (kk : PW G X 1 Q (k + 1) (n + 17) 41 [some (.inr a0)] (.inr (ph_S (ph_setR h s1 3 s0) + 2) :: .inr a0 :: S) (ph_new (ph_setR h s1 3 s0) 8 17)) : PW G X 1 Q k n 33 [some (.inr a0)] (.inr s0 :: .inr s1 :: S) h := by
  refine pw_putR C (t := 4) (f := 3) rfl inF4 tyX4_ok nmX4 rfl (by decide) (by decide) rfl (Or.inr ⟨rfl, rfl, rfl⟩) (Or.inr ⟨_, rfl⟩) kw221 dX4_init_33 t1 ?_
  refine pw_aload_n C dX4_init_36 rfl ?_
  refine pw_bipush C dX4_init_37 rfl ?_
  refine pw_newarr C (t := 8) (atype := .int) (by decide) (by decide) rfl kw144 rfl (fun U cA z => z) dX4_init_39 (by unfold pR; decide) (by decide) (by decide) hk2 hn3 ?_
  exact kk
set_option maxRecDepth 20000 in
theorem B_X4_init_41 {G : Gx} {X : Cx} {h : PH} {k n : Nat} {a0 : Nat} {s0 : Nat} {s1 : Nat} {PQ : Option PV → PH → Prop} (C : CX_X4_init G X) (t1 : ph_T h s1 = 4 := by first | assumption | rfl) (t2 : ph_T h a0 = 4 := by first | assumption | rfl) (t3 : ph_T h a0 = 4 := by first | assumption | rfl) (q4 : (0 : Int) = 0 ∨ (0 : Int) = 1 := by omega) (t5 : ph_T h a0 = 4 := by first | assumption | rfl) (q6 : (0 : Int) = 0 ∨ (0 : Int) = 1 := by omega) (t7 : ph_T h a0 = 4 := by first | assumption | rfl) (t8 : ph_T h a0 = 4 := by first | assumption | rfl) (t9 : ph_T h a0 = 4 := by first | assumption | rfl) (t10 : ph_T h a0 = 4 := by first | assumption | rfl) (t11 : ph_T h a0 = 4 := by first | assumption | rfl) (t12 : ph_T h a0 = 4 := by first | assumption | rfl) (hq : PQ none (ph_setI (ph_setI (ph_setI (ph_setI (ph_setI (ph_setI (ph_setI (ph_setI (ph_setI (ph_setR h s1 4 s0) a0 5 (-6)) a0 6 0) a0 7 0) a0 8 0) a0 9 0) a0 10 0) a0 11 0) a0 12 (-6)) a0 13 (-6))) : PW G X 1 (pw_E G X PQ k n) k n 41 [some (.inr a0)] [.inr s0, .inr s1] h := by
  refine pw_putR C (t := 4) (f := 4) rfl inF4 tyX4_ok nmX4 rfl (by decide) (by decide) rfl (Or.inr ⟨rfl, rfl, rfl⟩) (Or.inr ⟨_, rfl⟩) kw224 dX4_init_41 t1 ?_
  refine pw_aload_n C dX4_init_44 rfl ?_
  refine pw_bipush C dX4_init_45 rfl ?_
  refine pw_putI C (t := 4) (f := 5) rfl inF4 tyX4_ok nmX4 rfl (by decide) (by decide) rfl (Or.inl rfl) (Or.inl rfl) kw227 dX4_init_47 t2 ?_
  refine pw_aload_n C dX4_init_50 rfl ?_
  refine pw_iconst C dX4_init_51 ?_
  refine pw_putI C (t := 4) (f := 6) rfl inF4 tyX4_ok nmX4 rfl (by decide) (by decide) rfl (Or.inl rfl) (Or.inr ⟨rfl, q4⟩) kw229 dX4_init_52 t3 ?_
  refine pw_aload_n C dX4_init_55 rfl ?_
  refine pw_iconst C dX4_init_56 ?_
  refine pw_putI C (t := 4) (f := 7) rfl inF4 tyX4_ok nmX4 rfl (by decide) (by decide) rfl (Or.inl rfl) (Or.inr ⟨rfl, q6⟩) kw231 dX4_init_57 t5 ?_
  refine pw_aload_n C dX4_init_60 rfl ?_
  refine pw_iconst C dX4_init_61 ?_
  refine pw_putI C (t := 4) (f := 8) rfl inF4 tyX4_ok nmX4 rfl (by decide) (by decide) rfl (Or.inl rfl) (Or.inl rfl) kw233 dX4_init_62 t7 ?_
  refine pw_aload_n C dX4_init_65 rfl ?_
  refine pw_iconst C dX4_init_66 ?_
  refine pw_putI C (t := 4) (f := 9) rfl inF4 tyX4_ok nmX4 rfl (by decide) (by decide) rfl (Or.inl rfl) (Or.inl rfl) kw235 dX4_init_67 t8 ?_
  refine pw_aload_n C dX4_init_70 rfl ?_
  refine pw_iconst C dX4_init_71 ?_
  refine pw_putI C (t := 4) (f := 10) rfl inF4 tyX4_ok nmX4 rfl (by decide) (by decide) rfl (Or.inl rfl) (Or.inl rfl) kw237 dX4_init_72 t9 ?_
  refine pw_aload_n C dX4_init_75 rfl ?_
  refine pw_iconst C dX4_init_76 ?_
  refine pw_putI C (t := 4) (f := 11) rfl inF4 tyX4_ok nmX4 rfl (by decide) (by decide) rfl (Or.inl rfl) (Or.inl rfl) kw240 dX4_init_77 t10 ?_
  refine pw_aload_n C dX4_init_80 rfl ?_
  refine pw_bipush C dX4_init_81 rfl ?_
  refine pw_putI C (t := 4) (f := 12) rfl inF4 tyX4_ok nmX4 rfl (by decide) (by decide) rfl (Or.inl rfl) (Or.inl rfl) kw242 dX4_init_83 t11 ?_
  refine pw_aload_n C dX4_init_86 rfl ?_
  refine pw_bipush C dX4_init_87 rfl ?_
  refine pw_putI C (t := 4) (f := 13) rfl inF4 tyX4_ok nmX4 rfl (by decide) (by decide) rfl (Or.inl rfl) (Or.inl rfl) kw244 dX4_init_89 t12 ?_
  exact pw_vreturn C dX4_init_92 hq
theorem dX4_clear_0 : decode cX4_clear 0 = .ok (.aload_n 0, 1) := by decide +kernel
theorem dX4_clear_1 : decode cX4_clear 1 = .ok (.iload_n 1, 1) := by decide +kernel
theorem dX4_clear_2 : decode cX4_clear 2 = .ok (.putfield 28, 3) := by decide +kernel
theorem dX4_clear_5 : decode cX4_clear 5 = .ok (.aload_n 0, 1) := by decide +kernel
theorem dX4_clear_6 : decode cX4_clear 6 = .ok (.getfield 22, 3) := by decide +kernel
theorem dX4_clear_9 : decode cX4_clear 9 = .ok (.iconst 0, 1) := by decide +kernel
theorem dX4_clear_10 : decode cX4_clear 10 = .ok (.invokestatic 57, 3) := by decide +kernel
theorem dX4_clear_13 : decode cX4_clear 13 = .ok (.aload_n 0, 1) := by decide +kernel
theorem dX4_clear_14 : decode cX4_clear 14 = .ok (.getfield 25, 3) := by decide +kernel
theorem dX4_clear_17 : decode cX4_clear 17 = .ok (.iconst 0, 1) := by decide +kernel
theorem dX4_clear_18 : decode cX4_clear 18 = .ok (.invokestatic 57, 3) := by decide +kernel
theorem dX4_clear_21 : decode cX4_clear 21 = .ok (.iconst 0, 1) := by decide +kernel
theorem dX4_clear_22 : decode cX4_clear 22 = .ok (.istore_n 2, 1) := by decide +kernel
theorem dX4_clear_23 : decode cX4_clear 23 = .ok (.iload_n 2, 1) := by decide +kernel
theorem dX4_clear_24 : decode cX4_clear 24 = .ok (.bipush 76, 2) := by decide +kernel
theorem dX4_clear_26 : decode cX4_clear 26 = .ok (.if_icmp .ge 16, 3) := by decide +kernel
theorem dX4_clear_29 : decode cX4_clear 29 = .ok (.aload_n 0, 1) := by decide +kernel
theorem dX4_clear_30 : decode cX4_clear 30 = .ok (.getfield 18, 3) := by decide +kernel
theorem dX4_clear_33 : decode cX4_clear 33 = .ok (.iload_n 2, 1) := by decide +kernel
theorem dX4_clear_34 : decode cX4_clear 34 = .ok (.iconst 0, 1) := by decide +kernel
theorem dX4_clear_35 : decode cX4_clear 35 = .ok (.bastore, 1) := by decide +kernel
theorem dX4_clear_36 : decode cX4_clear 36 = .ok (.iinc 2 1, 3) := by decide +kernel
theorem dX4_clear_39 : decode cX4_clear 39 = .ok (.goto (-16), 3) := by decide +kernel
theorem dX4_clear_42 : decode cX4_clear 42 = .ok (.aload_n 0, 1) := by decide +kernel
theorem dX4_clear_43 : decode cX4_clear 43 = .ok (.iconst 0, 1) := by decide +kernel
theorem dX4_clear_44 : decode cX4_clear 44 = .ok (.putfield 32, 3) := by decide +kernel
theorem dX4_clear_47 : decode cX4_clear 47 = .ok (.aload_n 0, 1) := by decide +kernel
theorem dX4_clear_48 : decode cX4_clear 48 = .ok (.iconst 0, 1) := by decide +kernel
theorem dX4_clear_49 : decode cX4_clear 49 = .ok (.putfield 36, 3) := by decide +kernel
theorem dX4_clear_52 : decode cX4_clear 52 = .ok (.aload_n 0, 1) := by decide +kernel
theorem dX4_clear_53 : decode cX4_clear 53 = .ok (.iconst 0, 1) := by decide +kernel
theorem dX4_clear_54 : decode cX4_clear 54 = .ok (.putfield 45, 3) := by decide +kernel
theorem dX4_clear_57 : decode cX4_clear 57 = .ok (.aload_n 0, 1) := by decide +kernel
theorem dX4_clear_58 : decode cX4_clear 58 = .ok (.iconst 0, 1) := by decide +kernel
theorem dX4_clear_59 : decode cX4_clear 59 = .ok (.putfield 48, 3) := by decide +kernel
theorem dX4_clear_62 : decode cX4_clear 62 = .ok (.aload_n 0, 1) := by decide +kernel
theorem dX4_clear_63 : decode cX4_clear 63 = .ok (.bipush (-6), 2) := by decide +kernel
theorem dX4_clear_65 : decode cX4_clear 65 = .ok (.putfield 51, 3) := by decide +kernel
theorem dX4_clear_68 : decode cX4_clear 68 = .ok (.aload_n 0, 1) := by decide +kernel
theorem dX4_clear_69 : decode cX4_clear 69 = .ok (.bipush (-6), 2) := by decide +kernel
theorem dX4_clear_71 : decode cX4_clear 71 = .ok (.putfield 54, 3) := by decide +kernel
theorem dX4_clear_74 : decode cX4_clear 74 = .ok (.return_, 1) := by decide +kernel
set_option maxRecDepth 20000 in
theorem B_X4_clear_0 {G : Gx} {X : Cx} {h : PH} {k n : Nat} {Q : State → Prop} {S : List PV} {a0 : Nat} {a1 : Int} {r3 : Nat} {PQ : Option PV → PH → Prop} (C : CX_X4_clear G X) (hk0 : k ≤ 0 := by decide) (hn0 : n ≤ 0 := by decide) (t1 : ph_T h a0 = 4 := by first | assumption | rfl) (t2 : ph_T h a0 = 4 := by first | assumption | rfl) (e4 : ph_R h a0 3 = r3 := by first | assumption | rfl) (hM : CT_J7_fill_53178 G X.2.1 [.inr r3, .inl 0] (ph_setI h a0 5 a1) PQ) (hS : S.length ≤ 8 := by decide) (kk : ∀ r h', PQ r h' → PW G X 3 Q k n 13 [some (.inr a0), some (.inl a1), none] (r.toList ++ S) h') : PW G X 3 Q k n 0 [some (.inr a0), some (.inl a1), none] (S) h := by
  refine pw_aload_n C dX4_clear_0 rfl ?_
  refine pw_iload_n C dX4_clear_1 rfl ?_
  refine pw_putI C (t := 4) (f := 5) rfl inF4 tyX4_ok nmX4 rfl (by decide) (by decide) rfl (Or.inl rfl) (Or.inl rfl) kw227 dX4_clear_2 t1 ?_
  refine pw_aload_n C dX4_clear_5 rfl ?_
  refine pw_getR C (t := 4) (f := 3) rfl inF4 rfl (by decide) (by decide) rfl kw221 dX4_clear_6 t2 ?_
  rw [show ph_R (ph_setI h a0 5 a1) a0 3 = r3 from e4]
  refine pw_iconst C dX4_clear_9 ?_
  exact pw_callS C (na := 2) (As := [.inr r3, .inl 0]) (S := S) hM kw467 kw468 kw47 kw469 (by decide +kernel) rfl dX4_clear_10 (by decide) (by decide) hk0 hn0 (by first | exact hS | (simp only [List.length_cons]; omega)) kk
set_option maxRecDepth 20000 in
theorem B_X4_clear_13 {G : Gx} {X : Cx} {h : PH} {k n : Nat} {Q : State → Prop} {S : List PV} {a0 : Nat} {a1 : Int} {r2 : Nat} {PQ : Option PV → PH → Prop} (C : CX_X4_clear G X) (hk0 : k ≤ 0 := by decide) (hn0 : n ≤ 0 := by decide) (t1 : ph_T h a0 = 4 := by first | assumption | rfl) (e3 : ph_R h a0 4 = r2 := by first | assumption | rfl) (hM : CT_J7_fill_53178 G X.2.1 [.inr r2, .inl 0] h PQ) (hS : S.length ≤ 8 := by decide) (kk : ∀ r h', PQ r h' → PW G X 3 Q k n 21 [some (.inr a0), some (.inl a1), none] (r.toList ++ S) h') : PW G X 3 Q k n 13 [some (.inr a0), some (.inl a1), none] (S) h := by
  refine pw_aload_n C dX4_clear_13 rfl ?_
  refine pw_getR C (t := 4) (f := 4) rfl inF4 rfl (by decide) (by decide) rfl kw224 dX4_clear_14 t1 ?_
  rw [e3]
  refine pw_iconst C dX4_clear_17 ?_
  exact pw_callS C (na := 2) (As := [.inr r2, .inl 0]) (S := S) hM kw467 kw468 kw47 kw469 (by decide +kernel) rfl dX4_clear_18 (by decide) (by decide) hk0 hn0 (by first | exact hS | (simp only [List.length_cons]; omega)) kk
set_option maxRecDepth 20000 in
theorem B_X4_clear_21 {G : Gx} {X : Cx} {h : PH} {k n : Nat} {Q : State → Prop} {S : List PV} {a0 : Nat} {a1 : Int} (C : CX_X4_clear G X) (kk : PW G X 3 Q k n 23 [some (.inr a0), some (.inl a1), some (.inl 0)] (S) h) : PW G X 3 Q k n 21 [some (.inr a0), some (.inl a1), none] (S) h := by
  refine pw_iconst C dX4_clear_21 ?_
  refine pw_istore_n C dX4_clear_22 (by decide) ?_
  exact kk
set_option maxRecDepth 20000 in
theorem B_X4_clear_23 {G : Gx} {X : Cx} {h : PH} {k n : Nat} {Q : State → Prop} {S : List PV} {a0 : Nat} {a1 : Int} {a2 : Int} (C : CX_X4_clear G X) (q1 : pR a2 := by first | assumption | (unfold pR; omega)) (q2 : pR 76 := by first | assumption | (unfold pR; omega)) (kt : 76 ≤ a2 → PW G X 3 Q k n 42 [some (.inr a0), some (.inl a1), some (.inl a2)] (S) h) (kf : ¬ 76 ≤ a2 → PW G X 3 Q k n 29 [some (.inr a0), some (.inl a1), some (.inl a2)] (S) h) : PW G X 3 Q k n 23 [some (.inr a0), some (.inl a1), some (.inl a2)] (S) h := by
  refine pw_iload_n C dX4_clear_23 rfl ?_
  refine pw_bipush C dX4_clear_24 rfl ?_
  exact pw_icmp_ge C 42 dX4_clear_26 (by decide) q1 q2 kt kf
set_option maxRecDepth 20000 in
theorem B_X4_clear_29 {G : Gx} {X : Cx} {h : PH} {k n : Nat} {Q : State → Prop} {S : List PV} {a0 : Nat} {a1 : Int} {a2 : Int} {r2 : Nat} (C : CX_X4_clear G X) (t1 : ph_T h a0 = 4 := by first | assumption | rfl) (e3 : ph_R h a0 2 = r2 := by first | assumption | rfl) (t4 : ph_T h r2 = 9 := by first | assumption | rfl) (q5 : (0 : Int) ≤ a2 := by first | assumption | omega) (q6 : a2 < (ph_L h r2 : Int) := by first | assumption | omega) (q7 : pR a2 := by first | assumption | (unfold pR; omega)) (q8 : (0 : Int) = 0 ∨ (0 : Int) = 1 := by omega) (kk : PW G X 3 Q k n 23 [some (.inr a0), some (.inl a1), some (.inl (a2 + 1))] (S) (ph_setI h r2 (Int.toNat a2) 0)) : PW G X 3 Q k n 29 [some (.inr a0), some (.inl a1), some (.inl a2)] (S) h := by
  refine pw_aload_n C dX4_clear_29 rfl ?_
  refine pw_getR C (t := 4) (f := 2) rfl inF4 rfl (by decide) (by decide) rfl kw219 dX4_clear_30 t1 ?_
  rw [e3]
  refine pw_iload_n C dX4_clear_33 rfl ?_
  refine pw_iconst C dX4_clear_34 ?_
  refine pw_zast C dX4_clear_35 t4 q5 q6 q7 q8 ?_
  refine pw_iinc C dX4_clear_36 rfl (by decide) ?_
  refine pw_goto C 23 dX4_clear_39 (by decide) ?_
  exact kk
set_option maxRecDepth 20000 in
theorem B_X4_clear_42 {G : Gx} {X : Cx} {h : PH} {k n : Nat} {a0 : Nat} {a1 : Int} {a2 : Int} {PQ : Option PV → PH → Prop} (C : CX_X4_clear G X) (t1 : ph_T h a0 = 4 := by first | assumption | rfl) (q2 : (0 : Int) = 0 ∨ (0 : Int) = 1 := by omega) (t3 : ph_T h a0 = 4 := by first | assumption | rfl) (q4 : (0 : Int) = 0 ∨ (0 : Int) = 1 := by omega) (t5 : ph_T h a0 = 4 := by first | assumption | rfl) (t6 : ph_T h a0 = 4 := by first | assumption | rfl) (t7 : ph_T h a0 = 4 := by first | assumption | rfl) (t8 : ph_T h a0 = 4 := by first | assumption | rfl) (hq : PQ none (ph_setI (ph_setI (ph_setI (ph_setI (ph_setI (ph_setI h a0 6 0) a0 7 0) a0 10 0) a0 11 0) a0 12 (-6)) a0 13 (-6))) : PW G X 3 (pw_E G X PQ k n) k n 42 [some (.inr a0), some (.inl a1), some (.inl a2)] [] h := by
  refine pw_aload_n C dX4_clear_42 rfl ?_
  refine pw_iconst C dX4_clear_43 ?_
  refine pw_putI C (t := 4) (f := 6) rfl inF4 tyX4_ok nmX4 rfl (by decide) (by decide) rfl (Or.inl rfl) (Or.inr ⟨rfl, q2⟩) kw229 dX4_clear_44 t1 ?_
  refine pw_aload_n C dX4_clear_47 rfl ?_
  refine pw_iconst C dX4_clear_48 ?_
  refine pw_putI C (t := 4) (f := 7) rfl inF4 tyX4_ok nmX4 rfl (by decide) (by decide) rfl (Or.inl rfl) (Or.inr ⟨rfl, q4⟩) kw231 dX4_clear_49 t3 ?_
  refine pw_aload_n C dX4_clear_52 rfl ?_
  refine pw_iconst C dX4_clear_53 ?_
  refine pw_putI C (t := 4) (f := 10) rfl inF4 tyX4_ok nmX4 rfl (by decide) (by decide) rfl (Or.inl rfl) (Or.inl rfl) kw237 dX4_clear_54 t5 ?_
  refine pw_aload_n C dX4_clear_57 rfl ?_
  refine pw_iconst C dX4_clear_58 ?_
  refine pw_putI C (t := 4) (f := 11) rfl inF4 tyX4_ok nmX4 rfl (by decide) (by decide) rfl (Or.inl rfl) (Or.inl rfl) kw240 dX4_clear_59 t6 ?_
  refine pw_aload_n C dX4_clear_62 rfl ?_
  refine pw_bipush C dX4_clear_63 rfl ?_
  refine pw_putI C (t := 4) (f := 12) rfl inF4 tyX4_ok nmX4 rfl (by decide) (by decide) rfl (Or.inl rfl) (Or.inl rfl) kw242 dX4_clear_65 t7 ?_
  refine pw_aload_n C dX4_clear_68 rfl ?_
  refine pw_bipush C dX4_clear_69 rfl ?_
  refine pw_putI C (t := 4) (f := 13) rfl inF4 tyX4_ok nmX4 rfl (by decide) (by decide) rfl (Or.inl rfl) (Or.inl rfl) kw244 dX4_clear_71 t8 ?_
  exact pw_vreturn C dX4_clear_74 hq
theorem dX4_startAt_0 : decode cX4_startAt 0 = .ok (.aload_n 0, 1) := by decide +kernel
theorem dX4_startAt_1 : decode cX4_startAt 1 = .ok (.iconst 1, 1) := by decide +kernel
theorem dX4_startAt_2 : decode cX4_startAt 2 = .ok (.putfield 32, 3) := by decide +kernel
theorem dX4_startAt_5 : decode cX4_startAt 5 = .ok (.aload_n 0, 1) := by decide +kernel
theorem dX4_startAt_6 : decode cX4_startAt 6 = .ok (.iload_n 3, 1) := by decide +kernel
theorem dX4_startAt_7 : decode cX4_startAt 7 = .ok (.putfield 39, 3) := by decide +kernel
theorem dX4_startAt_10 : decode cX4_startAt 10 = .ok (.aload_n 0, 1) := by decide +kernel
theorem dX4_startAt_11 : decode cX4_startAt 11 = .ok (.iload_n 3, 1) := by decide +kernel
theorem dX4_startAt_12 : decode cX4_startAt 12 = .ok (.putfield 42, 3) := by decide +kernel
theorem dX4_startAt_15 : decode cX4_startAt 15 = .ok (.aload_n 0, 1) := by decide +kernel
theorem dX4_startAt_16 : decode cX4_startAt 16 = .ok (.getfield 9, 3) := by decide +kernel
theorem dX4_startAt_19 : decode cX4_startAt 19 = .ok (.iload_n 3, 1) := by decide +kernel
theorem dX4_startAt_20 : decode cX4_startAt 20 = .ok (.iload_n 1, 1) := by decide +kernel
theorem dX4_startAt_21 : decode cX4_startAt 21 = .ok (.iastore, 1) := by decide +kernel
theorem dX4_startAt_22 : decode cX4_startAt 22 = .ok (.aload_n 0, 1) := by decide +kernel
theorem dX4_startAt_23 : decode cX4_startAt 23 = .ok (.getfield 15, 3) := by decide +kernel
theorem dX4_startAt_26 : decode cX4_startAt 26 = .ok (.iload_n 3, 1) := by decide +kernel
theorem dX4_startAt_27 : decode cX4_startAt 27 = .ok (.iload_n 2, 1) := by decide +kernel
theorem dX4_startAt_28 : decode cX4_startAt 28 = .ok (.iastore, 1) := by decide +kernel
theorem dX4_startAt_29 : decode cX4_startAt 29 = .ok (.return_, 1) := by decide +kernel
set_option maxRecDepth 20000 in
theorem B_X4_startAt_0 {G : Gx} {X : Cx} {h : PH} {k n : Nat} {a0 : Nat} {a1 : Int} {a2 : Int} {a3 : Int} {r6 : Nat} {r14 : Nat} {PQ : Option PV → PH → Prop} (C : CX_X4_startAt G X) (t1 : ph_T h a0 = 4 := by first | assumption | rfl) (q2 : (1 : Int) = 0 ∨ (1 : Int) = 1 := by omega) (t3 : ph_T h a0 = 4 := by first | assumption | rfl) (t4 : ph_T h a0 = 4 := by first | assumption | rfl) (t5 : ph_T h a0 = 4 := by first | assumption | rfl) (e7 : ph_R h a0 0 = r6 := by first | assumption | rfl) (t8 : ph_T h r6 = 8 := by first | assumption | rfl) (q9 : (0 : Int) ≤ a3 := by first | assumption | omega) (q10 : a3 < (ph_L h r6 : Int) := by first | assumption | omega) (q11 : pR a3 := by first | assumption | (unfold pR; omega)) (t13 : ph_T h a0 = 4 := by first | assumption | rfl) (e15 : ph_R h a0 1 = r14 := by first | assumption | rfl) (t16 : ph_T h r14 = 8 := by first | assumption | rfl) (q17 : (0 : Int) ≤ a3 := by first | assumption | omega) (q18 : a3 < (ph_L h r14 : Int) := by first | assumption | omega) (q19 : pR a3 := by first | assumption | (unfold pR; omega)) (hq : PQ none (ph_setI (ph_setI (ph_setI (ph_setI (ph_setI h a0 6 1) a0 8 a3) a0 9 a3) r6 (Int.toNat a3) a1) r14 (Int.toNat a3) a2)) : PW G X 4 (pw_E G X PQ k n) k n 0 [some (.inr a0), some (.inl a1), some (.inl a2), some (.inl a3)] [] h := by
  refine pw_aload_n C dX4_startAt_0 rfl ?_
  refine pw_iconst C dX4_startAt_1 ?_
  refine pw_putI C (t := 4) (f := 6) rfl inF4 tyX4_ok nmX4 rfl (by decide) (by decide) rfl (Or.inl rfl) (Or.inr ⟨rfl, q2⟩) kw229 dX4_startAt_2 t1 ?_
  refine pw_aload_n C dX4_startAt_5 rfl ?_
  refine pw_iload_n C dX4_startAt_6 rfl ?_
  refine pw_putI C (t := 4) (f := 8) rfl inF4 tyX4_ok nmX4 rfl (by decide) (by decide) rfl (Or.inl rfl) (Or.inl rfl) kw233 dX4_startAt_7 t3 ?_
  refine pw_aload_n C dX4_startAt_10 rfl ?_
  refine pw_iload_n C dX4_startAt_11 rfl ?_
  refine pw_putI C (t := 4) (f := 9) rfl inF4 tyX4_ok nmX4 rfl (by decide) (by decide) rfl (Or.inl rfl) (Or.inl rfl) kw235 dX4_startAt_12 t4 ?_
  refine pw_aload_n C dX4_startAt_15 rfl ?_
  refine pw_getR C (t := 4) (f := 0) rfl inF4 rfl (by decide) (by decide) rfl kw215 dX4_startAt_16 t5 ?_
  rw [show ph_R (ph_setI (ph_setI (ph_setI h a0 6 1) a0 8 a3) a0 9 a3) a0 0 = r6 from e7]
  refine pw_iload_n C dX4_startAt_19 rfl ?_
  refine pw_iload_n C dX4_startAt_20 rfl ?_
  refine pw_iast C dX4_startAt_21 t8 q9 q10 q11 ?_
  refine pw_aload_n C dX4_startAt_22 rfl ?_
  refine pw_getR C (t := 4) (f := 1) rfl inF4 rfl (by decide) (by decide) rfl kw217 dX4_startAt_23 t13 ?_
  rw [show ph_R (ph_setI (ph_setI (ph_setI (ph_setI h a0 6 1) a0 8 a3) a0 9 a3) r6 (Int.toNat a3) a1) a0 1 = r14 from e15]
  refine pw_iload_n C dX4_startAt_26 rfl ?_
  refine pw_iload_n C dX4_startAt_27 rfl ?_
  refine pw_iast C dX4_startAt_28 t16 q17 q18 q19 ?_
  exact pw_vreturn C dX4_startAt_29 hq
theorem dX4_goTo_0 : decode cX4_goTo 0 = .ok (.aload_n 0, 1) := by decide +kernel
theorem dX4_goTo_1 : decode cX4_goTo 1 = .ok (.dup, 1) := by decide +kernel
theorem dX4_goTo_2 : decode cX4_goTo 2 = .ok (.getfield 48, 3) := by decide +kernel
theorem dX4_goTo_5 : decode cX4_goTo 5 = .ok (.iload_n 1, 1) := by decide +kernel
theorem dX4_goTo_6 : decode cX4_goTo 6 = .ok (.aload_n 0, 1) := by decide +kernel
theorem dX4_goTo_7 : decode cX4_goTo 7 = .ok (.getfield 9, 3) := by decide +kernel
theorem dX4_goTo_10 : decode cX4_goTo 10 = .ok (.aload_n 0, 1) := by decide +kernel
theorem dX4_goTo_11 : decode cX4_goTo 11 = .ok (.getfield 42, 3) := by decide +kernel
theorem dX4_goTo_14 : decode cX4_goTo 14 = .ok (.iaload, 1) := by decide +kernel
theorem dX4_goTo_15 : decode cX4_goTo 15 = .ok (.isub, 1) := by decide +kernel
theorem dX4_goTo_16 : decode cX4_goTo 16 = .ok (.invokestatic 63, 3) := by decide +kernel
theorem dX4_goTo_19 : decode cX4_goTo 19 = .ok (.iload_n 2, 1) := by decide +kernel
theorem dX4_goTo_20 : decode cX4_goTo 20 = .ok (.aload_n 0, 1) := by decide +kernel
theorem dX4_goTo_21 : decode cX4_goTo 21 = .ok (.getfield 15, 3) := by decide +kernel
theorem dX4_goTo_24 : decode cX4_goTo 24 = .ok (.aload_n 0, 1) := by decide +kernel
theorem dX4_goTo_25 : decode cX4_goTo 25 = .ok (.getfield 42, 3) := by decide +kernel
theorem dX4_goTo_28 : decode cX4_goTo 28 = .ok (.iaload, 1) := by decide +kernel
theorem dX4_goTo_29 : decode cX4_goTo 29 = .ok (.isub, 1) := by decide +kernel
theorem dX4_goTo_30 : decode cX4_goTo 30 = .ok (.invokestatic 63, 3) := by decide +kernel
theorem dX4_goTo_33 : decode cX4_goTo 33 = .ok (.iadd, 1) := by decide +kernel
theorem dX4_goTo_34 : decode cX4_goTo 34 = .ok (.iadd, 1) := by decide +kernel
theorem dX4_goTo_35 : decode cX4_goTo 35 = .ok (.putfield 48, 3) := by decide +kernel
theorem dX4_goTo_38 : decode cX4_goTo 38 = .ok (.aload_n 0, 1) := by decide +kernel
theorem dX4_goTo_39 : decode cX4_goTo 39 = .ok (.dup, 1) := by decide +kernel
theorem dX4_goTo_40 : decode cX4_goTo 40 = .ok (.getfield 42, 3) := by decide +kernel
theorem dX4_goTo_43 : decode cX4_goTo 43 = .ok (.iconst 1, 1) := by decide +kernel
theorem dX4_goTo_44 : decode cX4_goTo 44 = .ok (.iadd, 1) := by decide +kernel
theorem dX4_goTo_45 : decode cX4_goTo 45 = .ok (.putfield 42, 3) := by decide +kernel
theorem dX4_goTo_48 : decode cX4_goTo 48 = .ok (.aload_n 0, 1) := by decide +kernel
theorem dX4_goTo_49 : decode cX4_goTo 49 = .ok (.getfield 9, 3) := by decide +kernel
theorem dX4_goTo_52 : decode cX4_goTo 52 = .ok (.aload_n 0, 1) := by decide +kernel
theorem dX4_goTo_53 : decode cX4_goTo 53 = .ok (.getfield 42, 3) := by decide +kernel
theorem dX4_goTo_56 : decode cX4_goTo 56 = .ok (.iload_n 1, 1) := by decide +kernel
theorem dX4_goTo_57 : decode cX4_goTo 57 = .ok (.iastore, 1) := by decide +kernel
theorem dX4_goTo_58 : decode cX4_goTo 58 = .ok (.aload_n 0, 1) := by decide +kernel
theorem dX4_goTo_59 : decode cX4_goTo 59 = .ok (.getfield 15, 3) := by decide +kernel
theorem dX4_goTo_62 : decode cX4_goTo 62 = .ok (.aload_n 0, 1) := by decide +kernel
theorem dX4_goTo_63 : decode cX4_goTo 63 = .ok (.getfield 42, 3) := by decide +kernel
theorem dX4_goTo_66 : decode cX4_goTo 66 = .ok (.iload_n 2, 1) := by decide +kernel
theorem dX4_goTo_67 : decode cX4_goTo 67 = .ok (.iastore, 1) := by decide +kernel
theorem dX4_goTo_68 : decode cX4_goTo 68 = .ok (.return_, 1) := by decide +kernel
set_option maxRecDepth 20000 in
theorem B_X4_goTo_0 {G : Gx} {X : Cx} {h : PH} {k n : Nat} {a0 : Nat} {a1 : Int} {a2 : Int} {x2 : Int} {r5 : Nat} {x8 : Int} {x14 : Int} {x17 : Int} {r20 : Nat} {x23 : Int} {x29 : Int} {x32 : Int} {x36 : Int} {r40 : Nat} {x43 : Int} {r51 : Nat} {x54 : Int} {PQ : Option PV → PH → Prop} (C : CX_X4_goTo G X) (hk0 : k ≤ 0 := by decide) (hn0 : n ≤ 0 := by decide) (t1 : ph_T h a0 = 4 := by first | assumption | rfl) (e3 : ph_I h a0 11 = x2 := by first | assumption | rfl) (t4 : ph_T h a0 = 4 := by first | assumption | rfl) (e6 : ph_R h a0 0 = r5 := by first | assumption | rfl) (t7 : ph_T h a0 = 4 := by first | assumption | rfl) (e9 : ph_I h a0 9 = x8 := by first | assumption | rfl) (t10 : ph_T h r5 = 8 := by first | assumption | rfl) (q11 : (0 : Int) ≤ x8 := by first | assumption | omega) (q12 : x8 < (ph_L h r5 : Int) := by first | assumption | omega) (q13 : pR x8 := by first | assumption | (unfold pR; omega)) (e15 : ph_I h r5 (Int.toNat x8) = x14 := by first | assumption | rfl) (q16 : pR (a1 - x14) := by first | assumption | (unfold pR; omega))  (e18 : (if 0 ≤ a1 - x14 then a1 - x14 else -(a1 - x14)) = x17 := by first | assumption | rfl) (t19 : ph_T h a0 = 4 := by first | assumption | rfl) (e21 : ph_R h a0 1 = r20 := by first | assumption | rfl) (t22 : ph_T h a0 = 4 := by first | assumption | rfl) (e24 : ph_I h a0 9 = x23 := by first | assumption | rfl) (t25 : ph_T h r20 = 8 := by first | assumption | rfl) (q26 : (0 : Int) ≤ x23 := by first | assumption | omega) (q27 : x23 < (ph_L h r20 : Int) := by first | assumption | omega) (q28 : pR x23 := by first | assumption | (unfold pR; omega)) (e30 : ph_I h r20 (Int.toNat x23) = x29 := by first | assumption | rfl) (q31 : pR (a2 - x29) := by first | assumption | (unfold pR; omega)) (e33 : (if 0 ≤ a2 - x29 then a2 - x29 else -(a2 - x29)) = x32 := by first | assumption | rfl) (t34 : ph_T h a0 = 4 := by first | assumption | rfl) (t35 : ph_T h a0 = 4 := by first | assumption | rfl) (e37 : ph_I (ph_setI h a0 11 (x2 + (x17 + x32))) a0 9 = x36 := by first | assumption | rfl) (t38 : ph_T h a0 = 4 := by first | assumption | rfl) (t39 : ph_T h a0 = 4 := by first | assumption | rfl) (e41 : ph_R h a0 0 = r40 := by first | assumption | rfl) (t42 : ph_T h a0 = 4 := by first | assumption | rfl) (e44 : ph_I (ph_setI (ph_setI h a0 11 (x2 + (x17 + x32))) a0 9 (x36 + 1)) a0 9 = x43 := by first | assumption | rfl) (t45 : ph_T h r40 = 8 := by first | assumption | rfl) (q46 : (0 : Int) ≤ x43 := by first | assumption | omega) (q47 : x43 < (ph_L h r40 : Int) := by first | assumption | omega) (q48 : pR x43 := by first | assumption | (unfold pR; omega)) (t50 : ph_T h a0 = 4 := by first | assumption | rfl) (e52 : ph_R h a0 1 = r51 := by first | assumption | rfl) (t53 : ph_T h a0 = 4 := by first | assumption | rfl) (e55 : ph_I (ph_setI (ph_setI (ph_setI h a0 11 (x2 + (x17 + x32))) a0 9 (x36 + 1)) r40 (Int.toNat x43) a1) a0 9 = x54 := by first | assumption | rfl) (t56 : ph_T h r51 = 8 := by first | assumption | rfl) (q57 : (0 : Int) ≤ x54 := by first | assumption | omega) (q58 : x54 < (ph_L h r51 : Int) := by first | assumption | omega) (q59 : pR x54 := by first | assumption | (unfold pR; omega)) (hq : PQ none (ph_setI (ph_setI (ph_setI (ph_setI h a0 11 (x2 + (x17 + x32))) a0 9 (x36 + 1)) r40 (Int.toNat x43) a1) r51 (Int.toNat x54) a2)) : PW G X 3 (pw_E G X PQ k n) k n 0 [some (.inr a0), some (.inl a1), some (.inl a2)] [] h := by
  refine pw_aload_n C dX4_goTo_0 rfl ?_
  refine pw_dup C dX4_goTo_1 ?_
  refine pw_getI C (t := 4) (f := 11) rfl inF4 rfl (by decide) (by decide) rfl kw240 dX4_goTo_2 t1 ?_
  rw [e3]
  refine pw_iload_n C dX4_goTo_5 rfl ?_
  refine pw_aload_n C dX4_goTo_6 rfl ?_
  refine pw_getR C (t := 4) (f := 0) rfl inF4 rfl (by decide) (by decide) rfl kw215 dX4_goTo_7 t4 ?_
  rw [e6]
  refine pw_aload_n C dX4_goTo_10 rfl ?_
  refine pw_getI C (t := 4) (f := 9) rfl inF4 rfl (by decide) (by decide) rfl kw235 dX4_goTo_11 t7 ?_
  rw [e9]
  refine pw_iald C dX4_goTo_14 t10 q11 q12 q13 ?_
  rw [e15]
  refine pw_isub C dX4_goTo_15 ?_
  refine pw_abs C kw554 kw421 kw46 kwAbs dX4_goTo_16 (by decide) (Nat.le_of_ble_eq_true rfl) hk0 hn0 q16 ?_
  rw [e18]
  refine pw_iload_n C dX4_goTo_19 rfl ?_
  refine pw_aload_n C dX4_goTo_20 rfl ?_
  refine pw_getR C (t := 4) (f := 1) rfl inF4 rfl (by decide) (by decide) rfl kw217 dX4_goTo_21 t19 ?_
  rw [e21]
  refine pw_aload_n C dX4_goTo_24 rfl ?_
  refine pw_getI C (t := 4) (f := 9) rfl inF4 rfl (by decide) (by decide) rfl kw235 dX4_goTo_25 t22 ?_
  rw [e24]
  refine pw_iald C dX4_goTo_28 t25 q26 q27 q28 ?_
  rw [e30]
  refine pw_isub C dX4_goTo_29 ?_
  refine pw_abs C kw554 kw421 kw46 kwAbs dX4_goTo_30 (by decide) (Nat.le_of_ble_eq_true rfl) hk0 hn0 q31 ?_
  rw [e33]
  refine pw_iadd C dX4_goTo_33 ?_
  refine pw_iadd C dX4_goTo_34 ?_
  refine pw_putI C (t := 4) (f := 11) rfl inF4 tyX4_ok nmX4 rfl (by decide) (by decide) rfl (Or.inl rfl) (Or.inl rfl) kw240 dX4_goTo_35 t34 ?_
  refine pw_aload_n C dX4_goTo_38 rfl ?_
  refine pw_dup C dX4_goTo_39 ?_
  refine pw_getI C (t := 4) (f := 9) rfl inF4 rfl (by decide) (by decide) rfl kw235 dX4_goTo_40 t35 ?_
  rw [show ph_I (ph_setI h a0 11 (x2 + (x17 + x32))) a0 9 = x36 from e37]
  refine pw_iconst C dX4_goTo_43 ?_
  refine pw_iadd C dX4_goTo_44 ?_
  refine pw_putI C (t := 4) (f := 9) rfl inF4 tyX4_ok nmX4 rfl (by decide) (by decide) rfl (Or.inl rfl) (Or.inl rfl) kw235 dX4_goTo_45 t38 ?_
  refine pw_aload_n C dX4_goTo_48 rfl ?_
  refine pw_getR C (t := 4) (f := 0) rfl inF4 rfl (by decide) (by decide) rfl kw215 dX4_goTo_49 t39 ?_
  rw [show ph_R (ph_setI (ph_setI h a0 11 (x2 + (x17 + x32))) a0 9 (x36 + 1)) a0 0 = r40 from e41]
  refine pw_aload_n C dX4_goTo_52 rfl ?_
  refine pw_getI C (t := 4) (f := 9) rfl inF4 rfl (by decide) (by decide) rfl kw235 dX4_goTo_53 t42 ?_
  rw [show ph_I (ph_setI (ph_setI h a0 11 (x2 + (x17 + x32))) a0 9 (x36 + 1)) a0 9 = x43 from e44]
  refine pw_iload_n C dX4_goTo_56 rfl ?_
  refine pw_iast C dX4_goTo_57 t45 q46 q47 q48 ?_
  refine pw_aload_n C dX4_goTo_58 rfl ?_
  refine pw_getR C (t := 4) (f := 1) rfl inF4 rfl (by decide) (by decide) rfl kw217 dX4_goTo_59 t50 ?_
  rw [show ph_R (ph_setI (ph_setI (ph_setI h a0 11 (x2 + (x17 + x32))) a0 9 (x36 + 1)) r40 (Int.toNat x43) a1) a0 1 = r51 from e52]
  refine pw_aload_n C dX4_goTo_62 rfl ?_
  refine pw_getI C (t := 4) (f := 9) rfl inF4 rfl (by decide) (by decide) rfl kw235 dX4_goTo_63 t53 ?_
  rw [show ph_I (ph_setI (ph_setI (ph_setI h a0 11 (x2 + (x17 + x32))) a0 9 (x36 + 1)) r40 (Int.toNat x43) a1) a0 9 = x54 from e55]
  refine pw_iload_n C dX4_goTo_66 rfl ?_
  refine pw_iast C dX4_goTo_67 t56 q57 q58 q59 ?_
  exact pw_vreturn C dX4_goTo_68 hq
theorem dX4_see_0 : decode cX4_see 0 = .ok (.aload_n 0, 1) := by decide +kernel
theorem dX4_see_1 : decode cX4_see 1 = .ok (.getfield 18, 3) := by decide +kernel
theorem dX4_see_4 : decode cX4_see 4 = .ok (.aload_n 0, 1) := by decide +kernel
theorem dX4_see_5 : decode cX4_see 5 = .ok (.getfield 42, 3) := by decide +kernel
theorem dX4_see_8 : decode cX4_see 8 = .ok (.iconst 1, 1) := by decide +kernel
theorem dX4_see_9 : decode cX4_see 9 = .ok (.bastore, 1) := by decide +kernel
theorem dX4_see_10 : decode cX4_see 10 = .ok (.aload_n 0, 1) := by decide +kernel
theorem dX4_see_11 : decode cX4_see 11 = .ok (.dup, 1) := by decide +kernel
theorem dX4_see_12 : decode cX4_see 12 = .ok (.getfield 45, 3) := by decide +kernel
theorem dX4_see_15 : decode cX4_see 15 = .ok (.iconst 1, 1) := by decide +kernel
theorem dX4_see_16 : decode cX4_see 16 = .ok (.iadd, 1) := by decide +kernel
theorem dX4_see_17 : decode cX4_see 17 = .ok (.putfield 45, 3) := by decide +kernel
theorem dX4_see_20 : decode cX4_see 20 = .ok (.aload_n 0, 1) := by decide +kernel
theorem dX4_see_21 : decode cX4_see 21 = .ok (.aload_n 0, 1) := by decide +kernel
theorem dX4_see_22 : decode cX4_see 22 = .ok (.getfield 42, 3) := by decide +kernel
theorem dX4_see_25 : decode cX4_see 25 = .ok (.putfield 54, 3) := by decide +kernel
theorem dX4_see_28 : decode cX4_see 28 = .ok (.aload_n 0, 1) := by decide +kernel
theorem dX4_see_29 : decode cX4_see 29 = .ok (.getfield 51, 3) := by decide +kernel
theorem dX4_see_32 : decode cX4_see 32 = .ok (.bipush (-6), 2) := by decide +kernel
theorem dX4_see_34 : decode cX4_see 34 = .ok (.if_icmp .ne 11, 3) := by decide +kernel
theorem dX4_see_37 : decode cX4_see 37 = .ok (.aload_n 0, 1) := by decide +kernel
theorem dX4_see_38 : decode cX4_see 38 = .ok (.aload_n 0, 1) := by decide +kernel
theorem dX4_see_39 : decode cX4_see 39 = .ok (.getfield 42, 3) := by decide +kernel
theorem dX4_see_42 : decode cX4_see 42 = .ok (.putfield 51, 3) := by decide +kernel
theorem dX4_see_45 : decode cX4_see 45 = .ok (.return_, 1) := by decide +kernel
set_option maxRecDepth 20000 in
theorem B_X4_see_0 {G : Gx} {X : Cx} {h : PH} {k n : Nat} {Q : State → Prop} {S : List PV} {a0 : Nat} {r2 : Nat} {x5 : Int} {x13 : Int} {x17 : Int} {x21 : Int} (C : CX_X4_see G X) (t1 : ph_T h a0 = 4 := by first | assumption | rfl) (e3 : ph_R h a0 2 = r2 := by first | assumption | rfl) (t4 : ph_T h a0 = 4 := by first | assumption | rfl) (e6 : ph_I h a0 9 = x5 := by first | assumption | rfl) (t7 : ph_T h r2 = 9 := by first | assumption | rfl) (q8 : (0 : Int) ≤ x5 := by first | assumption | omega) (q9 : x5 < (ph_L h r2 : Int) := by first | assumption | omega) (q10 : pR x5 := by first | assumption | (unfold pR; omega)) (q11 : (1 : Int) = 0 ∨ (1 : Int) = 1 := by omega) (t12 : ph_T h a0 = 4 := by first | assumption | rfl) (e14 : ph_I (ph_setI h r2 (Int.toNat x5) 1) a0 10 = x13 := by first | assumption | rfl) (t15 : ph_T h a0 = 4 := by first | assumption | rfl) (t16 : ph_T h a0 = 4 := by first | assumption | rfl) (e18 : ph_I (ph_setI (ph_setI h r2 (Int.toNat x5) 1) a0 10 (x13 + 1)) a0 9 = x17 := by first | assumption | rfl) (t19 : ph_T h a0 = 4 := by first | assumption | rfl) (t20 : ph_T h a0 = 4 := by first | assumption | rfl) (e22 : ph_I (ph_setI (ph_setI (ph_setI h r2 (Int.toNat x5) 1) a0 10 (x13 + 1)) a0 13 x17) a0 12 = x21 := by first | assumption | rfl) (q23 : pR x21 := by first | assumption | (unfold pR; omega)) (q24 : pR (-6) := by first | assumption | (unfold pR; omega)) (kt : ¬ x21 = (-6) → PW G X 1 Q k n 45 [some (.inr a0)] (S) (ph_setI (ph_setI (ph_setI h r2 (Int.toNat x5) 1) a0 10 (x13 + 1)) a0 13 x17)) (kf : x21 = (-6) → PW G X 1 Q k n 37 [some (.inr a0)] (S) (ph_setI (ph_setI (ph_setI h r2 (Int.toNat x5) 1) a0 10 (x13 + 1)) a0 13 x17)) : PW G X 1 Q k n 0 [some (.inr a0)] (S) h := by
  refine pw_aload_n C dX4_see_0 rfl ?_
  refine pw_getR C (t := 4) (f := 2) rfl inF4 rfl (by decide) (by decide) rfl kw219 dX4_see_1 t1 ?_
  rw [e3]
  refine pw_aload_n C dX4_see_4 rfl ?_
  refine pw_getI C (t := 4) (f := 9) rfl inF4 rfl (by decide) (by decide) rfl kw235 dX4_see_5 t4 ?_
  rw [e6]
  refine pw_iconst C dX4_see_8 ?_
  refine pw_zast C dX4_see_9 t7 q8 q9 q10 q11 ?_
  refine pw_aload_n C dX4_see_10 rfl ?_
  refine pw_dup C dX4_see_11 ?_
  refine pw_getI C (t := 4) (f := 10) rfl inF4 rfl (by decide) (by decide) rfl kw237 dX4_see_12 t12 ?_
  rw [show ph_I (ph_setI h r2 (Int.toNat x5) 1) a0 10 = x13 from e14]
  refine pw_iconst C dX4_see_15 ?_
  refine pw_iadd C dX4_see_16 ?_
  refine pw_putI C (t := 4) (f := 10) rfl inF4 tyX4_ok nmX4 rfl (by decide) (by decide) rfl (Or.inl rfl) (Or.inl rfl) kw237 dX4_see_17 t15 ?_
  refine pw_aload_n C dX4_see_20 rfl ?_
  refine pw_aload_n C dX4_see_21 rfl ?_
  refine pw_getI C (t := 4) (f := 9) rfl inF4 rfl (by decide) (by decide) rfl kw235 dX4_see_22 t16 ?_
  rw [show ph_I (ph_setI (ph_setI h r2 (Int.toNat x5) 1) a0 10 (x13 + 1)) a0 9 = x17 from e18]
  refine pw_putI C (t := 4) (f := 13) rfl inF4 tyX4_ok nmX4 rfl (by decide) (by decide) rfl (Or.inl rfl) (Or.inl rfl) kw244 dX4_see_25 t19 ?_
  refine pw_aload_n C dX4_see_28 rfl ?_
  refine pw_getI C (t := 4) (f := 12) rfl inF4 rfl (by decide) (by decide) rfl kw242 dX4_see_29 t20 ?_
  rw [show ph_I (ph_setI (ph_setI (ph_setI h r2 (Int.toNat x5) 1) a0 10 (x13 + 1)) a0 13 x17) a0 12 = x21 from e22]
  refine pw_bipush C dX4_see_32 rfl ?_
  exact pw_icmp_ne C 45 dX4_see_34 (by decide) q23 q24 kt kf
set_option maxRecDepth 20000 in
theorem B_X4_see_37 {G : Gx} {X : Cx} {h : PH} {k n : Nat} {Q : State → Prop} {S : List PV} {a0 : Nat} {x2 : Int} (C : CX_X4_see G X) (t1 : ph_T h a0 = 4 := by first | assumption | rfl) (e3 : ph_I h a0 9 = x2 := by first | assumption | rfl) (t4 : ph_T h a0 = 4 := by first | assumption | rfl) (kk : PW G X 1 Q k n 45 [some (.inr a0)] (S) (ph_setI h a0 12 x2)) : PW G X 1 Q k n 37 [some (.inr a0)] (S) h := by
  refine pw_aload_n C dX4_see_37 rfl ?_
  refine pw_aload_n C dX4_see_38 rfl ?_
  refine pw_getI C (t := 4) (f := 9) rfl inF4 rfl (by decide) (by decide) rfl kw235 dX4_see_39 t1 ?_
  rw [e3]
  refine pw_putI C (t := 4) (f := 12) rfl inF4 tyX4_ok nmX4 rfl (by decide) (by decide) rfl (Or.inl rfl) (Or.inl rfl) kw242 dX4_see_42 t4 ?_
  exact kk
set_option maxRecDepth 20000 in
theorem B_X4_see_45 {G : Gx} {X : Cx} {h : PH} {k n : Nat} {a0 : Nat} {PQ : Option PV → PH → Prop} (C : CX_X4_see G X) (hq : PQ none h) : PW G X 1 (pw_E G X PQ k n) k n 45 [some (.inr a0)] [] h := by
  exact pw_vreturn C dX4_see_45 hq
theorem dX4_isBetterThan_0 : decode cX4_isBetterThan 0 = .ok (.aload_n 0, 1) := by decide +kernel
theorem dX4_isBetterThan_1 : decode cX4_isBetterThan 1 = .ok (.getfield 45, 3) := by decide +kernel
theorem dX4_isBetterThan_4 : decode cX4_isBetterThan 4 = .ok (.aload_n 1, 1) := by decide +kernel
theorem dX4_isBetterThan_5 : decode cX4_isBetterThan 5 = .ok (.getfield 45, 3) := by decide +kernel
theorem dX4_isBetterThan_8 : decode cX4_isBetterThan 8 = .ok (.if_icmp .gt 25, 3) := by decide +kernel
theorem dX4_isBetterThan_11 : decode cX4_isBetterThan 11 = .ok (.aload_n 0, 1) := by decide +kernel
theorem dX4_isBetterThan_12 : decode cX4_isBetterThan 12 = .ok (.getfield 45, 3) := by decide +kernel
theorem dX4_isBetterThan_15 : decode cX4_isBetterThan 15 = .ok (.aload_n 1, 1) := by decide +kernel
theorem dX4_isBetterThan_16 : decode cX4_isBetterThan 16 = .ok (.getfield 45, 3) := by decide +kernel
theorem dX4_isBetterThan_19 : decode cX4_isBetterThan 19 = .ok (.if_icmp .ne 18, 3) := by decide +kernel
theorem dX4_isBetterThan_22 : decode cX4_isBetterThan 22 = .ok (.aload_n 0, 1) := by decide +kernel
theorem dX4_isBetterThan_23 : decode cX4_isBetterThan 23 = .ok (.getfield 48, 3) := by decide +kernel
theorem dX4_isBetterThan_26 : decode cX4_isBetterThan 26 = .ok (.aload_n 1, 1) := by decide +kernel
theorem dX4_isBetterThan_27 : decode cX4_isBetterThan 27 = .ok (.getfield 48, 3) := by decide +kernel
theorem dX4_isBetterThan_30 : decode cX4_isBetterThan 30 = .ok (.if_icmp .ge 7, 3) := by decide +kernel
theorem dX4_isBetterThan_33 : decode cX4_isBetterThan 33 = .ok (.iconst 1, 1) := by decide +kernel
theorem dX4_isBetterThan_34 : decode cX4_isBetterThan 34 = .ok (.goto 4, 3) := by decide +kernel
theorem dX4_isBetterThan_37 : decode cX4_isBetterThan 37 = .ok (.iconst 0, 1) := by decide +kernel
theorem dX4_isBetterThan_38 : decode cX4_isBetterThan 38 = .ok (.ireturn, 1) := by decide +kernel
set_option maxRecDepth 20000 in
theorem B_X4_isBetterThan_0 {G : Gx} {X : Cx} {h : PH} {k n : Nat} {Q : State → Prop} {S : List PV} {a0 : Nat} {a1 : Nat} {x2 : Int} {x5 : Int} (C : CX_X4_isBetterThan G X) (t1 : ph_T h a0 = 4 := by first | assumption | rfl) (e3 : ph_I h a0 10 = x2 := by first | assumption | rfl) (t4 : ph_T h a1 = 4 := by first | assumption | rfl) (e6 : ph_I h a1 10 = x5 := by first | assumption | rfl) (q7 : pR x2 := by first | assumption | (unfold pR; omega)) (q8 : pR x5 := by first | assumption | (unfold pR; omega)) (kt : x5 < x2 → PW G X 2 Q k n 33 [some (.inr a0), some (.inr a1)] (S) h) (kf : ¬ x5 < x2 → PW G X 2 Q k n 11 [some (.inr a0), some (.inr a1)] (S) h) : PW G X 2 Q k n 0 [some (.inr a0), some (.inr a1)] (S) h := by
  refine pw_aload_n C dX4_isBetterThan_0 rfl ?_
  refine pw_getI C (t := 4) (f := 10) rfl inF4 rfl (by decide) (by decide) rfl kw237 dX4_isBetterThan_1 t1 ?_
  rw [e3]
  refine pw_aload_n C dX4_isBetterThan_4 rfl ?_
  refine pw_getI C (t := 4) (f := 10) rfl inF4 rfl (by decide) (by decide) rfl kw237 dX4_isBetterThan_5 t4 ?_
  rw [e6]
  exact pw_icmp_gt C 33 dX4_isBetterThan_8 (by decide) q7 q8 kt kf
set_option maxRecDepth 20000 in
theorem B_X4_isBetterThan_11 {G : Gx} {X : Cx} {h : PH} {k n : Nat} {Q : State → Prop} {S : List PV} {a0 : Nat} {a1 : Nat} {x2 : Int} {x5 : Int} (C : CX_X4_isBetterThan G X) (t1 : ph_T h a0 = 4 := by first | assumption | rfl) (e3 : ph_I h a0 10 = x2 := by first | assumption | rfl) (t4 : ph_T h a1 = 4 := by first | assumption | rfl) (e6 : ph_I h a1 10 = x5 := by first | assumption | rfl) (q7 : pR x2 := by first | assumption | (unfold pR; omega)) (q8 : pR x5 := by first | assumption | (unfold pR; omega)) (kt : ¬ x2 = x5 → PW G X 2 Q k n 37 [some (.inr a0), some (.inr a1)] (S) h) (kf : x2 = x5 → PW G X 2 Q k n 22 [some (.inr a0), some (.inr a1)] (S) h) : PW G X 2 Q k n 11 [some (.inr a0), some (.inr a1)] (S) h := by
  refine pw_aload_n C dX4_isBetterThan_11 rfl ?_
  refine pw_getI C (t := 4) (f := 10) rfl inF4 rfl (by decide) (by decide) rfl kw237 dX4_isBetterThan_12 t1 ?_
  rw [e3]
  refine pw_aload_n C dX4_isBetterThan_15 rfl ?_
  refine pw_getI C (t := 4) (f := 10) rfl inF4 rfl (by decide) (by decide) rfl kw237 dX4_isBetterThan_16 t4 ?_
  rw [e6]
  exact pw_icmp_ne C 37 dX4_isBetterThan_19 (by decide) q7 q8 kt kf
set_option maxRecDepth 20000 in
theorem B_X4_isBetterThan_22 {G : Gx} {X : Cx} {h : PH} {k n : Nat} {Q : State → Prop} {S : List PV} {a0 : Nat} {a1 : Nat} {x2 : Int} {x5 : Int} (C : CX_X4_isBetterThan G X) (t1 : ph_T h a0 = 4 := by first | assumption | rfl) (e3 : ph_I h a0 11 = x2 := by first | assumption | rfl) (t4 : ph_T h a1 = 4 := by first | assumption | rfl) (e6 : ph_I h a1 11 = x5 := by first | assumption | rfl) (q7 : pR x2 := by first | assumption | (unfold pR; omega)) (q8 : pR x5 := by first | assumption | (unfold pR; omega)) (kt : x5 ≤ x2 → PW G X 2 Q k n 37 [some (.inr a0), some (.inr a1)] (S) h) (kf : ¬ x5 ≤ x2 → PW G X 2 Q k n 33 [some (.inr a0), some (.inr a1)] (S) h) : PW G X 2 Q k n 22 [some (.inr a0), some (.inr a1)] (S) h := by
  refine pw_aload_n C dX4_isBetterThan_22 rfl ?_
  refine pw_getI C (t := 4) (f := 11) rfl inF4 rfl (by decide) (by decide) rfl kw240 dX4_isBetterThan_23 t1 ?_
  rw [e3]
  refine pw_aload_n C dX4_isBetterThan_26 rfl ?_
  refine pw_getI C (t := 4) (f := 11) rfl inF4 rfl (by decide) (by decide) rfl kw240 dX4_isBetterThan_27 t4 ?_
  rw [e6]
  exact pw_icmp_ge C 37 dX4_isBetterThan_30 (by decide) q7 q8 kt kf
set_option maxRecDepth 20000 in
theorem B_X4_isBetterThan_33 {G : Gx} {X : Cx} {h : PH} {k n : Nat} {Q : State → Prop} {S : List PV} {a0 : Nat} {a1 : Nat} (C : CX_X4_isBetterThan G X) (kk : PW G X 2 Q k n 38 [some (.inr a0), some (.inr a1)] (.inl 1 :: S) h) : PW G X 2 Q k n 33 [some (.inr a0), some (.inr a1)] (S) h := by
  refine pw_iconst C dX4_isBetterThan_33 ?_
  refine pw_goto C 38 dX4_isBetterThan_34 (by decide) ?_
  exact kk
set_option maxRecDepth 20000 in
theorem B_X4_isBetterThan_37 {G : Gx} {X : Cx} {h : PH} {k n : Nat} {Q : State → Prop} {S : List PV} {a0 : Nat} {a1 : Nat} (C : CX_X4_isBetterThan G X) (kk : PW G X 2 Q k n 38 [some (.inr a0), some (.inr a1)] (.inl 0 :: S) h) : PW G X 2 Q k n 37 [some (.inr a0), some (.inr a1)] (S) h := by
  refine pw_iconst C dX4_isBetterThan_37 ?_
  exact kk
set_option maxRecDepth 20000 in
theorem B_X4_isBetterThan_38 {G : Gx} {X : Cx} {h : PH} {k n : Nat} {a0 : Nat} {a1 : Nat} {s0 : Int} {PQ : Option PV → PH → Prop} (C : CX_X4_isBetterThan G X) (q1 : (s0 : Int) = 0 ∨ (s0 : Int) = 1 := by omega) (hq : PQ (some (.inl s0)) h) : PW G X 2 (pw_E G X PQ k n) k n 38 [some (.inr a0), some (.inr a1)] [.inl s0] h := by
  exact pw_zreturn C dX4_isBetterThan_38 q1 hq
