theorem dX7_init_0 : decode cX7_init 0 = .ok (.aload_n 0, 1) := by decide +kernel
theorem dX7_init_1 : decode cX7_init 1 = .ok (.invokespecial 1, 3) := by decide +kernel
theorem dX7_init_4 : decode cX7_init 4 = .ok (.aload_n 0, 1) := by decide +kernel
theorem dX7_init_5 : decode cX7_init 5 = .ok (.sipush 492, 3) := by decide +kernel
theorem dX7_init_8 : decode cX7_init 8 = .ok (.newarray .int, 2) := by decide +kernel
theorem dX7_init_10 : decode cX7_init 10 = .ok (.putfield 7, 3) := by decide +kernel
theorem dX7_init_13 : decode cX7_init 13 = .ok (.aload_n 0, 1) := by decide +kernel
theorem dX7_init_14 : decode cX7_init 14 = .ok (.sipush 984, 3) := by decide +kernel
theorem dX7_init_17 : decode cX7_init 17 = .ok (.newarray .int, 2) := by decide +kernel
theorem dX7_init_19 : decode cX7_init 19 = .ok (.putfield 13, 3) := by decide +kernel
theorem dX7_init_22 : decode cX7_init 22 = .ok (.aload_n 0, 1) := by decide +kernel
theorem dX7_init_23 : decode cX7_init 23 = .ok (.iconst 2, 1) := by decide +kernel
theorem dX7_init_24 : decode cX7_init 24 = .ok (.newarray .boolean, 2) := by decide +kernel
theorem dX7_init_26 : decode cX7_init 26 = .ok (.putfield 16, 3) := by decide +kernel
theorem dX7_init_29 : decode cX7_init 29 = .ok (.aload_n 0, 1) := by decide +kernel
theorem dX7_init_30 : decode cX7_init 30 = .ok (.ldc 20, 2) := by decide +kernel
theorem dX7_init_32 : decode cX7_init 32 = .ok (.newarray .int, 2) := by decide +kernel
theorem dX7_init_34 : decode cX7_init 34 = .ok (.putfield 21, 3) := by decide +kernel
theorem dX7_init_37 : decode cX7_init 37 = .ok (.aload_n 0, 1) := by decide +kernel
theorem dX7_init_38 : decode cX7_init 38 = .ok (.bipush 80, 2) := by decide +kernel
theorem dX7_init_40 : decode cX7_init 40 = .ok (.newarray .int, 2) := by decide +kernel
theorem dX7_init_42 : decode cX7_init 42 = .ok (.putfield 24, 3) := by decide +kernel
theorem dX7_init_45 : decode cX7_init 45 = .ok (.aload_n 0, 1) := by decide +kernel
theorem dX7_init_46 : decode cX7_init 46 = .ok (.bipush 80, 2) := by decide +kernel
theorem dX7_init_48 : decode cX7_init 48 = .ok (.newarray .int, 2) := by decide +kernel
theorem dX7_init_50 : decode cX7_init 50 = .ok (.putfield 27, 3) := by decide +kernel
theorem dX7_init_53 : decode cX7_init 53 = .ok (.aload_n 0, 1) := by decide +kernel
theorem dX7_init_54 : decode cX7_init 54 = .ok (.bipush 80, 2) := by decide +kernel
theorem dX7_init_56 : decode cX7_init 56 = .ok (.newarray .boolean, 2) := by decide +kernel
theorem dX7_init_58 : decode cX7_init 58 = .ok (.putfield 30, 3) := by decide +kernel
theorem dX7_init_61 : decode cX7_init 61 = .ok (.iconst 0, 1) := by decide +kernel
theorem dX7_init_62 : decode cX7_init 62 = .ok (.istore_n 1, 1) := by decide +kernel
theorem dX7_init_63 : decode cX7_init 63 = .ok (.iload_n 1, 1) := by decide +kernel
theorem dX7_init_64 : decode cX7_init 64 = .ok (.iconst 4, 1) := by decide +kernel
theorem dX7_init_65 : decode cX7_init 65 = .ok (.if_icmp .ge 44, 3) := by decide +kernel
theorem dX7_init_68 : decode cX7_init 68 = .ok (.aload_n 0, 1) := by decide +kernel
theorem dX7_init_69 : decode cX7_init 69 = .ok (.getfield 7, 3) := by decide +kernel
theorem dX7_init_72 : decode cX7_init 72 = .ok (.sipush 300, 3) := by decide +kernel
theorem dX7_init_75 : decode cX7_init 75 = .ok (.iload_n 1, 1) := by decide +kernel
theorem dX7_init_76 : decode cX7_init 76 = .ok (.iadd, 1) := by decide +kernel
theorem dX7_init_77 : decode cX7_init 77 = .ok (.bipush 6, 2) := by decide +kernel
theorem dX7_init_79 : decode cX7_init 79 = .ok (.iastore, 1) := by decide +kernel
theorem dX7_init_80 : decode cX7_init 80 = .ok (.aload_n 0, 1) := by decide +kernel
theorem dX7_init_81 : decode cX7_init 81 = .ok (.getfield 7, 3) := by decide +kernel
theorem dX7_init_84 : decode cX7_init 84 = .ok (.sipush 308, 3) := by decide +kernel
theorem dX7_init_87 : decode cX7_init 87 = .ok (.iload_n 1, 1) := by decide +kernel
theorem dX7_init_88 : decode cX7_init 88 = .ok (.iadd, 1) := by decide +kernel
theorem dX7_init_89 : decode cX7_init 89 = .ok (.bipush 24, 2) := by decide +kernel
theorem dX7_init_91 : decode cX7_init 91 = .ok (.iastore, 1) := by decide +kernel
theorem dX7_init_92 : decode cX7_init 92 = .ok (.aload_n 0, 1) := by decide +kernel
theorem dX7_init_93 : decode cX7_init 93 = .ok (.getfield 7, 3) := by decide +kernel
theorem dX7_init_96 : decode cX7_init 96 = .ok (.sipush 312, 3) := by decide +kernel
theorem dX7_init_99 : decode cX7_init 99 = .ok (.iload_n 1, 1) := by decide +kernel
theorem dX7_init_100 : decode cX7_init 100 = .ok (.iadd, 1) := by decide +kernel
theorem dX7_init_101 : decode cX7_init 101 = .ok (.iconst 1, 1) := by decide +kernel
theorem dX7_init_102 : decode cX7_init 102 = .ok (.iastore, 1) := by decide +kernel
theorem dX7_init_103 : decode cX7_init 103 = .ok (.iinc 1 1, 3) := by decide +kernel
theorem dX7_init_106 : decode cX7_init 106 = .ok (.goto (-43), 3) := by decide +kernel
theorem dX7_init_109 : decode cX7_init 109 = .ok (.aload_n 0, 1) := by decide +kernel
theorem dX7_init_110 : decode cX7_init 110 = .ok (.getfield 7, 3) := by decide +kernel
theorem dX7_init_113 : decode cX7_init 113 = .ok (.sipush 486, 3) := by decide +kernel
theorem dX7_init_116 : decode cX7_init 116 = .ok (.bipush 10, 2) := by decide +kernel
theorem dX7_init_118 : decode cX7_init 118 = .ok (.iastore, 1) := by decide +kernel
theorem dX7_init_119 : decode cX7_init 119 = .ok (.aload_n 0, 1) := by decide +kernel
theorem dX7_init_120 : decode cX7_init 120 = .ok (.getfield 7, 3) := by decide +kernel
theorem dX7_init_123 : decode cX7_init 123 = .ok (.sipush 487, 3) := by decide +kernel
theorem dX7_init_126 : decode cX7_init 126 = .ok (.iconst 3, 1) := by decide +kernel
theorem dX7_init_127 : decode cX7_init 127 = .ok (.iastore, 1) := by decide +kernel
theorem dX7_init_128 : decode cX7_init 128 = .ok (.aload_n 0, 1) := by decide +kernel
theorem dX7_init_129 : decode cX7_init 129 = .ok (.getfield 7, 3) := by decide +kernel
theorem dX7_init_132 : decode cX7_init 132 = .ok (.sipush 488, 3) := by decide +kernel
theorem dX7_init_135 : decode cX7_init 135 = .ok (.iconst (-1), 1) := by decide +kernel
theorem dX7_init_136 : decode cX7_init 136 = .ok (.iastore, 1) := by decide +kernel
theorem dX7_init_137 : decode cX7_init 137 = .ok (.aload_n 0, 1) := by decide +kernel
theorem dX7_init_138 : decode cX7_init 138 = .ok (.getfield 7, 3) := by decide +kernel
theorem dX7_init_141 : decode cX7_init 141 = .ok (.sipush 489, 3) := by decide +kernel
theorem dX7_init_144 : decode cX7_init 144 = .ok (.bipush (-6), 2) := by decide +kernel
theorem dX7_init_146 : decode cX7_init 146 = .ok (.iastore, 1) := by decide +kernel
theorem dX7_init_147 : decode cX7_init 147 = .ok (.aload_n 0, 1) := by decide +kernel
theorem dX7_init_148 : decode cX7_init 148 = .ok (.getfield 7, 3) := by decide +kernel
theorem dX7_init_151 : decode cX7_init 151 = .ok (.sipush 490, 3) := by decide +kernel
theorem dX7_init_154 : decode cX7_init 154 = .ok (.bipush (-6), 2) := by decide +kernel
theorem dX7_init_156 : decode cX7_init 156 = .ok (.iastore, 1) := by decide +kernel
theorem dX7_init_157 : decode cX7_init 157 = .ok (.aload_n 0, 1) := by decide +kernel
theorem dX7_init_158 : decode cX7_init 158 = .ok (.getfield 7, 3) := by decide +kernel
theorem dX7_init_161 : decode cX7_init 161 = .ok (.sipush 491, 3) := by decide +kernel
theorem dX7_init_164 : decode cX7_init 164 = .ok (.iconst 5, 1) := by decide +kernel
theorem dX7_init_165 : decode cX7_init 165 = .ok (.iastore, 1) := by decide +kernel
theorem dX7_init_166 : decode cX7_init 166 = .ok (.return_, 1) := by decide +kernel
set_option maxRecDepth 20000 in
theorem B_X7_init_0 {G : Gx} {X : Cx} {h : PH} {k n : Nat} {Q : State → Prop} {S : List PV} {a0 : Nat} (C : CX_X7_init G X) (q1 : 2 ≤ a0 := by first | assumption | omega) (hS : S.length ≤ 4 := by decide) (hk2 : k + 1 ≤ 7) (hn3 : n + 492 ≤ 42598) (kk : PW G X 2 Q (k + 1) (n + 492) 10 [some (.inr a0), none] (.inr (ph_S h + 2) :: .inr a0 :: S) (ph_new h 8 492)) : PW G X 2 Q k n 0 [some (.inr a0), none] (S) h := by
  refine pw_aload_n C dX7_init_0 rfl ?_
  refine pw_objInit C q1 kw676 kw55 kwObj dX7_init_1 (by decide) (by simp only [List.length_cons]; omega) ?_
  refine pw_aload_n C dX7_init_4 rfl ?_
  refine pw_sipush C dX7_init_5 rfl ?_
  refine pw_newarr C (t := 8) (atype := .int) (by decide) (by decide) rfl kw144 rfl (fun U cA z => z) dX7_init_8 (by unfold pR; decide) (by decide) (by decide) hk2 hn3 ?_
  exact kk
set_option maxRecDepth 20000 in
theorem B_X7_init_10 {G : Gx} {X : Cx} {h : PH} {k n : Nat} {Q : State → Prop} {S : List PV} {a0 : Nat} {s0 : Nat} {s1 : Nat} (C : CX_X7_init G X) (t1 : ph_T h s1 = 7 := by first | assumption | rfl) (hk2 : k + 1 ≤ 7) (hn3 : n + 984 ≤ 42598) (kk : PW G X 2 Q (k + 1) (n + 984) 19 [some (.inr a0), none] (.inr (ph_S (ph_setR h s1 0 s0) + 2) :: .inr a0 :: S) (ph_new (ph_setR h s1 0 s0) 8 984)) : PW G X 2 Q k n 10 [some (.inr a0), none] (.inr s0 :: .inr s1 :: S) h := by
  refine pw_putR C (t := 7) (f := 0) rfl inF7 tyX7_ok nmX7 rfl (by decide) (by decide) rfl (Or.inr ⟨rfl, rfl, rfl⟩) (Or.inr ⟨_, rfl⟩) kw678 dX7_init_10 t1 ?_
  refine pw_aload_n C dX7_init_13 rfl ?_
  refine pw_sipush C dX7_init_14 rfl ?_
  refine pw_newarr C (t := 8) (atype := .int) (by decide) (by decide) rfl kw144 rfl (fun U cA z => z) dX7_init_17 (by unfold pR; decide) (by decide) (by decide) hk2 hn3 ?_
  exact kk
set_option maxRecDepth 20000 in
theorem B_X7_init_19 {G : Gx} {X : Cx} {h : PH} {k n : Nat} {Q : State → Prop} {S : List PV} {a0 : Nat} {s0 : Nat} {s1 : Nat} (C : CX_X7_init G X) (t1 : ph_T h s1 = 7 := by first | assumption | rfl) (hk2 : k + 1 ≤ 7) (hn3 : n + 2 ≤ 42598) (kk : PW G X 2 Q (k + 1) (n + 2) 26 [some (.inr a0), none] (.inr (ph_S (ph_setR h s1 1 s0) + 2) :: .inr a0 :: S) (ph_new (ph_setR h s1 1 s0) 9 2)) : PW G X 2 Q k n 19 [some (.inr a0), none] (.inr s0 :: .inr s1 :: S) h := by
  refine pw_putR C (t := 7) (f := 1) rfl inF7 tyX7_ok nmX7 rfl (by decide) (by decide) rfl (Or.inr ⟨rfl, rfl, rfl⟩) (Or.inr ⟨_, rfl⟩) kw679 dX7_init_19 t1 ?_
  refine pw_aload_n C dX7_init_22 rfl ?_
  refine pw_iconst C dX7_init_23 ?_
  refine pw_newarr C (t := 9) (atype := .boolean) (by decide) (by decide) rfl kw275 rfl (fun U cA z => z) dX7_init_24 (by unfold pR; decide) (by decide) (by decide) hk2 hn3 ?_
  exact kk
set_option maxRecDepth 20000 in
theorem B_X7_init_26 {G : Gx} {X : Cx} {h : PH} {k n : Nat} {Q : State → Prop} {S : List PV} {a0 : Nat} {s0 : Nat} {s1 : Nat} (C : CX_X7_init G X) (t1 : ph_T h s1 = 7 := by first | assumption | rfl) (hk2 : k + 1 ≤ 7) (hn3 : n + 40880 ≤ 42598) (kk : PW G X 2 Q (k + 1) (n + 40880) 34 [some (.inr a0), none] (.inr (ph_S (ph_setR h s1 2 s0) + 2) :: .inr a0 :: S) (ph_new (ph_setR h s1 2 s0) 8 40880)) : PW G X 2 Q k n 26 [some (.inr a0), none] (.inr s0 :: .inr s1 :: S) h := by
  refine pw_putR C (t := 7) (f := 2) rfl inF7 tyX7_ok nmX7 rfl (by decide) (by decide) rfl (Or.inr ⟨rfl, rfl, rfl⟩) (Or.inr ⟨_, rfl⟩) kw680 dX7_init_26 t1 ?_
  refine pw_aload_n C dX7_init_29 rfl ?_
  refine pw_ldc C (z := 40880) kw677 rfl dX7_init_30 ?_
  refine pw_newarr C (t := 8) (atype := .int) (by decide) (by decide) rfl kw144 rfl (fun U cA z => z) dX7_init_32 (by unfold pR; decide) (by decide) (by decide) hk2 hn3 ?_
  exact kk
set_option maxRecDepth 20000 in
theorem B_X7_init_34 {G : Gx} {X : Cx} {h : PH} {k n : Nat} {Q : State → Prop} {S : List PV} {a0 : Nat} {s0 : Nat} {s1 : Nat} (C : CX_X7_init G X) (t1 : ph_T h s1 = 7 := by first | assumption | rfl) (hk2 : k + 1 ≤ 7) (hn3 : n + 80 ≤ 42598) (kk : PW G X 2 Q (k + 1) (n + 80) 42 [some (.inr a0), none] (.inr (ph_S (ph_setR h s1 3 s0) + 2) :: .inr a0 :: S) (ph_new (ph_setR h s1 3 s0) 8 80)) : PW G X 2 Q k n 34 [some (.inr a0), none] (.inr s0 :: .inr s1 :: S) h := by
  refine pw_putR C (t := 7) (f := 3) rfl inF7 tyX7_ok nmX7 rfl (by decide) (by decide) rfl (Or.inr ⟨rfl, rfl, rfl⟩) (Or.inr ⟨_, rfl⟩) kw681 dX7_init_34 t1 ?_
  refine pw_aload_n C dX7_init_37 rfl ?_
  refine pw_bipush C dX7_init_38 rfl ?_
  refine pw_newarr C (t := 8) (atype := .int) (by decide) (by decide) rfl kw144 rfl (fun U cA z => z) dX7_init_40 (by unfold pR; decide) (by decide) (by decide) hk2 hn3 ?_
  exact kk
set_option maxRecDepth 20000 in
theorem B_X7_init_42 {G : Gx} {X : Cx} {h : PH} {k n : Nat} {Q : State → Prop} {S : List PV} {a0 : Nat} {s0 : Nat} {s1 : Nat} (C : CX_X7_init G X) (t1 : ph_T h s1 = 7 := by first | assumption | rfl) (hk2 : k + 1 ≤ 7) (hn3 : n + 80 ≤ 42598) (kk : PW G X 2 Q (k + 1) (n + 80) 50 [some (.inr a0), none] (.inr (ph_S (ph_setR h s1 8 s0) + 2) :: .inr a0 :: S) (ph_new (ph_setR h s1 8 s0) 8 80)) : PW G X 2 Q k n 42 [some (.inr a0), none] (.inr s0 :: .inr s1 :: S) h := by
  refine pw_putR C (t := 7) (f := 8) rfl inF7 tyX7_ok nmX7 rfl (by decide) (by decide) rfl (Or.inr ⟨rfl, rfl, rfl⟩) (Or.inr ⟨_, rfl⟩) kw686 dX7_init_42 t1 ?_
  refine pw_aload_n C dX7_init_45 rfl ?_
  refine pw_bipush C dX7_init_46 rfl ?_
  refine pw_newarr C (t := 8) (atype := .int) (by decide) (by decide) rfl kw144 rfl (fun U cA z => z) dX7_init_48 (by unfold pR; decide) (by decide) (by decide) hk2 hn3 ?_
  exact kk
set_option maxRecDepth 20000 in
theorem B_X7_init_50 {G : Gx} {X : Cx} {h : PH} {k n : Nat} {Q : State → Prop} {S : List PV} {a0 : Nat} {s0 : Nat} {s1 : Nat} (C : CX_X7_init G X) (t1 : ph_T h s1 = 7 := by first | assumption | rfl) (hk2 : k + 1 ≤ 7) (hn3 : n + 80 ≤ 42598) (kk : PW G X 2 Q (k + 1) (n + 80) 58 [some (.inr a0), none] (.inr (ph_S (ph_setR h s1 9 s0) + 2) :: .inr a0 :: S) (ph_new (ph_setR h s1 9 s0) 9 80)) : PW G X 2 Q k n 50 [some (.inr a0), none] (.inr s0 :: .inr s1 :: S) h := by
  refine pw_putR C (t := 7) (f := 9) rfl inF7 tyX7_ok nmX7 rfl (by decide) (by decide) rfl (Or.inr ⟨rfl, rfl, rfl⟩) (Or.inr ⟨_, rfl⟩) kw687 dX7_init_50 t1 ?_
  refine pw_aload_n C dX7_init_53 rfl ?_
  refine pw_bipush C dX7_init_54 rfl ?_
  refine pw_newarr C (t := 9) (atype := .boolean) (by decide) (by decide) rfl kw275 rfl (fun U cA z => z) dX7_init_56 (by unfold pR; decide) (by decide) (by decide) hk2 hn3 ?_
  exact kk
set_option maxRecDepth 20000 in
theorem B_X7_init_58 {G : Gx} {X : Cx} {h : PH} {k n : Nat} {Q : State → Prop} {S : List PV} {a0 : Nat} {s0 : Nat} {s1 : Nat} (C : CX_X7_init G X) (t1 : ph_T h s1 = 7 := by first | assumption | rfl) (kk : PW G X 2 Q k n 63 [some (.inr a0), some (.inl 0)] (S) (ph_setR h s1 10 s0)) : PW G X 2 Q k n 58 [some (.inr a0), none] (.inr s0 :: .inr s1 :: S) h := by
  refine pw_putR C (t := 7) (f := 10) rfl inF7 tyX7_ok nmX7 rfl (by decide) (by decide) rfl (Or.inr ⟨rfl, rfl, rfl⟩) (Or.inr ⟨_, rfl⟩) kw688 dX7_init_58 t1 ?_
  refine pw_iconst C dX7_init_61 ?_
  refine pw_istore_n C dX7_init_62 (by decide) ?_
  exact kk
set_option maxRecDepth 20000 in
theorem B_X7_init_63 {G : Gx} {X : Cx} {h : PH} {k n : Nat} {Q : State → Prop} {S : List PV} {a0 : Nat} {a1 : Int} (C : CX_X7_init G X) (q1 : pR a1 := by first | assumption | (unfold pR; omega)) (q2 : pR 4 := by first | assumption | (unfold pR; omega)) (kt : 4 ≤ a1 → PW G X 2 Q k n 109 [some (.inr a0), some (.inl a1)] (S) h) (kf : ¬ 4 ≤ a1 → PW G X 2 Q k n 68 [some (.inr a0), some (.inl a1)] (S) h) : PW G X 2 Q k n 63 [some (.inr a0), some (.inl a1)] (S) h := by
  refine pw_iload_n C dX7_init_63 rfl ?_
  refine pw_iconst C dX7_init_64 ?_
  exact pw_icmp_ge C 109 dX7_init_65 (by decide) q1 q2 kt kf
set_option maxRecDepth 20000 in
theorem B_X7_init_68 {G : Gx} {X : Cx} {h : PH} {k n : Nat} {Q : State → Prop} {S : List PV} {a0 : Nat} {a1 : Int} {r2 : Nat} {r10 : Nat} {r18 : Nat} (C : CX_X7_init G X) (t1 : ph_T h a0 = 7 := by first | assumption | rfl) (e3 : ph_R h a0 0 = r2 := by first | assumption | rfl) (t4 : ph_T h r2 = 8 := by first | assumption | rfl) (q5 : (0 : Int) ≤ 300 + a1 := by first | assumption | omega) (q6 : 300 + a1 < (ph_L h r2 : Int) := by first | assumption | omega) (q7 : pR (300 + a1) := by first | assumption | (unfold pR; omega)) (t9 : ph_T h a0 = 7 := by first | assumption | rfl) (e11 : ph_R h a0 0 = r10 := by first | assumption | rfl) (t12 : ph_T h r10 = 8 := by first | assumption | rfl) (q13 : (0 : Int) ≤ 308 + a1 := by first | assumption | omega) (q14 : 308 + a1 < (ph_L h r10 : Int) := by first | assumption | omega) (q15 : pR (308 + a1) := by first | assumption | (unfold pR; omega)) (t17 : ph_T h a0 = 7 := by first | assumption | rfl) (e19 : ph_R h a0 0 = r18 := by first | assumption | rfl) (t20 : ph_T h r18 = 8 := by first | assumption | rfl) (q21 : (0 : Int) ≤ 312 + a1 := by first | assumption | omega) (q22 : 312 + a1 < (ph_L h r18 : Int) := by first | assumption | omega) (q23 : pR (312 + a1) := by first | assumption | (unfold pR; omega)) (kk : PW G X 2 Q k n 63 [some (.inr a0), some (.inl (a1 + 1))] (S) (ph_setI (ph_setI (ph_setI h r2 (Int.toNat (300 + a1)) 6) r10 (Int.toNat (308 + a1)) 24) r18 (Int.toNat (312 + a1)) 1)) : PW G X 2 Q k n 68 [some (.inr a0), some (.inl a1)] (S) h := by
  refine pw_aload_n C dX7_init_68 rfl ?_
  refine pw_getR C (t := 7) (f := 0) rfl inF7 rfl (by decide) (by decide) rfl kw678 dX7_init_69 t1 ?_
  rw [e3]
  refine pw_sipush C dX7_init_72 rfl ?_
  refine pw_iload_n C dX7_init_75 rfl ?_
  refine pw_iadd C dX7_init_76 ?_
  refine pw_bipush C dX7_init_77 rfl ?_
  refine pw_iast C dX7_init_79 t4 q5 q6 q7 ?_
  refine pw_aload_n C dX7_init_80 rfl ?_
  refine pw_getR C (t := 7) (f := 0) rfl inF7 rfl (by decide) (by decide) rfl kw678 dX7_init_81 t9 ?_
  rw [show ph_R (ph_setI h r2 (Int.toNat (300 + a1)) 6) a0 0 = r10 from e11]
  refine pw_sipush C dX7_init_84 rfl ?_
  refine pw_iload_n C dX7_init_87 rfl ?_
  refine pw_iadd C dX7_init_88 ?_
  refine pw_bipush C dX7_init_89 rfl ?_
  refine pw_iast C dX7_init_91 t12 q13 q14 q15 ?_
  refine pw_aload_n C dX7_init_92 rfl ?_
  refine pw_getR C (t := 7) (f := 0) rfl inF7 rfl (by decide) (by decide) rfl kw678 dX7_init_93 t17 ?_
  rw [show ph_R (ph_setI (ph_setI h r2 (Int.toNat (300 + a1)) 6) r10 (Int.toNat (308 + a1)) 24) a0 0 = r18 from e19]
  refine pw_sipush C dX7_init_96 rfl ?_
  refine pw_iload_n C dX7_init_99 rfl ?_
  refine pw_iadd C dX7_init_100 ?_
  refine pw_iconst C dX7_init_101 ?_
  refine pw_iast C dX7_init_102 t20 q21 q22 q23 ?_
  refine pw_iinc C dX7_init_103 rfl (by decide) ?_
  refine pw_goto C 63 dX7_init_106 (by decide) ?_
  exact kk
set_option maxRecDepth 20000 in
theorem B_X7_init_109 {G : Gx} {X : Cx} {h : PH} {k n : Nat} {a0 : Nat} {a1 : Int} {r2 : Nat} {r10 : Nat} {r18 : Nat} {r26 : Nat} {r34 : Nat} {r42 : Nat} {PQ : Option PV → PH → Prop} (C : CX_X7_init G X) (t1 : ph_T h a0 = 7 := by first | assumption | rfl) (e3 : ph_R h a0 0 = r2 := by first | assumption | rfl) (t4 : ph_T h r2 = 8 := by first | assumption | rfl) (q5 : (0 : Int) ≤ 486 := by first | assumption | omega) (q6 : 486 < (ph_L h r2 : Int) := by first | assumption | omega) (q7 : pR 486 := by first | assumption | (unfold pR; omega)) (t9 : ph_T h a0 = 7 := by first | assumption | rfl) (e11 : ph_R h a0 0 = r10 := by first | assumption | rfl) (t12 : ph_T h r10 = 8 := by first | assumption | rfl) (q13 : (0 : Int) ≤ 487 := by first | assumption | omega) (q14 : 487 < (ph_L h r10 : Int) := by first | assumption | omega) (q15 : pR 487 := by first | assumption | (unfold pR; omega)) (t17 : ph_T h a0 = 7 := by first | assumption | rfl) (e19 : ph_R h a0 0 = r18 := by first | assumption | rfl) (t20 : ph_T h r18 = 8 := by first | assumption | rfl) (q21 : (0 : Int) ≤ 488 := by first | assumption | omega) (q22 : 488 < (ph_L h r18 : Int) := by first | assumption | omega) (q23 : pR 488 := by first | assumption | (unfold pR; omega)) (t25 : ph_T h a0 = 7 := by first | assumption | rfl) (e27 : ph_R h a0 0 = r26 := by first | assumption | rfl) (t28 : ph_T h r26 = 8 := by first | assumption | rfl) (q29 : (0 : Int) ≤ 489 := by first | assumption | omega) (q30 : 489 < (ph_L h r26 : Int) := by first | assumption | omega) (q31 : pR 489 := by first | assumption | (unfold pR; omega)) (t33 : ph_T h a0 = 7 := by first | assumption | rfl) (e35 : ph_R h a0 0 = r34 := by first | assumption | rfl) (t36 : ph_T h r34 = 8 := by first | assumption | rfl) (q37 : (0 : Int) ≤ 490 := by first | assumption | omega) (q38 : 490 < (ph_L h r34 : Int) := by first | assumption | omega) (q39 : pR 490 := by first | assumption | (unfold pR; omega)) (t41 : ph_T h a0 = 7 := by first | assumption | rfl) (e43 : ph_R h a0 0 = r42 := by first | assumption | rfl) (t44 : ph_T h r42 = 8 := by first | assumption | rfl) (q45 : (0 : Int) ≤ 491 := by first | assumption | omega) (q46 : 491 < (ph_L h r42 : Int) := by first | assumption | omega) (q47 : pR 491 := by first | assumption | (unfold pR; omega)) (hq : PQ none (ph_setI (ph_setI (ph_setI (ph_setI (ph_setI (ph_setI h r2 (Int.toNat 486) 10) r10 (Int.toNat 487) 3) r18 (Int.toNat 488) (-1)) r26 (Int.toNat 489) (-6)) r34 (Int.toNat 490) (-6)) r42 (Int.toNat 491) 5)) : PW G X 2 (pw_E G X PQ k n) k n 109 [some (.inr a0), some (.inl a1)] [] h := by
  refine pw_aload_n C dX7_init_109 rfl ?_
  refine pw_getR C (t := 7) (f := 0) rfl inF7 rfl (by decide) (by decide) rfl kw678 dX7_init_110 t1 ?_
  rw [e3]
  refine pw_sipush C dX7_init_113 rfl ?_
  refine pw_bipush C dX7_init_116 rfl ?_
  refine pw_iast C dX7_init_118 t4 q5 q6 q7 ?_
  refine pw_aload_n C dX7_init_119 rfl ?_
  refine pw_getR C (t := 7) (f := 0) rfl inF7 rfl (by decide) (by decide) rfl kw678 dX7_init_120 t9 ?_
  rw [show ph_R (ph_setI h r2 (Int.toNat 486) 10) a0 0 = r10 from e11]
  refine pw_sipush C dX7_init_123 rfl ?_
  refine pw_iconst C dX7_init_126 ?_
  refine pw_iast C dX7_init_127 t12 q13 q14 q15 ?_
  refine pw_aload_n C dX7_init_128 rfl ?_
  refine pw_getR C (t := 7) (f := 0) rfl inF7 rfl (by decide) (by decide) rfl kw678 dX7_init_129 t17 ?_
  rw [show ph_R (ph_setI (ph_setI h r2 (Int.toNat 486) 10) r10 (Int.toNat 487) 3) a0 0 = r18 from e19]
  refine pw_sipush C dX7_init_132 rfl ?_
  refine pw_iconst C dX7_init_135 ?_
  refine pw_iast C dX7_init_136 t20 q21 q22 q23 ?_
  refine pw_aload_n C dX7_init_137 rfl ?_
  refine pw_getR C (t := 7) (f := 0) rfl inF7 rfl (by decide) (by decide) rfl kw678 dX7_init_138 t25 ?_
  rw [show ph_R (ph_setI (ph_setI (ph_setI h r2 (Int.toNat 486) 10) r10 (Int.toNat 487) 3) r18 (Int.toNat 488) (-1)) a0 0 = r26 from e27]
  refine pw_sipush C dX7_init_141 rfl ?_
  refine pw_bipush C dX7_init_144 rfl ?_
  refine pw_iast C dX7_init_146 t28 q29 q30 q31 ?_
  refine pw_aload_n C dX7_init_147 rfl ?_
  refine pw_getR C (t := 7) (f := 0) rfl inF7 rfl (by decide) (by decide) rfl kw678 dX7_init_148 t33 ?_
  rw [show ph_R (ph_setI (ph_setI (ph_setI (ph_setI h r2 (Int.toNat 486) 10) r10 (Int.toNat 487) 3) r18 (Int.toNat 488) (-1)) r26 (Int.toNat 489) (-6)) a0 0 = r34 from e35]
  refine pw_sipush C dX7_init_151 rfl ?_
  refine pw_bipush C dX7_init_154 rfl ?_
  refine pw_iast C dX7_init_156 t36 q37 q38 q39 ?_
  refine pw_aload_n C dX7_init_157 rfl ?_
  refine pw_getR C (t := 7) (f := 0) rfl inF7 rfl (by decide) (by decide) rfl kw678 dX7_init_158 t41 ?_
  rw [show ph_R (ph_setI (ph_setI (ph_setI (ph_setI (ph_setI h r2 (Int.toNat 486) 10) r10 (Int.toNat 487) 3) r18 (Int.toNat 488) (-1)) r26 (Int.toNat 489) (-6)) r34 (Int.toNat 490) (-6)) a0 0 = r42 from e43]
  refine pw_sipush C dX7_init_161 rfl ?_
  refine pw_iconst C dX7_init_164 ?_
  refine pw_iast C dX7_init_165 t44 q45 q46 q47 ?_
  exact pw_vreturn C dX7_init_166 hq
theorem dX7_in_0 : decode cX7_in 0 = .ok (.iload_n 0, 1) := by decide +kernel
theorem dX7_in_1 : decode cX7_in 1 = .ok (.iload_n 1, 1) := by decide +kernel
theorem dX7_in_2 : decode cX7_in 2 = .ok (.if_icmp .lt 12, 3) := by decide +kernel
theorem dX7_in_5 : decode cX7_in 5 = .ok (.iload_n 0, 1) := by decide +kernel
theorem dX7_in_6 : decode cX7_in 6 = .ok (.iload_n 2, 1) := by decide +kernel
theorem dX7_in_7 : decode cX7_in 7 = .ok (.if_icmp .gt 7, 3) := by decide +kernel
theorem dX7_in_10 : decode cX7_in 10 = .ok (.iconst 1, 1) := by decide +kernel
theorem dX7_in_11 : decode cX7_in 11 = .ok (.goto 4, 3) := by decide +kernel
theorem dX7_in_14 : decode cX7_in 14 = .ok (.iconst 0, 1) := by decide +kernel
theorem dX7_in_15 : decode cX7_in 15 = .ok (.ireturn, 1) := by decide +kernel
set_option maxRecDepth 20000 in
theorem B_X7_in_0 {G : Gx} {X : Cx} {h : PH} {k n : Nat} {Q : State → Prop} {S : List PV} {a0 : Int} {a1 : Int} {a2 : Int} (C : CX_X7_in G X) (q1 : pR a0 := by first | assumption | (unfold pR; omega)) (q2 : pR a1 := by first | assumption | (unfold pR; omega)) (kt : a0 < a1 → PW G X 3 Q k n 14 [some (.inl a0), some (.inl a1), some (.inl a2)] (S) h) (kf : ¬ a0 < a1 → PW G X 3 Q k n 5 [some (.inl a0), some (.inl a1), some (.inl a2)] (S) h) : PW G X 3 Q k n 0 [some (.inl a0), some (.inl a1), some (.inl a2)] (S) h := by
  refine pw_iload_n C dX7_in_0 rfl ?_
  refine pw_iload_n C dX7_in_1 rfl ?_
  exact pw_icmp_lt C 14 dX7_in_2 (by decide) q1 q2 kt kf
set_option maxRecDepth 20000 in
theorem B_X7_in_5 {G : Gx} {X : Cx} {h : PH} {k n : Nat} {Q : State → Prop} {S : List PV} {a0 : Int} {a1 : Int} {a2 : Int} (C : CX_X7_in G X) (q1 : pR a0 := by first | assumption | (unfold pR; omega)) (q2 : pR a2 := by first | assumption | (unfold pR; omega)) (kt : a2 < a0 → PW G X 3 Q k n 14 [some (.inl a0), some (.inl a1), some (.inl a2)] (S) h) (kf : ¬ a2 < a0 → PW G X 3 Q k n 10 [some (.inl a0), some (.inl a1), some (.inl a2)] (S) h) : PW G X 3 Q k n 5 [some (.inl a0), some (.inl a1), some (.inl a2)] (S) h := by
  refine pw_iload_n C dX7_in_5 rfl ?_
  refine pw_iload_n C dX7_in_6 rfl ?_
  exact pw_icmp_gt C 14 dX7_in_7 (by decide) q1 q2 kt kf
set_option maxRecDepth 20000 in
theorem B_X7_in_10 {G : Gx} {X : Cx} {h : PH} {k n : Nat} {Q : State → Prop} {S : List PV} {a0 : Int} {a1 : Int} {a2 : Int} (C : CX_X7_in G X) (kk : PW G X 3 Q k n 15 [some (.inl a0), some (.inl a1), some (.inl a2)] (.inl 1 :: S) h) : PW G X 3 Q k n 10 [some (.inl a0), some (.inl a1), some (.inl a2)] (S) h := by
  refine pw_iconst C dX7_in_10 ?_
  refine pw_goto C 15 dX7_in_11 (by decide) ?_
  exact kk
set_option maxRecDepth 20000 in
theorem B_X7_in_14 {G : Gx} {X : Cx} {h : PH} {k n : Nat} {Q : State → Prop} {S : List PV} {a0 : Int} {a1 : Int} {a2 : Int} (C : CX_X7_in G X) (kk : PW G X 3 Q k n 15 [some (.inl a0), some (.inl a1), some (.inl a2)] (.inl 0 :: S) h) : PW G X 3 Q k n 14 [some (.inl a0), some (.inl a1), some (.inl a2)] (S) h := by
  refine pw_iconst C dX7_in_14 ?_
  exact kk
set_option maxRecDepth 20000 in
theorem B_X7_in_15 {G : Gx} {X : Cx} {h : PH} {k n : Nat} {a0 : Int} {a1 : Int} {a2 : Int} {s0 : Int} {PQ : Option PV → PH → Prop} (C : CX_X7_in G X) (q1 : (s0 : Int) = 0 ∨ (s0 : Int) = 1 := by omega) (hq : PQ (some (.inl s0)) h) : PW G X 3 (pw_E G X PQ k n) k n 15 [some (.inl a0), some (.inl a1), some (.inl a2)] [.inl s0] h := by
  exact pw_zreturn C dX7_in_15 q1 hq
theorem dX7_size_0 : decode cX7_size 0 = .ok (.iload_n 0, 1) := by decide +kernel
theorem dX7_size_1 : decode cX7_size 1 = .ok (.ifCond .ge 8, 3) := by decide +kernel
theorem dX7_size_4 : decode cX7_size 4 = .ok (.iload_n 0, 1) := by decide +kernel
theorem dX7_size_5 : decode cX7_size 5 = .ok (.ineg, 1) := by decide +kernel
theorem dX7_size_6 : decode cX7_size 6 = .ok (.goto 4, 3) := by decide +kernel
theorem dX7_size_9 : decode cX7_size 9 = .ok (.iload_n 0, 1) := by decide +kernel
theorem dX7_size_10 : decode cX7_size 10 = .ok (.ireturn, 1) := by decide +kernel
set_option maxRecDepth 20000 in
theorem B_X7_size_0 {G : Gx} {X : Cx} {h : PH} {k n : Nat} {Q : State → Prop} {S : List PV} {a0 : Int} (C : CX_X7_size G X) (q1 : pR a0 := by first | assumption | (unfold pR; omega)) (kt : 0 ≤ a0 → PW G X 1 Q k n 9 [some (.inl a0)] (S) h) (kf : ¬ 0 ≤ a0 → PW G X 1 Q k n 4 [some (.inl a0)] (S) h) : PW G X 1 Q k n 0 [some (.inl a0)] (S) h := by
  refine pw_iload_n C dX7_size_0 rfl ?_
  exact pw_if_ge C 9 dX7_size_1 (by decide) q1 kt kf
set_option maxRecDepth 20000 in
theorem B_X7_size_4 {G : Gx} {X : Cx} {h : PH} {k n : Nat} {Q : State → Prop} {S : List PV} {a0 : Int} (C : CX_X7_size G X) (kk : PW G X 1 Q k n 10 [some (.inl a0)] (.inl (-a0) :: S) h) : PW G X 1 Q k n 4 [some (.inl a0)] (S) h := by
  refine pw_iload_n C dX7_size_4 rfl ?_
  refine pw_ineg C dX7_size_5 ?_
  refine pw_goto C 10 dX7_size_6 (by decide) ?_
  exact kk
set_option maxRecDepth 20000 in
theorem B_X7_size_9 {G : Gx} {X : Cx} {h : PH} {k n : Nat} {Q : State → Prop} {S : List PV} {a0 : Int} (C : CX_X7_size G X) (kk : PW G X 1 Q k n 10 [some (.inl a0)] (.inl a0 :: S) h) : PW G X 1 Q k n 9 [some (.inl a0)] (S) h := by
  refine pw_iload_n C dX7_size_9 rfl ?_
  exact kk
set_option maxRecDepth 20000 in
theorem B_X7_size_10 {G : Gx} {X : Cx} {h : PH} {k n : Nat} {a0 : Int} {s0 : Int} {PQ : Option PV → PH → Prop} (C : CX_X7_size G X) (hq : PQ (some (.inl s0)) h) : PW G X 1 (pw_E G X PQ k n) k n 10 [some (.inl a0)] [.inl s0] h := by
  exact pw_ireturn C dX7_size_10 hq
theorem dX7_isTick_0 : decode cX7_isTick 0 = .ok (.iload_n 0, 1) := by decide +kernel
theorem dX7_isTick_1 : decode cX7_isTick 1 = .ok (.iconst 0, 1) := by decide +kernel
theorem dX7_isTick_2 : decode cX7_isTick 2 = .ok (.bipush 79, 2) := by decide +kernel
theorem dX7_isTick_4 : decode cX7_isTick 4 = .ok (.invokestatic 33, 3) := by decide +kernel
theorem dX7_isTick_7 : decode cX7_isTick 7 = .ok (.ireturn, 1) := by decide +kernel
set_option maxRecDepth 20000 in
theorem B_X7_isTick_0 {G : Gx} {X : Cx} {h : PH} {k n : Nat} {Q : State → Prop} {S : List PV} {a0 : Int} {PQ : Option PV → PH → Prop} (C : CX_X7_isTick G X) (hk0 : k ≤ 0 := by decide) (hn0 : n ≤ 0 := by decide) (hM : CT_X7_in G X.2.1 [.inl a0, .inl 0, .inl 79] h PQ) (hS : S.length ≤ 8 := by decide) (kk : ∀ r h', PQ r h' → PW G X 1 Q k n 7 [some (.inl a0)] (r.toList ++ S) h') : PW G X 1 Q k n 0 [some (.inl a0)] (S) h := by
  refine pw_iload_n C dX7_isTick_0 rfl ?_
  refine pw_iconst C dX7_isTick_1 ?_
  refine pw_bipush C dX7_isTick_2 rfl ?_
  exact pw_callS C (na := 3) (As := [.inl a0, .inl 0, .inl 79]) (S := S) hM kw719 kw720 kw45 kw721 (by decide +kernel) rfl dX7_isTick_4 (by decide) (by decide) hk0 hn0 (by first | exact hS | (simp only [List.length_cons]; omega)) kk
set_option maxRecDepth 20000 in
theorem B_X7_isTick_7 {G : Gx} {X : Cx} {h : PH} {k n : Nat} {a0 : Int} {s0 : Int} {PQ : Option PV → PH → Prop} (C : CX_X7_isTick G X) (q1 : (s0 : Int) = 0 ∨ (s0 : Int) = 1 := by omega) (hq : PQ (some (.inl s0)) h) : PW G X 1 (pw_E G X PQ k n) k n 7 [some (.inl a0)] [.inl s0] h := by
  exact pw_zreturn C dX7_isTick_7 q1 hq
theorem dX7_isDish_0 : decode cX7_isDish 0 = .ok (.iload_n 0, 1) := by decide +kernel
theorem dX7_isDish_1 : decode cX7_isDish 1 = .ok (.iconst 0, 1) := by decide +kernel
theorem dX7_isDish_2 : decode cX7_isDish 2 = .ok (.iconst 3, 1) := by decide +kernel
theorem dX7_isDish_3 : decode cX7_isDish 3 = .ok (.invokestatic 33, 3) := by decide +kernel
theorem dX7_isDish_6 : decode cX7_isDish 6 = .ok (.ireturn, 1) := by decide +kernel
set_option maxRecDepth 20000 in
theorem B_X7_isDish_0 {G : Gx} {X : Cx} {h : PH} {k n : Nat} {Q : State → Prop} {S : List PV} {a0 : Int} {PQ : Option PV → PH → Prop} (C : CX_X7_isDish G X) (hk0 : k ≤ 0 := by decide) (hn0 : n ≤ 0 := by decide) (hM : CT_X7_in G X.2.1 [.inl a0, .inl 0, .inl 3] h PQ) (hS : S.length ≤ 8 := by decide) (kk : ∀ r h', PQ r h' → PW G X 1 Q k n 6 [some (.inl a0)] (r.toList ++ S) h') : PW G X 1 Q k n 0 [some (.inl a0)] (S) h := by
  refine pw_iload_n C dX7_isDish_0 rfl ?_
  refine pw_iconst C dX7_isDish_1 ?_
  refine pw_iconst C dX7_isDish_2 ?_
  exact pw_callS C (na := 3) (As := [.inl a0, .inl 0, .inl 3]) (S := S) hM kw719 kw720 kw45 kw721 (by decide +kernel) rfl dX7_isDish_3 (by decide) (by decide) hk0 hn0 (by first | exact hS | (simp only [List.length_cons]; omega)) kk
set_option maxRecDepth 20000 in
theorem B_X7_isDish_6 {G : Gx} {X : Cx} {h : PH} {k n : Nat} {a0 : Int} {s0 : Int} {PQ : Option PV → PH → Prop} (C : CX_X7_isDish G X) (q1 : (s0 : Int) = 0 ∨ (s0 : Int) = 1 := by omega) (hq : PQ (some (.inl s0)) h) : PW G X 1 (pw_E G X PQ k n) k n 6 [some (.inl a0)] [.inl s0] h := by
  exact pw_zreturn C dX7_isDish_6 q1 hq
theorem dX7_isDirection_0 : decode cX7_isDirection 0 = .ok (.iload_n 0, 1) := by decide +kernel
theorem dX7_isDirection_1 : decode cX7_isDirection 1 = .ok (.iconst 0, 1) := by decide +kernel
theorem dX7_isDirection_2 : decode cX7_isDirection 2 = .ok (.bipush 23, 2) := by decide +kernel
theorem dX7_isDirection_4 : decode cX7_isDirection 4 = .ok (.invokestatic 33, 3) := by decide +kernel
theorem dX7_isDirection_7 : decode cX7_isDirection 7 = .ok (.ifCond .eq 17, 3) := by decide +kernel
theorem dX7_isDirection_10 : decode cX7_isDirection 10 = .ok (.iload_n 1, 1) := by decide +kernel
theorem dX7_isDirection_11 : decode cX7_isDirection 11 = .ok (.iconst 0, 1) := by decide +kernel
theorem dX7_isDirection_12 : decode cX7_isDirection 12 = .ok (.bipush 6, 2) := by decide +kernel
theorem dX7_isDirection_14 : decode cX7_isDirection 14 = .ok (.invokestatic 33, 3) := by decide +kernel
theorem dX7_isDirection_17 : decode cX7_isDirection 17 = .ok (.ifCond .eq 7, 3) := by decide +kernel
theorem dX7_isDirection_20 : decode cX7_isDirection 20 = .ok (.iconst 1, 1) := by decide +kernel
theorem dX7_isDirection_21 : decode cX7_isDirection 21 = .ok (.goto 4, 3) := by decide +kernel
theorem dX7_isDirection_24 : decode cX7_isDirection 24 = .ok (.iconst 0, 1) := by decide +kernel
theorem dX7_isDirection_25 : decode cX7_isDirection 25 = .ok (.ireturn, 1) := by decide +kernel
set_option maxRecDepth 20000 in
theorem B_X7_isDirection_0 {G : Gx} {X : Cx} {h : PH} {k n : Nat} {Q : State → Prop} {S : List PV} {a0 : Int} {a1 : Int} {PQ : Option PV → PH → Prop} (C : CX_X7_isDirection G X) (hk0 : k ≤ 0 := by decide) (hn0 : n ≤ 0 := by decide) (hM : CT_X7_in G X.2.1 [.inl a0, .inl 0, .inl 23] h PQ) (hS : S.length ≤ 8 := by decide) (kk : ∀ r h', PQ r h' → PW G X 2 Q k n 7 [some (.inl a0), some (.inl a1)] (r.toList ++ S) h') : PW G X 2 Q k n 0 [some (.inl a0), some (.inl a1)] (S) h := by
  refine pw_iload_n C dX7_isDirection_0 rfl ?_
  refine pw_iconst C dX7_isDirection_1 ?_
  refine pw_bipush C dX7_isDirection_2 rfl ?_
  exact pw_callS C (na := 3) (As := [.inl a0, .inl 0, .inl 23]) (S := S) hM kw719 kw720 kw45 kw721 (by decide +kernel) rfl dX7_isDirection_4 (by decide) (by decide) hk0 hn0 (by first | exact hS | (simp only [List.length_cons]; omega)) kk
set_option maxRecDepth 20000 in
theorem B_X7_isDirection_7 {G : Gx} {X : Cx} {h : PH} {k n : Nat} {Q : State → Prop} {S : List PV} {a0 : Int} {a1 : Int} {s0 : Int} (C : CX_X7_isDirection G X) (q1 : pR s0 := by first | assumption | (unfold pR; omega)) (kt : s0 = 0 → PW G X 2 Q k n 24 [some (.inl a0), some (.inl a1)] (S) h) (kf : ¬ s0 = 0 → PW G X 2 Q k n 10 [some (.inl a0), some (.inl a1)] (S) h) : PW G X 2 Q k n 7 [some (.inl a0), some (.inl a1)] (.inl s0 :: S) h := by
  exact pw_if_eq C 24 dX7_isDirection_7 (by decide) q1 kt kf
set_option maxRecDepth 20000 in
theorem B_X7_isDirection_10 {G : Gx} {X : Cx} {h : PH} {k n : Nat} {Q : State → Prop} {S : List PV} {a0 : Int} {a1 : Int} {PQ : Option PV → PH → Prop} (C : CX_X7_isDirection G X) (hk0 : k ≤ 0 := by decide) (hn0 : n ≤ 0 := by decide) (hM : CT_X7_in G X.2.1 [.inl a1, .inl 0, .inl 6] h PQ) (hS : S.length ≤ 8 := by decide) (kk : ∀ r h', PQ r h' → PW G X 2 Q k n 17 [some (.inl a0), some (.inl a1)] (r.toList ++ S) h') : PW G X 2 Q k n 10 [some (.inl a0), some (.inl a1)] (S) h := by
  refine pw_iload_n C dX7_isDirection_10 rfl ?_
  refine pw_iconst C dX7_isDirection_11 ?_
  refine pw_bipush C dX7_isDirection_12 rfl ?_
  exact pw_callS C (na := 3) (As := [.inl a1, .inl 0, .inl 6]) (S := S) hM kw719 kw720 kw45 kw721 (by decide +kernel) rfl dX7_isDirection_14 (by decide) (by decide) hk0 hn0 (by first | exact hS | (simp only [List.length_cons]; omega)) kk
set_option maxRecDepth 20000 in
theorem B_X7_isDirection_17 {G : Gx} {X : Cx} {h : PH} {k n : Nat} {Q : State → Prop} {S : List PV} {a0 : Int} {a1 : Int} {s0 : Int} (C : CX_X7_isDirection G X) (q1 : pR s0 := by first | assumption | (unfold pR; omega)) (kt : s0 = 0 → PW G X 2 Q k n 24 [some (.inl a0), some (.inl a1)] (S) h) (kf : ¬ s0 = 0 → PW G X 2 Q k n 20 [some (.inl a0), some (.inl a1)] (S) h) : PW G X 2 Q k n 17 [some (.inl a0), some (.inl a1)] (.inl s0 :: S) h := by
  exact pw_if_eq C 24 dX7_isDirection_17 (by decide) q1 kt kf
set_option maxRecDepth 20000 in
theorem B_X7_isDirection_20 {G : Gx} {X : Cx} {h : PH} {k n : Nat} {Q : State → Prop} {S : List PV} {a0 : Int} {a1 : Int} (C : CX_X7_isDirection G X) (kk : PW G X 2 Q k n 25 [some (.inl a0), some (.inl a1)] (.inl 1 :: S) h) : PW G X 2 Q k n 20 [some (.inl a0), some (.inl a1)] (S) h := by
  refine pw_iconst C dX7_isDirection_20 ?_
  refine pw_goto C 25 dX7_isDirection_21 (by decide) ?_
  exact kk
set_option maxRecDepth 20000 in
theorem B_X7_isDirection_24 {G : Gx} {X : Cx} {h : PH} {k n : Nat} {Q : State → Prop} {S : List PV} {a0 : Int} {a1 : Int} (C : CX_X7_isDirection G X) (kk : PW G X 2 Q k n 25 [some (.inl a0), some (.inl a1)] (.inl 0 :: S) h) : PW G X 2 Q k n 24 [some (.inl a0), some (.inl a1)] (S) h := by
  refine pw_iconst C dX7_isDirection_24 ?_
  exact kk
set_option maxRecDepth 20000 in
theorem B_X7_isDirection_25 {G : Gx} {X : Cx} {h : PH} {k n : Nat} {a0 : Int} {a1 : Int} {s0 : Int} {PQ : Option PV → PH → Prop} (C : CX_X7_isDirection G X) (q1 : (s0 : Int) = 0 ∨ (s0 : Int) = 1 := by omega) (hq : PQ (some (.inl s0)) h) : PW G X 2 (pw_E G X PQ k n) k n 25 [some (.inl a0), some (.inl a1)] [.inl s0] h := by
  exact pw_zreturn C dX7_isDirection_25 q1 hq
theorem dX7_passOf_0 : decode cX7_passOf 0 = .ok (.bipush (-6), 2) := by decide +kernel
theorem dX7_passOf_2 : decode cX7_passOf 2 = .ok (.istore_n 2, 1) := by decide +kernel
theorem dX7_passOf_3 : decode cX7_passOf 3 = .ok (.iconst 0, 1) := by decide +kernel
theorem dX7_passOf_4 : decode cX7_passOf 4 = .ok (.istore_n 3, 1) := by decide +kernel
theorem dX7_passOf_5 : decode cX7_passOf 5 = .ok (.iload_n 3, 1) := by decide +kernel
theorem dX7_passOf_6 : decode cX7_passOf 6 = .ok (.aload_n 0, 1) := by decide +kernel
theorem dX7_passOf_7 : decode cX7_passOf 7 = .ok (.getfield 7, 3) := by decide +kernel
theorem dX7_passOf_10 : decode cX7_passOf 10 = .ok (.sipush 484, 3) := by decide +kernel
theorem dX7_passOf_13 : decode cX7_passOf 13 = .ok (.iaload, 1) := by decide +kernel
theorem dX7_passOf_14 : decode cX7_passOf 14 = .ok (.if_icmp .ge 27, 3) := by decide +kernel
theorem dX7_passOf_17 : decode cX7_passOf 17 = .ok (.aload_n 0, 1) := by decide +kernel
theorem dX7_passOf_18 : decode cX7_passOf 18 = .ok (.getfield 7, 3) := by decide +kernel
theorem dX7_passOf_21 : decode cX7_passOf 21 = .ok (.iconst 0, 1) := by decide +kernel
theorem dX7_passOf_22 : decode cX7_passOf 22 = .ok (.iload_n 3, 1) := by decide +kernel
theorem dX7_passOf_23 : decode cX7_passOf 23 = .ok (.iadd, 1) := by decide +kernel
theorem dX7_passOf_24 : decode cX7_passOf 24 = .ok (.iaload, 1) := by decide +kernel
theorem dX7_passOf_25 : decode cX7_passOf 25 = .ok (.iload_n 1, 1) := by decide +kernel
theorem dX7_passOf_26 : decode cX7_passOf 26 = .ok (.if_icmp .ne 7, 3) := by decide +kernel
theorem dX7_passOf_29 : decode cX7_passOf 29 = .ok (.iload_n 3, 1) := by decide +kernel
theorem dX7_passOf_30 : decode cX7_passOf 30 = .ok (.goto 4, 3) := by decide +kernel
theorem dX7_passOf_33 : decode cX7_passOf 33 = .ok (.iload_n 2, 1) := by decide +kernel
theorem dX7_passOf_34 : decode cX7_passOf 34 = .ok (.istore_n 2, 1) := by decide +kernel
theorem dX7_passOf_35 : decode cX7_passOf 35 = .ok (.iinc 3 1, 3) := by decide +kernel
theorem dX7_passOf_38 : decode cX7_passOf 38 = .ok (.goto (-33), 3) := by decide +kernel
theorem dX7_passOf_41 : decode cX7_passOf 41 = .ok (.iload_n 2, 1) := by decide +kernel
theorem dX7_passOf_42 : decode cX7_passOf 42 = .ok (.ireturn, 1) := by decide +kernel
set_option maxRecDepth 20000 in
theorem B_X7_passOf_0 {G : Gx} {X : Cx} {h : PH} {k n : Nat} {Q : State → Prop} {S : List PV} {a0 : Nat} {a1 : Int} (C : CX_X7_passOf G X) (kk : PW G X 4 Q k n 5 [some (.inr a0), some (.inl a1), some (.inl (-6)), some (.inl 0)] (S) h) : PW G X 4 Q k n 0 [some (.inr a0), some (.inl a1), none, none] (S) h := by
  refine pw_bipush C dX7_passOf_0 rfl ?_
  refine pw_istore_n C dX7_passOf_2 (by decide) ?_
  refine pw_iconst C dX7_passOf_3 ?_
  refine pw_istore_n C dX7_passOf_4 (by decide) ?_
  exact kk
set_option maxRecDepth 20000 in
theorem B_X7_passOf_5 {G : Gx} {X : Cx} {h : PH} {k n : Nat} {Q : State → Prop} {S : List PV} {a0 : Nat} {a1 : Int} {a2 : Int} {a3 : Int} {r2 : Nat} {x8 : Int} (C : CX_X7_passOf G X) (t1 : ph_T h a0 = 7 := by first | assumption | rfl) (e3 : ph_R h a0 0 = r2 := by first | assumption | rfl) (t4 : ph_T h r2 = 8 := by first | assumption | rfl) (q5 : (0 : Int) ≤ 484 := by first | assumption | omega) (q6 : 484 < (ph_L h r2 : Int) := by first | assumption | omega) (q7 : pR 484 := by first | assumption | (unfold pR; omega)) (e9 : ph_I h r2 484 = x8 := by first | assumption | rfl) (q10 : pR a3 := by first | assumption | (unfold pR; omega)) (q11 : pR x8 := by first | assumption | (unfold pR; omega)) (kt : x8 ≤ a3 → PW G X 4 Q k n 41 [some (.inr a0), some (.inl a1), some (.inl a2), some (.inl a3)] (S) h) (kf : ¬ x8 ≤ a3 → PW G X 4 Q k n 17 [some (.inr a0), some (.inl a1), some (.inl a2), some (.inl a3)] (S) h) : PW G X 4 Q k n 5 [some (.inr a0), some (.inl a1), some (.inl a2), some (.inl a3)] (S) h := by
  refine pw_iload_n C dX7_passOf_5 rfl ?_
  refine pw_aload_n C dX7_passOf_6 rfl ?_
  refine pw_getR C (t := 7) (f := 0) rfl inF7 rfl (by decide) (by decide) rfl kw678 dX7_passOf_7 t1 ?_
  rw [e3]
  refine pw_sipush C dX7_passOf_10 rfl ?_
  refine pw_iald C dX7_passOf_13 t4 q5 q6 q7 ?_
  rw [show ph_I h r2 (Int.toNat 484) = x8 from e9]
  exact pw_icmp_ge C 41 dX7_passOf_14 (by decide) q10 q11 kt kf
set_option maxRecDepth 20000 in
theorem B_X7_passOf_17 {G : Gx} {X : Cx} {h : PH} {k n : Nat} {Q : State → Prop} {S : List PV} {a0 : Nat} {a1 : Int} {a2 : Int} {a3 : Int} {r2 : Nat} {x8 : Int} (C : CX_X7_passOf G X) (t1 : ph_T h a0 = 7 := by first | assumption | rfl) (e3 : ph_R h a0 0 = r2 := by first | assumption | rfl) (t4 : ph_T h r2 = 8 := by first | assumption | rfl) (q5 : (0 : Int) ≤ 0 + a3 := by first | assumption | omega) (q6 : 0 + a3 < (ph_L h r2 : Int) := by first | assumption | omega) (q7 : pR (0 + a3) := by first | assumption | (unfold pR; omega)) (e9 : ph_I h r2 (Int.toNat (0 + a3)) = x8 := by first | assumption | rfl) (q10 : pR x8 := by first | assumption | (unfold pR; omega)) (q11 : pR a1 := by first | assumption | (unfold pR; omega)) (kt : ¬ x8 = a1 → PW G X 4 Q k n 33 [some (.inr a0), some (.inl a1), some (.inl a2), some (.inl a3)] (S) h) (kf : x8 = a1 → PW G X 4 Q k n 29 [some (.inr a0), some (.inl a1), some (.inl a2), some (.inl a3)] (S) h) : PW G X 4 Q k n 17 [some (.inr a0), some (.inl a1), some (.inl a2), some (.inl a3)] (S) h := by
  refine pw_aload_n C dX7_passOf_17 rfl ?_
  refine pw_getR C (t := 7) (f := 0) rfl inF7 rfl (by decide) (by decide) rfl kw678 dX7_passOf_18 t1 ?_
  rw [e3]
  refine pw_iconst C dX7_passOf_21 ?_
  refine pw_iload_n C dX7_passOf_22 rfl ?_
  refine pw_iadd C dX7_passOf_23 ?_
  refine pw_iald C dX7_passOf_24 t4 q5 q6 q7 ?_
  rw [e9]
  refine pw_iload_n C dX7_passOf_25 rfl ?_
  exact pw_icmp_ne C 33 dX7_passOf_26 (by decide) q10 q11 kt kf
set_option maxRecDepth 20000 in
theorem B_X7_passOf_29 {G : Gx} {X : Cx} {h : PH} {k n : Nat} {Q : State → Prop} {S : List PV} {a0 : Nat} {a1 : Int} {a2 : Int} {a3 : Int} (C : CX_X7_passOf G X) (kk : PW G X 4 Q k n 34 [some (.inr a0), some (.inl a1), some (.inl a2), some (.inl a3)] (.inl a3 :: S) h) : PW G X 4 Q k n 29 [some (.inr a0), some (.inl a1), some (.inl a2), some (.inl a3)] (S) h := by
  refine pw_iload_n C dX7_passOf_29 rfl ?_
  refine pw_goto C 34 dX7_passOf_30 (by decide) ?_
  exact kk
set_option maxRecDepth 20000 in
theorem B_X7_passOf_33 {G : Gx} {X : Cx} {h : PH} {k n : Nat} {Q : State → Prop} {S : List PV} {a0 : Nat} {a1 : Int} {a2 : Int} {a3 : Int} (C : CX_X7_passOf G X) (kk : PW G X 4 Q k n 34 [some (.inr a0), some (.inl a1), some (.inl a2), some (.inl a3)] (.inl a2 :: S) h) : PW G X 4 Q k n 33 [some (.inr a0), some (.inl a1), some (.inl a2), some (.inl a3)] (S) h := by
  refine pw_iload_n C dX7_passOf_33 rfl ?_
  exact kk
set_option maxRecDepth 20000 in
theorem B_X7_passOf_34 {G : Gx} {X : Cx} {h : PH} {k n : Nat} {Q : State → Prop} {S : List PV} {a0 : Nat} {a1 : Int} {a2 : Int} {a3 : Int} {s0 : Int} (C : CX_X7_passOf G X) (kk : PW G X 4 Q k n 5 [some (.inr a0), some (.inl a1), some (.inl s0), some (.inl (a3 + 1))] (S) h) : PW G X 4 Q k n 34 [some (.inr a0), some (.inl a1), some (.inl a2), some (.inl a3)] (.inl s0 :: S) h := by
  refine pw_istore_n C dX7_passOf_34 (by decide) ?_
  refine pw_iinc C dX7_passOf_35 rfl (by decide) ?_
  refine pw_goto C 5 dX7_passOf_38 (by decide) ?_
  exact kk
set_option maxRecDepth 20000 in
theorem B_X7_passOf_41 {G : Gx} {X : Cx} {h : PH} {k n : Nat} {a0 : Nat} {a1 : Int} {a2 : Int} {a3 : Int} {PQ : Option PV → PH → Prop} (C : CX_X7_passOf G X) (hq : PQ (some (.inl a2)) h) : PW G X 4 (pw_E G X PQ k n) k n 41 [some (.inr a0), some (.inl a1), some (.inl a2), some (.inl a3)] [] h := by
  refine pw_iload_n C dX7_passOf_41 rfl ?_
  exact pw_ireturn C dX7_passOf_42 hq
theorem dX7_sideOf_0 : decode cX7_sideOf 0 = .ok (.iload_n 0, 1) := by decide +kernel
theorem dX7_sideOf_1 : decode cX7_sideOf 1 = .ok (.bipush 48, 2) := by decide +kernel
theorem dX7_sideOf_3 : decode cX7_sideOf 3 = .ok (.iadd, 1) := by decide +kernel
theorem dX7_sideOf_4 : decode cX7_sideOf 4 = .ok (.bipush 24, 2) := by decide +kernel
theorem dX7_sideOf_6 : decode cX7_sideOf 6 = .ok (.irem, 1) := by decide +kernel
theorem dX7_sideOf_7 : decode cX7_sideOf 7 = .ok (.ireturn, 1) := by decide +kernel
set_option maxRecDepth 20000 in
theorem B_X7_sideOf_0 {G : Gx} {X : Cx} {h : PH} {k n : Nat} {a0 : Int} {PQ : Option PV → PH → Prop} (C : CX_X7_sideOf G X) (q1 : pR (a0 + 48) := by first | assumption | (unfold pR; omega)) (q2 : pR 24 := by first | assumption | (unfold pR; omega)) (q3 : (0 : Int) ≤ a0 + 48 := by first | assumption | omega) (q4 : (0 : Int) < 24 := by first | assumption | omega) (hq : PQ (some (.inl ((a0 + 48) % 24))) h) : PW G X 1 (pw_E G X PQ k n) k n 0 [some (.inl a0)] [] h := by
  refine pw_iload_n C dX7_sideOf_0 rfl ?_
  refine pw_bipush C dX7_sideOf_1 rfl ?_
  refine pw_iadd C dX7_sideOf_3 ?_
  refine pw_bipush C dX7_sideOf_4 rfl ?_
  refine pw_irem C dX7_sideOf_6 q1 q2 q3 q4 ?_
  exact pw_ireturn C dX7_sideOf_7 hq
theorem dX7_pass_0 : decode cX7_pass 0 = .ok (.iload_n 1, 1) := by decide +kernel
theorem dX7_pass_1 : decode cX7_pass 1 = .ok (.iconst 0, 1) := by decide +kernel
theorem dX7_pass_2 : decode cX7_pass 2 = .ok (.bipush 99, 2) := by decide +kernel
theorem dX7_pass_4 : decode cX7_pass 4 = .ok (.invokestatic 33, 3) := by decide +kernel
theorem dX7_pass_7 : decode cX7_pass 7 = .ok (.ifCond .eq 13, 3) := by decide +kernel
theorem dX7_pass_10 : decode cX7_pass 10 = .ok (.iload_n 2, 1) := by decide +kernel
theorem dX7_pass_11 : decode cX7_pass 11 = .ok (.iconst 0, 1) := by decide +kernel
theorem dX7_pass_12 : decode cX7_pass 12 = .ok (.bipush 60, 2) := by decide +kernel
theorem dX7_pass_14 : decode cX7_pass 14 = .ok (.invokestatic 33, 3) := by decide +kernel
theorem dX7_pass_17 : decode cX7_pass 17 = .ok (.ifCond .ne 6, 3) := by decide +kernel
theorem dX7_pass_20 : decode cX7_pass 20 = .ok (.bipush (-2), 2) := by decide +kernel
theorem dX7_pass_22 : decode cX7_pass 22 = .ok (.ireturn, 1) := by decide +kernel
theorem dX7_pass_23 : decode cX7_pass 23 = .ok (.aload_n 0, 1) := by decide +kernel
theorem dX7_pass_24 : decode cX7_pass 24 = .ok (.iload_n 1, 1) := by decide +kernel
theorem dX7_pass_25 : decode cX7_pass 25 = .ok (.invokevirtual 37, 3) := by decide +kernel
theorem dX7_pass_28 : decode cX7_pass 28 = .ok (.ifCond .lt 6, 3) := by decide +kernel
theorem dX7_pass_31 : decode cX7_pass 31 = .ok (.bipush (-5), 2) := by decide +kernel
theorem dX7_pass_33 : decode cX7_pass 33 = .ok (.ireturn, 1) := by decide +kernel
theorem dX7_pass_34 : decode cX7_pass 34 = .ok (.aload_n 0, 1) := by decide +kernel
theorem dX7_pass_35 : decode cX7_pass 35 = .ok (.getfield 7, 3) := by decide +kernel
theorem dX7_pass_38 : decode cX7_pass 38 = .ok (.sipush 484, 3) := by decide +kernel
theorem dX7_pass_41 : decode cX7_pass 41 = .ok (.iaload, 1) := by decide +kernel
theorem dX7_pass_42 : decode cX7_pass 42 = .ok (.istore_n 3, 1) := by decide +kernel
theorem dX7_pass_43 : decode cX7_pass 43 = .ok (.iload_n 3, 1) := by decide +kernel
theorem dX7_pass_44 : decode cX7_pass 44 = .ok (.bipush 8, 2) := by decide +kernel
theorem dX7_pass_46 : decode cX7_pass 46 = .ok (.if_icmp .ne 6, 3) := by decide +kernel
theorem dX7_pass_49 : decode cX7_pass 49 = .ok (.bipush (-4), 2) := by decide +kernel
theorem dX7_pass_51 : decode cX7_pass 51 = .ok (.ireturn, 1) := by decide +kernel
theorem dX7_pass_52 : decode cX7_pass 52 = .ok (.aload_n 0, 1) := by decide +kernel
theorem dX7_pass_53 : decode cX7_pass 53 = .ok (.getfield 7, 3) := by decide +kernel
theorem dX7_pass_56 : decode cX7_pass 56 = .ok (.iconst 0, 1) := by decide +kernel
theorem dX7_pass_57 : decode cX7_pass 57 = .ok (.iload_n 3, 1) := by decide +kernel
theorem dX7_pass_58 : decode cX7_pass 58 = .ok (.iadd, 1) := by decide +kernel
theorem dX7_pass_59 : decode cX7_pass 59 = .ok (.iload_n 1, 1) := by decide +kernel
theorem dX7_pass_60 : decode cX7_pass 60 = .ok (.iastore, 1) := by decide +kernel
theorem dX7_pass_61 : decode cX7_pass 61 = .ok (.aload_n 0, 1) := by decide +kernel
theorem dX7_pass_62 : decode cX7_pass 62 = .ok (.getfield 7, 3) := by decide +kernel
theorem dX7_pass_65 : decode cX7_pass 65 = .ok (.bipush 8, 2) := by decide +kernel
theorem dX7_pass_67 : decode cX7_pass 67 = .ok (.iload_n 3, 1) := by decide +kernel
theorem dX7_pass_68 : decode cX7_pass 68 = .ok (.iadd, 1) := by decide +kernel
theorem dX7_pass_69 : decode cX7_pass 69 = .ok (.iload_n 2, 1) := by decide +kernel
theorem dX7_pass_70 : decode cX7_pass 70 = .ok (.iastore, 1) := by decide +kernel
theorem dX7_pass_71 : decode cX7_pass 71 = .ok (.aload_n 0, 1) := by decide +kernel
theorem dX7_pass_72 : decode cX7_pass 72 = .ok (.getfield 7, 3) := by decide +kernel
theorem dX7_pass_75 : decode cX7_pass 75 = .ok (.bipush 16, 2) := by decide +kernel
theorem dX7_pass_77 : decode cX7_pass 77 = .ok (.iload_n 3, 1) := by decide +kernel
theorem dX7_pass_78 : decode cX7_pass 78 = .ok (.iadd, 1) := by decide +kernel
theorem dX7_pass_79 : decode cX7_pass 79 = .ok (.iconst 0, 1) := by decide +kernel
theorem dX7_pass_80 : decode cX7_pass 80 = .ok (.iastore, 1) := by decide +kernel
theorem dX7_pass_81 : decode cX7_pass 81 = .ok (.aload_n 0, 1) := by decide +kernel
theorem dX7_pass_82 : decode cX7_pass 82 = .ok (.getfield 7, 3) := by decide +kernel
theorem dX7_pass_85 : decode cX7_pass 85 = .ok (.bipush 24, 2) := by decide +kernel
theorem dX7_pass_87 : decode cX7_pass 87 = .ok (.iload_n 3, 1) := by decide +kernel
theorem dX7_pass_88 : decode cX7_pass 88 = .ok (.iadd, 1) := by decide +kernel
theorem dX7_pass_89 : decode cX7_pass 89 = .ok (.bipush (-6), 2) := by decide +kernel
theorem dX7_pass_91 : decode cX7_pass 91 = .ok (.iastore, 1) := by decide +kernel
theorem dX7_pass_92 : decode cX7_pass 92 = .ok (.aload_n 0, 1) := by decide +kernel
theorem dX7_pass_93 : decode cX7_pass 93 = .ok (.getfield 7, 3) := by decide +kernel
theorem dX7_pass_96 : decode cX7_pass 96 = .ok (.bipush 32, 2) := by decide +kernel
theorem dX7_pass_98 : decode cX7_pass 98 = .ok (.iload_n 3, 1) := by decide +kernel
theorem dX7_pass_99 : decode cX7_pass 99 = .ok (.iadd, 1) := by decide +kernel
theorem dX7_pass_100 : decode cX7_pass 100 = .ok (.bipush (-6), 2) := by decide +kernel
theorem dX7_pass_102 : decode cX7_pass 102 = .ok (.iastore, 1) := by decide +kernel
theorem dX7_pass_103 : decode cX7_pass 103 = .ok (.aload_n 0, 1) := by decide +kernel
theorem dX7_pass_104 : decode cX7_pass 104 = .ok (.getfield 7, 3) := by decide +kernel
theorem dX7_pass_107 : decode cX7_pass 107 = .ok (.sipush 484, 3) := by decide +kernel
theorem dX7_pass_110 : decode cX7_pass 110 = .ok (.dup2, 1) := by decide +kernel
theorem dX7_pass_111 : decode cX7_pass 111 = .ok (.iaload, 1) := by decide +kernel
theorem dX7_pass_112 : decode cX7_pass 112 = .ok (.iconst 1, 1) := by decide +kernel
theorem dX7_pass_113 : decode cX7_pass 113 = .ok (.iadd, 1) := by decide +kernel
theorem dX7_pass_114 : decode cX7_pass 114 = .ok (.iastore, 1) := by decide +kernel
theorem dX7_pass_115 : decode cX7_pass 115 = .ok (.aload_n 0, 1) := by decide +kernel
theorem dX7_pass_116 : decode cX7_pass 116 = .ok (.getfield 7, 3) := by decide +kernel
theorem dX7_pass_119 : decode cX7_pass 119 = .ok (.sipush 484, 3) := by decide +kernel
theorem dX7_pass_122 : decode cX7_pass 122 = .ok (.iaload, 1) := by decide +kernel
theorem dX7_pass_123 : decode cX7_pass 123 = .ok (.ireturn, 1) := by decide +kernel
set_option maxRecDepth 20000 in
theorem B_X7_pass_0 {G : Gx} {X : Cx} {h : PH} {k n : Nat} {Q : State → Prop} {S : List PV} {a0 : Nat} {a1 : Int} {a2 : Int} {PQ : Option PV → PH → Prop} (C : CX_X7_pass G X) (hk0 : k ≤ 0 := by decide) (hn0 : n ≤ 0 := by decide) (hM : CT_X7_in G X.2.1 [.inl a1, .inl 0, .inl 99] h PQ) (hS : S.length ≤ 8 := by decide) (kk : ∀ r h', PQ r h' → PW G X 4 Q k n 7 [some (.inr a0), some (.inl a1), some (.inl a2), none] (r.toList ++ S) h') : PW G X 4 Q k n 0 [some (.inr a0), some (.inl a1), some (.inl a2), none] (S) h := by
  refine pw_iload_n C dX7_pass_0 rfl ?_
  refine pw_iconst C dX7_pass_1 ?_
  refine pw_bipush C dX7_pass_2 rfl ?_
  exact pw_callS C (na := 3) (As := [.inl a1, .inl 0, .inl 99]) (S := S) hM kw719 kw720 kw45 kw721 (by decide +kernel) rfl dX7_pass_4 (by decide) (by decide) hk0 hn0 (by first | exact hS | (simp only [List.length_cons]; omega)) kk
set_option maxRecDepth 20000 in
theorem B_X7_pass_7 {G : Gx} {X : Cx} {h : PH} {k n : Nat} {Q : State → Prop} {S : List PV} {a0 : Nat} {a1 : Int} {a2 : Int} {s0 : Int} (C : CX_X7_pass G X) (q1 : pR s0 := by first | assumption | (unfold pR; omega)) (kt : s0 = 0 → PW G X 4 Q k n 20 [some (.inr a0), some (.inl a1), some (.inl a2), none] (S) h) (kf : ¬ s0 = 0 → PW G X 4 Q k n 10 [some (.inr a0), some (.inl a1), some (.inl a2), none] (S) h) : PW G X 4 Q k n 7 [some (.inr a0), some (.inl a1), some (.inl a2), none] (.inl s0 :: S) h := by
  exact pw_if_eq C 20 dX7_pass_7 (by decide) q1 kt kf
set_option maxRecDepth 20000 in
theorem B_X7_pass_10 {G : Gx} {X : Cx} {h : PH} {k n : Nat} {Q : State → Prop} {S : List PV} {a0 : Nat} {a1 : Int} {a2 : Int} {PQ : Option PV → PH → Prop} (C : CX_X7_pass G X) (hk0 : k ≤ 0 := by decide) (hn0 : n ≤ 0 := by decide) (hM : CT_X7_in G X.2.1 [.inl a2, .inl 0, .inl 60] h PQ) (hS : S.length ≤ 8 := by decide) (kk : ∀ r h', PQ r h' → PW G X 4 Q k n 17 [some (.inr a0), some (.inl a1), some (.inl a2), none] (r.toList ++ S) h') : PW G X 4 Q k n 10 [some (.inr a0), some (.inl a1), some (.inl a2), none] (S) h := by
  refine pw_iload_n C dX7_pass_10 rfl ?_
  refine pw_iconst C dX7_pass_11 ?_
  refine pw_bipush C dX7_pass_12 rfl ?_
  exact pw_callS C (na := 3) (As := [.inl a2, .inl 0, .inl 60]) (S := S) hM kw719 kw720 kw45 kw721 (by decide +kernel) rfl dX7_pass_14 (by decide) (by decide) hk0 hn0 (by first | exact hS | (simp only [List.length_cons]; omega)) kk
set_option maxRecDepth 20000 in
theorem B_X7_pass_17 {G : Gx} {X : Cx} {h : PH} {k n : Nat} {Q : State → Prop} {S : List PV} {a0 : Nat} {a1 : Int} {a2 : Int} {s0 : Int} (C : CX_X7_pass G X) (q1 : pR s0 := by first | assumption | (unfold pR; omega)) (kt : ¬ s0 = 0 → PW G X 4 Q k n 23 [some (.inr a0), some (.inl a1), some (.inl a2), none] (S) h) (kf : s0 = 0 → PW G X 4 Q k n 20 [some (.inr a0), some (.inl a1), some (.inl a2), none] (S) h) : PW G X 4 Q k n 17 [some (.inr a0), some (.inl a1), some (.inl a2), none] (.inl s0 :: S) h := by
  exact pw_if_ne C 23 dX7_pass_17 (by decide) q1 kt kf
set_option maxRecDepth 20000 in
theorem B_X7_pass_20 {G : Gx} {X : Cx} {h : PH} {k n : Nat} {a0 : Nat} {a1 : Int} {a2 : Int} {PQ : Option PV → PH → Prop} (C : CX_X7_pass G X) (hq : PQ (some (.inl (-2))) h) : PW G X 4 (pw_E G X PQ k n) k n 20 [some (.inr a0), some (.inl a1), some (.inl a2), none] [] h := by
  refine pw_bipush C dX7_pass_20 rfl ?_
  exact pw_ireturn C dX7_pass_22 hq
set_option maxRecDepth 20000 in
theorem B_X7_pass_23 {G : Gx} {X : Cx} {h : PH} {k n : Nat} {Q : State → Prop} {S : List PV} {a0 : Nat} {a1 : Int} {a2 : Int} {PQ : Option PV → PH → Prop} (C : CX_X7_pass G X) (hk0 : k ≤ 0 := by decide) (hn0 : n ≤ 0 := by decide) (t1 : ph_T h a0 = 7 := by first | assumption | rfl) (hM : CT_X7_passOf G X.2.1 [.inr a0, .inl a1] h PQ) (hS : S.length ≤ 8 := by decide) (kk : ∀ r h', PQ r h' → PW G X 4 Q k n 28 [some (.inr a0), some (.inl a1), some (.inl a2), none] (r.toList ++ S) h') : PW G X 4 Q k n 23 [some (.inr a0), some (.inl a1), some (.inl a2), none] (S) h := by
  refine pw_aload_n C dX7_pass_23 rfl ?_
  refine pw_iload_n C dX7_pass_24 rfl ?_
  exact pw_callV C (na := 1) (As := [.inl a1]) (S := S) hM t1 (by decide) (hcl := by rfl) kw722 kw724 kw17 kw45 kw725 (by decide +kernel) rfl dX7_pass_25 (by decide) (by decide) hk0 hn0 (by first | exact hS | (simp only [List.length_cons]; omega)) kk
set_option maxRecDepth 20000 in
theorem B_X7_pass_28 {G : Gx} {X : Cx} {h : PH} {k n : Nat} {Q : State → Prop} {S : List PV} {a0 : Nat} {a1 : Int} {a2 : Int} {s0 : Int} (C : CX_X7_pass G X) (q1 : pR s0 := by first | assumption | (unfold pR; omega)) (kt : s0 < 0 → PW G X 4 Q k n 34 [some (.inr a0), some (.inl a1), some (.inl a2), none] (S) h) (kf : ¬ s0 < 0 → PW G X 4 Q k n 31 [some (.inr a0), some (.inl a1), some (.inl a2), none] (S) h) : PW G X 4 Q k n 28 [some (.inr a0), some (.inl a1), some (.inl a2), none] (.inl s0 :: S) h := by
  exact pw_if_lt C 34 dX7_pass_28 (by decide) q1 kt kf
set_option maxRecDepth 20000 in
theorem B_X7_pass_31 {G : Gx} {X : Cx} {h : PH} {k n : Nat} {a0 : Nat} {a1 : Int} {a2 : Int} {PQ : Option PV → PH → Prop} (C : CX_X7_pass G X) (hq : PQ (some (.inl (-5))) h) : PW G X 4 (pw_E G X PQ k n) k n 31 [some (.inr a0), some (.inl a1), some (.inl a2), none] [] h := by
  refine pw_bipush C dX7_pass_31 rfl ?_
  exact pw_ireturn C dX7_pass_33 hq
set_option maxRecDepth 20000 in
theorem B_X7_pass_34 {G : Gx} {X : Cx} {h : PH} {k n : Nat} {Q : State → Prop} {S : List PV} {a0 : Nat} {a1 : Int} {a2 : Int} {r2 : Nat} {x8 : Int} (C : CX_X7_pass G X) (t1 : ph_T h a0 = 7 := by first | assumption | rfl) (e3 : ph_R h a0 0 = r2 := by first | assumption | rfl) (t4 : ph_T h r2 = 8 := by first | assumption | rfl) (q5 : (0 : Int) ≤ 484 := by first | assumption | omega) (q6 : 484 < (ph_L h r2 : Int) := by first | assumption | omega) (q7 : pR 484 := by first | assumption | (unfold pR; omega)) (e9 : ph_I h r2 484 = x8 := by first | assumption | rfl) (q10 : pR x8 := by first | assumption | (unfold pR; omega)) (q11 : pR 8 := by first | assumption | (unfold pR; omega)) (kt : ¬ x8 = 8 → PW G X 4 Q k n 52 [some (.inr a0), some (.inl a1), some (.inl a2), some (.inl x8)] (S) h) (kf : x8 = 8 → PW G X 4 Q k n 49 [some (.inr a0), some (.inl a1), some (.inl a2), some (.inl x8)] (S) h) : PW G X 4 Q k n 34 [some (.inr a0), some (.inl a1), some (.inl a2), none] (S) h := by
  refine pw_aload_n C dX7_pass_34 rfl ?_
  refine pw_getR C (t := 7) (f := 0) rfl inF7 rfl (by decide) (by decide) rfl kw678 dX7_pass_35 t1 ?_
  rw [e3]
  refine pw_sipush C dX7_pass_38 rfl ?_
  refine pw_iald C dX7_pass_41 t4 q5 q6 q7 ?_
  rw [show ph_I h r2 (Int.toNat 484) = x8 from e9]
  refine pw_istore_n C dX7_pass_42 (by decide) ?_
  refine pw_iload_n C dX7_pass_43 rfl ?_
  refine pw_bipush C dX7_pass_44 rfl ?_
  exact pw_icmp_ne C 52 dX7_pass_46 (by decide) q10 q11 kt kf
set_option maxRecDepth 20000 in
theorem B_X7_pass_49 {G : Gx} {X : Cx} {h : PH} {k n : Nat} {a0 : Nat} {a1 : Int} {a2 : Int} {a3 : Int} {PQ : Option PV → PH → Prop} (C : CX_X7_pass G X) (hq : PQ (some (.inl (-4))) h) : PW G X 4 (pw_E G X PQ k n) k n 49 [some (.inr a0), some (.inl a1), some (.inl a2), some (.inl a3)] [] h := by
  refine pw_bipush C dX7_pass_49 rfl ?_
  exact pw_ireturn C dX7_pass_51 hq
set_option maxRecDepth 20000 in
theorem B_X7_pass_52 {G : Gx} {X : Cx} {h : PH} {k n : Nat} {a0 : Nat} {a1 : Int} {a2 : Int} {a3 : Int} {r2 : Nat} {r10 : Nat} {r18 : Nat} {r26 : Nat} {r34 : Nat} {r42 : Nat} {x48 : Int} {r56 : Nat} {x62 : Int} {PQ : Option PV → PH → Prop} (C : CX_X7_pass G X) (t1 : ph_T h a0 = 7 := by first | assumption | rfl) (e3 : ph_R h a0 0 = r2 := by first | assumption | rfl) (t4 : ph_T h r2 = 8 := by first | assumption | rfl) (q5 : (0 : Int) ≤ 0 + a3 := by first | assumption | omega) (q6 : 0 + a3 < (ph_L h r2 : Int) := by first | assumption | omega) (q7 : pR (0 + a3) := by first | assumption | (unfold pR; omega)) (t9 : ph_T h a0 = 7 := by first | assumption | rfl) (e11 : ph_R h a0 0 = r10 := by first | assumption | rfl) (t12 : ph_T h r10 = 8 := by first | assumption | rfl) (q13 : (0 : Int) ≤ 8 + a3 := by first | assumption | omega) (q14 : 8 + a3 < (ph_L h r10 : Int) := by first | assumption | omega) (q15 : pR (8 + a3) := by first | assumption | (unfold pR; omega)) (t17 : ph_T h a0 = 7 := by first | assumption | rfl) (e19 : ph_R h a0 0 = r18 := by first | assumption | rfl) (t20 : ph_T h r18 = 8 := by first | assumption | rfl) (q21 : (0 : Int) ≤ 16 + a3 := by first | assumption | omega) (q22 : 16 + a3 < (ph_L h r18 : Int) := by first | assumption | omega) (q23 : pR (16 + a3) := by first | assumption | (unfold pR; omega)) (t25 : ph_T h a0 = 7 := by first | assumption | rfl) (e27 : ph_R h a0 0 = r26 := by first | assumption | rfl) (t28 : ph_T h r26 = 8 := by first | assumption | rfl) (q29 : (0 : Int) ≤ 24 + a3 := by first | assumption | omega) (q30 : 24 + a3 < (ph_L h r26 : Int) := by first | assumption | omega) (q31 : pR (24 + a3) := by first | assumption | (unfold pR; omega)) (t33 : ph_T h a0 = 7 := by first | assumption | rfl) (e35 : ph_R h a0 0 = r34 := by first | assumption | rfl) (t36 : ph_T h r34 = 8 := by first | assumption | rfl) (q37 : (0 : Int) ≤ 32 + a3 := by first | assumption | omega) (q38 : 32 + a3 < (ph_L h r34 : Int) := by first | assumption | omega) (q39 : pR (32 + a3) := by first | assumption | (unfold pR; omega)) (t41 : ph_T h a0 = 7 := by first | assumption | rfl) (e43 : ph_R h a0 0 = r42 := by first | assumption | rfl) (t44 : ph_T h r42 = 8 := by first | assumption | rfl) (q45 : (0 : Int) ≤ 484 := by first | assumption | omega) (q46 : 484 < (ph_L h r42 : Int) := by first | assumption | omega) (q47 : pR 484 := by first | assumption | (unfold pR; omega)) (e49 : ph_I (ph_setI (ph_setI (ph_setI (ph_setI (ph_setI h r2 (Int.toNat (0 + a3)) a1) r10 (Int.toNat (8 + a3)) a2) r18 (Int.toNat (16 + a3)) 0) r26 (Int.toNat (24 + a3)) (-6)) r34 (Int.toNat (32 + a3)) (-6)) r42 484 = x48 := by first | assumption | rfl) (t50 : ph_T h r42 = 8 := by first | assumption | rfl) (q51 : (0 : Int) ≤ 484 := by first | assumption | omega) (q52 : 484 < (ph_L h r42 : Int) := by first | assumption | omega) (q53 : pR 484 := by first | assumption | (unfold pR; omega)) (t55 : ph_T h a0 = 7 := by first | assumption | rfl) (e57 : ph_R h a0 0 = r56 := by first | assumption | rfl) (t58 : ph_T h r56 = 8 := by first | assumption | rfl) (q59 : (0 : Int) ≤ 484 := by first | assumption | omega) (q60 : 484 < (ph_L h r56 : Int) := by first | assumption | omega) (q61 : pR 484 := by first | assumption | (unfold pR; omega)) (e63 : ph_I (ph_setI (ph_setI (ph_setI (ph_setI (ph_setI (ph_setI h r2 (Int.toNat (0 + a3)) a1) r10 (Int.toNat (8 + a3)) a2) r18 (Int.toNat (16 + a3)) 0) r26 (Int.toNat (24 + a3)) (-6)) r34 (Int.toNat (32 + a3)) (-6)) r42 (Int.toNat 484) (x48 + 1)) r56 484 = x62 := by first | assumption | rfl) (hq : PQ (some (.inl x62)) (ph_setI (ph_setI (ph_setI (ph_setI (ph_setI (ph_setI h r2 (Int.toNat (0 + a3)) a1) r10 (Int.toNat (8 + a3)) a2) r18 (Int.toNat (16 + a3)) 0) r26 (Int.toNat (24 + a3)) (-6)) r34 (Int.toNat (32 + a3)) (-6)) r42 (Int.toNat 484) (x48 + 1))) : PW G X 4 (pw_E G X PQ k n) k n 52 [some (.inr a0), some (.inl a1), some (.inl a2), some (.inl a3)] [] h := by
  refine pw_aload_n C dX7_pass_52 rfl ?_
  refine pw_getR C (t := 7) (f := 0) rfl inF7 rfl (by decide) (by decide) rfl kw678 dX7_pass_53 t1 ?_
  rw [e3]
  refine pw_iconst C dX7_pass_56 ?_
  refine pw_iload_n C dX7_pass_57 rfl ?_
  refine pw_iadd C dX7_pass_58 ?_
  refine pw_iload_n C dX7_pass_59 rfl ?_
  refine pw_iast C dX7_pass_60 t4 q5 q6 q7 ?_
  refine pw_aload_n C dX7_pass_61 rfl ?_
  refine pw_getR C (t := 7) (f := 0) rfl inF7 rfl (by decide) (by decide) rfl kw678 dX7_pass_62 t9 ?_
  rw [show ph_R (ph_setI h r2 (Int.toNat (0 + a3)) a1) a0 0 = r10 from e11]
  refine pw_bipush C dX7_pass_65 rfl ?_
  refine pw_iload_n C dX7_pass_67 rfl ?_
  refine pw_iadd C dX7_pass_68 ?_
  refine pw_iload_n C dX7_pass_69 rfl ?_
  refine pw_iast C dX7_pass_70 t12 q13 q14 q15 ?_
  refine pw_aload_n C dX7_pass_71 rfl ?_
  refine pw_getR C (t := 7) (f := 0) rfl inF7 rfl (by decide) (by decide) rfl kw678 dX7_pass_72 t17 ?_
  rw [show ph_R (ph_setI (ph_setI h r2 (Int.toNat (0 + a3)) a1) r10 (Int.toNat (8 + a3)) a2) a0 0 = r18 from e19]
  refine pw_bipush C dX7_pass_75 rfl ?_
  refine pw_iload_n C dX7_pass_77 rfl ?_
  refine pw_iadd C dX7_pass_78 ?_
  refine pw_iconst C dX7_pass_79 ?_
  refine pw_iast C dX7_pass_80 t20 q21 q22 q23 ?_
  refine pw_aload_n C dX7_pass_81 rfl ?_
  refine pw_getR C (t := 7) (f := 0) rfl inF7 rfl (by decide) (by decide) rfl kw678 dX7_pass_82 t25 ?_
  rw [show ph_R (ph_setI (ph_setI (ph_setI h r2 (Int.toNat (0 + a3)) a1) r10 (Int.toNat (8 + a3)) a2) r18 (Int.toNat (16 + a3)) 0) a0 0 = r26 from e27]
  refine pw_bipush C dX7_pass_85 rfl ?_
  refine pw_iload_n C dX7_pass_87 rfl ?_
  refine pw_iadd C dX7_pass_88 ?_
  refine pw_bipush C dX7_pass_89 rfl ?_
  refine pw_iast C dX7_pass_91 t28 q29 q30 q31 ?_
  refine pw_aload_n C dX7_pass_92 rfl ?_
  refine pw_getR C (t := 7) (f := 0) rfl inF7 rfl (by decide) (by decide) rfl kw678 dX7_pass_93 t33 ?_
  rw [show ph_R (ph_setI (ph_setI (ph_setI (ph_setI h r2 (Int.toNat (0 + a3)) a1) r10 (Int.toNat (8 + a3)) a2) r18 (Int.toNat (16 + a3)) 0) r26 (Int.toNat (24 + a3)) (-6)) a0 0 = r34 from e35]
  refine pw_bipush C dX7_pass_96 rfl ?_
  refine pw_iload_n C dX7_pass_98 rfl ?_
  refine pw_iadd C dX7_pass_99 ?_
  refine pw_bipush C dX7_pass_100 rfl ?_
  refine pw_iast C dX7_pass_102 t36 q37 q38 q39 ?_
  refine pw_aload_n C dX7_pass_103 rfl ?_
  refine pw_getR C (t := 7) (f := 0) rfl inF7 rfl (by decide) (by decide) rfl kw678 dX7_pass_104 t41 ?_
  rw [show ph_R (ph_setI (ph_setI (ph_setI (ph_setI (ph_setI h r2 (Int.toNat (0 + a3)) a1) r10 (Int.toNat (8 + a3)) a2) r18 (Int.toNat (16 + a3)) 0) r26 (Int.toNat (24 + a3)) (-6)) r34 (Int.toNat (32 + a3)) (-6)) a0 0 = r42 from e43]
  refine pw_sipush C dX7_pass_107 rfl ?_
  refine pw_dup2 C dX7_pass_110 ?_
  refine pw_iald C dX7_pass_111 t44 q45 q46 q47 ?_
  rw [show ph_I (ph_setI (ph_setI (ph_setI (ph_setI (ph_setI h r2 (Int.toNat (0 + a3)) a1) r10 (Int.toNat (8 + a3)) a2) r18 (Int.toNat (16 + a3)) 0) r26 (Int.toNat (24 + a3)) (-6)) r34 (Int.toNat (32 + a3)) (-6)) r42 (Int.toNat 484) = x48 from e49]
  refine pw_iconst C dX7_pass_112 ?_
  refine pw_iadd C dX7_pass_113 ?_
  refine pw_iast C dX7_pass_114 t50 q51 q52 q53 ?_
  refine pw_aload_n C dX7_pass_115 rfl ?_
  refine pw_getR C (t := 7) (f := 0) rfl inF7 rfl (by decide) (by decide) rfl kw678 dX7_pass_116 t55 ?_
  rw [show ph_R (ph_setI (ph_setI (ph_setI (ph_setI (ph_setI (ph_setI h r2 (Int.toNat (0 + a3)) a1) r10 (Int.toNat (8 + a3)) a2) r18 (Int.toNat (16 + a3)) 0) r26 (Int.toNat (24 + a3)) (-6)) r34 (Int.toNat (32 + a3)) (-6)) r42 (Int.toNat 484) (x48 + 1)) a0 0 = r56 from e57]
  refine pw_sipush C dX7_pass_119 rfl ?_
  refine pw_iald C dX7_pass_122 t58 q59 q60 q61 ?_
  rw [show ph_I (ph_setI (ph_setI (ph_setI (ph_setI (ph_setI (ph_setI h r2 (Int.toNat (0 + a3)) a1) r10 (Int.toNat (8 + a3)) a2) r18 (Int.toNat (16 + a3)) 0) r26 (Int.toNat (24 + a3)) (-6)) r34 (Int.toNat (32 + a3)) (-6)) r42 (Int.toNat 484) (x48 + 1)) r56 (Int.toNat 484) = x62 from e63]
  exact pw_ireturn C dX7_pass_123 hq
theorem dX7_point_0 : decode cX7_point 0 = .ok (.aload_n 0, 1) := by decide +kernel
theorem dX7_point_1 : decode cX7_point 1 = .ok (.iload_n 1, 1) := by decide +kernel
theorem dX7_point_2 : decode cX7_point 2 = .ok (.invokevirtual 37, 3) := by decide +kernel
theorem dX7_point_5 : decode cX7_point 5 = .ok (.istore 4, 2) := by decide +kernel
theorem dX7_point_7 : decode cX7_point 7 = .ok (.iload 4, 2) := by decide +kernel
theorem dX7_point_9 : decode cX7_point 9 = .ok (.ifCond .ge 5, 3) := by decide +kernel
theorem dX7_point_12 : decode cX7_point 12 = .ok (.iconst (-1), 1) := by decide +kernel
theorem dX7_point_13 : decode cX7_point 13 = .ok (.ireturn, 1) := by decide +kernel
theorem dX7_point_14 : decode cX7_point 14 = .ok (.iload_n 2, 1) := by decide +kernel
theorem dX7_point_15 : decode cX7_point 15 = .ok (.iload_n 3, 1) := by decide +kernel
theorem dX7_point_16 : decode cX7_point 16 = .ok (.invokestatic 41, 3) := by decide +kernel
theorem dX7_point_19 : decode cX7_point 19 = .ok (.ifCond .ne 6, 3) := by decide +kernel
theorem dX7_point_22 : decode cX7_point 22 = .ok (.bipush (-2), 2) := by decide +kernel
theorem dX7_point_24 : decode cX7_point 24 = .ok (.ireturn, 1) := by decide +kernel
theorem dX7_point_25 : decode cX7_point 25 = .ok (.aload_n 0, 1) := by decide +kernel
theorem dX7_point_26 : decode cX7_point 26 = .ok (.getfield 7, 3) := by decide +kernel
theorem dX7_point_29 : decode cX7_point 29 = .ok (.bipush 24, 2) := by decide +kernel
theorem dX7_point_31 : decode cX7_point 31 = .ok (.iload 4, 2) := by decide +kernel
theorem dX7_point_33 : decode cX7_point 33 = .ok (.iadd, 1) := by decide +kernel
theorem dX7_point_34 : decode cX7_point 34 = .ok (.iaload, 1) := by decide +kernel
theorem dX7_point_35 : decode cX7_point 35 = .ok (.ifCond .lt 6, 3) := by decide +kernel
theorem dX7_point_38 : decode cX7_point 38 = .ok (.bipush (-3), 2) := by decide +kernel
theorem dX7_point_40 : decode cX7_point 40 = .ok (.ireturn, 1) := by decide +kernel
theorem dX7_point_41 : decode cX7_point 41 = .ok (.aload_n 0, 1) := by decide +kernel
theorem dX7_point_42 : decode cX7_point 42 = .ok (.getfield 7, 3) := by decide +kernel
theorem dX7_point_45 : decode cX7_point 45 = .ok (.bipush 16, 2) := by decide +kernel
theorem dX7_point_47 : decode cX7_point 47 = .ok (.iload 4, 2) := by decide +kernel
theorem dX7_point_49 : decode cX7_point 49 = .ok (.iadd, 1) := by decide +kernel
theorem dX7_point_50 : decode cX7_point 50 = .ok (.iaload, 1) := by decide +kernel
theorem dX7_point_51 : decode cX7_point 51 = .ok (.istore 5, 2) := by decide +kernel
theorem dX7_point_53 : decode cX7_point 53 = .ok (.iload 5, 2) := by decide +kernel
theorem dX7_point_55 : decode cX7_point 55 = .ok (.bipush 16, 2) := by decide +kernel
theorem dX7_point_57 : decode cX7_point 57 = .ok (.if_icmp .ne 6, 3) := by decide +kernel
theorem dX7_point_60 : decode cX7_point 60 = .ok (.bipush (-4), 2) := by decide +kernel
theorem dX7_point_62 : decode cX7_point 62 = .ok (.ireturn, 1) := by decide +kernel
theorem dX7_point_63 : decode cX7_point 63 = .ok (.aload_n 0, 1) := by decide +kernel
theorem dX7_point_64 : decode cX7_point 64 = .ok (.getfield 7, 3) := by decide +kernel
theorem dX7_point_67 : decode cX7_point 67 = .ok (.bipush 40, 2) := by decide +kernel
theorem dX7_point_69 : decode cX7_point 69 = .ok (.bipush 16, 2) := by decide +kernel
theorem dX7_point_71 : decode cX7_point 71 = .ok (.iload 4, 2) := by decide +kernel
theorem dX7_point_73 : decode cX7_point 73 = .ok (.imul, 1) := by decide +kernel
theorem dX7_point_74 : decode cX7_point 74 = .ok (.iadd, 1) := by decide +kernel
theorem dX7_point_75 : decode cX7_point 75 = .ok (.iload 5, 2) := by decide +kernel
theorem dX7_point_77 : decode cX7_point 77 = .ok (.iadd, 1) := by decide +kernel
theorem dX7_point_78 : decode cX7_point 78 = .ok (.iload_n 2, 1) := by decide +kernel
theorem dX7_point_79 : decode cX7_point 79 = .ok (.iastore, 1) := by decide +kernel
theorem dX7_point_80 : decode cX7_point 80 = .ok (.aload_n 0, 1) := by decide +kernel
theorem dX7_point_81 : decode cX7_point 81 = .ok (.getfield 7, 3) := by decide +kernel
theorem dX7_point_84 : decode cX7_point 84 = .ok (.sipush 168, 3) := by decide +kernel
theorem dX7_point_87 : decode cX7_point 87 = .ok (.bipush 16, 2) := by decide +kernel
theorem dX7_point_89 : decode cX7_point 89 = .ok (.iload 4, 2) := by decide +kernel
theorem dX7_point_91 : decode cX7_point 91 = .ok (.imul, 1) := by decide +kernel
theorem dX7_point_92 : decode cX7_point 92 = .ok (.iadd, 1) := by decide +kernel
theorem dX7_point_93 : decode cX7_point 93 = .ok (.iload 5, 2) := by decide +kernel
theorem dX7_point_95 : decode cX7_point 95 = .ok (.iadd, 1) := by decide +kernel
theorem dX7_point_96 : decode cX7_point 96 = .ok (.iload_n 3, 1) := by decide +kernel
theorem dX7_point_97 : decode cX7_point 97 = .ok (.iastore, 1) := by decide +kernel
theorem dX7_point_98 : decode cX7_point 98 = .ok (.aload_n 0, 1) := by decide +kernel
theorem dX7_point_99 : decode cX7_point 99 = .ok (.getfield 7, 3) := by decide +kernel
theorem dX7_point_102 : decode cX7_point 102 = .ok (.bipush 16, 2) := by decide +kernel
theorem dX7_point_104 : decode cX7_point 104 = .ok (.iload 4, 2) := by decide +kernel
theorem dX7_point_106 : decode cX7_point 106 = .ok (.iadd, 1) := by decide +kernel
theorem dX7_point_107 : decode cX7_point 107 = .ok (.dup2, 1) := by decide +kernel
theorem dX7_point_108 : decode cX7_point 108 = .ok (.iaload, 1) := by decide +kernel
theorem dX7_point_109 : decode cX7_point 109 = .ok (.iconst 1, 1) := by decide +kernel
theorem dX7_point_110 : decode cX7_point 110 = .ok (.iadd, 1) := by decide +kernel
theorem dX7_point_111 : decode cX7_point 111 = .ok (.iastore, 1) := by decide +kernel
theorem dX7_point_112 : decode cX7_point 112 = .ok (.iload 5, 2) := by decide +kernel
theorem dX7_point_114 : decode cX7_point 114 = .ok (.iconst 1, 1) := by decide +kernel
theorem dX7_point_115 : decode cX7_point 115 = .ok (.iadd, 1) := by decide +kernel
theorem dX7_point_116 : decode cX7_point 116 = .ok (.ireturn, 1) := by decide +kernel
set_option maxRecDepth 20000 in
theorem B_X7_point_0 {G : Gx} {X : Cx} {h : PH} {k n : Nat} {Q : State → Prop} {S : List PV} {a0 : Nat} {a1 : Int} {a2 : Int} {a3 : Int} {PQ : Option PV → PH → Prop} (C : CX_X7_point G X) (hk0 : k ≤ 0 := by decide) (hn0 : n ≤ 0 := by decide) (t1 : ph_T h a0 = 7 := by first | assumption | rfl) (hM : CT_X7_passOf G X.2.1 [.inr a0, .inl a1] h PQ) (hS : S.length ≤ 8 := by decide) (kk : ∀ r h', PQ r h' → PW G X 6 Q k n 5 [some (.inr a0), some (.inl a1), some (.inl a2), some (.inl a3), none, none] (r.toList ++ S) h') : PW G X 6 Q k n 0 [some (.inr a0), some (.inl a1), some (.inl a2), some (.inl a3), none, none] (S) h := by
  refine pw_aload_n C dX7_point_0 rfl ?_
  refine pw_iload_n C dX7_point_1 rfl ?_
  exact pw_callV C (na := 1) (As := [.inl a1]) (S := S) hM t1 (by decide) (hcl := by rfl) kw722 kw724 kw17 kw45 kw725 (by decide +kernel) rfl dX7_point_2 (by decide) (by decide) hk0 hn0 (by first | exact hS | (simp only [List.length_cons]; omega)) kk
set_option maxRecDepth 20000 in
theorem B_X7_point_5 {G : Gx} {X : Cx} {h : PH} {k n : Nat} {Q : State → Prop} {S : List PV} {a0 : Nat} {a1 : Int} {a2 : Int} {a3 : Int} {s0 : Int} (C : CX_X7_point G X) (q1 : pR s0 := by first | assumption | (unfold pR; omega)) (kt : 0 ≤ s0 → PW G X 6 Q k n 14 [some (.inr a0), some (.inl a1), some (.inl a2), some (.inl a3), some (.inl s0), none] (S) h) (kf : ¬ 0 ≤ s0 → PW G X 6 Q k n 12 [some (.inr a0), some (.inl a1), some (.inl a2), some (.inl a3), some (.inl s0), none] (S) h) : PW G X 6 Q k n 5 [some (.inr a0), some (.inl a1), some (.inl a2), some (.inl a3), none, none] (.inl s0 :: S) h := by
  refine pw_istore C dX7_point_5 (by decide) ?_
  refine pw_iload C dX7_point_7 rfl ?_
  exact pw_if_ge C 14 dX7_point_9 (by decide) q1 kt kf
set_option maxRecDepth 20000 in
theorem B_X7_point_12 {G : Gx} {X : Cx} {h : PH} {k n : Nat} {a0 : Nat} {a1 : Int} {a2 : Int} {a3 : Int} {a4 : Int} {PQ : Option PV → PH → Prop} (C : CX_X7_point G X) (hq : PQ (some (.inl (-1))) h) : PW G X 6 (pw_E G X PQ k n) k n 12 [some (.inr a0), some (.inl a1), some (.inl a2), some (.inl a3), some (.inl a4), none] [] h := by
  refine pw_iconst C dX7_point_12 ?_
  exact pw_ireturn C dX7_point_13 hq
set_option maxRecDepth 20000 in
theorem B_X7_point_14 {G : Gx} {X : Cx} {h : PH} {k n : Nat} {Q : State → Prop} {S : List PV} {a0 : Nat} {a1 : Int} {a2 : Int} {a3 : Int} {a4 : Int} {PQ : Option PV → PH → Prop} (C : CX_X7_point G X) (hk0 : k ≤ 0 := by decide) (hn0 : n ≤ 0 := by decide) (hM : CT_X7_isDirection G X.2.1 [.inl a2, .inl a3] h PQ) (hS : S.length ≤ 8 := by decide) (kk : ∀ r h', PQ r h' → PW G X 6 Q k n 19 [some (.inr a0), some (.inl a1), some (.inl a2), some (.inl a3), some (.inl a4), none] (r.toList ++ S) h') : PW G X 6 Q k n 14 [some (.inr a0), some (.inl a1), some (.inl a2), some (.inl a3), some (.inl a4), none] (S) h := by
  refine pw_iload_n C dX7_point_14 rfl ?_
  refine pw_iload_n C dX7_point_15 rfl ?_
  exact pw_callS C (na := 2) (As := [.inl a2, .inl a3]) (S := S) hM kw730 kw731 kw45 kw732 (by decide +kernel) rfl dX7_point_16 (by decide) (by decide) hk0 hn0 (by first | exact hS | (simp only [List.length_cons]; omega)) kk
set_option maxRecDepth 20000 in
theorem B_X7_point_19 {G : Gx} {X : Cx} {h : PH} {k n : Nat} {Q : State → Prop} {S : List PV} {a0 : Nat} {a1 : Int} {a2 : Int} {a3 : Int} {a4 : Int} {s0 : Int} (C : CX_X7_point G X) (q1 : pR s0 := by first | assumption | (unfold pR; omega)) (kt : ¬ s0 = 0 → PW G X 6 Q k n 25 [some (.inr a0), some (.inl a1), some (.inl a2), some (.inl a3), some (.inl a4), none] (S) h) (kf : s0 = 0 → PW G X 6 Q k n 22 [some (.inr a0), some (.inl a1), some (.inl a2), some (.inl a3), some (.inl a4), none] (S) h) : PW G X 6 Q k n 19 [some (.inr a0), some (.inl a1), some (.inl a2), some (.inl a3), some (.inl a4), none] (.inl s0 :: S) h := by
  exact pw_if_ne C 25 dX7_point_19 (by decide) q1 kt kf
set_option maxRecDepth 20000 in
theorem B_X7_point_22 {G : Gx} {X : Cx} {h : PH} {k n : Nat} {a0 : Nat} {a1 : Int} {a2 : Int} {a3 : Int} {a4 : Int} {PQ : Option PV → PH → Prop} (C : CX_X7_point G X) (hq : PQ (some (.inl (-2))) h) : PW G X 6 (pw_E G X PQ k n) k n 22 [some (.inr a0), some (.inl a1), some (.inl a2), some (.inl a3), some (.inl a4), none] [] h := by
  refine pw_bipush C dX7_point_22 rfl ?_
  exact pw_ireturn C dX7_point_24 hq
set_option maxRecDepth 20000 in
theorem B_X7_point_25 {G : Gx} {X : Cx} {h : PH} {k n : Nat} {Q : State → Prop} {S : List PV} {a0 : Nat} {a1 : Int} {a2 : Int} {a3 : Int} {a4 : Int} {r2 : Nat} {x8 : Int} (C : CX_X7_point G X) (t1 : ph_T h a0 = 7 := by first | assumption | rfl) (e3 : ph_R h a0 0 = r2 := by first | assumption | rfl) (t4 : ph_T h r2 = 8 := by first | assumption | rfl) (q5 : (0 : Int) ≤ 24 + a4 := by first | assumption | omega) (q6 : 24 + a4 < (ph_L h r2 : Int) := by first | assumption | omega) (q7 : pR (24 + a4) := by first | assumption | (unfold pR; omega)) (e9 : ph_I h r2 (Int.toNat (24 + a4)) = x8 := by first | assumption | rfl) (q10 : pR x8 := by first | assumption | (unfold pR; omega)) (kt : x8 < 0 → PW G X 6 Q k n 41 [some (.inr a0), some (.inl a1), some (.inl a2), some (.inl a3), some (.inl a4), none] (S) h) (kf : ¬ x8 < 0 → PW G X 6 Q k n 38 [some (.inr a0), some (.inl a1), some (.inl a2), some (.inl a3), some (.inl a4), none] (S) h) : PW G X 6 Q k n 25 [some (.inr a0), some (.inl a1), some (.inl a2), some (.inl a3), some (.inl a4), none] (S) h := by
  refine pw_aload_n C dX7_point_25 rfl ?_
  refine pw_getR C (t := 7) (f := 0) rfl inF7 rfl (by decide) (by decide) rfl kw678 dX7_point_26 t1 ?_
  rw [e3]
  refine pw_bipush C dX7_point_29 rfl ?_
  refine pw_iload C dX7_point_31 rfl ?_
  refine pw_iadd C dX7_point_33 ?_
  refine pw_iald C dX7_point_34 t4 q5 q6 q7 ?_
  rw [e9]
  exact pw_if_lt C 41 dX7_point_35 (by decide) q10 kt kf
set_option maxRecDepth 20000 in
theorem B_X7_point_38 {G : Gx} {X : Cx} {h : PH} {k n : Nat} {a0 : Nat} {a1 : Int} {a2 : Int} {a3 : Int} {a4 : Int} {PQ : Option PV → PH → Prop} (C : CX_X7_point G X) (hq : PQ (some (.inl (-3))) h) : PW G X 6 (pw_E G X PQ k n) k n 38 [some (.inr a0), some (.inl a1), some (.inl a2), some (.inl a3), some (.inl a4), none] [] h := by
  refine pw_bipush C dX7_point_38 rfl ?_
  exact pw_ireturn C dX7_point_40 hq
set_option maxRecDepth 20000 in
theorem B_X7_point_41 {G : Gx} {X : Cx} {h : PH} {k n : Nat} {Q : State → Prop} {S : List PV} {a0 : Nat} {a1 : Int} {a2 : Int} {a3 : Int} {a4 : Int} {r2 : Nat} {x8 : Int} (C : CX_X7_point G X) (t1 : ph_T h a0 = 7 := by first | assumption | rfl) (e3 : ph_R h a0 0 = r2 := by first | assumption | rfl) (t4 : ph_T h r2 = 8 := by first | assumption | rfl) (q5 : (0 : Int) ≤ 16 + a4 := by first | assumption | omega) (q6 : 16 + a4 < (ph_L h r2 : Int) := by first | assumption | omega) (q7 : pR (16 + a4) := by first | assumption | (unfold pR; omega)) (e9 : ph_I h r2 (Int.toNat (16 + a4)) = x8 := by first | assumption | rfl) (q10 : pR x8 := by first | assumption | (unfold pR; omega)) (q11 : pR 16 := by first | assumption | (unfold pR; omega)) (kt : ¬ x8 = 16 → PW G X 6 Q k n 63 [some (.inr a0), some (.inl a1), some (.inl a2), some (.inl a3), some (.inl a4), some (.inl x8)] (S) h) (kf : x8 = 16 → PW G X 6 Q k n 60 [some (.inr a0), some (.inl a1), some (.inl a2), some (.inl a3), some (.inl a4), some (.inl x8)] (S) h) : PW G X 6 Q k n 41 [some (.inr a0), some (.inl a1), some (.inl a2), some (.inl a3), some (.inl a4), none] (S) h := by
  refine pw_aload_n C dX7_point_41 rfl ?_
  refine pw_getR C (t := 7) (f := 0) rfl inF7 rfl (by decide) (by decide) rfl kw678 dX7_point_42 t1 ?_
  rw [e3]
  refine pw_bipush C dX7_point_45 rfl ?_
  refine pw_iload C dX7_point_47 rfl ?_
  refine pw_iadd C dX7_point_49 ?_
  refine pw_iald C dX7_point_50 t4 q5 q6 q7 ?_
  rw [e9]
  refine pw_istore C dX7_point_51 (by decide) ?_
  refine pw_iload C dX7_point_53 rfl ?_
  refine pw_bipush C dX7_point_55 rfl ?_
  exact pw_icmp_ne C 63 dX7_point_57 (by decide) q10 q11 kt kf
set_option maxRecDepth 20000 in
theorem B_X7_point_60 {G : Gx} {X : Cx} {h : PH} {k n : Nat} {a0 : Nat} {a1 : Int} {a2 : Int} {a3 : Int} {a4 : Int} {a5 : Int} {PQ : Option PV → PH → Prop} (C : CX_X7_point G X) (hq : PQ (some (.inl (-4))) h) : PW G X 6 (pw_E G X PQ k n) k n 60 [some (.inr a0), some (.inl a1), some (.inl a2), some (.inl a3), some (.inl a4), some (.inl a5)] [] h := by
  refine pw_bipush C dX7_point_60 rfl ?_
  exact pw_ireturn C dX7_point_62 hq
set_option maxRecDepth 20000 in
theorem B_X7_point_63 {G : Gx} {X : Cx} {h : PH} {k n : Nat} {a0 : Nat} {a1 : Int} {a2 : Int} {a3 : Int} {a4 : Int} {a5 : Int} {r2 : Nat} {r10 : Nat} {r18 : Nat} {x24 : Int} {PQ : Option PV → PH → Prop} (C : CX_X7_point G X) (t1 : ph_T h a0 = 7 := by first | assumption | rfl) (e3 : ph_R h a0 0 = r2 := by first | assumption | rfl) (t4 : ph_T h r2 = 8 := by first | assumption | rfl) (q5 : (0 : Int) ≤ (40 + (16 * a4)) + a5 := by first | assumption | omega) (q6 : (40 + (16 * a4)) + a5 < (ph_L h r2 : Int) := by first | assumption | omega) (q7 : pR ((40 + (16 * a4)) + a5) := by first | assumption | (unfold pR; omega)) (t9 : ph_T h a0 = 7 := by first | assumption | rfl) (e11 : ph_R h a0 0 = r10 := by first | assumption | rfl) (t12 : ph_T h r10 = 8 := by first | assumption | rfl) (q13 : (0 : Int) ≤ (168 + (16 * a4)) + a5 := by first | assumption | omega) (q14 : (168 + (16 * a4)) + a5 < (ph_L h r10 : Int) := by first | assumption | omega) (q15 : pR ((168 + (16 * a4)) + a5) := by first | assumption | (unfold pR; omega)) (t17 : ph_T h a0 = 7 := by first | assumption | rfl) (e19 : ph_R h a0 0 = r18 := by first | assumption | rfl) (t20 : ph_T h r18 = 8 := by first | assumption | rfl) (q21 : (0 : Int) ≤ 16 + a4 := by first | assumption | omega) (q22 : 16 + a4 < (ph_L h r18 : Int) := by first | assumption | omega) (q23 : pR (16 + a4) := by first | assumption | (unfold pR; omega)) (e25 : ph_I (ph_setI (ph_setI h r2 (Int.toNat ((40 + (16 * a4)) + a5)) a2) r10 (Int.toNat ((168 + (16 * a4)) + a5)) a3) r18 (Int.toNat (16 + a4)) = x24 := by first | assumption | rfl) (t26 : ph_T h r18 = 8 := by first | assumption | rfl) (q27 : (0 : Int) ≤ 16 + a4 := by first | assumption | omega) (q28 : 16 + a4 < (ph_L h r18 : Int) := by first | assumption | omega) (q29 : pR (16 + a4) := by first | assumption | (unfold pR; omega)) (hq : PQ (some (.inl (a5 + 1))) (ph_setI (ph_setI (ph_setI h r2 (Int.toNat ((40 + (16 * a4)) + a5)) a2) r10 (Int.toNat ((168 + (16 * a4)) + a5)) a3) r18 (Int.toNat (16 + a4)) (x24 + 1))) : PW G X 6 (pw_E G X PQ k n) k n 63 [some (.inr a0), some (.inl a1), some (.inl a2), some (.inl a3), some (.inl a4), some (.inl a5)] [] h := by
  refine pw_aload_n C dX7_point_63 rfl ?_
  refine pw_getR C (t := 7) (f := 0) rfl inF7 rfl (by decide) (by decide) rfl kw678 dX7_point_64 t1 ?_
  rw [e3]
  refine pw_bipush C dX7_point_67 rfl ?_
  refine pw_bipush C dX7_point_69 rfl ?_
  refine pw_iload C dX7_point_71 rfl ?_
  refine pw_imul C dX7_point_73 ?_
  refine pw_iadd C dX7_point_74 ?_
  refine pw_iload C dX7_point_75 rfl ?_
  refine pw_iadd C dX7_point_77 ?_
  refine pw_iload_n C dX7_point_78 rfl ?_
  refine pw_iast C dX7_point_79 t4 q5 q6 q7 ?_
  refine pw_aload_n C dX7_point_80 rfl ?_
  refine pw_getR C (t := 7) (f := 0) rfl inF7 rfl (by decide) (by decide) rfl kw678 dX7_point_81 t9 ?_
  rw [show ph_R (ph_setI h r2 (Int.toNat ((40 + (16 * a4)) + a5)) a2) a0 0 = r10 from e11]
  refine pw_sipush C dX7_point_84 rfl ?_
  refine pw_bipush C dX7_point_87 rfl ?_
  refine pw_iload C dX7_point_89 rfl ?_
  refine pw_imul C dX7_point_91 ?_
  refine pw_iadd C dX7_point_92 ?_
  refine pw_iload C dX7_point_93 rfl ?_
  refine pw_iadd C dX7_point_95 ?_
  refine pw_iload_n C dX7_point_96 rfl ?_
  refine pw_iast C dX7_point_97 t12 q13 q14 q15 ?_
  refine pw_aload_n C dX7_point_98 rfl ?_
  refine pw_getR C (t := 7) (f := 0) rfl inF7 rfl (by decide) (by decide) rfl kw678 dX7_point_99 t17 ?_
  rw [show ph_R (ph_setI (ph_setI h r2 (Int.toNat ((40 + (16 * a4)) + a5)) a2) r10 (Int.toNat ((168 + (16 * a4)) + a5)) a3) a0 0 = r18 from e19]
  refine pw_bipush C dX7_point_102 rfl ?_
  refine pw_iload C dX7_point_104 rfl ?_
  refine pw_iadd C dX7_point_106 ?_
  refine pw_dup2 C dX7_point_107 ?_
  refine pw_iald C dX7_point_108 t20 q21 q22 q23 ?_
  rw [show ph_I (ph_setI (ph_setI h r2 (Int.toNat ((40 + (16 * a4)) + a5)) a2) r10 (Int.toNat ((168 + (16 * a4)) + a5)) a3) r18 (Int.toNat (16 + a4)) = x24 from e25]
  refine pw_iconst C dX7_point_109 ?_
  refine pw_iadd C dX7_point_110 ?_
  refine pw_iast C dX7_point_111 t26 q27 q28 q29 ?_
  refine pw_iload C dX7_point_112 rfl ?_
  refine pw_iconst C dX7_point_114 ?_
  refine pw_iadd C dX7_point_115 ?_
  exact pw_ireturn C dX7_point_116 hq
theorem dX7_drop_0 : decode cX7_drop 0 = .ok (.aload_n 0, 1) := by decide +kernel
theorem dX7_drop_1 : decode cX7_drop 1 = .ok (.iload_n 1, 1) := by decide +kernel
theorem dX7_drop_2 : decode cX7_drop 2 = .ok (.invokevirtual 37, 3) := by decide +kernel
theorem dX7_drop_5 : decode cX7_drop 5 = .ok (.istore_n 2, 1) := by decide +kernel
theorem dX7_drop_6 : decode cX7_drop 6 = .ok (.iload_n 2, 1) := by decide +kernel
theorem dX7_drop_7 : decode cX7_drop 7 = .ok (.ifCond .ge 5, 3) := by decide +kernel
theorem dX7_drop_10 : decode cX7_drop 10 = .ok (.iconst (-1), 1) := by decide +kernel
theorem dX7_drop_11 : decode cX7_drop 11 = .ok (.ireturn, 1) := by decide +kernel
theorem dX7_drop_12 : decode cX7_drop 12 = .ok (.aload_n 0, 1) := by decide +kernel
theorem dX7_drop_13 : decode cX7_drop 13 = .ok (.getfield 7, 3) := by decide +kernel
theorem dX7_drop_16 : decode cX7_drop 16 = .ok (.sipush 484, 3) := by decide +kernel
theorem dX7_drop_19 : decode cX7_drop 19 = .ok (.dup2, 1) := by decide +kernel
theorem dX7_drop_20 : decode cX7_drop 20 = .ok (.iaload, 1) := by decide +kernel
theorem dX7_drop_21 : decode cX7_drop 21 = .ok (.iconst 1, 1) := by decide +kernel
theorem dX7_drop_22 : decode cX7_drop 22 = .ok (.isub, 1) := by decide +kernel
theorem dX7_drop_23 : decode cX7_drop 23 = .ok (.iastore, 1) := by decide +kernel
theorem dX7_drop_24 : decode cX7_drop 24 = .ok (.iload_n 2, 1) := by decide +kernel
theorem dX7_drop_25 : decode cX7_drop 25 = .ok (.istore_n 3, 1) := by decide +kernel
theorem dX7_drop_26 : decode cX7_drop 26 = .ok (.iload_n 3, 1) := by decide +kernel
theorem dX7_drop_27 : decode cX7_drop 27 = .ok (.aload_n 0, 1) := by decide +kernel
theorem dX7_drop_28 : decode cX7_drop 28 = .ok (.getfield 7, 3) := by decide +kernel
theorem dX7_drop_31 : decode cX7_drop 31 = .ok (.sipush 484, 3) := by decide +kernel
theorem dX7_drop_34 : decode cX7_drop 34 = .ok (.iaload, 1) := by decide +kernel
theorem dX7_drop_35 : decode cX7_drop 35 = .ok (.if_icmp .ge 129, 3) := by decide +kernel
theorem dX7_drop_38 : decode cX7_drop 38 = .ok (.iconst 0, 1) := by decide +kernel
theorem dX7_drop_39 : decode cX7_drop 39 = .ok (.istore 4, 2) := by decide +kernel
theorem dX7_drop_41 : decode cX7_drop 41 = .ok (.iload 4, 2) := by decide +kernel
theorem dX7_drop_43 : decode cX7_drop 43 = .ok (.bipush 32, 2) := by decide +kernel
theorem dX7_drop_45 : decode cX7_drop 45 = .ok (.if_icmp .gt 29, 3) := by decide +kernel
theorem dX7_drop_48 : decode cX7_drop 48 = .ok (.aload_n 0, 1) := by decide +kernel
theorem dX7_drop_49 : decode cX7_drop 49 = .ok (.getfield 7, 3) := by decide +kernel
theorem dX7_drop_52 : decode cX7_drop 52 = .ok (.iload 4, 2) := by decide +kernel
theorem dX7_drop_54 : decode cX7_drop 54 = .ok (.iload_n 3, 1) := by decide +kernel
theorem dX7_drop_55 : decode cX7_drop 55 = .ok (.iadd, 1) := by decide +kernel
theorem dX7_drop_56 : decode cX7_drop 56 = .ok (.aload_n 0, 1) := by decide +kernel
theorem dX7_drop_57 : decode cX7_drop 57 = .ok (.getfield 7, 3) := by decide +kernel
theorem dX7_drop_60 : decode cX7_drop 60 = .ok (.iload 4, 2) := by decide +kernel
theorem dX7_drop_62 : decode cX7_drop 62 = .ok (.iload_n 3, 1) := by decide +kernel
theorem dX7_drop_63 : decode cX7_drop 63 = .ok (.iadd, 1) := by decide +kernel
theorem dX7_drop_64 : decode cX7_drop 64 = .ok (.iconst 1, 1) := by decide +kernel
theorem dX7_drop_65 : decode cX7_drop 65 = .ok (.iadd, 1) := by decide +kernel
theorem dX7_drop_66 : decode cX7_drop 66 = .ok (.iaload, 1) := by decide +kernel
theorem dX7_drop_67 : decode cX7_drop 67 = .ok (.iastore, 1) := by decide +kernel
theorem dX7_drop_68 : decode cX7_drop 68 = .ok (.iinc 4 8, 3) := by decide +kernel
theorem dX7_drop_71 : decode cX7_drop 71 = .ok (.goto (-30), 3) := by decide +kernel
theorem dX7_drop_74 : decode cX7_drop 74 = .ok (.iconst 0, 1) := by decide +kernel
theorem dX7_drop_75 : decode cX7_drop 75 = .ok (.istore 4, 2) := by decide +kernel
theorem dX7_drop_77 : decode cX7_drop 77 = .ok (.iload 4, 2) := by decide +kernel
theorem dX7_drop_79 : decode cX7_drop 79 = .ok (.bipush 16, 2) := by decide +kernel
theorem dX7_drop_81 : decode cX7_drop 81 = .ok (.if_icmp .ge 77, 3) := by decide +kernel
theorem dX7_drop_84 : decode cX7_drop 84 = .ok (.aload_n 0, 1) := by decide +kernel
theorem dX7_drop_85 : decode cX7_drop 85 = .ok (.getfield 7, 3) := by decide +kernel
theorem dX7_drop_88 : decode cX7_drop 88 = .ok (.bipush 40, 2) := by decide +kernel
theorem dX7_drop_90 : decode cX7_drop 90 = .ok (.bipush 16, 2) := by decide +kernel
theorem dX7_drop_92 : decode cX7_drop 92 = .ok (.iload_n 3, 1) := by decide +kernel
theorem dX7_drop_93 : decode cX7_drop 93 = .ok (.imul, 1) := by decide +kernel
theorem dX7_drop_94 : decode cX7_drop 94 = .ok (.iadd, 1) := by decide +kernel
theorem dX7_drop_95 : decode cX7_drop 95 = .ok (.iload 4, 2) := by decide +kernel
theorem dX7_drop_97 : decode cX7_drop 97 = .ok (.iadd, 1) := by decide +kernel
theorem dX7_drop_98 : decode cX7_drop 98 = .ok (.aload_n 0, 1) := by decide +kernel
theorem dX7_drop_99 : decode cX7_drop 99 = .ok (.getfield 7, 3) := by decide +kernel
theorem dX7_drop_102 : decode cX7_drop 102 = .ok (.bipush 40, 2) := by decide +kernel
theorem dX7_drop_104 : decode cX7_drop 104 = .ok (.bipush 16, 2) := by decide +kernel
theorem dX7_drop_106 : decode cX7_drop 106 = .ok (.iload_n 3, 1) := by decide +kernel
theorem dX7_drop_107 : decode cX7_drop 107 = .ok (.imul, 1) := by decide +kernel
theorem dX7_drop_108 : decode cX7_drop 108 = .ok (.iadd, 1) := by decide +kernel
theorem dX7_drop_109 : decode cX7_drop 109 = .ok (.bipush 16, 2) := by decide +kernel
theorem dX7_drop_111 : decode cX7_drop 111 = .ok (.iadd, 1) := by decide +kernel
theorem dX7_drop_112 : decode cX7_drop 112 = .ok (.iload 4, 2) := by decide +kernel
theorem dX7_drop_114 : decode cX7_drop 114 = .ok (.iadd, 1) := by decide +kernel
theorem dX7_drop_115 : decode cX7_drop 115 = .ok (.iaload, 1) := by decide +kernel
theorem dX7_drop_116 : decode cX7_drop 116 = .ok (.iastore, 1) := by decide +kernel
theorem dX7_drop_117 : decode cX7_drop 117 = .ok (.aload_n 0, 1) := by decide +kernel
theorem dX7_drop_118 : decode cX7_drop 118 = .ok (.getfield 7, 3) := by decide +kernel
theorem dX7_drop_121 : decode cX7_drop 121 = .ok (.sipush 168, 3) := by decide +kernel
theorem dX7_drop_124 : decode cX7_drop 124 = .ok (.bipush 16, 2) := by decide +kernel
theorem dX7_drop_126 : decode cX7_drop 126 = .ok (.iload_n 3, 1) := by decide +kernel
theorem dX7_drop_127 : decode cX7_drop 127 = .ok (.imul, 1) := by decide +kernel
theorem dX7_drop_128 : decode cX7_drop 128 = .ok (.iadd, 1) := by decide +kernel
theorem dX7_drop_129 : decode cX7_drop 129 = .ok (.iload 4, 2) := by decide +kernel
theorem dX7_drop_131 : decode cX7_drop 131 = .ok (.iadd, 1) := by decide +kernel
theorem dX7_drop_132 : decode cX7_drop 132 = .ok (.aload_n 0, 1) := by decide +kernel
theorem dX7_drop_133 : decode cX7_drop 133 = .ok (.getfield 7, 3) := by decide +kernel
theorem dX7_drop_136 : decode cX7_drop 136 = .ok (.sipush 168, 3) := by decide +kernel
theorem dX7_drop_139 : decode cX7_drop 139 = .ok (.bipush 16, 2) := by decide +kernel
theorem dX7_drop_141 : decode cX7_drop 141 = .ok (.iload_n 3, 1) := by decide +kernel
theorem dX7_drop_142 : decode cX7_drop 142 = .ok (.imul, 1) := by decide +kernel
theorem dX7_drop_143 : decode cX7_drop 143 = .ok (.iadd, 1) := by decide +kernel
theorem dX7_drop_144 : decode cX7_drop 144 = .ok (.bipush 16, 2) := by decide +kernel
theorem dX7_drop_146 : decode cX7_drop 146 = .ok (.iadd, 1) := by decide +kernel
theorem dX7_drop_147 : decode cX7_drop 147 = .ok (.iload 4, 2) := by decide +kernel
theorem dX7_drop_149 : decode cX7_drop 149 = .ok (.iadd, 1) := by decide +kernel
theorem dX7_drop_150 : decode cX7_drop 150 = .ok (.iaload, 1) := by decide +kernel
theorem dX7_drop_151 : decode cX7_drop 151 = .ok (.iastore, 1) := by decide +kernel
theorem dX7_drop_152 : decode cX7_drop 152 = .ok (.iinc 4 1, 3) := by decide +kernel
theorem dX7_drop_155 : decode cX7_drop 155 = .ok (.goto (-78), 3) := by decide +kernel
theorem dX7_drop_158 : decode cX7_drop 158 = .ok (.iinc 3 1, 3) := by decide +kernel
theorem dX7_drop_161 : decode cX7_drop 161 = .ok (.goto (-135), 3) := by decide +kernel
theorem dX7_drop_164 : decode cX7_drop 164 = .ok (.aload_n 0, 1) := by decide +kernel
theorem dX7_drop_165 : decode cX7_drop 165 = .ok (.getfield 7, 3) := by decide +kernel
theorem dX7_drop_168 : decode cX7_drop 168 = .ok (.sipush 484, 3) := by decide +kernel
theorem dX7_drop_171 : decode cX7_drop 171 = .ok (.iaload, 1) := by decide +kernel
theorem dX7_drop_172 : decode cX7_drop 172 = .ok (.ireturn, 1) := by decide +kernel
set_option maxRecDepth 20000 in
theorem B_X7_drop_0 {G : Gx} {X : Cx} {h : PH} {k n : Nat} {Q : State → Prop} {S : List PV} {a0 : Nat} {a1 : Int} {PQ : Option PV → PH → Prop} (C : CX_X7_drop G X) (hk0 : k ≤ 0 := by decide) (hn0 : n ≤ 0 := by decide) (t1 : ph_T h a0 = 7 := by first | assumption | rfl) (hM : CT_X7_passOf G X.2.1 [.inr a0, .inl a1] h PQ) (hS : S.length ≤ 8 := by decide) (kk : ∀ r h', PQ r h' → PW G X 5 Q k n 5 [some (.inr a0), some (.inl a1), none, none, none] (r.toList ++ S) h') : PW G X 5 Q k n 0 [some (.inr a0), some (.inl a1), none, none, none] (S) h := by
  refine pw_aload_n C dX7_drop_0 rfl ?_
  refine pw_iload_n C dX7_drop_1 rfl ?_
  exact pw_callV C (na := 1) (As := [.inl a1]) (S := S) hM t1 (by decide) (hcl := by rfl) kw722 kw724 kw17 kw45 kw725 (by decide +kernel) rfl dX7_drop_2 (by decide) (by decide) hk0 hn0 (by first | exact hS | (simp only [List.length_cons]; omega)) kk
set_option maxRecDepth 20000 in
theorem B_X7_drop_5 {G : Gx} {X : Cx} {h : PH} {k n : Nat} {Q : State → Prop} {S : List PV} {a0 : Nat} {a1 : Int} {s0 : Int} (C : CX_X7_drop G X) (q1 : pR s0 := by first | assumption | (unfold pR; omega)) (kt : 0 ≤ s0 → PW G X 5 Q k n 12 [some (.inr a0), some (.inl a1), some (.inl s0), none, none] (S) h) (kf : ¬ 0 ≤ s0 → PW G X 5 Q k n 10 [some (.inr a0), some (.inl a1), some (.inl s0), none, none] (S) h) : PW G X 5 Q k n 5 [some (.inr a0), some (.inl a1), none, none, none] (.inl s0 :: S) h := by
  refine pw_istore_n C dX7_drop_5 (by decide) ?_
  refine pw_iload_n C dX7_drop_6 rfl ?_
  exact pw_if_ge C 12 dX7_drop_7 (by decide) q1 kt kf
set_option maxRecDepth 20000 in
theorem B_X7_drop_10 {G : Gx} {X : Cx} {h : PH} {k n : Nat} {a0 : Nat} {a1 : Int} {a2 : Int} {PQ : Option PV → PH → Prop} (C : CX_X7_drop G X) (hq : PQ (some (.inl (-1))) h) : PW G X 5 (pw_E G X PQ k n) k n 10 [some (.inr a0), some (.inl a1), some (.inl a2), none, none] [] h := by
  refine pw_iconst C dX7_drop_10 ?_
  exact pw_ireturn C dX7_drop_11 hq
set_option maxRecDepth 20000 in
theorem B_X7_drop_12 {G : Gx} {X : Cx} {h : PH} {k n : Nat} {Q : State → Prop} {S : List PV} {a0 : Nat} {a1 : Int} {a2 : Int} {r2 : Nat} {x8 : Int} (C : CX_X7_drop G X) (t1 : ph_T h a0 = 7 := by first | assumption | rfl) (e3 : ph_R h a0 0 = r2 := by first | assumption | rfl) (t4 : ph_T h r2 = 8 := by first | assumption | rfl) (q5 : (0 : Int) ≤ 484 := by first | assumption | omega) (q6 : 484 < (ph_L h r2 : Int) := by first | assumption | omega) (q7 : pR 484 := by first | assumption | (unfold pR; omega)) (e9 : ph_I h r2 484 = x8 := by first | assumption | rfl) (t10 : ph_T h r2 = 8 := by first | assumption | rfl) (q11 : (0 : Int) ≤ 484 := by first | assumption | omega) (q12 : 484 < (ph_L h r2 : Int) := by first | assumption | omega) (q13 : pR 484 := by first | assumption | (unfold pR; omega)) (kk : PW G X 5 Q k n 26 [some (.inr a0), some (.inl a1), some (.inl a2), some (.inl a2), none] (S) (ph_setI h r2 (Int.toNat 484) (x8 - 1))) : PW G X 5 Q k n 12 [some (.inr a0), some (.inl a1), some (.inl a2), none, none] (S) h := by
  refine pw_aload_n C dX7_drop_12 rfl ?_
  refine pw_getR C (t := 7) (f := 0) rfl inF7 rfl (by decide) (by decide) rfl kw678 dX7_drop_13 t1 ?_
  rw [e3]
  refine pw_sipush C dX7_drop_16 rfl ?_
  refine pw_dup2 C dX7_drop_19 ?_
  refine pw_iald C dX7_drop_20 t4 q5 q6 q7 ?_
  rw [show ph_I h r2 (Int.toNat 484) = x8 from e9]
  refine pw_iconst C dX7_drop_21 ?_
  refine pw_isub C dX7_drop_22 ?_
  refine pw_iast C dX7_drop_23 t10 q11 q12 q13 ?_
  refine pw_iload_n C dX7_drop_24 rfl ?_
  refine pw_istore_n C dX7_drop_25 (by decide) ?_
  exact kk
set_option maxRecDepth 20000 in
theorem B_X7_drop_26 {G : Gx} {X : Cx} {h : PH} {k n : Nat} {Q : State → Prop} {S : List PV} {a0 : Nat} {a1 : Int} {a2 : Int} {a3 : Int} {r2 : Nat} {x8 : Int} (C : CX_X7_drop G X) (t1 : ph_T h a0 = 7 := by first | assumption | rfl) (e3 : ph_R h a0 0 = r2 := by first | assumption | rfl) (t4 : ph_T h r2 = 8 := by first | assumption | rfl) (q5 : (0 : Int) ≤ 484 := by first | assumption | omega) (q6 : 484 < (ph_L h r2 : Int) := by first | assumption | omega) (q7 : pR 484 := by first | assumption | (unfold pR; omega)) (e9 : ph_I h r2 484 = x8 := by first | assumption | rfl) (q10 : pR a3 := by first | assumption | (unfold pR; omega)) (q11 : pR x8 := by first | assumption | (unfold pR; omega)) (kt : x8 ≤ a3 → PW G X 5 Q k n 164 [some (.inr a0), some (.inl a1), some (.inl a2), some (.inl a3), none] (S) h) (kf : ¬ x8 ≤ a3 → PW G X 5 Q k n 38 [some (.inr a0), some (.inl a1), some (.inl a2), some (.inl a3), none] (S) h) : PW G X 5 Q k n 26 [some (.inr a0), some (.inl a1), some (.inl a2), some (.inl a3), none] (S) h := by
  refine pw_iload_n C dX7_drop_26 rfl ?_
  refine pw_aload_n C dX7_drop_27 rfl ?_
  refine pw_getR C (t := 7) (f := 0) rfl inF7 rfl (by decide) (by decide) rfl kw678 dX7_drop_28 t1 ?_
  rw [e3]
  refine pw_sipush C dX7_drop_31 rfl ?_
  refine pw_iald C dX7_drop_34 t4 q5 q6 q7 ?_
  rw [show ph_I h r2 (Int.toNat 484) = x8 from e9]
  exact pw_icmp_ge C 164 dX7_drop_35 (by decide) q10 q11 kt kf
set_option maxRecDepth 20000 in
theorem B_X7_drop_38 {G : Gx} {X : Cx} {h : PH} {k n : Nat} {Q : State → Prop} {S : List PV} {a0 : Nat} {a1 : Int} {a2 : Int} {a3 : Int} (C : CX_X7_drop G X) (kk : PW G X 5 Q k n 41 [some (.inr a0), some (.inl a1), some (.inl a2), some (.inl a3), some (.inl 0)] (S) h) : PW G X 5 Q k n 38 [some (.inr a0), some (.inl a1), some (.inl a2), some (.inl a3), none] (S) h := by
  refine pw_iconst C dX7_drop_38 ?_
  refine pw_istore C dX7_drop_39 (by decide) ?_
  exact kk
set_option maxRecDepth 20000 in
theorem B_X7_drop_41 {G : Gx} {X : Cx} {h : PH} {k n : Nat} {Q : State → Prop} {S : List PV} {a0 : Nat} {a1 : Int} {a2 : Int} {a3 : Int} {a4 : Int} (C : CX_X7_drop G X) (q1 : pR a4 := by first | assumption | (unfold pR; omega)) (q2 : pR 32 := by first | assumption | (unfold pR; omega)) (kt : 32 < a4 → PW G X 5 Q k n 74 [some (.inr a0), some (.inl a1), some (.inl a2), some (.inl a3), some (.inl a4)] (S) h) (kf : ¬ 32 < a4 → PW G X 5 Q k n 48 [some (.inr a0), some (.inl a1), some (.inl a2), some (.inl a3), some (.inl a4)] (S) h) : PW G X 5 Q k n 41 [some (.inr a0), some (.inl a1), some (.inl a2), some (.inl a3), some (.inl a4)] (S) h := by
  refine pw_iload C dX7_drop_41 rfl ?_
  refine pw_bipush C dX7_drop_43 rfl ?_
  exact pw_icmp_gt C 74 dX7_drop_45 (by decide) q1 q2 kt kf
set_option maxRecDepth 20000 in
theorem B_X7_drop_48 {G : Gx} {X : Cx} {h : PH} {k n : Nat} {Q : State → Prop} {S : List PV} {a0 : Nat} {a1 : Int} {a2 : Int} {a3 : Int} {a4 : Int} {r2 : Nat} {r5 : Nat} {x11 : Int} (C : CX_X7_drop G X) (t1 : ph_T h a0 = 7 := by first | assumption | rfl) (e3 : ph_R h a0 0 = r2 := by first | assumption | rfl) (t4 : ph_T h a0 = 7 := by first | assumption | rfl) (e6 : ph_R h a0 0 = r5 := by first | assumption | rfl) (t7 : ph_T h r5 = 8 := by first | assumption | rfl) (q8 : (0 : Int) ≤ (a4 + a3) + 1 := by first | assumption | omega) (q9 : (a4 + a3) + 1 < (ph_L h r5 : Int) := by first | assumption | omega) (q10 : pR ((a4 + a3) + 1) := by first | assumption | (unfold pR; omega)) (e12 : ph_I h r5 (Int.toNat ((a4 + a3) + 1)) = x11 := by first | assumption | rfl) (t13 : ph_T h r2 = 8 := by first | assumption | rfl) (q14 : (0 : Int) ≤ a4 + a3 := by first | assumption | omega) (q15 : a4 + a3 < (ph_L h r2 : Int) := by first | assumption | omega) (q16 : pR (a4 + a3) := by first | assumption | (unfold pR; omega)) (kk : PW G X 5 Q k n 41 [some (.inr a0), some (.inl a1), some (.inl a2), some (.inl a3), some (.inl (a4 + 8))] (S) (ph_setI h r2 (Int.toNat (a4 + a3)) x11)) : PW G X 5 Q k n 48 [some (.inr a0), some (.inl a1), some (.inl a2), some (.inl a3), some (.inl a4)] (S) h := by
  refine pw_aload_n C dX7_drop_48 rfl ?_
  refine pw_getR C (t := 7) (f := 0) rfl inF7 rfl (by decide) (by decide) rfl kw678 dX7_drop_49 t1 ?_
  rw [e3]
  refine pw_iload C dX7_drop_52 rfl ?_
  refine pw_iload_n C dX7_drop_54 rfl ?_
  refine pw_iadd C dX7_drop_55 ?_
  refine pw_aload_n C dX7_drop_56 rfl ?_
  refine pw_getR C (t := 7) (f := 0) rfl inF7 rfl (by decide) (by decide) rfl kw678 dX7_drop_57 t4 ?_
  rw [e6]
  refine pw_iload C dX7_drop_60 rfl ?_
  refine pw_iload_n C dX7_drop_62 rfl ?_
  refine pw_iadd C dX7_drop_63 ?_
  refine pw_iconst C dX7_drop_64 ?_
  refine pw_iadd C dX7_drop_65 ?_
  refine pw_iald C dX7_drop_66 t7 q8 q9 q10 ?_
  rw [e12]
  refine pw_iast C dX7_drop_67 t13 q14 q15 q16 ?_
  refine pw_iinc C dX7_drop_68 rfl (by decide) ?_
  refine pw_goto C 41 dX7_drop_71 (by decide) ?_
  exact kk
set_option maxRecDepth 20000 in
theorem B_X7_drop_74 {G : Gx} {X : Cx} {h : PH} {k n : Nat} {Q : State → Prop} {S : List PV} {a0 : Nat} {a1 : Int} {a2 : Int} {a3 : Int} {a4 : Int} (C : CX_X7_drop G X) (kk : PW G X 5 Q k n 77 [some (.inr a0), some (.inl a1), some (.inl a2), some (.inl a3), some (.inl 0)] (S) h) : PW G X 5 Q k n 74 [some (.inr a0), some (.inl a1), some (.inl a2), some (.inl a3), some (.inl a4)] (S) h := by
  refine pw_iconst C dX7_drop_74 ?_
  refine pw_istore C dX7_drop_75 (by decide) ?_
  exact kk
set_option maxRecDepth 20000 in
theorem B_X7_drop_77 {G : Gx} {X : Cx} {h : PH} {k n : Nat} {Q : State → Prop} {S : List PV} {a0 : Nat} {a1 : Int} {a2 : Int} {a3 : Int} {a4 : Int} (C : CX_X7_drop G X) (q1 : pR a4 := by first | assumption | (unfold pR; omega)) (q2 : pR 16 := by first | assumption | (unfold pR; omega)) (kt : 16 ≤ a4 → PW G X 5 Q k n 158 [some (.inr a0), some (.inl a1), some (.inl a2), some (.inl a3), some (.inl a4)] (S) h) (kf : ¬ 16 ≤ a4 → PW G X 5 Q k n 84 [some (.inr a0), some (.inl a1), some (.inl a2), some (.inl a3), some (.inl a4)] (S) h) : PW G X 5 Q k n 77 [some (.inr a0), some (.inl a1), some (.inl a2), some (.inl a3), some (.inl a4)] (S) h := by
  refine pw_iload C dX7_drop_77 rfl ?_
  refine pw_bipush C dX7_drop_79 rfl ?_
  exact pw_icmp_ge C 158 dX7_drop_81 (by decide) q1 q2 kt kf
set_option maxRecDepth 20000 in
theorem B_X7_drop_84 {G : Gx} {X : Cx} {h : PH} {k n : Nat} {Q : State → Prop} {S : List PV} {a0 : Nat} {a1 : Int} {a2 : Int} {a3 : Int} {a4 : Int} {r2 : Nat} {r5 : Nat} {x11 : Int} {r19 : Nat} {r22 : Nat} {x28 : Int} (C : CX_X7_drop G X) (t1 : ph_T h a0 = 7 := by first | assumption | rfl) (e3 : ph_R h a0 0 = r2 := by first | assumption | rfl) (t4 : ph_T h a0 = 7 := by first | assumption | rfl) (e6 : ph_R h a0 0 = r5 := by first | assumption | rfl) (t7 : ph_T h r5 = 8 := by first | assumption | rfl) (q8 : (0 : Int) ≤ ((40 + (16 * a3)) + 16) + a4 := by first | assumption | omega) (q9 : ((40 + (16 * a3)) + 16) + a4 < (ph_L h r5 : Int) := by first | assumption | omega) (q10 : pR (((40 + (16 * a3)) + 16) + a4) := by first | assumption | (unfold pR; omega)) (e12 : ph_I h r5 (Int.toNat (((40 + (16 * a3)) + 16) + a4)) = x11 := by first | assumption | rfl) (t13 : ph_T h r2 = 8 := by first | assumption | rfl) (q14 : (0 : Int) ≤ (40 + (16 * a3)) + a4 := by first | assumption | omega) (q15 : (40 + (16 * a3)) + a4 < (ph_L h r2 : Int) := by first | assumption | omega) (q16 : pR ((40 + (16 * a3)) + a4) := by first | assumption | (unfold pR; omega)) (t18 : ph_T h a0 = 7 := by first | assumption | rfl) (e20 : ph_R h a0 0 = r19 := by first | assumption | rfl) (t21 : ph_T h a0 = 7 := by first | assumption | rfl) (e23 : ph_R h a0 0 = r22 := by first | assumption | rfl) (t24 : ph_T h r22 = 8 := by first | assumption | rfl) (q25 : (0 : Int) ≤ ((168 + (16 * a3)) + 16) + a4 := by first | assumption | omega) (q26 : ((168 + (16 * a3)) + 16) + a4 < (ph_L h r22 : Int) := by first | assumption | omega) (q27 : pR (((168 + (16 * a3)) + 16) + a4) := by first | assumption | (unfold pR; omega)) (e29 : ph_I (ph_setI h r2 (Int.toNat ((40 + (16 * a3)) + a4)) x11) r22 (Int.toNat (((168 + (16 * a3)) + 16) + a4)) = x28 := by first | assumption | rfl) (t30 : ph_T h r19 = 8 := by first | assumption | rfl) (q31 : (0 : Int) ≤ (168 + (16 * a3)) + a4 := by first | assumption | omega) (q32 : (168 + (16 * a3)) + a4 < (ph_L h r19 : Int) := by first | assumption | omega) (q33 : pR ((168 + (16 * a3)) + a4) := by first | assumption | (unfold pR; omega)) (kk : PW G X 5 Q k n 77 [some (.inr a0), some (.inl a1), some (.inl a2), some (.inl a3), some (.inl (a4 + 1))] (S) (ph_setI (ph_setI h r2 (Int.toNat ((40 + (16 * a3)) + a4)) x11) r19 (Int.toNat ((168 + (16 * a3)) + a4)) x28)) : PW G X 5 Q k n 84 [some (.inr a0), some (.inl a1), some (.inl a2), some (.inl a3), some (.inl a4)] (S) h := by
  refine pw_aload_n C dX7_drop_84 rfl ?_
  refine pw_getR C (t := 7) (f := 0) rfl inF7 rfl (by decide) (by decide) rfl kw678 dX7_drop_85 t1 ?_
  rw [e3]
  refine pw_bipush C dX7_drop_88 rfl ?_
  refine pw_bipush C dX7_drop_90 rfl ?_
  refine pw_iload_n C dX7_drop_92 rfl ?_
  refine pw_imul C dX7_drop_93 ?_
  refine pw_iadd C dX7_drop_94 ?_
  refine pw_iload C dX7_drop_95 rfl ?_
  refine pw_iadd C dX7_drop_97 ?_
  refine pw_aload_n C dX7_drop_98 rfl ?_
  refine pw_getR C (t := 7) (f := 0) rfl inF7 rfl (by decide) (by decide) rfl kw678 dX7_drop_99 t4 ?_
  rw [e6]
  refine pw_bipush C dX7_drop_102 rfl ?_
  refine pw_bipush C dX7_drop_104 rfl ?_
  refine pw_iload_n C dX7_drop_106 rfl ?_
  refine pw_imul C dX7_drop_107 ?_
  refine pw_iadd C dX7_drop_108 ?_
  refine pw_bipush C dX7_drop_109 rfl ?_
  refine pw_iadd C dX7_drop_111 ?_
  refine pw_iload C dX7_drop_112 rfl ?_
  refine pw_iadd C dX7_drop_114 ?_
  refine pw_iald C dX7_drop_115 t7 q8 q9 q10 ?_
  rw [e12]
  refine pw_iast C dX7_drop_116 t13 q14 q15 q16 ?_
  refine pw_aload_n C dX7_drop_117 rfl ?_
  refine pw_getR C (t := 7) (f := 0) rfl inF7 rfl (by decide) (by decide) rfl kw678 dX7_drop_118 t18 ?_
  rw [show ph_R (ph_setI h r2 (Int.toNat ((40 + (16 * a3)) + a4)) x11) a0 0 = r19 from e20]
  refine pw_sipush C dX7_drop_121 rfl ?_
  refine pw_bipush C dX7_drop_124 rfl ?_
  refine pw_iload_n C dX7_drop_126 rfl ?_
  refine pw_imul C dX7_drop_127 ?_
  refine pw_iadd C dX7_drop_128 ?_
  refine pw_iload C dX7_drop_129 rfl ?_
  refine pw_iadd C dX7_drop_131 ?_
  refine pw_aload_n C dX7_drop_132 rfl ?_
  refine pw_getR C (t := 7) (f := 0) rfl inF7 rfl (by decide) (by decide) rfl kw678 dX7_drop_133 t21 ?_
  rw [show ph_R (ph_setI h r2 (Int.toNat ((40 + (16 * a3)) + a4)) x11) a0 0 = r22 from e23]
  refine pw_sipush C dX7_drop_136 rfl ?_
  refine pw_bipush C dX7_drop_139 rfl ?_
  refine pw_iload_n C dX7_drop_141 rfl ?_
  refine pw_imul C dX7_drop_142 ?_
  refine pw_iadd C dX7_drop_143 ?_
  refine pw_bipush C dX7_drop_144 rfl ?_
  refine pw_iadd C dX7_drop_146 ?_
  refine pw_iload C dX7_drop_147 rfl ?_
  refine pw_iadd C dX7_drop_149 ?_
  refine pw_iald C dX7_drop_150 t24 q25 q26 q27 ?_
  rw [show ph_I (ph_setI h r2 (Int.toNat ((40 + (16 * a3)) + a4)) x11) r22 (Int.toNat (((168 + (16 * a3)) + 16) + a4)) = x28 from e29]
  refine pw_iast C dX7_drop_151 t30 q31 q32 q33 ?_
  refine pw_iinc C dX7_drop_152 rfl (by decide) ?_
  refine pw_goto C 77 dX7_drop_155 (by decide) ?_
  exact kk
set_option maxRecDepth 20000 in
theorem B_X7_drop_158 {G : Gx} {X : Cx} {h : PH} {k n : Nat} {Q : State → Prop} {S : List PV} {a0 : Nat} {a1 : Int} {a2 : Int} {a3 : Int} {a4 : Int} (C : CX_X7_drop G X) (kk : PW G X 5 Q k n 26 [some (.inr a0), some (.inl a1), some (.inl a2), some (.inl (a3 + 1)), none] (S) h) : PW G X 5 Q k n 158 [some (.inr a0), some (.inl a1), some (.inl a2), some (.inl a3), some (.inl a4)] (S) h := by
  refine pw_iinc C dX7_drop_158 rfl (by decide) ?_
  refine pw_goto C 26 dX7_drop_161 (by decide) ?_
  exact pw_weak [true, true, true, true, false] kk
set_option maxRecDepth 20000 in
theorem B_X7_drop_164 {G : Gx} {X : Cx} {h : PH} {k n : Nat} {a0 : Nat} {a1 : Int} {a2 : Int} {a3 : Int} {r2 : Nat} {x8 : Int} {PQ : Option PV → PH → Prop} (C : CX_X7_drop G X) (t1 : ph_T h a0 = 7 := by first | assumption | rfl) (e3 : ph_R h a0 0 = r2 := by first | assumption | rfl) (t4 : ph_T h r2 = 8 := by first | assumption | rfl) (q5 : (0 : Int) ≤ 484 := by first | assumption | omega) (q6 : 484 < (ph_L h r2 : Int) := by first | assumption | omega) (q7 : pR 484 := by first | assumption | (unfold pR; omega)) (e9 : ph_I h r2 484 = x8 := by first | assumption | rfl) (hq : PQ (some (.inl x8)) h) : PW G X 5 (pw_E G X PQ k n) k n 164 [some (.inr a0), some (.inl a1), some (.inl a2), some (.inl a3), none] [] h := by
  refine pw_aload_n C dX7_drop_164 rfl ?_
  refine pw_getR C (t := 7) (f := 0) rfl inF7 rfl (by decide) (by decide) rfl kw678 dX7_drop_165 t1 ?_
  rw [e3]
  refine pw_sipush C dX7_drop_168 rfl ?_
  refine pw_iald C dX7_drop_171 t4 q5 q6 q7 ?_
  rw [show ph_I h r2 (Int.toNat 484) = x8 from e9]
  exact pw_ireturn C dX7_drop_172 hq
theorem dX7_stand_0 : decode cX7_stand 0 = .ok (.iload_n 1, 1) := by decide +kernel
theorem dX7_stand_1 : decode cX7_stand 1 = .ok (.invokestatic 45, 3) := by decide +kernel
theorem dX7_stand_4 : decode cX7_stand 4 = .ok (.ifCond .ne 5, 3) := by decide +kernel
theorem dX7_stand_7 : decode cX7_stand 7 = .ok (.iconst (-1), 1) := by decide +kernel
theorem dX7_stand_8 : decode cX7_stand 8 = .ok (.ireturn, 1) := by decide +kernel
theorem dX7_stand_9 : decode cX7_stand 9 = .ok (.iload_n 2, 1) := by decide +kernel
theorem dX7_stand_10 : decode cX7_stand 10 = .ok (.aload_n 0, 1) := by decide +kernel
theorem dX7_stand_11 : decode cX7_stand 11 = .ok (.getfield 7, 3) := by decide +kernel
theorem dX7_stand_14 : decode cX7_stand 14 = .ok (.sipush 308, 3) := by decide +kernel
theorem dX7_stand_17 : decode cX7_stand 17 = .ok (.iload_n 1, 1) := by decide +kernel
theorem dX7_stand_18 : decode cX7_stand 18 = .ok (.iadd, 1) := by decide +kernel
theorem dX7_stand_19 : decode cX7_stand 19 = .ok (.iaload, 1) := by decide +kernel
theorem dX7_stand_20 : decode cX7_stand 20 = .ok (.ineg, 1) := by decide +kernel
theorem dX7_stand_21 : decode cX7_stand 21 = .ok (.aload_n 0, 1) := by decide +kernel
theorem dX7_stand_22 : decode cX7_stand 22 = .ok (.getfield 7, 3) := by decide +kernel
theorem dX7_stand_25 : decode cX7_stand 25 = .ok (.sipush 308, 3) := by decide +kernel
theorem dX7_stand_28 : decode cX7_stand 28 = .ok (.iload_n 1, 1) := by decide +kernel
theorem dX7_stand_29 : decode cX7_stand 29 = .ok (.iadd, 1) := by decide +kernel
theorem dX7_stand_30 : decode cX7_stand 30 = .ok (.iaload, 1) := by decide +kernel
theorem dX7_stand_31 : decode cX7_stand 31 = .ok (.invokestatic 33, 3) := by decide +kernel
theorem dX7_stand_34 : decode cX7_stand 34 = .ok (.ifCond .eq 21, 3) := by decide +kernel
theorem dX7_stand_37 : decode cX7_stand 37 = .ok (.iload_n 3, 1) := by decide +kernel
theorem dX7_stand_38 : decode cX7_stand 38 = .ok (.iconst 0, 1) := by decide +kernel
theorem dX7_stand_39 : decode cX7_stand 39 = .ok (.bipush 6, 2) := by decide +kernel
theorem dX7_stand_41 : decode cX7_stand 41 = .ok (.invokestatic 33, 3) := by decide +kernel
theorem dX7_stand_44 : decode cX7_stand 44 = .ok (.ifCond .eq 11, 3) := by decide +kernel
theorem dX7_stand_47 : decode cX7_stand 47 = .ok (.iload 4, 2) := by decide +kernel
theorem dX7_stand_49 : decode cX7_stand 49 = .ok (.invokestatic 49, 3) := by decide +kernel
theorem dX7_stand_52 : decode cX7_stand 52 = .ok (.ifCond .ne 6, 3) := by decide +kernel
theorem dX7_stand_55 : decode cX7_stand 55 = .ok (.bipush (-2), 2) := by decide +kernel
theorem dX7_stand_57 : decode cX7_stand 57 = .ok (.ireturn, 1) := by decide +kernel
theorem dX7_stand_58 : decode cX7_stand 58 = .ok (.aload_n 0, 1) := by decide +kernel
theorem dX7_stand_59 : decode cX7_stand 59 = .ok (.getfield 7, 3) := by decide +kernel
theorem dX7_stand_62 : decode cX7_stand 62 = .ok (.sipush 296, 3) := by decide +kernel
theorem dX7_stand_65 : decode cX7_stand 65 = .ok (.iload_n 1, 1) := by decide +kernel
theorem dX7_stand_66 : decode cX7_stand 66 = .ok (.iadd, 1) := by decide +kernel
theorem dX7_stand_67 : decode cX7_stand 67 = .ok (.iload_n 2, 1) := by decide +kernel
theorem dX7_stand_68 : decode cX7_stand 68 = .ok (.iastore, 1) := by decide +kernel
theorem dX7_stand_69 : decode cX7_stand 69 = .ok (.aload_n 0, 1) := by decide +kernel
theorem dX7_stand_70 : decode cX7_stand 70 = .ok (.getfield 7, 3) := by decide +kernel
theorem dX7_stand_73 : decode cX7_stand 73 = .ok (.sipush 300, 3) := by decide +kernel
theorem dX7_stand_76 : decode cX7_stand 76 = .ok (.iload_n 1, 1) := by decide +kernel
theorem dX7_stand_77 : decode cX7_stand 77 = .ok (.iadd, 1) := by decide +kernel
theorem dX7_stand_78 : decode cX7_stand 78 = .ok (.iload_n 3, 1) := by decide +kernel
theorem dX7_stand_79 : decode cX7_stand 79 = .ok (.iastore, 1) := by decide +kernel
theorem dX7_stand_80 : decode cX7_stand 80 = .ok (.aload_n 0, 1) := by decide +kernel
theorem dX7_stand_81 : decode cX7_stand 81 = .ok (.getfield 7, 3) := by decide +kernel
theorem dX7_stand_84 : decode cX7_stand 84 = .ok (.sipush 304, 3) := by decide +kernel
theorem dX7_stand_87 : decode cX7_stand 87 = .ok (.iload_n 1, 1) := by decide +kernel
theorem dX7_stand_88 : decode cX7_stand 88 = .ok (.iadd, 1) := by decide +kernel
theorem dX7_stand_89 : decode cX7_stand 89 = .ok (.iload 4, 2) := by decide +kernel
theorem dX7_stand_91 : decode cX7_stand 91 = .ok (.iastore, 1) := by decide +kernel
theorem dX7_stand_92 : decode cX7_stand 92 = .ok (.iconst 1, 1) := by decide +kernel
theorem dX7_stand_93 : decode cX7_stand 93 = .ok (.ireturn, 1) := by decide +kernel
set_option maxRecDepth 20000 in
theorem B_X7_stand_0 {G : Gx} {X : Cx} {h : PH} {k n : Nat} {Q : State → Prop} {S : List PV} {a0 : Nat} {a1 : Int} {a2 : Int} {a3 : Int} {a4 : Int} {PQ : Option PV → PH → Prop} (C : CX_X7_stand G X) (hk0 : k ≤ 0 := by decide) (hn0 : n ≤ 0 := by decide) (hM : CT_X7_isDish G X.2.1 [.inl a1] h PQ) (hS : S.length ≤ 8 := by decide) (kk : ∀ r h', PQ r h' → PW G X 5 Q k n 4 [some (.inr a0), some (.inl a1), some (.inl a2), some (.inl a3), some (.inl a4)] (r.toList ++ S) h') : PW G X 5 Q k n 0 [some (.inr a0), some (.inl a1), some (.inl a2), some (.inl a3), some (.inl a4)] (S) h := by
  refine pw_iload_n C dX7_stand_0 rfl ?_
  exact pw_callS C (na := 1) (As := [.inl a1]) (S := S) hM kw741 kw742 kw45 kw743 (by decide +kernel) rfl dX7_stand_1 (by decide) (by decide) hk0 hn0 (by first | exact hS | (simp only [List.length_cons]; omega)) kk
set_option maxRecDepth 20000 in
theorem B_X7_stand_4 {G : Gx} {X : Cx} {h : PH} {k n : Nat} {Q : State → Prop} {S : List PV} {a0 : Nat} {a1 : Int} {a2 : Int} {a3 : Int} {a4 : Int} {s0 : Int} (C : CX_X7_stand G X) (q1 : pR s0 := by first | assumption | (unfold pR; omega)) (kt : ¬ s0 = 0 → PW G X 5 Q k n 9 [some (.inr a0), some (.inl a1), some (.inl a2), some (.inl a3), some (.inl a4)] (S) h) (kf : s0 = 0 → PW G X 5 Q k n 7 [some (.inr a0), some (.inl a1), some (.inl a2), some (.inl a3), some (.inl a4)] (S) h) : PW G X 5 Q k n 4 [some (.inr a0), some (.inl a1), some (.inl a2), some (.inl a3), some (.inl a4)] (.inl s0 :: S) h := by
  exact pw_if_ne C 9 dX7_stand_4 (by decide) q1 kt kf
set_option maxRecDepth 20000 in
theorem B_X7_stand_7 {G : Gx} {X : Cx} {h : PH} {k n : Nat} {a0 : Nat} {a1 : Int} {a2 : Int} {a3 : Int} {a4 : Int} {PQ : Option PV → PH → Prop} (C : CX_X7_stand G X) (hq : PQ (some (.inl (-1))) h) : PW G X 5 (pw_E G X PQ k n) k n 7 [some (.inr a0), some (.inl a1), some (.inl a2), some (.inl a3), some (.inl a4)] [] h := by
  refine pw_iconst C dX7_stand_7 ?_
  exact pw_ireturn C dX7_stand_8 hq
set_option maxRecDepth 20000 in
theorem B_X7_stand_9 {G : Gx} {X : Cx} {h : PH} {k n : Nat} {Q : State → Prop} {S : List PV} {a0 : Nat} {a1 : Int} {a2 : Int} {a3 : Int} {a4 : Int} {r2 : Nat} {x8 : Int} {r11 : Nat} {x17 : Int} {PQ : Option PV → PH → Prop} (C : CX_X7_stand G X) (hk0 : k ≤ 0 := by decide) (hn0 : n ≤ 0 := by decide) (t1 : ph_T h a0 = 7 := by first | assumption | rfl) (e3 : ph_R h a0 0 = r2 := by first | assumption | rfl) (t4 : ph_T h r2 = 8 := by first | assumption | rfl) (q5 : (0 : Int) ≤ 308 + a1 := by first | assumption | omega) (q6 : 308 + a1 < (ph_L h r2 : Int) := by first | assumption | omega) (q7 : pR (308 + a1) := by first | assumption | (unfold pR; omega)) (e9 : ph_I h r2 (Int.toNat (308 + a1)) = x8 := by first | assumption | rfl) (t10 : ph_T h a0 = 7 := by first | assumption | rfl) (e12 : ph_R h a0 0 = r11 := by first | assumption | rfl) (t13 : ph_T h r11 = 8 := by first | assumption | rfl) (q14 : (0 : Int) ≤ 308 + a1 := by first | assumption | omega) (q15 : 308 + a1 < (ph_L h r11 : Int) := by first | assumption | omega) (q16 : pR (308 + a1) := by first | assumption | (unfold pR; omega)) (e18 : ph_I h r11 (Int.toNat (308 + a1)) = x17 := by first | assumption | rfl) (hM : CT_X7_in G X.2.1 [.inl a2, .inl (-x8), .inl x17] h PQ) (hS : S.length ≤ 8 := by decide) (kk : ∀ r h', PQ r h' → PW G X 5 Q k n 34 [some (.inr a0), some (.inl a1), some (.inl a2), some (.inl a3), some (.inl a4)] (r.toList ++ S) h') : PW G X 5 Q k n 9 [some (.inr a0), some (.inl a1), some (.inl a2), some (.inl a3), some (.inl a4)] (S) h := by
  refine pw_iload_n C dX7_stand_9 rfl ?_
  refine pw_aload_n C dX7_stand_10 rfl ?_
  refine pw_getR C (t := 7) (f := 0) rfl inF7 rfl (by decide) (by decide) rfl kw678 dX7_stand_11 t1 ?_
  rw [e3]
  refine pw_sipush C dX7_stand_14 rfl ?_
  refine pw_iload_n C dX7_stand_17 rfl ?_
  refine pw_iadd C dX7_stand_18 ?_
  refine pw_iald C dX7_stand_19 t4 q5 q6 q7 ?_
  rw [e9]
  refine pw_ineg C dX7_stand_20 ?_
  refine pw_aload_n C dX7_stand_21 rfl ?_
  refine pw_getR C (t := 7) (f := 0) rfl inF7 rfl (by decide) (by decide) rfl kw678 dX7_stand_22 t10 ?_
  rw [e12]
  refine pw_sipush C dX7_stand_25 rfl ?_
  refine pw_iload_n C dX7_stand_28 rfl ?_
  refine pw_iadd C dX7_stand_29 ?_
  refine pw_iald C dX7_stand_30 t13 q14 q15 q16 ?_
  rw [e18]
  exact pw_callS C (na := 3) (As := [.inl a2, .inl (-x8), .inl x17]) (S := S) hM kw719 kw720 kw45 kw721 (by decide +kernel) rfl dX7_stand_31 (by decide) (by decide) hk0 hn0 (by first | exact hS | (simp only [List.length_cons]; omega)) kk
set_option maxRecDepth 20000 in
theorem B_X7_stand_34 {G : Gx} {X : Cx} {h : PH} {k n : Nat} {Q : State → Prop} {S : List PV} {a0 : Nat} {a1 : Int} {a2 : Int} {a3 : Int} {a4 : Int} {s0 : Int} (C : CX_X7_stand G X) (q1 : pR s0 := by first | assumption | (unfold pR; omega)) (kt : s0 = 0 → PW G X 5 Q k n 55 [some (.inr a0), some (.inl a1), some (.inl a2), some (.inl a3), some (.inl a4)] (S) h) (kf : ¬ s0 = 0 → PW G X 5 Q k n 37 [some (.inr a0), some (.inl a1), some (.inl a2), some (.inl a3), some (.inl a4)] (S) h) : PW G X 5 Q k n 34 [some (.inr a0), some (.inl a1), some (.inl a2), some (.inl a3), some (.inl a4)] (.inl s0 :: S) h := by
  exact pw_if_eq C 55 dX7_stand_34 (by decide) q1 kt kf
set_option maxRecDepth 20000 in
theorem B_X7_stand_37 {G : Gx} {X : Cx} {h : PH} {k n : Nat} {Q : State → Prop} {S : List PV} {a0 : Nat} {a1 : Int} {a2 : Int} {a3 : Int} {a4 : Int} {PQ : Option PV → PH → Prop} (C : CX_X7_stand G X) (hk0 : k ≤ 0 := by decide) (hn0 : n ≤ 0 := by decide) (hM : CT_X7_in G X.2.1 [.inl a3, .inl 0, .inl 6] h PQ) (hS : S.length ≤ 8 := by decide) (kk : ∀ r h', PQ r h' → PW G X 5 Q k n 44 [some (.inr a0), some (.inl a1), some (.inl a2), some (.inl a3), some (.inl a4)] (r.toList ++ S) h') : PW G X 5 Q k n 37 [some (.inr a0), some (.inl a1), some (.inl a2), some (.inl a3), some (.inl a4)] (S) h := by
  refine pw_iload_n C dX7_stand_37 rfl ?_
  refine pw_iconst C dX7_stand_38 ?_
  refine pw_bipush C dX7_stand_39 rfl ?_
  exact pw_callS C (na := 3) (As := [.inl a3, .inl 0, .inl 6]) (S := S) hM kw719 kw720 kw45 kw721 (by decide +kernel) rfl dX7_stand_41 (by decide) (by decide) hk0 hn0 (by first | exact hS | (simp only [List.length_cons]; omega)) kk
set_option maxRecDepth 20000 in
theorem B_X7_stand_44 {G : Gx} {X : Cx} {h : PH} {k n : Nat} {Q : State → Prop} {S : List PV} {a0 : Nat} {a1 : Int} {a2 : Int} {a3 : Int} {a4 : Int} {s0 : Int} (C : CX_X7_stand G X) (q1 : pR s0 := by first | assumption | (unfold pR; omega)) (kt : s0 = 0 → PW G X 5 Q k n 55 [some (.inr a0), some (.inl a1), some (.inl a2), some (.inl a3), some (.inl a4)] (S) h) (kf : ¬ s0 = 0 → PW G X 5 Q k n 47 [some (.inr a0), some (.inl a1), some (.inl a2), some (.inl a3), some (.inl a4)] (S) h) : PW G X 5 Q k n 44 [some (.inr a0), some (.inl a1), some (.inl a2), some (.inl a3), some (.inl a4)] (.inl s0 :: S) h := by
  exact pw_if_eq C 55 dX7_stand_44 (by decide) q1 kt kf
set_option maxRecDepth 20000 in
theorem B_X7_stand_47 {G : Gx} {X : Cx} {h : PH} {k n : Nat} {Q : State → Prop} {S : List PV} {a0 : Nat} {a1 : Int} {a2 : Int} {a3 : Int} {a4 : Int} {PQ : Option PV → PH → Prop} (C : CX_X7_stand G X) (hk0 : k ≤ 0 := by decide) (hn0 : n ≤ 0 := by decide) (hM : CT_X7_isTick G X.2.1 [.inl a4] h PQ) (hS : S.length ≤ 8 := by decide) (kk : ∀ r h', PQ r h' → PW G X 5 Q k n 52 [some (.inr a0), some (.inl a1), some (.inl a2), some (.inl a3), some (.inl a4)] (r.toList ++ S) h') : PW G X 5 Q k n 47 [some (.inr a0), some (.inl a1), some (.inl a2), some (.inl a3), some (.inl a4)] (S) h := by
  refine pw_iload C dX7_stand_47 rfl ?_
  exact pw_callS C (na := 1) (As := [.inl a4]) (S := S) hM kw744 kw745 kw45 kw746 (by decide +kernel) rfl dX7_stand_49 (by decide) (by decide) hk0 hn0 (by first | exact hS | (simp only [List.length_cons]; omega)) kk
set_option maxRecDepth 20000 in
theorem B_X7_stand_52 {G : Gx} {X : Cx} {h : PH} {k n : Nat} {Q : State → Prop} {S : List PV} {a0 : Nat} {a1 : Int} {a2 : Int} {a3 : Int} {a4 : Int} {s0 : Int} (C : CX_X7_stand G X) (q1 : pR s0 := by first | assumption | (unfold pR; omega)) (kt : ¬ s0 = 0 → PW G X 5 Q k n 58 [some (.inr a0), some (.inl a1), some (.inl a2), some (.inl a3), some (.inl a4)] (S) h) (kf : s0 = 0 → PW G X 5 Q k n 55 [some (.inr a0), some (.inl a1), some (.inl a2), some (.inl a3), some (.inl a4)] (S) h) : PW G X 5 Q k n 52 [some (.inr a0), some (.inl a1), some (.inl a2), some (.inl a3), some (.inl a4)] (.inl s0 :: S) h := by
  exact pw_if_ne C 58 dX7_stand_52 (by decide) q1 kt kf
set_option maxRecDepth 20000 in
theorem B_X7_stand_55 {G : Gx} {X : Cx} {h : PH} {k n : Nat} {a0 : Nat} {a1 : Int} {a2 : Int} {a3 : Int} {a4 : Int} {PQ : Option PV → PH → Prop} (C : CX_X7_stand G X) (hq : PQ (some (.inl (-2))) h) : PW G X 5 (pw_E G X PQ k n) k n 55 [some (.inr a0), some (.inl a1), some (.inl a2), some (.inl a3), some (.inl a4)] [] h := by
  refine pw_bipush C dX7_stand_55 rfl ?_
  exact pw_ireturn C dX7_stand_57 hq
set_option maxRecDepth 20000 in
theorem B_X7_stand_58 {G : Gx} {X : Cx} {h : PH} {k n : Nat} {a0 : Nat} {a1 : Int} {a2 : Int} {a3 : Int} {a4 : Int} {r2 : Nat} {r10 : Nat} {r18 : Nat} {PQ : Option PV → PH → Prop} (C : CX_X7_stand G X) (t1 : ph_T h a0 = 7 := by first | assumption | rfl) (e3 : ph_R h a0 0 = r2 := by first | assumption | rfl) (t4 : ph_T h r2 = 8 := by first | assumption | rfl) (q5 : (0 : Int) ≤ 296 + a1 := by first | assumption | omega) (q6 : 296 + a1 < (ph_L h r2 : Int) := by first | assumption | omega) (q7 : pR (296 + a1) := by first | assumption | (unfold pR; omega)) (t9 : ph_T h a0 = 7 := by first | assumption | rfl) (e11 : ph_R h a0 0 = r10 := by first | assumption | rfl) (t12 : ph_T h r10 = 8 := by first | assumption | rfl) (q13 : (0 : Int) ≤ 300 + a1 := by first | assumption | omega) (q14 : 300 + a1 < (ph_L h r10 : Int) := by first | assumption | omega) (q15 : pR (300 + a1) := by first | assumption | (unfold pR; omega)) (t17 : ph_T h a0 = 7 := by first | assumption | rfl) (e19 : ph_R h a0 0 = r18 := by first | assumption | rfl) (t20 : ph_T h r18 = 8 := by first | assumption | rfl) (q21 : (0 : Int) ≤ 304 + a1 := by first | assumption | omega) (q22 : 304 + a1 < (ph_L h r18 : Int) := by first | assumption | omega) (q23 : pR (304 + a1) := by first | assumption | (unfold pR; omega)) (hq : PQ (some (.inl 1)) (ph_setI (ph_setI (ph_setI h r2 (Int.toNat (296 + a1)) a2) r10 (Int.toNat (300 + a1)) a3) r18 (Int.toNat (304 + a1)) a4)) : PW G X 5 (pw_E G X PQ k n) k n 58 [some (.inr a0), some (.inl a1), some (.inl a2), some (.inl a3), some (.inl a4)] [] h := by
  refine pw_aload_n C dX7_stand_58 rfl ?_
  refine pw_getR C (t := 7) (f := 0) rfl inF7 rfl (by decide) (by decide) rfl kw678 dX7_stand_59 t1 ?_
  rw [e3]
  refine pw_sipush C dX7_stand_62 rfl ?_
  refine pw_iload_n C dX7_stand_65 rfl ?_
  refine pw_iadd C dX7_stand_66 ?_
  refine pw_iload_n C dX7_stand_67 rfl ?_
  refine pw_iast C dX7_stand_68 t4 q5 q6 q7 ?_
  refine pw_aload_n C dX7_stand_69 rfl ?_
  refine pw_getR C (t := 7) (f := 0) rfl inF7 rfl (by decide) (by decide) rfl kw678 dX7_stand_70 t9 ?_
  rw [show ph_R (ph_setI h r2 (Int.toNat (296 + a1)) a2) a0 0 = r10 from e11]
  refine pw_sipush C dX7_stand_73 rfl ?_
  refine pw_iload_n C dX7_stand_76 rfl ?_
  refine pw_iadd C dX7_stand_77 ?_
  refine pw_iload_n C dX7_stand_78 rfl ?_
  refine pw_iast C dX7_stand_79 t12 q13 q14 q15 ?_
  refine pw_aload_n C dX7_stand_80 rfl ?_
  refine pw_getR C (t := 7) (f := 0) rfl inF7 rfl (by decide) (by decide) rfl kw678 dX7_stand_81 t17 ?_
  rw [show ph_R (ph_setI (ph_setI h r2 (Int.toNat (296 + a1)) a2) r10 (Int.toNat (300 + a1)) a3) a0 0 = r18 from e19]
  refine pw_sipush C dX7_stand_84 rfl ?_
  refine pw_iload_n C dX7_stand_87 rfl ?_
  refine pw_iadd C dX7_stand_88 ?_
  refine pw_iload C dX7_stand_89 rfl ?_
  refine pw_iast C dX7_stand_91 t20 q21 q22 q23 ?_
  refine pw_iconst C dX7_stand_92 ?_
  exact pw_ireturn C dX7_stand_93 hq
theorem dX7_set_0 : decode cX7_set 0 = .ok (.iload_n 1, 1) := by decide +kernel
theorem dX7_set_1 : decode cX7_set 1 = .ok (.invokestatic 45, 3) := by decide +kernel
theorem dX7_set_4 : decode cX7_set 4 = .ok (.ifCond .ne 5, 3) := by decide +kernel
theorem dX7_set_7 : decode cX7_set 7 = .ok (.iconst (-1), 1) := by decide +kernel
theorem dX7_set_8 : decode cX7_set 8 = .ok (.ireturn, 1) := by decide +kernel
theorem dX7_set_9 : decode cX7_set 9 = .ok (.iload_n 2, 1) := by decide +kernel
theorem dX7_set_10 : decode cX7_set 10 = .ok (.iconst 0, 1) := by decide +kernel
theorem dX7_set_11 : decode cX7_set 11 = .ok (.iconst 1, 1) := by decide +kernel
theorem dX7_set_12 : decode cX7_set 12 = .ok (.invokestatic 33, 3) := by decide +kernel
theorem dX7_set_15 : decode cX7_set 15 = .ok (.ifCond .eq 30, 3) := by decide +kernel
theorem dX7_set_18 : decode cX7_set 18 = .ok (.iload_n 3, 1) := by decide +kernel
theorem dX7_set_19 : decode cX7_set 19 = .ok (.iload_n 2, 1) := by decide +kernel
theorem dX7_set_20 : decode cX7_set 20 = .ok (.ifCond .ne 8, 3) := by decide +kernel
theorem dX7_set_23 : decode cX7_set 23 = .ok (.bipush 12, 2) := by decide +kernel
theorem dX7_set_25 : decode cX7_set 25 = .ok (.goto 4, 3) := by decide +kernel
theorem dX7_set_28 : decode cX7_set 28 = .ok (.iconst 1, 1) := by decide +kernel
theorem dX7_set_29 : decode cX7_set 29 = .ok (.iload_n 2, 1) := by decide +kernel
theorem dX7_set_30 : decode cX7_set 30 = .ok (.ifCond .ne 8, 3) := by decide +kernel
theorem dX7_set_33 : decode cX7_set 33 = .ok (.bipush 36, 2) := by decide +kernel
theorem dX7_set_35 : decode cX7_set 35 = .ok (.goto 4, 3) := by decide +kernel
theorem dX7_set_38 : decode cX7_set 38 = .ok (.iconst 3, 1) := by decide +kernel
theorem dX7_set_39 : decode cX7_set 39 = .ok (.invokestatic 33, 3) := by decide +kernel
theorem dX7_set_42 : decode cX7_set 42 = .ok (.ifCond .ne 6, 3) := by decide +kernel
theorem dX7_set_45 : decode cX7_set 45 = .ok (.bipush (-2), 2) := by decide +kernel
theorem dX7_set_47 : decode cX7_set 47 = .ok (.ireturn, 1) := by decide +kernel
theorem dX7_set_48 : decode cX7_set 48 = .ok (.iload_n 2, 1) := by decide +kernel
theorem dX7_set_49 : decode cX7_set 49 = .ok (.ifCond .ne 23, 3) := by decide +kernel
theorem dX7_set_52 : decode cX7_set 52 = .ok (.aload_n 0, 1) := by decide +kernel
theorem dX7_set_53 : decode cX7_set 53 = .ok (.getfield 7, 3) := by decide +kernel
theorem dX7_set_56 : decode cX7_set 56 = .ok (.sipush 296, 3) := by decide +kernel
theorem dX7_set_59 : decode cX7_set 59 = .ok (.iload_n 1, 1) := by decide +kernel
theorem dX7_set_60 : decode cX7_set 60 = .ok (.iadd, 1) := by decide +kernel
theorem dX7_set_61 : decode cX7_set 61 = .ok (.iaload, 1) := by decide +kernel
theorem dX7_set_62 : decode cX7_set 62 = .ok (.invokestatic 52, 3) := by decide +kernel
theorem dX7_set_65 : decode cX7_set 65 = .ok (.iload_n 3, 1) := by decide +kernel
theorem dX7_set_66 : decode cX7_set 66 = .ok (.if_icmp .le 6, 3) := by decide +kernel
theorem dX7_set_69 : decode cX7_set 69 = .ok (.bipush (-5), 2) := by decide +kernel
theorem dX7_set_71 : decode cX7_set 71 = .ok (.ireturn, 1) := by decide +kernel
theorem dX7_set_72 : decode cX7_set 72 = .ok (.iload_n 2, 1) := by decide +kernel
theorem dX7_set_73 : decode cX7_set 73 = .ok (.ifCond .ne 11, 3) := by decide +kernel
theorem dX7_set_76 : decode cX7_set 76 = .ok (.sipush 308, 3) := by decide +kernel
theorem dX7_set_79 : decode cX7_set 79 = .ok (.iload_n 1, 1) := by decide +kernel
theorem dX7_set_80 : decode cX7_set 80 = .ok (.iadd, 1) := by decide +kernel
theorem dX7_set_81 : decode cX7_set 81 = .ok (.goto 8, 3) := by decide +kernel
theorem dX7_set_84 : decode cX7_set 84 = .ok (.sipush 312, 3) := by decide +kernel
theorem dX7_set_87 : decode cX7_set 87 = .ok (.iload_n 1, 1) := by decide +kernel
theorem dX7_set_88 : decode cX7_set 88 = .ok (.iadd, 1) := by decide +kernel
theorem dX7_set_89 : decode cX7_set 89 = .ok (.istore 4, 2) := by decide +kernel
theorem dX7_set_91 : decode cX7_set 91 = .ok (.aload_n 0, 1) := by decide +kernel
theorem dX7_set_92 : decode cX7_set 92 = .ok (.getfield 7, 3) := by decide +kernel
theorem dX7_set_95 : decode cX7_set 95 = .ok (.iload 4, 2) := by decide +kernel
theorem dX7_set_97 : decode cX7_set 97 = .ok (.iaload, 1) := by decide +kernel
theorem dX7_set_98 : decode cX7_set 98 = .ok (.istore 5, 2) := by decide +kernel
theorem dX7_set_100 : decode cX7_set 100 = .ok (.aload_n 0, 1) := by decide +kernel
theorem dX7_set_101 : decode cX7_set 101 = .ok (.getfield 7, 3) := by decide +kernel
theorem dX7_set_104 : decode cX7_set 104 = .ok (.iload 4, 2) := by decide +kernel
theorem dX7_set_106 : decode cX7_set 106 = .ok (.iload_n 3, 1) := by decide +kernel
theorem dX7_set_107 : decode cX7_set 107 = .ok (.iastore, 1) := by decide +kernel
theorem dX7_set_108 : decode cX7_set 108 = .ok (.iload 5, 2) := by decide +kernel
theorem dX7_set_110 : decode cX7_set 110 = .ok (.ireturn, 1) := by decide +kernel
set_option maxRecDepth 20000 in
theorem B_X7_set_0 {G : Gx} {X : Cx} {h : PH} {k n : Nat} {Q : State → Prop} {S : List PV} {a0 : Nat} {a1 : Int} {a2 : Int} {a3 : Int} {PQ : Option PV → PH → Prop} (C : CX_X7_set G X) (hk0 : k ≤ 0 := by decide) (hn0 : n ≤ 0 := by decide) (hM : CT_X7_isDish G X.2.1 [.inl a1] h PQ) (hS : S.length ≤ 8 := by decide) (kk : ∀ r h', PQ r h' → PW G X 6 Q k n 4 [some (.inr a0), some (.inl a1), some (.inl a2), some (.inl a3), none, none] (r.toList ++ S) h') : PW G X 6 Q k n 0 [some (.inr a0), some (.inl a1), some (.inl a2), some (.inl a3), none, none] (S) h := by
  refine pw_iload_n C dX7_set_0 rfl ?_
  exact pw_callS C (na := 1) (As := [.inl a1]) (S := S) hM kw741 kw742 kw45 kw743 (by decide +kernel) rfl dX7_set_1 (by decide) (by decide) hk0 hn0 (by first | exact hS | (simp only [List.length_cons]; omega)) kk
set_option maxRecDepth 20000 in
theorem B_X7_set_4 {G : Gx} {X : Cx} {h : PH} {k n : Nat} {Q : State → Prop} {S : List PV} {a0 : Nat} {a1 : Int} {a2 : Int} {a3 : Int} {s0 : Int} (C : CX_X7_set G X) (q1 : pR s0 := by first | assumption | (unfold pR; omega)) (kt : ¬ s0 = 0 → PW G X 6 Q k n 9 [some (.inr a0), some (.inl a1), some (.inl a2), some (.inl a3), none, none] (S) h) (kf : s0 = 0 → PW G X 6 Q k n 7 [some (.inr a0), some (.inl a1), some (.inl a2), some (.inl a3), none, none] (S) h) : PW G X 6 Q k n 4 [some (.inr a0), some (.inl a1), some (.inl a2), some (.inl a3), none, none] (.inl s0 :: S) h := by
  exact pw_if_ne C 9 dX7_set_4 (by decide) q1 kt kf
set_option maxRecDepth 20000 in
theorem B_X7_set_7 {G : Gx} {X : Cx} {h : PH} {k n : Nat} {a0 : Nat} {a1 : Int} {a2 : Int} {a3 : Int} {PQ : Option PV → PH → Prop} (C : CX_X7_set G X) (hq : PQ (some (.inl (-1))) h) : PW G X 6 (pw_E G X PQ k n) k n 7 [some (.inr a0), some (.inl a1), some (.inl a2), some (.inl a3), none, none] [] h := by
  refine pw_iconst C dX7_set_7 ?_
  exact pw_ireturn C dX7_set_8 hq
set_option maxRecDepth 20000 in
theorem B_X7_set_9 {G : Gx} {X : Cx} {h : PH} {k n : Nat} {Q : State → Prop} {S : List PV} {a0 : Nat} {a1 : Int} {a2 : Int} {a3 : Int} {PQ : Option PV → PH → Prop} (C : CX_X7_set G X) (hk0 : k ≤ 0 := by decide) (hn0 : n ≤ 0 := by decide) (hM : CT_X7_in G X.2.1 [.inl a2, .inl 0, .inl 1] h PQ) (hS : S.length ≤ 8 := by decide) (kk : ∀ r h', PQ r h' → PW G X 6 Q k n 15 [some (.inr a0), some (.inl a1), some (.inl a2), some (.inl a3), none, none] (r.toList ++ S) h') : PW G X 6 Q k n 9 [some (.inr a0), some (.inl a1), some (.inl a2), some (.inl a3), none, none] (S) h := by
  refine pw_iload_n C dX7_set_9 rfl ?_
  refine pw_iconst C dX7_set_10 ?_
  refine pw_iconst C dX7_set_11 ?_
  exact pw_callS C (na := 3) (As := [.inl a2, .inl 0, .inl 1]) (S := S) hM kw719 kw720 kw45 kw721 (by decide +kernel) rfl dX7_set_12 (by decide) (by decide) hk0 hn0 (by first | exact hS | (simp only [List.length_cons]; omega)) kk
set_option maxRecDepth 20000 in
theorem B_X7_set_15 {G : Gx} {X : Cx} {h : PH} {k n : Nat} {Q : State → Prop} {S : List PV} {a0 : Nat} {a1 : Int} {a2 : Int} {a3 : Int} {s0 : Int} (C : CX_X7_set G X) (q1 : pR s0 := by first | assumption | (unfold pR; omega)) (kt : s0 = 0 → PW G X 6 Q k n 45 [some (.inr a0), some (.inl a1), some (.inl a2), some (.inl a3), none, none] (S) h) (kf : ¬ s0 = 0 → PW G X 6 Q k n 18 [some (.inr a0), some (.inl a1), some (.inl a2), some (.inl a3), none, none] (S) h) : PW G X 6 Q k n 15 [some (.inr a0), some (.inl a1), some (.inl a2), some (.inl a3), none, none] (.inl s0 :: S) h := by
  exact pw_if_eq C 45 dX7_set_15 (by decide) q1 kt kf
set_option maxRecDepth 20000 in
theorem B_X7_set_18 {G : Gx} {X : Cx} {h : PH} {k n : Nat} {Q : State → Prop} {S : List PV} {a0 : Nat} {a1 : Int} {a2 : Int} {a3 : Int} (C : CX_X7_set G X) (q1 : pR a2 := by first | assumption | (unfold pR; omega)) (kt : ¬ a2 = 0 → PW G X 6 Q k n 28 [some (.inr a0), some (.inl a1), some (.inl a2), some (.inl a3), none, none] (.inl a3 :: S) h) (kf : a2 = 0 → PW G X 6 Q k n 23 [some (.inr a0), some (.inl a1), some (.inl a2), some (.inl a3), none, none] (.inl a3 :: S) h) : PW G X 6 Q k n 18 [some (.inr a0), some (.inl a1), some (.inl a2), some (.inl a3), none, none] (S) h := by
  refine pw_iload_n C dX7_set_18 rfl ?_
  refine pw_iload_n C dX7_set_19 rfl ?_
  exact pw_if_ne C 28 dX7_set_20 (by decide) q1 kt kf
set_option maxRecDepth 20000 in
theorem B_X7_set_23 {G : Gx} {X : Cx} {h : PH} {k n : Nat} {Q : State → Prop} {S : List PV} {a0 : Nat} {a1 : Int} {a2 : Int} {a3 : Int} {s0 : Int} (C : CX_X7_set G X) (kk : PW G X 6 Q k n 29 [some (.inr a0), some (.inl a1), some (.inl a2), some (.inl a3), none, none] (.inl 12 :: .inl s0 :: S) h) : PW G X 6 Q k n 23 [some (.inr a0), some (.inl a1), some (.inl a2), some (.inl a3), none, none] (.inl s0 :: S) h := by
  refine pw_bipush C dX7_set_23 rfl ?_
  refine pw_goto C 29 dX7_set_25 (by decide) ?_
  exact kk
set_option maxRecDepth 20000 in
theorem B_X7_set_28 {G : Gx} {X : Cx} {h : PH} {k n : Nat} {Q : State → Prop} {S : List PV} {a0 : Nat} {a1 : Int} {a2 : Int} {a3 : Int} {s0 : Int} (C : CX_X7_set G X) (kk : PW G X 6 Q k n 29 [some (.inr a0), some (.inl a1), some (.inl a2), some (.inl a3), none, none] (.inl 1 :: .inl s0 :: S) h) : PW G X 6 Q k n 28 [some (.inr a0), some (.inl a1), some (.inl a2), some (.inl a3), none, none] (.inl s0 :: S) h := by
  refine pw_iconst C dX7_set_28 ?_
  exact kk
set_option maxRecDepth 20000 in
theorem B_X7_set_29 {G : Gx} {X : Cx} {h : PH} {k n : Nat} {Q : State → Prop} {S : List PV} {a0 : Nat} {a1 : Int} {a2 : Int} {a3 : Int} {s0 : Int} {s1 : Int} (C : CX_X7_set G X) (q1 : pR a2 := by first | assumption | (unfold pR; omega)) (kt : ¬ a2 = 0 → PW G X 6 Q k n 38 [some (.inr a0), some (.inl a1), some (.inl a2), some (.inl a3), none, none] (.inl s0 :: .inl s1 :: S) h) (kf : a2 = 0 → PW G X 6 Q k n 33 [some (.inr a0), some (.inl a1), some (.inl a2), some (.inl a3), none, none] (.inl s0 :: .inl s1 :: S) h) : PW G X 6 Q k n 29 [some (.inr a0), some (.inl a1), some (.inl a2), some (.inl a3), none, none] (.inl s0 :: .inl s1 :: S) h := by
  refine pw_iload_n C dX7_set_29 rfl ?_
  exact pw_if_ne C 38 dX7_set_30 (by decide) q1 kt kf
set_option maxRecDepth 20000 in
theorem B_X7_set_33 {G : Gx} {X : Cx} {h : PH} {k n : Nat} {Q : State → Prop} {S : List PV} {a0 : Nat} {a1 : Int} {a2 : Int} {a3 : Int} {s0 : Int} {s1 : Int} (C : CX_X7_set G X) (kk : PW G X 6 Q k n 39 [some (.inr a0), some (.inl a1), some (.inl a2), some (.inl a3), none, none] (.inl 36 :: .inl s0 :: .inl s1 :: S) h) : PW G X 6 Q k n 33 [some (.inr a0), some (.inl a1), some (.inl a2), some (.inl a3), none, none] (.inl s0 :: .inl s1 :: S) h := by
  refine pw_bipush C dX7_set_33 rfl ?_
  refine pw_goto C 39 dX7_set_35 (by decide) ?_
  exact kk
set_option maxRecDepth 20000 in
theorem B_X7_set_38 {G : Gx} {X : Cx} {h : PH} {k n : Nat} {Q : State → Prop} {S : List PV} {a0 : Nat} {a1 : Int} {a2 : Int} {a3 : Int} {s0 : Int} {s1 : Int} (C : CX_X7_set G X) (kk : PW G X 6 Q k n 39 [some (.inr a0), some (.inl a1), some (.inl a2), some (.inl a3), none, none] (.inl 3 :: .inl s0 :: .inl s1 :: S) h) : PW G X 6 Q k n 38 [some (.inr a0), some (.inl a1), some (.inl a2), some (.inl a3), none, none] (.inl s0 :: .inl s1 :: S) h := by
  refine pw_iconst C dX7_set_38 ?_
  exact kk
set_option maxRecDepth 20000 in
theorem B_X7_set_39 {G : Gx} {X : Cx} {h : PH} {k n : Nat} {Q : State → Prop} {S : List PV} {a0 : Nat} {a1 : Int} {a2 : Int} {a3 : Int} {s0 : Int} {s1 : Int} {s2 : Int} {PQ : Option PV → PH → Prop} (C : CX_X7_set G X) (hk0 : k ≤ 0 := by decide) (hn0 : n ≤ 0 := by decide) (hM : CT_X7_in G X.2.1 [.inl s2, .inl s1, .inl s0] h PQ) (hS : S.length ≤ 8 := by decide) (kk : ∀ r h', PQ r h' → PW G X 6 Q k n 42 [some (.inr a0), some (.inl a1), some (.inl a2), some (.inl a3), none, none] (r.toList ++ S) h') : PW G X 6 Q k n 39 [some (.inr a0), some (.inl a1), some (.inl a2), some (.inl a3), none, none] (.inl s0 :: .inl s1 :: .inl s2 :: S) h := by
  exact pw_callS C (na := 3) (As := [.inl s2, .inl s1, .inl s0]) (S := S) hM kw719 kw720 kw45 kw721 (by decide +kernel) rfl dX7_set_39 (by decide) (by decide) hk0 hn0 (by first | exact hS | (simp only [List.length_cons]; omega)) kk
set_option maxRecDepth 20000 in
theorem B_X7_set_42 {G : Gx} {X : Cx} {h : PH} {k n : Nat} {Q : State → Prop} {S : List PV} {a0 : Nat} {a1 : Int} {a2 : Int} {a3 : Int} {s0 : Int} (C : CX_X7_set G X) (q1 : pR s0 := by first | assumption | (unfold pR; omega)) (kt : ¬ s0 = 0 → PW G X 6 Q k n 48 [some (.inr a0), some (.inl a1), some (.inl a2), some (.inl a3), none, none] (S) h) (kf : s0 = 0 → PW G X 6 Q k n 45 [some (.inr a0), some (.inl a1), some (.inl a2), some (.inl a3), none, none] (S) h) : PW G X 6 Q k n 42 [some (.inr a0), some (.inl a1), some (.inl a2), some (.inl a3), none, none] (.inl s0 :: S) h := by
  exact pw_if_ne C 48 dX7_set_42 (by decide) q1 kt kf
set_option maxRecDepth 20000 in
theorem B_X7_set_45 {G : Gx} {X : Cx} {h : PH} {k n : Nat} {a0 : Nat} {a1 : Int} {a2 : Int} {a3 : Int} {PQ : Option PV → PH → Prop} (C : CX_X7_set G X) (hq : PQ (some (.inl (-2))) h) : PW G X 6 (pw_E G X PQ k n) k n 45 [some (.inr a0), some (.inl a1), some (.inl a2), some (.inl a3), none, none] [] h := by
  refine pw_bipush C dX7_set_45 rfl ?_
  exact pw_ireturn C dX7_set_47 hq
set_option maxRecDepth 20000 in
theorem B_X7_set_48 {G : Gx} {X : Cx} {h : PH} {k n : Nat} {Q : State → Prop} {S : List PV} {a0 : Nat} {a1 : Int} {a2 : Int} {a3 : Int} (C : CX_X7_set G X) (q1 : pR a2 := by first | assumption | (unfold pR; omega)) (kt : ¬ a2 = 0 → PW G X 6 Q k n 72 [some (.inr a0), some (.inl a1), some (.inl a2), some (.inl a3), none, none] (S) h) (kf : a2 = 0 → PW G X 6 Q k n 52 [some (.inr a0), some (.inl a1), some (.inl a2), some (.inl a3), none, none] (S) h) : PW G X 6 Q k n 48 [some (.inr a0), some (.inl a1), some (.inl a2), some (.inl a3), none, none] (S) h := by
  refine pw_iload_n C dX7_set_48 rfl ?_
  exact pw_if_ne C 72 dX7_set_49 (by decide) q1 kt kf
set_option maxRecDepth 20000 in
theorem B_X7_set_52 {G : Gx} {X : Cx} {h : PH} {k n : Nat} {Q : State → Prop} {S : List PV} {a0 : Nat} {a1 : Int} {a2 : Int} {a3 : Int} {r2 : Nat} {x8 : Int} {PQ : Option PV → PH → Prop} (C : CX_X7_set G X) (hk0 : k ≤ 0 := by decide) (hn0 : n ≤ 0 := by decide) (t1 : ph_T h a0 = 7 := by first | assumption | rfl) (e3 : ph_R h a0 0 = r2 := by first | assumption | rfl) (t4 : ph_T h r2 = 8 := by first | assumption | rfl) (q5 : (0 : Int) ≤ 296 + a1 := by first | assumption | omega) (q6 : 296 + a1 < (ph_L h r2 : Int) := by first | assumption | omega) (q7 : pR (296 + a1) := by first | assumption | (unfold pR; omega)) (e9 : ph_I h r2 (Int.toNat (296 + a1)) = x8 := by first | assumption | rfl) (hM : CT_X7_size G X.2.1 [.inl x8] h PQ) (hS : S.length ≤ 8 := by decide) (kk : ∀ r h', PQ r h' → PW G X 6 Q k n 65 [some (.inr a0), some (.inl a1), some (.inl a2), some (.inl a3), none, none] (r.toList ++ S) h') : PW G X 6 Q k n 52 [some (.inr a0), some (.inl a1), some (.inl a2), some (.inl a3), none, none] (S) h := by
  refine pw_aload_n C dX7_set_52 rfl ?_
  refine pw_getR C (t := 7) (f := 0) rfl inF7 rfl (by decide) (by decide) rfl kw678 dX7_set_53 t1 ?_
  rw [e3]
  refine pw_sipush C dX7_set_56 rfl ?_
  refine pw_iload_n C dX7_set_59 rfl ?_
  refine pw_iadd C dX7_set_60 ?_
  refine pw_iald C dX7_set_61 t4 q5 q6 q7 ?_
  rw [e9]
  exact pw_callS C (na := 1) (As := [.inl x8]) (S := S) hM kw751 kw752 kw45 kw753 (by decide +kernel) rfl dX7_set_62 (by decide) (by decide) hk0 hn0 (by first | exact hS | (simp only [List.length_cons]; omega)) kk
set_option maxRecDepth 20000 in
theorem B_X7_set_65 {G : Gx} {X : Cx} {h : PH} {k n : Nat} {Q : State → Prop} {S : List PV} {a0 : Nat} {a1 : Int} {a2 : Int} {a3 : Int} {s0 : Int} (C : CX_X7_set G X) (q1 : pR s0 := by first | assumption | (unfold pR; omega)) (q2 : pR a3 := by first | assumption | (unfold pR; omega)) (kt : s0 ≤ a3 → PW G X 6 Q k n 72 [some (.inr a0), some (.inl a1), some (.inl a2), some (.inl a3), none, none] (S) h) (kf : ¬ s0 ≤ a3 → PW G X 6 Q k n 69 [some (.inr a0), some (.inl a1), some (.inl a2), some (.inl a3), none, none] (S) h) : PW G X 6 Q k n 65 [some (.inr a0), some (.inl a1), some (.inl a2), some (.inl a3), none, none] (.inl s0 :: S) h := by
  refine pw_iload_n C dX7_set_65 rfl ?_
  exact pw_icmp_le C 72 dX7_set_66 (by decide) q1 q2 kt kf
set_option maxRecDepth 20000 in
theorem B_X7_set_69 {G : Gx} {X : Cx} {h : PH} {k n : Nat} {a0 : Nat} {a1 : Int} {a2 : Int} {a3 : Int} {PQ : Option PV → PH → Prop} (C : CX_X7_set G X) (hq : PQ (some (.inl (-5))) h) : PW G X 6 (pw_E G X PQ k n) k n 69 [some (.inr a0), some (.inl a1), some (.inl a2), some (.inl a3), none, none] [] h := by
  refine pw_bipush C dX7_set_69 rfl ?_
  exact pw_ireturn C dX7_set_71 hq
set_option maxRecDepth 20000 in
theorem B_X7_set_72 {G : Gx} {X : Cx} {h : PH} {k n : Nat} {Q : State → Prop} {S : List PV} {a0 : Nat} {a1 : Int} {a2 : Int} {a3 : Int} (C : CX_X7_set G X) (q1 : pR a2 := by first | assumption | (unfold pR; omega)) (kt : ¬ a2 = 0 → PW G X 6 Q k n 84 [some (.inr a0), some (.inl a1), some (.inl a2), some (.inl a3), none, none] (S) h) (kf : a2 = 0 → PW G X 6 Q k n 76 [some (.inr a0), some (.inl a1), some (.inl a2), some (.inl a3), none, none] (S) h) : PW G X 6 Q k n 72 [some (.inr a0), some (.inl a1), some (.inl a2), some (.inl a3), none, none] (S) h := by
  refine pw_iload_n C dX7_set_72 rfl ?_
  exact pw_if_ne C 84 dX7_set_73 (by decide) q1 kt kf
set_option maxRecDepth 20000 in
theorem B_X7_set_76 {G : Gx} {X : Cx} {h : PH} {k n : Nat} {Q : State → Prop} {S : List PV} {a0 : Nat} {a1 : Int} {a2 : Int} {a3 : Int} (C : CX_X7_set G X) (kk : PW G X 6 Q k n 89 [some (.inr a0), some (.inl a1), some (.inl a2), some (.inl a3), none, none] (.inl (308 + a1) :: S) h) : PW G X 6 Q k n 76 [some (.inr a0), some (.inl a1), some (.inl a2), some (.inl a3), none, none] (S) h := by
  refine pw_sipush C dX7_set_76 rfl ?_
  refine pw_iload_n C dX7_set_79 rfl ?_
  refine pw_iadd C dX7_set_80 ?_
  refine pw_goto C 89 dX7_set_81 (by decide) ?_
  exact kk
set_option maxRecDepth 20000 in
theorem B_X7_set_84 {G : Gx} {X : Cx} {h : PH} {k n : Nat} {Q : State → Prop} {S : List PV} {a0 : Nat} {a1 : Int} {a2 : Int} {a3 : Int} (C : CX_X7_set G X) (kk : PW G X 6 Q k n 89 [some (.inr a0), some (.inl a1), some (.inl a2), some (.inl a3), none, none] (.inl (312 + a1) :: S) h) : PW G X 6 Q k n 84 [some (.inr a0), some (.inl a1), some (.inl a2), some (.inl a3), none, none] (S) h := by
  refine pw_sipush C dX7_set_84 rfl ?_
  refine pw_iload_n C dX7_set_87 rfl ?_
  refine pw_iadd C dX7_set_88 ?_
  exact kk
set_option maxRecDepth 20000 in
theorem B_X7_set_89 {G : Gx} {X : Cx} {h : PH} {k n : Nat} {a0 : Nat} {a1 : Int} {a2 : Int} {a3 : Int} {s0 : Int} {r2 : Nat} {x8 : Int} {r11 : Nat} {PQ : Option PV → PH → Prop} (C : CX_X7_set G X) (t1 : ph_T h a0 = 7 := by first | assumption | rfl) (e3 : ph_R h a0 0 = r2 := by first | assumption | rfl) (t4 : ph_T h r2 = 8 := by first | assumption | rfl) (q5 : (0 : Int) ≤ s0 := by first | assumption | omega) (q6 : s0 < (ph_L h r2 : Int) := by first | assumption | omega) (q7 : pR s0 := by first | assumption | (unfold pR; omega)) (e9 : ph_I h r2 (Int.toNat s0) = x8 := by first | assumption | rfl) (t10 : ph_T h a0 = 7 := by first | assumption | rfl) (e12 : ph_R h a0 0 = r11 := by first | assumption | rfl) (t13 : ph_T h r11 = 8 := by first | assumption | rfl) (q14 : (0 : Int) ≤ s0 := by first | assumption | omega) (q15 : s0 < (ph_L h r11 : Int) := by first | assumption | omega) (q16 : pR s0 := by first | assumption | (unfold pR; omega)) (hq : PQ (some (.inl x8)) (ph_setI h r11 (Int.toNat s0) a3)) : PW G X 6 (pw_E G X PQ k n) k n 89 [some (.inr a0), some (.inl a1), some (.inl a2), some (.inl a3), none, none] [.inl s0] h := by
  refine pw_istore C dX7_set_89 (by decide) ?_
  refine pw_aload_n C dX7_set_91 rfl ?_
  refine pw_getR C (t := 7) (f := 0) rfl inF7 rfl (by decide) (by decide) rfl kw678 dX7_set_92 t1 ?_
  rw [e3]
  refine pw_iload C dX7_set_95 rfl ?_
  refine pw_iald C dX7_set_97 t4 q5 q6 q7 ?_
  rw [e9]
  refine pw_istore C dX7_set_98 (by decide) ?_
  refine pw_aload_n C dX7_set_100 rfl ?_
  refine pw_getR C (t := 7) (f := 0) rfl inF7 rfl (by decide) (by decide) rfl kw678 dX7_set_101 t10 ?_
  rw [e12]
  refine pw_iload C dX7_set_104 rfl ?_
  refine pw_iload_n C dX7_set_106 rfl ?_
  refine pw_iast C dX7_set_107 t13 q14 q15 q16 ?_
  refine pw_iload C dX7_set_108 rfl ?_
  exact pw_ireturn C dX7_set_110 hq
theorem dX7_sun_0 : decode cX7_sun 0 = .ok (.iload_n 1, 1) := by decide +kernel
theorem dX7_sun_1 : decode cX7_sun 1 = .ok (.iload_n 3, 1) := by decide +kernel
theorem dX7_sun_2 : decode cX7_sun 2 = .ok (.invokestatic 41, 3) := by decide +kernel
theorem dX7_sun_5 : decode cX7_sun 5 = .ok (.ifCond .eq 23, 3) := by decide +kernel
theorem dX7_sun_8 : decode cX7_sun 8 = .ok (.iload_n 2, 1) := by decide +kernel
theorem dX7_sun_9 : decode cX7_sun 9 = .ok (.iconst 1, 1) := by decide +kernel
theorem dX7_sun_10 : decode cX7_sun 10 = .ok (.bipush 40, 2) := by decide +kernel
theorem dX7_sun_12 : decode cX7_sun 12 = .ok (.invokestatic 33, 3) := by decide +kernel
theorem dX7_sun_15 : decode cX7_sun 15 = .ok (.ifCond .eq 13, 3) := by decide +kernel
theorem dX7_sun_18 : decode cX7_sun 18 = .ok (.iload 4, 2) := by decide +kernel
theorem dX7_sun_20 : decode cX7_sun 20 = .ok (.iconst (-1), 1) := by decide +kernel
theorem dX7_sun_21 : decode cX7_sun 21 = .ok (.iconst 3, 1) := by decide +kernel
theorem dX7_sun_22 : decode cX7_sun 22 = .ok (.invokestatic 33, 3) := by decide +kernel
theorem dX7_sun_25 : decode cX7_sun 25 = .ok (.ifCond .ne 6, 3) := by decide +kernel
theorem dX7_sun_28 : decode cX7_sun 28 = .ok (.bipush (-2), 2) := by decide +kernel
theorem dX7_sun_30 : decode cX7_sun 30 = .ok (.ireturn, 1) := by decide +kernel
theorem dX7_sun_31 : decode cX7_sun 31 = .ok (.aload_n 0, 1) := by decide +kernel
theorem dX7_sun_32 : decode cX7_sun 32 = .ok (.getfield 7, 3) := by decide +kernel
theorem dX7_sun_35 : decode cX7_sun 35 = .ok (.sipush 485, 3) := by decide +kernel
theorem dX7_sun_38 : decode cX7_sun 38 = .ok (.iload_n 1, 1) := by decide +kernel
theorem dX7_sun_39 : decode cX7_sun 39 = .ok (.iastore, 1) := by decide +kernel
theorem dX7_sun_40 : decode cX7_sun 40 = .ok (.aload_n 0, 1) := by decide +kernel
theorem dX7_sun_41 : decode cX7_sun 41 = .ok (.getfield 7, 3) := by decide +kernel
theorem dX7_sun_44 : decode cX7_sun 44 = .ok (.sipush 486, 3) := by decide +kernel
theorem dX7_sun_47 : decode cX7_sun 47 = .ok (.iload_n 2, 1) := by decide +kernel
theorem dX7_sun_48 : decode cX7_sun 48 = .ok (.iastore, 1) := by decide +kernel
theorem dX7_sun_49 : decode cX7_sun 49 = .ok (.aload_n 0, 1) := by decide +kernel
theorem dX7_sun_50 : decode cX7_sun 50 = .ok (.getfield 7, 3) := by decide +kernel
theorem dX7_sun_53 : decode cX7_sun 53 = .ok (.sipush 487, 3) := by decide +kernel
theorem dX7_sun_56 : decode cX7_sun 56 = .ok (.iload_n 3, 1) := by decide +kernel
theorem dX7_sun_57 : decode cX7_sun 57 = .ok (.iastore, 1) := by decide +kernel
theorem dX7_sun_58 : decode cX7_sun 58 = .ok (.aload_n 0, 1) := by decide +kernel
theorem dX7_sun_59 : decode cX7_sun 59 = .ok (.getfield 7, 3) := by decide +kernel
theorem dX7_sun_62 : decode cX7_sun 62 = .ok (.sipush 488, 3) := by decide +kernel
theorem dX7_sun_65 : decode cX7_sun 65 = .ok (.iload 4, 2) := by decide +kernel
theorem dX7_sun_67 : decode cX7_sun 67 = .ok (.iastore, 1) := by decide +kernel
theorem dX7_sun_68 : decode cX7_sun 68 = .ok (.iconst 1, 1) := by decide +kernel
theorem dX7_sun_69 : decode cX7_sun 69 = .ok (.ireturn, 1) := by decide +kernel
set_option maxRecDepth 20000 in
theorem B_X7_sun_0 {G : Gx} {X : Cx} {h : PH} {k n : Nat} {Q : State → Prop} {S : List PV} {a0 : Nat} {a1 : Int} {a2 : Int} {a3 : Int} {a4 : Int} {PQ : Option PV → PH → Prop} (C : CX_X7_sun G X) (hk0 : k ≤ 0 := by decide) (hn0 : n ≤ 0 := by decide) (hM : CT_X7_isDirection G X.2.1 [.inl a1, .inl a3] h PQ) (hS : S.length ≤ 8 := by decide) (kk : ∀ r h', PQ r h' → PW G X 5 Q k n 5 [some (.inr a0), some (.inl a1), some (.inl a2), some (.inl a3), some (.inl a4)] (r.toList ++ S) h') : PW G X 5 Q k n 0 [some (.inr a0), some (.inl a1), some (.inl a2), some (.inl a3), some (.inl a4)] (S) h := by
  refine pw_iload_n C dX7_sun_0 rfl ?_
  refine pw_iload_n C dX7_sun_1 rfl ?_
  exact pw_callS C (na := 2) (As := [.inl a1, .inl a3]) (S := S) hM kw730 kw731 kw45 kw732 (by decide +kernel) rfl dX7_sun_2 (by decide) (by decide) hk0 hn0 (by first | exact hS | (simp only [List.length_cons]; omega)) kk
set_option maxRecDepth 20000 in
theorem B_X7_sun_5 {G : Gx} {X : Cx} {h : PH} {k n : Nat} {Q : State → Prop} {S : List PV} {a0 : Nat} {a1 : Int} {a2 : Int} {a3 : Int} {a4 : Int} {s0 : Int} (C : CX_X7_sun G X) (q1 : pR s0 := by first | assumption | (unfold pR; omega)) (kt : s0 = 0 → PW G X 5 Q k n 28 [some (.inr a0), some (.inl a1), some (.inl a2), some (.inl a3), some (.inl a4)] (S) h) (kf : ¬ s0 = 0 → PW G X 5 Q k n 8 [some (.inr a0), some (.inl a1), some (.inl a2), some (.inl a3), some (.inl a4)] (S) h) : PW G X 5 Q k n 5 [some (.inr a0), some (.inl a1), some (.inl a2), some (.inl a3), some (.inl a4)] (.inl s0 :: S) h := by
  exact pw_if_eq C 28 dX7_sun_5 (by decide) q1 kt kf
set_option maxRecDepth 20000 in
theorem B_X7_sun_8 {G : Gx} {X : Cx} {h : PH} {k n : Nat} {Q : State → Prop} {S : List PV} {a0 : Nat} {a1 : Int} {a2 : Int} {a3 : Int} {a4 : Int} {PQ : Option PV → PH → Prop} (C : CX_X7_sun G X) (hk0 : k ≤ 0 := by decide) (hn0 : n ≤ 0 := by decide) (hM : CT_X7_in G X.2.1 [.inl a2, .inl 1, .inl 40] h PQ) (hS : S.length ≤ 8 := by decide) (kk : ∀ r h', PQ r h' → PW G X 5 Q k n 15 [some (.inr a0), some (.inl a1), some (.inl a2), some (.inl a3), some (.inl a4)] (r.toList ++ S) h') : PW G X 5 Q k n 8 [some (.inr a0), some (.inl a1), some (.inl a2), some (.inl a3), some (.inl a4)] (S) h := by
  refine pw_iload_n C dX7_sun_8 rfl ?_
  refine pw_iconst C dX7_sun_9 ?_
  refine pw_bipush C dX7_sun_10 rfl ?_
  exact pw_callS C (na := 3) (As := [.inl a2, .inl 1, .inl 40]) (S := S) hM kw719 kw720 kw45 kw721 (by decide +kernel) rfl dX7_sun_12 (by decide) (by decide) hk0 hn0 (by first | exact hS | (simp only [List.length_cons]; omega)) kk
set_option maxRecDepth 20000 in
theorem B_X7_sun_15 {G : Gx} {X : Cx} {h : PH} {k n : Nat} {Q : State → Prop} {S : List PV} {a0 : Nat} {a1 : Int} {a2 : Int} {a3 : Int} {a4 : Int} {s0 : Int} (C : CX_X7_sun G X) (q1 : pR s0 := by first | assumption | (unfold pR; omega)) (kt : s0 = 0 → PW G X 5 Q k n 28 [some (.inr a0), some (.inl a1), some (.inl a2), some (.inl a3), some (.inl a4)] (S) h) (kf : ¬ s0 = 0 → PW G X 5 Q k n 18 [some (.inr a0), some (.inl a1), some (.inl a2), some (.inl a3), some (.inl a4)] (S) h) : PW G X 5 Q k n 15 [some (.inr a0), some (.inl a1), some (.inl a2), some (.inl a3), some (.inl a4)] (.inl s0 :: S) h := by
  exact pw_if_eq C 28 dX7_sun_15 (by decide) q1 kt kf
set_option maxRecDepth 20000 in
theorem B_X7_sun_18 {G : Gx} {X : Cx} {h : PH} {k n : Nat} {Q : State → Prop} {S : List PV} {a0 : Nat} {a1 : Int} {a2 : Int} {a3 : Int} {a4 : Int} {PQ : Option PV → PH → Prop} (C : CX_X7_sun G X) (hk0 : k ≤ 0 := by decide) (hn0 : n ≤ 0 := by decide) (hM : CT_X7_in G X.2.1 [.inl a4, .inl (-1), .inl 3] h PQ) (hS : S.length ≤ 8 := by decide) (kk : ∀ r h', PQ r h' → PW G X 5 Q k n 25 [some (.inr a0), some (.inl a1), some (.inl a2), some (.inl a3), some (.inl a4)] (r.toList ++ S) h') : PW G X 5 Q k n 18 [some (.inr a0), some (.inl a1), some (.inl a2), some (.inl a3), some (.inl a4)] (S) h := by
  refine pw_iload C dX7_sun_18 rfl ?_
  refine pw_iconst C dX7_sun_20 ?_
  refine pw_iconst C dX7_sun_21 ?_
  exact pw_callS C (na := 3) (As := [.inl a4, .inl (-1), .inl 3]) (S := S) hM kw719 kw720 kw45 kw721 (by decide +kernel) rfl dX7_sun_22 (by decide) (by decide) hk0 hn0 (by first | exact hS | (simp only [List.length_cons]; omega)) kk
set_option maxRecDepth 20000 in
theorem B_X7_sun_25 {G : Gx} {X : Cx} {h : PH} {k n : Nat} {Q : State → Prop} {S : List PV} {a0 : Nat} {a1 : Int} {a2 : Int} {a3 : Int} {a4 : Int} {s0 : Int} (C : CX_X7_sun G X) (q1 : pR s0 := by first | assumption | (unfold pR; omega)) (kt : ¬ s0 = 0 → PW G X 5 Q k n 31 [some (.inr a0), some (.inl a1), some (.inl a2), some (.inl a3), some (.inl a4)] (S) h) (kf : s0 = 0 → PW G X 5 Q k n 28 [some (.inr a0), some (.inl a1), some (.inl a2), some (.inl a3), some (.inl a4)] (S) h) : PW G X 5 Q k n 25 [some (.inr a0), some (.inl a1), some (.inl a2), some (.inl a3), some (.inl a4)] (.inl s0 :: S) h := by
  exact pw_if_ne C 31 dX7_sun_25 (by decide) q1 kt kf
set_option maxRecDepth 20000 in
theorem B_X7_sun_28 {G : Gx} {X : Cx} {h : PH} {k n : Nat} {a0 : Nat} {a1 : Int} {a2 : Int} {a3 : Int} {a4 : Int} {PQ : Option PV → PH → Prop} (C : CX_X7_sun G X) (hq : PQ (some (.inl (-2))) h) : PW G X 5 (pw_E G X PQ k n) k n 28 [some (.inr a0), some (.inl a1), some (.inl a2), some (.inl a3), some (.inl a4)] [] h := by
  refine pw_bipush C dX7_sun_28 rfl ?_
  exact pw_ireturn C dX7_sun_30 hq
set_option maxRecDepth 20000 in
theorem B_X7_sun_31 {G : Gx} {X : Cx} {h : PH} {k n : Nat} {a0 : Nat} {a1 : Int} {a2 : Int} {a3 : Int} {a4 : Int} {r2 : Nat} {r10 : Nat} {r18 : Nat} {r26 : Nat} {PQ : Option PV → PH → Prop} (C : CX_X7_sun G X) (t1 : ph_T h a0 = 7 := by first | assumption | rfl) (e3 : ph_R h a0 0 = r2 := by first | assumption | rfl) (t4 : ph_T h r2 = 8 := by first | assumption | rfl) (q5 : (0 : Int) ≤ 485 := by first | assumption | omega) (q6 : 485 < (ph_L h r2 : Int) := by first | assumption | omega) (q7 : pR 485 := by first | assumption | (unfold pR; omega)) (t9 : ph_T h a0 = 7 := by first | assumption | rfl) (e11 : ph_R h a0 0 = r10 := by first | assumption | rfl) (t12 : ph_T h r10 = 8 := by first | assumption | rfl) (q13 : (0 : Int) ≤ 486 := by first | assumption | omega) (q14 : 486 < (ph_L h r10 : Int) := by first | assumption | omega) (q15 : pR 486 := by first | assumption | (unfold pR; omega)) (t17 : ph_T h a0 = 7 := by first | assumption | rfl) (e19 : ph_R h a0 0 = r18 := by first | assumption | rfl) (t20 : ph_T h r18 = 8 := by first | assumption | rfl) (q21 : (0 : Int) ≤ 487 := by first | assumption | omega) (q22 : 487 < (ph_L h r18 : Int) := by first | assumption | omega) (q23 : pR 487 := by first | assumption | (unfold pR; omega)) (t25 : ph_T h a0 = 7 := by first | assumption | rfl) (e27 : ph_R h a0 0 = r26 := by first | assumption | rfl) (t28 : ph_T h r26 = 8 := by first | assumption | rfl) (q29 : (0 : Int) ≤ 488 := by first | assumption | omega) (q30 : 488 < (ph_L h r26 : Int) := by first | assumption | omega) (q31 : pR 488 := by first | assumption | (unfold pR; omega)) (hq : PQ (some (.inl 1)) (ph_setI (ph_setI (ph_setI (ph_setI h r2 (Int.toNat 485) a1) r10 (Int.toNat 486) a2) r18 (Int.toNat 487) a3) r26 (Int.toNat 488) a4)) : PW G X 5 (pw_E G X PQ k n) k n 31 [some (.inr a0), some (.inl a1), some (.inl a2), some (.inl a3), some (.inl a4)] [] h := by
  refine pw_aload_n C dX7_sun_31 rfl ?_
  refine pw_getR C (t := 7) (f := 0) rfl inF7 rfl (by decide) (by decide) rfl kw678 dX7_sun_32 t1 ?_
  rw [e3]
  refine pw_sipush C dX7_sun_35 rfl ?_
  refine pw_iload_n C dX7_sun_38 rfl ?_
  refine pw_iast C dX7_sun_39 t4 q5 q6 q7 ?_
  refine pw_aload_n C dX7_sun_40 rfl ?_
  refine pw_getR C (t := 7) (f := 0) rfl inF7 rfl (by decide) (by decide) rfl kw678 dX7_sun_41 t9 ?_
  rw [show ph_R (ph_setI h r2 (Int.toNat 485) a1) a0 0 = r10 from e11]
  refine pw_sipush C dX7_sun_44 rfl ?_
  refine pw_iload_n C dX7_sun_47 rfl ?_
  refine pw_iast C dX7_sun_48 t12 q13 q14 q15 ?_
  refine pw_aload_n C dX7_sun_49 rfl ?_
  refine pw_getR C (t := 7) (f := 0) rfl inF7 rfl (by decide) (by decide) rfl kw678 dX7_sun_50 t17 ?_
  rw [show ph_R (ph_setI (ph_setI h r2 (Int.toNat 485) a1) r10 (Int.toNat 486) a2) a0 0 = r18 from e19]
  refine pw_sipush C dX7_sun_53 rfl ?_
  refine pw_iload_n C dX7_sun_56 rfl ?_
  refine pw_iast C dX7_sun_57 t20 q21 q22 q23 ?_
  refine pw_aload_n C dX7_sun_58 rfl ?_
  refine pw_getR C (t := 7) (f := 0) rfl inF7 rfl (by decide) (by decide) rfl kw678 dX7_sun_59 t25 ?_
  rw [show ph_R (ph_setI (ph_setI (ph_setI h r2 (Int.toNat 485) a1) r10 (Int.toNat 486) a2) r18 (Int.toNat 487) a3) a0 0 = r26 from e27]
  refine pw_sipush C dX7_sun_62 rfl ?_
  refine pw_iload C dX7_sun_65 rfl ?_
  refine pw_iast C dX7_sun_67 t28 q29 q30 q31 ?_
  refine pw_iconst C dX7_sun_68 ?_
  exact pw_ireturn C dX7_sun_69 hq
theorem dX7_storm_0 : decode cX7_storm 0 = .ok (.iload_n 1, 1) := by decide +kernel
theorem dX7_storm_1 : decode cX7_storm 1 = .ok (.invokestatic 49, 3) := by decide +kernel
theorem dX7_storm_4 : decode cX7_storm 4 = .ok (.ifCond .eq 10, 3) := by decide +kernel
theorem dX7_storm_7 : decode cX7_storm 7 = .ok (.iload_n 2, 1) := by decide +kernel
theorem dX7_storm_8 : decode cX7_storm 8 = .ok (.invokestatic 49, 3) := by decide +kernel
theorem dX7_storm_11 : decode cX7_storm 11 = .ok (.ifCond .ne 6, 3) := by decide +kernel
theorem dX7_storm_14 : decode cX7_storm 14 = .ok (.bipush (-2), 2) := by decide +kernel
theorem dX7_storm_16 : decode cX7_storm 16 = .ok (.ireturn, 1) := by decide +kernel
theorem dX7_storm_17 : decode cX7_storm 17 = .ok (.aload_n 0, 1) := by decide +kernel
theorem dX7_storm_18 : decode cX7_storm 18 = .ok (.getfield 7, 3) := by decide +kernel
theorem dX7_storm_21 : decode cX7_storm 21 = .ok (.sipush 489, 3) := by decide +kernel
theorem dX7_storm_24 : decode cX7_storm 24 = .ok (.iload_n 1, 1) := by decide +kernel
theorem dX7_storm_25 : decode cX7_storm 25 = .ok (.iload_n 2, 1) := by decide +kernel
theorem dX7_storm_26 : decode cX7_storm 26 = .ok (.if_icmp .le 8, 3) := by decide +kernel
theorem dX7_storm_29 : decode cX7_storm 29 = .ok (.bipush (-6), 2) := by decide +kernel
theorem dX7_storm_31 : decode cX7_storm 31 = .ok (.goto 4, 3) := by decide +kernel
theorem dX7_storm_34 : decode cX7_storm 34 = .ok (.iload_n 1, 1) := by decide +kernel
theorem dX7_storm_35 : decode cX7_storm 35 = .ok (.iastore, 1) := by decide +kernel
theorem dX7_storm_36 : decode cX7_storm 36 = .ok (.aload_n 0, 1) := by decide +kernel
theorem dX7_storm_37 : decode cX7_storm 37 = .ok (.getfield 7, 3) := by decide +kernel
theorem dX7_storm_40 : decode cX7_storm 40 = .ok (.sipush 490, 3) := by decide +kernel
theorem dX7_storm_43 : decode cX7_storm 43 = .ok (.iload_n 1, 1) := by decide +kernel
theorem dX7_storm_44 : decode cX7_storm 44 = .ok (.iload_n 2, 1) := by decide +kernel
theorem dX7_storm_45 : decode cX7_storm 45 = .ok (.if_icmp .le 8, 3) := by decide +kernel
theorem dX7_storm_48 : decode cX7_storm 48 = .ok (.bipush (-6), 2) := by decide +kernel
theorem dX7_storm_50 : decode cX7_storm 50 = .ok (.goto 4, 3) := by decide +kernel
theorem dX7_storm_53 : decode cX7_storm 53 = .ok (.iload_n 2, 1) := by decide +kernel
theorem dX7_storm_54 : decode cX7_storm 54 = .ok (.iastore, 1) := by decide +kernel
theorem dX7_storm_55 : decode cX7_storm 55 = .ok (.iconst 1, 1) := by decide +kernel
theorem dX7_storm_56 : decode cX7_storm 56 = .ok (.ireturn, 1) := by decide +kernel
set_option maxRecDepth 20000 in
theorem B_X7_storm_0 {G : Gx} {X : Cx} {h : PH} {k n : Nat} {Q : State → Prop} {S : List PV} {a0 : Nat} {a1 : Int} {a2 : Int} {PQ : Option PV → PH → Prop} (C : CX_X7_storm G X) (hk0 : k ≤ 0 := by decide) (hn0 : n ≤ 0 := by decide) (hM : CT_X7_isTick G X.2.1 [.inl a1] h PQ) (hS : S.length ≤ 8 := by decide) (kk : ∀ r h', PQ r h' → PW G X 3 Q k n 4 [some (.inr a0), some (.inl a1), some (.inl a2)] (r.toList ++ S) h') : PW G X 3 Q k n 0 [some (.inr a0), some (.inl a1), some (.inl a2)] (S) h := by
  refine pw_iload_n C dX7_storm_0 rfl ?_
  exact pw_callS C (na := 1) (As := [.inl a1]) (S := S) hM kw744 kw745 kw45 kw746 (by decide +kernel) rfl dX7_storm_1 (by decide) (by decide) hk0 hn0 (by first | exact hS | (simp only [List.length_cons]; omega)) kk
set_option maxRecDepth 20000 in
theorem B_X7_storm_4 {G : Gx} {X : Cx} {h : PH} {k n : Nat} {Q : State → Prop} {S : List PV} {a0 : Nat} {a1 : Int} {a2 : Int} {s0 : Int} (C : CX_X7_storm G X) (q1 : pR s0 := by first | assumption | (unfold pR; omega)) (kt : s0 = 0 → PW G X 3 Q k n 14 [some (.inr a0), some (.inl a1), some (.inl a2)] (S) h) (kf : ¬ s0 = 0 → PW G X 3 Q k n 7 [some (.inr a0), some (.inl a1), some (.inl a2)] (S) h) : PW G X 3 Q k n 4 [some (.inr a0), some (.inl a1), some (.inl a2)] (.inl s0 :: S) h := by
  exact pw_if_eq C 14 dX7_storm_4 (by decide) q1 kt kf
set_option maxRecDepth 20000 in
theorem B_X7_storm_7 {G : Gx} {X : Cx} {h : PH} {k n : Nat} {Q : State → Prop} {S : List PV} {a0 : Nat} {a1 : Int} {a2 : Int} {PQ : Option PV → PH → Prop} (C : CX_X7_storm G X) (hk0 : k ≤ 0 := by decide) (hn0 : n ≤ 0 := by decide) (hM : CT_X7_isTick G X.2.1 [.inl a2] h PQ) (hS : S.length ≤ 8 := by decide) (kk : ∀ r h', PQ r h' → PW G X 3 Q k n 11 [some (.inr a0), some (.inl a1), some (.inl a2)] (r.toList ++ S) h') : PW G X 3 Q k n 7 [some (.inr a0), some (.inl a1), some (.inl a2)] (S) h := by
  refine pw_iload_n C dX7_storm_7 rfl ?_
  exact pw_callS C (na := 1) (As := [.inl a2]) (S := S) hM kw744 kw745 kw45 kw746 (by decide +kernel) rfl dX7_storm_8 (by decide) (by decide) hk0 hn0 (by first | exact hS | (simp only [List.length_cons]; omega)) kk
set_option maxRecDepth 20000 in
theorem B_X7_storm_11 {G : Gx} {X : Cx} {h : PH} {k n : Nat} {Q : State → Prop} {S : List PV} {a0 : Nat} {a1 : Int} {a2 : Int} {s0 : Int} (C : CX_X7_storm G X) (q1 : pR s0 := by first | assumption | (unfold pR; omega)) (kt : ¬ s0 = 0 → PW G X 3 Q k n 17 [some (.inr a0), some (.inl a1), some (.inl a2)] (S) h) (kf : s0 = 0 → PW G X 3 Q k n 14 [some (.inr a0), some (.inl a1), some (.inl a2)] (S) h) : PW G X 3 Q k n 11 [some (.inr a0), some (.inl a1), some (.inl a2)] (.inl s0 :: S) h := by
  exact pw_if_ne C 17 dX7_storm_11 (by decide) q1 kt kf
set_option maxRecDepth 20000 in
theorem B_X7_storm_14 {G : Gx} {X : Cx} {h : PH} {k n : Nat} {a0 : Nat} {a1 : Int} {a2 : Int} {PQ : Option PV → PH → Prop} (C : CX_X7_storm G X) (hq : PQ (some (.inl (-2))) h) : PW G X 3 (pw_E G X PQ k n) k n 14 [some (.inr a0), some (.inl a1), some (.inl a2)] [] h := by
  refine pw_bipush C dX7_storm_14 rfl ?_
  exact pw_ireturn C dX7_storm_16 hq
set_option maxRecDepth 20000 in
theorem B_X7_storm_17 {G : Gx} {X : Cx} {h : PH} {k n : Nat} {Q : State → Prop} {S : List PV} {a0 : Nat} {a1 : Int} {a2 : Int} {r2 : Nat} (C : CX_X7_storm G X) (t1 : ph_T h a0 = 7 := by first | assumption | rfl) (e3 : ph_R h a0 0 = r2 := by first | assumption | rfl) (q4 : pR a1 := by first | assumption | (unfold pR; omega)) (q5 : pR a2 := by first | assumption | (unfold pR; omega)) (kt : a1 ≤ a2 → PW G X 3 Q k n 34 [some (.inr a0), some (.inl a1), some (.inl a2)] (.inl 489 :: .inr r2 :: S) h) (kf : ¬ a1 ≤ a2 → PW G X 3 Q k n 29 [some (.inr a0), some (.inl a1), some (.inl a2)] (.inl 489 :: .inr r2 :: S) h) : PW G X 3 Q k n 17 [some (.inr a0), some (.inl a1), some (.inl a2)] (S) h := by
  refine pw_aload_n C dX7_storm_17 rfl ?_
  refine pw_getR C (t := 7) (f := 0) rfl inF7 rfl (by decide) (by decide) rfl kw678 dX7_storm_18 t1 ?_
  rw [e3]
  refine pw_sipush C dX7_storm_21 rfl ?_
  refine pw_iload_n C dX7_storm_24 rfl ?_
  refine pw_iload_n C dX7_storm_25 rfl ?_
  exact pw_icmp_le C 34 dX7_storm_26 (by decide) q4 q5 kt kf
set_option maxRecDepth 20000 in
theorem B_X7_storm_29 {G : Gx} {X : Cx} {h : PH} {k n : Nat} {Q : State → Prop} {S : List PV} {a0 : Nat} {a1 : Int} {a2 : Int} {s0 : Int} {s1 : Nat} (C : CX_X7_storm G X) (kk : PW G X 3 Q k n 35 [some (.inr a0), some (.inl a1), some (.inl a2)] (.inl (-6) :: .inl s0 :: .inr s1 :: S) h) : PW G X 3 Q k n 29 [some (.inr a0), some (.inl a1), some (.inl a2)] (.inl s0 :: .inr s1 :: S) h := by
  refine pw_bipush C dX7_storm_29 rfl ?_
  refine pw_goto C 35 dX7_storm_31 (by decide) ?_
  exact kk
set_option maxRecDepth 20000 in
theorem B_X7_storm_34 {G : Gx} {X : Cx} {h : PH} {k n : Nat} {Q : State → Prop} {S : List PV} {a0 : Nat} {a1 : Int} {a2 : Int} {s0 : Int} {s1 : Nat} (C : CX_X7_storm G X) (kk : PW G X 3 Q k n 35 [some (.inr a0), some (.inl a1), some (.inl a2)] (.inl a1 :: .inl s0 :: .inr s1 :: S) h) : PW G X 3 Q k n 34 [some (.inr a0), some (.inl a1), some (.inl a2)] (.inl s0 :: .inr s1 :: S) h := by
  refine pw_iload_n C dX7_storm_34 rfl ?_
  exact kk
set_option maxRecDepth 20000 in
theorem B_X7_storm_35 {G : Gx} {X : Cx} {h : PH} {k n : Nat} {Q : State → Prop} {S : List PV} {a0 : Nat} {a1 : Int} {a2 : Int} {s0 : Int} {s1 : Int} {s2 : Nat} {r7 : Nat} (C : CX_X7_storm G X) (t1 : ph_T h s2 = 8 := by first | assumption | rfl) (q2 : (0 : Int) ≤ s1 := by first | assumption | omega) (q3 : s1 < (ph_L h s2 : Int) := by first | assumption | omega) (q4 : pR s1 := by first | assumption | (unfold pR; omega)) (t6 : ph_T h a0 = 7 := by first | assumption | rfl) (e8 : ph_R h a0 0 = r7 := by first | assumption | rfl) (q9 : pR a1 := by first | assumption | (unfold pR; omega)) (q10 : pR a2 := by first | assumption | (unfold pR; omega)) (kt : a1 ≤ a2 → PW G X 3 Q k n 53 [some (.inr a0), some (.inl a1), some (.inl a2)] (.inl 490 :: .inr r7 :: S) (ph_setI h s2 (Int.toNat s1) s0)) (kf : ¬ a1 ≤ a2 → PW G X 3 Q k n 48 [some (.inr a0), some (.inl a1), some (.inl a2)] (.inl 490 :: .inr r7 :: S) (ph_setI h s2 (Int.toNat s1) s0)) : PW G X 3 Q k n 35 [some (.inr a0), some (.inl a1), some (.inl a2)] (.inl s0 :: .inl s1 :: .inr s2 :: S) h := by
  refine pw_iast C dX7_storm_35 t1 q2 q3 q4 ?_
  refine pw_aload_n C dX7_storm_36 rfl ?_
  refine pw_getR C (t := 7) (f := 0) rfl inF7 rfl (by decide) (by decide) rfl kw678 dX7_storm_37 t6 ?_
  rw [show ph_R (ph_setI h s2 (Int.toNat s1) s0) a0 0 = r7 from e8]
  refine pw_sipush C dX7_storm_40 rfl ?_
  refine pw_iload_n C dX7_storm_43 rfl ?_
  refine pw_iload_n C dX7_storm_44 rfl ?_
  exact pw_icmp_le C 53 dX7_storm_45 (by decide) q9 q10 kt kf
set_option maxRecDepth 20000 in
theorem B_X7_storm_48 {G : Gx} {X : Cx} {h : PH} {k n : Nat} {Q : State → Prop} {S : List PV} {a0 : Nat} {a1 : Int} {a2 : Int} {s0 : Int} {s1 : Nat} (C : CX_X7_storm G X) (kk : PW G X 3 Q k n 54 [some (.inr a0), some (.inl a1), some (.inl a2)] (.inl (-6) :: .inl s0 :: .inr s1 :: S) h) : PW G X 3 Q k n 48 [some (.inr a0), some (.inl a1), some (.inl a2)] (.inl s0 :: .inr s1 :: S) h := by
  refine pw_bipush C dX7_storm_48 rfl ?_
  refine pw_goto C 54 dX7_storm_50 (by decide) ?_
  exact kk
set_option maxRecDepth 20000 in
theorem B_X7_storm_53 {G : Gx} {X : Cx} {h : PH} {k n : Nat} {Q : State → Prop} {S : List PV} {a0 : Nat} {a1 : Int} {a2 : Int} {s0 : Int} {s1 : Nat} (C : CX_X7_storm G X) (kk : PW G X 3 Q k n 54 [some (.inr a0), some (.inl a1), some (.inl a2)] (.inl a2 :: .inl s0 :: .inr s1 :: S) h) : PW G X 3 Q k n 53 [some (.inr a0), some (.inl a1), some (.inl a2)] (.inl s0 :: .inr s1 :: S) h := by
  refine pw_iload_n C dX7_storm_53 rfl ?_
  exact kk
set_option maxRecDepth 20000 in
theorem B_X7_storm_54 {G : Gx} {X : Cx} {h : PH} {k n : Nat} {a0 : Nat} {a1 : Int} {a2 : Int} {s0 : Int} {s1 : Int} {s2 : Nat} {PQ : Option PV → PH → Prop} (C : CX_X7_storm G X) (t1 : ph_T h s2 = 8 := by first | assumption | rfl) (q2 : (0 : Int) ≤ s1 := by first | assumption | omega) (q3 : s1 < (ph_L h s2 : Int) := by first | assumption | omega) (q4 : pR s1 := by first | assumption | (unfold pR; omega)) (hq : PQ (some (.inl 1)) (ph_setI h s2 (Int.toNat s1) s0)) : PW G X 3 (pw_E G X PQ k n) k n 54 [some (.inr a0), some (.inl a1), some (.inl a2)] [.inl s0, .inl s1, .inr s2] h := by
  refine pw_iast C dX7_storm_54 t1 q2 q3 q4 ?_
  refine pw_iconst C dX7_storm_55 ?_
  exact pw_ireturn C dX7_storm_56 hq
theorem dX7_key_0 : decode cX7_key 0 = .ok (.iload_n 1, 1) := by decide +kernel
theorem dX7_key_1 : decode cX7_key 1 = .ok (.iconst 0, 1) := by decide +kernel
theorem dX7_key_2 : decode cX7_key 2 = .ok (.bipush 6, 2) := by decide +kernel
theorem dX7_key_4 : decode cX7_key 4 = .ok (.invokestatic 33, 3) := by decide +kernel
theorem dX7_key_7 : decode cX7_key 7 = .ok (.ifCond .ne 6, 3) := by decide +kernel
theorem dX7_key_10 : decode cX7_key 10 = .ok (.bipush (-2), 2) := by decide +kernel
theorem dX7_key_12 : decode cX7_key 12 = .ok (.ireturn, 1) := by decide +kernel
theorem dX7_key_13 : decode cX7_key 13 = .ok (.aload_n 0, 1) := by decide +kernel
theorem dX7_key_14 : decode cX7_key 14 = .ok (.getfield 7, 3) := by decide +kernel
theorem dX7_key_17 : decode cX7_key 17 = .ok (.sipush 491, 3) := by decide +kernel
theorem dX7_key_20 : decode cX7_key 20 = .ok (.iaload, 1) := by decide +kernel
theorem dX7_key_21 : decode cX7_key 21 = .ok (.istore_n 2, 1) := by decide +kernel
theorem dX7_key_22 : decode cX7_key 22 = .ok (.aload_n 0, 1) := by decide +kernel
theorem dX7_key_23 : decode cX7_key 23 = .ok (.getfield 7, 3) := by decide +kernel
theorem dX7_key_26 : decode cX7_key 26 = .ok (.sipush 491, 3) := by decide +kernel
theorem dX7_key_29 : decode cX7_key 29 = .ok (.iload_n 1, 1) := by decide +kernel
theorem dX7_key_30 : decode cX7_key 30 = .ok (.iastore, 1) := by decide +kernel
theorem dX7_key_31 : decode cX7_key 31 = .ok (.iload_n 2, 1) := by decide +kernel
theorem dX7_key_32 : decode cX7_key 32 = .ok (.ireturn, 1) := by decide +kernel
set_option maxRecDepth 20000 in
theorem B_X7_key_0 {G : Gx} {X : Cx} {h : PH} {k n : Nat} {Q : State → Prop} {S : List PV} {a0 : Nat} {a1 : Int} {PQ : Option PV → PH → Prop} (C : CX_X7_key G X) (hk0 : k ≤ 0 := by decide) (hn0 : n ≤ 0 := by decide) (hM : CT_X7_in G X.2.1 [.inl a1, .inl 0, .inl 6] h PQ) (hS : S.length ≤ 8 := by decide) (kk : ∀ r h', PQ r h' → PW G X 3 Q k n 7 [some (.inr a0), some (.inl a1), none] (r.toList ++ S) h') : PW G X 3 Q k n 0 [some (.inr a0), some (.inl a1), none] (S) h := by
  refine pw_iload_n C dX7_key_0 rfl ?_
  refine pw_iconst C dX7_key_1 ?_
  refine pw_bipush C dX7_key_2 rfl ?_
  exact pw_callS C (na := 3) (As := [.inl a1, .inl 0, .inl 6]) (S := S) hM kw719 kw720 kw45 kw721 (by decide +kernel) rfl dX7_key_4 (by decide) (by decide) hk0 hn0 (by first | exact hS | (simp only [List.length_cons]; omega)) kk
set_option maxRecDepth 20000 in
theorem B_X7_key_7 {G : Gx} {X : Cx} {h : PH} {k n : Nat} {Q : State → Prop} {S : List PV} {a0 : Nat} {a1 : Int} {s0 : Int} (C : CX_X7_key G X) (q1 : pR s0 := by first | assumption | (unfold pR; omega)) (kt : ¬ s0 = 0 → PW G X 3 Q k n 13 [some (.inr a0), some (.inl a1), none] (S) h) (kf : s0 = 0 → PW G X 3 Q k n 10 [some (.inr a0), some (.inl a1), none] (S) h) : PW G X 3 Q k n 7 [some (.inr a0), some (.inl a1), none] (.inl s0 :: S) h := by
  exact pw_if_ne C 13 dX7_key_7 (by decide) q1 kt kf
set_option maxRecDepth 20000 in
theorem B_X7_key_10 {G : Gx} {X : Cx} {h : PH} {k n : Nat} {a0 : Nat} {a1 : Int} {PQ : Option PV → PH → Prop} (C : CX_X7_key G X) (hq : PQ (some (.inl (-2))) h) : PW G X 3 (pw_E G X PQ k n) k n 10 [some (.inr a0), some (.inl a1), none] [] h := by
  refine pw_bipush C dX7_key_10 rfl ?_
  exact pw_ireturn C dX7_key_12 hq
set_option maxRecDepth 20000 in
theorem B_X7_key_13 {G : Gx} {X : Cx} {h : PH} {k n : Nat} {a0 : Nat} {a1 : Int} {r2 : Nat} {x8 : Int} {r11 : Nat} {PQ : Option PV → PH → Prop} (C : CX_X7_key G X) (t1 : ph_T h a0 = 7 := by first | assumption | rfl) (e3 : ph_R h a0 0 = r2 := by first | assumption | rfl) (t4 : ph_T h r2 = 8 := by first | assumption | rfl) (q5 : (0 : Int) ≤ 491 := by first | assumption | omega) (q6 : 491 < (ph_L h r2 : Int) := by first | assumption | omega) (q7 : pR 491 := by first | assumption | (unfold pR; omega)) (e9 : ph_I h r2 491 = x8 := by first | assumption | rfl) (t10 : ph_T h a0 = 7 := by first | assumption | rfl) (e12 : ph_R h a0 0 = r11 := by first | assumption | rfl) (t13 : ph_T h r11 = 8 := by first | assumption | rfl) (q14 : (0 : Int) ≤ 491 := by first | assumption | omega) (q15 : 491 < (ph_L h r11 : Int) := by first | assumption | omega) (q16 : pR 491 := by first | assumption | (unfold pR; omega)) (hq : PQ (some (.inl x8)) (ph_setI h r11 (Int.toNat 491) a1)) : PW G X 3 (pw_E G X PQ k n) k n 13 [some (.inr a0), some (.inl a1), none] [] h := by
  refine pw_aload_n C dX7_key_13 rfl ?_
  refine pw_getR C (t := 7) (f := 0) rfl inF7 rfl (by decide) (by decide) rfl kw678 dX7_key_14 t1 ?_
  rw [e3]
  refine pw_sipush C dX7_key_17 rfl ?_
  refine pw_iald C dX7_key_20 t4 q5 q6 q7 ?_
  rw [show ph_I h r2 (Int.toNat 491) = x8 from e9]
  refine pw_istore_n C dX7_key_21 (by decide) ?_
  refine pw_aload_n C dX7_key_22 rfl ?_
  refine pw_getR C (t := 7) (f := 0) rfl inF7 rfl (by decide) (by decide) rfl kw678 dX7_key_23 t10 ?_
  rw [e12]
  refine pw_sipush C dX7_key_26 rfl ?_
  refine pw_iload_n C dX7_key_29 rfl ?_
  refine pw_iast C dX7_key_30 t13 q14 q15 q16 ?_
  refine pw_iload_n C dX7_key_31 rfl ?_
  exact pw_ireturn C dX7_key_32 hq
theorem dX7_isBurnt_0 : decode cX7_isBurnt 0 = .ok (.aload_n 0, 1) := by decide +kernel
theorem dX7_isBurnt_1 : decode cX7_isBurnt 1 = .ok (.getfield 7, 3) := by decide +kernel
theorem dX7_isBurnt_4 : decode cX7_isBurnt 4 = .ok (.sipush 485, 3) := by decide +kernel
theorem dX7_isBurnt_7 : decode cX7_isBurnt 7 = .ok (.iaload, 1) := by decide +kernel
theorem dX7_isBurnt_8 : decode cX7_isBurnt 8 = .ok (.iload_n 3, 1) := by decide +kernel
theorem dX7_isBurnt_9 : decode cX7_isBurnt 9 = .ok (.aload_n 0, 1) := by decide +kernel
theorem dX7_isBurnt_10 : decode cX7_isBurnt 10 = .ok (.getfield 7, 3) := by decide +kernel
theorem dX7_isBurnt_13 : decode cX7_isBurnt 13 = .ok (.sipush 486, 3) := by decide +kernel
theorem dX7_isBurnt_16 : decode cX7_isBurnt 16 = .ok (.iaload, 1) := by decide +kernel
theorem dX7_isBurnt_17 : decode cX7_isBurnt 17 = .ok (.idiv, 1) := by decide +kernel
theorem dX7_isBurnt_18 : decode cX7_isBurnt 18 = .ok (.iadd, 1) := by decide +kernel
theorem dX7_isBurnt_19 : decode cX7_isBurnt 19 = .ok (.bipush 24, 2) := by decide +kernel
theorem dX7_isBurnt_21 : decode cX7_isBurnt 21 = .ok (.irem, 1) := by decide +kernel
theorem dX7_isBurnt_22 : decode cX7_isBurnt 22 = .ok (.istore 4, 2) := by decide +kernel
theorem dX7_isBurnt_24 : decode cX7_isBurnt 24 = .ok (.iload_n 1, 1) := by decide +kernel
theorem dX7_isBurnt_25 : decode cX7_isBurnt 25 = .ok (.iload 4, 2) := by decide +kernel
theorem dX7_isBurnt_27 : decode cX7_isBurnt 27 = .ok (.isub, 1) := by decide +kernel
theorem dX7_isBurnt_28 : decode cX7_isBurnt 28 = .ok (.invokestatic 52, 3) := by decide +kernel
theorem dX7_isBurnt_31 : decode cX7_isBurnt 31 = .ok (.istore 5, 2) := by decide +kernel
theorem dX7_isBurnt_33 : decode cX7_isBurnt 33 = .ok (.iload 5, 2) := by decide +kernel
theorem dX7_isBurnt_35 : decode cX7_isBurnt 35 = .ok (.bipush 24, 2) := by decide +kernel
theorem dX7_isBurnt_37 : decode cX7_isBurnt 37 = .ok (.iload 5, 2) := by decide +kernel
theorem dX7_isBurnt_39 : decode cX7_isBurnt 39 = .ok (.isub, 1) := by decide +kernel
theorem dX7_isBurnt_40 : decode cX7_isBurnt 40 = .ok (.if_icmp .le 11, 3) := by decide +kernel
theorem dX7_isBurnt_43 : decode cX7_isBurnt 43 = .ok (.bipush 24, 2) := by decide +kernel
theorem dX7_isBurnt_45 : decode cX7_isBurnt 45 = .ok (.iload 5, 2) := by decide +kernel
theorem dX7_isBurnt_47 : decode cX7_isBurnt 47 = .ok (.isub, 1) := by decide +kernel
theorem dX7_isBurnt_48 : decode cX7_isBurnt 48 = .ok (.goto 5, 3) := by decide +kernel
theorem dX7_isBurnt_51 : decode cX7_isBurnt 51 = .ok (.iload 5, 2) := by decide +kernel
theorem dX7_isBurnt_53 : decode cX7_isBurnt 53 = .ok (.istore 6, 2) := by decide +kernel
theorem dX7_isBurnt_55 : decode cX7_isBurnt 55 = .ok (.iload 6, 2) := by decide +kernel
theorem dX7_isBurnt_57 : decode cX7_isBurnt 57 = .ok (.aload_n 0, 1) := by decide +kernel
theorem dX7_isBurnt_58 : decode cX7_isBurnt 58 = .ok (.getfield 7, 3) := by decide +kernel
theorem dX7_isBurnt_61 : decode cX7_isBurnt 61 = .ok (.sipush 488, 3) := by decide +kernel
theorem dX7_isBurnt_64 : decode cX7_isBurnt 64 = .ok (.iaload, 1) := by decide +kernel
theorem dX7_isBurnt_65 : decode cX7_isBurnt 65 = .ok (.if_icmp .gt 31, 3) := by decide +kernel
theorem dX7_isBurnt_68 : decode cX7_isBurnt 68 = .ok (.iload_n 2, 1) := by decide +kernel
theorem dX7_isBurnt_69 : decode cX7_isBurnt 69 = .ok (.aload_n 0, 1) := by decide +kernel
theorem dX7_isBurnt_70 : decode cX7_isBurnt 70 = .ok (.getfield 7, 3) := by decide +kernel
theorem dX7_isBurnt_73 : decode cX7_isBurnt 73 = .ok (.sipush 487, 3) := by decide +kernel
theorem dX7_isBurnt_76 : decode cX7_isBurnt 76 = .ok (.iaload, 1) := by decide +kernel
theorem dX7_isBurnt_77 : decode cX7_isBurnt 77 = .ok (.isub, 1) := by decide +kernel
theorem dX7_isBurnt_78 : decode cX7_isBurnt 78 = .ok (.invokestatic 52, 3) := by decide +kernel
theorem dX7_isBurnt_81 : decode cX7_isBurnt 81 = .ok (.aload_n 0, 1) := by decide +kernel
theorem dX7_isBurnt_82 : decode cX7_isBurnt 82 = .ok (.getfield 7, 3) := by decide +kernel
theorem dX7_isBurnt_85 : decode cX7_isBurnt 85 = .ok (.sipush 488, 3) := by decide +kernel
theorem dX7_isBurnt_88 : decode cX7_isBurnt 88 = .ok (.iaload, 1) := by decide +kernel
theorem dX7_isBurnt_89 : decode cX7_isBurnt 89 = .ok (.if_icmp .gt 7, 3) := by decide +kernel
theorem dX7_isBurnt_92 : decode cX7_isBurnt 92 = .ok (.iconst 1, 1) := by decide +kernel
theorem dX7_isBurnt_93 : decode cX7_isBurnt 93 = .ok (.goto 4, 3) := by decide +kernel
theorem dX7_isBurnt_96 : decode cX7_isBurnt 96 = .ok (.iconst 0, 1) := by decide +kernel
theorem dX7_isBurnt_97 : decode cX7_isBurnt 97 = .ok (.ireturn, 1) := by decide +kernel
set_option maxRecDepth 20000 in
theorem B_X7_isBurnt_0 {G : Gx} {X : Cx} {h : PH} {k n : Nat} {Q : State → Prop} {S : List PV} {a0 : Nat} {a1 : Int} {a2 : Int} {a3 : Int} {r2 : Nat} {x8 : Int} {r11 : Nat} {x17 : Int} {PQ : Option PV → PH → Prop} (C : CX_X7_isBurnt G X) (hk0 : k ≤ 0 := by decide) (hn0 : n ≤ 0 := by decide) (t1 : ph_T h a0 = 7 := by first | assumption | rfl) (e3 : ph_R h a0 0 = r2 := by first | assumption | rfl) (t4 : ph_T h r2 = 8 := by first | assumption | rfl) (q5 : (0 : Int) ≤ 485 := by first | assumption | omega) (q6 : 485 < (ph_L h r2 : Int) := by first | assumption | omega) (q7 : pR 485 := by first | assumption | (unfold pR; omega)) (e9 : ph_I h r2 485 = x8 := by first | assumption | rfl) (t10 : ph_T h a0 = 7 := by first | assumption | rfl) (e12 : ph_R h a0 0 = r11 := by first | assumption | rfl) (t13 : ph_T h r11 = 8 := by first | assumption | rfl) (q14 : (0 : Int) ≤ 486 := by first | assumption | omega) (q15 : 486 < (ph_L h r11 : Int) := by first | assumption | omega) (q16 : pR 486 := by first | assumption | (unfold pR; omega)) (e18 : ph_I h r11 486 = x17 := by first | assumption | rfl) (q19 : pR a3 := by first | assumption | (unfold pR; omega)) (q20 : pR x17 := by first | assumption | (unfold pR; omega)) (q21 : (0 : Int) ≤ a3 := by first | assumption | omega) (q22 : (0 : Int) < x17 := by first | assumption | omega) (q23 : pR (x8 + (a3 / x17)) := by first | assumption | (unfold pR; omega)) (q24 : pR 24 := by first | assumption | (unfold pR; omega)) (q25 : (0 : Int) ≤ x8 + (a3 / x17) := by first | assumption | omega) (q26 : (0 : Int) < 24 := by first | assumption | omega) (hM : CT_X7_size G X.2.1 [.inl (a1 - ((x8 + (a3 / x17)) % 24))] h PQ) (hS : S.length ≤ 8 := by decide) (kk : ∀ r h', PQ r h' → PW G X 7 Q k n 31 [some (.inr a0), some (.inl a1), some (.inl a2), some (.inl a3), some (.inl ((x8 + (a3 / x17)) % 24)), none, none] (r.toList ++ S) h') : PW G X 7 Q k n 0 [some (.inr a0), some (.inl a1), some (.inl a2), some (.inl a3), none, none, none] (S) h := by
  refine pw_aload_n C dX7_isBurnt_0 rfl ?_
  refine pw_getR C (t := 7) (f := 0) rfl inF7 rfl (by decide) (by decide) rfl kw678 dX7_isBurnt_1 t1 ?_
  rw [e3]
  refine pw_sipush C dX7_isBurnt_4 rfl ?_
  refine pw_iald C dX7_isBurnt_7 t4 q5 q6 q7 ?_
  rw [show ph_I h r2 (Int.toNat 485) = x8 from e9]
  refine pw_iload_n C dX7_isBurnt_8 rfl ?_
  refine pw_aload_n C dX7_isBurnt_9 rfl ?_
  refine pw_getR C (t := 7) (f := 0) rfl inF7 rfl (by decide) (by decide) rfl kw678 dX7_isBurnt_10 t10 ?_
  rw [e12]
  refine pw_sipush C dX7_isBurnt_13 rfl ?_
  refine pw_iald C dX7_isBurnt_16 t13 q14 q15 q16 ?_
  rw [show ph_I h r11 (Int.toNat 486) = x17 from e18]
  refine pw_idiv C dX7_isBurnt_17 q19 q20 q21 q22 ?_
  refine pw_iadd C dX7_isBurnt_18 ?_
  refine pw_bipush C dX7_isBurnt_19 rfl ?_
  refine pw_irem C dX7_isBurnt_21 q23 q24 q25 q26 ?_
  refine pw_istore C dX7_isBurnt_22 (by decide) ?_
  refine pw_iload_n C dX7_isBurnt_24 rfl ?_
  refine pw_iload C dX7_isBurnt_25 rfl ?_
  refine pw_isub C dX7_isBurnt_27 ?_
  exact pw_callS C (na := 1) (As := [.inl (a1 - ((x8 + (a3 / x17)) % 24))]) (S := S) hM kw751 kw752 kw45 kw753 (by decide +kernel) rfl dX7_isBurnt_28 (by decide) (by decide) hk0 hn0 (by first | exact hS | (simp only [List.length_cons]; omega)) kk
set_option maxRecDepth 20000 in
theorem B_X7_isBurnt_31 {G : Gx} {X : Cx} {h : PH} {k n : Nat} {Q : State → Prop} {S : List PV} {a0 : Nat} {a1 : Int} {a2 : Int} {a3 : Int} {a4 : Int} {s0 : Int} (C : CX_X7_isBurnt G X) (q1 : pR s0 := by first | assumption | (unfold pR; omega)) (q2 : pR (24 - s0) := by first | assumption | (unfold pR; omega)) (kt : s0 ≤ 24 - s0 → PW G X 7 Q k n 51 [some (.inr a0), some (.inl a1), some (.inl a2), some (.inl a3), some (.inl a4), some (.inl s0), none] (S) h) (kf : ¬ s0 ≤ 24 - s0 → PW G X 7 Q k n 43 [some (.inr a0), some (.inl a1), some (.inl a2), some (.inl a3), some (.inl a4), some (.inl s0), none] (S) h) : PW G X 7 Q k n 31 [some (.inr a0), some (.inl a1), some (.inl a2), some (.inl a3), some (.inl a4), none, none] (.inl s0 :: S) h := by
  refine pw_istore C dX7_isBurnt_31 (by decide) ?_
  refine pw_iload C dX7_isBurnt_33 rfl ?_
  refine pw_bipush C dX7_isBurnt_35 rfl ?_
  refine pw_iload C dX7_isBurnt_37 rfl ?_
  refine pw_isub C dX7_isBurnt_39 ?_
  exact pw_icmp_le C 51 dX7_isBurnt_40 (by decide) q1 q2 kt kf
set_option maxRecDepth 20000 in
theorem B_X7_isBurnt_43 {G : Gx} {X : Cx} {h : PH} {k n : Nat} {Q : State → Prop} {S : List PV} {a0 : Nat} {a1 : Int} {a2 : Int} {a3 : Int} {a4 : Int} {a5 : Int} (C : CX_X7_isBurnt G X) (kk : PW G X 7 Q k n 53 [some (.inr a0), some (.inl a1), some (.inl a2), some (.inl a3), some (.inl a4), some (.inl a5), none] (.inl (24 - a5) :: S) h) : PW G X 7 Q k n 43 [some (.inr a0), some (.inl a1), some (.inl a2), some (.inl a3), some (.inl a4), some (.inl a5), none] (S) h := by
  refine pw_bipush C dX7_isBurnt_43 rfl ?_
  refine pw_iload C dX7_isBurnt_45 rfl ?_
  refine pw_isub C dX7_isBurnt_47 ?_
  refine pw_goto C 53 dX7_isBurnt_48 (by decide) ?_
  exact kk
set_option maxRecDepth 20000 in
theorem B_X7_isBurnt_51 {G : Gx} {X : Cx} {h : PH} {k n : Nat} {Q : State → Prop} {S : List PV} {a0 : Nat} {a1 : Int} {a2 : Int} {a3 : Int} {a4 : Int} {a5 : Int} (C : CX_X7_isBurnt G X) (kk : PW G X 7 Q k n 53 [some (.inr a0), some (.inl a1), some (.inl a2), some (.inl a3), some (.inl a4), some (.inl a5), none] (.inl a5 :: S) h) : PW G X 7 Q k n 51 [some (.inr a0), some (.inl a1), some (.inl a2), some (.inl a3), some (.inl a4), some (.inl a5), none] (S) h := by
  refine pw_iload C dX7_isBurnt_51 rfl ?_
  exact kk
set_option maxRecDepth 20000 in
theorem B_X7_isBurnt_53 {G : Gx} {X : Cx} {h : PH} {k n : Nat} {Q : State → Prop} {S : List PV} {a0 : Nat} {a1 : Int} {a2 : Int} {a3 : Int} {a4 : Int} {a5 : Int} {s0 : Int} {r2 : Nat} {x8 : Int} (C : CX_X7_isBurnt G X) (t1 : ph_T h a0 = 7 := by first | assumption | rfl) (e3 : ph_R h a0 0 = r2 := by first | assumption | rfl) (t4 : ph_T h r2 = 8 := by first | assumption | rfl) (q5 : (0 : Int) ≤ 488 := by first | assumption | omega) (q6 : 488 < (ph_L h r2 : Int) := by first | assumption | omega) (q7 : pR 488 := by first | assumption | (unfold pR; omega)) (e9 : ph_I h r2 488 = x8 := by first | assumption | rfl) (q10 : pR s0 := by first | assumption | (unfold pR; omega)) (q11 : pR x8 := by first | assumption | (unfold pR; omega)) (kt : x8 < s0 → PW G X 7 Q k n 96 [some (.inr a0), some (.inl a1), some (.inl a2), some (.inl a3), some (.inl a4), some (.inl a5), some (.inl s0)] (S) h) (kf : ¬ x8 < s0 → PW G X 7 Q k n 68 [some (.inr a0), some (.inl a1), some (.inl a2), some (.inl a3), some (.inl a4), some (.inl a5), some (.inl s0)] (S) h) : PW G X 7 Q k n 53 [some (.inr a0), some (.inl a1), some (.inl a2), some (.inl a3), some (.inl a4), some (.inl a5), none] (.inl s0 :: S) h := by
  refine pw_istore C dX7_isBurnt_53 (by decide) ?_
  refine pw_iload C dX7_isBurnt_55 rfl ?_
  refine pw_aload_n C dX7_isBurnt_57 rfl ?_
  refine pw_getR C (t := 7) (f := 0) rfl inF7 rfl (by decide) (by decide) rfl kw678 dX7_isBurnt_58 t1 ?_
  rw [e3]
  refine pw_sipush C dX7_isBurnt_61 rfl ?_
  refine pw_iald C dX7_isBurnt_64 t4 q5 q6 q7 ?_
  rw [show ph_I h r2 (Int.toNat 488) = x8 from e9]
  exact pw_icmp_gt C 96 dX7_isBurnt_65 (by decide) q10 q11 kt kf
set_option maxRecDepth 20000 in
theorem B_X7_isBurnt_68 {G : Gx} {X : Cx} {h : PH} {k n : Nat} {Q : State → Prop} {S : List PV} {a0 : Nat} {a1 : Int} {a2 : Int} {a3 : Int} {a4 : Int} {a5 : Int} {a6 : Int} {r2 : Nat} {x8 : Int} {PQ : Option PV → PH → Prop} (C : CX_X7_isBurnt G X) (hk0 : k ≤ 0 := by decide) (hn0 : n ≤ 0 := by decide) (t1 : ph_T h a0 = 7 := by first | assumption | rfl) (e3 : ph_R h a0 0 = r2 := by first | assumption | rfl) (t4 : ph_T h r2 = 8 := by first | assumption | rfl) (q5 : (0 : Int) ≤ 487 := by first | assumption | omega) (q6 : 487 < (ph_L h r2 : Int) := by first | assumption | omega) (q7 : pR 487 := by first | assumption | (unfold pR; omega)) (e9 : ph_I h r2 487 = x8 := by first | assumption | rfl) (hM : CT_X7_size G X.2.1 [.inl (a2 - x8)] h PQ) (hS : S.length ≤ 8 := by decide) (kk : ∀ r h', PQ r h' → PW G X 7 Q k n 81 [some (.inr a0), some (.inl a1), some (.inl a2), some (.inl a3), some (.inl a4), some (.inl a5), some (.inl a6)] (r.toList ++ S) h') : PW G X 7 Q k n 68 [some (.inr a0), some (.inl a1), some (.inl a2), some (.inl a3), some (.inl a4), some (.inl a5), some (.inl a6)] (S) h := by
  refine pw_iload_n C dX7_isBurnt_68 rfl ?_
  refine pw_aload_n C dX7_isBurnt_69 rfl ?_
  refine pw_getR C (t := 7) (f := 0) rfl inF7 rfl (by decide) (by decide) rfl kw678 dX7_isBurnt_70 t1 ?_
  rw [e3]
  refine pw_sipush C dX7_isBurnt_73 rfl ?_
  refine pw_iald C dX7_isBurnt_76 t4 q5 q6 q7 ?_
  rw [show ph_I h r2 (Int.toNat 487) = x8 from e9]
  refine pw_isub C dX7_isBurnt_77 ?_
  exact pw_callS C (na := 1) (As := [.inl (a2 - x8)]) (S := S) hM kw751 kw752 kw45 kw753 (by decide +kernel) rfl dX7_isBurnt_78 (by decide) (by decide) hk0 hn0 (by first | exact hS | (simp only [List.length_cons]; omega)) kk
set_option maxRecDepth 20000 in
theorem B_X7_isBurnt_81 {G : Gx} {X : Cx} {h : PH} {k n : Nat} {Q : State → Prop} {S : List PV} {a0 : Nat} {a1 : Int} {a2 : Int} {a3 : Int} {a4 : Int} {a5 : Int} {a6 : Int} {s0 : Int} {r2 : Nat} {x8 : Int} (C : CX_X7_isBurnt G X) (t1 : ph_T h a0 = 7 := by first | assumption | rfl) (e3 : ph_R h a0 0 = r2 := by first | assumption | rfl) (t4 : ph_T h r2 = 8 := by first | assumption | rfl) (q5 : (0 : Int) ≤ 488 := by first | assumption | omega) (q6 : 488 < (ph_L h r2 : Int) := by first | assumption | omega) (q7 : pR 488 := by first | assumption | (unfold pR; omega)) (e9 : ph_I h r2 488 = x8 := by first | assumption | rfl) (q10 : pR s0 := by first | assumption | (unfold pR; omega)) (q11 : pR x8 := by first | assumption | (unfold pR; omega)) (kt : x8 < s0 → PW G X 7 Q k n 96 [some (.inr a0), some (.inl a1), some (.inl a2), some (.inl a3), some (.inl a4), some (.inl a5), some (.inl a6)] (S) h) (kf : ¬ x8 < s0 → PW G X 7 Q k n 92 [some (.inr a0), some (.inl a1), some (.inl a2), some (.inl a3), some (.inl a4), some (.inl a5), some (.inl a6)] (S) h) : PW G X 7 Q k n 81 [some (.inr a0), some (.inl a1), some (.inl a2), some (.inl a3), some (.inl a4), some (.inl a5), some (.inl a6)] (.inl s0 :: S) h := by
  refine pw_aload_n C dX7_isBurnt_81 rfl ?_
  refine pw_getR C (t := 7) (f := 0) rfl inF7 rfl (by decide) (by decide) rfl kw678 dX7_isBurnt_82 t1 ?_
  rw [e3]
  refine pw_sipush C dX7_isBurnt_85 rfl ?_
  refine pw_iald C dX7_isBurnt_88 t4 q5 q6 q7 ?_
  rw [show ph_I h r2 (Int.toNat 488) = x8 from e9]
  exact pw_icmp_gt C 96 dX7_isBurnt_89 (by decide) q10 q11 kt kf
set_option maxRecDepth 20000 in
theorem B_X7_isBurnt_92 {G : Gx} {X : Cx} {h : PH} {k n : Nat} {Q : State → Prop} {S : List PV} {a0 : Nat} {a1 : Int} {a2 : Int} {a3 : Int} {a4 : Int} {a5 : Int} {a6 : Int} (C : CX_X7_isBurnt G X) (kk : PW G X 7 Q k n 97 [some (.inr a0), some (.inl a1), some (.inl a2), some (.inl a3), some (.inl a4), some (.inl a5), some (.inl a6)] (.inl 1 :: S) h) : PW G X 7 Q k n 92 [some (.inr a0), some (.inl a1), some (.inl a2), some (.inl a3), some (.inl a4), some (.inl a5), some (.inl a6)] (S) h := by
  refine pw_iconst C dX7_isBurnt_92 ?_
  refine pw_goto C 97 dX7_isBurnt_93 (by decide) ?_
  exact kk
set_option maxRecDepth 20000 in
theorem B_X7_isBurnt_96 {G : Gx} {X : Cx} {h : PH} {k n : Nat} {Q : State → Prop} {S : List PV} {a0 : Nat} {a1 : Int} {a2 : Int} {a3 : Int} {a4 : Int} {a5 : Int} {a6 : Int} (C : CX_X7_isBurnt G X) (kk : PW G X 7 Q k n 97 [some (.inr a0), some (.inl a1), some (.inl a2), some (.inl a3), some (.inl a4), some (.inl a5), some (.inl a6)] (.inl 0 :: S) h) : PW G X 7 Q k n 96 [some (.inr a0), some (.inl a1), some (.inl a2), some (.inl a3), some (.inl a4), some (.inl a5), some (.inl a6)] (S) h := by
  refine pw_iconst C dX7_isBurnt_96 ?_
  exact kk
set_option maxRecDepth 20000 in
theorem B_X7_isBurnt_97 {G : Gx} {X : Cx} {h : PH} {k n : Nat} {a0 : Nat} {a1 : Int} {a2 : Int} {a3 : Int} {a4 : Int} {a5 : Int} {a6 : Int} {s0 : Int} {PQ : Option PV → PH → Prop} (C : CX_X7_isBurnt G X) (q1 : (s0 : Int) = 0 ∨ (s0 : Int) = 1 := by omega) (hq : PQ (some (.inl s0)) h) : PW G X 7 (pw_E G X PQ k n) k n 97 [some (.inr a0), some (.inl a1), some (.inl a2), some (.inl a3), some (.inl a4), some (.inl a5), some (.inl a6)] [.inl s0] h := by
  exact pw_zreturn C dX7_isBurnt_97 q1 hq
theorem dX7_burnt_0 : decode cX7_burnt 0 = .ok (.iload_n 1, 1) := by decide +kernel
theorem dX7_burnt_1 : decode cX7_burnt 1 = .ok (.iload_n 2, 1) := by decide +kernel
theorem dX7_burnt_2 : decode cX7_burnt 2 = .ok (.invokestatic 41, 3) := by decide +kernel
theorem dX7_burnt_5 : decode cX7_burnt 5 = .ok (.ifCond .eq 10, 3) := by decide +kernel
theorem dX7_burnt_8 : decode cX7_burnt 8 = .ok (.iload_n 3, 1) := by decide +kernel
theorem dX7_burnt_9 : decode cX7_burnt 9 = .ok (.invokestatic 49, 3) := by decide +kernel
theorem dX7_burnt_12 : decode cX7_burnt 12 = .ok (.ifCond .ne 6, 3) := by decide +kernel
theorem dX7_burnt_15 : decode cX7_burnt 15 = .ok (.bipush (-2), 2) := by decide +kernel
theorem dX7_burnt_17 : decode cX7_burnt 17 = .ok (.ireturn, 1) := by decide +kernel
theorem dX7_burnt_18 : decode cX7_burnt 18 = .ok (.aload_n 0, 1) := by decide +kernel
theorem dX7_burnt_19 : decode cX7_burnt 19 = .ok (.iload_n 1, 1) := by decide +kernel
theorem dX7_burnt_20 : decode cX7_burnt 20 = .ok (.iload_n 2, 1) := by decide +kernel
theorem dX7_burnt_21 : decode cX7_burnt 21 = .ok (.iload_n 3, 1) := by decide +kernel
theorem dX7_burnt_22 : decode cX7_burnt 22 = .ok (.invokevirtual 55, 3) := by decide +kernel
theorem dX7_burnt_25 : decode cX7_burnt 25 = .ok (.ifCond .eq 7, 3) := by decide +kernel
theorem dX7_burnt_28 : decode cX7_burnt 28 = .ok (.iconst 1, 1) := by decide +kernel
theorem dX7_burnt_29 : decode cX7_burnt 29 = .ok (.goto 4, 3) := by decide +kernel
theorem dX7_burnt_32 : decode cX7_burnt 32 = .ok (.iconst 0, 1) := by decide +kernel
theorem dX7_burnt_33 : decode cX7_burnt 33 = .ok (.ireturn, 1) := by decide +kernel
set_option maxRecDepth 20000 in
theorem B_X7_burnt_0 {G : Gx} {X : Cx} {h : PH} {k n : Nat} {Q : State → Prop} {S : List PV} {a0 : Nat} {a1 : Int} {a2 : Int} {a3 : Int} {PQ : Option PV → PH → Prop} (C : CX_X7_burnt G X) (hk0 : k ≤ 0 := by decide) (hn0 : n ≤ 0 := by decide) (hM : CT_X7_isDirection G X.2.1 [.inl a1, .inl a2] h PQ) (hS : S.length ≤ 8 := by decide) (kk : ∀ r h', PQ r h' → PW G X 4 Q k n 5 [some (.inr a0), some (.inl a1), some (.inl a2), some (.inl a3)] (r.toList ++ S) h') : PW G X 4 Q k n 0 [some (.inr a0), some (.inl a1), some (.inl a2), some (.inl a3)] (S) h := by
  refine pw_iload_n C dX7_burnt_0 rfl ?_
  refine pw_iload_n C dX7_burnt_1 rfl ?_
  exact pw_callS C (na := 2) (As := [.inl a1, .inl a2]) (S := S) hM kw730 kw731 kw45 kw732 (by decide +kernel) rfl dX7_burnt_2 (by decide) (by decide) hk0 hn0 (by first | exact hS | (simp only [List.length_cons]; omega)) kk
set_option maxRecDepth 20000 in
theorem B_X7_burnt_5 {G : Gx} {X : Cx} {h : PH} {k n : Nat} {Q : State → Prop} {S : List PV} {a0 : Nat} {a1 : Int} {a2 : Int} {a3 : Int} {s0 : Int} (C : CX_X7_burnt G X) (q1 : pR s0 := by first | assumption | (unfold pR; omega)) (kt : s0 = 0 → PW G X 4 Q k n 15 [some (.inr a0), some (.inl a1), some (.inl a2), some (.inl a3)] (S) h) (kf : ¬ s0 = 0 → PW G X 4 Q k n 8 [some (.inr a0), some (.inl a1), some (.inl a2), some (.inl a3)] (S) h) : PW G X 4 Q k n 5 [some (.inr a0), some (.inl a1), some (.inl a2), some (.inl a3)] (.inl s0 :: S) h := by
  exact pw_if_eq C 15 dX7_burnt_5 (by decide) q1 kt kf
set_option maxRecDepth 20000 in
theorem B_X7_burnt_8 {G : Gx} {X : Cx} {h : PH} {k n : Nat} {Q : State → Prop} {S : List PV} {a0 : Nat} {a1 : Int} {a2 : Int} {a3 : Int} {PQ : Option PV → PH → Prop} (C : CX_X7_burnt G X) (hk0 : k ≤ 0 := by decide) (hn0 : n ≤ 0 := by decide) (hM : CT_X7_isTick G X.2.1 [.inl a3] h PQ) (hS : S.length ≤ 8 := by decide) (kk : ∀ r h', PQ r h' → PW G X 4 Q k n 12 [some (.inr a0), some (.inl a1), some (.inl a2), some (.inl a3)] (r.toList ++ S) h') : PW G X 4 Q k n 8 [some (.inr a0), some (.inl a1), some (.inl a2), some (.inl a3)] (S) h := by
  refine pw_iload_n C dX7_burnt_8 rfl ?_
  exact pw_callS C (na := 1) (As := [.inl a3]) (S := S) hM kw744 kw745 kw45 kw746 (by decide +kernel) rfl dX7_burnt_9 (by decide) (by decide) hk0 hn0 (by first | exact hS | (simp only [List.length_cons]; omega)) kk
set_option maxRecDepth 20000 in
theorem B_X7_burnt_12 {G : Gx} {X : Cx} {h : PH} {k n : Nat} {Q : State → Prop} {S : List PV} {a0 : Nat} {a1 : Int} {a2 : Int} {a3 : Int} {s0 : Int} (C : CX_X7_burnt G X) (q1 : pR s0 := by first | assumption | (unfold pR; omega)) (kt : ¬ s0 = 0 → PW G X 4 Q k n 18 [some (.inr a0), some (.inl a1), some (.inl a2), some (.inl a3)] (S) h) (kf : s0 = 0 → PW G X 4 Q k n 15 [some (.inr a0), some (.inl a1), some (.inl a2), some (.inl a3)] (S) h) : PW G X 4 Q k n 12 [some (.inr a0), some (.inl a1), some (.inl a2), some (.inl a3)] (.inl s0 :: S) h := by
  exact pw_if_ne C 18 dX7_burnt_12 (by decide) q1 kt kf
set_option maxRecDepth 20000 in
theorem B_X7_burnt_15 {G : Gx} {X : Cx} {h : PH} {k n : Nat} {a0 : Nat} {a1 : Int} {a2 : Int} {a3 : Int} {PQ : Option PV → PH → Prop} (C : CX_X7_burnt G X) (hq : PQ (some (.inl (-2))) h) : PW G X 4 (pw_E G X PQ k n) k n 15 [some (.inr a0), some (.inl a1), some (.inl a2), some (.inl a3)] [] h := by
  refine pw_bipush C dX7_burnt_15 rfl ?_
  exact pw_ireturn C dX7_burnt_17 hq
set_option maxRecDepth 20000 in
theorem B_X7_burnt_18 {G : Gx} {X : Cx} {h : PH} {k n : Nat} {Q : State → Prop} {S : List PV} {a0 : Nat} {a1 : Int} {a2 : Int} {a3 : Int} {PQ : Option PV → PH → Prop} (C : CX_X7_burnt G X) (hk0 : k ≤ 0 := by decide) (hn0 : n ≤ 0 := by decide) (t1 : ph_T h a0 = 7 := by first | assumption | rfl) (hM : CT_X7_isBurnt G X.2.1 [.inr a0, .inl a1, .inl a2, .inl a3] h PQ) (hS : S.length ≤ 8 := by decide) (kk : ∀ r h', PQ r h' → PW G X 4 Q k n 25 [some (.inr a0), some (.inl a1), some (.inl a2), some (.inl a3)] (r.toList ++ S) h') : PW G X 4 Q k n 18 [some (.inr a0), some (.inl a1), some (.inl a2), some (.inl a3)] (S) h := by
  refine pw_aload_n C dX7_burnt_18 rfl ?_
  refine pw_iload_n C dX7_burnt_19 rfl ?_
  refine pw_iload_n C dX7_burnt_20 rfl ?_
  refine pw_iload_n C dX7_burnt_21 rfl ?_
  exact pw_callV C (na := 3) (As := [.inl a1, .inl a2, .inl a3]) (S := S) hM t1 (by decide) (hcl := by rfl) kw770 kw772 kw18 kw45 kw773 (by decide +kernel) rfl dX7_burnt_22 (by decide) (by decide) hk0 hn0 (by first | exact hS | (simp only [List.length_cons]; omega)) kk
set_option maxRecDepth 20000 in
theorem B_X7_burnt_25 {G : Gx} {X : Cx} {h : PH} {k n : Nat} {Q : State → Prop} {S : List PV} {a0 : Nat} {a1 : Int} {a2 : Int} {a3 : Int} {s0 : Int} (C : CX_X7_burnt G X) (q1 : pR s0 := by first | assumption | (unfold pR; omega)) (kt : s0 = 0 → PW G X 4 Q k n 32 [some (.inr a0), some (.inl a1), some (.inl a2), some (.inl a3)] (S) h) (kf : ¬ s0 = 0 → PW G X 4 Q k n 28 [some (.inr a0), some (.inl a1), some (.inl a2), some (.inl a3)] (S) h) : PW G X 4 Q k n 25 [some (.inr a0), some (.inl a1), some (.inl a2), some (.inl a3)] (.inl s0 :: S) h := by
  exact pw_if_eq C 32 dX7_burnt_25 (by decide) q1 kt kf
set_option maxRecDepth 20000 in
theorem B_X7_burnt_28 {G : Gx} {X : Cx} {h : PH} {k n : Nat} {Q : State → Prop} {S : List PV} {a0 : Nat} {a1 : Int} {a2 : Int} {a3 : Int} (C : CX_X7_burnt G X) (kk : PW G X 4 Q k n 33 [some (.inr a0), some (.inl a1), some (.inl a2), some (.inl a3)] (.inl 1 :: S) h) : PW G X 4 Q k n 28 [some (.inr a0), some (.inl a1), some (.inl a2), some (.inl a3)] (S) h := by
  refine pw_iconst C dX7_burnt_28 ?_
  refine pw_goto C 33 dX7_burnt_29 (by decide) ?_
  exact kk
set_option maxRecDepth 20000 in
theorem B_X7_burnt_32 {G : Gx} {X : Cx} {h : PH} {k n : Nat} {Q : State → Prop} {S : List PV} {a0 : Nat} {a1 : Int} {a2 : Int} {a3 : Int} (C : CX_X7_burnt G X) (kk : PW G X 4 Q k n 33 [some (.inr a0), some (.inl a1), some (.inl a2), some (.inl a3)] (.inl 0 :: S) h) : PW G X 4 Q k n 32 [some (.inr a0), some (.inl a1), some (.inl a2), some (.inl a3)] (S) h := by
  refine pw_iconst C dX7_burnt_32 ?_
  exact kk
set_option maxRecDepth 20000 in
theorem B_X7_burnt_33 {G : Gx} {X : Cx} {h : PH} {k n : Nat} {a0 : Nat} {a1 : Int} {a2 : Int} {a3 : Int} {s0 : Int} {PQ : Option PV → PH → Prop} (C : CX_X7_burnt G X) (hq : PQ (some (.inl s0)) h) : PW G X 4 (pw_E G X PQ k n) k n 33 [some (.inr a0), some (.inl a1), some (.inl a2), some (.inl a3)] [.inl s0] h := by
  exact pw_ireturn C dX7_burnt_33 hq
theorem dX7_told_0 : decode cX7_told 0 = .ok (.aload_n 0, 1) := by decide +kernel
theorem dX7_told_1 : decode cX7_told 1 = .ok (.iload_n 1, 1) := by decide +kernel
theorem dX7_told_2 : decode cX7_told 2 = .ok (.invokevirtual 37, 3) := by decide +kernel
theorem dX7_told_5 : decode cX7_told 5 = .ok (.istore_n 3, 1) := by decide +kernel
theorem dX7_told_6 : decode cX7_told 6 = .ok (.iload_n 3, 1) := by decide +kernel
theorem dX7_told_7 : decode cX7_told 7 = .ok (.ifCond .ge 5, 3) := by decide +kernel
theorem dX7_told_10 : decode cX7_told 10 = .ok (.iconst (-1), 1) := by decide +kernel
theorem dX7_told_11 : decode cX7_told 11 = .ok (.ireturn, 1) := by decide +kernel
theorem dX7_told_12 : decode cX7_told 12 = .ok (.iload_n 2, 1) := by decide +kernel
theorem dX7_told_13 : decode cX7_told 13 = .ok (.tableswitch 77 0 4 #[35, 45, 55, 57, 67], 35) := by decide +kernel
theorem dX7_told_48 : decode cX7_told 48 = .ok (.aload_n 0, 1) := by decide +kernel
theorem dX7_told_49 : decode cX7_told 49 = .ok (.getfield 7, 3) := by decide +kernel
theorem dX7_told_52 : decode cX7_told 52 = .ok (.bipush 8, 2) := by decide +kernel
theorem dX7_told_54 : decode cX7_told 54 = .ok (.iload_n 3, 1) := by decide +kernel
theorem dX7_told_55 : decode cX7_told 55 = .ok (.iadd, 1) := by decide +kernel
theorem dX7_told_56 : decode cX7_told 56 = .ok (.iaload, 1) := by decide +kernel
theorem dX7_told_57 : decode cX7_told 57 = .ok (.ireturn, 1) := by decide +kernel
theorem dX7_told_58 : decode cX7_told 58 = .ok (.aload_n 0, 1) := by decide +kernel
theorem dX7_told_59 : decode cX7_told 59 = .ok (.getfield 7, 3) := by decide +kernel
theorem dX7_told_62 : decode cX7_told 62 = .ok (.bipush 16, 2) := by decide +kernel
theorem dX7_told_64 : decode cX7_told 64 = .ok (.iload_n 3, 1) := by decide +kernel
theorem dX7_told_65 : decode cX7_told 65 = .ok (.iadd, 1) := by decide +kernel
theorem dX7_told_66 : decode cX7_told 66 = .ok (.iaload, 1) := by decide +kernel
theorem dX7_told_67 : decode cX7_told 67 = .ok (.ireturn, 1) := by decide +kernel
theorem dX7_told_68 : decode cX7_told 68 = .ok (.iload_n 3, 1) := by decide +kernel
theorem dX7_told_69 : decode cX7_told 69 = .ok (.ireturn, 1) := by decide +kernel
theorem dX7_told_70 : decode cX7_told 70 = .ok (.aload_n 0, 1) := by decide +kernel
theorem dX7_told_71 : decode cX7_told 71 = .ok (.getfield 7, 3) := by decide +kernel
theorem dX7_told_74 : decode cX7_told 74 = .ok (.bipush 24, 2) := by decide +kernel
theorem dX7_told_76 : decode cX7_told 76 = .ok (.iload_n 3, 1) := by decide +kernel
theorem dX7_told_77 : decode cX7_told 77 = .ok (.iadd, 1) := by decide +kernel
theorem dX7_told_78 : decode cX7_told 78 = .ok (.iaload, 1) := by decide +kernel
theorem dX7_told_79 : decode cX7_told 79 = .ok (.ireturn, 1) := by decide +kernel
theorem dX7_told_80 : decode cX7_told 80 = .ok (.aload_n 0, 1) := by decide +kernel
theorem dX7_told_81 : decode cX7_told 81 = .ok (.getfield 7, 3) := by decide +kernel
theorem dX7_told_84 : decode cX7_told 84 = .ok (.bipush 32, 2) := by decide +kernel
theorem dX7_told_86 : decode cX7_told 86 = .ok (.iload_n 3, 1) := by decide +kernel
theorem dX7_told_87 : decode cX7_told 87 = .ok (.iadd, 1) := by decide +kernel
theorem dX7_told_88 : decode cX7_told 88 = .ok (.iaload, 1) := by decide +kernel
theorem dX7_told_89 : decode cX7_told 89 = .ok (.ireturn, 1) := by decide +kernel
theorem dX7_told_90 : decode cX7_told 90 = .ok (.bipush (-2), 2) := by decide +kernel
theorem dX7_told_92 : decode cX7_told 92 = .ok (.ireturn, 1) := by decide +kernel
set_option maxRecDepth 20000 in
theorem B_X7_told_0 {G : Gx} {X : Cx} {h : PH} {k n : Nat} {Q : State → Prop} {S : List PV} {a0 : Nat} {a1 : Int} {a2 : Int} {PQ : Option PV → PH → Prop} (C : CX_X7_told G X) (hk0 : k ≤ 0 := by decide) (hn0 : n ≤ 0 := by decide) (t1 : ph_T h a0 = 7 := by first | assumption | rfl) (hM : CT_X7_passOf G X.2.1 [.inr a0, .inl a1] h PQ) (hS : S.length ≤ 8 := by decide) (kk : ∀ r h', PQ r h' → PW G X 4 Q k n 5 [some (.inr a0), some (.inl a1), some (.inl a2), none] (r.toList ++ S) h') : PW G X 4 Q k n 0 [some (.inr a0), some (.inl a1), some (.inl a2), none] (S) h := by
  refine pw_aload_n C dX7_told_0 rfl ?_
  refine pw_iload_n C dX7_told_1 rfl ?_
  exact pw_callV C (na := 1) (As := [.inl a1]) (S := S) hM t1 (by decide) (hcl := by rfl) kw722 kw724 kw17 kw45 kw725 (by decide +kernel) rfl dX7_told_2 (by decide) (by decide) hk0 hn0 (by first | exact hS | (simp only [List.length_cons]; omega)) kk
set_option maxRecDepth 20000 in
theorem B_X7_told_5 {G : Gx} {X : Cx} {h : PH} {k n : Nat} {Q : State → Prop} {S : List PV} {a0 : Nat} {a1 : Int} {a2 : Int} {s0 : Int} (C : CX_X7_told G X) (q1 : pR s0 := by first | assumption | (unfold pR; omega)) (kt : 0 ≤ s0 → PW G X 4 Q k n 12 [some (.inr a0), some (.inl a1), some (.inl a2), some (.inl s0)] (S) h) (kf : ¬ 0 ≤ s0 → PW G X 4 Q k n 10 [some (.inr a0), some (.inl a1), some (.inl a2), some (.inl s0)] (S) h) : PW G X 4 Q k n 5 [some (.inr a0), some (.inl a1), some (.inl a2), none] (.inl s0 :: S) h := by
  refine pw_istore_n C dX7_told_5 (by decide) ?_
  refine pw_iload_n C dX7_told_6 rfl ?_
  exact pw_if_ge C 12 dX7_told_7 (by decide) q1 kt kf
set_option maxRecDepth 20000 in
theorem B_X7_told_10 {G : Gx} {X : Cx} {h : PH} {k n : Nat} {a0 : Nat} {a1 : Int} {a2 : Int} {a3 : Int} {PQ : Option PV → PH → Prop} (C : CX_X7_told G X) (hq : PQ (some (.inl (-1))) h) : PW G X 4 (pw_E G X PQ k n) k n 10 [some (.inr a0), some (.inl a1), some (.inl a2), some (.inl a3)] [] h := by
  refine pw_iconst C dX7_told_10 ?_
  exact pw_ireturn C dX7_told_11 hq
set_option maxRecDepth 20000 in
theorem B_X7_told_12 {G : Gx} {X : Cx} {h : PH} {k n : Nat} {Q : State → Prop} {S : List PV} {a0 : Nat} {a1 : Int} {a2 : Int} {a3 : Int} (C : CX_X7_told G X) (kk : PW G X 4 Q k n 13 [some (.inr a0), some (.inl a1), some (.inl a2), some (.inl a3)] (.inl a2 :: S) h) : PW G X 4 Q k n 12 [some (.inr a0), some (.inl a1), some (.inl a2), some (.inl a3)] (S) h := by
  refine pw_iload_n C dX7_told_12 rfl ?_
  exact kk
set_option maxRecDepth 20000 in
theorem B_X7_told_13 {G : Gx} {X : Cx} {h : PH} {k n : Nat} {Q : State → Prop} {S : List PV} {a0 : Nat} {a1 : Int} {a2 : Int} {a3 : Int} {s0 : Int} (C : CX_X7_told G X) (q1 : pR s0 := by first | assumption | (unfold pR; omega)) (k0 : s0 = 0 → PW G X 4 Q k n 48 [some (.inr a0), some (.inl a1), some (.inl a2), some (.inl a3)] (S) h) (k1 : s0 = 1 → PW G X 4 Q k n 58 [some (.inr a0), some (.inl a1), some (.inl a2), some (.inl a3)] (S) h) (k2 : s0 = 2 → PW G X 4 Q k n 68 [some (.inr a0), some (.inl a1), some (.inl a2), some (.inl a3)] (S) h) (k3 : s0 = 3 → PW G X 4 Q k n 70 [some (.inr a0), some (.inl a1), some (.inl a2), some (.inl a3)] (S) h) (k4 : s0 = 4 → PW G X 4 Q k n 80 [some (.inr a0), some (.inl a1), some (.inl a2), some (.inl a3)] (S) h) (kd : s0 < 0 ∨ 4 < s0 → PW G X 4 Q k n 90 [some (.inr a0), some (.inl a1), some (.inl a2), some (.inl a3)] (S) h) : PW G X 4 Q k n 13 [some (.inr a0), some (.inl a1), some (.inl a2), some (.inl a3)] (.inl s0 :: S) h := by
  by_cases zz : s0 < 0 ∨ 4 < s0
  · exact pw_tableOut C 90 dX7_told_13 q1 zz (by decide) (kd zz)
  · have zz2 : s0 = 0 ∨ s0 = 1 ∨ s0 = 2 ∨ s0 = 3 ∨ s0 = 4 := by omega
    rcases zz2 with z0 | z1 | z2 | z3 | z4
    · have kj := k0 z0
      subst z0
      exact pw_tableIn C 48 dX7_told_13 q1 (by decide) (by decide) rfl (by decide) kj
    · have kj := k1 z1
      subst z1
      exact pw_tableIn C 58 dX7_told_13 q1 (by decide) (by decide) rfl (by decide) kj
    · have kj := k2 z2
      subst z2
      exact pw_tableIn C 68 dX7_told_13 q1 (by decide) (by decide) rfl (by decide) kj
    · have kj := k3 z3
      subst z3
      exact pw_tableIn C 70 dX7_told_13 q1 (by decide) (by decide) rfl (by decide) kj
    · have kj := k4 z4
      subst z4
      exact pw_tableIn C 80 dX7_told_13 q1 (by decide) (by decide) rfl (by decide) kj
set_option maxRecDepth 20000 in
theorem B_X7_told_48 {G : Gx} {X : Cx} {h : PH} {k n : Nat} {a0 : Nat} {a1 : Int} {a2 : Int} {a3 : Int} {r2 : Nat} {x8 : Int} {PQ : Option PV → PH → Prop} (C : CX_X7_told G X) (t1 : ph_T h a0 = 7 := by first | assumption | rfl) (e3 : ph_R h a0 0 = r2 := by first | assumption | rfl) (t4 : ph_T h r2 = 8 := by first | assumption | rfl) (q5 : (0 : Int) ≤ 8 + a3 := by first | assumption | omega) (q6 : 8 + a3 < (ph_L h r2 : Int) := by first | assumption | omega) (q7 : pR (8 + a3) := by first | assumption | (unfold pR; omega)) (e9 : ph_I h r2 (Int.toNat (8 + a3)) = x8 := by first | assumption | rfl) (hq : PQ (some (.inl x8)) h) : PW G X 4 (pw_E G X PQ k n) k n 48 [some (.inr a0), some (.inl a1), some (.inl a2), some (.inl a3)] [] h := by
  refine pw_aload_n C dX7_told_48 rfl ?_
  refine pw_getR C (t := 7) (f := 0) rfl inF7 rfl (by decide) (by decide) rfl kw678 dX7_told_49 t1 ?_
  rw [e3]
  refine pw_bipush C dX7_told_52 rfl ?_
  refine pw_iload_n C dX7_told_54 rfl ?_
  refine pw_iadd C dX7_told_55 ?_
  refine pw_iald C dX7_told_56 t4 q5 q6 q7 ?_
  rw [e9]
  exact pw_ireturn C dX7_told_57 hq
set_option maxRecDepth 20000 in
theorem B_X7_told_58 {G : Gx} {X : Cx} {h : PH} {k n : Nat} {a0 : Nat} {a1 : Int} {a2 : Int} {a3 : Int} {r2 : Nat} {x8 : Int} {PQ : Option PV → PH → Prop} (C : CX_X7_told G X) (t1 : ph_T h a0 = 7 := by first | assumption | rfl) (e3 : ph_R h a0 0 = r2 := by first | assumption | rfl) (t4 : ph_T h r2 = 8 := by first | assumption | rfl) (q5 : (0 : Int) ≤ 16 + a3 := by first | assumption | omega) (q6 : 16 + a3 < (ph_L h r2 : Int) := by first | assumption | omega) (q7 : pR (16 + a3) := by first | assumption | (unfold pR; omega)) (e9 : ph_I h r2 (Int.toNat (16 + a3)) = x8 := by first | assumption | rfl) (hq : PQ (some (.inl x8)) h) : PW G X 4 (pw_E G X PQ k n) k n 58 [some (.inr a0), some (.inl a1), some (.inl a2), some (.inl a3)] [] h := by
  refine pw_aload_n C dX7_told_58 rfl ?_
  refine pw_getR C (t := 7) (f := 0) rfl inF7 rfl (by decide) (by decide) rfl kw678 dX7_told_59 t1 ?_
  rw [e3]
  refine pw_bipush C dX7_told_62 rfl ?_
  refine pw_iload_n C dX7_told_64 rfl ?_
  refine pw_iadd C dX7_told_65 ?_
  refine pw_iald C dX7_told_66 t4 q5 q6 q7 ?_
  rw [e9]
  exact pw_ireturn C dX7_told_67 hq
set_option maxRecDepth 20000 in
theorem B_X7_told_68 {G : Gx} {X : Cx} {h : PH} {k n : Nat} {a0 : Nat} {a1 : Int} {a2 : Int} {a3 : Int} {PQ : Option PV → PH → Prop} (C : CX_X7_told G X) (hq : PQ (some (.inl a3)) h) : PW G X 4 (pw_E G X PQ k n) k n 68 [some (.inr a0), some (.inl a1), some (.inl a2), some (.inl a3)] [] h := by
  refine pw_iload_n C dX7_told_68 rfl ?_
  exact pw_ireturn C dX7_told_69 hq
set_option maxRecDepth 20000 in
theorem B_X7_told_70 {G : Gx} {X : Cx} {h : PH} {k n : Nat} {a0 : Nat} {a1 : Int} {a2 : Int} {a3 : Int} {r2 : Nat} {x8 : Int} {PQ : Option PV → PH → Prop} (C : CX_X7_told G X) (t1 : ph_T h a0 = 7 := by first | assumption | rfl) (e3 : ph_R h a0 0 = r2 := by first | assumption | rfl) (t4 : ph_T h r2 = 8 := by first | assumption | rfl) (q5 : (0 : Int) ≤ 24 + a3 := by first | assumption | omega) (q6 : 24 + a3 < (ph_L h r2 : Int) := by first | assumption | omega) (q7 : pR (24 + a3) := by first | assumption | (unfold pR; omega)) (e9 : ph_I h r2 (Int.toNat (24 + a3)) = x8 := by first | assumption | rfl) (hq : PQ (some (.inl x8)) h) : PW G X 4 (pw_E G X PQ k n) k n 70 [some (.inr a0), some (.inl a1), some (.inl a2), some (.inl a3)] [] h := by
  refine pw_aload_n C dX7_told_70 rfl ?_
  refine pw_getR C (t := 7) (f := 0) rfl inF7 rfl (by decide) (by decide) rfl kw678 dX7_told_71 t1 ?_
  rw [e3]
  refine pw_bipush C dX7_told_74 rfl ?_
  refine pw_iload_n C dX7_told_76 rfl ?_
  refine pw_iadd C dX7_told_77 ?_
  refine pw_iald C dX7_told_78 t4 q5 q6 q7 ?_
  rw [e9]
  exact pw_ireturn C dX7_told_79 hq
set_option maxRecDepth 20000 in
theorem B_X7_told_80 {G : Gx} {X : Cx} {h : PH} {k n : Nat} {a0 : Nat} {a1 : Int} {a2 : Int} {a3 : Int} {r2 : Nat} {x8 : Int} {PQ : Option PV → PH → Prop} (C : CX_X7_told G X) (t1 : ph_T h a0 = 7 := by first | assumption | rfl) (e3 : ph_R h a0 0 = r2 := by first | assumption | rfl) (t4 : ph_T h r2 = 8 := by first | assumption | rfl) (q5 : (0 : Int) ≤ 32 + a3 := by first | assumption | omega) (q6 : 32 + a3 < (ph_L h r2 : Int) := by first | assumption | omega) (q7 : pR (32 + a3) := by first | assumption | (unfold pR; omega)) (e9 : ph_I h r2 (Int.toNat (32 + a3)) = x8 := by first | assumption | rfl) (hq : PQ (some (.inl x8)) h) : PW G X 4 (pw_E G X PQ k n) k n 80 [some (.inr a0), some (.inl a1), some (.inl a2), some (.inl a3)] [] h := by
  refine pw_aload_n C dX7_told_80 rfl ?_
  refine pw_getR C (t := 7) (f := 0) rfl inF7 rfl (by decide) (by decide) rfl kw678 dX7_told_81 t1 ?_
  rw [e3]
  refine pw_bipush C dX7_told_84 rfl ?_
  refine pw_iload_n C dX7_told_86 rfl ?_
  refine pw_iadd C dX7_told_87 ?_
  refine pw_iald C dX7_told_88 t4 q5 q6 q7 ?_
  rw [e9]
  exact pw_ireturn C dX7_told_89 hq
set_option maxRecDepth 20000 in
theorem B_X7_told_90 {G : Gx} {X : Cx} {h : PH} {k n : Nat} {a0 : Nat} {a1 : Int} {a2 : Int} {a3 : Int} {PQ : Option PV → PH → Prop} (C : CX_X7_told G X) (hq : PQ (some (.inl (-2))) h) : PW G X 4 (pw_E G X PQ k n) k n 90 [some (.inr a0), some (.inl a1), some (.inl a2), some (.inl a3)] [] h := by
  refine pw_bipush C dX7_told_90 rfl ?_
  exact pw_ireturn C dX7_told_92 hq
theorem dX7_order_0 : decode cX7_order 0 = .ok (.iload_n 1, 1) := by decide +kernel
theorem dX7_order_1 : decode cX7_order 1 = .ok (.iconst (-1), 1) := by decide +kernel
theorem dX7_order_2 : decode cX7_order 2 = .ok (.if_icmp .ne 14, 3) := by decide +kernel
theorem dX7_order_5 : decode cX7_order 5 = .ok (.aload_n 0, 1) := by decide +kernel
theorem dX7_order_6 : decode cX7_order 6 = .ok (.getfield 7, 3) := by decide +kernel
theorem dX7_order_9 : decode cX7_order 9 = .ok (.sipush 484, 3) := by decide +kernel
theorem dX7_order_12 : decode cX7_order 12 = .ok (.iaload, 1) := by decide +kernel
theorem dX7_order_13 : decode cX7_order 13 = .ok (.goto 34, 3) := by decide +kernel
theorem dX7_order_16 : decode cX7_order 16 = .ok (.iload_n 1, 1) := by decide +kernel
theorem dX7_order_17 : decode cX7_order 17 = .ok (.iconst 0, 1) := by decide +kernel
theorem dX7_order_18 : decode cX7_order 18 = .ok (.aload_n 0, 1) := by decide +kernel
theorem dX7_order_19 : decode cX7_order 19 = .ok (.getfield 7, 3) := by decide +kernel
theorem dX7_order_22 : decode cX7_order 22 = .ok (.sipush 484, 3) := by decide +kernel
theorem dX7_order_25 : decode cX7_order 25 = .ok (.iaload, 1) := by decide +kernel
theorem dX7_order_26 : decode cX7_order 26 = .ok (.iconst 1, 1) := by decide +kernel
theorem dX7_order_27 : decode cX7_order 27 = .ok (.isub, 1) := by decide +kernel
theorem dX7_order_28 : decode cX7_order 28 = .ok (.invokestatic 33, 3) := by decide +kernel
theorem dX7_order_31 : decode cX7_order 31 = .ok (.ifCond .eq 14, 3) := by decide +kernel
theorem dX7_order_34 : decode cX7_order 34 = .ok (.aload_n 0, 1) := by decide +kernel
theorem dX7_order_35 : decode cX7_order 35 = .ok (.getfield 7, 3) := by decide +kernel
theorem dX7_order_38 : decode cX7_order 38 = .ok (.iconst 0, 1) := by decide +kernel
theorem dX7_order_39 : decode cX7_order 39 = .ok (.iload_n 1, 1) := by decide +kernel
theorem dX7_order_40 : decode cX7_order 40 = .ok (.iadd, 1) := by decide +kernel
theorem dX7_order_41 : decode cX7_order 41 = .ok (.iaload, 1) := by decide +kernel
theorem dX7_order_42 : decode cX7_order 42 = .ok (.goto 5, 3) := by decide +kernel
theorem dX7_order_45 : decode cX7_order 45 = .ok (.bipush (-6), 2) := by decide +kernel
theorem dX7_order_47 : decode cX7_order 47 = .ok (.ireturn, 1) := by decide +kernel
set_option maxRecDepth 20000 in
theorem B_X7_order_0 {G : Gx} {X : Cx} {h : PH} {k n : Nat} {Q : State → Prop} {S : List PV} {a0 : Nat} {a1 : Int} (C : CX_X7_order G X) (q1 : pR a1 := by first | assumption | (unfold pR; omega)) (q2 : pR (-1) := by first | assumption | (unfold pR; omega)) (kt : ¬ a1 = (-1) → PW G X 2 Q k n 16 [some (.inr a0), some (.inl a1)] (S) h) (kf : a1 = (-1) → PW G X 2 Q k n 5 [some (.inr a0), some (.inl a1)] (S) h) : PW G X 2 Q k n 0 [some (.inr a0), some (.inl a1)] (S) h := by
  refine pw_iload_n C dX7_order_0 rfl ?_
  refine pw_iconst C dX7_order_1 ?_
  exact pw_icmp_ne C 16 dX7_order_2 (by decide) q1 q2 kt kf
set_option maxRecDepth 20000 in
theorem B_X7_order_5 {G : Gx} {X : Cx} {h : PH} {k n : Nat} {Q : State → Prop} {S : List PV} {a0 : Nat} {a1 : Int} {r2 : Nat} {x8 : Int} (C : CX_X7_order G X) (t1 : ph_T h a0 = 7 := by first | assumption | rfl) (e3 : ph_R h a0 0 = r2 := by first | assumption | rfl) (t4 : ph_T h r2 = 8 := by first | assumption | rfl) (q5 : (0 : Int) ≤ 484 := by first | assumption | omega) (q6 : 484 < (ph_L h r2 : Int) := by first | assumption | omega) (q7 : pR 484 := by first | assumption | (unfold pR; omega)) (e9 : ph_I h r2 484 = x8 := by first | assumption | rfl) (kk : PW G X 2 Q k n 47 [some (.inr a0), some (.inl a1)] (.inl x8 :: S) h) : PW G X 2 Q k n 5 [some (.inr a0), some (.inl a1)] (S) h := by
  refine pw_aload_n C dX7_order_5 rfl ?_
  refine pw_getR C (t := 7) (f := 0) rfl inF7 rfl (by decide) (by decide) rfl kw678 dX7_order_6 t1 ?_
  rw [e3]
  refine pw_sipush C dX7_order_9 rfl ?_
  refine pw_iald C dX7_order_12 t4 q5 q6 q7 ?_
  rw [show ph_I h r2 (Int.toNat 484) = x8 from e9]
  refine pw_goto C 47 dX7_order_13 (by decide) ?_
  exact kk
set_option maxRecDepth 20000 in
theorem B_X7_order_16 {G : Gx} {X : Cx} {h : PH} {k n : Nat} {Q : State → Prop} {S : List PV} {a0 : Nat} {a1 : Int} {r2 : Nat} {x8 : Int} {PQ : Option PV → PH → Prop} (C : CX_X7_order G X) (hk0 : k ≤ 0 := by decide) (hn0 : n ≤ 0 := by decide) (t1 : ph_T h a0 = 7 := by first | assumption | rfl) (e3 : ph_R h a0 0 = r2 := by first | assumption | rfl) (t4 : ph_T h r2 = 8 := by first | assumption | rfl) (q5 : (0 : Int) ≤ 484 := by first | assumption | omega) (q6 : 484 < (ph_L h r2 : Int) := by first | assumption | omega) (q7 : pR 484 := by first | assumption | (unfold pR; omega)) (e9 : ph_I h r2 484 = x8 := by first | assumption | rfl) (hM : CT_X7_in G X.2.1 [.inl a1, .inl 0, .inl (x8 - 1)] h PQ) (hS : S.length ≤ 8 := by decide) (kk : ∀ r h', PQ r h' → PW G X 2 Q k n 31 [some (.inr a0), some (.inl a1)] (r.toList ++ S) h') : PW G X 2 Q k n 16 [some (.inr a0), some (.inl a1)] (S) h := by
  refine pw_iload_n C dX7_order_16 rfl ?_
  refine pw_iconst C dX7_order_17 ?_
  refine pw_aload_n C dX7_order_18 rfl ?_
  refine pw_getR C (t := 7) (f := 0) rfl inF7 rfl (by decide) (by decide) rfl kw678 dX7_order_19 t1 ?_
  rw [e3]
  refine pw_sipush C dX7_order_22 rfl ?_
  refine pw_iald C dX7_order_25 t4 q5 q6 q7 ?_
  rw [show ph_I h r2 (Int.toNat 484) = x8 from e9]
  refine pw_iconst C dX7_order_26 ?_
  refine pw_isub C dX7_order_27 ?_
  exact pw_callS C (na := 3) (As := [.inl a1, .inl 0, .inl (x8 - 1)]) (S := S) hM kw719 kw720 kw45 kw721 (by decide +kernel) rfl dX7_order_28 (by decide) (by decide) hk0 hn0 (by first | exact hS | (simp only [List.length_cons]; omega)) kk
set_option maxRecDepth 20000 in
theorem B_X7_order_31 {G : Gx} {X : Cx} {h : PH} {k n : Nat} {Q : State → Prop} {S : List PV} {a0 : Nat} {a1 : Int} {s0 : Int} (C : CX_X7_order G X) (q1 : pR s0 := by first | assumption | (unfold pR; omega)) (kt : s0 = 0 → PW G X 2 Q k n 45 [some (.inr a0), some (.inl a1)] (S) h) (kf : ¬ s0 = 0 → PW G X 2 Q k n 34 [some (.inr a0), some (.inl a1)] (S) h) : PW G X 2 Q k n 31 [some (.inr a0), some (.inl a1)] (.inl s0 :: S) h := by
  exact pw_if_eq C 45 dX7_order_31 (by decide) q1 kt kf
set_option maxRecDepth 20000 in
theorem B_X7_order_34 {G : Gx} {X : Cx} {h : PH} {k n : Nat} {Q : State → Prop} {S : List PV} {a0 : Nat} {a1 : Int} {r2 : Nat} {x8 : Int} (C : CX_X7_order G X) (t1 : ph_T h a0 = 7 := by first | assumption | rfl) (e3 : ph_R h a0 0 = r2 := by first | assumption | rfl) (t4 : ph_T h r2 = 8 := by first | assumption | rfl) (q5 : (0 : Int) ≤ 0 + a1 := by first | assumption | omega) (q6 : 0 + a1 < (ph_L h r2 : Int) := by first | assumption | omega) (q7 : pR (0 + a1) := by first | assumption | (unfold pR; omega)) (e9 : ph_I h r2 (Int.toNat (0 + a1)) = x8 := by first | assumption | rfl) (kk : PW G X 2 Q k n 47 [some (.inr a0), some (.inl a1)] (.inl x8 :: S) h) : PW G X 2 Q k n 34 [some (.inr a0), some (.inl a1)] (S) h := by
  refine pw_aload_n C dX7_order_34 rfl ?_
  refine pw_getR C (t := 7) (f := 0) rfl inF7 rfl (by decide) (by decide) rfl kw678 dX7_order_35 t1 ?_
  rw [e3]
  refine pw_iconst C dX7_order_38 ?_
  refine pw_iload_n C dX7_order_39 rfl ?_
  refine pw_iadd C dX7_order_40 ?_
  refine pw_iald C dX7_order_41 t4 q5 q6 q7 ?_
  rw [e9]
  refine pw_goto C 47 dX7_order_42 (by decide) ?_
  exact kk
set_option maxRecDepth 20000 in
theorem B_X7_order_45 {G : Gx} {X : Cx} {h : PH} {k n : Nat} {Q : State → Prop} {S : List PV} {a0 : Nat} {a1 : Int} (C : CX_X7_order G X) (kk : PW G X 2 Q k n 47 [some (.inr a0), some (.inl a1)] (.inl (-6) :: S) h) : PW G X 2 Q k n 45 [some (.inr a0), some (.inl a1)] (S) h := by
  refine pw_bipush C dX7_order_45 rfl ?_
  exact kk
set_option maxRecDepth 20000 in
theorem B_X7_order_47 {G : Gx} {X : Cx} {h : PH} {k n : Nat} {a0 : Nat} {a1 : Int} {s0 : Int} {PQ : Option PV → PH → Prop} (C : CX_X7_order G X) (hq : PQ (some (.inl s0)) h) : PW G X 2 (pw_E G X PQ k n) k n 47 [some (.inr a0), some (.inl a1)] [.inl s0] h := by
  exact pw_ireturn C dX7_order_47 hq
theorem dX7_dish_0 : decode cX7_dish 0 = .ok (.iload_n 1, 1) := by decide +kernel
theorem dX7_dish_1 : decode cX7_dish 1 = .ok (.invokestatic 45, 3) := by decide +kernel
theorem dX7_dish_4 : decode cX7_dish 4 = .ok (.ifCond .ne 5, 3) := by decide +kernel
theorem dX7_dish_7 : decode cX7_dish 7 = .ok (.iconst (-1), 1) := by decide +kernel
theorem dX7_dish_8 : decode cX7_dish 8 = .ok (.ireturn, 1) := by decide +kernel
theorem dX7_dish_9 : decode cX7_dish 9 = .ok (.iload_n 2, 1) := by decide +kernel
theorem dX7_dish_10 : decode cX7_dish 10 = .ok (.tableswitch 89 0 5 #[38, 60, 60, 60, 60, 75], 38) := by decide +kernel
theorem dX7_dish_48 : decode cX7_dish 48 = .ok (.aload_n 0, 1) := by decide +kernel
theorem dX7_dish_49 : decode cX7_dish 49 = .ok (.getfield 7, 3) := by decide +kernel
theorem dX7_dish_52 : decode cX7_dish 52 = .ok (.sipush 296, 3) := by decide +kernel
theorem dX7_dish_55 : decode cX7_dish 55 = .ok (.iload_n 1, 1) := by decide +kernel
theorem dX7_dish_56 : decode cX7_dish 56 = .ok (.iadd, 1) := by decide +kernel
theorem dX7_dish_57 : decode cX7_dish 57 = .ok (.iaload, 1) := by decide +kernel
theorem dX7_dish_58 : decode cX7_dish 58 = .ok (.aload_n 0, 1) := by decide +kernel
theorem dX7_dish_59 : decode cX7_dish 59 = .ok (.getfield 7, 3) := by decide +kernel
theorem dX7_dish_62 : decode cX7_dish 62 = .ok (.sipush 308, 3) := by decide +kernel
theorem dX7_dish_65 : decode cX7_dish 65 = .ok (.iload_n 1, 1) := by decide +kernel
theorem dX7_dish_66 : decode cX7_dish 66 = .ok (.iadd, 1) := by decide +kernel
theorem dX7_dish_67 : decode cX7_dish 67 = .ok (.iaload, 1) := by decide +kernel
theorem dX7_dish_68 : decode cX7_dish 68 = .ok (.iadd, 1) := by decide +kernel
theorem dX7_dish_69 : decode cX7_dish 69 = .ok (.ireturn, 1) := by decide +kernel
theorem dX7_dish_70 : decode cX7_dish 70 = .ok (.aload_n 0, 1) := by decide +kernel
theorem dX7_dish_71 : decode cX7_dish 71 = .ok (.getfield 7, 3) := by decide +kernel
theorem dX7_dish_74 : decode cX7_dish 74 = .ok (.sipush 296, 3) := by decide +kernel
theorem dX7_dish_77 : decode cX7_dish 77 = .ok (.iconst 4, 1) := by decide +kernel
theorem dX7_dish_78 : decode cX7_dish 78 = .ok (.iload_n 2, 1) := by decide +kernel
theorem dX7_dish_79 : decode cX7_dish 79 = .ok (.imul, 1) := by decide +kernel
theorem dX7_dish_80 : decode cX7_dish 80 = .ok (.iadd, 1) := by decide +kernel
theorem dX7_dish_81 : decode cX7_dish 81 = .ok (.iload_n 1, 1) := by decide +kernel
theorem dX7_dish_82 : decode cX7_dish 82 = .ok (.iadd, 1) := by decide +kernel
theorem dX7_dish_83 : decode cX7_dish 83 = .ok (.iaload, 1) := by decide +kernel
theorem dX7_dish_84 : decode cX7_dish 84 = .ok (.ireturn, 1) := by decide +kernel
theorem dX7_dish_85 : decode cX7_dish 85 = .ok (.aload_n 0, 1) := by decide +kernel
theorem dX7_dish_86 : decode cX7_dish 86 = .ok (.getfield 7, 3) := by decide +kernel
theorem dX7_dish_89 : decode cX7_dish 89 = .ok (.sipush 296, 3) := by decide +kernel
theorem dX7_dish_92 : decode cX7_dish 92 = .ok (.iload_n 1, 1) := by decide +kernel
theorem dX7_dish_93 : decode cX7_dish 93 = .ok (.iadd, 1) := by decide +kernel
theorem dX7_dish_94 : decode cX7_dish 94 = .ok (.iaload, 1) := by decide +kernel
theorem dX7_dish_95 : decode cX7_dish 95 = .ok (.invokestatic 58, 3) := by decide +kernel
theorem dX7_dish_98 : decode cX7_dish 98 = .ok (.ireturn, 1) := by decide +kernel
theorem dX7_dish_99 : decode cX7_dish 99 = .ok (.bipush (-2), 2) := by decide +kernel
theorem dX7_dish_101 : decode cX7_dish 101 = .ok (.ireturn, 1) := by decide +kernel
set_option maxRecDepth 20000 in
theorem B_X7_dish_0 {G : Gx} {X : Cx} {h : PH} {k n : Nat} {Q : State → Prop} {S : List PV} {a0 : Nat} {a1 : Int} {a2 : Int} {PQ : Option PV → PH → Prop} (C : CX_X7_dish G X) (hk0 : k ≤ 0 := by decide) (hn0 : n ≤ 0 := by decide) (hM : CT_X7_isDish G X.2.1 [.inl a1] h PQ) (hS : S.length ≤ 8 := by decide) (kk : ∀ r h', PQ r h' → PW G X 3 Q k n 4 [some (.inr a0), some (.inl a1), some (.inl a2)] (r.toList ++ S) h') : PW G X 3 Q k n 0 [some (.inr a0), some (.inl a1), some (.inl a2)] (S) h := by
  refine pw_iload_n C dX7_dish_0 rfl ?_
  exact pw_callS C (na := 1) (As := [.inl a1]) (S := S) hM kw741 kw742 kw45 kw743 (by decide +kernel) rfl dX7_dish_1 (by decide) (by decide) hk0 hn0 (by first | exact hS | (simp only [List.length_cons]; omega)) kk
set_option maxRecDepth 20000 in
theorem B_X7_dish_4 {G : Gx} {X : Cx} {h : PH} {k n : Nat} {Q : State → Prop} {S : List PV} {a0 : Nat} {a1 : Int} {a2 : Int} {s0 : Int} (C : CX_X7_dish G X) (q1 : pR s0 := by first | assumption | (unfold pR; omega)) (kt : ¬ s0 = 0 → PW G X 3 Q k n 9 [some (.inr a0), some (.inl a1), some (.inl a2)] (S) h) (kf : s0 = 0 → PW G X 3 Q k n 7 [some (.inr a0), some (.inl a1), some (.inl a2)] (S) h) : PW G X 3 Q k n 4 [some (.inr a0), some (.inl a1), some (.inl a2)] (.inl s0 :: S) h := by
  exact pw_if_ne C 9 dX7_dish_4 (by decide) q1 kt kf
set_option maxRecDepth 20000 in
theorem B_X7_dish_7 {G : Gx} {X : Cx} {h : PH} {k n : Nat} {a0 : Nat} {a1 : Int} {a2 : Int} {PQ : Option PV → PH → Prop} (C : CX_X7_dish G X) (hq : PQ (some (.inl (-1))) h) : PW G X 3 (pw_E G X PQ k n) k n 7 [some (.inr a0), some (.inl a1), some (.inl a2)] [] h := by
  refine pw_iconst C dX7_dish_7 ?_
  exact pw_ireturn C dX7_dish_8 hq
set_option maxRecDepth 20000 in
theorem B_X7_dish_9 {G : Gx} {X : Cx} {h : PH} {k n : Nat} {Q : State → Prop} {S : List PV} {a0 : Nat} {a1 : Int} {a2 : Int} (C : CX_X7_dish G X) (kk : PW G X 3 Q k n 10 [some (.inr a0), some (.inl a1), some (.inl a2)] (.inl a2 :: S) h) : PW G X 3 Q k n 9 [some (.inr a0), some (.inl a1), some (.inl a2)] (S) h := by
  refine pw_iload_n C dX7_dish_9 rfl ?_
  exact kk
set_option maxRecDepth 20000 in
theorem B_X7_dish_10 {G : Gx} {X : Cx} {h : PH} {k n : Nat} {Q : State → Prop} {S : List PV} {a0 : Nat} {a1 : Int} {a2 : Int} {s0 : Int} (C : CX_X7_dish G X) (q1 : pR s0 := by first | assumption | (unfold pR; omega)) (k0 : s0 = 0 → PW G X 3 Q k n 48 [some (.inr a0), some (.inl a1), some (.inl a2)] (S) h) (k1 : s0 = 1 → PW G X 3 Q k n 70 [some (.inr a0), some (.inl a1), some (.inl a2)] (S) h) (k2 : s0 = 2 → PW G X 3 Q k n 70 [some (.inr a0), some (.inl a1), some (.inl a2)] (S) h) (k3 : s0 = 3 → PW G X 3 Q k n 70 [some (.inr a0), some (.inl a1), some (.inl a2)] (S) h) (k4 : s0 = 4 → PW G X 3 Q k n 70 [some (.inr a0), some (.inl a1), some (.inl a2)] (S) h) (k5 : s0 = 5 → PW G X 3 Q k n 85 [some (.inr a0), some (.inl a1), some (.inl a2)] (S) h) (kd : s0 < 0 ∨ 5 < s0 → PW G X 3 Q k n 99 [some (.inr a0), some (.inl a1), some (.inl a2)] (S) h) : PW G X 3 Q k n 10 [some (.inr a0), some (.inl a1), some (.inl a2)] (.inl s0 :: S) h := by
  by_cases zz : s0 < 0 ∨ 5 < s0
  · exact pw_tableOut C 99 dX7_dish_10 q1 zz (by decide) (kd zz)
  · have zz2 : s0 = 0 ∨ s0 = 1 ∨ s0 = 2 ∨ s0 = 3 ∨ s0 = 4 ∨ s0 = 5 := by omega
    rcases zz2 with z0 | z1 | z2 | z3 | z4 | z5
    · have kj := k0 z0
      subst z0
      exact pw_tableIn C 48 dX7_dish_10 q1 (by decide) (by decide) rfl (by decide) kj
    · have kj := k1 z1
      subst z1
      exact pw_tableIn C 70 dX7_dish_10 q1 (by decide) (by decide) rfl (by decide) kj
    · have kj := k2 z2
      subst z2
      exact pw_tableIn C 70 dX7_dish_10 q1 (by decide) (by decide) rfl (by decide) kj
    · have kj := k3 z3
      subst z3
      exact pw_tableIn C 70 dX7_dish_10 q1 (by decide) (by decide) rfl (by decide) kj
    · have kj := k4 z4
      subst z4
      exact pw_tableIn C 70 dX7_dish_10 q1 (by decide) (by decide) rfl (by decide) kj
    · have kj := k5 z5
      subst z5
      exact pw_tableIn C 85 dX7_dish_10 q1 (by decide) (by decide) rfl (by decide) kj
set_option maxRecDepth 20000 in
theorem B_X7_dish_48 {G : Gx} {X : Cx} {h : PH} {k n : Nat} {a0 : Nat} {a1 : Int} {a2 : Int} {r2 : Nat} {x8 : Int} {r11 : Nat} {x17 : Int} {PQ : Option PV → PH → Prop} (C : CX_X7_dish G X) (t1 : ph_T h a0 = 7 := by first | assumption | rfl) (e3 : ph_R h a0 0 = r2 := by first | assumption | rfl) (t4 : ph_T h r2 = 8 := by first | assumption | rfl) (q5 : (0 : Int) ≤ 296 + a1 := by first | assumption | omega) (q6 : 296 + a1 < (ph_L h r2 : Int) := by first | assumption | omega) (q7 : pR (296 + a1) := by first | assumption | (unfold pR; omega)) (e9 : ph_I h r2 (Int.toNat (296 + a1)) = x8 := by first | assumption | rfl) (t10 : ph_T h a0 = 7 := by first | assumption | rfl) (e12 : ph_R h a0 0 = r11 := by first | assumption | rfl) (t13 : ph_T h r11 = 8 := by first | assumption | rfl) (q14 : (0 : Int) ≤ 308 + a1 := by first | assumption | omega) (q15 : 308 + a1 < (ph_L h r11 : Int) := by first | assumption | omega) (q16 : pR (308 + a1) := by first | assumption | (unfold pR; omega)) (e18 : ph_I h r11 (Int.toNat (308 + a1)) = x17 := by first | assumption | rfl) (hq : PQ (some (.inl (x8 + x17))) h) : PW G X 3 (pw_E G X PQ k n) k n 48 [some (.inr a0), some (.inl a1), some (.inl a2)] [] h := by
  refine pw_aload_n C dX7_dish_48 rfl ?_
  refine pw_getR C (t := 7) (f := 0) rfl inF7 rfl (by decide) (by decide) rfl kw678 dX7_dish_49 t1 ?_
  rw [e3]
  refine pw_sipush C dX7_dish_52 rfl ?_
  refine pw_iload_n C dX7_dish_55 rfl ?_
  refine pw_iadd C dX7_dish_56 ?_
  refine pw_iald C dX7_dish_57 t4 q5 q6 q7 ?_
  rw [e9]
  refine pw_aload_n C dX7_dish_58 rfl ?_
  refine pw_getR C (t := 7) (f := 0) rfl inF7 rfl (by decide) (by decide) rfl kw678 dX7_dish_59 t10 ?_
  rw [e12]
  refine pw_sipush C dX7_dish_62 rfl ?_
  refine pw_iload_n C dX7_dish_65 rfl ?_
  refine pw_iadd C dX7_dish_66 ?_
  refine pw_iald C dX7_dish_67 t13 q14 q15 q16 ?_
  rw [e18]
  refine pw_iadd C dX7_dish_68 ?_
  exact pw_ireturn C dX7_dish_69 hq
set_option maxRecDepth 20000 in
theorem B_X7_dish_70 {G : Gx} {X : Cx} {h : PH} {k n : Nat} {a0 : Nat} {a1 : Int} {a2 : Int} {r2 : Nat} {x8 : Int} {PQ : Option PV → PH → Prop} (C : CX_X7_dish G X) (t1 : ph_T h a0 = 7 := by first | assumption | rfl) (e3 : ph_R h a0 0 = r2 := by first | assumption | rfl) (t4 : ph_T h r2 = 8 := by first | assumption | rfl) (q5 : (0 : Int) ≤ (296 + (4 * a2)) + a1 := by first | assumption | omega) (q6 : (296 + (4 * a2)) + a1 < (ph_L h r2 : Int) := by first | assumption | omega) (q7 : pR ((296 + (4 * a2)) + a1) := by first | assumption | (unfold pR; omega)) (e9 : ph_I h r2 (Int.toNat ((296 + (4 * a2)) + a1)) = x8 := by first | assumption | rfl) (hq : PQ (some (.inl x8)) h) : PW G X 3 (pw_E G X PQ k n) k n 70 [some (.inr a0), some (.inl a1), some (.inl a2)] [] h := by
  refine pw_aload_n C dX7_dish_70 rfl ?_
  refine pw_getR C (t := 7) (f := 0) rfl inF7 rfl (by decide) (by decide) rfl kw678 dX7_dish_71 t1 ?_
  rw [e3]
  refine pw_sipush C dX7_dish_74 rfl ?_
  refine pw_iconst C dX7_dish_77 ?_
  refine pw_iload_n C dX7_dish_78 rfl ?_
  refine pw_imul C dX7_dish_79 ?_
  refine pw_iadd C dX7_dish_80 ?_
  refine pw_iload_n C dX7_dish_81 rfl ?_
  refine pw_iadd C dX7_dish_82 ?_
  refine pw_iald C dX7_dish_83 t4 q5 q6 q7 ?_
  rw [e9]
  exact pw_ireturn C dX7_dish_84 hq
set_option maxRecDepth 20000 in
theorem B_X7_dish_85 {G : Gx} {X : Cx} {h : PH} {k n : Nat} {Q : State → Prop} {S : List PV} {a0 : Nat} {a1 : Int} {a2 : Int} {r2 : Nat} {x8 : Int} {PQ : Option PV → PH → Prop} (C : CX_X7_dish G X) (hk0 : k ≤ 0 := by decide) (hn0 : n ≤ 0 := by decide) (t1 : ph_T h a0 = 7 := by first | assumption | rfl) (e3 : ph_R h a0 0 = r2 := by first | assumption | rfl) (t4 : ph_T h r2 = 8 := by first | assumption | rfl) (q5 : (0 : Int) ≤ 296 + a1 := by first | assumption | omega) (q6 : 296 + a1 < (ph_L h r2 : Int) := by first | assumption | omega) (q7 : pR (296 + a1) := by first | assumption | (unfold pR; omega)) (e9 : ph_I h r2 (Int.toNat (296 + a1)) = x8 := by first | assumption | rfl) (hM : CT_X7_sideOf G X.2.1 [.inl x8] h PQ) (hS : S.length ≤ 8 := by decide) (kk : ∀ r h', PQ r h' → PW G X 3 Q k n 98 [some (.inr a0), some (.inl a1), some (.inl a2)] (r.toList ++ S) h') : PW G X 3 Q k n 85 [some (.inr a0), some (.inl a1), some (.inl a2)] (S) h := by
  refine pw_aload_n C dX7_dish_85 rfl ?_
  refine pw_getR C (t := 7) (f := 0) rfl inF7 rfl (by decide) (by decide) rfl kw678 dX7_dish_86 t1 ?_
  rw [e3]
  refine pw_sipush C dX7_dish_89 rfl ?_
  refine pw_iload_n C dX7_dish_92 rfl ?_
  refine pw_iadd C dX7_dish_93 ?_
  refine pw_iald C dX7_dish_94 t4 q5 q6 q7 ?_
  rw [e9]
  exact pw_callS C (na := 1) (As := [.inl x8]) (S := S) hM kw786 kw787 kw45 kw788 (by decide +kernel) rfl dX7_dish_95 (by decide) (by decide) hk0 hn0 (by first | exact hS | (simp only [List.length_cons]; omega)) kk
set_option maxRecDepth 20000 in
theorem B_X7_dish_98 {G : Gx} {X : Cx} {h : PH} {k n : Nat} {a0 : Nat} {a1 : Int} {a2 : Int} {s0 : Int} {PQ : Option PV → PH → Prop} (C : CX_X7_dish G X) (hq : PQ (some (.inl s0)) h) : PW G X 3 (pw_E G X PQ k n) k n 98 [some (.inr a0), some (.inl a1), some (.inl a2)] [.inl s0] h := by
  exact pw_ireturn C dX7_dish_98 hq
set_option maxRecDepth 20000 in
theorem B_X7_dish_99 {G : Gx} {X : Cx} {h : PH} {k n : Nat} {a0 : Nat} {a1 : Int} {a2 : Int} {PQ : Option PV → PH → Prop} (C : CX_X7_dish G X) (hq : PQ (some (.inl (-2))) h) : PW G X 3 (pw_E G X PQ k n) k n 99 [some (.inr a0), some (.inl a1), some (.inl a2)] [] h := by
  refine pw_bipush C dX7_dish_99 rfl ?_
  exact pw_ireturn C dX7_dish_101 hq
theorem dX7_placeOf_0 : decode cX7_placeOf 0 = .ok (.bipush 7, 2) := by decide +kernel
theorem dX7_placeOf_2 : decode cX7_placeOf 2 = .ok (.iload_n 0, 1) := by decide +kernel
theorem dX7_placeOf_3 : decode cX7_placeOf 3 = .ok (.bipush 36, 2) := by decide +kernel
theorem dX7_placeOf_5 : decode cX7_placeOf 5 = .ok (.iadd, 1) := by decide +kernel
theorem dX7_placeOf_6 : decode cX7_placeOf 6 = .ok (.imul, 1) := by decide +kernel
theorem dX7_placeOf_7 : decode cX7_placeOf 7 = .ok (.iload_n 1, 1) := by decide +kernel
theorem dX7_placeOf_8 : decode cX7_placeOf 8 = .ok (.iadd, 1) := by decide +kernel
theorem dX7_placeOf_9 : decode cX7_placeOf 9 = .ok (.ireturn, 1) := by decide +kernel
set_option maxRecDepth 20000 in
theorem B_X7_placeOf_0 {G : Gx} {X : Cx} {h : PH} {k n : Nat} {a0 : Int} {a1 : Int} {PQ : Option PV → PH → Prop} (C : CX_X7_placeOf G X) (hq : PQ (some (.inl ((7 * (a0 + 36)) + a1))) h) : PW G X 2 (pw_E G X PQ k n) k n 0 [some (.inl a0), some (.inl a1)] [] h := by
  refine pw_bipush C dX7_placeOf_0 rfl ?_
  refine pw_iload_n C dX7_placeOf_2 rfl ?_
  refine pw_bipush C dX7_placeOf_3 rfl ?_
  refine pw_iadd C dX7_placeOf_5 ?_
  refine pw_imul C dX7_placeOf_6 ?_
  refine pw_iload_n C dX7_placeOf_7 rfl ?_
  refine pw_iadd C dX7_placeOf_8 ?_
  exact pw_ireturn C dX7_placeOf_9 hq
theorem dX7_sees_0 : decode cX7_sees 0 = .ok (.iload_n 1, 1) := by decide +kernel
theorem dX7_sees_1 : decode cX7_sees 1 = .ok (.aload_n 0, 1) := by decide +kernel
theorem dX7_sees_2 : decode cX7_sees 2 = .ok (.getfield 7, 3) := by decide +kernel
theorem dX7_sees_5 : decode cX7_sees 5 = .ok (.bipush 8, 2) := by decide +kernel
theorem dX7_sees_7 : decode cX7_sees 7 = .ok (.aload_n 0, 1) := by decide +kernel
theorem dX7_sees_8 : decode cX7_sees 8 = .ok (.getfield 61, 3) := by decide +kernel
theorem dX7_sees_11 : decode cX7_sees 11 = .ok (.iadd, 1) := by decide +kernel
theorem dX7_sees_12 : decode cX7_sees 12 = .ok (.iaload, 1) := by decide +kernel
theorem dX7_sees_13 : decode cX7_sees 13 = .ok (.isub, 1) := by decide +kernel
theorem dX7_sees_14 : decode cX7_sees 14 = .ok (.istore 4, 2) := by decide +kernel
theorem dX7_sees_16 : decode cX7_sees 16 = .ok (.iload 4, 2) := by decide +kernel
theorem dX7_sees_18 : decode cX7_sees 18 = .ok (.aload_n 0, 1) := by decide +kernel
theorem dX7_sees_19 : decode cX7_sees 19 = .ok (.getfield 65, 3) := by decide +kernel
theorem dX7_sees_22 : decode cX7_sees 22 = .ok (.aload_n 0, 1) := by decide +kernel
theorem dX7_sees_23 : decode cX7_sees 23 = .ok (.getfield 68, 3) := by decide +kernel
theorem dX7_sees_26 : decode cX7_sees 26 = .ok (.iconst 1, 1) := by decide +kernel
theorem dX7_sees_27 : decode cX7_sees 27 = .ok (.isub, 1) := by decide +kernel
theorem dX7_sees_28 : decode cX7_sees 28 = .ok (.invokestatic 33, 3) := by decide +kernel
theorem dX7_sees_31 : decode cX7_sees 31 = .ok (.ifCond .eq 15, 3) := by decide +kernel
theorem dX7_sees_34 : decode cX7_sees 34 = .ok (.iload_n 3, 1) := by decide +kernel
theorem dX7_sees_35 : decode cX7_sees 35 = .ok (.aload_n 0, 1) := by decide +kernel
theorem dX7_sees_36 : decode cX7_sees 36 = .ok (.getfield 7, 3) := by decide +kernel
theorem dX7_sees_39 : decode cX7_sees 39 = .ok (.sipush 491, 3) := by decide +kernel
theorem dX7_sees_42 : decode cX7_sees 42 = .ok (.iaload, 1) := by decide +kernel
theorem dX7_sees_43 : decode cX7_sees 43 = .ok (.if_icmp .le 5, 3) := by decide +kernel
theorem dX7_sees_46 : decode cX7_sees 46 = .ok (.iconst 0, 1) := by decide +kernel
theorem dX7_sees_47 : decode cX7_sees 47 = .ok (.ireturn, 1) := by decide +kernel
theorem dX7_sees_48 : decode cX7_sees 48 = .ok (.iload_n 2, 1) := by decide +kernel
theorem dX7_sees_49 : decode cX7_sees 49 = .ok (.invokestatic 58, 3) := by decide +kernel
theorem dX7_sees_52 : decode cX7_sees 52 = .ok (.istore 5, 2) := by decide +kernel
theorem dX7_sees_54 : decode cX7_sees 54 = .ok (.aload_n 0, 1) := by decide +kernel
theorem dX7_sees_55 : decode cX7_sees 55 = .ok (.getfield 7, 3) := by decide +kernel
theorem dX7_sees_58 : decode cX7_sees 58 = .ok (.bipush 40, 2) := by decide +kernel
theorem dX7_sees_60 : decode cX7_sees 60 = .ok (.bipush 16, 2) := by decide +kernel
theorem dX7_sees_62 : decode cX7_sees 62 = .ok (.aload_n 0, 1) := by decide +kernel
theorem dX7_sees_63 : decode cX7_sees 63 = .ok (.getfield 61, 3) := by decide +kernel
theorem dX7_sees_66 : decode cX7_sees 66 = .ok (.imul, 1) := by decide +kernel
theorem dX7_sees_67 : decode cX7_sees 67 = .ok (.iadd, 1) := by decide +kernel
theorem dX7_sees_68 : decode cX7_sees 68 = .ok (.iload 4, 2) := by decide +kernel
theorem dX7_sees_70 : decode cX7_sees 70 = .ok (.iadd, 1) := by decide +kernel
theorem dX7_sees_71 : decode cX7_sees 71 = .ok (.iaload, 1) := by decide +kernel
theorem dX7_sees_72 : decode cX7_sees 72 = .ok (.iload 5, 2) := by decide +kernel
theorem dX7_sees_74 : decode cX7_sees 74 = .ok (.if_icmp .ne 41, 3) := by decide +kernel
theorem dX7_sees_77 : decode cX7_sees 77 = .ok (.aload_n 0, 1) := by decide +kernel
theorem dX7_sees_78 : decode cX7_sees 78 = .ok (.getfield 7, 3) := by decide +kernel
theorem dX7_sees_81 : decode cX7_sees 81 = .ok (.sipush 168, 3) := by decide +kernel
theorem dX7_sees_84 : decode cX7_sees 84 = .ok (.bipush 16, 2) := by decide +kernel
theorem dX7_sees_86 : decode cX7_sees 86 = .ok (.aload_n 0, 1) := by decide +kernel
theorem dX7_sees_87 : decode cX7_sees 87 = .ok (.getfield 61, 3) := by decide +kernel
theorem dX7_sees_90 : decode cX7_sees 90 = .ok (.imul, 1) := by decide +kernel
theorem dX7_sees_91 : decode cX7_sees 91 = .ok (.iadd, 1) := by decide +kernel
theorem dX7_sees_92 : decode cX7_sees 92 = .ok (.iload 4, 2) := by decide +kernel
theorem dX7_sees_94 : decode cX7_sees 94 = .ok (.iadd, 1) := by decide +kernel
theorem dX7_sees_95 : decode cX7_sees 95 = .ok (.iaload, 1) := by decide +kernel
theorem dX7_sees_96 : decode cX7_sees 96 = .ok (.iload_n 3, 1) := by decide +kernel
theorem dX7_sees_97 : decode cX7_sees 97 = .ok (.if_icmp .ne 18, 3) := by decide +kernel
theorem dX7_sees_100 : decode cX7_sees 100 = .ok (.aload_n 0, 1) := by decide +kernel
theorem dX7_sees_101 : decode cX7_sees 101 = .ok (.iload 5, 2) := by decide +kernel
theorem dX7_sees_103 : decode cX7_sees 103 = .ok (.iload_n 3, 1) := by decide +kernel
theorem dX7_sees_104 : decode cX7_sees 104 = .ok (.iload_n 1, 1) := by decide +kernel
theorem dX7_sees_105 : decode cX7_sees 105 = .ok (.invokevirtual 55, 3) := by decide +kernel
theorem dX7_sees_108 : decode cX7_sees 108 = .ok (.ifCond .ne 7, 3) := by decide +kernel
theorem dX7_sees_111 : decode cX7_sees 111 = .ok (.iconst 1, 1) := by decide +kernel
theorem dX7_sees_112 : decode cX7_sees 112 = .ok (.goto 4, 3) := by decide +kernel
theorem dX7_sees_115 : decode cX7_sees 115 = .ok (.iconst 0, 1) := by decide +kernel
theorem dX7_sees_116 : decode cX7_sees 116 = .ok (.ireturn, 1) := by decide +kernel
set_option maxRecDepth 20000 in
theorem B_X7_sees_0 {G : Gx} {X : Cx} {h : PH} {k n : Nat} {Q : State → Prop} {S : List PV} {a0 : Nat} {a1 : Int} {a2 : Int} {a3 : Int} {r2 : Nat} {x5 : Int} {x11 : Int} {x14 : Int} {x17 : Int} {PQ : Option PV → PH → Prop} (C : CX_X7_sees G X) (hk0 : k ≤ 0 := by decide) (hn0 : n ≤ 0 := by decide) (t1 : ph_T h a0 = 7 := by first | assumption | rfl) (e3 : ph_R h a0 0 = r2 := by first | assumption | rfl) (t4 : ph_T h a0 = 7 := by first | assumption | rfl) (e6 : ph_I h a0 5 = x5 := by first | assumption | rfl) (t7 : ph_T h r2 = 8 := by first | assumption | rfl) (q8 : (0 : Int) ≤ 8 + x5 := by first | assumption | omega) (q9 : 8 + x5 < (ph_L h r2 : Int) := by first | assumption | omega) (q10 : pR (8 + x5) := by first | assumption | (unfold pR; omega)) (e12 : ph_I h r2 (Int.toNat (8 + x5)) = x11 := by first | assumption | rfl) (t13 : ph_T h a0 = 7 := by first | assumption | rfl) (e15 : ph_I h a0 7 = x14 := by first | assumption | rfl) (t16 : ph_T h a0 = 7 := by first | assumption | rfl) (e18 : ph_I h a0 6 = x17 := by first | assumption | rfl) (hM : CT_X7_in G X.2.1 [.inl (a1 - x11), .inl x14, .inl (x17 - 1)] h PQ) (hS : S.length ≤ 8 := by decide) (kk : ∀ r h', PQ r h' → PW G X 6 Q k n 31 [some (.inr a0), some (.inl a1), some (.inl a2), some (.inl a3), some (.inl (a1 - x11)), none] (r.toList ++ S) h') : PW G X 6 Q k n 0 [some (.inr a0), some (.inl a1), some (.inl a2), some (.inl a3), none, none] (S) h := by
  refine pw_iload_n C dX7_sees_0 rfl ?_
  refine pw_aload_n C dX7_sees_1 rfl ?_
  refine pw_getR C (t := 7) (f := 0) rfl inF7 rfl (by decide) (by decide) rfl kw678 dX7_sees_2 t1 ?_
  rw [e3]
  refine pw_bipush C dX7_sees_5 rfl ?_
  refine pw_aload_n C dX7_sees_7 rfl ?_
  refine pw_getI C (t := 7) (f := 5) rfl inF7 rfl (by decide) (by decide) rfl kw683 dX7_sees_8 t4 ?_
  rw [e6]
  refine pw_iadd C dX7_sees_11 ?_
  refine pw_iald C dX7_sees_12 t7 q8 q9 q10 ?_
  rw [e12]
  refine pw_isub C dX7_sees_13 ?_
  refine pw_istore C dX7_sees_14 (by decide) ?_
  refine pw_iload C dX7_sees_16 rfl ?_
  refine pw_aload_n C dX7_sees_18 rfl ?_
  refine pw_getI C (t := 7) (f := 7) rfl inF7 rfl (by decide) (by decide) rfl kw685 dX7_sees_19 t13 ?_
  rw [e15]
  refine pw_aload_n C dX7_sees_22 rfl ?_
  refine pw_getI C (t := 7) (f := 6) rfl inF7 rfl (by decide) (by decide) rfl kw684 dX7_sees_23 t16 ?_
  rw [e18]
  refine pw_iconst C dX7_sees_26 ?_
  refine pw_isub C dX7_sees_27 ?_
  exact pw_callS C (na := 3) (As := [.inl (a1 - x11), .inl x14, .inl (x17 - 1)]) (S := S) hM kw719 kw720 kw45 kw721 (by decide +kernel) rfl dX7_sees_28 (by decide) (by decide) hk0 hn0 (by first | exact hS | (simp only [List.length_cons]; omega)) kk
set_option maxRecDepth 20000 in
theorem B_X7_sees_31 {G : Gx} {X : Cx} {h : PH} {k n : Nat} {Q : State → Prop} {S : List PV} {a0 : Nat} {a1 : Int} {a2 : Int} {a3 : Int} {a4 : Int} {s0 : Int} (C : CX_X7_sees G X) (q1 : pR s0 := by first | assumption | (unfold pR; omega)) (kt : s0 = 0 → PW G X 6 Q k n 46 [some (.inr a0), some (.inl a1), some (.inl a2), some (.inl a3), some (.inl a4), none] (S) h) (kf : ¬ s0 = 0 → PW G X 6 Q k n 34 [some (.inr a0), some (.inl a1), some (.inl a2), some (.inl a3), some (.inl a4), none] (S) h) : PW G X 6 Q k n 31 [some (.inr a0), some (.inl a1), some (.inl a2), some (.inl a3), some (.inl a4), none] (.inl s0 :: S) h := by
  exact pw_if_eq C 46 dX7_sees_31 (by decide) q1 kt kf
set_option maxRecDepth 20000 in
theorem B_X7_sees_34 {G : Gx} {X : Cx} {h : PH} {k n : Nat} {Q : State → Prop} {S : List PV} {a0 : Nat} {a1 : Int} {a2 : Int} {a3 : Int} {a4 : Int} {r2 : Nat} {x8 : Int} (C : CX_X7_sees G X) (t1 : ph_T h a0 = 7 := by first | assumption | rfl) (e3 : ph_R h a0 0 = r2 := by first | assumption | rfl) (t4 : ph_T h r2 = 8 := by first | assumption | rfl) (q5 : (0 : Int) ≤ 491 := by first | assumption | omega) (q6 : 491 < (ph_L h r2 : Int) := by first | assumption | omega) (q7 : pR 491 := by first | assumption | (unfold pR; omega)) (e9 : ph_I h r2 491 = x8 := by first | assumption | rfl) (q10 : pR a3 := by first | assumption | (unfold pR; omega)) (q11 : pR x8 := by first | assumption | (unfold pR; omega)) (kt : a3 ≤ x8 → PW G X 6 Q k n 48 [some (.inr a0), some (.inl a1), some (.inl a2), some (.inl a3), some (.inl a4), none] (S) h) (kf : ¬ a3 ≤ x8 → PW G X 6 Q k n 46 [some (.inr a0), some (.inl a1), some (.inl a2), some (.inl a3), some (.inl a4), none] (S) h) : PW G X 6 Q k n 34 [some (.inr a0), some (.inl a1), some (.inl a2), some (.inl a3), some (.inl a4), none] (S) h := by
  refine pw_iload_n C dX7_sees_34 rfl ?_
  refine pw_aload_n C dX7_sees_35 rfl ?_
  refine pw_getR C (t := 7) (f := 0) rfl inF7 rfl (by decide) (by decide) rfl kw678 dX7_sees_36 t1 ?_
  rw [e3]
  refine pw_sipush C dX7_sees_39 rfl ?_
  refine pw_iald C dX7_sees_42 t4 q5 q6 q7 ?_
  rw [show ph_I h r2 (Int.toNat 491) = x8 from e9]
  exact pw_icmp_le C 48 dX7_sees_43 (by decide) q10 q11 kt kf
set_option maxRecDepth 20000 in
theorem B_X7_sees_46 {G : Gx} {X : Cx} {h : PH} {k n : Nat} {a0 : Nat} {a1 : Int} {a2 : Int} {a3 : Int} {a4 : Int} {PQ : Option PV → PH → Prop} (C : CX_X7_sees G X) (q1 : (0 : Int) = 0 ∨ (0 : Int) = 1 := by omega) (hq : PQ (some (.inl 0)) h) : PW G X 6 (pw_E G X PQ k n) k n 46 [some (.inr a0), some (.inl a1), some (.inl a2), some (.inl a3), some (.inl a4), none] [] h := by
  refine pw_iconst C dX7_sees_46 ?_
  exact pw_zreturn C dX7_sees_47 q1 hq
set_option maxRecDepth 20000 in
theorem B_X7_sees_48 {G : Gx} {X : Cx} {h : PH} {k n : Nat} {Q : State → Prop} {S : List PV} {a0 : Nat} {a1 : Int} {a2 : Int} {a3 : Int} {a4 : Int} {PQ : Option PV → PH → Prop} (C : CX_X7_sees G X) (hk0 : k ≤ 0 := by decide) (hn0 : n ≤ 0 := by decide) (hM : CT_X7_sideOf G X.2.1 [.inl a2] h PQ) (hS : S.length ≤ 8 := by decide) (kk : ∀ r h', PQ r h' → PW G X 6 Q k n 52 [some (.inr a0), some (.inl a1), some (.inl a2), some (.inl a3), some (.inl a4), none] (r.toList ++ S) h') : PW G X 6 Q k n 48 [some (.inr a0), some (.inl a1), some (.inl a2), some (.inl a3), some (.inl a4), none] (S) h := by
  refine pw_iload_n C dX7_sees_48 rfl ?_
  exact pw_callS C (na := 1) (As := [.inl a2]) (S := S) hM kw786 kw787 kw45 kw788 (by decide +kernel) rfl dX7_sees_49 (by decide) (by decide) hk0 hn0 (by first | exact hS | (simp only [List.length_cons]; omega)) kk
set_option maxRecDepth 20000 in
theorem B_X7_sees_52 {G : Gx} {X : Cx} {h : PH} {k n : Nat} {Q : State → Prop} {S : List PV} {a0 : Nat} {a1 : Int} {a2 : Int} {a3 : Int} {a4 : Int} {s0 : Int} {r2 : Nat} {x5 : Int} {x11 : Int} (C : CX_X7_sees G X) (t1 : ph_T h a0 = 7 := by first | assumption | rfl) (e3 : ph_R h a0 0 = r2 := by first | assumption | rfl) (t4 : ph_T h a0 = 7 := by first | assumption | rfl) (e6 : ph_I h a0 5 = x5 := by first | assumption | rfl) (t7 : ph_T h r2 = 8 := by first | assumption | rfl) (q8 : (0 : Int) ≤ (40 + (16 * x5)) + a4 := by first | assumption | omega) (q9 : (40 + (16 * x5)) + a4 < (ph_L h r2 : Int) := by first | assumption | omega) (q10 : pR ((40 + (16 * x5)) + a4) := by first | assumption | (unfold pR; omega)) (e12 : ph_I h r2 (Int.toNat ((40 + (16 * x5)) + a4)) = x11 := by first | assumption | rfl) (q13 : pR x11 := by first | assumption | (unfold pR; omega)) (q14 : pR s0 := by first | assumption | (unfold pR; omega)) (kt : ¬ x11 = s0 → PW G X 6 Q k n 115 [some (.inr a0), some (.inl a1), some (.inl a2), some (.inl a3), some (.inl a4), some (.inl s0)] (S) h) (kf : x11 = s0 → PW G X 6 Q k n 77 [some (.inr a0), some (.inl a1), some (.inl a2), some (.inl a3), some (.inl a4), some (.inl s0)] (S) h) : PW G X 6 Q k n 52 [some (.inr a0), some (.inl a1), some (.inl a2), some (.inl a3), some (.inl a4), none] (.inl s0 :: S) h := by
  refine pw_istore C dX7_sees_52 (by decide) ?_
  refine pw_aload_n C dX7_sees_54 rfl ?_
  refine pw_getR C (t := 7) (f := 0) rfl inF7 rfl (by decide) (by decide) rfl kw678 dX7_sees_55 t1 ?_
  rw [e3]
  refine pw_bipush C dX7_sees_58 rfl ?_
  refine pw_bipush C dX7_sees_60 rfl ?_
  refine pw_aload_n C dX7_sees_62 rfl ?_
  refine pw_getI C (t := 7) (f := 5) rfl inF7 rfl (by decide) (by decide) rfl kw683 dX7_sees_63 t4 ?_
  rw [e6]
  refine pw_imul C dX7_sees_66 ?_
  refine pw_iadd C dX7_sees_67 ?_
  refine pw_iload C dX7_sees_68 rfl ?_
  refine pw_iadd C dX7_sees_70 ?_
  refine pw_iald C dX7_sees_71 t7 q8 q9 q10 ?_
  rw [e12]
  refine pw_iload C dX7_sees_72 rfl ?_
  exact pw_icmp_ne C 115 dX7_sees_74 (by decide) q13 q14 kt kf
set_option maxRecDepth 20000 in
theorem B_X7_sees_77 {G : Gx} {X : Cx} {h : PH} {k n : Nat} {Q : State → Prop} {S : List PV} {a0 : Nat} {a1 : Int} {a2 : Int} {a3 : Int} {a4 : Int} {a5 : Int} {r2 : Nat} {x5 : Int} {x11 : Int} (C : CX_X7_sees G X) (t1 : ph_T h a0 = 7 := by first | assumption | rfl) (e3 : ph_R h a0 0 = r2 := by first | assumption | rfl) (t4 : ph_T h a0 = 7 := by first | assumption | rfl) (e6 : ph_I h a0 5 = x5 := by first | assumption | rfl) (t7 : ph_T h r2 = 8 := by first | assumption | rfl) (q8 : (0 : Int) ≤ (168 + (16 * x5)) + a4 := by first | assumption | omega) (q9 : (168 + (16 * x5)) + a4 < (ph_L h r2 : Int) := by first | assumption | omega) (q10 : pR ((168 + (16 * x5)) + a4) := by first | assumption | (unfold pR; omega)) (e12 : ph_I h r2 (Int.toNat ((168 + (16 * x5)) + a4)) = x11 := by first | assumption | rfl) (q13 : pR x11 := by first | assumption | (unfold pR; omega)) (q14 : pR a3 := by first | assumption | (unfold pR; omega)) (kt : ¬ x11 = a3 → PW G X 6 Q k n 115 [some (.inr a0), some (.inl a1), some (.inl a2), some (.inl a3), some (.inl a4), some (.inl a5)] (S) h) (kf : x11 = a3 → PW G X 6 Q k n 100 [some (.inr a0), some (.inl a1), some (.inl a2), some (.inl a3), some (.inl a4), some (.inl a5)] (S) h) : PW G X 6 Q k n 77 [some (.inr a0), some (.inl a1), some (.inl a2), some (.inl a3), some (.inl a4), some (.inl a5)] (S) h := by
  refine pw_aload_n C dX7_sees_77 rfl ?_
  refine pw_getR C (t := 7) (f := 0) rfl inF7 rfl (by decide) (by decide) rfl kw678 dX7_sees_78 t1 ?_
  rw [e3]
  refine pw_sipush C dX7_sees_81 rfl ?_
  refine pw_bipush C dX7_sees_84 rfl ?_
  refine pw_aload_n C dX7_sees_86 rfl ?_
  refine pw_getI C (t := 7) (f := 5) rfl inF7 rfl (by decide) (by decide) rfl kw683 dX7_sees_87 t4 ?_
  rw [e6]
  refine pw_imul C dX7_sees_90 ?_
  refine pw_iadd C dX7_sees_91 ?_
  refine pw_iload C dX7_sees_92 rfl ?_
  refine pw_iadd C dX7_sees_94 ?_
  refine pw_iald C dX7_sees_95 t7 q8 q9 q10 ?_
  rw [e12]
  refine pw_iload_n C dX7_sees_96 rfl ?_
  exact pw_icmp_ne C 115 dX7_sees_97 (by decide) q13 q14 kt kf
set_option maxRecDepth 20000 in
theorem B_X7_sees_100 {G : Gx} {X : Cx} {h : PH} {k n : Nat} {Q : State → Prop} {S : List PV} {a0 : Nat} {a1 : Int} {a2 : Int} {a3 : Int} {a4 : Int} {a5 : Int} {PQ : Option PV → PH → Prop} (C : CX_X7_sees G X) (hk0 : k ≤ 0 := by decide) (hn0 : n ≤ 0 := by decide) (t1 : ph_T h a0 = 7 := by first | assumption | rfl) (hM : CT_X7_isBurnt G X.2.1 [.inr a0, .inl a5, .inl a3, .inl a1] h PQ) (hS : S.length ≤ 8 := by decide) (kk : ∀ r h', PQ r h' → PW G X 6 Q k n 108 [some (.inr a0), some (.inl a1), some (.inl a2), some (.inl a3), some (.inl a4), some (.inl a5)] (r.toList ++ S) h') : PW G X 6 Q k n 100 [some (.inr a0), some (.inl a1), some (.inl a2), some (.inl a3), some (.inl a4), some (.inl a5)] (S) h := by
  refine pw_aload_n C dX7_sees_100 rfl ?_
  refine pw_iload C dX7_sees_101 rfl ?_
  refine pw_iload_n C dX7_sees_103 rfl ?_
  refine pw_iload_n C dX7_sees_104 rfl ?_
  exact pw_callV C (na := 3) (As := [.inl a5, .inl a3, .inl a1]) (S := S) hM t1 (by decide) (hcl := by rfl) kw770 kw772 kw18 kw45 kw773 (by decide +kernel) rfl dX7_sees_105 (by decide) (by decide) hk0 hn0 (by first | exact hS | (simp only [List.length_cons]; omega)) kk
set_option maxRecDepth 20000 in
theorem B_X7_sees_108 {G : Gx} {X : Cx} {h : PH} {k n : Nat} {Q : State → Prop} {S : List PV} {a0 : Nat} {a1 : Int} {a2 : Int} {a3 : Int} {a4 : Int} {a5 : Int} {s0 : Int} (C : CX_X7_sees G X) (q1 : pR s0 := by first | assumption | (unfold pR; omega)) (kt : ¬ s0 = 0 → PW G X 6 Q k n 115 [some (.inr a0), some (.inl a1), some (.inl a2), some (.inl a3), some (.inl a4), some (.inl a5)] (S) h) (kf : s0 = 0 → PW G X 6 Q k n 111 [some (.inr a0), some (.inl a1), some (.inl a2), some (.inl a3), some (.inl a4), some (.inl a5)] (S) h) : PW G X 6 Q k n 108 [some (.inr a0), some (.inl a1), some (.inl a2), some (.inl a3), some (.inl a4), some (.inl a5)] (.inl s0 :: S) h := by
  exact pw_if_ne C 115 dX7_sees_108 (by decide) q1 kt kf
set_option maxRecDepth 20000 in
theorem B_X7_sees_111 {G : Gx} {X : Cx} {h : PH} {k n : Nat} {Q : State → Prop} {S : List PV} {a0 : Nat} {a1 : Int} {a2 : Int} {a3 : Int} {a4 : Int} {a5 : Int} (C : CX_X7_sees G X) (kk : PW G X 6 Q k n 116 [some (.inr a0), some (.inl a1), some (.inl a2), some (.inl a3), some (.inl a4), some (.inl a5)] (.inl 1 :: S) h) : PW G X 6 Q k n 111 [some (.inr a0), some (.inl a1), some (.inl a2), some (.inl a3), some (.inl a4), some (.inl a5)] (S) h := by
  refine pw_iconst C dX7_sees_111 ?_
  refine pw_goto C 116 dX7_sees_112 (by decide) ?_
  exact kk
set_option maxRecDepth 20000 in
theorem B_X7_sees_115 {G : Gx} {X : Cx} {h : PH} {k n : Nat} {Q : State → Prop} {S : List PV} {a0 : Nat} {a1 : Int} {a2 : Int} {a3 : Int} {a4 : Int} {a5 : Int} (C : CX_X7_sees G X) (kk : PW G X 6 Q k n 116 [some (.inr a0), some (.inl a1), some (.inl a2), some (.inl a3), some (.inl a4), some (.inl a5)] (.inl 0 :: S) h) : PW G X 6 Q k n 115 [some (.inr a0), some (.inl a1), some (.inl a2), some (.inl a3), some (.inl a4), some (.inl a5)] (S) h := by
  refine pw_iconst C dX7_sees_115 ?_
  exact kk
set_option maxRecDepth 20000 in
theorem B_X7_sees_116 {G : Gx} {X : Cx} {h : PH} {k n : Nat} {a0 : Nat} {a1 : Int} {a2 : Int} {a3 : Int} {a4 : Int} {a5 : Int} {s0 : Int} {PQ : Option PV → PH → Prop} (C : CX_X7_sees G X) (q1 : (s0 : Int) = 0 ∨ (s0 : Int) = 1 := by omega) (hq : PQ (some (.inl s0)) h) : PW G X 6 (pw_E G X PQ k n) k n 116 [some (.inr a0), some (.inl a1), some (.inl a2), some (.inl a3), some (.inl a4), some (.inl a5)] [.inl s0] h := by
  exact pw_zreturn C dX7_sees_116 q1 hq
theorem dX7_mayStand_0 : decode cX7_mayStand 0 = .ok (.aload_n 0, 1) := by decide +kernel
theorem dX7_mayStand_1 : decode cX7_mayStand 1 = .ok (.getfield 7, 3) := by decide +kernel
theorem dX7_mayStand_4 : decode cX7_mayStand 4 = .ok (.sipush 489, 3) := by decide +kernel
theorem dX7_mayStand_7 : decode cX7_mayStand 7 = .ok (.iaload, 1) := by decide +kernel
theorem dX7_mayStand_8 : decode cX7_mayStand 8 = .ok (.ifCond .lt 30, 3) := by decide +kernel
theorem dX7_mayStand_11 : decode cX7_mayStand 11 = .ok (.iload_n 1, 1) := by decide +kernel
theorem dX7_mayStand_12 : decode cX7_mayStand 12 = .ok (.aload_n 0, 1) := by decide +kernel
theorem dX7_mayStand_13 : decode cX7_mayStand 13 = .ok (.getfield 7, 3) := by decide +kernel
theorem dX7_mayStand_16 : decode cX7_mayStand 16 = .ok (.sipush 489, 3) := by decide +kernel
theorem dX7_mayStand_19 : decode cX7_mayStand 19 = .ok (.iaload, 1) := by decide +kernel
theorem dX7_mayStand_20 : decode cX7_mayStand 20 = .ok (.aload_n 0, 1) := by decide +kernel
theorem dX7_mayStand_21 : decode cX7_mayStand 21 = .ok (.getfield 7, 3) := by decide +kernel
theorem dX7_mayStand_24 : decode cX7_mayStand 24 = .ok (.sipush 490, 3) := by decide +kernel
theorem dX7_mayStand_27 : decode cX7_mayStand 27 = .ok (.iaload, 1) := by decide +kernel
theorem dX7_mayStand_28 : decode cX7_mayStand 28 = .ok (.invokestatic 33, 3) := by decide +kernel
theorem dX7_mayStand_31 : decode cX7_mayStand 31 = .ok (.ifCond .eq 7, 3) := by decide +kernel
theorem dX7_mayStand_34 : decode cX7_mayStand 34 = .ok (.iconst 1, 1) := by decide +kernel
theorem dX7_mayStand_35 : decode cX7_mayStand 35 = .ok (.goto 4, 3) := by decide +kernel
theorem dX7_mayStand_38 : decode cX7_mayStand 38 = .ok (.iconst 0, 1) := by decide +kernel
theorem dX7_mayStand_39 : decode cX7_mayStand 39 = .ok (.istore 4, 2) := by decide +kernel
theorem dX7_mayStand_41 : decode cX7_mayStand 41 = .ok (.iload 4, 2) := by decide +kernel
theorem dX7_mayStand_43 : decode cX7_mayStand 43 = .ok (.ifCond .eq 9, 3) := by decide +kernel
theorem dX7_mayStand_46 : decode cX7_mayStand 46 = .ok (.iload_n 3, 1) := by decide +kernel
theorem dX7_mayStand_47 : decode cX7_mayStand 47 = .ok (.bipush 6, 2) := by decide +kernel
theorem dX7_mayStand_49 : decode cX7_mayStand 49 = .ok (.if_icmp .ne 20, 3) := by decide +kernel
theorem dX7_mayStand_52 : decode cX7_mayStand 52 = .ok (.aload_n 0, 1) := by decide +kernel
theorem dX7_mayStand_53 : decode cX7_mayStand 53 = .ok (.iload_n 2, 1) := by decide +kernel
theorem dX7_mayStand_54 : decode cX7_mayStand 54 = .ok (.invokestatic 58, 3) := by decide +kernel
theorem dX7_mayStand_57 : decode cX7_mayStand 57 = .ok (.iload_n 3, 1) := by decide +kernel
theorem dX7_mayStand_58 : decode cX7_mayStand 58 = .ok (.iload_n 1, 1) := by decide +kernel
theorem dX7_mayStand_59 : decode cX7_mayStand 59 = .ok (.invokevirtual 55, 3) := by decide +kernel
theorem dX7_mayStand_62 : decode cX7_mayStand 62 = .ok (.ifCond .ne 7, 3) := by decide +kernel
theorem dX7_mayStand_65 : decode cX7_mayStand 65 = .ok (.iconst 1, 1) := by decide +kernel
theorem dX7_mayStand_66 : decode cX7_mayStand 66 = .ok (.goto 4, 3) := by decide +kernel
theorem dX7_mayStand_69 : decode cX7_mayStand 69 = .ok (.iconst 0, 1) := by decide +kernel
theorem dX7_mayStand_70 : decode cX7_mayStand 70 = .ok (.ireturn, 1) := by decide +kernel
set_option maxRecDepth 20000 in
theorem B_X7_mayStand_0 {G : Gx} {X : Cx} {h : PH} {k n : Nat} {Q : State → Prop} {S : List PV} {a0 : Nat} {a1 : Int} {a2 : Int} {a3 : Int} {r2 : Nat} {x8 : Int} (C : CX_X7_mayStand G X) (t1 : ph_T h a0 = 7 := by first | assumption | rfl) (e3 : ph_R h a0 0 = r2 := by first | assumption | rfl) (t4 : ph_T h r2 = 8 := by first | assumption | rfl) (q5 : (0 : Int) ≤ 489 := by first | assumption | omega) (q6 : 489 < (ph_L h r2 : Int) := by first | assumption | omega) (q7 : pR 489 := by first | assumption | (unfold pR; omega)) (e9 : ph_I h r2 489 = x8 := by first | assumption | rfl) (q10 : pR x8 := by first | assumption | (unfold pR; omega)) (kt : x8 < 0 → PW G X 5 Q k n 38 [some (.inr a0), some (.inl a1), some (.inl a2), some (.inl a3), none] (S) h) (kf : ¬ x8 < 0 → PW G X 5 Q k n 11 [some (.inr a0), some (.inl a1), some (.inl a2), some (.inl a3), none] (S) h) : PW G X 5 Q k n 0 [some (.inr a0), some (.inl a1), some (.inl a2), some (.inl a3), none] (S) h := by
  refine pw_aload_n C dX7_mayStand_0 rfl ?_
  refine pw_getR C (t := 7) (f := 0) rfl inF7 rfl (by decide) (by decide) rfl kw678 dX7_mayStand_1 t1 ?_
  rw [e3]
  refine pw_sipush C dX7_mayStand_4 rfl ?_
  refine pw_iald C dX7_mayStand_7 t4 q5 q6 q7 ?_
  rw [show ph_I h r2 (Int.toNat 489) = x8 from e9]
  exact pw_if_lt C 38 dX7_mayStand_8 (by decide) q10 kt kf
set_option maxRecDepth 20000 in
theorem B_X7_mayStand_11 {G : Gx} {X : Cx} {h : PH} {k n : Nat} {Q : State → Prop} {S : List PV} {a0 : Nat} {a1 : Int} {a2 : Int} {a3 : Int} {r2 : Nat} {x8 : Int} {r11 : Nat} {x17 : Int} {PQ : Option PV → PH → Prop} (C : CX_X7_mayStand G X) (hk0 : k ≤ 0 := by decide) (hn0 : n ≤ 0 := by decide) (t1 : ph_T h a0 = 7 := by first | assumption | rfl) (e3 : ph_R h a0 0 = r2 := by first | assumption | rfl) (t4 : ph_T h r2 = 8 := by first | assumption | rfl) (q5 : (0 : Int) ≤ 489 := by first | assumption | omega) (q6 : 489 < (ph_L h r2 : Int) := by first | assumption | omega) (q7 : pR 489 := by first | assumption | (unfold pR; omega)) (e9 : ph_I h r2 489 = x8 := by first | assumption | rfl) (t10 : ph_T h a0 = 7 := by first | assumption | rfl) (e12 : ph_R h a0 0 = r11 := by first | assumption | rfl) (t13 : ph_T h r11 = 8 := by first | assumption | rfl) (q14 : (0 : Int) ≤ 490 := by first | assumption | omega) (q15 : 490 < (ph_L h r11 : Int) := by first | assumption | omega) (q16 : pR 490 := by first | assumption | (unfold pR; omega)) (e18 : ph_I h r11 490 = x17 := by first | assumption | rfl) (hM : CT_X7_in G X.2.1 [.inl a1, .inl x8, .inl x17] h PQ) (hS : S.length ≤ 8 := by decide) (kk : ∀ r h', PQ r h' → PW G X 5 Q k n 31 [some (.inr a0), some (.inl a1), some (.inl a2), some (.inl a3), none] (r.toList ++ S) h') : PW G X 5 Q k n 11 [some (.inr a0), some (.inl a1), some (.inl a2), some (.inl a3), none] (S) h := by
  refine pw_iload_n C dX7_mayStand_11 rfl ?_
  refine pw_aload_n C dX7_mayStand_12 rfl ?_
  refine pw_getR C (t := 7) (f := 0) rfl inF7 rfl (by decide) (by decide) rfl kw678 dX7_mayStand_13 t1 ?_
  rw [e3]
  refine pw_sipush C dX7_mayStand_16 rfl ?_
  refine pw_iald C dX7_mayStand_19 t4 q5 q6 q7 ?_
  rw [show ph_I h r2 (Int.toNat 489) = x8 from e9]
  refine pw_aload_n C dX7_mayStand_20 rfl ?_
  refine pw_getR C (t := 7) (f := 0) rfl inF7 rfl (by decide) (by decide) rfl kw678 dX7_mayStand_21 t10 ?_
  rw [e12]
  refine pw_sipush C dX7_mayStand_24 rfl ?_
  refine pw_iald C dX7_mayStand_27 t13 q14 q15 q16 ?_
  rw [show ph_I h r11 (Int.toNat 490) = x17 from e18]
  exact pw_callS C (na := 3) (As := [.inl a1, .inl x8, .inl x17]) (S := S) hM kw719 kw720 kw45 kw721 (by decide +kernel) rfl dX7_mayStand_28 (by decide) (by decide) hk0 hn0 (by first | exact hS | (simp only [List.length_cons]; omega)) kk
set_option maxRecDepth 20000 in
theorem B_X7_mayStand_31 {G : Gx} {X : Cx} {h : PH} {k n : Nat} {Q : State → Prop} {S : List PV} {a0 : Nat} {a1 : Int} {a2 : Int} {a3 : Int} {s0 : Int} (C : CX_X7_mayStand G X) (q1 : pR s0 := by first | assumption | (unfold pR; omega)) (kt : s0 = 0 → PW G X 5 Q k n 38 [some (.inr a0), some (.inl a1), some (.inl a2), some (.inl a3), none] (S) h) (kf : ¬ s0 = 0 → PW G X 5 Q k n 34 [some (.inr a0), some (.inl a1), some (.inl a2), some (.inl a3), none] (S) h) : PW G X 5 Q k n 31 [some (.inr a0), some (.inl a1), some (.inl a2), some (.inl a3), none] (.inl s0 :: S) h := by
  exact pw_if_eq C 38 dX7_mayStand_31 (by decide) q1 kt kf
set_option maxRecDepth 20000 in
theorem B_X7_mayStand_34 {G : Gx} {X : Cx} {h : PH} {k n : Nat} {Q : State → Prop} {S : List PV} {a0 : Nat} {a1 : Int} {a2 : Int} {a3 : Int} (C : CX_X7_mayStand G X) (kk : PW G X 5 Q k n 39 [some (.inr a0), some (.inl a1), some (.inl a2), some (.inl a3), none] (.inl 1 :: S) h) : PW G X 5 Q k n 34 [some (.inr a0), some (.inl a1), some (.inl a2), some (.inl a3), none] (S) h := by
  refine pw_iconst C dX7_mayStand_34 ?_
  refine pw_goto C 39 dX7_mayStand_35 (by decide) ?_
  exact kk
set_option maxRecDepth 20000 in
theorem B_X7_mayStand_38 {G : Gx} {X : Cx} {h : PH} {k n : Nat} {Q : State → Prop} {S : List PV} {a0 : Nat} {a1 : Int} {a2 : Int} {a3 : Int} (C : CX_X7_mayStand G X) (kk : PW G X 5 Q k n 39 [some (.inr a0), some (.inl a1), some (.inl a2), some (.inl a3), none] (.inl 0 :: S) h) : PW G X 5 Q k n 38 [some (.inr a0), some (.inl a1), some (.inl a2), some (.inl a3), none] (S) h := by
  refine pw_iconst C dX7_mayStand_38 ?_
  exact kk
set_option maxRecDepth 20000 in
theorem B_X7_mayStand_39 {G : Gx} {X : Cx} {h : PH} {k n : Nat} {Q : State → Prop} {S : List PV} {a0 : Nat} {a1 : Int} {a2 : Int} {a3 : Int} {s0 : Int} (C : CX_X7_mayStand G X) (q1 : pR s0 := by first | assumption | (unfold pR; omega)) (kt : s0 = 0 → PW G X 5 Q k n 52 [some (.inr a0), some (.inl a1), some (.inl a2), some (.inl a3), some (.inl s0)] (S) h) (kf : ¬ s0 = 0 → PW G X 5 Q k n 46 [some (.inr a0), some (.inl a1), some (.inl a2), some (.inl a3), some (.inl s0)] (S) h) : PW G X 5 Q k n 39 [some (.inr a0), some (.inl a1), some (.inl a2), some (.inl a3), none] (.inl s0 :: S) h := by
  refine pw_istore C dX7_mayStand_39 (by decide) ?_
  refine pw_iload C dX7_mayStand_41 rfl ?_
  exact pw_if_eq C 52 dX7_mayStand_43 (by decide) q1 kt kf
set_option maxRecDepth 20000 in
theorem B_X7_mayStand_46 {G : Gx} {X : Cx} {h : PH} {k n : Nat} {Q : State → Prop} {S : List PV} {a0 : Nat} {a1 : Int} {a2 : Int} {a3 : Int} {a4 : Int} (C : CX_X7_mayStand G X) (q1 : pR a3 := by first | assumption | (unfold pR; omega)) (q2 : pR 6 := by first | assumption | (unfold pR; omega)) (kt : ¬ a3 = 6 → PW G X 5 Q k n 69 [some (.inr a0), some (.inl a1), some (.inl a2), some (.inl a3), some (.inl a4)] (S) h) (kf : a3 = 6 → PW G X 5 Q k n 52 [some (.inr a0), some (.inl a1), some (.inl a2), some (.inl a3), some (.inl a4)] (S) h) : PW G X 5 Q k n 46 [some (.inr a0), some (.inl a1), some (.inl a2), some (.inl a3), some (.inl a4)] (S) h := by
  refine pw_iload_n C dX7_mayStand_46 rfl ?_
  refine pw_bipush C dX7_mayStand_47 rfl ?_
  exact pw_icmp_ne C 69 dX7_mayStand_49 (by decide) q1 q2 kt kf
set_option maxRecDepth 20000 in
theorem B_X7_mayStand_52 {G : Gx} {X : Cx} {h : PH} {k n : Nat} {Q : State → Prop} {S : List PV} {a0 : Nat} {a1 : Int} {a2 : Int} {a3 : Int} {a4 : Int} {PQ : Option PV → PH → Prop} (C : CX_X7_mayStand G X) (hk0 : k ≤ 0 := by decide) (hn0 : n ≤ 0 := by decide) (hM : CT_X7_sideOf G X.2.1 [.inl a2] h PQ) (hS : S.length ≤ 7 := by decide) (kk : ∀ r h', PQ r h' → PW G X 5 Q k n 57 [some (.inr a0), some (.inl a1), some (.inl a2), some (.inl a3), some (.inl a4)] (r.toList ++ (.inr a0 :: S)) h') : PW G X 5 Q k n 52 [some (.inr a0), some (.inl a1), some (.inl a2), some (.inl a3), some (.inl a4)] (S) h := by
  refine pw_aload_n C dX7_mayStand_52 rfl ?_
  refine pw_iload_n C dX7_mayStand_53 rfl ?_
  exact pw_callS C (na := 1) (As := [.inl a2]) (S := .inr a0 :: S) hM kw786 kw787 kw45 kw788 (by decide +kernel) rfl dX7_mayStand_54 (by decide) (by decide) hk0 hn0 (by first | exact hS | (simp only [List.length_cons]; omega)) kk
set_option maxRecDepth 20000 in
theorem B_X7_mayStand_57 {G : Gx} {X : Cx} {h : PH} {k n : Nat} {Q : State → Prop} {S : List PV} {a0 : Nat} {a1 : Int} {a2 : Int} {a3 : Int} {a4 : Int} {s0 : Int} {s1 : Nat} {PQ : Option PV → PH → Prop} (C : CX_X7_mayStand G X) (hk0 : k ≤ 0 := by decide) (hn0 : n ≤ 0 := by decide) (t1 : ph_T h s1 = 7 := by first | assumption | rfl) (hM : CT_X7_isBurnt G X.2.1 [.inr s1, .inl s0, .inl a3, .inl a1] h PQ) (hS : S.length ≤ 8 := by decide) (kk : ∀ r h', PQ r h' → PW G X 5 Q k n 62 [some (.inr a0), some (.inl a1), some (.inl a2), some (.inl a3), some (.inl a4)] (r.toList ++ S) h') : PW G X 5 Q k n 57 [some (.inr a0), some (.inl a1), some (.inl a2), some (.inl a3), some (.inl a4)] (.inl s0 :: .inr s1 :: S) h := by
  refine pw_iload_n C dX7_mayStand_57 rfl ?_
  refine pw_iload_n C dX7_mayStand_58 rfl ?_
  exact pw_callV C (na := 3) (As := [.inl s0, .inl a3, .inl a1]) (S := S) hM t1 (by decide) (hcl := by rfl) kw770 kw772 kw18 kw45 kw773 (by decide +kernel) rfl dX7_mayStand_59 (by decide) (by decide) hk0 hn0 (by first | exact hS | (simp only [List.length_cons]; omega)) kk
set_option maxRecDepth 20000 in
theorem B_X7_mayStand_62 {G : Gx} {X : Cx} {h : PH} {k n : Nat} {Q : State → Prop} {S : List PV} {a0 : Nat} {a1 : Int} {a2 : Int} {a3 : Int} {a4 : Int} {s0 : Int} (C : CX_X7_mayStand G X) (q1 : pR s0 := by first | assumption | (unfold pR; omega)) (kt : ¬ s0 = 0 → PW G X 5 Q k n 69 [some (.inr a0), some (.inl a1), some (.inl a2), some (.inl a3), some (.inl a4)] (S) h) (kf : s0 = 0 → PW G X 5 Q k n 65 [some (.inr a0), some (.inl a1), some (.inl a2), some (.inl a3), some (.inl a4)] (S) h) : PW G X 5 Q k n 62 [some (.inr a0), some (.inl a1), some (.inl a2), some (.inl a3), some (.inl a4)] (.inl s0 :: S) h := by
  exact pw_if_ne C 69 dX7_mayStand_62 (by decide) q1 kt kf
set_option maxRecDepth 20000 in
theorem B_X7_mayStand_65 {G : Gx} {X : Cx} {h : PH} {k n : Nat} {Q : State → Prop} {S : List PV} {a0 : Nat} {a1 : Int} {a2 : Int} {a3 : Int} {a4 : Int} (C : CX_X7_mayStand G X) (kk : PW G X 5 Q k n 70 [some (.inr a0), some (.inl a1), some (.inl a2), some (.inl a3), some (.inl a4)] (.inl 1 :: S) h) : PW G X 5 Q k n 65 [some (.inr a0), some (.inl a1), some (.inl a2), some (.inl a3), some (.inl a4)] (S) h := by
  refine pw_iconst C dX7_mayStand_65 ?_
  refine pw_goto C 70 dX7_mayStand_66 (by decide) ?_
  exact kk
set_option maxRecDepth 20000 in
theorem B_X7_mayStand_69 {G : Gx} {X : Cx} {h : PH} {k n : Nat} {Q : State → Prop} {S : List PV} {a0 : Nat} {a1 : Int} {a2 : Int} {a3 : Int} {a4 : Int} (C : CX_X7_mayStand G X) (kk : PW G X 5 Q k n 70 [some (.inr a0), some (.inl a1), some (.inl a2), some (.inl a3), some (.inl a4)] (.inl 0 :: S) h) : PW G X 5 Q k n 69 [some (.inr a0), some (.inl a1), some (.inl a2), some (.inl a3), some (.inl a4)] (S) h := by
  refine pw_iconst C dX7_mayStand_69 ?_
  exact kk
set_option maxRecDepth 20000 in
theorem B_X7_mayStand_70 {G : Gx} {X : Cx} {h : PH} {k n : Nat} {a0 : Nat} {a1 : Int} {a2 : Int} {a3 : Int} {a4 : Int} {s0 : Int} {PQ : Option PV → PH → Prop} (C : CX_X7_mayStand G X) (q1 : (s0 : Int) = 0 ∨ (s0 : Int) = 1 := by omega) (hq : PQ (some (.inl s0)) h) : PW G X 5 (pw_E G X PQ k n) k n 70 [some (.inr a0), some (.inl a1), some (.inl a2), some (.inl a3), some (.inl a4)] [.inl s0] h := by
  exact pw_zreturn C dX7_mayStand_70 q1 hq
theorem dX7_lastTick_0 : decode cX7_lastTick 0 = .ok (.aload_n 0, 1) := by decide +kernel
theorem dX7_lastTick_1 : decode cX7_lastTick 1 = .ok (.getfield 7, 3) := by decide +kernel
theorem dX7_lastTick_4 : decode cX7_lastTick 4 = .ok (.bipush 8, 2) := by decide +kernel
theorem dX7_lastTick_6 : decode cX7_lastTick 6 = .ok (.aload_n 0, 1) := by decide +kernel
theorem dX7_lastTick_7 : decode cX7_lastTick 7 = .ok (.getfield 61, 3) := by decide +kernel
theorem dX7_lastTick_10 : decode cX7_lastTick 10 = .ok (.iadd, 1) := by decide +kernel
theorem dX7_lastTick_11 : decode cX7_lastTick 11 = .ok (.iaload, 1) := by decide +kernel
theorem dX7_lastTick_12 : decode cX7_lastTick 12 = .ok (.aload_n 0, 1) := by decide +kernel
theorem dX7_lastTick_13 : decode cX7_lastTick 13 = .ok (.getfield 68, 3) := by decide +kernel
theorem dX7_lastTick_16 : decode cX7_lastTick 16 = .ok (.iadd, 1) := by decide +kernel
theorem dX7_lastTick_17 : decode cX7_lastTick 17 = .ok (.iconst 1, 1) := by decide +kernel
theorem dX7_lastTick_18 : decode cX7_lastTick 18 = .ok (.isub, 1) := by decide +kernel
theorem dX7_lastTick_19 : decode cX7_lastTick 19 = .ok (.ireturn, 1) := by decide +kernel
set_option maxRecDepth 20000 in
theorem B_X7_lastTick_0 {G : Gx} {X : Cx} {h : PH} {k n : Nat} {a0 : Nat} {r2 : Nat} {x5 : Int} {x11 : Int} {x14 : Int} {PQ : Option PV → PH → Prop} (C : CX_X7_lastTick G X) (t1 : ph_T h a0 = 7 := by first | assumption | rfl) (e3 : ph_R h a0 0 = r2 := by first | assumption | rfl) (t4 : ph_T h a0 = 7 := by first | assumption | rfl) (e6 : ph_I h a0 5 = x5 := by first | assumption | rfl) (t7 : ph_T h r2 = 8 := by first | assumption | rfl) (q8 : (0 : Int) ≤ 8 + x5 := by first | assumption | omega) (q9 : 8 + x5 < (ph_L h r2 : Int) := by first | assumption | omega) (q10 : pR (8 + x5) := by first | assumption | (unfold pR; omega)) (e12 : ph_I h r2 (Int.toNat (8 + x5)) = x11 := by first | assumption | rfl) (t13 : ph_T h a0 = 7 := by first | assumption | rfl) (e15 : ph_I h a0 6 = x14 := by first | assumption | rfl) (hq : PQ (some (.inl ((x11 + x14) - 1))) h) : PW G X 1 (pw_E G X PQ k n) k n 0 [some (.inr a0)] [] h := by
  refine pw_aload_n C dX7_lastTick_0 rfl ?_
  refine pw_getR C (t := 7) (f := 0) rfl inF7 rfl (by decide) (by decide) rfl kw678 dX7_lastTick_1 t1 ?_
  rw [e3]
  refine pw_bipush C dX7_lastTick_4 rfl ?_
  refine pw_aload_n C dX7_lastTick_6 rfl ?_
  refine pw_getI C (t := 7) (f := 5) rfl inF7 rfl (by decide) (by decide) rfl kw683 dX7_lastTick_7 t4 ?_
  rw [e6]
  refine pw_iadd C dX7_lastTick_10 ?_
  refine pw_iald C dX7_lastTick_11 t7 q8 q9 q10 ?_
  rw [e12]
  refine pw_aload_n C dX7_lastTick_12 rfl ?_
  refine pw_getI C (t := 7) (f := 6) rfl inF7 rfl (by decide) (by decide) rfl kw684 dX7_lastTick_13 t13 ?_
  rw [e15]
  refine pw_iadd C dX7_lastTick_16 ?_
  refine pw_iconst C dX7_lastTick_17 ?_
  refine pw_isub C dX7_lastTick_18 ?_
  exact pw_ireturn C dX7_lastTick_19 hq
theorem dX7_goTo_0 : decode cX7_goTo 0 = .ok (.iload 4, 2) := by decide +kernel
theorem dX7_goTo_2 : decode cX7_goTo 2 = .ok (.invokestatic 52, 3) := by decide +kernel
theorem dX7_goTo_5 : decode cX7_goTo 5 = .ok (.aload_n 0, 1) := by decide +kernel
theorem dX7_goTo_6 : decode cX7_goTo 6 = .ok (.getfield 7, 3) := by decide +kernel
theorem dX7_goTo_9 : decode cX7_goTo 9 = .ok (.sipush 308, 3) := by decide +kernel
theorem dX7_goTo_12 : decode cX7_goTo 12 = .ok (.aload_n 0, 1) := by decide +kernel
theorem dX7_goTo_13 : decode cX7_goTo 13 = .ok (.getfield 71, 3) := by decide +kernel
theorem dX7_goTo_16 : decode cX7_goTo 16 = .ok (.iadd, 1) := by decide +kernel
theorem dX7_goTo_17 : decode cX7_goTo 17 = .ok (.iaload, 1) := by decide +kernel
theorem dX7_goTo_18 : decode cX7_goTo 18 = .ok (.if_icmp .gt 14, 3) := by decide +kernel
theorem dX7_goTo_21 : decode cX7_goTo 21 = .ok (.iload 5, 2) := by decide +kernel
theorem dX7_goTo_23 : decode cX7_goTo 23 = .ok (.iconst 0, 1) := by decide +kernel
theorem dX7_goTo_24 : decode cX7_goTo 24 = .ok (.bipush 6, 2) := by decide +kernel
theorem dX7_goTo_26 : decode cX7_goTo 26 = .ok (.invokestatic 33, 3) := by decide +kernel
theorem dX7_goTo_29 : decode cX7_goTo 29 = .ok (.ifCond .ne 6, 3) := by decide +kernel
theorem dX7_goTo_32 : decode cX7_goTo 32 = .ok (.ldc 74, 2) := by decide +kernel
theorem dX7_goTo_34 : decode cX7_goTo 34 = .ok (.ireturn, 1) := by decide +kernel
theorem dX7_goTo_35 : decode cX7_goTo 35 = .ok (.aload_n 0, 1) := by decide +kernel
theorem dX7_goTo_36 : decode cX7_goTo 36 = .ok (.getfield 21, 3) := by decide +kernel
theorem dX7_goTo_39 : decode cX7_goTo 39 = .ok (.sipush 511, 3) := by decide +kernel
theorem dX7_goTo_42 : decode cX7_goTo 42 = .ok (.iload_n 1, 1) := by decide +kernel
theorem dX7_goTo_43 : decode cX7_goTo 43 = .ok (.iconst 1, 1) := by decide +kernel
theorem dX7_goTo_44 : decode cX7_goTo 44 = .ok (.iadd, 1) := by decide +kernel
theorem dX7_goTo_45 : decode cX7_goTo 45 = .ok (.imul, 1) := by decide +kernel
theorem dX7_goTo_46 : decode cX7_goTo 46 = .ok (.iload 4, 2) := by decide +kernel
theorem dX7_goTo_48 : decode cX7_goTo 48 = .ok (.iload 5, 2) := by decide +kernel
theorem dX7_goTo_50 : decode cX7_goTo 50 = .ok (.invokestatic 75, 3) := by decide +kernel
theorem dX7_goTo_53 : decode cX7_goTo 53 = .ok (.iadd, 1) := by decide +kernel
theorem dX7_goTo_54 : decode cX7_goTo 54 = .ok (.iaload, 1) := by decide +kernel
theorem dX7_goTo_55 : decode cX7_goTo 55 = .ok (.istore 6, 2) := by decide +kernel
theorem dX7_goTo_57 : decode cX7_goTo 57 = .ok (.iload 6, 2) := by decide +kernel
theorem dX7_goTo_59 : decode cX7_goTo 59 = .ok (.ldc 74, 2) := by decide +kernel
theorem dX7_goTo_61 : decode cX7_goTo 61 = .ok (.if_icmp .ne 8, 3) := by decide +kernel
theorem dX7_goTo_64 : decode cX7_goTo 64 = .ok (.ldc 74, 2) := by decide +kernel
theorem dX7_goTo_66 : decode cX7_goTo 66 = .ok (.goto 21, 3) := by decide +kernel
theorem dX7_goTo_69 : decode cX7_goTo 69 = .ok (.iload 6, 2) := by decide +kernel
theorem dX7_goTo_71 : decode cX7_goTo 71 = .ok (.iload 4, 2) := by decide +kernel
theorem dX7_goTo_73 : decode cX7_goTo 73 = .ok (.iload_n 2, 1) := by decide +kernel
theorem dX7_goTo_74 : decode cX7_goTo 74 = .ok (.isub, 1) := by decide +kernel
theorem dX7_goTo_75 : decode cX7_goTo 75 = .ok (.invokestatic 52, 3) := by decide +kernel
theorem dX7_goTo_78 : decode cX7_goTo 78 = .ok (.isub, 1) := by decide +kernel
theorem dX7_goTo_79 : decode cX7_goTo 79 = .ok (.iload 5, 2) := by decide +kernel
theorem dX7_goTo_81 : decode cX7_goTo 81 = .ok (.iload_n 3, 1) := by decide +kernel
theorem dX7_goTo_82 : decode cX7_goTo 82 = .ok (.isub, 1) := by decide +kernel
theorem dX7_goTo_83 : decode cX7_goTo 83 = .ok (.invokestatic 52, 3) := by decide +kernel
theorem dX7_goTo_86 : decode cX7_goTo 86 = .ok (.isub, 1) := by decide +kernel
theorem dX7_goTo_87 : decode cX7_goTo 87 = .ok (.ireturn, 1) := by decide +kernel
set_option maxRecDepth 20000 in
theorem B_X7_goTo_0 {G : Gx} {X : Cx} {h : PH} {k n : Nat} {Q : State → Prop} {S : List PV} {a0 : Nat} {a1 : Int} {a2 : Int} {a3 : Int} {a4 : Int} {a5 : Int} {PQ : Option PV → PH → Prop} (C : CX_X7_goTo G X) (hk0 : k ≤ 0 := by decide) (hn0 : n ≤ 0 := by decide) (hM : CT_X7_size G X.2.1 [.inl a4] h PQ) (hS : S.length ≤ 8 := by decide) (kk : ∀ r h', PQ r h' → PW G X 7 Q k n 5 [some (.inr a0), some (.inl a1), some (.inl a2), some (.inl a3), some (.inl a4), some (.inl a5), none] (r.toList ++ S) h') : PW G X 7 Q k n 0 [some (.inr a0), some (.inl a1), some (.inl a2), some (.inl a3), some (.inl a4), some (.inl a5), none] (S) h := by
  refine pw_iload C dX7_goTo_0 rfl ?_
  exact pw_callS C (na := 1) (As := [.inl a4]) (S := S) hM kw751 kw752 kw45 kw753 (by decide +kernel) rfl dX7_goTo_2 (by decide) (by decide) hk0 hn0 (by first | exact hS | (simp only [List.length_cons]; omega)) kk
set_option maxRecDepth 20000 in
theorem B_X7_goTo_5 {G : Gx} {X : Cx} {h : PH} {k n : Nat} {Q : State → Prop} {S : List PV} {a0 : Nat} {a1 : Int} {a2 : Int} {a3 : Int} {a4 : Int} {a5 : Int} {s0 : Int} {r2 : Nat} {x5 : Int} {x11 : Int} (C : CX_X7_goTo G X) (t1 : ph_T h a0 = 7 := by first | assumption | rfl) (e3 : ph_R h a0 0 = r2 := by first | assumption | rfl) (t4 : ph_T h a0 = 7 := by first | assumption | rfl) (e6 : ph_I h a0 4 = x5 := by first | assumption | rfl) (t7 : ph_T h r2 = 8 := by first | assumption | rfl) (q8 : (0 : Int) ≤ 308 + x5 := by first | assumption | omega) (q9 : 308 + x5 < (ph_L h r2 : Int) := by first | assumption | omega) (q10 : pR (308 + x5) := by first | assumption | (unfold pR; omega)) (e12 : ph_I h r2 (Int.toNat (308 + x5)) = x11 := by first | assumption | rfl) (q13 : pR s0 := by first | assumption | (unfold pR; omega)) (q14 : pR x11 := by first | assumption | (unfold pR; omega)) (kt : x11 < s0 → PW G X 7 Q k n 32 [some (.inr a0), some (.inl a1), some (.inl a2), some (.inl a3), some (.inl a4), some (.inl a5), none] (S) h) (kf : ¬ x11 < s0 → PW G X 7 Q k n 21 [some (.inr a0), some (.inl a1), some (.inl a2), some (.inl a3), some (.inl a4), some (.inl a5), none] (S) h) : PW G X 7 Q k n 5 [some (.inr a0), some (.inl a1), some (.inl a2), some (.inl a3), some (.inl a4), some (.inl a5), none] (.inl s0 :: S) h := by
  refine pw_aload_n C dX7_goTo_5 rfl ?_
  refine pw_getR C (t := 7) (f := 0) rfl inF7 rfl (by decide) (by decide) rfl kw678 dX7_goTo_6 t1 ?_
  rw [e3]
  refine pw_sipush C dX7_goTo_9 rfl ?_
  refine pw_aload_n C dX7_goTo_12 rfl ?_
  refine pw_getI C (t := 7) (f := 4) rfl inF7 rfl (by decide) (by decide) rfl kw682 dX7_goTo_13 t4 ?_
  rw [e6]
  refine pw_iadd C dX7_goTo_16 ?_
  refine pw_iald C dX7_goTo_17 t7 q8 q9 q10 ?_
  rw [e12]
  exact pw_icmp_gt C 32 dX7_goTo_18 (by decide) q13 q14 kt kf
set_option maxRecDepth 20000 in
theorem B_X7_goTo_21 {G : Gx} {X : Cx} {h : PH} {k n : Nat} {Q : State → Prop} {S : List PV} {a0 : Nat} {a1 : Int} {a2 : Int} {a3 : Int} {a4 : Int} {a5 : Int} {PQ : Option PV → PH → Prop} (C : CX_X7_goTo G X) (hk0 : k ≤ 0 := by decide) (hn0 : n ≤ 0 := by decide) (hM : CT_X7_in G X.2.1 [.inl a5, .inl 0, .inl 6] h PQ) (hS : S.length ≤ 8 := by decide) (kk : ∀ r h', PQ r h' → PW G X 7 Q k n 29 [some (.inr a0), some (.inl a1), some (.inl a2), some (.inl a3), some (.inl a4), some (.inl a5), none] (r.toList ++ S) h') : PW G X 7 Q k n 21 [some (.inr a0), some (.inl a1), some (.inl a2), some (.inl a3), some (.inl a4), some (.inl a5), none] (S) h := by
  refine pw_iload C dX7_goTo_21 rfl ?_
  refine pw_iconst C dX7_goTo_23 ?_
  refine pw_bipush C dX7_goTo_24 rfl ?_
  exact pw_callS C (na := 3) (As := [.inl a5, .inl 0, .inl 6]) (S := S) hM kw719 kw720 kw45 kw721 (by decide +kernel) rfl dX7_goTo_26 (by decide) (by decide) hk0 hn0 (by first | exact hS | (simp only [List.length_cons]; omega)) kk
set_option maxRecDepth 20000 in
theorem B_X7_goTo_29 {G : Gx} {X : Cx} {h : PH} {k n : Nat} {Q : State → Prop} {S : List PV} {a0 : Nat} {a1 : Int} {a2 : Int} {a3 : Int} {a4 : Int} {a5 : Int} {s0 : Int} (C : CX_X7_goTo G X) (q1 : pR s0 := by first | assumption | (unfold pR; omega)) (kt : ¬ s0 = 0 → PW G X 7 Q k n 35 [some (.inr a0), some (.inl a1), some (.inl a2), some (.inl a3), some (.inl a4), some (.inl a5), none] (S) h) (kf : s0 = 0 → PW G X 7 Q k n 32 [some (.inr a0), some (.inl a1), some (.inl a2), some (.inl a3), some (.inl a4), some (.inl a5), none] (S) h) : PW G X 7 Q k n 29 [some (.inr a0), some (.inl a1), some (.inl a2), some (.inl a3), some (.inl a4), some (.inl a5), none] (.inl s0 :: S) h := by
  exact pw_if_ne C 35 dX7_goTo_29 (by decide) q1 kt kf
set_option maxRecDepth 20000 in
theorem B_X7_goTo_32 {G : Gx} {X : Cx} {h : PH} {k n : Nat} {a0 : Nat} {a1 : Int} {a2 : Int} {a3 : Int} {a4 : Int} {a5 : Int} {PQ : Option PV → PH → Prop} (C : CX_X7_goTo G X) (hq : PQ (some (.inl (-1000000))) h) : PW G X 7 (pw_E G X PQ k n) k n 32 [some (.inr a0), some (.inl a1), some (.inl a2), some (.inl a3), some (.inl a4), some (.inl a5), none] [] h := by
  refine pw_ldc C (z := -1000000) kw809 rfl dX7_goTo_32 ?_
  exact pw_ireturn C dX7_goTo_34 hq
set_option maxRecDepth 20000 in
theorem B_X7_goTo_35 {G : Gx} {X : Cx} {h : PH} {k n : Nat} {Q : State → Prop} {S : List PV} {a0 : Nat} {a1 : Int} {a2 : Int} {a3 : Int} {a4 : Int} {a5 : Int} {r2 : Nat} {PQ : Option PV → PH → Prop} (C : CX_X7_goTo G X) (hk0 : k ≤ 0 := by decide) (hn0 : n ≤ 0 := by decide) (t1 : ph_T h a0 = 7 := by first | assumption | rfl) (e3 : ph_R h a0 3 = r2 := by first | assumption | rfl) (hM : CT_X7_placeOf G X.2.1 [.inl a4, .inl a5] h PQ) (hS : S.length ≤ 6 := by decide) (kk : ∀ r h', PQ r h' → PW G X 7 Q k n 53 [some (.inr a0), some (.inl a1), some (.inl a2), some (.inl a3), some (.inl a4), some (.inl a5), none] (r.toList ++ (.inl (511 * (a1 + 1)) :: .inr r2 :: S)) h') : PW G X 7 Q k n 35 [some (.inr a0), some (.inl a1), some (.inl a2), some (.inl a3), some (.inl a4), some (.inl a5), none] (S) h := by
  refine pw_aload_n C dX7_goTo_35 rfl ?_
  refine pw_getR C (t := 7) (f := 3) rfl inF7 rfl (by decide) (by decide) rfl kw681 dX7_goTo_36 t1 ?_
  rw [e3]
  refine pw_sipush C dX7_goTo_39 rfl ?_
  refine pw_iload_n C dX7_goTo_42 rfl ?_
  refine pw_iconst C dX7_goTo_43 ?_
  refine pw_iadd C dX7_goTo_44 ?_
  refine pw_imul C dX7_goTo_45 ?_
  refine pw_iload C dX7_goTo_46 rfl ?_
  refine pw_iload C dX7_goTo_48 rfl ?_
  exact pw_callS C (na := 2) (As := [.inl a4, .inl a5]) (S := .inl (511 * (a1 + 1)) :: .inr r2 :: S) hM kw810 kw811 kw45 kw812 (by decide +kernel) rfl dX7_goTo_50 (by decide) (by decide) hk0 hn0 (by first | exact hS | (simp only [List.length_cons]; omega)) kk
set_option maxRecDepth 20000 in
theorem B_X7_goTo_53 {G : Gx} {X : Cx} {h : PH} {k n : Nat} {Q : State → Prop} {S : List PV} {a0 : Nat} {a1 : Int} {a2 : Int} {a3 : Int} {a4 : Int} {a5 : Int} {s0 : Int} {s1 : Int} {s2 : Nat} {x5 : Int} (C : CX_X7_goTo G X) (t1 : ph_T h s2 = 8 := by first | assumption | rfl) (q2 : (0 : Int) ≤ s1 + s0 := by first | assumption | omega) (q3 : s1 + s0 < (ph_L h s2 : Int) := by first | assumption | omega) (q4 : pR (s1 + s0) := by first | assumption | (unfold pR; omega)) (e6 : ph_I h s2 (Int.toNat (s1 + s0)) = x5 := by first | assumption | rfl) (q7 : pR x5 := by first | assumption | (unfold pR; omega)) (q8 : pR (-1000000) := by first | assumption | (unfold pR; omega)) (kt : ¬ x5 = (-1000000) → PW G X 7 Q k n 69 [some (.inr a0), some (.inl a1), some (.inl a2), some (.inl a3), some (.inl a4), some (.inl a5), some (.inl x5)] (S) h) (kf : x5 = (-1000000) → PW G X 7 Q k n 64 [some (.inr a0), some (.inl a1), some (.inl a2), some (.inl a3), some (.inl a4), some (.inl a5), some (.inl x5)] (S) h) : PW G X 7 Q k n 53 [some (.inr a0), some (.inl a1), some (.inl a2), some (.inl a3), some (.inl a4), some (.inl a5), none] (.inl s0 :: .inl s1 :: .inr s2 :: S) h := by
  refine pw_iadd C dX7_goTo_53 ?_
  refine pw_iald C dX7_goTo_54 t1 q2 q3 q4 ?_
  rw [e6]
  refine pw_istore C dX7_goTo_55 (by decide) ?_
  refine pw_iload C dX7_goTo_57 rfl ?_
  refine pw_ldc C (z := -1000000) kw809 rfl dX7_goTo_59 ?_
  exact pw_icmp_ne C 69 dX7_goTo_61 (by decide) q7 q8 kt kf
set_option maxRecDepth 20000 in
theorem B_X7_goTo_64 {G : Gx} {X : Cx} {h : PH} {k n : Nat} {Q : State → Prop} {S : List PV} {a0 : Nat} {a1 : Int} {a2 : Int} {a3 : Int} {a4 : Int} {a5 : Int} {a6 : Int} (C : CX_X7_goTo G X) (kk : PW G X 7 Q k n 87 [some (.inr a0), some (.inl a1), some (.inl a2), some (.inl a3), some (.inl a4), some (.inl a5), some (.inl a6)] (.inl (-1000000) :: S) h) : PW G X 7 Q k n 64 [some (.inr a0), some (.inl a1), some (.inl a2), some (.inl a3), some (.inl a4), some (.inl a5), some (.inl a6)] (S) h := by
  refine pw_ldc C (z := -1000000) kw809 rfl dX7_goTo_64 ?_
  refine pw_goto C 87 dX7_goTo_66 (by decide) ?_
  exact kk
set_option maxRecDepth 20000 in
theorem B_X7_goTo_69 {G : Gx} {X : Cx} {h : PH} {k n : Nat} {Q : State → Prop} {S : List PV} {a0 : Nat} {a1 : Int} {a2 : Int} {a3 : Int} {a4 : Int} {a5 : Int} {a6 : Int} {PQ : Option PV → PH → Prop} (C : CX_X7_goTo G X) (hk0 : k ≤ 0 := by decide) (hn0 : n ≤ 0 := by decide) (hM : CT_X7_size G X.2.1 [.inl (a4 - a2)] h PQ) (hS : S.length ≤ 7 := by decide) (kk : ∀ r h', PQ r h' → PW G X 7 Q k n 78 [some (.inr a0), some (.inl a1), some (.inl a2), some (.inl a3), some (.inl a4), some (.inl a5), some (.inl a6)] (r.toList ++ (.inl a6 :: S)) h') : PW G X 7 Q k n 69 [some (.inr a0), some (.inl a1), some (.inl a2), some (.inl a3), some (.inl a4), some (.inl a5), some (.inl a6)] (S) h := by
  refine pw_iload C dX7_goTo_69 rfl ?_
  refine pw_iload C dX7_goTo_71 rfl ?_
  refine pw_iload_n C dX7_goTo_73 rfl ?_
  refine pw_isub C dX7_goTo_74 ?_
  exact pw_callS C (na := 1) (As := [.inl (a4 - a2)]) (S := .inl a6 :: S) hM kw751 kw752 kw45 kw753 (by decide +kernel) rfl dX7_goTo_75 (by decide) (by decide) hk0 hn0 (by first | exact hS | (simp only [List.length_cons]; omega)) kk
set_option maxRecDepth 20000 in
theorem B_X7_goTo_78 {G : Gx} {X : Cx} {h : PH} {k n : Nat} {Q : State → Prop} {S : List PV} {a0 : Nat} {a1 : Int} {a2 : Int} {a3 : Int} {a4 : Int} {a5 : Int} {a6 : Int} {s0 : Int} {s1 : Int} {PQ : Option PV → PH → Prop} (C : CX_X7_goTo G X) (hk0 : k ≤ 0 := by decide) (hn0 : n ≤ 0 := by decide) (hM : CT_X7_size G X.2.1 [.inl (a5 - a3)] h PQ) (hS : S.length ≤ 7 := by decide) (kk : ∀ r h', PQ r h' → PW G X 7 Q k n 86 [some (.inr a0), some (.inl a1), some (.inl a2), some (.inl a3), some (.inl a4), some (.inl a5), some (.inl a6)] (r.toList ++ (.inl (s1 - s0) :: S)) h') : PW G X 7 Q k n 78 [some (.inr a0), some (.inl a1), some (.inl a2), some (.inl a3), some (.inl a4), some (.inl a5), some (.inl a6)] (.inl s0 :: .inl s1 :: S) h := by
  refine pw_isub C dX7_goTo_78 ?_
  refine pw_iload C dX7_goTo_79 rfl ?_
  refine pw_iload_n C dX7_goTo_81 rfl ?_
  refine pw_isub C dX7_goTo_82 ?_
  exact pw_callS C (na := 1) (As := [.inl (a5 - a3)]) (S := .inl (s1 - s0) :: S) hM kw751 kw752 kw45 kw753 (by decide +kernel) rfl dX7_goTo_83 (by decide) (by decide) hk0 hn0 (by first | exact hS | (simp only [List.length_cons]; omega)) kk
set_option maxRecDepth 20000 in
theorem B_X7_goTo_86 {G : Gx} {X : Cx} {h : PH} {k n : Nat} {Q : State → Prop} {S : List PV} {a0 : Nat} {a1 : Int} {a2 : Int} {a3 : Int} {a4 : Int} {a5 : Int} {a6 : Int} {s0 : Int} {s1 : Int} (C : CX_X7_goTo G X) (kk : PW G X 7 Q k n 87 [some (.inr a0), some (.inl a1), some (.inl a2), some (.inl a3), some (.inl a4), some (.inl a5), some (.inl a6)] (.inl (s1 - s0) :: S) h) : PW G X 7 Q k n 86 [some (.inr a0), some (.inl a1), some (.inl a2), some (.inl a3), some (.inl a4), some (.inl a5), some (.inl a6)] (.inl s0 :: .inl s1 :: S) h := by
  refine pw_isub C dX7_goTo_86 ?_
  exact kk
set_option maxRecDepth 20000 in
theorem B_X7_goTo_87 {G : Gx} {X : Cx} {h : PH} {k n : Nat} {a0 : Nat} {a1 : Int} {a2 : Int} {a3 : Int} {a4 : Int} {a5 : Int} {a6 : Int} {s0 : Int} {PQ : Option PV → PH → Prop} (C : CX_X7_goTo G X) (hq : PQ (some (.inl s0)) h) : PW G X 7 (pw_E G X PQ k n) k n 87 [some (.inr a0), some (.inl a1), some (.inl a2), some (.inl a3), some (.inl a4), some (.inl a5), some (.inl a6)] [.inl s0] h := by
  exact pw_ireturn C dX7_goTo_87 hq
theorem dX7_from_0 : decode cX7_from 0 = .ok (.aload_n 0, 1) := by decide +kernel
theorem dX7_from_1 : decode cX7_from 1 = .ok (.iload_n 1, 1) := by decide +kernel
theorem dX7_from_2 : decode cX7_from 2 = .ok (.iload_n 2, 1) := by decide +kernel
theorem dX7_from_3 : decode cX7_from 3 = .ok (.iload_n 3, 1) := by decide +kernel
theorem dX7_from_4 : decode cX7_from 4 = .ok (.invokevirtual 79, 3) := by decide +kernel
theorem dX7_from_7 : decode cX7_from 7 = .ok (.ifCond .eq 9, 3) := by decide +kernel
theorem dX7_from_10 : decode cX7_from 10 = .ok (.sipush 10000, 3) := by decide +kernel
theorem dX7_from_13 : decode cX7_from 13 = .ok (.goto 4, 3) := by decide +kernel
theorem dX7_from_16 : decode cX7_from 16 = .ok (.iconst 0, 1) := by decide +kernel
theorem dX7_from_17 : decode cX7_from 17 = .ok (.istore 4, 2) := by decide +kernel
theorem dX7_from_19 : decode cX7_from 19 = .ok (.iload_n 1, 1) := by decide +kernel
theorem dX7_from_20 : decode cX7_from 20 = .ok (.aload_n 0, 1) := by decide +kernel
theorem dX7_from_21 : decode cX7_from 21 = .ok (.invokevirtual 82, 3) := by decide +kernel
theorem dX7_from_24 : decode cX7_from 24 = .ok (.if_icmp .ne 6, 3) := by decide +kernel
theorem dX7_from_27 : decode cX7_from 27 = .ok (.iload 4, 2) := by decide +kernel
theorem dX7_from_29 : decode cX7_from 29 = .ok (.ireturn, 1) := by decide +kernel
theorem dX7_from_30 : decode cX7_from 30 = .ok (.ldc 74, 2) := by decide +kernel
theorem dX7_from_32 : decode cX7_from 32 = .ok (.istore 5, 2) := by decide +kernel
theorem dX7_from_34 : decode cX7_from 34 = .ok (.aload_n 0, 1) := by decide +kernel
theorem dX7_from_35 : decode cX7_from 35 = .ok (.getfield 7, 3) := by decide +kernel
theorem dX7_from_38 : decode cX7_from 38 = .ok (.sipush 312, 3) := by decide +kernel
theorem dX7_from_41 : decode cX7_from 41 = .ok (.aload_n 0, 1) := by decide +kernel
theorem dX7_from_42 : decode cX7_from 42 = .ok (.getfield 71, 3) := by decide +kernel
theorem dX7_from_45 : decode cX7_from 45 = .ok (.iadd, 1) := by decide +kernel
theorem dX7_from_46 : decode cX7_from 46 = .ok (.iaload, 1) := by decide +kernel
theorem dX7_from_47 : decode cX7_from 47 = .ok (.istore 6, 2) := by decide +kernel
theorem dX7_from_49 : decode cX7_from 49 = .ok (.iload_n 2, 1) := by decide +kernel
theorem dX7_from_50 : decode cX7_from 50 = .ok (.iload 6, 2) := by decide +kernel
theorem dX7_from_52 : decode cX7_from 52 = .ok (.isub, 1) := by decide +kernel
theorem dX7_from_53 : decode cX7_from 53 = .ok (.istore 7, 2) := by decide +kernel
theorem dX7_from_55 : decode cX7_from 55 = .ok (.iload 7, 2) := by decide +kernel
theorem dX7_from_57 : decode cX7_from 57 = .ok (.iload_n 2, 1) := by decide +kernel
theorem dX7_from_58 : decode cX7_from 58 = .ok (.iload 6, 2) := by decide +kernel
theorem dX7_from_60 : decode cX7_from 60 = .ok (.iadd, 1) := by decide +kernel
theorem dX7_from_61 : decode cX7_from 61 = .ok (.if_icmp .gt 57, 3) := by decide +kernel
theorem dX7_from_64 : decode cX7_from 64 = .ok (.iload_n 3, 1) := by decide +kernel
theorem dX7_from_65 : decode cX7_from 65 = .ok (.iconst 1, 1) := by decide +kernel
theorem dX7_from_66 : decode cX7_from 66 = .ok (.isub, 1) := by decide +kernel
theorem dX7_from_67 : decode cX7_from 67 = .ok (.istore 8, 2) := by decide +kernel
theorem dX7_from_69 : decode cX7_from 69 = .ok (.iload 8, 2) := by decide +kernel
theorem dX7_from_71 : decode cX7_from 71 = .ok (.iload_n 3, 1) := by decide +kernel
theorem dX7_from_72 : decode cX7_from 72 = .ok (.iconst 1, 1) := by decide +kernel
theorem dX7_from_73 : decode cX7_from 73 = .ok (.iadd, 1) := by decide +kernel
theorem dX7_from_74 : decode cX7_from 74 = .ok (.if_icmp .gt 38, 3) := by decide +kernel
theorem dX7_from_77 : decode cX7_from 77 = .ok (.aload_n 0, 1) := by decide +kernel
theorem dX7_from_78 : decode cX7_from 78 = .ok (.iload_n 1, 1) := by decide +kernel
theorem dX7_from_79 : decode cX7_from 79 = .ok (.iload_n 2, 1) := by decide +kernel
theorem dX7_from_80 : decode cX7_from 80 = .ok (.iload_n 3, 1) := by decide +kernel
theorem dX7_from_81 : decode cX7_from 81 = .ok (.iload 7, 2) := by decide +kernel
theorem dX7_from_83 : decode cX7_from 83 = .ok (.iload 8, 2) := by decide +kernel
theorem dX7_from_85 : decode cX7_from 85 = .ok (.invokevirtual 86, 3) := by decide +kernel
theorem dX7_from_88 : decode cX7_from 88 = .ok (.istore 9, 2) := by decide +kernel
theorem dX7_from_90 : decode cX7_from 90 = .ok (.iload 9, 2) := by decide +kernel
theorem dX7_from_92 : decode cX7_from 92 = .ok (.iload 5, 2) := by decide +kernel
theorem dX7_from_94 : decode cX7_from 94 = .ok (.if_icmp .le 8, 3) := by decide +kernel
theorem dX7_from_97 : decode cX7_from 97 = .ok (.iload 9, 2) := by decide +kernel
theorem dX7_from_99 : decode cX7_from 99 = .ok (.goto 5, 3) := by decide +kernel
theorem dX7_from_102 : decode cX7_from 102 = .ok (.iload 5, 2) := by decide +kernel
theorem dX7_from_104 : decode cX7_from 104 = .ok (.istore 5, 2) := by decide +kernel
theorem dX7_from_106 : decode cX7_from 106 = .ok (.iinc 8 1, 3) := by decide +kernel
theorem dX7_from_109 : decode cX7_from 109 = .ok (.goto (-40), 3) := by decide +kernel
theorem dX7_from_112 : decode cX7_from 112 = .ok (.iinc 7 1, 3) := by decide +kernel
theorem dX7_from_115 : decode cX7_from 115 = .ok (.goto (-60), 3) := by decide +kernel
theorem dX7_from_118 : decode cX7_from 118 = .ok (.iload 5, 2) := by decide +kernel
theorem dX7_from_120 : decode cX7_from 120 = .ok (.ldc 74, 2) := by decide +kernel
theorem dX7_from_122 : decode cX7_from 122 = .ok (.if_icmp .ne 8, 3) := by decide +kernel
theorem dX7_from_125 : decode cX7_from 125 = .ok (.ldc 74, 2) := by decide +kernel
theorem dX7_from_127 : decode cX7_from 127 = .ok (.goto 8, 3) := by decide +kernel
theorem dX7_from_130 : decode cX7_from 130 = .ok (.iload 5, 2) := by decide +kernel
theorem dX7_from_132 : decode cX7_from 132 = .ok (.iload 4, 2) := by decide +kernel
theorem dX7_from_134 : decode cX7_from 134 = .ok (.iadd, 1) := by decide +kernel
theorem dX7_from_135 : decode cX7_from 135 = .ok (.ireturn, 1) := by decide +kernel
set_option maxRecDepth 20000 in
theorem B_X7_from_0 {G : Gx} {X : Cx} {h : PH} {k n : Nat} {Q : State → Prop} {S : List PV} {a0 : Nat} {a1 : Int} {a2 : Int} {a3 : Int} {PQ : Option PV → PH → Prop} (C : CX_X7_from G X) (hk0 : k ≤ 0 := by decide) (hn0 : n ≤ 0 := by decide) (t1 : ph_T h a0 = 7 := by first | assumption | rfl) (hM : CT_X7_sees G X.2.1 [.inr a0, .inl a1, .inl a2, .inl a3] h PQ) (hS : S.length ≤ 8 := by decide) (kk : ∀ r h', PQ r h' → PW G X 10 Q k n 7 [some (.inr a0), some (.inl a1), some (.inl a2), some (.inl a3), none, none, none, none, none, none] (r.toList ++ S) h') : PW G X 10 Q k n 0 [some (.inr a0), some (.inl a1), some (.inl a2), some (.inl a3), none, none, none, none, none, none] (S) h := by
  refine pw_aload_n C dX7_from_0 rfl ?_
  refine pw_iload_n C dX7_from_1 rfl ?_
  refine pw_iload_n C dX7_from_2 rfl ?_
  refine pw_iload_n C dX7_from_3 rfl ?_
  exact pw_callV C (na := 3) (As := [.inl a1, .inl a2, .inl a3]) (S := S) hM t1 (by decide) (hcl := by rfl) kw821 kw823 kw25 kw45 kw824 (by decide +kernel) rfl dX7_from_4 (by decide) (by decide) hk0 hn0 (by first | exact hS | (simp only [List.length_cons]; omega)) kk
set_option maxRecDepth 20000 in
theorem B_X7_from_7 {G : Gx} {X : Cx} {h : PH} {k n : Nat} {Q : State → Prop} {S : List PV} {a0 : Nat} {a1 : Int} {a2 : Int} {a3 : Int} {s0 : Int} (C : CX_X7_from G X) (q1 : pR s0 := by first | assumption | (unfold pR; omega)) (kt : s0 = 0 → PW G X 10 Q k n 16 [some (.inr a0), some (.inl a1), some (.inl a2), some (.inl a3), none, none, none, none, none, none] (S) h) (kf : ¬ s0 = 0 → PW G X 10 Q k n 10 [some (.inr a0), some (.inl a1), some (.inl a2), some (.inl a3), none, none, none, none, none, none] (S) h) : PW G X 10 Q k n 7 [some (.inr a0), some (.inl a1), some (.inl a2), some (.inl a3), none, none, none, none, none, none] (.inl s0 :: S) h := by
  exact pw_if_eq C 16 dX7_from_7 (by decide) q1 kt kf
set_option maxRecDepth 20000 in
theorem B_X7_from_10 {G : Gx} {X : Cx} {h : PH} {k n : Nat} {Q : State → Prop} {S : List PV} {a0 : Nat} {a1 : Int} {a2 : Int} {a3 : Int} (C : CX_X7_from G X) (kk : PW G X 10 Q k n 17 [some (.inr a0), some (.inl a1), some (.inl a2), some (.inl a3), none, none, none, none, none, none] (.inl 10000 :: S) h) : PW G X 10 Q k n 10 [some (.inr a0), some (.inl a1), some (.inl a2), some (.inl a3), none, none, none, none, none, none] (S) h := by
  refine pw_sipush C dX7_from_10 rfl ?_
  refine pw_goto C 17 dX7_from_13 (by decide) ?_
  exact kk
set_option maxRecDepth 20000 in
theorem B_X7_from_16 {G : Gx} {X : Cx} {h : PH} {k n : Nat} {Q : State → Prop} {S : List PV} {a0 : Nat} {a1 : Int} {a2 : Int} {a3 : Int} (C : CX_X7_from G X) (kk : PW G X 10 Q k n 17 [some (.inr a0), some (.inl a1), some (.inl a2), some (.inl a3), none, none, none, none, none, none] (.inl 0 :: S) h) : PW G X 10 Q k n 16 [some (.inr a0), some (.inl a1), some (.inl a2), some (.inl a3), none, none, none, none, none, none] (S) h := by
  refine pw_iconst C dX7_from_16 ?_
  exact kk
set_option maxRecDepth 20000 in
theorem B_X7_from_17 {G : Gx} {X : Cx} {h : PH} {k n : Nat} {Q : State → Prop} {S : List PV} {a0 : Nat} {a1 : Int} {a2 : Int} {a3 : Int} {s0 : Int} {PQ : Option PV → PH → Prop} (C : CX_X7_from G X) (hk0 : k ≤ 0 := by decide) (hn0 : n ≤ 0 := by decide) (t1 : ph_T h a0 = 7 := by first | assumption | rfl) (hM : CT_X7_lastTick G X.2.1 [.inr a0] h PQ) (hS : S.length ≤ 7 := by decide) (kk : ∀ r h', PQ r h' → PW G X 10 Q k n 24 [some (.inr a0), some (.inl a1), some (.inl a2), some (.inl a3), some (.inl s0), none, none, none, none, none] (r.toList ++ (.inl a1 :: S)) h') : PW G X 10 Q k n 17 [some (.inr a0), some (.inl a1), some (.inl a2), some (.inl a3), none, none, none, none, none, none] (.inl s0 :: S) h := by
  refine pw_istore C dX7_from_17 (by decide) ?_
  refine pw_iload_n C dX7_from_19 rfl ?_
  refine pw_aload_n C dX7_from_20 rfl ?_
  exact pw_callV C (na := 0) (As := []) (S := .inl a1 :: S) hM t1 (by decide) (hcl := by rfl) kw805 kw807 kw22 kw45 kw808 (by decide +kernel) rfl dX7_from_21 (by decide) (by decide) hk0 hn0 (by first | exact hS | (simp only [List.length_cons]; omega)) kk
set_option maxRecDepth 20000 in
theorem B_X7_from_24 {G : Gx} {X : Cx} {h : PH} {k n : Nat} {Q : State → Prop} {S : List PV} {a0 : Nat} {a1 : Int} {a2 : Int} {a3 : Int} {a4 : Int} {s0 : Int} {s1 : Int} (C : CX_X7_from G X) (q1 : pR s1 := by first | assumption | (unfold pR; omega)) (q2 : pR s0 := by first | assumption | (unfold pR; omega)) (kt : ¬ s1 = s0 → PW G X 10 Q k n 30 [some (.inr a0), some (.inl a1), some (.inl a2), some (.inl a3), some (.inl a4), none, none, none, none, none] (S) h) (kf : s1 = s0 → PW G X 10 Q k n 27 [some (.inr a0), some (.inl a1), some (.inl a2), some (.inl a3), some (.inl a4), none, none, none, none, none] (S) h) : PW G X 10 Q k n 24 [some (.inr a0), some (.inl a1), some (.inl a2), some (.inl a3), some (.inl a4), none, none, none, none, none] (.inl s0 :: .inl s1 :: S) h := by
  exact pw_icmp_ne C 30 dX7_from_24 (by decide) q1 q2 kt kf
set_option maxRecDepth 20000 in
theorem B_X7_from_27 {G : Gx} {X : Cx} {h : PH} {k n : Nat} {a0 : Nat} {a1 : Int} {a2 : Int} {a3 : Int} {a4 : Int} {PQ : Option PV → PH → Prop} (C : CX_X7_from G X) (hq : PQ (some (.inl a4)) h) : PW G X 10 (pw_E G X PQ k n) k n 27 [some (.inr a0), some (.inl a1), some (.inl a2), some (.inl a3), some (.inl a4), none, none, none, none, none] [] h := by
  refine pw_iload C dX7_from_27 rfl ?_
  exact pw_ireturn C dX7_from_29 hq
set_option maxRecDepth 20000 in
theorem B_X7_from_30 {G : Gx} {X : Cx} {h : PH} {k n : Nat} {Q : State → Prop} {S : List PV} {a0 : Nat} {a1 : Int} {a2 : Int} {a3 : Int} {a4 : Int} {r2 : Nat} {x5 : Int} {x11 : Int} (C : CX_X7_from G X) (t1 : ph_T h a0 = 7 := by first | assumption | rfl) (e3 : ph_R h a0 0 = r2 := by first | assumption | rfl) (t4 : ph_T h a0 = 7 := by first | assumption | rfl) (e6 : ph_I h a0 4 = x5 := by first | assumption | rfl) (t7 : ph_T h r2 = 8 := by first | assumption | rfl) (q8 : (0 : Int) ≤ 312 + x5 := by first | assumption | omega) (q9 : 312 + x5 < (ph_L h r2 : Int) := by first | assumption | omega) (q10 : pR (312 + x5) := by first | assumption | (unfold pR; omega)) (e12 : ph_I h r2 (Int.toNat (312 + x5)) = x11 := by first | assumption | rfl) (kk : PW G X 10 Q k n 55 [some (.inr a0), some (.inl a1), some (.inl a2), some (.inl a3), some (.inl a4), some (.inl (-1000000)), some (.inl x11), some (.inl (a2 - x11)), none, none] (S) h) : PW G X 10 Q k n 30 [some (.inr a0), some (.inl a1), some (.inl a2), some (.inl a3), some (.inl a4), none, none, none, none, none] (S) h := by
  refine pw_ldc C (z := -1000000) kw809 rfl dX7_from_30 ?_
  refine pw_istore C dX7_from_32 (by decide) ?_
  refine pw_aload_n C dX7_from_34 rfl ?_
  refine pw_getR C (t := 7) (f := 0) rfl inF7 rfl (by decide) (by decide) rfl kw678 dX7_from_35 t1 ?_
  rw [e3]
  refine pw_sipush C dX7_from_38 rfl ?_
  refine pw_aload_n C dX7_from_41 rfl ?_
  refine pw_getI C (t := 7) (f := 4) rfl inF7 rfl (by decide) (by decide) rfl kw682 dX7_from_42 t4 ?_
  rw [e6]
  refine pw_iadd C dX7_from_45 ?_
  refine pw_iald C dX7_from_46 t7 q8 q9 q10 ?_
  rw [e12]
  refine pw_istore C dX7_from_47 (by decide) ?_
  refine pw_iload_n C dX7_from_49 rfl ?_
  refine pw_iload C dX7_from_50 rfl ?_
  refine pw_isub C dX7_from_52 ?_
  refine pw_istore C dX7_from_53 (by decide) ?_
  exact kk
set_option maxRecDepth 20000 in
theorem B_X7_from_55 {G : Gx} {X : Cx} {h : PH} {k n : Nat} {Q : State → Prop} {S : List PV} {a0 : Nat} {a1 : Int} {a2 : Int} {a3 : Int} {a4 : Int} {a5 : Int} {a6 : Int} {a7 : Int} (C : CX_X7_from G X) (q1 : pR a7 := by first | assumption | (unfold pR; omega)) (q2 : pR (a2 + a6) := by first | assumption | (unfold pR; omega)) (kt : a2 + a6 < a7 → PW G X 10 Q k n 118 [some (.inr a0), some (.inl a1), some (.inl a2), some (.inl a3), some (.inl a4), some (.inl a5), some (.inl a6), some (.inl a7), none, none] (S) h) (kf : ¬ a2 + a6 < a7 → PW G X 10 Q k n 64 [some (.inr a0), some (.inl a1), some (.inl a2), some (.inl a3), some (.inl a4), some (.inl a5), some (.inl a6), some (.inl a7), none, none] (S) h) : PW G X 10 Q k n 55 [some (.inr a0), some (.inl a1), some (.inl a2), some (.inl a3), some (.inl a4), some (.inl a5), some (.inl a6), some (.inl a7), none, none] (S) h := by
  refine pw_iload C dX7_from_55 rfl ?_
  refine pw_iload_n C dX7_from_57 rfl ?_
  refine pw_iload C dX7_from_58 rfl ?_
  refine pw_iadd C dX7_from_60 ?_
  exact pw_icmp_gt C 118 dX7_from_61 (by decide) q1 q2 kt kf
set_option maxRecDepth 20000 in
theorem B_X7_from_64 {G : Gx} {X : Cx} {h : PH} {k n : Nat} {Q : State → Prop} {S : List PV} {a0 : Nat} {a1 : Int} {a2 : Int} {a3 : Int} {a4 : Int} {a5 : Int} {a6 : Int} {a7 : Int} (C : CX_X7_from G X) (kk : PW G X 10 Q k n 69 [some (.inr a0), some (.inl a1), some (.inl a2), some (.inl a3), some (.inl a4), some (.inl a5), some (.inl a6), some (.inl a7), some (.inl (a3 - 1)), none] (S) h) : PW G X 10 Q k n 64 [some (.inr a0), some (.inl a1), some (.inl a2), some (.inl a3), some (.inl a4), some (.inl a5), some (.inl a6), some (.inl a7), none, none] (S) h := by
  refine pw_iload_n C dX7_from_64 rfl ?_
  refine pw_iconst C dX7_from_65 ?_
  refine pw_isub C dX7_from_66 ?_
  refine pw_istore C dX7_from_67 (by decide) ?_
  exact kk
set_option maxRecDepth 20000 in
theorem B_X7_from_69 {G : Gx} {X : Cx} {h : PH} {k n : Nat} {Q : State → Prop} {S : List PV} {a0 : Nat} {a1 : Int} {a2 : Int} {a3 : Int} {a4 : Int} {a5 : Int} {a6 : Int} {a7 : Int} {a8 : Int} (C : CX_X7_from G X) (q1 : pR a8 := by first | assumption | (unfold pR; omega)) (q2 : pR (a3 + 1) := by first | assumption | (unfold pR; omega)) (kt : a3 + 1 < a8 → PW G X 10 Q k n 112 [some (.inr a0), some (.inl a1), some (.inl a2), some (.inl a3), some (.inl a4), some (.inl a5), some (.inl a6), some (.inl a7), some (.inl a8), none] (S) h) (kf : ¬ a3 + 1 < a8 → PW G X 10 Q k n 77 [some (.inr a0), some (.inl a1), some (.inl a2), some (.inl a3), some (.inl a4), some (.inl a5), some (.inl a6), some (.inl a7), some (.inl a8), none] (S) h) : PW G X 10 Q k n 69 [some (.inr a0), some (.inl a1), some (.inl a2), some (.inl a3), some (.inl a4), some (.inl a5), some (.inl a6), some (.inl a7), some (.inl a8), none] (S) h := by
  refine pw_iload C dX7_from_69 rfl ?_
  refine pw_iload_n C dX7_from_71 rfl ?_
  refine pw_iconst C dX7_from_72 ?_
  refine pw_iadd C dX7_from_73 ?_
  exact pw_icmp_gt C 112 dX7_from_74 (by decide) q1 q2 kt kf
set_option maxRecDepth 20000 in
theorem B_X7_from_77 {G : Gx} {X : Cx} {h : PH} {k n : Nat} {Q : State → Prop} {S : List PV} {a0 : Nat} {a1 : Int} {a2 : Int} {a3 : Int} {a4 : Int} {a5 : Int} {a6 : Int} {a7 : Int} {a8 : Int} {PQ : Option PV → PH → Prop} (C : CX_X7_from G X) (hk0 : k ≤ 0 := by decide) (hn0 : n ≤ 0 := by decide) (t1 : ph_T h a0 = 7 := by first | assumption | rfl) (hM : CT_X7_goTo G X.2.1 [.inr a0, .inl a1, .inl a2, .inl a3, .inl a7, .inl a8] h PQ) (hS : S.length ≤ 8 := by decide) (kk : ∀ r h', PQ r h' → PW G X 10 Q k n 88 [some (.inr a0), some (.inl a1), some (.inl a2), some (.inl a3), some (.inl a4), some (.inl a5), some (.inl a6), some (.inl a7), some (.inl a8), none] (r.toList ++ S) h') : PW G X 10 Q k n 77 [some (.inr a0), some (.inl a1), some (.inl a2), some (.inl a3), some (.inl a4), some (.inl a5), some (.inl a6), some (.inl a7), some (.inl a8), none] (S) h := by
  refine pw_aload_n C dX7_from_77 rfl ?_
  refine pw_iload_n C dX7_from_78 rfl ?_
  refine pw_iload_n C dX7_from_79 rfl ?_
  refine pw_iload_n C dX7_from_80 rfl ?_
  refine pw_iload C dX7_from_81 rfl ?_
  refine pw_iload C dX7_from_83 rfl ?_
  exact pw_callV C (na := 5) (As := [.inl a1, .inl a2, .inl a3, .inl a7, .inl a8]) (S := S) hM t1 (by decide) (hcl := by rfl) kw825 kw827 kw26 kw45 kw828 (by decide +kernel) rfl dX7_from_85 (by decide) (by decide) hk0 hn0 (by first | exact hS | (simp only [List.length_cons]; omega)) kk
set_option maxRecDepth 20000 in
theorem B_X7_from_88 {G : Gx} {X : Cx} {h : PH} {k n : Nat} {Q : State → Prop} {S : List PV} {a0 : Nat} {a1 : Int} {a2 : Int} {a3 : Int} {a4 : Int} {a5 : Int} {a6 : Int} {a7 : Int} {a8 : Int} {s0 : Int} (C : CX_X7_from G X) (q1 : pR s0 := by first | assumption | (unfold pR; omega)) (q2 : pR a5 := by first | assumption | (unfold pR; omega)) (kt : s0 ≤ a5 → PW G X 10 Q k n 102 [some (.inr a0), some (.inl a1), some (.inl a2), some (.inl a3), some (.inl a4), some (.inl a5), some (.inl a6), some (.inl a7), some (.inl a8), some (.inl s0)] (S) h) (kf : ¬ s0 ≤ a5 → PW G X 10 Q k n 97 [some (.inr a0), some (.inl a1), some (.inl a2), some (.inl a3), some (.inl a4), some (.inl a5), some (.inl a6), some (.inl a7), some (.inl a8), some (.inl s0)] (S) h) : PW G X 10 Q k n 88 [some (.inr a0), some (.inl a1), some (.inl a2), some (.inl a3), some (.inl a4), some (.inl a5), some (.inl a6), some (.inl a7), some (.inl a8), none] (.inl s0 :: S) h := by
  refine pw_istore C dX7_from_88 (by decide) ?_
  refine pw_iload C dX7_from_90 rfl ?_
  refine pw_iload C dX7_from_92 rfl ?_
  exact pw_icmp_le C 102 dX7_from_94 (by decide) q1 q2 kt kf
set_option maxRecDepth 20000 in
theorem B_X7_from_97 {G : Gx} {X : Cx} {h : PH} {k n : Nat} {Q : State → Prop} {S : List PV} {a0 : Nat} {a1 : Int} {a2 : Int} {a3 : Int} {a4 : Int} {a5 : Int} {a6 : Int} {a7 : Int} {a8 : Int} {a9 : Int} (C : CX_X7_from G X) (kk : PW G X 10 Q k n 104 [some (.inr a0), some (.inl a1), some (.inl a2), some (.inl a3), some (.inl a4), some (.inl a5), some (.inl a6), some (.inl a7), some (.inl a8), some (.inl a9)] (.inl a9 :: S) h) : PW G X 10 Q k n 97 [some (.inr a0), some (.inl a1), some (.inl a2), some (.inl a3), some (.inl a4), some (.inl a5), some (.inl a6), some (.inl a7), some (.inl a8), some (.inl a9)] (S) h := by
  refine pw_iload C dX7_from_97 rfl ?_
  refine pw_goto C 104 dX7_from_99 (by decide) ?_
  exact kk
set_option maxRecDepth 20000 in
theorem B_X7_from_102 {G : Gx} {X : Cx} {h : PH} {k n : Nat} {Q : State → Prop} {S : List PV} {a0 : Nat} {a1 : Int} {a2 : Int} {a3 : Int} {a4 : Int} {a5 : Int} {a6 : Int} {a7 : Int} {a8 : Int} {a9 : Int} (C : CX_X7_from G X) (kk : PW G X 10 Q k n 104 [some (.inr a0), some (.inl a1), some (.inl a2), some (.inl a3), some (.inl a4), some (.inl a5), some (.inl a6), some (.inl a7), some (.inl a8), some (.inl a9)] (.inl a5 :: S) h) : PW G X 10 Q k n 102 [some (.inr a0), some (.inl a1), some (.inl a2), some (.inl a3), some (.inl a4), some (.inl a5), some (.inl a6), some (.inl a7), some (.inl a8), some (.inl a9)] (S) h := by
  refine pw_iload C dX7_from_102 rfl ?_
  exact kk
set_option maxRecDepth 20000 in
theorem B_X7_from_104 {G : Gx} {X : Cx} {h : PH} {k n : Nat} {Q : State → Prop} {S : List PV} {a0 : Nat} {a1 : Int} {a2 : Int} {a3 : Int} {a4 : Int} {a5 : Int} {a6 : Int} {a7 : Int} {a8 : Int} {a9 : Int} {s0 : Int} (C : CX_X7_from G X) (kk : PW G X 10 Q k n 69 [some (.inr a0), some (.inl a1), some (.inl a2), some (.inl a3), some (.inl a4), some (.inl s0), some (.inl a6), some (.inl a7), some (.inl (a8 + 1)), none] (S) h) : PW G X 10 Q k n 104 [some (.inr a0), some (.inl a1), some (.inl a2), some (.inl a3), some (.inl a4), some (.inl a5), some (.inl a6), some (.inl a7), some (.inl a8), some (.inl a9)] (.inl s0 :: S) h := by
  refine pw_istore C dX7_from_104 (by decide) ?_
  refine pw_iinc C dX7_from_106 rfl (by decide) ?_
  refine pw_goto C 69 dX7_from_109 (by decide) ?_
  exact pw_weak [true, true, true, true, true, true, true, true, true, false] kk
set_option maxRecDepth 20000 in
theorem B_X7_from_112 {G : Gx} {X : Cx} {h : PH} {k n : Nat} {Q : State → Prop} {S : List PV} {a0 : Nat} {a1 : Int} {a2 : Int} {a3 : Int} {a4 : Int} {a5 : Int} {a6 : Int} {a7 : Int} {a8 : Int} (C : CX_X7_from G X) (kk : PW G X 10 Q k n 55 [some (.inr a0), some (.inl a1), some (.inl a2), some (.inl a3), some (.inl a4), some (.inl a5), some (.inl a6), some (.inl (a7 + 1)), none, none] (S) h) : PW G X 10 Q k n 112 [some (.inr a0), some (.inl a1), some (.inl a2), some (.inl a3), some (.inl a4), some (.inl a5), some (.inl a6), some (.inl a7), some (.inl a8), none] (S) h := by
  refine pw_iinc C dX7_from_112 rfl (by decide) ?_
  refine pw_goto C 55 dX7_from_115 (by decide) ?_
  exact pw_weak [true, true, true, true, true, true, true, true, false, true] kk
set_option maxRecDepth 20000 in
theorem B_X7_from_118 {G : Gx} {X : Cx} {h : PH} {k n : Nat} {Q : State → Prop} {S : List PV} {a0 : Nat} {a1 : Int} {a2 : Int} {a3 : Int} {a4 : Int} {a5 : Int} {a6 : Int} {a7 : Int} (C : CX_X7_from G X) (q1 : pR a5 := by first | assumption | (unfold pR; omega)) (q2 : pR (-1000000) := by first | assumption | (unfold pR; omega)) (kt : ¬ a5 = (-1000000) → PW G X 10 Q k n 130 [some (.inr a0), some (.inl a1), some (.inl a2), some (.inl a3), some (.inl a4), some (.inl a5), some (.inl a6), some (.inl a7), none, none] (S) h) (kf : a5 = (-1000000) → PW G X 10 Q k n 125 [some (.inr a0), some (.inl a1), some (.inl a2), some (.inl a3), some (.inl a4), some (.inl a5), some (.inl a6), some (.inl a7), none, none] (S) h) : PW G X 10 Q k n 118 [some (.inr a0), some (.inl a1), some (.inl a2), some (.inl a3), some (.inl a4), some (.inl a5), some (.inl a6), some (.inl a7), none, none] (S) h := by
  refine pw_iload C dX7_from_118 rfl ?_
  refine pw_ldc C (z := -1000000) kw809 rfl dX7_from_120 ?_
  exact pw_icmp_ne C 130 dX7_from_122 (by decide) q1 q2 kt kf
set_option maxRecDepth 20000 in
theorem B_X7_from_125 {G : Gx} {X : Cx} {h : PH} {k n : Nat} {Q : State → Prop} {S : List PV} {a0 : Nat} {a1 : Int} {a2 : Int} {a3 : Int} {a4 : Int} {a5 : Int} {a6 : Int} {a7 : Int} (C : CX_X7_from G X) (kk : PW G X 10 Q k n 135 [some (.inr a0), some (.inl a1), some (.inl a2), some (.inl a3), some (.inl a4), some (.inl a5), some (.inl a6), some (.inl a7), none, none] (.inl (-1000000) :: S) h) : PW G X 10 Q k n 125 [some (.inr a0), some (.inl a1), some (.inl a2), some (.inl a3), some (.inl a4), some (.inl a5), some (.inl a6), some (.inl a7), none, none] (S) h := by
  refine pw_ldc C (z := -1000000) kw809 rfl dX7_from_125 ?_
  refine pw_goto C 135 dX7_from_127 (by decide) ?_
  exact kk
set_option maxRecDepth 20000 in
theorem B_X7_from_130 {G : Gx} {X : Cx} {h : PH} {k n : Nat} {Q : State → Prop} {S : List PV} {a0 : Nat} {a1 : Int} {a2 : Int} {a3 : Int} {a4 : Int} {a5 : Int} {a6 : Int} {a7 : Int} (C : CX_X7_from G X) (kk : PW G X 10 Q k n 135 [some (.inr a0), some (.inl a1), some (.inl a2), some (.inl a3), some (.inl a4), some (.inl a5), some (.inl a6), some (.inl a7), none, none] (.inl (a5 + a4) :: S) h) : PW G X 10 Q k n 130 [some (.inr a0), some (.inl a1), some (.inl a2), some (.inl a3), some (.inl a4), some (.inl a5), some (.inl a6), some (.inl a7), none, none] (S) h := by
  refine pw_iload C dX7_from_130 rfl ?_
  refine pw_iload C dX7_from_132 rfl ?_
  refine pw_iadd C dX7_from_134 ?_
  exact kk
set_option maxRecDepth 20000 in
theorem B_X7_from_135 {G : Gx} {X : Cx} {h : PH} {k n : Nat} {a0 : Nat} {a1 : Int} {a2 : Int} {a3 : Int} {a4 : Int} {a5 : Int} {a6 : Int} {a7 : Int} {s0 : Int} {PQ : Option PV → PH → Prop} (C : CX_X7_from G X) (hq : PQ (some (.inl s0)) h) : PW G X 10 (pw_E G X PQ k n) k n 135 [some (.inr a0), some (.inl a1), some (.inl a2), some (.inl a3), some (.inl a4), some (.inl a5), some (.inl a6), some (.inl a7), none, none] [.inl s0] h := by
  exact pw_ireturn C dX7_from_135 hq
theorem dX7_lay_0 : decode cX7_lay 0 = .ok (.aload_n 0, 1) := by decide +kernel
theorem dX7_lay_1 : decode cX7_lay 1 = .ok (.iload_n 1, 1) := by decide +kernel
theorem dX7_lay_2 : decode cX7_lay 2 = .ok (.putfield 71, 3) := by decide +kernel
theorem dX7_lay_5 : decode cX7_lay 5 = .ok (.aload_n 0, 1) := by decide +kernel
theorem dX7_lay_6 : decode cX7_lay 6 = .ok (.iload_n 2, 1) := by decide +kernel
theorem dX7_lay_7 : decode cX7_lay 7 = .ok (.putfield 61, 3) := by decide +kernel
theorem dX7_lay_10 : decode cX7_lay 10 = .ok (.aload_n 0, 1) := by decide +kernel
theorem dX7_lay_11 : decode cX7_lay 11 = .ok (.iload 4, 2) := by decide +kernel
theorem dX7_lay_13 : decode cX7_lay 13 = .ok (.putfield 68, 3) := by decide +kernel
theorem dX7_lay_16 : decode cX7_lay 16 = .ok (.aload_n 0, 1) := by decide +kernel
theorem dX7_lay_17 : decode cX7_lay 17 = .ok (.iload_n 3, 1) := by decide +kernel
theorem dX7_lay_18 : decode cX7_lay 18 = .ok (.putfield 65, 3) := by decide +kernel
theorem dX7_lay_21 : decode cX7_lay 21 = .ok (.aload_n 0, 1) := by decide +kernel
theorem dX7_lay_22 : decode cX7_lay 22 = .ok (.getfield 7, 3) := by decide +kernel
theorem dX7_lay_25 : decode cX7_lay 25 = .ok (.sipush 304, 3) := by decide +kernel
theorem dX7_lay_28 : decode cX7_lay 28 = .ok (.iload_n 1, 1) := by decide +kernel
theorem dX7_lay_29 : decode cX7_lay 29 = .ok (.iadd, 1) := by decide +kernel
theorem dX7_lay_30 : decode cX7_lay 30 = .ok (.iaload, 1) := by decide +kernel
theorem dX7_lay_31 : decode cX7_lay 31 = .ok (.istore 5, 2) := by decide +kernel
theorem dX7_lay_33 : decode cX7_lay 33 = .ok (.iload 4, 2) := by decide +kernel
theorem dX7_lay_35 : decode cX7_lay 35 = .ok (.ifCond .eq 12, 3) := by decide +kernel
theorem dX7_lay_38 : decode cX7_lay 38 = .ok (.iload 5, 2) := by decide +kernel
theorem dX7_lay_40 : decode cX7_lay 40 = .ok (.aload_n 0, 1) := by decide +kernel
theorem dX7_lay_41 : decode cX7_lay 41 = .ok (.invokevirtual 82, 3) := by decide +kernel
theorem dX7_lay_44 : decode cX7_lay 44 = .ok (.if_icmp .le 6, 3) := by decide +kernel
theorem dX7_lay_47 : decode cX7_lay 47 = .ok (.ldc 74, 2) := by decide +kernel
theorem dX7_lay_49 : decode cX7_lay 49 = .ok (.ireturn, 1) := by decide +kernel
theorem dX7_lay_50 : decode cX7_lay 50 = .ok (.aload_n 0, 1) := by decide +kernel
theorem dX7_lay_51 : decode cX7_lay 51 = .ok (.getfield 7, 3) := by decide +kernel
theorem dX7_lay_54 : decode cX7_lay 54 = .ok (.sipush 308, 3) := by decide +kernel
theorem dX7_lay_57 : decode cX7_lay 57 = .ok (.iload_n 1, 1) := by decide +kernel
theorem dX7_lay_58 : decode cX7_lay 58 = .ok (.iadd, 1) := by decide +kernel
theorem dX7_lay_59 : decode cX7_lay 59 = .ok (.iaload, 1) := by decide +kernel
theorem dX7_lay_60 : decode cX7_lay 60 = .ok (.istore 6, 2) := by decide +kernel
theorem dX7_lay_62 : decode cX7_lay 62 = .ok (.aload_n 0, 1) := by decide +kernel
theorem dX7_lay_63 : decode cX7_lay 63 = .ok (.invokevirtual 82, 3) := by decide +kernel
theorem dX7_lay_66 : decode cX7_lay 66 = .ok (.istore 7, 2) := by decide +kernel
theorem dX7_lay_68 : decode cX7_lay 68 = .ok (.iload 7, 2) := by decide +kernel
theorem dX7_lay_70 : decode cX7_lay 70 = .ok (.iload 5, 2) := by decide +kernel
theorem dX7_lay_72 : decode cX7_lay 72 = .ok (.if_icmp .le 90, 3) := by decide +kernel
theorem dX7_lay_75 : decode cX7_lay 75 = .ok (.iload 6, 2) := by decide +kernel
theorem dX7_lay_77 : decode cX7_lay 77 = .ok (.ineg, 1) := by decide +kernel
theorem dX7_lay_78 : decode cX7_lay 78 = .ok (.istore 8, 2) := by decide +kernel
theorem dX7_lay_80 : decode cX7_lay 80 = .ok (.iload 8, 2) := by decide +kernel
theorem dX7_lay_82 : decode cX7_lay 82 = .ok (.iload 6, 2) := by decide +kernel
theorem dX7_lay_84 : decode cX7_lay 84 = .ok (.if_icmp .gt 72, 3) := by decide +kernel
theorem dX7_lay_87 : decode cX7_lay 87 = .ok (.iconst 0, 1) := by decide +kernel
theorem dX7_lay_88 : decode cX7_lay 88 = .ok (.istore 9, 2) := by decide +kernel
theorem dX7_lay_90 : decode cX7_lay 90 = .ok (.iload 9, 2) := by decide +kernel
theorem dX7_lay_92 : decode cX7_lay 92 = .ok (.bipush 6, 2) := by decide +kernel
theorem dX7_lay_94 : decode cX7_lay 94 = .ok (.if_icmp .gt 56, 3) := by decide +kernel
theorem dX7_lay_97 : decode cX7_lay 97 = .ok (.aload_n 0, 1) := by decide +kernel
theorem dX7_lay_98 : decode cX7_lay 98 = .ok (.getfield 21, 3) := by decide +kernel
theorem dX7_lay_101 : decode cX7_lay 101 = .ok (.sipush 511, 3) := by decide +kernel
theorem dX7_lay_104 : decode cX7_lay 104 = .ok (.iload 7, 2) := by decide +kernel
theorem dX7_lay_106 : decode cX7_lay 106 = .ok (.imul, 1) := by decide +kernel
theorem dX7_lay_107 : decode cX7_lay 107 = .ok (.iload 8, 2) := by decide +kernel
theorem dX7_lay_109 : decode cX7_lay 109 = .ok (.iload 9, 2) := by decide +kernel
theorem dX7_lay_111 : decode cX7_lay 111 = .ok (.invokestatic 75, 3) := by decide +kernel
theorem dX7_lay_114 : decode cX7_lay 114 = .ok (.iadd, 1) := by decide +kernel
theorem dX7_lay_115 : decode cX7_lay 115 = .ok (.aload_n 0, 1) := by decide +kernel
theorem dX7_lay_116 : decode cX7_lay 116 = .ok (.iload 7, 2) := by decide +kernel
theorem dX7_lay_118 : decode cX7_lay 118 = .ok (.iload 8, 2) := by decide +kernel
theorem dX7_lay_120 : decode cX7_lay 120 = .ok (.iload 9, 2) := by decide +kernel
theorem dX7_lay_122 : decode cX7_lay 122 = .ok (.invokevirtual 90, 3) := by decide +kernel
theorem dX7_lay_125 : decode cX7_lay 125 = .ok (.ifCond .eq 16, 3) := by decide +kernel
theorem dX7_lay_128 : decode cX7_lay 128 = .ok (.aload_n 0, 1) := by decide +kernel
theorem dX7_lay_129 : decode cX7_lay 129 = .ok (.iload 7, 2) := by decide +kernel
theorem dX7_lay_131 : decode cX7_lay 131 = .ok (.iload 8, 2) := by decide +kernel
theorem dX7_lay_133 : decode cX7_lay 133 = .ok (.iload 9, 2) := by decide +kernel
theorem dX7_lay_135 : decode cX7_lay 135 = .ok (.invokevirtual 93, 3) := by decide +kernel
theorem dX7_lay_138 : decode cX7_lay 138 = .ok (.goto 5, 3) := by decide +kernel
theorem dX7_lay_141 : decode cX7_lay 141 = .ok (.ldc 74, 2) := by decide +kernel
theorem dX7_lay_143 : decode cX7_lay 143 = .ok (.iastore, 1) := by decide +kernel
theorem dX7_lay_144 : decode cX7_lay 144 = .ok (.iinc 9 1, 3) := by decide +kernel
theorem dX7_lay_147 : decode cX7_lay 147 = .ok (.goto (-57), 3) := by decide +kernel
theorem dX7_lay_150 : decode cX7_lay 150 = .ok (.iinc 8 1, 3) := by decide +kernel
theorem dX7_lay_153 : decode cX7_lay 153 = .ok (.goto (-73), 3) := by decide +kernel
theorem dX7_lay_156 : decode cX7_lay 156 = .ok (.iinc 7 (-1), 3) := by decide +kernel
theorem dX7_lay_159 : decode cX7_lay 159 = .ok (.goto (-91), 3) := by decide +kernel
theorem dX7_lay_162 : decode cX7_lay 162 = .ok (.aload_n 0, 1) := by decide +kernel
theorem dX7_lay_163 : decode cX7_lay 163 = .ok (.iload 5, 2) := by decide +kernel
theorem dX7_lay_165 : decode cX7_lay 165 = .ok (.aload_n 0, 1) := by decide +kernel
theorem dX7_lay_166 : decode cX7_lay 166 = .ok (.getfield 7, 3) := by decide +kernel
theorem dX7_lay_169 : decode cX7_lay 169 = .ok (.sipush 296, 3) := by decide +kernel
theorem dX7_lay_172 : decode cX7_lay 172 = .ok (.iload_n 1, 1) := by decide +kernel
theorem dX7_lay_173 : decode cX7_lay 173 = .ok (.iadd, 1) := by decide +kernel
theorem dX7_lay_174 : decode cX7_lay 174 = .ok (.iaload, 1) := by decide +kernel
theorem dX7_lay_175 : decode cX7_lay 175 = .ok (.aload_n 0, 1) := by decide +kernel
theorem dX7_lay_176 : decode cX7_lay 176 = .ok (.getfield 7, 3) := by decide +kernel
theorem dX7_lay_179 : decode cX7_lay 179 = .ok (.sipush 300, 3) := by decide +kernel
theorem dX7_lay_182 : decode cX7_lay 182 = .ok (.iload_n 1, 1) := by decide +kernel
theorem dX7_lay_183 : decode cX7_lay 183 = .ok (.iadd, 1) := by decide +kernel
theorem dX7_lay_184 : decode cX7_lay 184 = .ok (.iaload, 1) := by decide +kernel
theorem dX7_lay_185 : decode cX7_lay 185 = .ok (.invokevirtual 93, 3) := by decide +kernel
theorem dX7_lay_188 : decode cX7_lay 188 = .ok (.ireturn, 1) := by decide +kernel
set_option maxRecDepth 20000 in
theorem B_X7_lay_0 {G : Gx} {X : Cx} {h : PH} {k n : Nat} {Q : State → Prop} {S : List PV} {a0 : Nat} {a1 : Int} {a2 : Int} {a3 : Int} {a4 : Int} {r6 : Nat} {x12 : Int} (C : CX_X7_lay G X) (t1 : ph_T h a0 = 7 := by first | assumption | rfl) (t2 : ph_T h a0 = 7 := by first | assumption | rfl) (t3 : ph_T h a0 = 7 := by first | assumption | rfl) (t4 : ph_T h a0 = 7 := by first | assumption | rfl) (t5 : ph_T h a0 = 7 := by first | assumption | rfl) (e7 : ph_R h a0 0 = r6 := by first | assumption | rfl) (t8 : ph_T h r6 = 8 := by first | assumption | rfl) (q9 : (0 : Int) ≤ 304 + a1 := by first | assumption | omega) (q10 : 304 + a1 < (ph_L h r6 : Int) := by first | assumption | omega) (q11 : pR (304 + a1) := by first | assumption | (unfold pR; omega)) (e13 : ph_I (ph_setI (ph_setI (ph_setI (ph_setI h a0 4 a1) a0 5 a2) a0 6 a4) a0 7 a3) r6 (Int.toNat (304 + a1)) = x12 := by first | assumption | rfl) (q14 : pR a4 := by first | assumption | (unfold pR; omega)) (kt : a4 = 0 → PW G X 10 Q k n 47 [some (.inr a0), some (.inl a1), some (.inl a2), some (.inl a3), some (.inl a4), some (.inl x12), none, none, none, none] (S) (ph_setI (ph_setI (ph_setI (ph_setI h a0 4 a1) a0 5 a2) a0 6 a4) a0 7 a3)) (kf : ¬ a4 = 0 → PW G X 10 Q k n 38 [some (.inr a0), some (.inl a1), some (.inl a2), some (.inl a3), some (.inl a4), some (.inl x12), none, none, none, none] (S) (ph_setI (ph_setI (ph_setI (ph_setI h a0 4 a1) a0 5 a2) a0 6 a4) a0 7 a3)) : PW G X 10 Q k n 0 [some (.inr a0), some (.inl a1), some (.inl a2), some (.inl a3), some (.inl a4), none, none, none, none, none] (S) h := by
  refine pw_aload_n C dX7_lay_0 rfl ?_
  refine pw_iload_n C dX7_lay_1 rfl ?_
  refine pw_putI C (t := 7) (f := 4) rfl inF7 tyX7_ok nmX7 rfl (by decide) (by decide) rfl (Or.inl rfl) (Or.inl rfl) kw682 dX7_lay_2 t1 ?_
  refine pw_aload_n C dX7_lay_5 rfl ?_
  refine pw_iload_n C dX7_lay_6 rfl ?_
  refine pw_putI C (t := 7) (f := 5) rfl inF7 tyX7_ok nmX7 rfl (by decide) (by decide) rfl (Or.inl rfl) (Or.inl rfl) kw683 dX7_lay_7 t2 ?_
  refine pw_aload_n C dX7_lay_10 rfl ?_
  refine pw_iload C dX7_lay_11 rfl ?_
  refine pw_putI C (t := 7) (f := 6) rfl inF7 tyX7_ok nmX7 rfl (by decide) (by decide) rfl (Or.inl rfl) (Or.inl rfl) kw684 dX7_lay_13 t3 ?_
  refine pw_aload_n C dX7_lay_16 rfl ?_
  refine pw_iload_n C dX7_lay_17 rfl ?_
  refine pw_putI C (t := 7) (f := 7) rfl inF7 tyX7_ok nmX7 rfl (by decide) (by decide) rfl (Or.inl rfl) (Or.inl rfl) kw685 dX7_lay_18 t4 ?_
  refine pw_aload_n C dX7_lay_21 rfl ?_
  refine pw_getR C (t := 7) (f := 0) rfl inF7 rfl (by decide) (by decide) rfl kw678 dX7_lay_22 t5 ?_
  rw [show ph_R (ph_setI (ph_setI (ph_setI (ph_setI h a0 4 a1) a0 5 a2) a0 6 a4) a0 7 a3) a0 0 = r6 from e7]
  refine pw_sipush C dX7_lay_25 rfl ?_
  refine pw_iload_n C dX7_lay_28 rfl ?_
  refine pw_iadd C dX7_lay_29 ?_
  refine pw_iald C dX7_lay_30 t8 q9 q10 q11 ?_
  rw [show ph_I (ph_setI (ph_setI (ph_setI (ph_setI h a0 4 a1) a0 5 a2) a0 6 a4) a0 7 a3) r6 (Int.toNat (304 + a1)) = x12 from e13]
  refine pw_istore C dX7_lay_31 (by decide) ?_
  refine pw_iload C dX7_lay_33 rfl ?_
  exact pw_if_eq C 47 dX7_lay_35 (by decide) q14 kt kf
set_option maxRecDepth 20000 in
theorem B_X7_lay_38 {G : Gx} {X : Cx} {h : PH} {k n : Nat} {Q : State → Prop} {S : List PV} {a0 : Nat} {a1 : Int} {a2 : Int} {a3 : Int} {a4 : Int} {a5 : Int} {PQ : Option PV → PH → Prop} (C : CX_X7_lay G X) (hk0 : k ≤ 0 := by decide) (hn0 : n ≤ 0 := by decide) (t1 : ph_T h a0 = 7 := by first | assumption | rfl) (hM : CT_X7_lastTick G X.2.1 [.inr a0] h PQ) (hS : S.length ≤ 7 := by decide) (kk : ∀ r h', PQ r h' → PW G X 10 Q k n 44 [some (.inr a0), some (.inl a1), some (.inl a2), some (.inl a3), some (.inl a4), some (.inl a5), none, none, none, none] (r.toList ++ (.inl a5 :: S)) h') : PW G X 10 Q k n 38 [some (.inr a0), some (.inl a1), some (.inl a2), some (.inl a3), some (.inl a4), some (.inl a5), none, none, none, none] (S) h := by
  refine pw_iload C dX7_lay_38 rfl ?_
  refine pw_aload_n C dX7_lay_40 rfl ?_
  exact pw_callV C (na := 0) (As := []) (S := .inl a5 :: S) hM t1 (by decide) (hcl := by rfl) kw805 kw807 kw22 kw45 kw808 (by decide +kernel) rfl dX7_lay_41 (by decide) (by decide) hk0 hn0 (by first | exact hS | (simp only [List.length_cons]; omega)) kk
set_option maxRecDepth 20000 in
theorem B_X7_lay_44 {G : Gx} {X : Cx} {h : PH} {k n : Nat} {Q : State → Prop} {S : List PV} {a0 : Nat} {a1 : Int} {a2 : Int} {a3 : Int} {a4 : Int} {a5 : Int} {s0 : Int} {s1 : Int} (C : CX_X7_lay G X) (q1 : pR s1 := by first | assumption | (unfold pR; omega)) (q2 : pR s0 := by first | assumption | (unfold pR; omega)) (kt : s1 ≤ s0 → PW G X 10 Q k n 50 [some (.inr a0), some (.inl a1), some (.inl a2), some (.inl a3), some (.inl a4), some (.inl a5), none, none, none, none] (S) h) (kf : ¬ s1 ≤ s0 → PW G X 10 Q k n 47 [some (.inr a0), some (.inl a1), some (.inl a2), some (.inl a3), some (.inl a4), some (.inl a5), none, none, none, none] (S) h) : PW G X 10 Q k n 44 [some (.inr a0), some (.inl a1), some (.inl a2), some (.inl a3), some (.inl a4), some (.inl a5), none, none, none, none] (.inl s0 :: .inl s1 :: S) h := by
  exact pw_icmp_le C 50 dX7_lay_44 (by decide) q1 q2 kt kf
set_option maxRecDepth 20000 in
theorem B_X7_lay_47 {G : Gx} {X : Cx} {h : PH} {k n : Nat} {a0 : Nat} {a1 : Int} {a2 : Int} {a3 : Int} {a4 : Int} {a5 : Int} {PQ : Option PV → PH → Prop} (C : CX_X7_lay G X) (hq : PQ (some (.inl (-1000000))) h) : PW G X 10 (pw_E G X PQ k n) k n 47 [some (.inr a0), some (.inl a1), some (.inl a2), some (.inl a3), some (.inl a4), some (.inl a5), none, none, none, none] [] h := by
  refine pw_ldc C (z := -1000000) kw809 rfl dX7_lay_47 ?_
  exact pw_ireturn C dX7_lay_49 hq
set_option maxRecDepth 20000 in
theorem B_X7_lay_50 {G : Gx} {X : Cx} {h : PH} {k n : Nat} {Q : State → Prop} {S : List PV} {a0 : Nat} {a1 : Int} {a2 : Int} {a3 : Int} {a4 : Int} {a5 : Int} {r2 : Nat} {x8 : Int} {PQ : Option PV → PH → Prop} (C : CX_X7_lay G X) (hk0 : k ≤ 0 := by decide) (hn0 : n ≤ 0 := by decide) (t1 : ph_T h a0 = 7 := by first | assumption | rfl) (e3 : ph_R h a0 0 = r2 := by first | assumption | rfl) (t4 : ph_T h r2 = 8 := by first | assumption | rfl) (q5 : (0 : Int) ≤ 308 + a1 := by first | assumption | omega) (q6 : 308 + a1 < (ph_L h r2 : Int) := by first | assumption | omega) (q7 : pR (308 + a1) := by first | assumption | (unfold pR; omega)) (e9 : ph_I h r2 (Int.toNat (308 + a1)) = x8 := by first | assumption | rfl) (t10 : ph_T h a0 = 7 := by first | assumption | rfl) (hM : CT_X7_lastTick G X.2.1 [.inr a0] h PQ) (hS : S.length ≤ 8 := by decide) (kk : ∀ r h', PQ r h' → PW G X 10 Q k n 66 [some (.inr a0), some (.inl a1), some (.inl a2), some (.inl a3), some (.inl a4), some (.inl a5), some (.inl x8), none, none, none] (r.toList ++ S) h') : PW G X 10 Q k n 50 [some (.inr a0), some (.inl a1), some (.inl a2), some (.inl a3), some (.inl a4), some (.inl a5), none, none, none, none] (S) h := by
  refine pw_aload_n C dX7_lay_50 rfl ?_
  refine pw_getR C (t := 7) (f := 0) rfl inF7 rfl (by decide) (by decide) rfl kw678 dX7_lay_51 t1 ?_
  rw [e3]
  refine pw_sipush C dX7_lay_54 rfl ?_
  refine pw_iload_n C dX7_lay_57 rfl ?_
  refine pw_iadd C dX7_lay_58 ?_
  refine pw_iald C dX7_lay_59 t4 q5 q6 q7 ?_
  rw [e9]
  refine pw_istore C dX7_lay_60 (by decide) ?_
  refine pw_aload_n C dX7_lay_62 rfl ?_
  exact pw_callV C (na := 0) (As := []) (S := S) hM t10 (by decide) (hcl := by rfl) kw805 kw807 kw22 kw45 kw808 (by decide +kernel) rfl dX7_lay_63 (by decide) (by decide) hk0 hn0 (by first | exact hS | (simp only [List.length_cons]; omega)) kk
set_option maxRecDepth 20000 in
theorem B_X7_lay_66 {G : Gx} {X : Cx} {h : PH} {k n : Nat} {Q : State → Prop} {S : List PV} {a0 : Nat} {a1 : Int} {a2 : Int} {a3 : Int} {a4 : Int} {a5 : Int} {a6 : Int} {s0 : Int} (C : CX_X7_lay G X) (kk : PW G X 10 Q k n 68 [some (.inr a0), some (.inl a1), some (.inl a2), some (.inl a3), some (.inl a4), some (.inl a5), some (.inl a6), some (.inl s0), none, none] (S) h) : PW G X 10 Q k n 66 [some (.inr a0), some (.inl a1), some (.inl a2), some (.inl a3), some (.inl a4), some (.inl a5), some (.inl a6), none, none, none] (.inl s0 :: S) h := by
  refine pw_istore C dX7_lay_66 (by decide) ?_
  exact kk
set_option maxRecDepth 20000 in
theorem B_X7_lay_68 {G : Gx} {X : Cx} {h : PH} {k n : Nat} {Q : State → Prop} {S : List PV} {a0 : Nat} {a1 : Int} {a2 : Int} {a3 : Int} {a4 : Int} {a5 : Int} {a6 : Int} {a7 : Int} (C : CX_X7_lay G X) (q1 : pR a7 := by first | assumption | (unfold pR; omega)) (q2 : pR a5 := by first | assumption | (unfold pR; omega)) (kt : a7 ≤ a5 → PW G X 10 Q k n 162 [some (.inr a0), some (.inl a1), some (.inl a2), some (.inl a3), some (.inl a4), some (.inl a5), some (.inl a6), some (.inl a7), none, none] (S) h) (kf : ¬ a7 ≤ a5 → PW G X 10 Q k n 75 [some (.inr a0), some (.inl a1), some (.inl a2), some (.inl a3), some (.inl a4), some (.inl a5), some (.inl a6), some (.inl a7), none, none] (S) h) : PW G X 10 Q k n 68 [some (.inr a0), some (.inl a1), some (.inl a2), some (.inl a3), some (.inl a4), some (.inl a5), some (.inl a6), some (.inl a7), none, none] (S) h := by
  refine pw_iload C dX7_lay_68 rfl ?_
  refine pw_iload C dX7_lay_70 rfl ?_
  exact pw_icmp_le C 162 dX7_lay_72 (by decide) q1 q2 kt kf
set_option maxRecDepth 20000 in
theorem B_X7_lay_75 {G : Gx} {X : Cx} {h : PH} {k n : Nat} {Q : State → Prop} {S : List PV} {a0 : Nat} {a1 : Int} {a2 : Int} {a3 : Int} {a4 : Int} {a5 : Int} {a6 : Int} {a7 : Int} (C : CX_X7_lay G X) (kk : PW G X 10 Q k n 80 [some (.inr a0), some (.inl a1), some (.inl a2), some (.inl a3), some (.inl a4), some (.inl a5), some (.inl a6), some (.inl a7), some (.inl (-a6)), none] (S) h) : PW G X 10 Q k n 75 [some (.inr a0), some (.inl a1), some (.inl a2), some (.inl a3), some (.inl a4), some (.inl a5), some (.inl a6), some (.inl a7), none, none] (S) h := by
  refine pw_iload C dX7_lay_75 rfl ?_
  refine pw_ineg C dX7_lay_77 ?_
  refine pw_istore C dX7_lay_78 (by decide) ?_
  exact kk
set_option maxRecDepth 20000 in
theorem B_X7_lay_80 {G : Gx} {X : Cx} {h : PH} {k n : Nat} {Q : State → Prop} {S : List PV} {a0 : Nat} {a1 : Int} {a2 : Int} {a3 : Int} {a4 : Int} {a5 : Int} {a6 : Int} {a7 : Int} {a8 : Int} (C : CX_X7_lay G X) (q1 : pR a8 := by first | assumption | (unfold pR; omega)) (q2 : pR a6 := by first | assumption | (unfold pR; omega)) (kt : a6 < a8 → PW G X 10 Q k n 156 [some (.inr a0), some (.inl a1), some (.inl a2), some (.inl a3), some (.inl a4), some (.inl a5), some (.inl a6), some (.inl a7), some (.inl a8), none] (S) h) (kf : ¬ a6 < a8 → PW G X 10 Q k n 87 [some (.inr a0), some (.inl a1), some (.inl a2), some (.inl a3), some (.inl a4), some (.inl a5), some (.inl a6), some (.inl a7), some (.inl a8), none] (S) h) : PW G X 10 Q k n 80 [some (.inr a0), some (.inl a1), some (.inl a2), some (.inl a3), some (.inl a4), some (.inl a5), some (.inl a6), some (.inl a7), some (.inl a8), none] (S) h := by
  refine pw_iload C dX7_lay_80 rfl ?_
  refine pw_iload C dX7_lay_82 rfl ?_
  exact pw_icmp_gt C 156 dX7_lay_84 (by decide) q1 q2 kt kf
set_option maxRecDepth 20000 in
theorem B_X7_lay_87 {G : Gx} {X : Cx} {h : PH} {k n : Nat} {Q : State → Prop} {S : List PV} {a0 : Nat} {a1 : Int} {a2 : Int} {a3 : Int} {a4 : Int} {a5 : Int} {a6 : Int} {a7 : Int} {a8 : Int} (C : CX_X7_lay G X) (kk : PW G X 10 Q k n 90 [some (.inr a0), some (.inl a1), some (.inl a2), some (.inl a3), some (.inl a4), some (.inl a5), some (.inl a6), some (.inl a7), some (.inl a8), some (.inl 0)] (S) h) : PW G X 10 Q k n 87 [some (.inr a0), some (.inl a1), some (.inl a2), some (.inl a3), some (.inl a4), some (.inl a5), some (.inl a6), some (.inl a7), some (.inl a8), none] (S) h := by
  refine pw_iconst C dX7_lay_87 ?_
  refine pw_istore C dX7_lay_88 (by decide) ?_
  exact kk
set_option maxRecDepth 20000 in
theorem B_X7_lay_90 {G : Gx} {X : Cx} {h : PH} {k n : Nat} {Q : State → Prop} {S : List PV} {a0 : Nat} {a1 : Int} {a2 : Int} {a3 : Int} {a4 : Int} {a5 : Int} {a6 : Int} {a7 : Int} {a8 : Int} {a9 : Int} (C : CX_X7_lay G X) (q1 : pR a9 := by first | assumption | (unfold pR; omega)) (q2 : pR 6 := by first | assumption | (unfold pR; omega)) (kt : 6 < a9 → PW G X 10 Q k n 150 [some (.inr a0), some (.inl a1), some (.inl a2), some (.inl a3), some (.inl a4), some (.inl a5), some (.inl a6), some (.inl a7), some (.inl a8), some (.inl a9)] (S) h) (kf : ¬ 6 < a9 → PW G X 10 Q k n 97 [some (.inr a0), some (.inl a1), some (.inl a2), some (.inl a3), some (.inl a4), some (.inl a5), some (.inl a6), some (.inl a7), some (.inl a8), some (.inl a9)] (S) h) : PW G X 10 Q k n 90 [some (.inr a0), some (.inl a1), some (.inl a2), some (.inl a3), some (.inl a4), some (.inl a5), some (.inl a6), some (.inl a7), some (.inl a8), some (.inl a9)] (S) h := by
  refine pw_iload C dX7_lay_90 rfl ?_
  refine pw_bipush C dX7_lay_92 rfl ?_
  exact pw_icmp_gt C 150 dX7_lay_94 (by decide) q1 q2 kt kf
set_option maxRecDepth 20000 in
theorem B_X7_lay_97 {G : Gx} {X : Cx} {h : PH} {k n : Nat} {Q : State → Prop} {S : List PV} {a0 : Nat} {a1 : Int} {a2 : Int} {a3 : Int} {a4 : Int} {a5 : Int} {a6 : Int} {a7 : Int} {a8 : Int} {a9 : Int} {r2 : Nat} {PQ : Option PV → PH → Prop} (C : CX_X7_lay G X) (hk0 : k ≤ 0 := by decide) (hn0 : n ≤ 0 := by decide) (t1 : ph_T h a0 = 7 := by first | assumption | rfl) (e3 : ph_R h a0 3 = r2 := by first | assumption | rfl) (hM : CT_X7_placeOf G X.2.1 [.inl a8, .inl a9] h PQ) (hS : S.length ≤ 6 := by decide) (kk : ∀ r h', PQ r h' → PW G X 10 Q k n 114 [some (.inr a0), some (.inl a1), some (.inl a2), some (.inl a3), some (.inl a4), some (.inl a5), some (.inl a6), some (.inl a7), some (.inl a8), some (.inl a9)] (r.toList ++ (.inl (511 * a7) :: .inr r2 :: S)) h') : PW G X 10 Q k n 97 [some (.inr a0), some (.inl a1), some (.inl a2), some (.inl a3), some (.inl a4), some (.inl a5), some (.inl a6), some (.inl a7), some (.inl a8), some (.inl a9)] (S) h := by
  refine pw_aload_n C dX7_lay_97 rfl ?_
  refine pw_getR C (t := 7) (f := 3) rfl inF7 rfl (by decide) (by decide) rfl kw681 dX7_lay_98 t1 ?_
  rw [e3]
  refine pw_sipush C dX7_lay_101 rfl ?_
  refine pw_iload C dX7_lay_104 rfl ?_
  refine pw_imul C dX7_lay_106 ?_
  refine pw_iload C dX7_lay_107 rfl ?_
  refine pw_iload C dX7_lay_109 rfl ?_
  exact pw_callS C (na := 2) (As := [.inl a8, .inl a9]) (S := .inl (511 * a7) :: .inr r2 :: S) hM kw810 kw811 kw45 kw812 (by decide +kernel) rfl dX7_lay_111 (by decide) (by decide) hk0 hn0 (by first | exact hS | (simp only [List.length_cons]; omega)) kk
set_option maxRecDepth 20000 in
theorem B_X7_lay_114 {G : Gx} {X : Cx} {h : PH} {k n : Nat} {Q : State → Prop} {S : List PV} {a0 : Nat} {a1 : Int} {a2 : Int} {a3 : Int} {a4 : Int} {a5 : Int} {a6 : Int} {a7 : Int} {a8 : Int} {a9 : Int} {s0 : Int} {s1 : Int} {s2 : Nat} {PQ : Option PV → PH → Prop} (C : CX_X7_lay G X) (hk0 : k ≤ 0 := by decide) (hn0 : n ≤ 0 := by decide) (t1 : ph_T h a0 = 7 := by first | assumption | rfl) (hM : CT_X7_mayStand G X.2.1 [.inr a0, .inl a7, .inl a8, .inl a9] h PQ) (hS : S.length ≤ 6 := by decide) (kk : ∀ r h', PQ r h' → PW G X 10 Q k n 125 [some (.inr a0), some (.inl a1), some (.inl a2), some (.inl a3), some (.inl a4), some (.inl a5), some (.inl a6), some (.inl a7), some (.inl a8), some (.inl a9)] (r.toList ++ (.inl (s1 + s0) :: .inr s2 :: S)) h') : PW G X 10 Q k n 114 [some (.inr a0), some (.inl a1), some (.inl a2), some (.inl a3), some (.inl a4), some (.inl a5), some (.inl a6), some (.inl a7), some (.inl a8), some (.inl a9)] (.inl s0 :: .inl s1 :: .inr s2 :: S) h := by
  refine pw_iadd C dX7_lay_114 ?_
  refine pw_aload_n C dX7_lay_115 rfl ?_
  refine pw_iload C dX7_lay_116 rfl ?_
  refine pw_iload C dX7_lay_118 rfl ?_
  refine pw_iload C dX7_lay_120 rfl ?_
  exact pw_callV C (na := 3) (As := [.inl a7, .inl a8, .inl a9]) (S := .inl (s1 + s0) :: .inr s2 :: S) hM t1 (by decide) (hcl := by rfl) kw813 kw815 kw23 kw45 kw816 (by decide +kernel) rfl dX7_lay_122 (by decide) (by decide) hk0 hn0 (by first | exact hS | (simp only [List.length_cons]; omega)) kk
set_option maxRecDepth 20000 in
theorem B_X7_lay_125 {G : Gx} {X : Cx} {h : PH} {k n : Nat} {Q : State → Prop} {S : List PV} {a0 : Nat} {a1 : Int} {a2 : Int} {a3 : Int} {a4 : Int} {a5 : Int} {a6 : Int} {a7 : Int} {a8 : Int} {a9 : Int} {s0 : Int} {s1 : Int} {s2 : Nat} (C : CX_X7_lay G X) (q1 : pR s0 := by first | assumption | (unfold pR; omega)) (kt : s0 = 0 → PW G X 10 Q k n 141 [some (.inr a0), some (.inl a1), some (.inl a2), some (.inl a3), some (.inl a4), some (.inl a5), some (.inl a6), some (.inl a7), some (.inl a8), some (.inl a9)] (.inl s1 :: .inr s2 :: S) h) (kf : ¬ s0 = 0 → PW G X 10 Q k n 128 [some (.inr a0), some (.inl a1), some (.inl a2), some (.inl a3), some (.inl a4), some (.inl a5), some (.inl a6), some (.inl a7), some (.inl a8), some (.inl a9)] (.inl s1 :: .inr s2 :: S) h) : PW G X 10 Q k n 125 [some (.inr a0), some (.inl a1), some (.inl a2), some (.inl a3), some (.inl a4), some (.inl a5), some (.inl a6), some (.inl a7), some (.inl a8), some (.inl a9)] (.inl s0 :: .inl s1 :: .inr s2 :: S) h := by
  exact pw_if_eq C 141 dX7_lay_125 (by decide) q1 kt kf
set_option maxRecDepth 20000 in
theorem B_X7_lay_128 {G : Gx} {X : Cx} {h : PH} {k n : Nat} {Q : State → Prop} {S : List PV} {a0 : Nat} {a1 : Int} {a2 : Int} {a3 : Int} {a4 : Int} {a5 : Int} {a6 : Int} {a7 : Int} {a8 : Int} {a9 : Int} {s0 : Int} {s1 : Nat} {PQ : Option PV → PH → Prop} (C : CX_X7_lay G X) (hk0 : k ≤ 0 := by decide) (hn0 : n ≤ 0 := by decide) (t1 : ph_T h a0 = 7 := by first | assumption | rfl) (hM : CT_X7_from G X.2.1 [.inr a0, .inl a7, .inl a8, .inl a9] h PQ) (hS : S.length ≤ 6 := by decide) (kk : ∀ r h', PQ r h' → PW G X 10 Q k n 138 [some (.inr a0), some (.inl a1), some (.inl a2), some (.inl a3), some (.inl a4), some (.inl a5), some (.inl a6), some (.inl a7), some (.inl a8), some (.inl a9)] (r.toList ++ (.inl s0 :: .inr s1 :: S)) h') : PW G X 10 Q k n 128 [some (.inr a0), some (.inl a1), some (.inl a2), some (.inl a3), some (.inl a4), some (.inl a5), some (.inl a6), some (.inl a7), some (.inl a8), some (.inl a9)] (.inl s0 :: .inr s1 :: S) h := by
  refine pw_aload_n C dX7_lay_128 rfl ?_
  refine pw_iload C dX7_lay_129 rfl ?_
  refine pw_iload C dX7_lay_131 rfl ?_
  refine pw_iload C dX7_lay_133 rfl ?_
  exact pw_callV C (na := 3) (As := [.inl a7, .inl a8, .inl a9]) (S := .inl s0 :: .inr s1 :: S) hM t1 (by decide) (hcl := by rfl) kw817 kw819 kw24 kw45 kw820 (by decide +kernel) rfl dX7_lay_135 (by decide) (by decide) hk0 hn0 (by first | exact hS | (simp only [List.length_cons]; omega)) kk
set_option maxRecDepth 20000 in
theorem B_X7_lay_138 {G : Gx} {X : Cx} {h : PH} {k n : Nat} {Q : State → Prop} {S : List PV} {a0 : Nat} {a1 : Int} {a2 : Int} {a3 : Int} {a4 : Int} {a5 : Int} {a6 : Int} {a7 : Int} {a8 : Int} {a9 : Int} {s0 : Int} {s1 : Int} {s2 : Nat} (C : CX_X7_lay G X) (kk : PW G X 10 Q k n 143 [some (.inr a0), some (.inl a1), some (.inl a2), some (.inl a3), some (.inl a4), some (.inl a5), some (.inl a6), some (.inl a7), some (.inl a8), some (.inl a9)] (.inl s0 :: .inl s1 :: .inr s2 :: S) h) : PW G X 10 Q k n 138 [some (.inr a0), some (.inl a1), some (.inl a2), some (.inl a3), some (.inl a4), some (.inl a5), some (.inl a6), some (.inl a7), some (.inl a8), some (.inl a9)] (.inl s0 :: .inl s1 :: .inr s2 :: S) h := by
  refine pw_goto C 143 dX7_lay_138 (by decide) ?_
  exact kk
set_option maxRecDepth 20000 in
theorem B_X7_lay_141 {G : Gx} {X : Cx} {h : PH} {k n : Nat} {Q : State → Prop} {S : List PV} {a0 : Nat} {a1 : Int} {a2 : Int} {a3 : Int} {a4 : Int} {a5 : Int} {a6 : Int} {a7 : Int} {a8 : Int} {a9 : Int} {s0 : Int} {s1 : Nat} (C : CX_X7_lay G X) (kk : PW G X 10 Q k n 143 [some (.inr a0), some (.inl a1), some (.inl a2), some (.inl a3), some (.inl a4), some (.inl a5), some (.inl a6), some (.inl a7), some (.inl a8), some (.inl a9)] (.inl (-1000000) :: .inl s0 :: .inr s1 :: S) h) : PW G X 10 Q k n 141 [some (.inr a0), some (.inl a1), some (.inl a2), some (.inl a3), some (.inl a4), some (.inl a5), some (.inl a6), some (.inl a7), some (.inl a8), some (.inl a9)] (.inl s0 :: .inr s1 :: S) h := by
  refine pw_ldc C (z := -1000000) kw809 rfl dX7_lay_141 ?_
  exact kk
set_option maxRecDepth 20000 in
theorem B_X7_lay_143 {G : Gx} {X : Cx} {h : PH} {k n : Nat} {Q : State → Prop} {S : List PV} {a0 : Nat} {a1 : Int} {a2 : Int} {a3 : Int} {a4 : Int} {a5 : Int} {a6 : Int} {a7 : Int} {a8 : Int} {a9 : Int} {s0 : Int} {s1 : Int} {s2 : Nat} (C : CX_X7_lay G X) (t1 : ph_T h s2 = 8 := by first | assumption | rfl) (q2 : (0 : Int) ≤ s1 := by first | assumption | omega) (q3 : s1 < (ph_L h s2 : Int) := by first | assumption | omega) (q4 : pR s1 := by first | assumption | (unfold pR; omega)) (kk : PW G X 10 Q k n 90 [some (.inr a0), some (.inl a1), some (.inl a2), some (.inl a3), some (.inl a4), some (.inl a5), some (.inl a6), some (.inl a7), some (.inl a8), some (.inl (a9 + 1))] (S) (ph_setI h s2 (Int.toNat s1) s0)) : PW G X 10 Q k n 143 [some (.inr a0), some (.inl a1), some (.inl a2), some (.inl a3), some (.inl a4), some (.inl a5), some (.inl a6), some (.inl a7), some (.inl a8), some (.inl a9)] (.inl s0 :: .inl s1 :: .inr s2 :: S) h := by
  refine pw_iast C dX7_lay_143 t1 q2 q3 q4 ?_
  refine pw_iinc C dX7_lay_144 rfl (by decide) ?_
  refine pw_goto C 90 dX7_lay_147 (by decide) ?_
  exact kk
set_option maxRecDepth 20000 in
theorem B_X7_lay_150 {G : Gx} {X : Cx} {h : PH} {k n : Nat} {Q : State → Prop} {S : List PV} {a0 : Nat} {a1 : Int} {a2 : Int} {a3 : Int} {a4 : Int} {a5 : Int} {a6 : Int} {a7 : Int} {a8 : Int} {a9 : Int} (C : CX_X7_lay G X) (kk : PW G X 10 Q k n 80 [some (.inr a0), some (.inl a1), some (.inl a2), some (.inl a3), some (.inl a4), some (.inl a5), some (.inl a6), some (.inl a7), some (.inl (a8 + 1)), none] (S) h) : PW G X 10 Q k n 150 [some (.inr a0), some (.inl a1), some (.inl a2), some (.inl a3), some (.inl a4), some (.inl a5), some (.inl a6), some (.inl a7), some (.inl a8), some (.inl a9)] (S) h := by
  refine pw_iinc C dX7_lay_150 rfl (by decide) ?_
  refine pw_goto C 80 dX7_lay_153 (by decide) ?_
  exact pw_weak [true, true, true, true, true, true, true, true, true, false] kk
set_option maxRecDepth 20000 in
theorem B_X7_lay_156 {G : Gx} {X : Cx} {h : PH} {k n : Nat} {Q : State → Prop} {S : List PV} {a0 : Nat} {a1 : Int} {a2 : Int} {a3 : Int} {a4 : Int} {a5 : Int} {a6 : Int} {a7 : Int} {a8 : Int} (C : CX_X7_lay G X) (kk : PW G X 10 Q k n 68 [some (.inr a0), some (.inl a1), some (.inl a2), some (.inl a3), some (.inl a4), some (.inl a5), some (.inl a6), some (.inl (a7 + (-1))), none, none] (S) h) : PW G X 10 Q k n 156 [some (.inr a0), some (.inl a1), some (.inl a2), some (.inl a3), some (.inl a4), some (.inl a5), some (.inl a6), some (.inl a7), some (.inl a8), none] (S) h := by
  refine pw_iinc C dX7_lay_156 rfl (by decide) ?_
  refine pw_goto C 68 dX7_lay_159 (by decide) ?_
  exact pw_weak [true, true, true, true, true, true, true, true, false, true] kk
set_option maxRecDepth 20000 in
theorem B_X7_lay_162 {G : Gx} {X : Cx} {h : PH} {k n : Nat} {Q : State → Prop} {S : List PV} {a0 : Nat} {a1 : Int} {a2 : Int} {a3 : Int} {a4 : Int} {a5 : Int} {a6 : Int} {a7 : Int} {r2 : Nat} {x8 : Int} {r11 : Nat} {x17 : Int} {PQ : Option PV → PH → Prop} (C : CX_X7_lay G X) (hk0 : k ≤ 0 := by decide) (hn0 : n ≤ 0 := by decide) (t1 : ph_T h a0 = 7 := by first | assumption | rfl) (e3 : ph_R h a0 0 = r2 := by first | assumption | rfl) (t4 : ph_T h r2 = 8 := by first | assumption | rfl) (q5 : (0 : Int) ≤ 296 + a1 := by first | assumption | omega) (q6 : 296 + a1 < (ph_L h r2 : Int) := by first | assumption | omega) (q7 : pR (296 + a1) := by first | assumption | (unfold pR; omega)) (e9 : ph_I h r2 (Int.toNat (296 + a1)) = x8 := by first | assumption | rfl) (t10 : ph_T h a0 = 7 := by first | assumption | rfl) (e12 : ph_R h a0 0 = r11 := by first | assumption | rfl) (t13 : ph_T h r11 = 8 := by first | assumption | rfl) (q14 : (0 : Int) ≤ 300 + a1 := by first | assumption | omega) (q15 : 300 + a1 < (ph_L h r11 : Int) := by first | assumption | omega) (q16 : pR (300 + a1) := by first | assumption | (unfold pR; omega)) (e18 : ph_I h r11 (Int.toNat (300 + a1)) = x17 := by first | assumption | rfl) (t19 : ph_T h a0 = 7 := by first | assumption | rfl) (hM : CT_X7_from G X.2.1 [.inr a0, .inl a5, .inl x8, .inl x17] h PQ) (hS : S.length ≤ 8 := by decide) (kk : ∀ r h', PQ r h' → PW G X 10 Q k n 188 [some (.inr a0), some (.inl a1), some (.inl a2), some (.inl a3), some (.inl a4), some (.inl a5), some (.inl a6), some (.inl a7), none, none] (r.toList ++ S) h') : PW G X 10 Q k n 162 [some (.inr a0), some (.inl a1), some (.inl a2), some (.inl a3), some (.inl a4), some (.inl a5), some (.inl a6), some (.inl a7), none, none] (S) h := by
  refine pw_aload_n C dX7_lay_162 rfl ?_
  refine pw_iload C dX7_lay_163 rfl ?_
  refine pw_aload_n C dX7_lay_165 rfl ?_
  refine pw_getR C (t := 7) (f := 0) rfl inF7 rfl (by decide) (by decide) rfl kw678 dX7_lay_166 t1 ?_
  rw [e3]
  refine pw_sipush C dX7_lay_169 rfl ?_
  refine pw_iload_n C dX7_lay_172 rfl ?_
  refine pw_iadd C dX7_lay_173 ?_
  refine pw_iald C dX7_lay_174 t4 q5 q6 q7 ?_
  rw [e9]
  refine pw_aload_n C dX7_lay_175 rfl ?_
  refine pw_getR C (t := 7) (f := 0) rfl inF7 rfl (by decide) (by decide) rfl kw678 dX7_lay_176 t10 ?_
  rw [e12]
  refine pw_sipush C dX7_lay_179 rfl ?_
  refine pw_iload_n C dX7_lay_182 rfl ?_
  refine pw_iadd C dX7_lay_183 ?_
  refine pw_iald C dX7_lay_184 t13 q14 q15 q16 ?_
  rw [e18]
  exact pw_callV C (na := 3) (As := [.inl a5, .inl x8, .inl x17]) (S := S) hM t19 (by decide) (hcl := by rfl) kw817 kw819 kw24 kw45 kw820 (by decide +kernel) rfl dX7_lay_185 (by decide) (by decide) hk0 hn0 (by first | exact hS | (simp only [List.length_cons]; omega)) kk
set_option maxRecDepth 20000 in
theorem B_X7_lay_188 {G : Gx} {X : Cx} {h : PH} {k n : Nat} {a0 : Nat} {a1 : Int} {a2 : Int} {a3 : Int} {a4 : Int} {a5 : Int} {a6 : Int} {a7 : Int} {s0 : Int} {PQ : Option PV → PH → Prop} (C : CX_X7_lay G X) (hq : PQ (some (.inl s0)) h) : PW G X 10 (pw_E G X PQ k n) k n 188 [some (.inr a0), some (.inl a1), some (.inl a2), some (.inl a3), some (.inl a4), some (.inl a5), some (.inl a6), some (.inl a7), none, none] [.inl s0] h := by
  exact pw_ireturn C dX7_lay_188 hq
theorem dX7_seenOf_0 : decode cX7_seenOf 0 = .ok (.iload_n 0, 1) := by decide +kernel
theorem dX7_seenOf_1 : decode cX7_seenOf 1 = .ok (.sipush 10000, 3) := by decide +kernel
theorem dX7_seenOf_4 : decode cX7_seenOf 4 = .ok (.iadd, 1) := by decide +kernel
theorem dX7_seenOf_5 : decode cX7_seenOf 5 = .ok (.iconst 1, 1) := by decide +kernel
theorem dX7_seenOf_6 : decode cX7_seenOf 6 = .ok (.isub, 1) := by decide +kernel
theorem dX7_seenOf_7 : decode cX7_seenOf 7 = .ok (.sipush 10000, 3) := by decide +kernel
theorem dX7_seenOf_10 : decode cX7_seenOf 10 = .ok (.idiv, 1) := by decide +kernel
theorem dX7_seenOf_11 : decode cX7_seenOf 11 = .ok (.ireturn, 1) := by decide +kernel
set_option maxRecDepth 20000 in
theorem B_X7_seenOf_0 {G : Gx} {X : Cx} {h : PH} {k n : Nat} {a0 : Int} {PQ : Option PV → PH → Prop} (C : CX_X7_seenOf G X) (q1 : pR ((a0 + 10000) - 1) := by first | assumption | (unfold pR; omega)) (q2 : pR 10000 := by first | assumption | (unfold pR; omega)) (q3 : (0 : Int) ≤ (a0 + 10000) - 1 := by first | assumption | omega) (q4 : (0 : Int) < 10000 := by first | assumption | omega) (hq : PQ (some (.inl (((a0 + 10000) - 1) / 10000))) h) : PW G X 1 (pw_E G X PQ k n) k n 0 [some (.inl a0)] [] h := by
  refine pw_iload_n C dX7_seenOf_0 rfl ?_
  refine pw_sipush C dX7_seenOf_1 rfl ?_
  refine pw_iadd C dX7_seenOf_4 ?_
  refine pw_iconst C dX7_seenOf_5 ?_
  refine pw_isub C dX7_seenOf_6 ?_
  refine pw_sipush C dX7_seenOf_7 rfl ?_
  refine pw_idiv C dX7_seenOf_10 q1 q2 q3 q4 ?_
  exact pw_ireturn C dX7_seenOf_11 hq
theorem dX7_stepsOf_0 : decode cX7_stepsOf 0 = .ok (.sipush 10000, 3) := by decide +kernel
theorem dX7_stepsOf_3 : decode cX7_stepsOf 3 = .ok (.iload_n 0, 1) := by decide +kernel
theorem dX7_stepsOf_4 : decode cX7_stepsOf 4 = .ok (.invokestatic 97, 3) := by decide +kernel
theorem dX7_stepsOf_7 : decode cX7_stepsOf 7 = .ok (.imul, 1) := by decide +kernel
theorem dX7_stepsOf_8 : decode cX7_stepsOf 8 = .ok (.iload_n 0, 1) := by decide +kernel
theorem dX7_stepsOf_9 : decode cX7_stepsOf 9 = .ok (.isub, 1) := by decide +kernel
theorem dX7_stepsOf_10 : decode cX7_stepsOf 10 = .ok (.ireturn, 1) := by decide +kernel
set_option maxRecDepth 20000 in
theorem B_X7_stepsOf_0 {G : Gx} {X : Cx} {h : PH} {k n : Nat} {Q : State → Prop} {S : List PV} {a0 : Int} {PQ : Option PV → PH → Prop} (C : CX_X7_stepsOf G X) (hk0 : k ≤ 0 := by decide) (hn0 : n ≤ 0 := by decide) (hM : CT_X7_seenOf G X.2.1 [.inl a0] h PQ) (hS : S.length ≤ 7 := by decide) (kk : ∀ r h', PQ r h' → PW G X 1 Q k n 7 [some (.inl a0)] (r.toList ++ (.inl 10000 :: S)) h') : PW G X 1 Q k n 0 [some (.inl a0)] (S) h := by
  refine pw_sipush C dX7_stepsOf_0 rfl ?_
  refine pw_iload_n C dX7_stepsOf_3 rfl ?_
  exact pw_callS C (na := 1) (As := [.inl a0]) (S := .inl 10000 :: S) hM kw837 kw838 kw45 kw839 (by decide +kernel) rfl dX7_stepsOf_4 (by decide) (by decide) hk0 hn0 (by first | exact hS | (simp only [List.length_cons]; omega)) kk
set_option maxRecDepth 20000 in
theorem B_X7_stepsOf_7 {G : Gx} {X : Cx} {h : PH} {k n : Nat} {a0 : Int} {s0 : Int} {s1 : Int} {PQ : Option PV → PH → Prop} (C : CX_X7_stepsOf G X) (hq : PQ (some (.inl ((s1 * s0) - a0))) h) : PW G X 1 (pw_E G X PQ k n) k n 7 [some (.inl a0)] [.inl s0, .inl s1] h := by
  refine pw_imul C dX7_stepsOf_7 ?_
  refine pw_iload_n C dX7_stepsOf_8 rfl ?_
  refine pw_isub C dX7_stepsOf_9 ?_
  exact pw_ireturn C dX7_stepsOf_10 hq
theorem dX7_stepFrom_0 : decode cX7_stepFrom 0 = .ok (.aload_n 0, 1) := by decide +kernel
theorem dX7_stepFrom_1 : decode cX7_stepFrom 1 = .ok (.getfield 24, 3) := by decide +kernel
theorem dX7_stepFrom_4 : decode cX7_stepFrom 4 = .ok (.iload_n 1, 1) := by decide +kernel
theorem dX7_stepFrom_5 : decode cX7_stepFrom 5 = .ok (.iaload, 1) := by decide +kernel
theorem dX7_stepFrom_6 : decode cX7_stepFrom 6 = .ok (.istore_n 3, 1) := by decide +kernel
theorem dX7_stepFrom_7 : decode cX7_stepFrom 7 = .ok (.aload_n 0, 1) := by decide +kernel
theorem dX7_stepFrom_8 : decode cX7_stepFrom 8 = .ok (.getfield 27, 3) := by decide +kernel
theorem dX7_stepFrom_11 : decode cX7_stepFrom 11 = .ok (.iload_n 1, 1) := by decide +kernel
theorem dX7_stepFrom_12 : decode cX7_stepFrom 12 = .ok (.iaload, 1) := by decide +kernel
theorem dX7_stepFrom_13 : decode cX7_stepFrom 13 = .ok (.istore 4, 2) := by decide +kernel
theorem dX7_stepFrom_15 : decode cX7_stepFrom 15 = .ok (.aload_n 0, 1) := by decide +kernel
theorem dX7_stepFrom_16 : decode cX7_stepFrom 16 = .ok (.getfield 7, 3) := by decide +kernel
theorem dX7_stepFrom_19 : decode cX7_stepFrom 19 = .ok (.sipush 312, 3) := by decide +kernel
theorem dX7_stepFrom_22 : decode cX7_stepFrom 22 = .ok (.aload_n 0, 1) := by decide +kernel
theorem dX7_stepFrom_23 : decode cX7_stepFrom 23 = .ok (.getfield 71, 3) := by decide +kernel
theorem dX7_stepFrom_26 : decode cX7_stepFrom 26 = .ok (.iadd, 1) := by decide +kernel
theorem dX7_stepFrom_27 : decode cX7_stepFrom 27 = .ok (.iaload, 1) := by decide +kernel
theorem dX7_stepFrom_28 : decode cX7_stepFrom 28 = .ok (.istore 5, 2) := by decide +kernel
theorem dX7_stepFrom_30 : decode cX7_stepFrom 30 = .ok (.iconst 0, 1) := by decide +kernel
theorem dX7_stepFrom_31 : decode cX7_stepFrom 31 = .ok (.istore 6, 2) := by decide +kernel
theorem dX7_stepFrom_33 : decode cX7_stepFrom 33 = .ok (.iload_n 3, 1) := by decide +kernel
theorem dX7_stepFrom_34 : decode cX7_stepFrom 34 = .ok (.iload 5, 2) := by decide +kernel
theorem dX7_stepFrom_36 : decode cX7_stepFrom 36 = .ok (.isub, 1) := by decide +kernel
theorem dX7_stepFrom_37 : decode cX7_stepFrom 37 = .ok (.istore 7, 2) := by decide +kernel
theorem dX7_stepFrom_39 : decode cX7_stepFrom 39 = .ok (.iload 7, 2) := by decide +kernel
theorem dX7_stepFrom_41 : decode cX7_stepFrom 41 = .ok (.iload_n 3, 1) := by decide +kernel
theorem dX7_stepFrom_42 : decode cX7_stepFrom 42 = .ok (.iload 5, 2) := by decide +kernel
theorem dX7_stepFrom_44 : decode cX7_stepFrom 44 = .ok (.iadd, 1) := by decide +kernel
theorem dX7_stepFrom_45 : decode cX7_stepFrom 45 = .ok (.if_icmp .gt 79, 3) := by decide +kernel
theorem dX7_stepFrom_48 : decode cX7_stepFrom 48 = .ok (.iload 6, 2) := by decide +kernel
theorem dX7_stepFrom_50 : decode cX7_stepFrom 50 = .ok (.ifCond .ne 74, 3) := by decide +kernel
theorem dX7_stepFrom_53 : decode cX7_stepFrom 53 = .ok (.iload 4, 2) := by decide +kernel
theorem dX7_stepFrom_55 : decode cX7_stepFrom 55 = .ok (.iconst 1, 1) := by decide +kernel
theorem dX7_stepFrom_56 : decode cX7_stepFrom 56 = .ok (.isub, 1) := by decide +kernel
theorem dX7_stepFrom_57 : decode cX7_stepFrom 57 = .ok (.istore 8, 2) := by decide +kernel
theorem dX7_stepFrom_59 : decode cX7_stepFrom 59 = .ok (.iload 8, 2) := by decide +kernel
theorem dX7_stepFrom_61 : decode cX7_stepFrom 61 = .ok (.iload 4, 2) := by decide +kernel
theorem dX7_stepFrom_63 : decode cX7_stepFrom 63 = .ok (.iconst 1, 1) := by decide +kernel
theorem dX7_stepFrom_64 : decode cX7_stepFrom 64 = .ok (.iadd, 1) := by decide +kernel
theorem dX7_stepFrom_65 : decode cX7_stepFrom 65 = .ok (.if_icmp .gt 53, 3) := by decide +kernel
theorem dX7_stepFrom_68 : decode cX7_stepFrom 68 = .ok (.iload 6, 2) := by decide +kernel
theorem dX7_stepFrom_70 : decode cX7_stepFrom 70 = .ok (.ifCond .ne 48, 3) := by decide +kernel
theorem dX7_stepFrom_73 : decode cX7_stepFrom 73 = .ok (.aload_n 0, 1) := by decide +kernel
theorem dX7_stepFrom_74 : decode cX7_stepFrom 74 = .ok (.iload_n 1, 1) := by decide +kernel
theorem dX7_stepFrom_75 : decode cX7_stepFrom 75 = .ok (.iload_n 3, 1) := by decide +kernel
theorem dX7_stepFrom_76 : decode cX7_stepFrom 76 = .ok (.iload 4, 2) := by decide +kernel
theorem dX7_stepFrom_78 : decode cX7_stepFrom 78 = .ok (.iload 7, 2) := by decide +kernel
theorem dX7_stepFrom_80 : decode cX7_stepFrom 80 = .ok (.iload 8, 2) := by decide +kernel
theorem dX7_stepFrom_82 : decode cX7_stepFrom 82 = .ok (.invokevirtual 86, 3) := by decide +kernel
theorem dX7_stepFrom_85 : decode cX7_stepFrom 85 = .ok (.iload_n 2, 1) := by decide +kernel
theorem dX7_stepFrom_86 : decode cX7_stepFrom 86 = .ok (.if_icmp .ne 26, 3) := by decide +kernel
theorem dX7_stepFrom_89 : decode cX7_stepFrom 89 = .ok (.aload_n 0, 1) := by decide +kernel
theorem dX7_stepFrom_90 : decode cX7_stepFrom 90 = .ok (.getfield 24, 3) := by decide +kernel
theorem dX7_stepFrom_93 : decode cX7_stepFrom 93 = .ok (.iload_n 1, 1) := by decide +kernel
theorem dX7_stepFrom_94 : decode cX7_stepFrom 94 = .ok (.iconst 1, 1) := by decide +kernel
theorem dX7_stepFrom_95 : decode cX7_stepFrom 95 = .ok (.iadd, 1) := by decide +kernel
theorem dX7_stepFrom_96 : decode cX7_stepFrom 96 = .ok (.iload 7, 2) := by decide +kernel
theorem dX7_stepFrom_98 : decode cX7_stepFrom 98 = .ok (.iastore, 1) := by decide +kernel
theorem dX7_stepFrom_99 : decode cX7_stepFrom 99 = .ok (.aload_n 0, 1) := by decide +kernel
theorem dX7_stepFrom_100 : decode cX7_stepFrom 100 = .ok (.getfield 27, 3) := by decide +kernel
theorem dX7_stepFrom_103 : decode cX7_stepFrom 103 = .ok (.iload_n 1, 1) := by decide +kernel
theorem dX7_stepFrom_104 : decode cX7_stepFrom 104 = .ok (.iconst 1, 1) := by decide +kernel
theorem dX7_stepFrom_105 : decode cX7_stepFrom 105 = .ok (.iadd, 1) := by decide +kernel
theorem dX7_stepFrom_106 : decode cX7_stepFrom 106 = .ok (.iload 8, 2) := by decide +kernel
theorem dX7_stepFrom_108 : decode cX7_stepFrom 108 = .ok (.iastore, 1) := by decide +kernel
theorem dX7_stepFrom_109 : decode cX7_stepFrom 109 = .ok (.iconst 1, 1) := by decide +kernel
theorem dX7_stepFrom_110 : decode cX7_stepFrom 110 = .ok (.istore 6, 2) := by decide +kernel
theorem dX7_stepFrom_112 : decode cX7_stepFrom 112 = .ok (.iinc 8 1, 3) := by decide +kernel
theorem dX7_stepFrom_115 : decode cX7_stepFrom 115 = .ok (.goto (-56), 3) := by decide +kernel
theorem dX7_stepFrom_118 : decode cX7_stepFrom 118 = .ok (.iinc 7 1, 3) := by decide +kernel
theorem dX7_stepFrom_121 : decode cX7_stepFrom 121 = .ok (.goto (-82), 3) := by decide +kernel
theorem dX7_stepFrom_124 : decode cX7_stepFrom 124 = .ok (.return_, 1) := by decide +kernel
set_option maxRecDepth 20000 in
theorem B_X7_stepFrom_0 {G : Gx} {X : Cx} {h : PH} {k n : Nat} {Q : State → Prop} {S : List PV} {a0 : Nat} {a1 : Int} {a2 : Int} {r2 : Nat} {x8 : Int} {r11 : Nat} {x17 : Int} {r20 : Nat} {x23 : Int} {x29 : Int} (C : CX_X7_stepFrom G X) (t1 : ph_T h a0 = 7 := by first | assumption | rfl) (e3 : ph_R h a0 8 = r2 := by first | assumption | rfl) (t4 : ph_T h r2 = 8 := by first | assumption | rfl) (q5 : (0 : Int) ≤ a1 := by first | assumption | omega) (q6 : a1 < (ph_L h r2 : Int) := by first | assumption | omega) (q7 : pR a1 := by first | assumption | (unfold pR; omega)) (e9 : ph_I h r2 (Int.toNat a1) = x8 := by first | assumption | rfl) (t10 : ph_T h a0 = 7 := by first | assumption | rfl) (e12 : ph_R h a0 9 = r11 := by first | assumption | rfl) (t13 : ph_T h r11 = 8 := by first | assumption | rfl) (q14 : (0 : Int) ≤ a1 := by first | assumption | omega) (q15 : a1 < (ph_L h r11 : Int) := by first | assumption | omega) (q16 : pR a1 := by first | assumption | (unfold pR; omega)) (e18 : ph_I h r11 (Int.toNat a1) = x17 := by first | assumption | rfl) (t19 : ph_T h a0 = 7 := by first | assumption | rfl) (e21 : ph_R h a0 0 = r20 := by first | assumption | rfl) (t22 : ph_T h a0 = 7 := by first | assumption | rfl) (e24 : ph_I h a0 4 = x23 := by first | assumption | rfl) (t25 : ph_T h r20 = 8 := by first | assumption | rfl) (q26 : (0 : Int) ≤ 312 + x23 := by first | assumption | omega) (q27 : 312 + x23 < (ph_L h r20 : Int) := by first | assumption | omega) (q28 : pR (312 + x23) := by first | assumption | (unfold pR; omega)) (e30 : ph_I h r20 (Int.toNat (312 + x23)) = x29 := by first | assumption | rfl) (kk : PW G X 9 Q k n 39 [some (.inr a0), some (.inl a1), some (.inl a2), some (.inl x8), some (.inl x17), some (.inl x29), some (.inl 0), some (.inl (x8 - x29)), none] (S) h) : PW G X 9 Q k n 0 [some (.inr a0), some (.inl a1), some (.inl a2), none, none, none, none, none, none] (S) h := by
  refine pw_aload_n C dX7_stepFrom_0 rfl ?_
  refine pw_getR C (t := 7) (f := 8) rfl inF7 rfl (by decide) (by decide) rfl kw686 dX7_stepFrom_1 t1 ?_
  rw [e3]
  refine pw_iload_n C dX7_stepFrom_4 rfl ?_
  refine pw_iald C dX7_stepFrom_5 t4 q5 q6 q7 ?_
  rw [e9]
  refine pw_istore_n C dX7_stepFrom_6 (by decide) ?_
  refine pw_aload_n C dX7_stepFrom_7 rfl ?_
  refine pw_getR C (t := 7) (f := 9) rfl inF7 rfl (by decide) (by decide) rfl kw687 dX7_stepFrom_8 t10 ?_
  rw [e12]
  refine pw_iload_n C dX7_stepFrom_11 rfl ?_
  refine pw_iald C dX7_stepFrom_12 t13 q14 q15 q16 ?_
  rw [e18]
  refine pw_istore C dX7_stepFrom_13 (by decide) ?_
  refine pw_aload_n C dX7_stepFrom_15 rfl ?_
  refine pw_getR C (t := 7) (f := 0) rfl inF7 rfl (by decide) (by decide) rfl kw678 dX7_stepFrom_16 t19 ?_
  rw [e21]
  refine pw_sipush C dX7_stepFrom_19 rfl ?_
  refine pw_aload_n C dX7_stepFrom_22 rfl ?_
  refine pw_getI C (t := 7) (f := 4) rfl inF7 rfl (by decide) (by decide) rfl kw682 dX7_stepFrom_23 t22 ?_
  rw [e24]
  refine pw_iadd C dX7_stepFrom_26 ?_
  refine pw_iald C dX7_stepFrom_27 t25 q26 q27 q28 ?_
  rw [e30]
  refine pw_istore C dX7_stepFrom_28 (by decide) ?_
  refine pw_iconst C dX7_stepFrom_30 ?_
  refine pw_istore C dX7_stepFrom_31 (by decide) ?_
  refine pw_iload_n C dX7_stepFrom_33 rfl ?_
  refine pw_iload C dX7_stepFrom_34 rfl ?_
  refine pw_isub C dX7_stepFrom_36 ?_
  refine pw_istore C dX7_stepFrom_37 (by decide) ?_
  exact kk
set_option maxRecDepth 20000 in
theorem B_X7_stepFrom_39 {G : Gx} {X : Cx} {h : PH} {k n : Nat} {Q : State → Prop} {S : List PV} {a0 : Nat} {a1 : Int} {a2 : Int} {a3 : Int} {a4 : Int} {a5 : Int} {a6 : Int} {a7 : Int} (C : CX_X7_stepFrom G X) (q1 : pR a7 := by first | assumption | (unfold pR; omega)) (q2 : pR (a3 + a5) := by first | assumption | (unfold pR; omega)) (kt : a3 + a5 < a7 → PW G X 9 Q k n 124 [some (.inr a0), some (.inl a1), some (.inl a2), some (.inl a3), some (.inl a4), some (.inl a5), some (.inl a6), some (.inl a7), none] (S) h) (kf : ¬ a3 + a5 < a7 → PW G X 9 Q k n 48 [some (.inr a0), some (.inl a1), some (.inl a2), some (.inl a3), some (.inl a4), some (.inl a5), some (.inl a6), some (.inl a7), none] (S) h) : PW G X 9 Q k n 39 [some (.inr a0), some (.inl a1), some (.inl a2), some (.inl a3), some (.inl a4), some (.inl a5), some (.inl a6), some (.inl a7), none] (S) h := by
  refine pw_iload C dX7_stepFrom_39 rfl ?_
  refine pw_iload_n C dX7_stepFrom_41 rfl ?_
  refine pw_iload C dX7_stepFrom_42 rfl ?_
  refine pw_iadd C dX7_stepFrom_44 ?_
  exact pw_icmp_gt C 124 dX7_stepFrom_45 (by decide) q1 q2 kt kf
set_option maxRecDepth 20000 in
theorem B_X7_stepFrom_48 {G : Gx} {X : Cx} {h : PH} {k n : Nat} {Q : State → Prop} {S : List PV} {a0 : Nat} {a1 : Int} {a2 : Int} {a3 : Int} {a4 : Int} {a5 : Int} {a6 : Int} {a7 : Int} (C : CX_X7_stepFrom G X) (q1 : pR a6 := by first | assumption | (unfold pR; omega)) (kt : ¬ a6 = 0 → PW G X 9 Q k n 124 [some (.inr a0), some (.inl a1), some (.inl a2), some (.inl a3), some (.inl a4), some (.inl a5), some (.inl a6), some (.inl a7), none] (S) h) (kf : a6 = 0 → PW G X 9 Q k n 53 [some (.inr a0), some (.inl a1), some (.inl a2), some (.inl a3), some (.inl a4), some (.inl a5), some (.inl a6), some (.inl a7), none] (S) h) : PW G X 9 Q k n 48 [some (.inr a0), some (.inl a1), some (.inl a2), some (.inl a3), some (.inl a4), some (.inl a5), some (.inl a6), some (.inl a7), none] (S) h := by
  refine pw_iload C dX7_stepFrom_48 rfl ?_
  exact pw_if_ne C 124 dX7_stepFrom_50 (by decide) q1 kt kf
set_option maxRecDepth 20000 in
theorem B_X7_stepFrom_53 {G : Gx} {X : Cx} {h : PH} {k n : Nat} {Q : State → Prop} {S : List PV} {a0 : Nat} {a1 : Int} {a2 : Int} {a3 : Int} {a4 : Int} {a5 : Int} {a6 : Int} {a7 : Int} (C : CX_X7_stepFrom G X) (kk : PW G X 9 Q k n 59 [some (.inr a0), some (.inl a1), some (.inl a2), some (.inl a3), some (.inl a4), some (.inl a5), some (.inl a6), some (.inl a7), some (.inl (a4 - 1))] (S) h) : PW G X 9 Q k n 53 [some (.inr a0), some (.inl a1), some (.inl a2), some (.inl a3), some (.inl a4), some (.inl a5), some (.inl a6), some (.inl a7), none] (S) h := by
  refine pw_iload C dX7_stepFrom_53 rfl ?_
  refine pw_iconst C dX7_stepFrom_55 ?_
  refine pw_isub C dX7_stepFrom_56 ?_
  refine pw_istore C dX7_stepFrom_57 (by decide) ?_
  exact kk
set_option maxRecDepth 20000 in
theorem B_X7_stepFrom_59 {G : Gx} {X : Cx} {h : PH} {k n : Nat} {Q : State → Prop} {S : List PV} {a0 : Nat} {a1 : Int} {a2 : Int} {a3 : Int} {a4 : Int} {a5 : Int} {a6 : Int} {a7 : Int} {a8 : Int} (C : CX_X7_stepFrom G X) (q1 : pR a8 := by first | assumption | (unfold pR; omega)) (q2 : pR (a4 + 1) := by first | assumption | (unfold pR; omega)) (kt : a4 + 1 < a8 → PW G X 9 Q k n 118 [some (.inr a0), some (.inl a1), some (.inl a2), some (.inl a3), some (.inl a4), some (.inl a5), some (.inl a6), some (.inl a7), some (.inl a8)] (S) h) (kf : ¬ a4 + 1 < a8 → PW G X 9 Q k n 68 [some (.inr a0), some (.inl a1), some (.inl a2), some (.inl a3), some (.inl a4), some (.inl a5), some (.inl a6), some (.inl a7), some (.inl a8)] (S) h) : PW G X 9 Q k n 59 [some (.inr a0), some (.inl a1), some (.inl a2), some (.inl a3), some (.inl a4), some (.inl a5), some (.inl a6), some (.inl a7), some (.inl a8)] (S) h := by
  refine pw_iload C dX7_stepFrom_59 rfl ?_
  refine pw_iload C dX7_stepFrom_61 rfl ?_
  refine pw_iconst C dX7_stepFrom_63 ?_
  refine pw_iadd C dX7_stepFrom_64 ?_
  exact pw_icmp_gt C 118 dX7_stepFrom_65 (by decide) q1 q2 kt kf
set_option maxRecDepth 20000 in
theorem B_X7_stepFrom_68 {G : Gx} {X : Cx} {h : PH} {k n : Nat} {Q : State → Prop} {S : List PV} {a0 : Nat} {a1 : Int} {a2 : Int} {a3 : Int} {a4 : Int} {a5 : Int} {a6 : Int} {a7 : Int} {a8 : Int} (C : CX_X7_stepFrom G X) (q1 : pR a6 := by first | assumption | (unfold pR; omega)) (kt : ¬ a6 = 0 → PW G X 9 Q k n 118 [some (.inr a0), some (.inl a1), some (.inl a2), some (.inl a3), some (.inl a4), some (.inl a5), some (.inl a6), some (.inl a7), some (.inl a8)] (S) h) (kf : a6 = 0 → PW G X 9 Q k n 73 [some (.inr a0), some (.inl a1), some (.inl a2), some (.inl a3), some (.inl a4), some (.inl a5), some (.inl a6), some (.inl a7), some (.inl a8)] (S) h) : PW G X 9 Q k n 68 [some (.inr a0), some (.inl a1), some (.inl a2), some (.inl a3), some (.inl a4), some (.inl a5), some (.inl a6), some (.inl a7), some (.inl a8)] (S) h := by
  refine pw_iload C dX7_stepFrom_68 rfl ?_
  exact pw_if_ne C 118 dX7_stepFrom_70 (by decide) q1 kt kf
set_option maxRecDepth 20000 in
theorem B_X7_stepFrom_73 {G : Gx} {X : Cx} {h : PH} {k n : Nat} {Q : State → Prop} {S : List PV} {a0 : Nat} {a1 : Int} {a2 : Int} {a3 : Int} {a4 : Int} {a5 : Int} {a6 : Int} {a7 : Int} {a8 : Int} {PQ : Option PV → PH → Prop} (C : CX_X7_stepFrom G X) (hk0 : k ≤ 0 := by decide) (hn0 : n ≤ 0 := by decide) (t1 : ph_T h a0 = 7 := by first | assumption | rfl) (hM : CT_X7_goTo G X.2.1 [.inr a0, .inl a1, .inl a3, .inl a4, .inl a7, .inl a8] h PQ) (hS : S.length ≤ 8 := by decide) (kk : ∀ r h', PQ r h' → PW G X 9 Q k n 85 [some (.inr a0), some (.inl a1), some (.inl a2), some (.inl a3), some (.inl a4), some (.inl a5), some (.inl a6), some (.inl a7), some (.inl a8)] (r.toList ++ S) h') : PW G X 9 Q k n 73 [some (.inr a0), some (.inl a1), some (.inl a2), some (.inl a3), some (.inl a4), some (.inl a5), some (.inl a6), some (.inl a7), some (.inl a8)] (S) h := by
  refine pw_aload_n C dX7_stepFrom_73 rfl ?_
  refine pw_iload_n C dX7_stepFrom_74 rfl ?_
  refine pw_iload_n C dX7_stepFrom_75 rfl ?_
  refine pw_iload C dX7_stepFrom_76 rfl ?_
  refine pw_iload C dX7_stepFrom_78 rfl ?_
  refine pw_iload C dX7_stepFrom_80 rfl ?_
  exact pw_callV C (na := 5) (As := [.inl a1, .inl a3, .inl a4, .inl a7, .inl a8]) (S := S) hM t1 (by decide) (hcl := by rfl) kw825 kw827 kw26 kw45 kw828 (by decide +kernel) rfl dX7_stepFrom_82 (by decide) (by decide) hk0 hn0 (by first | exact hS | (simp only [List.length_cons]; omega)) kk
set_option maxRecDepth 20000 in
theorem B_X7_stepFrom_85 {G : Gx} {X : Cx} {h : PH} {k n : Nat} {Q : State → Prop} {S : List PV} {a0 : Nat} {a1 : Int} {a2 : Int} {a3 : Int} {a4 : Int} {a5 : Int} {a6 : Int} {a7 : Int} {a8 : Int} {s0 : Int} (C : CX_X7_stepFrom G X) (q1 : pR s0 := by first | assumption | (unfold pR; omega)) (q2 : pR a2 := by first | assumption | (unfold pR; omega)) (kt : ¬ s0 = a2 → PW G X 9 Q k n 112 [some (.inr a0), some (.inl a1), some (.inl a2), some (.inl a3), some (.inl a4), some (.inl a5), some (.inl a6), some (.inl a7), some (.inl a8)] (S) h) (kf : s0 = a2 → PW G X 9 Q k n 89 [some (.inr a0), some (.inl a1), some (.inl a2), some (.inl a3), some (.inl a4), some (.inl a5), some (.inl a6), some (.inl a7), some (.inl a8)] (S) h) : PW G X 9 Q k n 85 [some (.inr a0), some (.inl a1), some (.inl a2), some (.inl a3), some (.inl a4), some (.inl a5), some (.inl a6), some (.inl a7), some (.inl a8)] (.inl s0 :: S) h := by
  refine pw_iload_n C dX7_stepFrom_85 rfl ?_
  exact pw_icmp_ne C 112 dX7_stepFrom_86 (by decide) q1 q2 kt kf
set_option maxRecDepth 20000 in
theorem B_X7_stepFrom_89 {G : Gx} {X : Cx} {h : PH} {k n : Nat} {Q : State → Prop} {S : List PV} {a0 : Nat} {a1 : Int} {a2 : Int} {a3 : Int} {a4 : Int} {a5 : Int} {a6 : Int} {a7 : Int} {a8 : Int} {r2 : Nat} {r10 : Nat} (C : CX_X7_stepFrom G X) (t1 : ph_T h a0 = 7 := by first | assumption | rfl) (e3 : ph_R h a0 8 = r2 := by first | assumption | rfl) (t4 : ph_T h r2 = 8 := by first | assumption | rfl) (q5 : (0 : Int) ≤ a1 + 1 := by first | assumption | omega) (q6 : a1 + 1 < (ph_L h r2 : Int) := by first | assumption | omega) (q7 : pR (a1 + 1) := by first | assumption | (unfold pR; omega)) (t9 : ph_T h a0 = 7 := by first | assumption | rfl) (e11 : ph_R h a0 9 = r10 := by first | assumption | rfl) (t12 : ph_T h r10 = 8 := by first | assumption | rfl) (q13 : (0 : Int) ≤ a1 + 1 := by first | assumption | omega) (q14 : a1 + 1 < (ph_L h r10 : Int) := by first | assumption | omega) (q15 : pR (a1 + 1) := by first | assumption | (unfold pR; omega)) (kk : PW G X 9 Q k n 112 [some (.inr a0), some (.inl a1), some (.inl a2), some (.inl a3), some (.inl a4), some (.inl a5), some (.inl 1), some (.inl a7), some (.inl a8)] (S) (ph_setI (ph_setI h r2 (Int.toNat (a1 + 1)) a7) r10 (Int.toNat (a1 + 1)) a8)) : PW G X 9 Q k n 89 [some (.inr a0), some (.inl a1), some (.inl a2), some (.inl a3), some (.inl a4), some (.inl a5), some (.inl a6), some (.inl a7), some (.inl a8)] (S) h := by
  refine pw_aload_n C dX7_stepFrom_89 rfl ?_
  refine pw_getR C (t := 7) (f := 8) rfl inF7 rfl (by decide) (by decide) rfl kw686 dX7_stepFrom_90 t1 ?_
  rw [e3]
  refine pw_iload_n C dX7_stepFrom_93 rfl ?_
  refine pw_iconst C dX7_stepFrom_94 ?_
  refine pw_iadd C dX7_stepFrom_95 ?_
  refine pw_iload C dX7_stepFrom_96 rfl ?_
  refine pw_iast C dX7_stepFrom_98 t4 q5 q6 q7 ?_
  refine pw_aload_n C dX7_stepFrom_99 rfl ?_
  refine pw_getR C (t := 7) (f := 9) rfl inF7 rfl (by decide) (by decide) rfl kw687 dX7_stepFrom_100 t9 ?_
  rw [show ph_R (ph_setI h r2 (Int.toNat (a1 + 1)) a7) a0 9 = r10 from e11]
  refine pw_iload_n C dX7_stepFrom_103 rfl ?_
  refine pw_iconst C dX7_stepFrom_104 ?_
  refine pw_iadd C dX7_stepFrom_105 ?_
  refine pw_iload C dX7_stepFrom_106 rfl ?_
  refine pw_iast C dX7_stepFrom_108 t12 q13 q14 q15 ?_
  refine pw_iconst C dX7_stepFrom_109 ?_
  refine pw_istore C dX7_stepFrom_110 (by decide) ?_
  exact kk
set_option maxRecDepth 20000 in
theorem B_X7_stepFrom_112 {G : Gx} {X : Cx} {h : PH} {k n : Nat} {Q : State → Prop} {S : List PV} {a0 : Nat} {a1 : Int} {a2 : Int} {a3 : Int} {a4 : Int} {a5 : Int} {a6 : Int} {a7 : Int} {a8 : Int} (C : CX_X7_stepFrom G X) (kk : PW G X 9 Q k n 59 [some (.inr a0), some (.inl a1), some (.inl a2), some (.inl a3), some (.inl a4), some (.inl a5), some (.inl a6), some (.inl a7), some (.inl (a8 + 1))] (S) h) : PW G X 9 Q k n 112 [some (.inr a0), some (.inl a1), some (.inl a2), some (.inl a3), some (.inl a4), some (.inl a5), some (.inl a6), some (.inl a7), some (.inl a8)] (S) h := by
  refine pw_iinc C dX7_stepFrom_112 rfl (by decide) ?_
  refine pw_goto C 59 dX7_stepFrom_115 (by decide) ?_
  exact kk
set_option maxRecDepth 20000 in
theorem B_X7_stepFrom_118 {G : Gx} {X : Cx} {h : PH} {k n : Nat} {Q : State → Prop} {S : List PV} {a0 : Nat} {a1 : Int} {a2 : Int} {a3 : Int} {a4 : Int} {a5 : Int} {a6 : Int} {a7 : Int} {a8 : Int} (C : CX_X7_stepFrom G X) (kk : PW G X 9 Q k n 39 [some (.inr a0), some (.inl a1), some (.inl a2), some (.inl a3), some (.inl a4), some (.inl a5), some (.inl a6), some (.inl (a7 + 1)), none] (S) h) : PW G X 9 Q k n 118 [some (.inr a0), some (.inl a1), some (.inl a2), some (.inl a3), some (.inl a4), some (.inl a5), some (.inl a6), some (.inl a7), some (.inl a8)] (S) h := by
  refine pw_iinc C dX7_stepFrom_118 rfl (by decide) ?_
  refine pw_goto C 39 dX7_stepFrom_121 (by decide) ?_
  exact pw_weak [true, true, true, true, true, true, true, true, false] kk
set_option maxRecDepth 20000 in
theorem B_X7_stepFrom_124 {G : Gx} {X : Cx} {h : PH} {k n : Nat} {a0 : Nat} {a1 : Int} {a2 : Int} {a3 : Int} {a4 : Int} {a5 : Int} {a6 : Int} {a7 : Int} {PQ : Option PV → PH → Prop} (C : CX_X7_stepFrom G X) (hq : PQ none h) : PW G X 9 (pw_E G X PQ k n) k n 124 [some (.inr a0), some (.inl a1), some (.inl a2), some (.inl a3), some (.inl a4), some (.inl a5), some (.inl a6), some (.inl a7), none] [] h := by
  exact pw_vreturn C dX7_stepFrom_124 hq
theorem dX7_walk_0 : decode cX7_walk 0 = .ok (.aload_n 0, 1) := by decide +kernel
theorem dX7_walk_1 : decode cX7_walk 1 = .ok (.getfield 7, 3) := by decide +kernel
theorem dX7_walk_4 : decode cX7_walk 4 = .ok (.sipush 304, 3) := by decide +kernel
theorem dX7_walk_7 : decode cX7_walk 7 = .ok (.aload_n 0, 1) := by decide +kernel
theorem dX7_walk_8 : decode cX7_walk 8 = .ok (.getfield 71, 3) := by decide +kernel
theorem dX7_walk_11 : decode cX7_walk 11 = .ok (.iadd, 1) := by decide +kernel
theorem dX7_walk_12 : decode cX7_walk 12 = .ok (.iaload, 1) := by decide +kernel
theorem dX7_walk_13 : decode cX7_walk 13 = .ok (.istore_n 2, 1) := by decide +kernel
theorem dX7_walk_14 : decode cX7_walk 14 = .ok (.iload_n 1, 1) := by decide +kernel
theorem dX7_walk_15 : decode cX7_walk 15 = .ok (.istore_n 3, 1) := by decide +kernel
theorem dX7_walk_16 : decode cX7_walk 16 = .ok (.aload_n 0, 1) := by decide +kernel
theorem dX7_walk_17 : decode cX7_walk 17 = .ok (.getfield 24, 3) := by decide +kernel
theorem dX7_walk_20 : decode cX7_walk 20 = .ok (.iload_n 2, 1) := by decide +kernel
theorem dX7_walk_21 : decode cX7_walk 21 = .ok (.aload_n 0, 1) := by decide +kernel
theorem dX7_walk_22 : decode cX7_walk 22 = .ok (.getfield 7, 3) := by decide +kernel
theorem dX7_walk_25 : decode cX7_walk 25 = .ok (.sipush 296, 3) := by decide +kernel
theorem dX7_walk_28 : decode cX7_walk 28 = .ok (.aload_n 0, 1) := by decide +kernel
theorem dX7_walk_29 : decode cX7_walk 29 = .ok (.getfield 71, 3) := by decide +kernel
theorem dX7_walk_32 : decode cX7_walk 32 = .ok (.iadd, 1) := by decide +kernel
theorem dX7_walk_33 : decode cX7_walk 33 = .ok (.iaload, 1) := by decide +kernel
theorem dX7_walk_34 : decode cX7_walk 34 = .ok (.iastore, 1) := by decide +kernel
theorem dX7_walk_35 : decode cX7_walk 35 = .ok (.aload_n 0, 1) := by decide +kernel
theorem dX7_walk_36 : decode cX7_walk 36 = .ok (.getfield 27, 3) := by decide +kernel
theorem dX7_walk_39 : decode cX7_walk 39 = .ok (.iload_n 2, 1) := by decide +kernel
theorem dX7_walk_40 : decode cX7_walk 40 = .ok (.aload_n 0, 1) := by decide +kernel
theorem dX7_walk_41 : decode cX7_walk 41 = .ok (.getfield 7, 3) := by decide +kernel
theorem dX7_walk_44 : decode cX7_walk 44 = .ok (.sipush 300, 3) := by decide +kernel
theorem dX7_walk_47 : decode cX7_walk 47 = .ok (.aload_n 0, 1) := by decide +kernel
theorem dX7_walk_48 : decode cX7_walk 48 = .ok (.getfield 71, 3) := by decide +kernel
theorem dX7_walk_51 : decode cX7_walk 51 = .ok (.iadd, 1) := by decide +kernel
theorem dX7_walk_52 : decode cX7_walk 52 = .ok (.iaload, 1) := by decide +kernel
theorem dX7_walk_53 : decode cX7_walk 53 = .ok (.iastore, 1) := by decide +kernel
theorem dX7_walk_54 : decode cX7_walk 54 = .ok (.iload_n 2, 1) := by decide +kernel
theorem dX7_walk_55 : decode cX7_walk 55 = .ok (.aload_n 0, 1) := by decide +kernel
theorem dX7_walk_56 : decode cX7_walk 56 = .ok (.invokevirtual 82, 3) := by decide +kernel
theorem dX7_walk_59 : decode cX7_walk 59 = .ok (.if_icmp .gt 105, 3) := by decide +kernel
theorem dX7_walk_62 : decode cX7_walk 62 = .ok (.aload_n 0, 1) := by decide +kernel
theorem dX7_walk_63 : decode cX7_walk 63 = .ok (.getfield 30, 3) := by decide +kernel
theorem dX7_walk_66 : decode cX7_walk 66 = .ok (.iload_n 2, 1) := by decide +kernel
theorem dX7_walk_67 : decode cX7_walk 67 = .ok (.aload_n 0, 1) := by decide +kernel
theorem dX7_walk_68 : decode cX7_walk 68 = .ok (.iload_n 2, 1) := by decide +kernel
theorem dX7_walk_69 : decode cX7_walk 69 = .ok (.aload_n 0, 1) := by decide +kernel
theorem dX7_walk_70 : decode cX7_walk 70 = .ok (.getfield 24, 3) := by decide +kernel
theorem dX7_walk_73 : decode cX7_walk 73 = .ok (.iload_n 2, 1) := by decide +kernel
theorem dX7_walk_74 : decode cX7_walk 74 = .ok (.iaload, 1) := by decide +kernel
theorem dX7_walk_75 : decode cX7_walk 75 = .ok (.aload_n 0, 1) := by decide +kernel
theorem dX7_walk_76 : decode cX7_walk 76 = .ok (.getfield 27, 3) := by decide +kernel
theorem dX7_walk_79 : decode cX7_walk 79 = .ok (.iload_n 2, 1) := by decide +kernel
theorem dX7_walk_80 : decode cX7_walk 80 = .ok (.iaload, 1) := by decide +kernel
theorem dX7_walk_81 : decode cX7_walk 81 = .ok (.invokevirtual 79, 3) := by decide +kernel
theorem dX7_walk_84 : decode cX7_walk 84 = .ok (.bastore, 1) := by decide +kernel
theorem dX7_walk_85 : decode cX7_walk 85 = .ok (.iload_n 3, 1) := by decide +kernel
theorem dX7_walk_86 : decode cX7_walk 86 = .ok (.aload_n 0, 1) := by decide +kernel
theorem dX7_walk_87 : decode cX7_walk 87 = .ok (.getfield 30, 3) := by decide +kernel
theorem dX7_walk_90 : decode cX7_walk 90 = .ok (.iload_n 2, 1) := by decide +kernel
theorem dX7_walk_91 : decode cX7_walk 91 = .ok (.baload, 1) := by decide +kernel
theorem dX7_walk_92 : decode cX7_walk 92 = .ok (.ifCond .eq 9, 3) := by decide +kernel
theorem dX7_walk_95 : decode cX7_walk 95 = .ok (.sipush 10000, 3) := by decide +kernel
theorem dX7_walk_98 : decode cX7_walk 98 = .ok (.goto 4, 3) := by decide +kernel
theorem dX7_walk_101 : decode cX7_walk 101 = .ok (.iconst 0, 1) := by decide +kernel
theorem dX7_walk_102 : decode cX7_walk 102 = .ok (.isub, 1) := by decide +kernel
theorem dX7_walk_103 : decode cX7_walk 103 = .ok (.istore_n 3, 1) := by decide +kernel
theorem dX7_walk_104 : decode cX7_walk 104 = .ok (.iload_n 2, 1) := by decide +kernel
theorem dX7_walk_105 : decode cX7_walk 105 = .ok (.aload_n 0, 1) := by decide +kernel
theorem dX7_walk_106 : decode cX7_walk 106 = .ok (.invokevirtual 82, 3) := by decide +kernel
theorem dX7_walk_109 : decode cX7_walk 109 = .ok (.if_icmp .ge 49, 3) := by decide +kernel
theorem dX7_walk_112 : decode cX7_walk 112 = .ok (.aload_n 0, 1) := by decide +kernel
theorem dX7_walk_113 : decode cX7_walk 113 = .ok (.iload_n 2, 1) := by decide +kernel
theorem dX7_walk_114 : decode cX7_walk 114 = .ok (.iload_n 3, 1) := by decide +kernel
theorem dX7_walk_115 : decode cX7_walk 115 = .ok (.invokevirtual 100, 3) := by decide +kernel
theorem dX7_walk_118 : decode cX7_walk 118 = .ok (.iload_n 3, 1) := by decide +kernel
theorem dX7_walk_119 : decode cX7_walk 119 = .ok (.aload_n 0, 1) := by decide +kernel
theorem dX7_walk_120 : decode cX7_walk 120 = .ok (.getfield 24, 3) := by decide +kernel
theorem dX7_walk_123 : decode cX7_walk 123 = .ok (.iload_n 2, 1) := by decide +kernel
theorem dX7_walk_124 : decode cX7_walk 124 = .ok (.iconst 1, 1) := by decide +kernel
theorem dX7_walk_125 : decode cX7_walk 125 = .ok (.iadd, 1) := by decide +kernel
theorem dX7_walk_126 : decode cX7_walk 126 = .ok (.iaload, 1) := by decide +kernel
theorem dX7_walk_127 : decode cX7_walk 127 = .ok (.aload_n 0, 1) := by decide +kernel
theorem dX7_walk_128 : decode cX7_walk 128 = .ok (.getfield 24, 3) := by decide +kernel
theorem dX7_walk_131 : decode cX7_walk 131 = .ok (.iload_n 2, 1) := by decide +kernel
theorem dX7_walk_132 : decode cX7_walk 132 = .ok (.iaload, 1) := by decide +kernel
theorem dX7_walk_133 : decode cX7_walk 133 = .ok (.isub, 1) := by decide +kernel
theorem dX7_walk_134 : decode cX7_walk 134 = .ok (.invokestatic 52, 3) := by decide +kernel
theorem dX7_walk_137 : decode cX7_walk 137 = .ok (.aload_n 0, 1) := by decide +kernel
theorem dX7_walk_138 : decode cX7_walk 138 = .ok (.getfield 27, 3) := by decide +kernel
theorem dX7_walk_141 : decode cX7_walk 141 = .ok (.iload_n 2, 1) := by decide +kernel
theorem dX7_walk_142 : decode cX7_walk 142 = .ok (.iconst 1, 1) := by decide +kernel
theorem dX7_walk_143 : decode cX7_walk 143 = .ok (.iadd, 1) := by decide +kernel
theorem dX7_walk_144 : decode cX7_walk 144 = .ok (.iaload, 1) := by decide +kernel
theorem dX7_walk_145 : decode cX7_walk 145 = .ok (.aload_n 0, 1) := by decide +kernel
theorem dX7_walk_146 : decode cX7_walk 146 = .ok (.getfield 27, 3) := by decide +kernel
theorem dX7_walk_149 : decode cX7_walk 149 = .ok (.iload_n 2, 1) := by decide +kernel
theorem dX7_walk_150 : decode cX7_walk 150 = .ok (.iaload, 1) := by decide +kernel
theorem dX7_walk_151 : decode cX7_walk 151 = .ok (.isub, 1) := by decide +kernel
theorem dX7_walk_152 : decode cX7_walk 152 = .ok (.invokestatic 52, 3) := by decide +kernel
theorem dX7_walk_155 : decode cX7_walk 155 = .ok (.iadd, 1) := by decide +kernel
theorem dX7_walk_156 : decode cX7_walk 156 = .ok (.iadd, 1) := by decide +kernel
theorem dX7_walk_157 : decode cX7_walk 157 = .ok (.istore_n 3, 1) := by decide +kernel
theorem dX7_walk_158 : decode cX7_walk 158 = .ok (.iinc 2 1, 3) := by decide +kernel
theorem dX7_walk_161 : decode cX7_walk 161 = .ok (.goto (-107), 3) := by decide +kernel
theorem dX7_walk_164 : decode cX7_walk 164 = .ok (.return_, 1) := by decide +kernel
set_option maxRecDepth 20000 in
theorem B_X7_walk_0 {G : Gx} {X : Cx} {h : PH} {k n : Nat} {Q : State → Prop} {S : List PV} {a0 : Nat} {a1 : Int} {r2 : Nat} {x5 : Int} {x11 : Int} {r14 : Nat} {r17 : Nat} {x20 : Int} {x26 : Int} {r34 : Nat} {r37 : Nat} {x40 : Int} {x46 : Int} (C : CX_X7_walk G X) (t1 : ph_T h a0 = 7 := by first | assumption | rfl) (e3 : ph_R h a0 0 = r2 := by first | assumption | rfl) (t4 : ph_T h a0 = 7 := by first | assumption | rfl) (e6 : ph_I h a0 4 = x5 := by first | assumption | rfl) (t7 : ph_T h r2 = 8 := by first | assumption | rfl) (q8 : (0 : Int) ≤ 304 + x5 := by first | assumption | omega) (q9 : 304 + x5 < (ph_L h r2 : Int) := by first | assumption | omega) (q10 : pR (304 + x5) := by first | assumption | (unfold pR; omega)) (e12 : ph_I h r2 (Int.toNat (304 + x5)) = x11 := by first | assumption | rfl) (t13 : ph_T h a0 = 7 := by first | assumption | rfl) (e15 : ph_R h a0 8 = r14 := by first | assumption | rfl) (t16 : ph_T h a0 = 7 := by first | assumption | rfl) (e18 : ph_R h a0 0 = r17 := by first | assumption | rfl) (t19 : ph_T h a0 = 7 := by first | assumption | rfl) (e21 : ph_I h a0 4 = x20 := by first | assumption | rfl) (t22 : ph_T h r17 = 8 := by first | assumption | rfl) (q23 : (0 : Int) ≤ 296 + x20 := by first | assumption | omega) (q24 : 296 + x20 < (ph_L h r17 : Int) := by first | assumption | omega) (q25 : pR (296 + x20) := by first | assumption | (unfold pR; omega)) (e27 : ph_I h r17 (Int.toNat (296 + x20)) = x26 := by first | assumption | rfl) (t28 : ph_T h r14 = 8 := by first | assumption | rfl) (q29 : (0 : Int) ≤ x11 := by first | assumption | omega) (q30 : x11 < (ph_L h r14 : Int) := by first | assumption | omega) (q31 : pR x11 := by first | assumption | (unfold pR; omega)) (t33 : ph_T h a0 = 7 := by first | assumption | rfl) (e35 : ph_R h a0 9 = r34 := by first | assumption | rfl) (t36 : ph_T h a0 = 7 := by first | assumption | rfl) (e38 : ph_R h a0 0 = r37 := by first | assumption | rfl) (t39 : ph_T h a0 = 7 := by first | assumption | rfl) (e41 : ph_I (ph_setI h r14 (Int.toNat x11) x26) a0 4 = x40 := by first | assumption | rfl) (t42 : ph_T h r37 = 8 := by first | assumption | rfl) (q43 : (0 : Int) ≤ 300 + x40 := by first | assumption | omega) (q44 : 300 + x40 < (ph_L h r37 : Int) := by first | assumption | omega) (q45 : pR (300 + x40) := by first | assumption | (unfold pR; omega)) (e47 : ph_I (ph_setI h r14 (Int.toNat x11) x26) r37 (Int.toNat (300 + x40)) = x46 := by first | assumption | rfl) (t48 : ph_T h r34 = 8 := by first | assumption | rfl) (q49 : (0 : Int) ≤ x11 := by first | assumption | omega) (q50 : x11 < (ph_L h r34 : Int) := by first | assumption | omega) (q51 : pR x11 := by first | assumption | (unfold pR; omega)) (kk : PW G X 4 Q k n 54 [some (.inr a0), some (.inl a1), some (.inl x11), some (.inl a1)] (S) (ph_setI (ph_setI h r14 (Int.toNat x11) x26) r34 (Int.toNat x11) x46)) : PW G X 4 Q k n 0 [some (.inr a0), some (.inl a1), none, none] (S) h := by
  refine pw_aload_n C dX7_walk_0 rfl ?_
  refine pw_getR C (t := 7) (f := 0) rfl inF7 rfl (by decide) (by decide) rfl kw678 dX7_walk_1 t1 ?_
  rw [e3]
  refine pw_sipush C dX7_walk_4 rfl ?_
  refine pw_aload_n C dX7_walk_7 rfl ?_
  refine pw_getI C (t := 7) (f := 4) rfl inF7 rfl (by decide) (by decide) rfl kw682 dX7_walk_8 t4 ?_
  rw [e6]
  refine pw_iadd C dX7_walk_11 ?_
  refine pw_iald C dX7_walk_12 t7 q8 q9 q10 ?_
  rw [e12]
  refine pw_istore_n C dX7_walk_13 (by decide) ?_
  refine pw_iload_n C dX7_walk_14 rfl ?_
  refine pw_istore_n C dX7_walk_15 (by decide) ?_
  refine pw_aload_n C dX7_walk_16 rfl ?_
  refine pw_getR C (t := 7) (f := 8) rfl inF7 rfl (by decide) (by decide) rfl kw686 dX7_walk_17 t13 ?_
  rw [e15]
  refine pw_iload_n C dX7_walk_20 rfl ?_
  refine pw_aload_n C dX7_walk_21 rfl ?_
  refine pw_getR C (t := 7) (f := 0) rfl inF7 rfl (by decide) (by decide) rfl kw678 dX7_walk_22 t16 ?_
  rw [e18]
  refine pw_sipush C dX7_walk_25 rfl ?_
  refine pw_aload_n C dX7_walk_28 rfl ?_
  refine pw_getI C (t := 7) (f := 4) rfl inF7 rfl (by decide) (by decide) rfl kw682 dX7_walk_29 t19 ?_
  rw [e21]
  refine pw_iadd C dX7_walk_32 ?_
  refine pw_iald C dX7_walk_33 t22 q23 q24 q25 ?_
  rw [e27]
  refine pw_iast C dX7_walk_34 t28 q29 q30 q31 ?_
  refine pw_aload_n C dX7_walk_35 rfl ?_
  refine pw_getR C (t := 7) (f := 9) rfl inF7 rfl (by decide) (by decide) rfl kw687 dX7_walk_36 t33 ?_
  rw [show ph_R (ph_setI h r14 (Int.toNat x11) x26) a0 9 = r34 from e35]
  refine pw_iload_n C dX7_walk_39 rfl ?_
  refine pw_aload_n C dX7_walk_40 rfl ?_
  refine pw_getR C (t := 7) (f := 0) rfl inF7 rfl (by decide) (by decide) rfl kw678 dX7_walk_41 t36 ?_
  rw [show ph_R (ph_setI h r14 (Int.toNat x11) x26) a0 0 = r37 from e38]
  refine pw_sipush C dX7_walk_44 rfl ?_
  refine pw_aload_n C dX7_walk_47 rfl ?_
  refine pw_getI C (t := 7) (f := 4) rfl inF7 rfl (by decide) (by decide) rfl kw682 dX7_walk_48 t39 ?_
  rw [show ph_I (ph_setI h r14 (Int.toNat x11) x26) a0 4 = x40 from e41]
  refine pw_iadd C dX7_walk_51 ?_
  refine pw_iald C dX7_walk_52 t42 q43 q44 q45 ?_
  rw [show ph_I (ph_setI h r14 (Int.toNat x11) x26) r37 (Int.toNat (300 + x40)) = x46 from e47]
  refine pw_iast C dX7_walk_53 t48 q49 q50 q51 ?_
  exact kk
set_option maxRecDepth 20000 in
theorem B_X7_walk_54 {G : Gx} {X : Cx} {h : PH} {k n : Nat} {Q : State → Prop} {S : List PV} {a0 : Nat} {a1 : Int} {a2 : Int} {a3 : Int} {PQ : Option PV → PH → Prop} (C : CX_X7_walk G X) (hk0 : k ≤ 0 := by decide) (hn0 : n ≤ 0 := by decide) (t1 : ph_T h a0 = 7 := by first | assumption | rfl) (hM : CT_X7_lastTick G X.2.1 [.inr a0] h PQ) (hS : S.length ≤ 7 := by decide) (kk : ∀ r h', PQ r h' → PW G X 4 Q k n 59 [some (.inr a0), some (.inl a1), some (.inl a2), some (.inl a3)] (r.toList ++ (.inl a2 :: S)) h') : PW G X 4 Q k n 54 [some (.inr a0), some (.inl a1), some (.inl a2), some (.inl a3)] (S) h := by
  refine pw_iload_n C dX7_walk_54 rfl ?_
  refine pw_aload_n C dX7_walk_55 rfl ?_
  exact pw_callV C (na := 0) (As := []) (S := .inl a2 :: S) hM t1 (by decide) (hcl := by rfl) kw805 kw807 kw22 kw45 kw808 (by decide +kernel) rfl dX7_walk_56 (by decide) (by decide) hk0 hn0 (by first | exact hS | (simp only [List.length_cons]; omega)) kk
set_option maxRecDepth 20000 in
theorem B_X7_walk_59 {G : Gx} {X : Cx} {h : PH} {k n : Nat} {Q : State → Prop} {S : List PV} {a0 : Nat} {a1 : Int} {a2 : Int} {a3 : Int} {s0 : Int} {s1 : Int} (C : CX_X7_walk G X) (q1 : pR s1 := by first | assumption | (unfold pR; omega)) (q2 : pR s0 := by first | assumption | (unfold pR; omega)) (kt : s0 < s1 → PW G X 4 Q k n 164 [some (.inr a0), some (.inl a1), some (.inl a2), some (.inl a3)] (S) h) (kf : ¬ s0 < s1 → PW G X 4 Q k n 62 [some (.inr a0), some (.inl a1), some (.inl a2), some (.inl a3)] (S) h) : PW G X 4 Q k n 59 [some (.inr a0), some (.inl a1), some (.inl a2), some (.inl a3)] (.inl s0 :: .inl s1 :: S) h := by
  exact pw_icmp_gt C 164 dX7_walk_59 (by decide) q1 q2 kt kf
set_option maxRecDepth 20000 in
theorem B_X7_walk_62 {G : Gx} {X : Cx} {h : PH} {k n : Nat} {Q : State → Prop} {S : List PV} {a0 : Nat} {a1 : Int} {a2 : Int} {a3 : Int} {r2 : Nat} {r5 : Nat} {x11 : Int} {r14 : Nat} {x20 : Int} {PQ : Option PV → PH → Prop} (C : CX_X7_walk G X) (hk0 : k ≤ 0 := by decide) (hn0 : n ≤ 0 := by decide) (t1 : ph_T h a0 = 7 := by first | assumption | rfl) (e3 : ph_R h a0 10 = r2 := by first | assumption | rfl) (t4 : ph_T h a0 = 7 := by first | assumption | rfl) (e6 : ph_R h a0 8 = r5 := by first | assumption | rfl) (t7 : ph_T h r5 = 8 := by first | assumption | rfl) (q8 : (0 : Int) ≤ a2 := by first | assumption | omega) (q9 : a2 < (ph_L h r5 : Int) := by first | assumption | omega) (q10 : pR a2 := by first | assumption | (unfold pR; omega)) (e12 : ph_I h r5 (Int.toNat a2) = x11 := by first | assumption | rfl) (t13 : ph_T h a0 = 7 := by first | assumption | rfl) (e15 : ph_R h a0 9 = r14 := by first | assumption | rfl) (t16 : ph_T h r14 = 8 := by first | assumption | rfl) (q17 : (0 : Int) ≤ a2 := by first | assumption | omega) (q18 : a2 < (ph_L h r14 : Int) := by first | assumption | omega) (q19 : pR a2 := by first | assumption | (unfold pR; omega)) (e21 : ph_I h r14 (Int.toNat a2) = x20 := by first | assumption | rfl) (t22 : ph_T h a0 = 7 := by first | assumption | rfl) (hM : CT_X7_sees G X.2.1 [.inr a0, .inl a2, .inl x11, .inl x20] h PQ) (hS : S.length ≤ 6 := by decide) (kk : ∀ r h', PQ r h' → PW G X 4 Q k n 84 [some (.inr a0), some (.inl a1), some (.inl a2), some (.inl a3)] (r.toList ++ (.inl a2 :: .inr r2 :: S)) h') : PW G X 4 Q k n 62 [some (.inr a0), some (.inl a1), some (.inl a2), some (.inl a3)] (S) h := by
  refine pw_aload_n C dX7_walk_62 rfl ?_
  refine pw_getR C (t := 7) (f := 10) rfl inF7 rfl (by decide) (by decide) rfl kw688 dX7_walk_63 t1 ?_
  rw [e3]
  refine pw_iload_n C dX7_walk_66 rfl ?_
  refine pw_aload_n C dX7_walk_67 rfl ?_
  refine pw_iload_n C dX7_walk_68 rfl ?_
  refine pw_aload_n C dX7_walk_69 rfl ?_
  refine pw_getR C (t := 7) (f := 8) rfl inF7 rfl (by decide) (by decide) rfl kw686 dX7_walk_70 t4 ?_
  rw [e6]
  refine pw_iload_n C dX7_walk_73 rfl ?_
  refine pw_iald C dX7_walk_74 t7 q8 q9 q10 ?_
  rw [e12]
  refine pw_aload_n C dX7_walk_75 rfl ?_
  refine pw_getR C (t := 7) (f := 9) rfl inF7 rfl (by decide) (by decide) rfl kw687 dX7_walk_76 t13 ?_
  rw [e15]
  refine pw_iload_n C dX7_walk_79 rfl ?_
  refine pw_iald C dX7_walk_80 t16 q17 q18 q19 ?_
  rw [e21]
  exact pw_callV C (na := 3) (As := [.inl a2, .inl x11, .inl x20]) (S := .inl a2 :: .inr r2 :: S) hM t22 (by decide) (hcl := by rfl) kw821 kw823 kw25 kw45 kw824 (by decide +kernel) rfl dX7_walk_81 (by decide) (by decide) hk0 hn0 (by first | exact hS | (simp only [List.length_cons]; omega)) kk
set_option maxRecDepth 20000 in
theorem B_X7_walk_84 {G : Gx} {X : Cx} {h : PH} {k n : Nat} {Q : State → Prop} {S : List PV} {a0 : Nat} {a1 : Int} {a2 : Int} {a3 : Int} {s0 : Int} {s1 : Int} {s2 : Nat} {r7 : Nat} {x13 : Int} (C : CX_X7_walk G X) (t1 : ph_T h s2 = 9 := by first | assumption | rfl) (q2 : (0 : Int) ≤ s1 := by first | assumption | omega) (q3 : s1 < (ph_L h s2 : Int) := by first | assumption | omega) (q4 : pR s1 := by first | assumption | (unfold pR; omega)) (q5 : (s0 : Int) = 0 ∨ (s0 : Int) = 1 := by omega) (t6 : ph_T h a0 = 7 := by first | assumption | rfl) (e8 : ph_R h a0 10 = r7 := by first | assumption | rfl) (t9 : ph_T h r7 = 9 := by first | assumption | rfl) (q10 : (0 : Int) ≤ a2 := by first | assumption | omega) (q11 : a2 < (ph_L h r7 : Int) := by first | assumption | omega) (q12 : pR a2 := by first | assumption | (unfold pR; omega)) (e14 : ph_I (ph_setI h s2 (Int.toNat s1) s0) r7 (Int.toNat a2) = x13 := by first | assumption | rfl) (q15 : pR x13 := by first | assumption | (unfold pR; omega)) (kt : x13 = 0 → PW G X 4 Q k n 101 [some (.inr a0), some (.inl a1), some (.inl a2), some (.inl a3)] (.inl a3 :: S) (ph_setI h s2 (Int.toNat s1) s0)) (kf : ¬ x13 = 0 → PW G X 4 Q k n 95 [some (.inr a0), some (.inl a1), some (.inl a2), some (.inl a3)] (.inl a3 :: S) (ph_setI h s2 (Int.toNat s1) s0)) : PW G X 4 Q k n 84 [some (.inr a0), some (.inl a1), some (.inl a2), some (.inl a3)] (.inl s0 :: .inl s1 :: .inr s2 :: S) h := by
  refine pw_zast C dX7_walk_84 t1 q2 q3 q4 q5 ?_
  refine pw_iload_n C dX7_walk_85 rfl ?_
  refine pw_aload_n C dX7_walk_86 rfl ?_
  refine pw_getR C (t := 7) (f := 10) rfl inF7 rfl (by decide) (by decide) rfl kw688 dX7_walk_87 t6 ?_
  rw [show ph_R (ph_setI h s2 (Int.toNat s1) s0) a0 10 = r7 from e8]
  refine pw_iload_n C dX7_walk_90 rfl ?_
  refine pw_zald C dX7_walk_91 t9 q10 q11 q12 ?_
  rw [show ph_I (ph_setI h s2 (Int.toNat s1) s0) r7 (Int.toNat a2) = x13 from e14]
  exact pw_if_eq C 101 dX7_walk_92 (by decide) q15 kt kf
set_option maxRecDepth 20000 in
theorem B_X7_walk_95 {G : Gx} {X : Cx} {h : PH} {k n : Nat} {Q : State → Prop} {S : List PV} {a0 : Nat} {a1 : Int} {a2 : Int} {a3 : Int} {s0 : Int} (C : CX_X7_walk G X) (kk : PW G X 4 Q k n 102 [some (.inr a0), some (.inl a1), some (.inl a2), some (.inl a3)] (.inl 10000 :: .inl s0 :: S) h) : PW G X 4 Q k n 95 [some (.inr a0), some (.inl a1), some (.inl a2), some (.inl a3)] (.inl s0 :: S) h := by
  refine pw_sipush C dX7_walk_95 rfl ?_
  refine pw_goto C 102 dX7_walk_98 (by decide) ?_
  exact kk
set_option maxRecDepth 20000 in
theorem B_X7_walk_101 {G : Gx} {X : Cx} {h : PH} {k n : Nat} {Q : State → Prop} {S : List PV} {a0 : Nat} {a1 : Int} {a2 : Int} {a3 : Int} {s0 : Int} (C : CX_X7_walk G X) (kk : PW G X 4 Q k n 102 [some (.inr a0), some (.inl a1), some (.inl a2), some (.inl a3)] (.inl 0 :: .inl s0 :: S) h) : PW G X 4 Q k n 101 [some (.inr a0), some (.inl a1), some (.inl a2), some (.inl a3)] (.inl s0 :: S) h := by
  refine pw_iconst C dX7_walk_101 ?_
  exact kk
set_option maxRecDepth 20000 in
theorem B_X7_walk_102 {G : Gx} {X : Cx} {h : PH} {k n : Nat} {Q : State → Prop} {S : List PV} {a0 : Nat} {a1 : Int} {a2 : Int} {a3 : Int} {s0 : Int} {s1 : Int} {PQ : Option PV → PH → Prop} (C : CX_X7_walk G X) (hk0 : k ≤ 0 := by decide) (hn0 : n ≤ 0 := by decide) (t1 : ph_T h a0 = 7 := by first | assumption | rfl) (hM : CT_X7_lastTick G X.2.1 [.inr a0] h PQ) (hS : S.length ≤ 7 := by decide) (kk : ∀ r h', PQ r h' → PW G X 4 Q k n 109 [some (.inr a0), some (.inl a1), some (.inl a2), some (.inl (s1 - s0))] (r.toList ++ (.inl a2 :: S)) h') : PW G X 4 Q k n 102 [some (.inr a0), some (.inl a1), some (.inl a2), some (.inl a3)] (.inl s0 :: .inl s1 :: S) h := by
  refine pw_isub C dX7_walk_102 ?_
  refine pw_istore_n C dX7_walk_103 (by decide) ?_
  refine pw_iload_n C dX7_walk_104 rfl ?_
  refine pw_aload_n C dX7_walk_105 rfl ?_
  exact pw_callV C (na := 0) (As := []) (S := .inl a2 :: S) hM t1 (by decide) (hcl := by rfl) kw805 kw807 kw22 kw45 kw808 (by decide +kernel) rfl dX7_walk_106 (by decide) (by decide) hk0 hn0 (by first | exact hS | (simp only [List.length_cons]; omega)) kk
set_option maxRecDepth 20000 in
theorem B_X7_walk_109 {G : Gx} {X : Cx} {h : PH} {k n : Nat} {Q : State → Prop} {S : List PV} {a0 : Nat} {a1 : Int} {a2 : Int} {a3 : Int} {s0 : Int} {s1 : Int} (C : CX_X7_walk G X) (q1 : pR s1 := by first | assumption | (unfold pR; omega)) (q2 : pR s0 := by first | assumption | (unfold pR; omega)) (kt : s0 ≤ s1 → PW G X 4 Q k n 158 [some (.inr a0), some (.inl a1), some (.inl a2), some (.inl a3)] (S) h) (kf : ¬ s0 ≤ s1 → PW G X 4 Q k n 112 [some (.inr a0), some (.inl a1), some (.inl a2), some (.inl a3)] (S) h) : PW G X 4 Q k n 109 [some (.inr a0), some (.inl a1), some (.inl a2), some (.inl a3)] (.inl s0 :: .inl s1 :: S) h := by
  exact pw_icmp_ge C 158 dX7_walk_109 (by decide) q1 q2 kt kf
set_option maxRecDepth 20000 in
theorem B_X7_walk_112 {G : Gx} {X : Cx} {h : PH} {k n : Nat} {Q : State → Prop} {S : List PV} {a0 : Nat} {a1 : Int} {a2 : Int} {a3 : Int} {PQ : Option PV → PH → Prop} (C : CX_X7_walk G X) (hk0 : k ≤ 0 := by decide) (hn0 : n ≤ 0 := by decide) (t1 : ph_T h a0 = 7 := by first | assumption | rfl) (hM : CT_X7_stepFrom G X.2.1 [.inr a0, .inl a2, .inl a3] h PQ) (hS : S.length ≤ 8 := by decide) (kk : ∀ r h', PQ r h' → PW G X 4 Q k n 118 [some (.inr a0), some (.inl a1), some (.inl a2), some (.inl a3)] (r.toList ++ S) h') : PW G X 4 Q k n 112 [some (.inr a0), some (.inl a1), some (.inl a2), some (.inl a3)] (S) h := by
  refine pw_aload_n C dX7_walk_112 rfl ?_
  refine pw_iload_n C dX7_walk_113 rfl ?_
  refine pw_iload_n C dX7_walk_114 rfl ?_
  exact pw_callV C (na := 2) (As := [.inl a2, .inl a3]) (S := S) hM t1 (by decide) (hcl := by rfl) kw833 kw835 kw28 kw45 kw836 (by decide +kernel) rfl dX7_walk_115 (by decide) (by decide) hk0 hn0 (by first | exact hS | (simp only [List.length_cons]; omega)) kk
set_option maxRecDepth 20000 in
theorem B_X7_walk_118 {G : Gx} {X : Cx} {h : PH} {k n : Nat} {Q : State → Prop} {S : List PV} {a0 : Nat} {a1 : Int} {a2 : Int} {a3 : Int} {r2 : Nat} {x8 : Int} {r11 : Nat} {x17 : Int} {PQ : Option PV → PH → Prop} (C : CX_X7_walk G X) (hk0 : k ≤ 0 := by decide) (hn0 : n ≤ 0 := by decide) (t1 : ph_T h a0 = 7 := by first | assumption | rfl) (e3 : ph_R h a0 8 = r2 := by first | assumption | rfl) (t4 : ph_T h r2 = 8 := by first | assumption | rfl) (q5 : (0 : Int) ≤ a2 + 1 := by first | assumption | omega) (q6 : a2 + 1 < (ph_L h r2 : Int) := by first | assumption | omega) (q7 : pR (a2 + 1) := by first | assumption | (unfold pR; omega)) (e9 : ph_I h r2 (Int.toNat (a2 + 1)) = x8 := by first | assumption | rfl) (t10 : ph_T h a0 = 7 := by first | assumption | rfl) (e12 : ph_R h a0 8 = r11 := by first | assumption | rfl) (t13 : ph_T h r11 = 8 := by first | assumption | rfl) (q14 : (0 : Int) ≤ a2 := by first | assumption | omega) (q15 : a2 < (ph_L h r11 : Int) := by first | assumption | omega) (q16 : pR a2 := by first | assumption | (unfold pR; omega)) (e18 : ph_I h r11 (Int.toNat a2) = x17 := by first | assumption | rfl) (hM : CT_X7_size G X.2.1 [.inl (x8 - x17)] h PQ) (hS : S.length ≤ 7 := by decide) (kk : ∀ r h', PQ r h' → PW G X 4 Q k n 137 [some (.inr a0), some (.inl a1), some (.inl a2), some (.inl a3)] (r.toList ++ (.inl a3 :: S)) h') : PW G X 4 Q k n 118 [some (.inr a0), some (.inl a1), some (.inl a2), some (.inl a3)] (S) h := by
  refine pw_iload_n C dX7_walk_118 rfl ?_
  refine pw_aload_n C dX7_walk_119 rfl ?_
  refine pw_getR C (t := 7) (f := 8) rfl inF7 rfl (by decide) (by decide) rfl kw686 dX7_walk_120 t1 ?_
  rw [e3]
  refine pw_iload_n C dX7_walk_123 rfl ?_
  refine pw_iconst C dX7_walk_124 ?_
  refine pw_iadd C dX7_walk_125 ?_
  refine pw_iald C dX7_walk_126 t4 q5 q6 q7 ?_
  rw [e9]
  refine pw_aload_n C dX7_walk_127 rfl ?_
  refine pw_getR C (t := 7) (f := 8) rfl inF7 rfl (by decide) (by decide) rfl kw686 dX7_walk_128 t10 ?_
  rw [e12]
  refine pw_iload_n C dX7_walk_131 rfl ?_
  refine pw_iald C dX7_walk_132 t13 q14 q15 q16 ?_
  rw [e18]
  refine pw_isub C dX7_walk_133 ?_
  exact pw_callS C (na := 1) (As := [.inl (x8 - x17)]) (S := .inl a3 :: S) hM kw751 kw752 kw45 kw753 (by decide +kernel) rfl dX7_walk_134 (by decide) (by decide) hk0 hn0 (by first | exact hS | (simp only [List.length_cons]; omega)) kk
set_option maxRecDepth 20000 in
theorem B_X7_walk_137 {G : Gx} {X : Cx} {h : PH} {k n : Nat} {Q : State → Prop} {S : List PV} {a0 : Nat} {a1 : Int} {a2 : Int} {a3 : Int} {s0 : Int} {s1 : Int} {r2 : Nat} {x8 : Int} {r11 : Nat} {x17 : Int} {PQ : Option PV → PH → Prop} (C : CX_X7_walk G X) (hk0 : k ≤ 0 := by decide) (hn0 : n ≤ 0 := by decide) (t1 : ph_T h a0 = 7 := by first | assumption | rfl) (e3 : ph_R h a0 9 = r2 := by first | assumption | rfl) (t4 : ph_T h r2 = 8 := by first | assumption | rfl) (q5 : (0 : Int) ≤ a2 + 1 := by first | assumption | omega) (q6 : a2 + 1 < (ph_L h r2 : Int) := by first | assumption | omega) (q7 : pR (a2 + 1) := by first | assumption | (unfold pR; omega)) (e9 : ph_I h r2 (Int.toNat (a2 + 1)) = x8 := by first | assumption | rfl) (t10 : ph_T h a0 = 7 := by first | assumption | rfl) (e12 : ph_R h a0 9 = r11 := by first | assumption | rfl) (t13 : ph_T h r11 = 8 := by first | assumption | rfl) (q14 : (0 : Int) ≤ a2 := by first | assumption | omega) (q15 : a2 < (ph_L h r11 : Int) := by first | assumption | omega) (q16 : pR a2 := by first | assumption | (unfold pR; omega)) (e18 : ph_I h r11 (Int.toNat a2) = x17 := by first | assumption | rfl) (hM : CT_X7_size G X.2.1 [.inl (x8 - x17)] h PQ) (hS : S.length ≤ 6 := by decide) (kk : ∀ r h', PQ r h' → PW G X 4 Q k n 155 [some (.inr a0), some (.inl a1), some (.inl a2), some (.inl a3)] (r.toList ++ (.inl s0 :: .inl s1 :: S)) h') : PW G X 4 Q k n 137 [some (.inr a0), some (.inl a1), some (.inl a2), some (.inl a3)] (.inl s0 :: .inl s1 :: S) h := by
  refine pw_aload_n C dX7_walk_137 rfl ?_
  refine pw_getR C (t := 7) (f := 9) rfl inF7 rfl (by decide) (by decide) rfl kw687 dX7_walk_138 t1 ?_
  rw [e3]
  refine pw_iload_n C dX7_walk_141 rfl ?_
  refine pw_iconst C dX7_walk_142 ?_
  refine pw_iadd C dX7_walk_143 ?_
  refine pw_iald C dX7_walk_144 t4 q5 q6 q7 ?_
  rw [e9]
  refine pw_aload_n C dX7_walk_145 rfl ?_
  refine pw_getR C (t := 7) (f := 9) rfl inF7 rfl (by decide) (by decide) rfl kw687 dX7_walk_146 t10 ?_
  rw [e12]
  refine pw_iload_n C dX7_walk_149 rfl ?_
  refine pw_iald C dX7_walk_150 t13 q14 q15 q16 ?_
  rw [e18]
  refine pw_isub C dX7_walk_151 ?_
  exact pw_callS C (na := 1) (As := [.inl (x8 - x17)]) (S := .inl s0 :: .inl s1 :: S) hM kw751 kw752 kw45 kw753 (by decide +kernel) rfl dX7_walk_152 (by decide) (by decide) hk0 hn0 (by first | exact hS | (simp only [List.length_cons]; omega)) kk
set_option maxRecDepth 20000 in
theorem B_X7_walk_155 {G : Gx} {X : Cx} {h : PH} {k n : Nat} {Q : State → Prop} {S : List PV} {a0 : Nat} {a1 : Int} {a2 : Int} {a3 : Int} {s0 : Int} {s1 : Int} {s2 : Int} (C : CX_X7_walk G X) (kk : PW G X 4 Q k n 158 [some (.inr a0), some (.inl a1), some (.inl a2), some (.inl (s2 + (s1 + s0)))] (S) h) : PW G X 4 Q k n 155 [some (.inr a0), some (.inl a1), some (.inl a2), some (.inl a3)] (.inl s0 :: .inl s1 :: .inl s2 :: S) h := by
  refine pw_iadd C dX7_walk_155 ?_
  refine pw_iadd C dX7_walk_156 ?_
  refine pw_istore_n C dX7_walk_157 (by decide) ?_
  exact kk
set_option maxRecDepth 20000 in
theorem B_X7_walk_158 {G : Gx} {X : Cx} {h : PH} {k n : Nat} {Q : State → Prop} {S : List PV} {a0 : Nat} {a1 : Int} {a2 : Int} {a3 : Int} (C : CX_X7_walk G X) (kk : PW G X 4 Q k n 54 [some (.inr a0), some (.inl a1), some (.inl (a2 + 1)), some (.inl a3)] (S) h) : PW G X 4 Q k n 158 [some (.inr a0), some (.inl a1), some (.inl a2), some (.inl a3)] (S) h := by
  refine pw_iinc C dX7_walk_158 rfl (by decide) ?_
  refine pw_goto C 54 dX7_walk_161 (by decide) ?_
  exact kk
set_option maxRecDepth 20000 in
theorem B_X7_walk_164 {G : Gx} {X : Cx} {h : PH} {k n : Nat} {a0 : Nat} {a1 : Int} {a2 : Int} {a3 : Int} {PQ : Option PV → PH → Prop} (C : CX_X7_walk G X) (hq : PQ none h) : PW G X 4 (pw_E G X PQ k n) k n 164 [some (.inr a0), some (.inl a1), some (.inl a2), some (.inl a3)] [] h := by
  exact pw_vreturn C dX7_walk_164 hq
theorem dX7_layAll_0 : decode cX7_layAll 0 = .ok (.aload_n 0, 1) := by decide +kernel
theorem dX7_layAll_1 : decode cX7_layAll 1 = .ok (.iload_n 1, 1) := by decide +kernel
theorem dX7_layAll_2 : decode cX7_layAll 2 = .ok (.iload_n 2, 1) := by decide +kernel
theorem dX7_layAll_3 : decode cX7_layAll 3 = .ok (.iconst 0, 1) := by decide +kernel
theorem dX7_layAll_4 : decode cX7_layAll 4 = .ok (.aload_n 0, 1) := by decide +kernel
theorem dX7_layAll_5 : decode cX7_layAll 5 = .ok (.getfield 7, 3) := by decide +kernel
theorem dX7_layAll_8 : decode cX7_layAll 8 = .ok (.bipush 16, 2) := by decide +kernel
theorem dX7_layAll_10 : decode cX7_layAll 10 = .ok (.iload_n 2, 1) := by decide +kernel
theorem dX7_layAll_11 : decode cX7_layAll 11 = .ok (.iadd, 1) := by decide +kernel
theorem dX7_layAll_12 : decode cX7_layAll 12 = .ok (.iaload, 1) := by decide +kernel
theorem dX7_layAll_13 : decode cX7_layAll 13 = .ok (.invokevirtual 104, 3) := by decide +kernel
theorem dX7_layAll_16 : decode cX7_layAll 16 = .ok (.ireturn, 1) := by decide +kernel
set_option maxRecDepth 20000 in
theorem B_X7_layAll_0 {G : Gx} {X : Cx} {h : PH} {k n : Nat} {Q : State → Prop} {S : List PV} {a0 : Nat} {a1 : Int} {a2 : Int} {r2 : Nat} {x8 : Int} {PQ : Option PV → PH → Prop} (C : CX_X7_layAll G X) (hk0 : k ≤ 0 := by decide) (hn0 : n ≤ 0 := by decide) (t1 : ph_T h a0 = 7 := by first | assumption | rfl) (e3 : ph_R h a0 0 = r2 := by first | assumption | rfl) (t4 : ph_T h r2 = 8 := by first | assumption | rfl) (q5 : (0 : Int) ≤ 16 + a2 := by first | assumption | omega) (q6 : 16 + a2 < (ph_L h r2 : Int) := by first | assumption | omega) (q7 : pR (16 + a2) := by first | assumption | (unfold pR; omega)) (e9 : ph_I h r2 (Int.toNat (16 + a2)) = x8 := by first | assumption | rfl) (t10 : ph_T h a0 = 7 := by first | assumption | rfl) (hM : CT_X7_lay G X.2.1 [.inr a0, .inl a1, .inl a2, .inl 0, .inl x8] h PQ) (hS : S.length ≤ 8 := by decide) (kk : ∀ r h', PQ r h' → PW G X 3 Q k n 16 [some (.inr a0), some (.inl a1), some (.inl a2)] (r.toList ++ S) h') : PW G X 3 Q k n 0 [some (.inr a0), some (.inl a1), some (.inl a2)] (S) h := by
  refine pw_aload_n C dX7_layAll_0 rfl ?_
  refine pw_iload_n C dX7_layAll_1 rfl ?_
  refine pw_iload_n C dX7_layAll_2 rfl ?_
  refine pw_iconst C dX7_layAll_3 ?_
  refine pw_aload_n C dX7_layAll_4 rfl ?_
  refine pw_getR C (t := 7) (f := 0) rfl inF7 rfl (by decide) (by decide) rfl kw678 dX7_layAll_5 t1 ?_
  rw [e3]
  refine pw_bipush C dX7_layAll_8 rfl ?_
  refine pw_iload_n C dX7_layAll_10 rfl ?_
  refine pw_iadd C dX7_layAll_11 ?_
  refine pw_iald C dX7_layAll_12 t4 q5 q6 q7 ?_
  rw [e9]
  exact pw_callV C (na := 4) (As := [.inl a1, .inl a2, .inl 0, .inl x8]) (S := S) hM t10 (by decide) (hcl := by rfl) kw801 kw803 kw21 kw45 kw804 (by decide +kernel) rfl dX7_layAll_13 (by decide) (by decide) hk0 hn0 (by first | exact hS | (simp only [List.length_cons]; omega)) kk
set_option maxRecDepth 20000 in
theorem B_X7_layAll_16 {G : Gx} {X : Cx} {h : PH} {k n : Nat} {a0 : Nat} {a1 : Int} {a2 : Int} {s0 : Int} {PQ : Option PV → PH → Prop} (C : CX_X7_layAll G X) (hq : PQ (some (.inl s0)) h) : PW G X 3 (pw_E G X PQ k n) k n 16 [some (.inr a0), some (.inl a1), some (.inl a2)] [.inl s0] h := by
  exact pw_ireturn C dX7_layAll_16 hq
theorem dX7_isOpen_0 : decode cX7_isOpen 0 = .ok (.aload_n 0, 1) := by decide +kernel
theorem dX7_isOpen_1 : decode cX7_isOpen 1 = .ok (.getfield 7, 3) := by decide +kernel
theorem dX7_isOpen_4 : decode cX7_isOpen 4 = .ok (.bipush 16, 2) := by decide +kernel
theorem dX7_isOpen_6 : decode cX7_isOpen 6 = .ok (.iload_n 1, 1) := by decide +kernel
theorem dX7_isOpen_7 : decode cX7_isOpen 7 = .ok (.iadd, 1) := by decide +kernel
theorem dX7_isOpen_8 : decode cX7_isOpen 8 = .ok (.iaload, 1) := by decide +kernel
theorem dX7_isOpen_9 : decode cX7_isOpen 9 = .ok (.ifCond .le 19, 3) := by decide +kernel
theorem dX7_isOpen_12 : decode cX7_isOpen 12 = .ok (.aload_n 0, 1) := by decide +kernel
theorem dX7_isOpen_13 : decode cX7_isOpen 13 = .ok (.getfield 7, 3) := by decide +kernel
theorem dX7_isOpen_16 : decode cX7_isOpen 16 = .ok (.bipush 24, 2) := by decide +kernel
theorem dX7_isOpen_18 : decode cX7_isOpen 18 = .ok (.iload_n 1, 1) := by decide +kernel
theorem dX7_isOpen_19 : decode cX7_isOpen 19 = .ok (.iadd, 1) := by decide +kernel
theorem dX7_isOpen_20 : decode cX7_isOpen 20 = .ok (.iaload, 1) := by decide +kernel
theorem dX7_isOpen_21 : decode cX7_isOpen 21 = .ok (.ifCond .ge 7, 3) := by decide +kernel
theorem dX7_isOpen_24 : decode cX7_isOpen 24 = .ok (.iconst 1, 1) := by decide +kernel
theorem dX7_isOpen_25 : decode cX7_isOpen 25 = .ok (.goto 4, 3) := by decide +kernel
theorem dX7_isOpen_28 : decode cX7_isOpen 28 = .ok (.iconst 0, 1) := by decide +kernel
theorem dX7_isOpen_29 : decode cX7_isOpen 29 = .ok (.ireturn, 1) := by decide +kernel
set_option maxRecDepth 20000 in
theorem B_X7_isOpen_0 {G : Gx} {X : Cx} {h : PH} {k n : Nat} {Q : State → Prop} {S : List PV} {a0 : Nat} {a1 : Int} {r2 : Nat} {x8 : Int} (C : CX_X7_isOpen G X) (t1 : ph_T h a0 = 7 := by first | assumption | rfl) (e3 : ph_R h a0 0 = r2 := by first | assumption | rfl) (t4 : ph_T h r2 = 8 := by first | assumption | rfl) (q5 : (0 : Int) ≤ 16 + a1 := by first | assumption | omega) (q6 : 16 + a1 < (ph_L h r2 : Int) := by first | assumption | omega) (q7 : pR (16 + a1) := by first | assumption | (unfold pR; omega)) (e9 : ph_I h r2 (Int.toNat (16 + a1)) = x8 := by first | assumption | rfl) (q10 : pR x8 := by first | assumption | (unfold pR; omega)) (kt : x8 ≤ 0 → PW G X 2 Q k n 28 [some (.inr a0), some (.inl a1)] (S) h) (kf : ¬ x8 ≤ 0 → PW G X 2 Q k n 12 [some (.inr a0), some (.inl a1)] (S) h) : PW G X 2 Q k n 0 [some (.inr a0), some (.inl a1)] (S) h := by
  refine pw_aload_n C dX7_isOpen_0 rfl ?_
  refine pw_getR C (t := 7) (f := 0) rfl inF7 rfl (by decide) (by decide) rfl kw678 dX7_isOpen_1 t1 ?_
  rw [e3]
  refine pw_bipush C dX7_isOpen_4 rfl ?_
  refine pw_iload_n C dX7_isOpen_6 rfl ?_
  refine pw_iadd C dX7_isOpen_7 ?_
  refine pw_iald C dX7_isOpen_8 t4 q5 q6 q7 ?_
  rw [e9]
  exact pw_if_le C 28 dX7_isOpen_9 (by decide) q10 kt kf
set_option maxRecDepth 20000 in
theorem B_X7_isOpen_12 {G : Gx} {X : Cx} {h : PH} {k n : Nat} {Q : State → Prop} {S : List PV} {a0 : Nat} {a1 : Int} {r2 : Nat} {x8 : Int} (C : CX_X7_isOpen G X) (t1 : ph_T h a0 = 7 := by first | assumption | rfl) (e3 : ph_R h a0 0 = r2 := by first | assumption | rfl) (t4 : ph_T h r2 = 8 := by first | assumption | rfl) (q5 : (0 : Int) ≤ 24 + a1 := by first | assumption | omega) (q6 : 24 + a1 < (ph_L h r2 : Int) := by first | assumption | omega) (q7 : pR (24 + a1) := by first | assumption | (unfold pR; omega)) (e9 : ph_I h r2 (Int.toNat (24 + a1)) = x8 := by first | assumption | rfl) (q10 : pR x8 := by first | assumption | (unfold pR; omega)) (kt : 0 ≤ x8 → PW G X 2 Q k n 28 [some (.inr a0), some (.inl a1)] (S) h) (kf : ¬ 0 ≤ x8 → PW G X 2 Q k n 24 [some (.inr a0), some (.inl a1)] (S) h) : PW G X 2 Q k n 12 [some (.inr a0), some (.inl a1)] (S) h := by
  refine pw_aload_n C dX7_isOpen_12 rfl ?_
  refine pw_getR C (t := 7) (f := 0) rfl inF7 rfl (by decide) (by decide) rfl kw678 dX7_isOpen_13 t1 ?_
  rw [e3]
  refine pw_bipush C dX7_isOpen_16 rfl ?_
  refine pw_iload_n C dX7_isOpen_18 rfl ?_
  refine pw_iadd C dX7_isOpen_19 ?_
  refine pw_iald C dX7_isOpen_20 t4 q5 q6 q7 ?_
  rw [e9]
  exact pw_if_ge C 28 dX7_isOpen_21 (by decide) q10 kt kf
set_option maxRecDepth 20000 in
theorem B_X7_isOpen_24 {G : Gx} {X : Cx} {h : PH} {k n : Nat} {Q : State → Prop} {S : List PV} {a0 : Nat} {a1 : Int} (C : CX_X7_isOpen G X) (kk : PW G X 2 Q k n 29 [some (.inr a0), some (.inl a1)] (.inl 1 :: S) h) : PW G X 2 Q k n 24 [some (.inr a0), some (.inl a1)] (S) h := by
  refine pw_iconst C dX7_isOpen_24 ?_
  refine pw_goto C 29 dX7_isOpen_25 (by decide) ?_
  exact kk
set_option maxRecDepth 20000 in
theorem B_X7_isOpen_28 {G : Gx} {X : Cx} {h : PH} {k n : Nat} {Q : State → Prop} {S : List PV} {a0 : Nat} {a1 : Int} (C : CX_X7_isOpen G X) (kk : PW G X 2 Q k n 29 [some (.inr a0), some (.inl a1)] (.inl 0 :: S) h) : PW G X 2 Q k n 28 [some (.inr a0), some (.inl a1)] (S) h := by
  refine pw_iconst C dX7_isOpen_28 ?_
  exact kk
set_option maxRecDepth 20000 in
theorem B_X7_isOpen_29 {G : Gx} {X : Cx} {h : PH} {k n : Nat} {a0 : Nat} {a1 : Int} {s0 : Int} {PQ : Option PV → PH → Prop} (C : CX_X7_isOpen G X) (q1 : (s0 : Int) = 0 ∨ (s0 : Int) = 1 := by omega) (hq : PQ (some (.inl s0)) h) : PW G X 2 (pw_E G X PQ k n) k n 29 [some (.inr a0), some (.inl a1)] [.inl s0] h := by
  exact pw_zreturn C dX7_isOpen_29 q1 hq
theorem dX7_seenTick_0 : decode cX7_seenTick 0 = .ok (.bipush (-6), 2) := by decide +kernel
theorem dX7_seenTick_2 : decode cX7_seenTick 2 = .ok (.istore_n 2, 1) := by decide +kernel
theorem dX7_seenTick_3 : decode cX7_seenTick 3 = .ok (.aload_n 0, 1) := by decide +kernel
theorem dX7_seenTick_4 : decode cX7_seenTick 4 = .ok (.getfield 7, 3) := by decide +kernel
theorem dX7_seenTick_7 : decode cX7_seenTick 7 = .ok (.sipush 304, 3) := by decide +kernel
theorem dX7_seenTick_10 : decode cX7_seenTick 10 = .ok (.aload_n 0, 1) := by decide +kernel
theorem dX7_seenTick_11 : decode cX7_seenTick 11 = .ok (.getfield 71, 3) := by decide +kernel
theorem dX7_seenTick_14 : decode cX7_seenTick 14 = .ok (.iadd, 1) := by decide +kernel
theorem dX7_seenTick_15 : decode cX7_seenTick 15 = .ok (.iaload, 1) := by decide +kernel
theorem dX7_seenTick_16 : decode cX7_seenTick 16 = .ok (.istore_n 3, 1) := by decide +kernel
theorem dX7_seenTick_17 : decode cX7_seenTick 17 = .ok (.iload_n 3, 1) := by decide +kernel
theorem dX7_seenTick_18 : decode cX7_seenTick 18 = .ok (.aload_n 0, 1) := by decide +kernel
theorem dX7_seenTick_19 : decode cX7_seenTick 19 = .ok (.invokevirtual 82, 3) := by decide +kernel
theorem dX7_seenTick_22 : decode cX7_seenTick 22 = .ok (.if_icmp .gt 32, 3) := by decide +kernel
theorem dX7_seenTick_25 : decode cX7_seenTick 25 = .ok (.aload_n 0, 1) := by decide +kernel
theorem dX7_seenTick_26 : decode cX7_seenTick 26 = .ok (.getfield 30, 3) := by decide +kernel
theorem dX7_seenTick_29 : decode cX7_seenTick 29 = .ok (.iload_n 3, 1) := by decide +kernel
theorem dX7_seenTick_30 : decode cX7_seenTick 30 = .ok (.baload, 1) := by decide +kernel
theorem dX7_seenTick_31 : decode cX7_seenTick 31 = .ok (.ifCond .eq 15, 3) := by decide +kernel
theorem dX7_seenTick_34 : decode cX7_seenTick 34 = .ok (.iload_n 1, 1) := by decide +kernel
theorem dX7_seenTick_35 : decode cX7_seenTick 35 = .ok (.ifCond .ne 7, 3) := by decide +kernel
theorem dX7_seenTick_38 : decode cX7_seenTick 38 = .ok (.iload_n 2, 1) := by decide +kernel
theorem dX7_seenTick_39 : decode cX7_seenTick 39 = .ok (.ifCond .ge 7, 3) := by decide +kernel
theorem dX7_seenTick_42 : decode cX7_seenTick 42 = .ok (.iload_n 3, 1) := by decide +kernel
theorem dX7_seenTick_43 : decode cX7_seenTick 43 = .ok (.goto 4, 3) := by decide +kernel
theorem dX7_seenTick_46 : decode cX7_seenTick 46 = .ok (.iload_n 2, 1) := by decide +kernel
theorem dX7_seenTick_47 : decode cX7_seenTick 47 = .ok (.istore_n 2, 1) := by decide +kernel
theorem dX7_seenTick_48 : decode cX7_seenTick 48 = .ok (.iinc 3 1, 3) := by decide +kernel
theorem dX7_seenTick_51 : decode cX7_seenTick 51 = .ok (.goto (-34), 3) := by decide +kernel
theorem dX7_seenTick_54 : decode cX7_seenTick 54 = .ok (.iload_n 2, 1) := by decide +kernel
theorem dX7_seenTick_55 : decode cX7_seenTick 55 = .ok (.ireturn, 1) := by decide +kernel
set_option maxRecDepth 20000 in
theorem B_X7_seenTick_0 {G : Gx} {X : Cx} {h : PH} {k n : Nat} {Q : State → Prop} {S : List PV} {a0 : Nat} {a1 : Int} {r2 : Nat} {x5 : Int} {x11 : Int} (C : CX_X7_seenTick G X) (t1 : ph_T h a0 = 7 := by first | assumption | rfl) (e3 : ph_R h a0 0 = r2 := by first | assumption | rfl) (t4 : ph_T h a0 = 7 := by first | assumption | rfl) (e6 : ph_I h a0 4 = x5 := by first | assumption | rfl) (t7 : ph_T h r2 = 8 := by first | assumption | rfl) (q8 : (0 : Int) ≤ 304 + x5 := by first | assumption | omega) (q9 : 304 + x5 < (ph_L h r2 : Int) := by first | assumption | omega) (q10 : pR (304 + x5) := by first | assumption | (unfold pR; omega)) (e12 : ph_I h r2 (Int.toNat (304 + x5)) = x11 := by first | assumption | rfl) (kk : PW G X 4 Q k n 17 [some (.inr a0), some (.inl a1), some (.inl (-6)), some (.inl x11)] (S) h) : PW G X 4 Q k n 0 [some (.inr a0), some (.inl a1), none, none] (S) h := by
  refine pw_bipush C dX7_seenTick_0 rfl ?_
  refine pw_istore_n C dX7_seenTick_2 (by decide) ?_
  refine pw_aload_n C dX7_seenTick_3 rfl ?_
  refine pw_getR C (t := 7) (f := 0) rfl inF7 rfl (by decide) (by decide) rfl kw678 dX7_seenTick_4 t1 ?_
  rw [e3]
  refine pw_sipush C dX7_seenTick_7 rfl ?_
  refine pw_aload_n C dX7_seenTick_10 rfl ?_
  refine pw_getI C (t := 7) (f := 4) rfl inF7 rfl (by decide) (by decide) rfl kw682 dX7_seenTick_11 t4 ?_
  rw [e6]
  refine pw_iadd C dX7_seenTick_14 ?_
  refine pw_iald C dX7_seenTick_15 t7 q8 q9 q10 ?_
  rw [e12]
  refine pw_istore_n C dX7_seenTick_16 (by decide) ?_
  exact kk
set_option maxRecDepth 20000 in
theorem B_X7_seenTick_17 {G : Gx} {X : Cx} {h : PH} {k n : Nat} {Q : State → Prop} {S : List PV} {a0 : Nat} {a1 : Int} {a2 : Int} {a3 : Int} {PQ : Option PV → PH → Prop} (C : CX_X7_seenTick G X) (hk0 : k ≤ 0 := by decide) (hn0 : n ≤ 0 := by decide) (t1 : ph_T h a0 = 7 := by first | assumption | rfl) (hM : CT_X7_lastTick G X.2.1 [.inr a0] h PQ) (hS : S.length ≤ 7 := by decide) (kk : ∀ r h', PQ r h' → PW G X 4 Q k n 22 [some (.inr a0), some (.inl a1), some (.inl a2), some (.inl a3)] (r.toList ++ (.inl a3 :: S)) h') : PW G X 4 Q k n 17 [some (.inr a0), some (.inl a1), some (.inl a2), some (.inl a3)] (S) h := by
  refine pw_iload_n C dX7_seenTick_17 rfl ?_
  refine pw_aload_n C dX7_seenTick_18 rfl ?_
  exact pw_callV C (na := 0) (As := []) (S := .inl a3 :: S) hM t1 (by decide) (hcl := by rfl) kw805 kw807 kw22 kw45 kw808 (by decide +kernel) rfl dX7_seenTick_19 (by decide) (by decide) hk0 hn0 (by first | exact hS | (simp only [List.length_cons]; omega)) kk
set_option maxRecDepth 20000 in
theorem B_X7_seenTick_22 {G : Gx} {X : Cx} {h : PH} {k n : Nat} {Q : State → Prop} {S : List PV} {a0 : Nat} {a1 : Int} {a2 : Int} {a3 : Int} {s0 : Int} {s1 : Int} (C : CX_X7_seenTick G X) (q1 : pR s1 := by first | assumption | (unfold pR; omega)) (q2 : pR s0 := by first | assumption | (unfold pR; omega)) (kt : s0 < s1 → PW G X 4 Q k n 54 [some (.inr a0), some (.inl a1), some (.inl a2), some (.inl a3)] (S) h) (kf : ¬ s0 < s1 → PW G X 4 Q k n 25 [some (.inr a0), some (.inl a1), some (.inl a2), some (.inl a3)] (S) h) : PW G X 4 Q k n 22 [some (.inr a0), some (.inl a1), some (.inl a2), some (.inl a3)] (.inl s0 :: .inl s1 :: S) h := by
  exact pw_icmp_gt C 54 dX7_seenTick_22 (by decide) q1 q2 kt kf
set_option maxRecDepth 20000 in
theorem B_X7_seenTick_25 {G : Gx} {X : Cx} {h : PH} {k n : Nat} {Q : State → Prop} {S : List PV} {a0 : Nat} {a1 : Int} {a2 : Int} {a3 : Int} {r2 : Nat} {x8 : Int} (C : CX_X7_seenTick G X) (t1 : ph_T h a0 = 7 := by first | assumption | rfl) (e3 : ph_R h a0 10 = r2 := by first | assumption | rfl) (t4 : ph_T h r2 = 9 := by first | assumption | rfl) (q5 : (0 : Int) ≤ a3 := by first | assumption | omega) (q6 : a3 < (ph_L h r2 : Int) := by first | assumption | omega) (q7 : pR a3 := by first | assumption | (unfold pR; omega)) (e9 : ph_I h r2 (Int.toNat a3) = x8 := by first | assumption | rfl) (q10 : pR x8 := by first | assumption | (unfold pR; omega)) (kt : x8 = 0 → PW G X 4 Q k n 46 [some (.inr a0), some (.inl a1), some (.inl a2), some (.inl a3)] (S) h) (kf : ¬ x8 = 0 → PW G X 4 Q k n 34 [some (.inr a0), some (.inl a1), some (.inl a2), some (.inl a3)] (S) h) : PW G X 4 Q k n 25 [some (.inr a0), some (.inl a1), some (.inl a2), some (.inl a3)] (S) h := by
  refine pw_aload_n C dX7_seenTick_25 rfl ?_
  refine pw_getR C (t := 7) (f := 10) rfl inF7 rfl (by decide) (by decide) rfl kw688 dX7_seenTick_26 t1 ?_
  rw [e3]
  refine pw_iload_n C dX7_seenTick_29 rfl ?_
  refine pw_zald C dX7_seenTick_30 t4 q5 q6 q7 ?_
  rw [e9]
  exact pw_if_eq C 46 dX7_seenTick_31 (by decide) q10 kt kf
set_option maxRecDepth 20000 in
theorem B_X7_seenTick_34 {G : Gx} {X : Cx} {h : PH} {k n : Nat} {Q : State → Prop} {S : List PV} {a0 : Nat} {a1 : Int} {a2 : Int} {a3 : Int} (C : CX_X7_seenTick G X) (q1 : pR a1 := by first | assumption | (unfold pR; omega)) (kt : ¬ a1 = 0 → PW G X 4 Q k n 42 [some (.inr a0), some (.inl a1), some (.inl a2), some (.inl a3)] (S) h) (kf : a1 = 0 → PW G X 4 Q k n 38 [some (.inr a0), some (.inl a1), some (.inl a2), some (.inl a3)] (S) h) : PW G X 4 Q k n 34 [some (.inr a0), some (.inl a1), some (.inl a2), some (.inl a3)] (S) h := by
  refine pw_iload_n C dX7_seenTick_34 rfl ?_
  exact pw_if_ne C 42 dX7_seenTick_35 (by decide) q1 kt kf
set_option maxRecDepth 20000 in
theorem B_X7_seenTick_38 {G : Gx} {X : Cx} {h : PH} {k n : Nat} {Q : State → Prop} {S : List PV} {a0 : Nat} {a1 : Int} {a2 : Int} {a3 : Int} (C : CX_X7_seenTick G X) (q1 : pR a2 := by first | assumption | (unfold pR; omega)) (kt : 0 ≤ a2 → PW G X 4 Q k n 46 [some (.inr a0), some (.inl a1), some (.inl a2), some (.inl a3)] (S) h) (kf : ¬ 0 ≤ a2 → PW G X 4 Q k n 42 [some (.inr a0), some (.inl a1), some (.inl a2), some (.inl a3)] (S) h) : PW G X 4 Q k n 38 [some (.inr a0), some (.inl a1), some (.inl a2), some (.inl a3)] (S) h := by
  refine pw_iload_n C dX7_seenTick_38 rfl ?_
  exact pw_if_ge C 46 dX7_seenTick_39 (by decide) q1 kt kf
set_option maxRecDepth 20000 in
theorem B_X7_seenTick_42 {G : Gx} {X : Cx} {h : PH} {k n : Nat} {Q : State → Prop} {S : List PV} {a0 : Nat} {a1 : Int} {a2 : Int} {a3 : Int} (C : CX_X7_seenTick G X) (kk : PW G X 4 Q k n 47 [some (.inr a0), some (.inl a1), some (.inl a2), some (.inl a3)] (.inl a3 :: S) h) : PW G X 4 Q k n 42 [some (.inr a0), some (.inl a1), some (.inl a2), some (.inl a3)] (S) h := by
  refine pw_iload_n C dX7_seenTick_42 rfl ?_
  refine pw_goto C 47 dX7_seenTick_43 (by decide) ?_
  exact kk
set_option maxRecDepth 20000 in
theorem B_X7_seenTick_46 {G : Gx} {X : Cx} {h : PH} {k n : Nat} {Q : State → Prop} {S : List PV} {a0 : Nat} {a1 : Int} {a2 : Int} {a3 : Int} (C : CX_X7_seenTick G X) (kk : PW G X 4 Q k n 47 [some (.inr a0), some (.inl a1), some (.inl a2), some (.inl a3)] (.inl a2 :: S) h) : PW G X 4 Q k n 46 [some (.inr a0), some (.inl a1), some (.inl a2), some (.inl a3)] (S) h := by
  refine pw_iload_n C dX7_seenTick_46 rfl ?_
  exact kk
set_option maxRecDepth 20000 in
theorem B_X7_seenTick_47 {G : Gx} {X : Cx} {h : PH} {k n : Nat} {Q : State → Prop} {S : List PV} {a0 : Nat} {a1 : Int} {a2 : Int} {a3 : Int} {s0 : Int} (C : CX_X7_seenTick G X) (kk : PW G X 4 Q k n 17 [some (.inr a0), some (.inl a1), some (.inl s0), some (.inl (a3 + 1))] (S) h) : PW G X 4 Q k n 47 [some (.inr a0), some (.inl a1), some (.inl a2), some (.inl a3)] (.inl s0 :: S) h := by
  refine pw_istore_n C dX7_seenTick_47 (by decide) ?_
  refine pw_iinc C dX7_seenTick_48 rfl (by decide) ?_
  refine pw_goto C 17 dX7_seenTick_51 (by decide) ?_
  exact kk
set_option maxRecDepth 20000 in
theorem B_X7_seenTick_54 {G : Gx} {X : Cx} {h : PH} {k n : Nat} {a0 : Nat} {a1 : Int} {a2 : Int} {a3 : Int} {PQ : Option PV → PH → Prop} (C : CX_X7_seenTick G X) (hq : PQ (some (.inl a2)) h) : PW G X 4 (pw_E G X PQ k n) k n 54 [some (.inr a0), some (.inl a1), some (.inl a2), some (.inl a3)] [] h := by
  refine pw_iload_n C dX7_seenTick_54 rfl ?_
  exact pw_ireturn C dX7_seenTick_55 hq
theorem dX7_way_0 : decode cX7_way 0 = .ok (.aload_n 0, 1) := by decide +kernel
theorem dX7_way_1 : decode cX7_way 1 = .ok (.iload_n 2, 1) := by decide +kernel
theorem dX7_way_2 : decode cX7_way 2 = .ok (.invokevirtual 37, 3) := by decide +kernel
theorem dX7_way_5 : decode cX7_way 5 = .ok (.istore 4, 2) := by decide +kernel
theorem dX7_way_7 : decode cX7_way 7 = .ok (.iload_n 1, 1) := by decide +kernel
theorem dX7_way_8 : decode cX7_way 8 = .ok (.invokestatic 45, 3) := by decide +kernel
theorem dX7_way_11 : decode cX7_way 11 = .ok (.ifCond .eq 8, 3) := by decide +kernel
theorem dX7_way_14 : decode cX7_way 14 = .ok (.iload 4, 2) := by decide +kernel
theorem dX7_way_16 : decode cX7_way 16 = .ok (.ifCond .ge 5, 3) := by decide +kernel
theorem dX7_way_19 : decode cX7_way 19 = .ok (.iconst (-1), 1) := by decide +kernel
theorem dX7_way_20 : decode cX7_way 20 = .ok (.ireturn, 1) := by decide +kernel
theorem dX7_way_21 : decode cX7_way 21 = .ok (.iload_n 3, 1) := by decide +kernel
theorem dX7_way_22 : decode cX7_way 22 = .ok (.iconst 0, 1) := by decide +kernel
theorem dX7_way_23 : decode cX7_way 23 = .ok (.iconst 5, 1) := by decide +kernel
theorem dX7_way_24 : decode cX7_way 24 = .ok (.invokestatic 33, 3) := by decide +kernel
theorem dX7_way_27 : decode cX7_way 27 = .ok (.ifCond .ne 6, 3) := by decide +kernel
theorem dX7_way_30 : decode cX7_way 30 = .ok (.bipush (-2), 2) := by decide +kernel
theorem dX7_way_32 : decode cX7_way 32 = .ok (.ireturn, 1) := by decide +kernel
theorem dX7_way_33 : decode cX7_way 33 = .ok (.aload_n 0, 1) := by decide +kernel
theorem dX7_way_34 : decode cX7_way 34 = .ok (.iload 4, 2) := by decide +kernel
theorem dX7_way_36 : decode cX7_way 36 = .ok (.invokevirtual 108, 3) := by decide +kernel
theorem dX7_way_39 : decode cX7_way 39 = .ok (.ifCond .ne 6, 3) := by decide +kernel
theorem dX7_way_42 : decode cX7_way 42 = .ok (.bipush (-3), 2) := by decide +kernel
theorem dX7_way_44 : decode cX7_way 44 = .ok (.ireturn, 1) := by decide +kernel
theorem dX7_way_45 : decode cX7_way 45 = .ok (.aload_n 0, 1) := by decide +kernel
theorem dX7_way_46 : decode cX7_way 46 = .ok (.iload_n 1, 1) := by decide +kernel
theorem dX7_way_47 : decode cX7_way 47 = .ok (.iload 4, 2) := by decide +kernel
theorem dX7_way_49 : decode cX7_way 49 = .ok (.invokevirtual 111, 3) := by decide +kernel
theorem dX7_way_52 : decode cX7_way 52 = .ok (.istore 5, 2) := by decide +kernel
theorem dX7_way_54 : decode cX7_way 54 = .ok (.iload 5, 2) := by decide +kernel
theorem dX7_way_56 : decode cX7_way 56 = .ok (.ldc 74, 2) := by decide +kernel
theorem dX7_way_58 : decode cX7_way 58 = .ok (.if_icmp .ne 6, 3) := by decide +kernel
theorem dX7_way_61 : decode cX7_way 61 = .ok (.bipush (-6), 2) := by decide +kernel
theorem dX7_way_63 : decode cX7_way 63 = .ok (.ireturn, 1) := by decide +kernel
theorem dX7_way_64 : decode cX7_way 64 = .ok (.aload_n 0, 1) := by decide +kernel
theorem dX7_way_65 : decode cX7_way 65 = .ok (.iload 5, 2) := by decide +kernel
theorem dX7_way_67 : decode cX7_way 67 = .ok (.invokevirtual 114, 3) := by decide +kernel
theorem dX7_way_70 : decode cX7_way 70 = .ok (.iload_n 3, 1) := by decide +kernel
theorem dX7_way_71 : decode cX7_way 71 = .ok (.tableswitch 78 0 4 #[33, 39, 45, 51, 57], 33) := by decide +kernel
theorem dX7_way_104 : decode cX7_way 104 = .ok (.iload 5, 2) := by decide +kernel
theorem dX7_way_106 : decode cX7_way 106 = .ok (.invokestatic 97, 3) := by decide +kernel
theorem dX7_way_109 : decode cX7_way 109 = .ok (.ireturn, 1) := by decide +kernel
theorem dX7_way_110 : decode cX7_way 110 = .ok (.iload 5, 2) := by decide +kernel
theorem dX7_way_112 : decode cX7_way 112 = .ok (.invokestatic 118, 3) := by decide +kernel
theorem dX7_way_115 : decode cX7_way 115 = .ok (.ireturn, 1) := by decide +kernel
theorem dX7_way_116 : decode cX7_way 116 = .ok (.aload_n 0, 1) := by decide +kernel
theorem dX7_way_117 : decode cX7_way 117 = .ok (.iconst 0, 1) := by decide +kernel
theorem dX7_way_118 : decode cX7_way 118 = .ok (.invokevirtual 121, 3) := by decide +kernel
theorem dX7_way_121 : decode cX7_way 121 = .ok (.ireturn, 1) := by decide +kernel
theorem dX7_way_122 : decode cX7_way 122 = .ok (.aload_n 0, 1) := by decide +kernel
theorem dX7_way_123 : decode cX7_way 123 = .ok (.iconst 1, 1) := by decide +kernel
theorem dX7_way_124 : decode cX7_way 124 = .ok (.invokevirtual 121, 3) := by decide +kernel
theorem dX7_way_127 : decode cX7_way 127 = .ok (.ireturn, 1) := by decide +kernel
theorem dX7_way_128 : decode cX7_way 128 = .ok (.aload_n 0, 1) := by decide +kernel
theorem dX7_way_129 : decode cX7_way 129 = .ok (.getfield 24, 3) := by decide +kernel
theorem dX7_way_132 : decode cX7_way 132 = .ok (.aload_n 0, 1) := by decide +kernel
theorem dX7_way_133 : decode cX7_way 133 = .ok (.invokevirtual 82, 3) := by decide +kernel
theorem dX7_way_136 : decode cX7_way 136 = .ok (.iaload, 1) := by decide +kernel
theorem dX7_way_137 : decode cX7_way 137 = .ok (.aload_n 0, 1) := by decide +kernel
theorem dX7_way_138 : decode cX7_way 138 = .ok (.getfield 7, 3) := by decide +kernel
theorem dX7_way_141 : decode cX7_way 141 = .ok (.sipush 308, 3) := by decide +kernel
theorem dX7_way_144 : decode cX7_way 144 = .ok (.iload_n 1, 1) := by decide +kernel
theorem dX7_way_145 : decode cX7_way 145 = .ok (.iadd, 1) := by decide +kernel
theorem dX7_way_146 : decode cX7_way 146 = .ok (.iaload, 1) := by decide +kernel
theorem dX7_way_147 : decode cX7_way 147 = .ok (.iadd, 1) := by decide +kernel
theorem dX7_way_148 : decode cX7_way 148 = .ok (.ireturn, 1) := by decide +kernel
theorem dX7_way_149 : decode cX7_way 149 = .ok (.aload_n 0, 1) := by decide +kernel
theorem dX7_way_150 : decode cX7_way 150 = .ok (.getfield 27, 3) := by decide +kernel
theorem dX7_way_153 : decode cX7_way 153 = .ok (.aload_n 0, 1) := by decide +kernel
theorem dX7_way_154 : decode cX7_way 154 = .ok (.invokevirtual 82, 3) := by decide +kernel
theorem dX7_way_157 : decode cX7_way 157 = .ok (.iaload, 1) := by decide +kernel
theorem dX7_way_158 : decode cX7_way 158 = .ok (.ireturn, 1) := by decide +kernel
set_option maxRecDepth 20000 in
theorem B_X7_way_0 {G : Gx} {X : Cx} {h : PH} {k n : Nat} {Q : State → Prop} {S : List PV} {a0 : Nat} {a1 : Int} {a2 : Int} {a3 : Int} {PQ : Option PV → PH → Prop} (C : CX_X7_way G X) (hk0 : k ≤ 0 := by decide) (hn0 : n ≤ 0 := by decide) (t1 : ph_T h a0 = 7 := by first | assumption | rfl) (hM : CT_X7_passOf G X.2.1 [.inr a0, .inl a2] h PQ) (hS : S.length ≤ 8 := by decide) (kk : ∀ r h', PQ r h' → PW G X 6 Q k n 5 [some (.inr a0), some (.inl a1), some (.inl a2), some (.inl a3), none, none] (r.toList ++ S) h') : PW G X 6 Q k n 0 [some (.inr a0), some (.inl a1), some (.inl a2), some (.inl a3), none, none] (S) h := by
  refine pw_aload_n C dX7_way_0 rfl ?_
  refine pw_iload_n C dX7_way_1 rfl ?_
  exact pw_callV C (na := 1) (As := [.inl a2]) (S := S) hM t1 (by decide) (hcl := by rfl) kw722 kw724 kw17 kw45 kw725 (by decide +kernel) rfl dX7_way_2 (by decide) (by decide) hk0 hn0 (by first | exact hS | (simp only [List.length_cons]; omega)) kk
set_option maxRecDepth 20000 in
theorem B_X7_way_5 {G : Gx} {X : Cx} {h : PH} {k n : Nat} {Q : State → Prop} {S : List PV} {a0 : Nat} {a1 : Int} {a2 : Int} {a3 : Int} {s0 : Int} {PQ : Option PV → PH → Prop} (C : CX_X7_way G X) (hk0 : k ≤ 0 := by decide) (hn0 : n ≤ 0 := by decide) (hM : CT_X7_isDish G X.2.1 [.inl a1] h PQ) (hS : S.length ≤ 8 := by decide) (kk : ∀ r h', PQ r h' → PW G X 6 Q k n 11 [some (.inr a0), some (.inl a1), some (.inl a2), some (.inl a3), some (.inl s0), none] (r.toList ++ S) h') : PW G X 6 Q k n 5 [some (.inr a0), some (.inl a1), some (.inl a2), some (.inl a3), none, none] (.inl s0 :: S) h := by
  refine pw_istore C dX7_way_5 (by decide) ?_
  refine pw_iload_n C dX7_way_7 rfl ?_
  exact pw_callS C (na := 1) (As := [.inl a1]) (S := S) hM kw741 kw742 kw45 kw743 (by decide +kernel) rfl dX7_way_8 (by decide) (by decide) hk0 hn0 (by first | exact hS | (simp only [List.length_cons]; omega)) kk
set_option maxRecDepth 20000 in
theorem B_X7_way_11 {G : Gx} {X : Cx} {h : PH} {k n : Nat} {Q : State → Prop} {S : List PV} {a0 : Nat} {a1 : Int} {a2 : Int} {a3 : Int} {a4 : Int} {s0 : Int} (C : CX_X7_way G X) (q1 : pR s0 := by first | assumption | (unfold pR; omega)) (kt : s0 = 0 → PW G X 6 Q k n 19 [some (.inr a0), some (.inl a1), some (.inl a2), some (.inl a3), some (.inl a4), none] (S) h) (kf : ¬ s0 = 0 → PW G X 6 Q k n 14 [some (.inr a0), some (.inl a1), some (.inl a2), some (.inl a3), some (.inl a4), none] (S) h) : PW G X 6 Q k n 11 [some (.inr a0), some (.inl a1), some (.inl a2), some (.inl a3), some (.inl a4), none] (.inl s0 :: S) h := by
  exact pw_if_eq C 19 dX7_way_11 (by decide) q1 kt kf
set_option maxRecDepth 20000 in
theorem B_X7_way_14 {G : Gx} {X : Cx} {h : PH} {k n : Nat} {Q : State → Prop} {S : List PV} {a0 : Nat} {a1 : Int} {a2 : Int} {a3 : Int} {a4 : Int} (C : CX_X7_way G X) (q1 : pR a4 := by first | assumption | (unfold pR; omega)) (kt : 0 ≤ a4 → PW G X 6 Q k n 21 [some (.inr a0), some (.inl a1), some (.inl a2), some (.inl a3), some (.inl a4), none] (S) h) (kf : ¬ 0 ≤ a4 → PW G X 6 Q k n 19 [some (.inr a0), some (.inl a1), some (.inl a2), some (.inl a3), some (.inl a4), none] (S) h) : PW G X 6 Q k n 14 [some (.inr a0), some (.inl a1), some (.inl a2), some (.inl a3), some (.inl a4), none] (S) h := by
  refine pw_iload C dX7_way_14 rfl ?_
  exact pw_if_ge C 21 dX7_way_16 (by decide) q1 kt kf
set_option maxRecDepth 20000 in
theorem B_X7_way_19 {G : Gx} {X : Cx} {h : PH} {k n : Nat} {a0 : Nat} {a1 : Int} {a2 : Int} {a3 : Int} {a4 : Int} {PQ : Option PV → PH → Prop} (C : CX_X7_way G X) (hq : PQ (some (.inl (-1))) h) : PW G X 6 (pw_E G X PQ k n) k n 19 [some (.inr a0), some (.inl a1), some (.inl a2), some (.inl a3), some (.inl a4), none] [] h := by
  refine pw_iconst C dX7_way_19 ?_
  exact pw_ireturn C dX7_way_20 hq
set_option maxRecDepth 20000 in
theorem B_X7_way_21 {G : Gx} {X : Cx} {h : PH} {k n : Nat} {Q : State → Prop} {S : List PV} {a0 : Nat} {a1 : Int} {a2 : Int} {a3 : Int} {a4 : Int} {PQ : Option PV → PH → Prop} (C : CX_X7_way G X) (hk0 : k ≤ 0 := by decide) (hn0 : n ≤ 0 := by decide) (hM : CT_X7_in G X.2.1 [.inl a3, .inl 0, .inl 5] h PQ) (hS : S.length ≤ 8 := by decide) (kk : ∀ r h', PQ r h' → PW G X 6 Q k n 27 [some (.inr a0), some (.inl a1), some (.inl a2), some (.inl a3), some (.inl a4), none] (r.toList ++ S) h') : PW G X 6 Q k n 21 [some (.inr a0), some (.inl a1), some (.inl a2), some (.inl a3), some (.inl a4), none] (S) h := by
  refine pw_iload_n C dX7_way_21 rfl ?_
  refine pw_iconst C dX7_way_22 ?_
  refine pw_iconst C dX7_way_23 ?_
  exact pw_callS C (na := 3) (As := [.inl a3, .inl 0, .inl 5]) (S := S) hM kw719 kw720 kw45 kw721 (by decide +kernel) rfl dX7_way_24 (by decide) (by decide) hk0 hn0 (by first | exact hS | (simp only [List.length_cons]; omega)) kk
set_option maxRecDepth 20000 in
theorem B_X7_way_27 {G : Gx} {X : Cx} {h : PH} {k n : Nat} {Q : State → Prop} {S : List PV} {a0 : Nat} {a1 : Int} {a2 : Int} {a3 : Int} {a4 : Int} {s0 : Int} (C : CX_X7_way G X) (q1 : pR s0 := by first | assumption | (unfold pR; omega)) (kt : ¬ s0 = 0 → PW G X 6 Q k n 33 [some (.inr a0), some (.inl a1), some (.inl a2), some (.inl a3), some (.inl a4), none] (S) h) (kf : s0 = 0 → PW G X 6 Q k n 30 [some (.inr a0), some (.inl a1), some (.inl a2), some (.inl a3), some (.inl a4), none] (S) h) : PW G X 6 Q k n 27 [some (.inr a0), some (.inl a1), some (.inl a2), some (.inl a3), some (.inl a4), none] (.inl s0 :: S) h := by
  exact pw_if_ne C 33 dX7_way_27 (by decide) q1 kt kf
set_option maxRecDepth 20000 in
theorem B_X7_way_30 {G : Gx} {X : Cx} {h : PH} {k n : Nat} {a0 : Nat} {a1 : Int} {a2 : Int} {a3 : Int} {a4 : Int} {PQ : Option PV → PH → Prop} (C : CX_X7_way G X) (hq : PQ (some (.inl (-2))) h) : PW G X 6 (pw_E G X PQ k n) k n 30 [some (.inr a0), some (.inl a1), some (.inl a2), some (.inl a3), some (.inl a4), none] [] h := by
  refine pw_bipush C dX7_way_30 rfl ?_
  exact pw_ireturn C dX7_way_32 hq
set_option maxRecDepth 20000 in
theorem B_X7_way_33 {G : Gx} {X : Cx} {h : PH} {k n : Nat} {Q : State → Prop} {S : List PV} {a0 : Nat} {a1 : Int} {a2 : Int} {a3 : Int} {a4 : Int} {PQ : Option PV → PH → Prop} (C : CX_X7_way G X) (hk0 : k ≤ 0 := by decide) (hn0 : n ≤ 0 := by decide) (t1 : ph_T h a0 = 7 := by first | assumption | rfl) (hM : CT_X7_isOpen G X.2.1 [.inr a0, .inl a4] h PQ) (hS : S.length ≤ 8 := by decide) (kk : ∀ r h', PQ r h' → PW G X 6 Q k n 39 [some (.inr a0), some (.inl a1), some (.inl a2), some (.inl a3), some (.inl a4), none] (r.toList ++ S) h') : PW G X 6 Q k n 33 [some (.inr a0), some (.inl a1), some (.inl a2), some (.inl a3), some (.inl a4), none] (S) h := by
  refine pw_aload_n C dX7_way_33 rfl ?_
  refine pw_iload C dX7_way_34 rfl ?_
  exact pw_callV C (na := 1) (As := [.inl a4]) (S := S) hM t1 (by decide) (hcl := by rfl) kw793 kw795 kw19 kw45 kw796 (by decide +kernel) rfl dX7_way_36 (by decide) (by decide) hk0 hn0 (by first | exact hS | (simp only [List.length_cons]; omega)) kk
set_option maxRecDepth 20000 in
theorem B_X7_way_39 {G : Gx} {X : Cx} {h : PH} {k n : Nat} {Q : State → Prop} {S : List PV} {a0 : Nat} {a1 : Int} {a2 : Int} {a3 : Int} {a4 : Int} {s0 : Int} (C : CX_X7_way G X) (q1 : pR s0 := by first | assumption | (unfold pR; omega)) (kt : ¬ s0 = 0 → PW G X 6 Q k n 45 [some (.inr a0), some (.inl a1), some (.inl a2), some (.inl a3), some (.inl a4), none] (S) h) (kf : s0 = 0 → PW G X 6 Q k n 42 [some (.inr a0), some (.inl a1), some (.inl a2), some (.inl a3), some (.inl a4), none] (S) h) : PW G X 6 Q k n 39 [some (.inr a0), some (.inl a1), some (.inl a2), some (.inl a3), some (.inl a4), none] (.inl s0 :: S) h := by
  exact pw_if_ne C 45 dX7_way_39 (by decide) q1 kt kf
set_option maxRecDepth 20000 in
theorem B_X7_way_42 {G : Gx} {X : Cx} {h : PH} {k n : Nat} {a0 : Nat} {a1 : Int} {a2 : Int} {a3 : Int} {a4 : Int} {PQ : Option PV → PH → Prop} (C : CX_X7_way G X) (hq : PQ (some (.inl (-3))) h) : PW G X 6 (pw_E G X PQ k n) k n 42 [some (.inr a0), some (.inl a1), some (.inl a2), some (.inl a3), some (.inl a4), none] [] h := by
  refine pw_bipush C dX7_way_42 rfl ?_
  exact pw_ireturn C dX7_way_44 hq
set_option maxRecDepth 20000 in
theorem B_X7_way_45 {G : Gx} {X : Cx} {h : PH} {k n : Nat} {Q : State → Prop} {S : List PV} {a0 : Nat} {a1 : Int} {a2 : Int} {a3 : Int} {a4 : Int} {PQ : Option PV → PH → Prop} (C : CX_X7_way G X) (hk0 : k ≤ 0 := by decide) (hn0 : n ≤ 0 := by decide) (t1 : ph_T h a0 = 7 := by first | assumption | rfl) (hM : CT_X7_layAll G X.2.1 [.inr a0, .inl a1, .inl a4] h PQ) (hS : S.length ≤ 8 := by decide) (kk : ∀ r h', PQ r h' → PW G X 6 Q k n 52 [some (.inr a0), some (.inl a1), some (.inl a2), some (.inl a3), some (.inl a4), none] (r.toList ++ S) h') : PW G X 6 Q k n 45 [some (.inr a0), some (.inl a1), some (.inl a2), some (.inl a3), some (.inl a4), none] (S) h := by
  refine pw_aload_n C dX7_way_45 rfl ?_
  refine pw_iload_n C dX7_way_46 rfl ?_
  refine pw_iload C dX7_way_47 rfl ?_
  exact pw_callV C (na := 2) (As := [.inl a1, .inl a4]) (S := S) hM t1 (by decide) (hcl := by rfl) kw797 kw799 kw20 kw45 kw800 (by decide +kernel) rfl dX7_way_49 (by decide) (by decide) hk0 hn0 (by first | exact hS | (simp only [List.length_cons]; omega)) kk
set_option maxRecDepth 20000 in
theorem B_X7_way_52 {G : Gx} {X : Cx} {h : PH} {k n : Nat} {Q : State → Prop} {S : List PV} {a0 : Nat} {a1 : Int} {a2 : Int} {a3 : Int} {a4 : Int} {s0 : Int} (C : CX_X7_way G X) (q1 : pR s0 := by first | assumption | (unfold pR; omega)) (q2 : pR (-1000000) := by first | assumption | (unfold pR; omega)) (kt : ¬ s0 = (-1000000) → PW G X 6 Q k n 64 [some (.inr a0), some (.inl a1), some (.inl a2), some (.inl a3), some (.inl a4), some (.inl s0)] (S) h) (kf : s0 = (-1000000) → PW G X 6 Q k n 61 [some (.inr a0), some (.inl a1), some (.inl a2), some (.inl a3), some (.inl a4), some (.inl s0)] (S) h) : PW G X 6 Q k n 52 [some (.inr a0), some (.inl a1), some (.inl a2), some (.inl a3), some (.inl a4), none] (.inl s0 :: S) h := by
  refine pw_istore C dX7_way_52 (by decide) ?_
  refine pw_iload C dX7_way_54 rfl ?_
  refine pw_ldc C (z := -1000000) kw809 rfl dX7_way_56 ?_
  exact pw_icmp_ne C 64 dX7_way_58 (by decide) q1 q2 kt kf
set_option maxRecDepth 20000 in
theorem B_X7_way_61 {G : Gx} {X : Cx} {h : PH} {k n : Nat} {a0 : Nat} {a1 : Int} {a2 : Int} {a3 : Int} {a4 : Int} {a5 : Int} {PQ : Option PV → PH → Prop} (C : CX_X7_way G X) (hq : PQ (some (.inl (-6))) h) : PW G X 6 (pw_E G X PQ k n) k n 61 [some (.inr a0), some (.inl a1), some (.inl a2), some (.inl a3), some (.inl a4), some (.inl a5)] [] h := by
  refine pw_bipush C dX7_way_61 rfl ?_
  exact pw_ireturn C dX7_way_63 hq
set_option maxRecDepth 20000 in
theorem B_X7_way_64 {G : Gx} {X : Cx} {h : PH} {k n : Nat} {Q : State → Prop} {S : List PV} {a0 : Nat} {a1 : Int} {a2 : Int} {a3 : Int} {a4 : Int} {a5 : Int} {PQ : Option PV → PH → Prop} (C : CX_X7_way G X) (hk0 : k ≤ 0 := by decide) (hn0 : n ≤ 0 := by decide) (t1 : ph_T h a0 = 7 := by first | assumption | rfl) (hM : CT_X7_walk G X.2.1 [.inr a0, .inl a5] h PQ) (hS : S.length ≤ 8 := by decide) (kk : ∀ r h', PQ r h' → PW G X 6 Q k n 70 [some (.inr a0), some (.inl a1), some (.inl a2), some (.inl a3), some (.inl a4), some (.inl a5)] (r.toList ++ S) h') : PW G X 6 Q k n 64 [some (.inr a0), some (.inl a1), some (.inl a2), some (.inl a3), some (.inl a4), some (.inl a5)] (S) h := by
  refine pw_aload_n C dX7_way_64 rfl ?_
  refine pw_iload C dX7_way_65 rfl ?_
  exact pw_callV C (na := 1) (As := [.inl a5]) (S := S) hM t1 (by decide) (hcl := by rfl) kw829 kw831 kw27 kw45 kw832 (by decide +kernel) rfl dX7_way_67 (by decide) (by decide) hk0 hn0 (by first | exact hS | (simp only [List.length_cons]; omega)) kk
set_option maxRecDepth 20000 in
theorem B_X7_way_70 {G : Gx} {X : Cx} {h : PH} {k n : Nat} {Q : State → Prop} {S : List PV} {a0 : Nat} {a1 : Int} {a2 : Int} {a3 : Int} {a4 : Int} {a5 : Int} (C : CX_X7_way G X) (kk : PW G X 6 Q k n 71 [some (.inr a0), some (.inl a1), some (.inl a2), some (.inl a3), some (.inl a4), some (.inl a5)] (.inl a3 :: S) h) : PW G X 6 Q k n 70 [some (.inr a0), some (.inl a1), some (.inl a2), some (.inl a3), some (.inl a4), some (.inl a5)] (S) h := by
  refine pw_iload_n C dX7_way_70 rfl ?_
  exact kk
set_option maxRecDepth 20000 in
theorem B_X7_way_71 {G : Gx} {X : Cx} {h : PH} {k n : Nat} {Q : State → Prop} {S : List PV} {a0 : Nat} {a1 : Int} {a2 : Int} {a3 : Int} {a4 : Int} {a5 : Int} {s0 : Int} (C : CX_X7_way G X) (q1 : pR s0 := by first | assumption | (unfold pR; omega)) (k0 : s0 = 0 → PW G X 6 Q k n 104 [some (.inr a0), some (.inl a1), some (.inl a2), some (.inl a3), some (.inl a4), some (.inl a5)] (S) h) (k1 : s0 = 1 → PW G X 6 Q k n 110 [some (.inr a0), some (.inl a1), some (.inl a2), some (.inl a3), some (.inl a4), some (.inl a5)] (S) h) (k2 : s0 = 2 → PW G X 6 Q k n 116 [some (.inr a0), some (.inl a1), some (.inl a2), some (.inl a3), some (.inl a4), some (.inl a5)] (S) h) (k3 : s0 = 3 → PW G X 6 Q k n 122 [some (.inr a0), some (.inl a1), some (.inl a2), some (.inl a3), some (.inl a4), some (.inl a5)] (S) h) (k4 : s0 = 4 → PW G X 6 Q k n 128 [some (.inr a0), some (.inl a1), some (.inl a2), some (.inl a3), some (.inl a4), some (.inl a5)] (S) h) (kd : s0 < 0 ∨ 4 < s0 → PW G X 6 Q k n 149 [some (.inr a0), some (.inl a1), some (.inl a2), some (.inl a3), some (.inl a4), some (.inl a5)] (S) h) : PW G X 6 Q k n 71 [some (.inr a0), some (.inl a1), some (.inl a2), some (.inl a3), some (.inl a4), some (.inl a5)] (.inl s0 :: S) h := by
  by_cases zz : s0 < 0 ∨ 4 < s0
  · exact pw_tableOut C 149 dX7_way_71 q1 zz (by decide) (kd zz)
  · have zz2 : s0 = 0 ∨ s0 = 1 ∨ s0 = 2 ∨ s0 = 3 ∨ s0 = 4 := by omega
    rcases zz2 with z0 | z1 | z2 | z3 | z4
    · have kj := k0 z0
      subst z0
      exact pw_tableIn C 104 dX7_way_71 q1 (by decide) (by decide) rfl (by decide) kj
    · have kj := k1 z1
      subst z1
      exact pw_tableIn C 110 dX7_way_71 q1 (by decide) (by decide) rfl (by decide) kj
    · have kj := k2 z2
      subst z2
      exact pw_tableIn C 116 dX7_way_71 q1 (by decide) (by decide) rfl (by decide) kj
    · have kj := k3 z3
      subst z3
      exact pw_tableIn C 122 dX7_way_71 q1 (by decide) (by decide) rfl (by decide) kj
    · have kj := k4 z4
      subst z4
      exact pw_tableIn C 128 dX7_way_71 q1 (by decide) (by decide) rfl (by decide) kj
set_option maxRecDepth 20000 in
theorem B_X7_way_104 {G : Gx} {X : Cx} {h : PH} {k n : Nat} {Q : State → Prop} {S : List PV} {a0 : Nat} {a1 : Int} {a2 : Int} {a3 : Int} {a4 : Int} {a5 : Int} {PQ : Option PV → PH → Prop} (C : CX_X7_way G X) (hk0 : k ≤ 0 := by decide) (hn0 : n ≤ 0 := by decide) (hM : CT_X7_seenOf G X.2.1 [.inl a5] h PQ) (hS : S.length ≤ 8 := by decide) (kk : ∀ r h', PQ r h' → PW G X 6 Q k n 109 [some (.inr a0), some (.inl a1), some (.inl a2), some (.inl a3), some (.inl a4), some (.inl a5)] (r.toList ++ S) h') : PW G X 6 Q k n 104 [some (.inr a0), some (.inl a1), some (.inl a2), some (.inl a3), some (.inl a4), some (.inl a5)] (S) h := by
  refine pw_iload C dX7_way_104 rfl ?_
  exact pw_callS C (na := 1) (As := [.inl a5]) (S := S) hM kw837 kw838 kw45 kw839 (by decide +kernel) rfl dX7_way_106 (by decide) (by decide) hk0 hn0 (by first | exact hS | (simp only [List.length_cons]; omega)) kk
set_option maxRecDepth 20000 in
theorem B_X7_way_109 {G : Gx} {X : Cx} {h : PH} {k n : Nat} {a0 : Nat} {a1 : Int} {a2 : Int} {a3 : Int} {a4 : Int} {a5 : Int} {s0 : Int} {PQ : Option PV → PH → Prop} (C : CX_X7_way G X) (hq : PQ (some (.inl s0)) h) : PW G X 6 (pw_E G X PQ k n) k n 109 [some (.inr a0), some (.inl a1), some (.inl a2), some (.inl a3), some (.inl a4), some (.inl a5)] [.inl s0] h := by
  exact pw_ireturn C dX7_way_109 hq
set_option maxRecDepth 20000 in
theorem B_X7_way_110 {G : Gx} {X : Cx} {h : PH} {k n : Nat} {Q : State → Prop} {S : List PV} {a0 : Nat} {a1 : Int} {a2 : Int} {a3 : Int} {a4 : Int} {a5 : Int} {PQ : Option PV → PH → Prop} (C : CX_X7_way G X) (hk0 : k ≤ 0 := by decide) (hn0 : n ≤ 0 := by decide) (hM : CT_X7_stepsOf G X.2.1 [.inl a5] h PQ) (hS : S.length ≤ 8 := by decide) (kk : ∀ r h', PQ r h' → PW G X 6 Q k n 115 [some (.inr a0), some (.inl a1), some (.inl a2), some (.inl a3), some (.inl a4), some (.inl a5)] (r.toList ++ S) h') : PW G X 6 Q k n 110 [some (.inr a0), some (.inl a1), some (.inl a2), some (.inl a3), some (.inl a4), some (.inl a5)] (S) h := by
  refine pw_iload C dX7_way_110 rfl ?_
  exact pw_callS C (na := 1) (As := [.inl a5]) (S := S) hM kw840 kw841 kw45 kw842 (by decide +kernel) rfl dX7_way_112 (by decide) (by decide) hk0 hn0 (by first | exact hS | (simp only [List.length_cons]; omega)) kk
set_option maxRecDepth 20000 in
theorem B_X7_way_115 {G : Gx} {X : Cx} {h : PH} {k n : Nat} {a0 : Nat} {a1 : Int} {a2 : Int} {a3 : Int} {a4 : Int} {a5 : Int} {s0 : Int} {PQ : Option PV → PH → Prop} (C : CX_X7_way G X) (hq : PQ (some (.inl s0)) h) : PW G X 6 (pw_E G X PQ k n) k n 115 [some (.inr a0), some (.inl a1), some (.inl a2), some (.inl a3), some (.inl a4), some (.inl a5)] [.inl s0] h := by
  exact pw_ireturn C dX7_way_115 hq
set_option maxRecDepth 20000 in
theorem B_X7_way_116 {G : Gx} {X : Cx} {h : PH} {k n : Nat} {Q : State → Prop} {S : List PV} {a0 : Nat} {a1 : Int} {a2 : Int} {a3 : Int} {a4 : Int} {a5 : Int} {PQ : Option PV → PH → Prop} (C : CX_X7_way G X) (hk0 : k ≤ 0 := by decide) (hn0 : n ≤ 0 := by decide) (t1 : ph_T h a0 = 7 := by first | assumption | rfl) (hM : CT_X7_seenTick G X.2.1 [.inr a0, .inl 0] h PQ) (hS : S.length ≤ 8 := by decide) (kk : ∀ r h', PQ r h' → PW G X 6 Q k n 121 [some (.inr a0), some (.inl a1), some (.inl a2), some (.inl a3), some (.inl a4), some (.inl a5)] (r.toList ++ S) h') : PW G X 6 Q k n 116 [some (.inr a0), some (.inl a1), some (.inl a2), some (.inl a3), some (.inl a4), some (.inl a5)] (S) h := by
  refine pw_aload_n C dX7_way_116 rfl ?_
  refine pw_iconst C dX7_way_117 ?_
  exact pw_callV C (na := 1) (As := [.inl 0]) (S := S) hM t1 (by decide) (hcl := by rfl) kw843 kw845 kw29 kw45 kw846 (by decide +kernel) rfl dX7_way_118 (by decide) (by decide) hk0 hn0 (by first | exact hS | (simp only [List.length_cons]; omega)) kk
set_option maxRecDepth 20000 in
theorem B_X7_way_121 {G : Gx} {X : Cx} {h : PH} {k n : Nat} {a0 : Nat} {a1 : Int} {a2 : Int} {a3 : Int} {a4 : Int} {a5 : Int} {s0 : Int} {PQ : Option PV → PH → Prop} (C : CX_X7_way G X) (hq : PQ (some (.inl s0)) h) : PW G X 6 (pw_E G X PQ k n) k n 121 [some (.inr a0), some (.inl a1), some (.inl a2), some (.inl a3), some (.inl a4), some (.inl a5)] [.inl s0] h := by
  exact pw_ireturn C dX7_way_121 hq
set_option maxRecDepth 20000 in
theorem B_X7_way_122 {G : Gx} {X : Cx} {h : PH} {k n : Nat} {Q : State → Prop} {S : List PV} {a0 : Nat} {a1 : Int} {a2 : Int} {a3 : Int} {a4 : Int} {a5 : Int} {PQ : Option PV → PH → Prop} (C : CX_X7_way G X) (hk0 : k ≤ 0 := by decide) (hn0 : n ≤ 0 := by decide) (t1 : ph_T h a0 = 7 := by first | assumption | rfl) (hM : CT_X7_seenTick G X.2.1 [.inr a0, .inl 1] h PQ) (hS : S.length ≤ 8 := by decide) (kk : ∀ r h', PQ r h' → PW G X 6 Q k n 127 [some (.inr a0), some (.inl a1), some (.inl a2), some (.inl a3), some (.inl a4), some (.inl a5)] (r.toList ++ S) h') : PW G X 6 Q k n 122 [some (.inr a0), some (.inl a1), some (.inl a2), some (.inl a3), some (.inl a4), some (.inl a5)] (S) h := by
  refine pw_aload_n C dX7_way_122 rfl ?_
  refine pw_iconst C dX7_way_123 ?_
  exact pw_callV C (na := 1) (As := [.inl 1]) (S := S) hM t1 (by decide) (hcl := by rfl) kw843 kw845 kw29 kw45 kw846 (by decide +kernel) rfl dX7_way_124 (by decide) (by decide) hk0 hn0 (by first | exact hS | (simp only [List.length_cons]; omega)) kk
set_option maxRecDepth 20000 in
theorem B_X7_way_127 {G : Gx} {X : Cx} {h : PH} {k n : Nat} {a0 : Nat} {a1 : Int} {a2 : Int} {a3 : Int} {a4 : Int} {a5 : Int} {s0 : Int} {PQ : Option PV → PH → Prop} (C : CX_X7_way G X) (hq : PQ (some (.inl s0)) h) : PW G X 6 (pw_E G X PQ k n) k n 127 [some (.inr a0), some (.inl a1), some (.inl a2), some (.inl a3), some (.inl a4), some (.inl a5)] [.inl s0] h := by
  exact pw_ireturn C dX7_way_127 hq
set_option maxRecDepth 20000 in
theorem B_X7_way_128 {G : Gx} {X : Cx} {h : PH} {k n : Nat} {Q : State → Prop} {S : List PV} {a0 : Nat} {a1 : Int} {a2 : Int} {a3 : Int} {a4 : Int} {a5 : Int} {r2 : Nat} {PQ : Option PV → PH → Prop} (C : CX_X7_way G X) (hk0 : k ≤ 0 := by decide) (hn0 : n ≤ 0 := by decide) (t1 : ph_T h a0 = 7 := by first | assumption | rfl) (e3 : ph_R h a0 8 = r2 := by first | assumption | rfl) (t4 : ph_T h a0 = 7 := by first | assumption | rfl) (hM : CT_X7_lastTick G X.2.1 [.inr a0] h PQ) (hS : S.length ≤ 7 := by decide) (kk : ∀ r h', PQ r h' → PW G X 6 Q k n 136 [some (.inr a0), some (.inl a1), some (.inl a2), some (.inl a3), some (.inl a4), some (.inl a5)] (r.toList ++ (.inr r2 :: S)) h') : PW G X 6 Q k n 128 [some (.inr a0), some (.inl a1), some (.inl a2), some (.inl a3), some (.inl a4), some (.inl a5)] (S) h := by
  refine pw_aload_n C dX7_way_128 rfl ?_
  refine pw_getR C (t := 7) (f := 8) rfl inF7 rfl (by decide) (by decide) rfl kw686 dX7_way_129 t1 ?_
  rw [e3]
  refine pw_aload_n C dX7_way_132 rfl ?_
  exact pw_callV C (na := 0) (As := []) (S := .inr r2 :: S) hM t4 (by decide) (hcl := by rfl) kw805 kw807 kw22 kw45 kw808 (by decide +kernel) rfl dX7_way_133 (by decide) (by decide) hk0 hn0 (by first | exact hS | (simp only [List.length_cons]; omega)) kk
set_option maxRecDepth 20000 in
theorem B_X7_way_136 {G : Gx} {X : Cx} {h : PH} {k n : Nat} {a0 : Nat} {a1 : Int} {a2 : Int} {a3 : Int} {a4 : Int} {a5 : Int} {s0 : Int} {s1 : Nat} {x5 : Int} {r8 : Nat} {x14 : Int} {PQ : Option PV → PH → Prop} (C : CX_X7_way G X) (t1 : ph_T h s1 = 8 := by first | assumption | rfl) (q2 : (0 : Int) ≤ s0 := by first | assumption | omega) (q3 : s0 < (ph_L h s1 : Int) := by first | assumption | omega) (q4 : pR s0 := by first | assumption | (unfold pR; omega)) (e6 : ph_I h s1 (Int.toNat s0) = x5 := by first | assumption | rfl) (t7 : ph_T h a0 = 7 := by first | assumption | rfl) (e9 : ph_R h a0 0 = r8 := by first | assumption | rfl) (t10 : ph_T h r8 = 8 := by first | assumption | rfl) (q11 : (0 : Int) ≤ 308 + a1 := by first | assumption | omega) (q12 : 308 + a1 < (ph_L h r8 : Int) := by first | assumption | omega) (q13 : pR (308 + a1) := by first | assumption | (unfold pR; omega)) (e15 : ph_I h r8 (Int.toNat (308 + a1)) = x14 := by first | assumption | rfl) (hq : PQ (some (.inl (x5 + x14))) h) : PW G X 6 (pw_E G X PQ k n) k n 136 [some (.inr a0), some (.inl a1), some (.inl a2), some (.inl a3), some (.inl a4), some (.inl a5)] [.inl s0, .inr s1] h := by
  refine pw_iald C dX7_way_136 t1 q2 q3 q4 ?_
  rw [e6]
  refine pw_aload_n C dX7_way_137 rfl ?_
  refine pw_getR C (t := 7) (f := 0) rfl inF7 rfl (by decide) (by decide) rfl kw678 dX7_way_138 t7 ?_
  rw [e9]
  refine pw_sipush C dX7_way_141 rfl ?_
  refine pw_iload_n C dX7_way_144 rfl ?_
  refine pw_iadd C dX7_way_145 ?_
  refine pw_iald C dX7_way_146 t10 q11 q12 q13 ?_
  rw [e15]
  refine pw_iadd C dX7_way_147 ?_
  exact pw_ireturn C dX7_way_148 hq
set_option maxRecDepth 20000 in
theorem B_X7_way_149 {G : Gx} {X : Cx} {h : PH} {k n : Nat} {Q : State → Prop} {S : List PV} {a0 : Nat} {a1 : Int} {a2 : Int} {a3 : Int} {a4 : Int} {a5 : Int} {r2 : Nat} {PQ : Option PV → PH → Prop} (C : CX_X7_way G X) (hk0 : k ≤ 0 := by decide) (hn0 : n ≤ 0 := by decide) (t1 : ph_T h a0 = 7 := by first | assumption | rfl) (e3 : ph_R h a0 9 = r2 := by first | assumption | rfl) (t4 : ph_T h a0 = 7 := by first | assumption | rfl) (hM : CT_X7_lastTick G X.2.1 [.inr a0] h PQ) (hS : S.length ≤ 7 := by decide) (kk : ∀ r h', PQ r h' → PW G X 6 Q k n 157 [some (.inr a0), some (.inl a1), some (.inl a2), some (.inl a3), some (.inl a4), some (.inl a5)] (r.toList ++ (.inr r2 :: S)) h') : PW G X 6 Q k n 149 [some (.inr a0), some (.inl a1), some (.inl a2), some (.inl a3), some (.inl a4), some (.inl a5)] (S) h := by
  refine pw_aload_n C dX7_way_149 rfl ?_
  refine pw_getR C (t := 7) (f := 9) rfl inF7 rfl (by decide) (by decide) rfl kw687 dX7_way_150 t1 ?_
  rw [e3]
  refine pw_aload_n C dX7_way_153 rfl ?_
  exact pw_callV C (na := 0) (As := []) (S := .inr r2 :: S) hM t4 (by decide) (hcl := by rfl) kw805 kw807 kw22 kw45 kw808 (by decide +kernel) rfl dX7_way_154 (by decide) (by decide) hk0 hn0 (by first | exact hS | (simp only [List.length_cons]; omega)) kk
set_option maxRecDepth 20000 in
theorem B_X7_way_157 {G : Gx} {X : Cx} {h : PH} {k n : Nat} {a0 : Nat} {a1 : Int} {a2 : Int} {a3 : Int} {a4 : Int} {a5 : Int} {s0 : Int} {s1 : Nat} {x5 : Int} {PQ : Option PV → PH → Prop} (C : CX_X7_way G X) (t1 : ph_T h s1 = 8 := by first | assumption | rfl) (q2 : (0 : Int) ≤ s0 := by first | assumption | omega) (q3 : s0 < (ph_L h s1 : Int) := by first | assumption | omega) (q4 : pR s0 := by first | assumption | (unfold pR; omega)) (e6 : ph_I h s1 (Int.toNat s0) = x5 := by first | assumption | rfl) (hq : PQ (some (.inl x5)) h) : PW G X 6 (pw_E G X PQ k n) k n 157 [some (.inr a0), some (.inl a1), some (.inl a2), some (.inl a3), some (.inl a4), some (.inl a5)] [.inl s0, .inr s1] h := by
  refine pw_iald C dX7_way_157 t1 q2 q3 q4 ?_
  rw [e6]
  exact pw_ireturn C dX7_way_158 hq
theorem dX7_where_0 : decode cX7_where 0 = .ok (.aload_n 0, 1) := by decide +kernel
theorem dX7_where_1 : decode cX7_where 1 = .ok (.iload_n 2, 1) := by decide +kernel
theorem dX7_where_2 : decode cX7_where 2 = .ok (.invokevirtual 37, 3) := by decide +kernel
theorem dX7_where_5 : decode cX7_where 5 = .ok (.istore 5, 2) := by decide +kernel
theorem dX7_where_7 : decode cX7_where 7 = .ok (.iload_n 1, 1) := by decide +kernel
theorem dX7_where_8 : decode cX7_where 8 = .ok (.invokestatic 45, 3) := by decide +kernel
theorem dX7_where_11 : decode cX7_where 11 = .ok (.ifCond .eq 8, 3) := by decide +kernel
theorem dX7_where_14 : decode cX7_where 14 = .ok (.iload 5, 2) := by decide +kernel
theorem dX7_where_16 : decode cX7_where 16 = .ok (.ifCond .ge 5, 3) := by decide +kernel
theorem dX7_where_19 : decode cX7_where 19 = .ok (.iconst (-1), 1) := by decide +kernel
theorem dX7_where_20 : decode cX7_where 20 = .ok (.ireturn, 1) := by decide +kernel
theorem dX7_where_21 : decode cX7_where 21 = .ok (.iload_n 3, 1) := by decide +kernel
theorem dX7_where_22 : decode cX7_where 22 = .ok (.invokestatic 49, 3) := by decide +kernel
theorem dX7_where_25 : decode cX7_where 25 = .ok (.ifCond .eq 13, 3) := by decide +kernel
theorem dX7_where_28 : decode cX7_where 28 = .ok (.iload 4, 2) := by decide +kernel
theorem dX7_where_30 : decode cX7_where 30 = .ok (.iconst 0, 1) := by decide +kernel
theorem dX7_where_31 : decode cX7_where 31 = .ok (.iconst 2, 1) := by decide +kernel
theorem dX7_where_32 : decode cX7_where 32 = .ok (.invokestatic 33, 3) := by decide +kernel
theorem dX7_where_35 : decode cX7_where 35 = .ok (.ifCond .ne 6, 3) := by decide +kernel
theorem dX7_where_38 : decode cX7_where 38 = .ok (.bipush (-2), 2) := by decide +kernel
theorem dX7_where_40 : decode cX7_where 40 = .ok (.ireturn, 1) := by decide +kernel
theorem dX7_where_41 : decode cX7_where 41 = .ok (.aload_n 0, 1) := by decide +kernel
theorem dX7_where_42 : decode cX7_where 42 = .ok (.iload 5, 2) := by decide +kernel
theorem dX7_where_44 : decode cX7_where 44 = .ok (.invokevirtual 108, 3) := by decide +kernel
theorem dX7_where_47 : decode cX7_where 47 = .ok (.ifCond .ne 6, 3) := by decide +kernel
theorem dX7_where_50 : decode cX7_where 50 = .ok (.bipush (-3), 2) := by decide +kernel
theorem dX7_where_52 : decode cX7_where 52 = .ok (.ireturn, 1) := by decide +kernel
theorem dX7_where_53 : decode cX7_where 53 = .ok (.aload_n 0, 1) := by decide +kernel
theorem dX7_where_54 : decode cX7_where 54 = .ok (.iload_n 1, 1) := by decide +kernel
theorem dX7_where_55 : decode cX7_where 55 = .ok (.iload 5, 2) := by decide +kernel
theorem dX7_where_57 : decode cX7_where 57 = .ok (.invokevirtual 111, 3) := by decide +kernel
theorem dX7_where_60 : decode cX7_where 60 = .ok (.istore 6, 2) := by decide +kernel
theorem dX7_where_62 : decode cX7_where 62 = .ok (.iload 6, 2) := by decide +kernel
theorem dX7_where_64 : decode cX7_where 64 = .ok (.ldc 74, 2) := by decide +kernel
theorem dX7_where_66 : decode cX7_where 66 = .ok (.if_icmp .eq 24, 3) := by decide +kernel
theorem dX7_where_69 : decode cX7_where 69 = .ok (.iload_n 3, 1) := by decide +kernel
theorem dX7_where_70 : decode cX7_where 70 = .ok (.aload_n 0, 1) := by decide +kernel
theorem dX7_where_71 : decode cX7_where 71 = .ok (.getfield 7, 3) := by decide +kernel
theorem dX7_where_74 : decode cX7_where 74 = .ok (.sipush 304, 3) := by decide +kernel
theorem dX7_where_77 : decode cX7_where 77 = .ok (.iload_n 1, 1) := by decide +kernel
theorem dX7_where_78 : decode cX7_where 78 = .ok (.iadd, 1) := by decide +kernel
theorem dX7_where_79 : decode cX7_where 79 = .ok (.iaload, 1) := by decide +kernel
theorem dX7_where_80 : decode cX7_where 80 = .ok (.aload_n 0, 1) := by decide +kernel
theorem dX7_where_81 : decode cX7_where 81 = .ok (.invokevirtual 82, 3) := by decide +kernel
theorem dX7_where_84 : decode cX7_where 84 = .ok (.invokestatic 33, 3) := by decide +kernel
theorem dX7_where_87 : decode cX7_where 87 = .ok (.ifCond .ne 6, 3) := by decide +kernel
theorem dX7_where_90 : decode cX7_where 90 = .ok (.bipush (-6), 2) := by decide +kernel
theorem dX7_where_92 : decode cX7_where 92 = .ok (.ireturn, 1) := by decide +kernel
theorem dX7_where_93 : decode cX7_where 93 = .ok (.aload_n 0, 1) := by decide +kernel
theorem dX7_where_94 : decode cX7_where 94 = .ok (.iload 6, 2) := by decide +kernel
theorem dX7_where_96 : decode cX7_where 96 = .ok (.invokevirtual 114, 3) := by decide +kernel
theorem dX7_where_99 : decode cX7_where 99 = .ok (.iload 4, 2) := by decide +kernel
theorem dX7_where_101 : decode cX7_where 101 = .ok (.ifCond .ne 23, 3) := by decide +kernel
theorem dX7_where_104 : decode cX7_where 104 = .ok (.aload_n 0, 1) := by decide +kernel
theorem dX7_where_105 : decode cX7_where 105 = .ok (.getfield 24, 3) := by decide +kernel
theorem dX7_where_108 : decode cX7_where 108 = .ok (.iload_n 3, 1) := by decide +kernel
theorem dX7_where_109 : decode cX7_where 109 = .ok (.iaload, 1) := by decide +kernel
theorem dX7_where_110 : decode cX7_where 110 = .ok (.aload_n 0, 1) := by decide +kernel
theorem dX7_where_111 : decode cX7_where 111 = .ok (.getfield 7, 3) := by decide +kernel
theorem dX7_where_114 : decode cX7_where 114 = .ok (.sipush 308, 3) := by decide +kernel
theorem dX7_where_117 : decode cX7_where 117 = .ok (.iload_n 1, 1) := by decide +kernel
theorem dX7_where_118 : decode cX7_where 118 = .ok (.iadd, 1) := by decide +kernel
theorem dX7_where_119 : decode cX7_where 119 = .ok (.iaload, 1) := by decide +kernel
theorem dX7_where_120 : decode cX7_where 120 = .ok (.iadd, 1) := by decide +kernel
theorem dX7_where_121 : decode cX7_where 121 = .ok (.goto 32, 3) := by decide +kernel
theorem dX7_where_124 : decode cX7_where 124 = .ok (.iload 4, 2) := by decide +kernel
theorem dX7_where_126 : decode cX7_where 126 = .ok (.iconst 1, 1) := by decide +kernel
theorem dX7_where_127 : decode cX7_where 127 = .ok (.if_icmp .ne 12, 3) := by decide +kernel
theorem dX7_where_130 : decode cX7_where 130 = .ok (.aload_n 0, 1) := by decide +kernel
theorem dX7_where_131 : decode cX7_where 131 = .ok (.getfield 27, 3) := by decide +kernel
theorem dX7_where_134 : decode cX7_where 134 = .ok (.iload_n 3, 1) := by decide +kernel
theorem dX7_where_135 : decode cX7_where 135 = .ok (.iaload, 1) := by decide +kernel
theorem dX7_where_136 : decode cX7_where 136 = .ok (.goto 17, 3) := by decide +kernel
theorem dX7_where_139 : decode cX7_where 139 = .ok (.aload_n 0, 1) := by decide +kernel
theorem dX7_where_140 : decode cX7_where 140 = .ok (.getfield 30, 3) := by decide +kernel
theorem dX7_where_143 : decode cX7_where 143 = .ok (.iload_n 3, 1) := by decide +kernel
theorem dX7_where_144 : decode cX7_where 144 = .ok (.baload, 1) := by decide +kernel
theorem dX7_where_145 : decode cX7_where 145 = .ok (.ifCond .eq 7, 3) := by decide +kernel
theorem dX7_where_148 : decode cX7_where 148 = .ok (.iconst 1, 1) := by decide +kernel
theorem dX7_where_149 : decode cX7_where 149 = .ok (.goto 4, 3) := by decide +kernel
theorem dX7_where_152 : decode cX7_where 152 = .ok (.iconst 0, 1) := by decide +kernel
theorem dX7_where_153 : decode cX7_where 153 = .ok (.ireturn, 1) := by decide +kernel
set_option maxRecDepth 20000 in
theorem B_X7_where_0 {G : Gx} {X : Cx} {h : PH} {k n : Nat} {Q : State → Prop} {S : List PV} {a0 : Nat} {a1 : Int} {a2 : Int} {a3 : Int} {a4 : Int} {PQ : Option PV → PH → Prop} (C : CX_X7_where G X) (hk0 : k ≤ 0 := by decide) (hn0 : n ≤ 0 := by decide) (t1 : ph_T h a0 = 7 := by first | assumption | rfl) (hM : CT_X7_passOf G X.2.1 [.inr a0, .inl a2] h PQ) (hS : S.length ≤ 8 := by decide) (kk : ∀ r h', PQ r h' → PW G X 7 Q k n 5 [some (.inr a0), some (.inl a1), some (.inl a2), some (.inl a3), some (.inl a4), none, none] (r.toList ++ S) h') : PW G X 7 Q k n 0 [some (.inr a0), some (.inl a1), some (.inl a2), some (.inl a3), some (.inl a4), none, none] (S) h := by
  refine pw_aload_n C dX7_where_0 rfl ?_
  refine pw_iload_n C dX7_where_1 rfl ?_
  exact pw_callV C (na := 1) (As := [.inl a2]) (S := S) hM t1 (by decide) (hcl := by rfl) kw722 kw724 kw17 kw45 kw725 (by decide +kernel) rfl dX7_where_2 (by decide) (by decide) hk0 hn0 (by first | exact hS | (simp only [List.length_cons]; omega)) kk
set_option maxRecDepth 20000 in
theorem B_X7_where_5 {G : Gx} {X : Cx} {h : PH} {k n : Nat} {Q : State → Prop} {S : List PV} {a0 : Nat} {a1 : Int} {a2 : Int} {a3 : Int} {a4 : Int} {s0 : Int} {PQ : Option PV → PH → Prop} (C : CX_X7_where G X) (hk0 : k ≤ 0 := by decide) (hn0 : n ≤ 0 := by decide) (hM : CT_X7_isDish G X.2.1 [.inl a1] h PQ) (hS : S.length ≤ 8 := by decide) (kk : ∀ r h', PQ r h' → PW G X 7 Q k n 11 [some (.inr a0), some (.inl a1), some (.inl a2), some (.inl a3), some (.inl a4), some (.inl s0), none] (r.toList ++ S) h') : PW G X 7 Q k n 5 [some (.inr a0), some (.inl a1), some (.inl a2), some (.inl a3), some (.inl a4), none, none] (.inl s0 :: S) h := by
  refine pw_istore C dX7_where_5 (by decide) ?_
  refine pw_iload_n C dX7_where_7 rfl ?_
  exact pw_callS C (na := 1) (As := [.inl a1]) (S := S) hM kw741 kw742 kw45 kw743 (by decide +kernel) rfl dX7_where_8 (by decide) (by decide) hk0 hn0 (by first | exact hS | (simp only [List.length_cons]; omega)) kk
set_option maxRecDepth 20000 in
theorem B_X7_where_11 {G : Gx} {X : Cx} {h : PH} {k n : Nat} {Q : State → Prop} {S : List PV} {a0 : Nat} {a1 : Int} {a2 : Int} {a3 : Int} {a4 : Int} {a5 : Int} {s0 : Int} (C : CX_X7_where G X) (q1 : pR s0 := by first | assumption | (unfold pR; omega)) (kt : s0 = 0 → PW G X 7 Q k n 19 [some (.inr a0), some (.inl a1), some (.inl a2), some (.inl a3), some (.inl a4), some (.inl a5), none] (S) h) (kf : ¬ s0 = 0 → PW G X 7 Q k n 14 [some (.inr a0), some (.inl a1), some (.inl a2), some (.inl a3), some (.inl a4), some (.inl a5), none] (S) h) : PW G X 7 Q k n 11 [some (.inr a0), some (.inl a1), some (.inl a2), some (.inl a3), some (.inl a4), some (.inl a5), none] (.inl s0 :: S) h := by
  exact pw_if_eq C 19 dX7_where_11 (by decide) q1 kt kf
set_option maxRecDepth 20000 in
theorem B_X7_where_14 {G : Gx} {X : Cx} {h : PH} {k n : Nat} {Q : State → Prop} {S : List PV} {a0 : Nat} {a1 : Int} {a2 : Int} {a3 : Int} {a4 : Int} {a5 : Int} (C : CX_X7_where G X) (q1 : pR a5 := by first | assumption | (unfold pR; omega)) (kt : 0 ≤ a5 → PW G X 7 Q k n 21 [some (.inr a0), some (.inl a1), some (.inl a2), some (.inl a3), some (.inl a4), some (.inl a5), none] (S) h) (kf : ¬ 0 ≤ a5 → PW G X 7 Q k n 19 [some (.inr a0), some (.inl a1), some (.inl a2), some (.inl a3), some (.inl a4), some (.inl a5), none] (S) h) : PW G X 7 Q k n 14 [some (.inr a0), some (.inl a1), some (.inl a2), some (.inl a3), some (.inl a4), some (.inl a5), none] (S) h := by
  refine pw_iload C dX7_where_14 rfl ?_
  exact pw_if_ge C 21 dX7_where_16 (by decide) q1 kt kf
set_option maxRecDepth 20000 in
theorem B_X7_where_19 {G : Gx} {X : Cx} {h : PH} {k n : Nat} {a0 : Nat} {a1 : Int} {a2 : Int} {a3 : Int} {a4 : Int} {a5 : Int} {PQ : Option PV → PH → Prop} (C : CX_X7_where G X) (hq : PQ (some (.inl (-1))) h) : PW G X 7 (pw_E G X PQ k n) k n 19 [some (.inr a0), some (.inl a1), some (.inl a2), some (.inl a3), some (.inl a4), some (.inl a5), none] [] h := by
  refine pw_iconst C dX7_where_19 ?_
  exact pw_ireturn C dX7_where_20 hq
set_option maxRecDepth 20000 in
theorem B_X7_where_21 {G : Gx} {X : Cx} {h : PH} {k n : Nat} {Q : State → Prop} {S : List PV} {a0 : Nat} {a1 : Int} {a2 : Int} {a3 : Int} {a4 : Int} {a5 : Int} {PQ : Option PV → PH → Prop} (C : CX_X7_where G X) (hk0 : k ≤ 0 := by decide) (hn0 : n ≤ 0 := by decide) (hM : CT_X7_isTick G X.2.1 [.inl a3] h PQ) (hS : S.length ≤ 8 := by decide) (kk : ∀ r h', PQ r h' → PW G X 7 Q k n 25 [some (.inr a0), some (.inl a1), some (.inl a2), some (.inl a3), some (.inl a4), some (.inl a5), none] (r.toList ++ S) h') : PW G X 7 Q k n 21 [some (.inr a0), some (.inl a1), some (.inl a2), some (.inl a3), some (.inl a4), some (.inl a5), none] (S) h := by
  refine pw_iload_n C dX7_where_21 rfl ?_
  exact pw_callS C (na := 1) (As := [.inl a3]) (S := S) hM kw744 kw745 kw45 kw746 (by decide +kernel) rfl dX7_where_22 (by decide) (by decide) hk0 hn0 (by first | exact hS | (simp only [List.length_cons]; omega)) kk
set_option maxRecDepth 20000 in
theorem B_X7_where_25 {G : Gx} {X : Cx} {h : PH} {k n : Nat} {Q : State → Prop} {S : List PV} {a0 : Nat} {a1 : Int} {a2 : Int} {a3 : Int} {a4 : Int} {a5 : Int} {s0 : Int} (C : CX_X7_where G X) (q1 : pR s0 := by first | assumption | (unfold pR; omega)) (kt : s0 = 0 → PW G X 7 Q k n 38 [some (.inr a0), some (.inl a1), some (.inl a2), some (.inl a3), some (.inl a4), some (.inl a5), none] (S) h) (kf : ¬ s0 = 0 → PW G X 7 Q k n 28 [some (.inr a0), some (.inl a1), some (.inl a2), some (.inl a3), some (.inl a4), some (.inl a5), none] (S) h) : PW G X 7 Q k n 25 [some (.inr a0), some (.inl a1), some (.inl a2), some (.inl a3), some (.inl a4), some (.inl a5), none] (.inl s0 :: S) h := by
  exact pw_if_eq C 38 dX7_where_25 (by decide) q1 kt kf
set_option maxRecDepth 20000 in
theorem B_X7_where_28 {G : Gx} {X : Cx} {h : PH} {k n : Nat} {Q : State → Prop} {S : List PV} {a0 : Nat} {a1 : Int} {a2 : Int} {a3 : Int} {a4 : Int} {a5 : Int} {PQ : Option PV → PH → Prop} (C : CX_X7_where G X) (hk0 : k ≤ 0 := by decide) (hn0 : n ≤ 0 := by decide) (hM : CT_X7_in G X.2.1 [.inl a4, .inl 0, .inl 2] h PQ) (hS : S.length ≤ 8 := by decide) (kk : ∀ r h', PQ r h' → PW G X 7 Q k n 35 [some (.inr a0), some (.inl a1), some (.inl a2), some (.inl a3), some (.inl a4), some (.inl a5), none] (r.toList ++ S) h') : PW G X 7 Q k n 28 [some (.inr a0), some (.inl a1), some (.inl a2), some (.inl a3), some (.inl a4), some (.inl a5), none] (S) h := by
  refine pw_iload C dX7_where_28 rfl ?_
  refine pw_iconst C dX7_where_30 ?_
  refine pw_iconst C dX7_where_31 ?_
  exact pw_callS C (na := 3) (As := [.inl a4, .inl 0, .inl 2]) (S := S) hM kw719 kw720 kw45 kw721 (by decide +kernel) rfl dX7_where_32 (by decide) (by decide) hk0 hn0 (by first | exact hS | (simp only [List.length_cons]; omega)) kk
set_option maxRecDepth 20000 in
theorem B_X7_where_35 {G : Gx} {X : Cx} {h : PH} {k n : Nat} {Q : State → Prop} {S : List PV} {a0 : Nat} {a1 : Int} {a2 : Int} {a3 : Int} {a4 : Int} {a5 : Int} {s0 : Int} (C : CX_X7_where G X) (q1 : pR s0 := by first | assumption | (unfold pR; omega)) (kt : ¬ s0 = 0 → PW G X 7 Q k n 41 [some (.inr a0), some (.inl a1), some (.inl a2), some (.inl a3), some (.inl a4), some (.inl a5), none] (S) h) (kf : s0 = 0 → PW G X 7 Q k n 38 [some (.inr a0), some (.inl a1), some (.inl a2), some (.inl a3), some (.inl a4), some (.inl a5), none] (S) h) : PW G X 7 Q k n 35 [some (.inr a0), some (.inl a1), some (.inl a2), some (.inl a3), some (.inl a4), some (.inl a5), none] (.inl s0 :: S) h := by
  exact pw_if_ne C 41 dX7_where_35 (by decide) q1 kt kf
set_option maxRecDepth 20000 in
theorem B_X7_where_38 {G : Gx} {X : Cx} {h : PH} {k n : Nat} {a0 : Nat} {a1 : Int} {a2 : Int} {a3 : Int} {a4 : Int} {a5 : Int} {PQ : Option PV → PH → Prop} (C : CX_X7_where G X) (hq : PQ (some (.inl (-2))) h) : PW G X 7 (pw_E G X PQ k n) k n 38 [some (.inr a0), some (.inl a1), some (.inl a2), some (.inl a3), some (.inl a4), some (.inl a5), none] [] h := by
  refine pw_bipush C dX7_where_38 rfl ?_
  exact pw_ireturn C dX7_where_40 hq
set_option maxRecDepth 20000 in
theorem B_X7_where_41 {G : Gx} {X : Cx} {h : PH} {k n : Nat} {Q : State → Prop} {S : List PV} {a0 : Nat} {a1 : Int} {a2 : Int} {a3 : Int} {a4 : Int} {a5 : Int} {PQ : Option PV → PH → Prop} (C : CX_X7_where G X) (hk0 : k ≤ 0 := by decide) (hn0 : n ≤ 0 := by decide) (t1 : ph_T h a0 = 7 := by first | assumption | rfl) (hM : CT_X7_isOpen G X.2.1 [.inr a0, .inl a5] h PQ) (hS : S.length ≤ 8 := by decide) (kk : ∀ r h', PQ r h' → PW G X 7 Q k n 47 [some (.inr a0), some (.inl a1), some (.inl a2), some (.inl a3), some (.inl a4), some (.inl a5), none] (r.toList ++ S) h') : PW G X 7 Q k n 41 [some (.inr a0), some (.inl a1), some (.inl a2), some (.inl a3), some (.inl a4), some (.inl a5), none] (S) h := by
  refine pw_aload_n C dX7_where_41 rfl ?_
  refine pw_iload C dX7_where_42 rfl ?_
  exact pw_callV C (na := 1) (As := [.inl a5]) (S := S) hM t1 (by decide) (hcl := by rfl) kw793 kw795 kw19 kw45 kw796 (by decide +kernel) rfl dX7_where_44 (by decide) (by decide) hk0 hn0 (by first | exact hS | (simp only [List.length_cons]; omega)) kk
set_option maxRecDepth 20000 in
theorem B_X7_where_47 {G : Gx} {X : Cx} {h : PH} {k n : Nat} {Q : State → Prop} {S : List PV} {a0 : Nat} {a1 : Int} {a2 : Int} {a3 : Int} {a4 : Int} {a5 : Int} {s0 : Int} (C : CX_X7_where G X) (q1 : pR s0 := by first | assumption | (unfold pR; omega)) (kt : ¬ s0 = 0 → PW G X 7 Q k n 53 [some (.inr a0), some (.inl a1), some (.inl a2), some (.inl a3), some (.inl a4), some (.inl a5), none] (S) h) (kf : s0 = 0 → PW G X 7 Q k n 50 [some (.inr a0), some (.inl a1), some (.inl a2), some (.inl a3), some (.inl a4), some (.inl a5), none] (S) h) : PW G X 7 Q k n 47 [some (.inr a0), some (.inl a1), some (.inl a2), some (.inl a3), some (.inl a4), some (.inl a5), none] (.inl s0 :: S) h := by
  exact pw_if_ne C 53 dX7_where_47 (by decide) q1 kt kf
set_option maxRecDepth 20000 in
theorem B_X7_where_50 {G : Gx} {X : Cx} {h : PH} {k n : Nat} {a0 : Nat} {a1 : Int} {a2 : Int} {a3 : Int} {a4 : Int} {a5 : Int} {PQ : Option PV → PH → Prop} (C : CX_X7_where G X) (hq : PQ (some (.inl (-3))) h) : PW G X 7 (pw_E G X PQ k n) k n 50 [some (.inr a0), some (.inl a1), some (.inl a2), some (.inl a3), some (.inl a4), some (.inl a5), none] [] h := by
  refine pw_bipush C dX7_where_50 rfl ?_
  exact pw_ireturn C dX7_where_52 hq
set_option maxRecDepth 20000 in
theorem B_X7_where_53 {G : Gx} {X : Cx} {h : PH} {k n : Nat} {Q : State → Prop} {S : List PV} {a0 : Nat} {a1 : Int} {a2 : Int} {a3 : Int} {a4 : Int} {a5 : Int} {PQ : Option PV → PH → Prop} (C : CX_X7_where G X) (hk0 : k ≤ 0 := by decide) (hn0 : n ≤ 0 := by decide) (t1 : ph_T h a0 = 7 := by first | assumption | rfl) (hM : CT_X7_layAll G X.2.1 [.inr a0, .inl a1, .inl a5] h PQ) (hS : S.length ≤ 8 := by decide) (kk : ∀ r h', PQ r h' → PW G X 7 Q k n 60 [some (.inr a0), some (.inl a1), some (.inl a2), some (.inl a3), some (.inl a4), some (.inl a5), none] (r.toList ++ S) h') : PW G X 7 Q k n 53 [some (.inr a0), some (.inl a1), some (.inl a2), some (.inl a3), some (.inl a4), some (.inl a5), none] (S) h := by
  refine pw_aload_n C dX7_where_53 rfl ?_
  refine pw_iload_n C dX7_where_54 rfl ?_
  refine pw_iload C dX7_where_55 rfl ?_
  exact pw_callV C (na := 2) (As := [.inl a1, .inl a5]) (S := S) hM t1 (by decide) (hcl := by rfl) kw797 kw799 kw20 kw45 kw800 (by decide +kernel) rfl dX7_where_57 (by decide) (by decide) hk0 hn0 (by first | exact hS | (simp only [List.length_cons]; omega)) kk
set_option maxRecDepth 20000 in
theorem B_X7_where_60 {G : Gx} {X : Cx} {h : PH} {k n : Nat} {Q : State → Prop} {S : List PV} {a0 : Nat} {a1 : Int} {a2 : Int} {a3 : Int} {a4 : Int} {a5 : Int} {s0 : Int} (C : CX_X7_where G X) (q1 : pR s0 := by first | assumption | (unfold pR; omega)) (q2 : pR (-1000000) := by first | assumption | (unfold pR; omega)) (kt : s0 = (-1000000) → PW G X 7 Q k n 90 [some (.inr a0), some (.inl a1), some (.inl a2), some (.inl a3), some (.inl a4), some (.inl a5), some (.inl s0)] (S) h) (kf : ¬ s0 = (-1000000) → PW G X 7 Q k n 69 [some (.inr a0), some (.inl a1), some (.inl a2), some (.inl a3), some (.inl a4), some (.inl a5), some (.inl s0)] (S) h) : PW G X 7 Q k n 60 [some (.inr a0), some (.inl a1), some (.inl a2), some (.inl a3), some (.inl a4), some (.inl a5), none] (.inl s0 :: S) h := by
  refine pw_istore C dX7_where_60 (by decide) ?_
  refine pw_iload C dX7_where_62 rfl ?_
  refine pw_ldc C (z := -1000000) kw809 rfl dX7_where_64 ?_
  exact pw_icmp_eq C 90 dX7_where_66 (by decide) q1 q2 kt kf
set_option maxRecDepth 20000 in
theorem B_X7_where_69 {G : Gx} {X : Cx} {h : PH} {k n : Nat} {Q : State → Prop} {S : List PV} {a0 : Nat} {a1 : Int} {a2 : Int} {a3 : Int} {a4 : Int} {a5 : Int} {a6 : Int} {r2 : Nat} {x8 : Int} {PQ : Option PV → PH → Prop} (C : CX_X7_where G X) (hk0 : k ≤ 0 := by decide) (hn0 : n ≤ 0 := by decide) (t1 : ph_T h a0 = 7 := by first | assumption | rfl) (e3 : ph_R h a0 0 = r2 := by first | assumption | rfl) (t4 : ph_T h r2 = 8 := by first | assumption | rfl) (q5 : (0 : Int) ≤ 304 + a1 := by first | assumption | omega) (q6 : 304 + a1 < (ph_L h r2 : Int) := by first | assumption | omega) (q7 : pR (304 + a1) := by first | assumption | (unfold pR; omega)) (e9 : ph_I h r2 (Int.toNat (304 + a1)) = x8 := by first | assumption | rfl) (t10 : ph_T h a0 = 7 := by first | assumption | rfl) (hM : CT_X7_lastTick G X.2.1 [.inr a0] h PQ) (hS : S.length ≤ 6 := by decide) (kk : ∀ r h', PQ r h' → PW G X 7 Q k n 84 [some (.inr a0), some (.inl a1), some (.inl a2), some (.inl a3), some (.inl a4), some (.inl a5), some (.inl a6)] (r.toList ++ (.inl x8 :: .inl a3 :: S)) h') : PW G X 7 Q k n 69 [some (.inr a0), some (.inl a1), some (.inl a2), some (.inl a3), some (.inl a4), some (.inl a5), some (.inl a6)] (S) h := by
  refine pw_iload_n C dX7_where_69 rfl ?_
  refine pw_aload_n C dX7_where_70 rfl ?_
  refine pw_getR C (t := 7) (f := 0) rfl inF7 rfl (by decide) (by decide) rfl kw678 dX7_where_71 t1 ?_
  rw [e3]
  refine pw_sipush C dX7_where_74 rfl ?_
  refine pw_iload_n C dX7_where_77 rfl ?_
  refine pw_iadd C dX7_where_78 ?_
  refine pw_iald C dX7_where_79 t4 q5 q6 q7 ?_
  rw [e9]
  refine pw_aload_n C dX7_where_80 rfl ?_
  exact pw_callV C (na := 0) (As := []) (S := .inl x8 :: .inl a3 :: S) hM t10 (by decide) (hcl := by rfl) kw805 kw807 kw22 kw45 kw808 (by decide +kernel) rfl dX7_where_81 (by decide) (by decide) hk0 hn0 (by first | exact hS | (simp only [List.length_cons]; omega)) kk
set_option maxRecDepth 20000 in
theorem B_X7_where_84 {G : Gx} {X : Cx} {h : PH} {k n : Nat} {Q : State → Prop} {S : List PV} {a0 : Nat} {a1 : Int} {a2 : Int} {a3 : Int} {a4 : Int} {a5 : Int} {a6 : Int} {s0 : Int} {s1 : Int} {s2 : Int} {PQ : Option PV → PH → Prop} (C : CX_X7_where G X) (hk0 : k ≤ 0 := by decide) (hn0 : n ≤ 0 := by decide) (hM : CT_X7_in G X.2.1 [.inl s2, .inl s1, .inl s0] h PQ) (hS : S.length ≤ 8 := by decide) (kk : ∀ r h', PQ r h' → PW G X 7 Q k n 87 [some (.inr a0), some (.inl a1), some (.inl a2), some (.inl a3), some (.inl a4), some (.inl a5), some (.inl a6)] (r.toList ++ S) h') : PW G X 7 Q k n 84 [some (.inr a0), some (.inl a1), some (.inl a2), some (.inl a3), some (.inl a4), some (.inl a5), some (.inl a6)] (.inl s0 :: .inl s1 :: .inl s2 :: S) h := by
  exact pw_callS C (na := 3) (As := [.inl s2, .inl s1, .inl s0]) (S := S) hM kw719 kw720 kw45 kw721 (by decide +kernel) rfl dX7_where_84 (by decide) (by decide) hk0 hn0 (by first | exact hS | (simp only [List.length_cons]; omega)) kk
set_option maxRecDepth 20000 in
theorem B_X7_where_87 {G : Gx} {X : Cx} {h : PH} {k n : Nat} {Q : State → Prop} {S : List PV} {a0 : Nat} {a1 : Int} {a2 : Int} {a3 : Int} {a4 : Int} {a5 : Int} {a6 : Int} {s0 : Int} (C : CX_X7_where G X) (q1 : pR s0 := by first | assumption | (unfold pR; omega)) (kt : ¬ s0 = 0 → PW G X 7 Q k n 93 [some (.inr a0), some (.inl a1), some (.inl a2), some (.inl a3), some (.inl a4), some (.inl a5), some (.inl a6)] (S) h) (kf : s0 = 0 → PW G X 7 Q k n 90 [some (.inr a0), some (.inl a1), some (.inl a2), some (.inl a3), some (.inl a4), some (.inl a5), some (.inl a6)] (S) h) : PW G X 7 Q k n 87 [some (.inr a0), some (.inl a1), some (.inl a2), some (.inl a3), some (.inl a4), some (.inl a5), some (.inl a6)] (.inl s0 :: S) h := by
  exact pw_if_ne C 93 dX7_where_87 (by decide) q1 kt kf
set_option maxRecDepth 20000 in
theorem B_X7_where_90 {G : Gx} {X : Cx} {h : PH} {k n : Nat} {a0 : Nat} {a1 : Int} {a2 : Int} {a3 : Int} {a4 : Int} {a5 : Int} {a6 : Int} {PQ : Option PV → PH → Prop} (C : CX_X7_where G X) (hq : PQ (some (.inl (-6))) h) : PW G X 7 (pw_E G X PQ k n) k n 90 [some (.inr a0), some (.inl a1), some (.inl a2), some (.inl a3), some (.inl a4), some (.inl a5), some (.inl a6)] [] h := by
  refine pw_bipush C dX7_where_90 rfl ?_
  exact pw_ireturn C dX7_where_92 hq
set_option maxRecDepth 20000 in
theorem B_X7_where_93 {G : Gx} {X : Cx} {h : PH} {k n : Nat} {Q : State → Prop} {S : List PV} {a0 : Nat} {a1 : Int} {a2 : Int} {a3 : Int} {a4 : Int} {a5 : Int} {a6 : Int} {PQ : Option PV → PH → Prop} (C : CX_X7_where G X) (hk0 : k ≤ 0 := by decide) (hn0 : n ≤ 0 := by decide) (t1 : ph_T h a0 = 7 := by first | assumption | rfl) (hM : CT_X7_walk G X.2.1 [.inr a0, .inl a6] h PQ) (hS : S.length ≤ 8 := by decide) (kk : ∀ r h', PQ r h' → PW G X 7 Q k n 99 [some (.inr a0), some (.inl a1), some (.inl a2), some (.inl a3), some (.inl a4), some (.inl a5), some (.inl a6)] (r.toList ++ S) h') : PW G X 7 Q k n 93 [some (.inr a0), some (.inl a1), some (.inl a2), some (.inl a3), some (.inl a4), some (.inl a5), some (.inl a6)] (S) h := by
  refine pw_aload_n C dX7_where_93 rfl ?_
  refine pw_iload C dX7_where_94 rfl ?_
  exact pw_callV C (na := 1) (As := [.inl a6]) (S := S) hM t1 (by decide) (hcl := by rfl) kw829 kw831 kw27 kw45 kw832 (by decide +kernel) rfl dX7_where_96 (by decide) (by decide) hk0 hn0 (by first | exact hS | (simp only [List.length_cons]; omega)) kk
set_option maxRecDepth 20000 in
theorem B_X7_where_99 {G : Gx} {X : Cx} {h : PH} {k n : Nat} {Q : State → Prop} {S : List PV} {a0 : Nat} {a1 : Int} {a2 : Int} {a3 : Int} {a4 : Int} {a5 : Int} {a6 : Int} (C : CX_X7_where G X) (q1 : pR a4 := by first | assumption | (unfold pR; omega)) (kt : ¬ a4 = 0 → PW G X 7 Q k n 124 [some (.inr a0), some (.inl a1), some (.inl a2), some (.inl a3), some (.inl a4), some (.inl a5), some (.inl a6)] (S) h) (kf : a4 = 0 → PW G X 7 Q k n 104 [some (.inr a0), some (.inl a1), some (.inl a2), some (.inl a3), some (.inl a4), some (.inl a5), some (.inl a6)] (S) h) : PW G X 7 Q k n 99 [some (.inr a0), some (.inl a1), some (.inl a2), some (.inl a3), some (.inl a4), some (.inl a5), some (.inl a6)] (S) h := by
  refine pw_iload C dX7_where_99 rfl ?_
  exact pw_if_ne C 124 dX7_where_101 (by decide) q1 kt kf
set_option maxRecDepth 20000 in
theorem B_X7_where_104 {G : Gx} {X : Cx} {h : PH} {k n : Nat} {Q : State → Prop} {S : List PV} {a0 : Nat} {a1 : Int} {a2 : Int} {a3 : Int} {a4 : Int} {a5 : Int} {a6 : Int} {r2 : Nat} {x8 : Int} {r11 : Nat} {x17 : Int} (C : CX_X7_where G X) (t1 : ph_T h a0 = 7 := by first | assumption | rfl) (e3 : ph_R h a0 8 = r2 := by first | assumption | rfl) (t4 : ph_T h r2 = 8 := by first | assumption | rfl) (q5 : (0 : Int) ≤ a3 := by first | assumption | omega) (q6 : a3 < (ph_L h r2 : Int) := by first | assumption | omega) (q7 : pR a3 := by first | assumption | (unfold pR; omega)) (e9 : ph_I h r2 (Int.toNat a3) = x8 := by first | assumption | rfl) (t10 : ph_T h a0 = 7 := by first | assumption | rfl) (e12 : ph_R h a0 0 = r11 := by first | assumption | rfl) (t13 : ph_T h r11 = 8 := by first | assumption | rfl) (q14 : (0 : Int) ≤ 308 + a1 := by first | assumption | omega) (q15 : 308 + a1 < (ph_L h r11 : Int) := by first | assumption | omega) (q16 : pR (308 + a1) := by first | assumption | (unfold pR; omega)) (e18 : ph_I h r11 (Int.toNat (308 + a1)) = x17 := by first | assumption | rfl) (kk : PW G X 7 Q k n 153 [some (.inr a0), some (.inl a1), some (.inl a2), some (.inl a3), some (.inl a4), some (.inl a5), some (.inl a6)] (.inl (x8 + x17) :: S) h) : PW G X 7 Q k n 104 [some (.inr a0), some (.inl a1), some (.inl a2), some (.inl a3), some (.inl a4), some (.inl a5), some (.inl a6)] (S) h := by
  refine pw_aload_n C dX7_where_104 rfl ?_
  refine pw_getR C (t := 7) (f := 8) rfl inF7 rfl (by decide) (by decide) rfl kw686 dX7_where_105 t1 ?_
  rw [e3]
  refine pw_iload_n C dX7_where_108 rfl ?_
  refine pw_iald C dX7_where_109 t4 q5 q6 q7 ?_
  rw [e9]
  refine pw_aload_n C dX7_where_110 rfl ?_
  refine pw_getR C (t := 7) (f := 0) rfl inF7 rfl (by decide) (by decide) rfl kw678 dX7_where_111 t10 ?_
  rw [e12]
  refine pw_sipush C dX7_where_114 rfl ?_
  refine pw_iload_n C dX7_where_117 rfl ?_
  refine pw_iadd C dX7_where_118 ?_
  refine pw_iald C dX7_where_119 t13 q14 q15 q16 ?_
  rw [e18]
  refine pw_iadd C dX7_where_120 ?_
  refine pw_goto C 153 dX7_where_121 (by decide) ?_
  exact kk
set_option maxRecDepth 20000 in
theorem B_X7_where_124 {G : Gx} {X : Cx} {h : PH} {k n : Nat} {Q : State → Prop} {S : List PV} {a0 : Nat} {a1 : Int} {a2 : Int} {a3 : Int} {a4 : Int} {a5 : Int} {a6 : Int} (C : CX_X7_where G X) (q1 : pR a4 := by first | assumption | (unfold pR; omega)) (q2 : pR 1 := by first | assumption | (unfold pR; omega)) (kt : ¬ a4 = 1 → PW G X 7 Q k n 139 [some (.inr a0), some (.inl a1), some (.inl a2), some (.inl a3), some (.inl a4), some (.inl a5), some (.inl a6)] (S) h) (kf : a4 = 1 → PW G X 7 Q k n 130 [some (.inr a0), some (.inl a1), some (.inl a2), some (.inl a3), some (.inl a4), some (.inl a5), some (.inl a6)] (S) h) : PW G X 7 Q k n 124 [some (.inr a0), some (.inl a1), some (.inl a2), some (.inl a3), some (.inl a4), some (.inl a5), some (.inl a6)] (S) h := by
  refine pw_iload C dX7_where_124 rfl ?_
  refine pw_iconst C dX7_where_126 ?_
  exact pw_icmp_ne C 139 dX7_where_127 (by decide) q1 q2 kt kf
set_option maxRecDepth 20000 in
theorem B_X7_where_130 {G : Gx} {X : Cx} {h : PH} {k n : Nat} {Q : State → Prop} {S : List PV} {a0 : Nat} {a1 : Int} {a2 : Int} {a3 : Int} {a4 : Int} {a5 : Int} {a6 : Int} {r2 : Nat} {x8 : Int} (C : CX_X7_where G X) (t1 : ph_T h a0 = 7 := by first | assumption | rfl) (e3 : ph_R h a0 9 = r2 := by first | assumption | rfl) (t4 : ph_T h r2 = 8 := by first | assumption | rfl) (q5 : (0 : Int) ≤ a3 := by first | assumption | omega) (q6 : a3 < (ph_L h r2 : Int) := by first | assumption | omega) (q7 : pR a3 := by first | assumption | (unfold pR; omega)) (e9 : ph_I h r2 (Int.toNat a3) = x8 := by first | assumption | rfl) (kk : PW G X 7 Q k n 153 [some (.inr a0), some (.inl a1), some (.inl a2), some (.inl a3), some (.inl a4), some (.inl a5), some (.inl a6)] (.inl x8 :: S) h) : PW G X 7 Q k n 130 [some (.inr a0), some (.inl a1), some (.inl a2), some (.inl a3), some (.inl a4), some (.inl a5), some (.inl a6)] (S) h := by
  refine pw_aload_n C dX7_where_130 rfl ?_
  refine pw_getR C (t := 7) (f := 9) rfl inF7 rfl (by decide) (by decide) rfl kw687 dX7_where_131 t1 ?_
  rw [e3]
  refine pw_iload_n C dX7_where_134 rfl ?_
  refine pw_iald C dX7_where_135 t4 q5 q6 q7 ?_
  rw [e9]
  refine pw_goto C 153 dX7_where_136 (by decide) ?_
  exact kk
set_option maxRecDepth 20000 in
theorem B_X7_where_139 {G : Gx} {X : Cx} {h : PH} {k n : Nat} {Q : State → Prop} {S : List PV} {a0 : Nat} {a1 : Int} {a2 : Int} {a3 : Int} {a4 : Int} {a5 : Int} {a6 : Int} {r2 : Nat} {x8 : Int} (C : CX_X7_where G X) (t1 : ph_T h a0 = 7 := by first | assumption | rfl) (e3 : ph_R h a0 10 = r2 := by first | assumption | rfl) (t4 : ph_T h r2 = 9 := by first | assumption | rfl) (q5 : (0 : Int) ≤ a3 := by first | assumption | omega) (q6 : a3 < (ph_L h r2 : Int) := by first | assumption | omega) (q7 : pR a3 := by first | assumption | (unfold pR; omega)) (e9 : ph_I h r2 (Int.toNat a3) = x8 := by first | assumption | rfl) (q10 : pR x8 := by first | assumption | (unfold pR; omega)) (kt : x8 = 0 → PW G X 7 Q k n 152 [some (.inr a0), some (.inl a1), some (.inl a2), some (.inl a3), some (.inl a4), some (.inl a5), some (.inl a6)] (S) h) (kf : ¬ x8 = 0 → PW G X 7 Q k n 148 [some (.inr a0), some (.inl a1), some (.inl a2), some (.inl a3), some (.inl a4), some (.inl a5), some (.inl a6)] (S) h) : PW G X 7 Q k n 139 [some (.inr a0), some (.inl a1), some (.inl a2), some (.inl a3), some (.inl a4), some (.inl a5), some (.inl a6)] (S) h := by
  refine pw_aload_n C dX7_where_139 rfl ?_
  refine pw_getR C (t := 7) (f := 10) rfl inF7 rfl (by decide) (by decide) rfl kw688 dX7_where_140 t1 ?_
  rw [e3]
  refine pw_iload_n C dX7_where_143 rfl ?_
  refine pw_zald C dX7_where_144 t4 q5 q6 q7 ?_
  rw [e9]
  exact pw_if_eq C 152 dX7_where_145 (by decide) q10 kt kf
set_option maxRecDepth 20000 in
theorem B_X7_where_148 {G : Gx} {X : Cx} {h : PH} {k n : Nat} {Q : State → Prop} {S : List PV} {a0 : Nat} {a1 : Int} {a2 : Int} {a3 : Int} {a4 : Int} {a5 : Int} {a6 : Int} (C : CX_X7_where G X) (kk : PW G X 7 Q k n 153 [some (.inr a0), some (.inl a1), some (.inl a2), some (.inl a3), some (.inl a4), some (.inl a5), some (.inl a6)] (.inl 1 :: S) h) : PW G X 7 Q k n 148 [some (.inr a0), some (.inl a1), some (.inl a2), some (.inl a3), some (.inl a4), some (.inl a5), some (.inl a6)] (S) h := by
  refine pw_iconst C dX7_where_148 ?_
  refine pw_goto C 153 dX7_where_149 (by decide) ?_
  exact kk
set_option maxRecDepth 20000 in
theorem B_X7_where_152 {G : Gx} {X : Cx} {h : PH} {k n : Nat} {Q : State → Prop} {S : List PV} {a0 : Nat} {a1 : Int} {a2 : Int} {a3 : Int} {a4 : Int} {a5 : Int} {a6 : Int} (C : CX_X7_where G X) (kk : PW G X 7 Q k n 153 [some (.inr a0), some (.inl a1), some (.inl a2), some (.inl a3), some (.inl a4), some (.inl a5), some (.inl a6)] (.inl 0 :: S) h) : PW G X 7 Q k n 152 [some (.inr a0), some (.inl a1), some (.inl a2), some (.inl a3), some (.inl a4), some (.inl a5), some (.inl a6)] (S) h := by
  refine pw_iconst C dX7_where_152 ?_
  exact kk
set_option maxRecDepth 20000 in
theorem B_X7_where_153 {G : Gx} {X : Cx} {h : PH} {k n : Nat} {a0 : Nat} {a1 : Int} {a2 : Int} {a3 : Int} {a4 : Int} {a5 : Int} {a6 : Int} {s0 : Int} {PQ : Option PV → PH → Prop} (C : CX_X7_where G X) (hq : PQ (some (.inl s0)) h) : PW G X 7 (pw_E G X PQ k n) k n 153 [some (.inr a0), some (.inl a1), some (.inl a2), some (.inl a3), some (.inl a4), some (.inl a5), some (.inl a6)] [.inl s0] h := by
  exact pw_ireturn C dX7_where_153 hq
theorem dX7_offerOf_0 : decode cX7_offerOf 0 = .ok (.bipush (-6), 2) := by decide +kernel
theorem dX7_offerOf_2 : decode cX7_offerOf 2 = .ok (.istore_n 2, 1) := by decide +kernel
theorem dX7_offerOf_3 : decode cX7_offerOf 3 = .ok (.aload_n 0, 1) := by decide +kernel
theorem dX7_offerOf_4 : decode cX7_offerOf 4 = .ok (.ldc 74, 2) := by decide +kernel
theorem dX7_offerOf_6 : decode cX7_offerOf 6 = .ok (.putfield 125, 3) := by decide +kernel
theorem dX7_offerOf_9 : decode cX7_offerOf 9 = .ok (.iconst 0, 1) := by decide +kernel
theorem dX7_offerOf_10 : decode cX7_offerOf 10 = .ok (.istore_n 3, 1) := by decide +kernel
theorem dX7_offerOf_11 : decode cX7_offerOf 11 = .ok (.iload_n 3, 1) := by decide +kernel
theorem dX7_offerOf_12 : decode cX7_offerOf 12 = .ok (.iconst 4, 1) := by decide +kernel
theorem dX7_offerOf_13 : decode cX7_offerOf 13 = .ok (.if_icmp .ge 34, 3) := by decide +kernel
theorem dX7_offerOf_16 : decode cX7_offerOf 16 = .ok (.aload_n 0, 1) := by decide +kernel
theorem dX7_offerOf_17 : decode cX7_offerOf 17 = .ok (.iload_n 3, 1) := by decide +kernel
theorem dX7_offerOf_18 : decode cX7_offerOf 18 = .ok (.iload_n 1, 1) := by decide +kernel
theorem dX7_offerOf_19 : decode cX7_offerOf 19 = .ok (.invokevirtual 111, 3) := by decide +kernel
theorem dX7_offerOf_22 : decode cX7_offerOf 22 = .ok (.istore 4, 2) := by decide +kernel
theorem dX7_offerOf_24 : decode cX7_offerOf 24 = .ok (.iload 4, 2) := by decide +kernel
theorem dX7_offerOf_26 : decode cX7_offerOf 26 = .ok (.aload_n 0, 1) := by decide +kernel
theorem dX7_offerOf_27 : decode cX7_offerOf 27 = .ok (.getfield 125, 3) := by decide +kernel
theorem dX7_offerOf_30 : decode cX7_offerOf 30 = .ok (.if_icmp .le 11, 3) := by decide +kernel
theorem dX7_offerOf_33 : decode cX7_offerOf 33 = .ok (.aload_n 0, 1) := by decide +kernel
theorem dX7_offerOf_34 : decode cX7_offerOf 34 = .ok (.iload 4, 2) := by decide +kernel
theorem dX7_offerOf_36 : decode cX7_offerOf 36 = .ok (.putfield 125, 3) := by decide +kernel
theorem dX7_offerOf_39 : decode cX7_offerOf 39 = .ok (.iload_n 3, 1) := by decide +kernel
theorem dX7_offerOf_40 : decode cX7_offerOf 40 = .ok (.istore_n 2, 1) := by decide +kernel
theorem dX7_offerOf_41 : decode cX7_offerOf 41 = .ok (.iinc 3 1, 3) := by decide +kernel
theorem dX7_offerOf_44 : decode cX7_offerOf 44 = .ok (.goto (-33), 3) := by decide +kernel
theorem dX7_offerOf_47 : decode cX7_offerOf 47 = .ok (.iload_n 2, 1) := by decide +kernel
theorem dX7_offerOf_48 : decode cX7_offerOf 48 = .ok (.ireturn, 1) := by decide +kernel
set_option maxRecDepth 20000 in
theorem B_X7_offerOf_0 {G : Gx} {X : Cx} {h : PH} {k n : Nat} {Q : State → Prop} {S : List PV} {a0 : Nat} {a1 : Int} (C : CX_X7_offerOf G X) (t1 : ph_T h a0 = 7 := by first | assumption | rfl) (kk : PW G X 5 Q k n 11 [some (.inr a0), some (.inl a1), some (.inl (-6)), some (.inl 0), none] (S) (ph_setI h a0 11 (-1000000))) : PW G X 5 Q k n 0 [some (.inr a0), some (.inl a1), none, none, none] (S) h := by
  refine pw_bipush C dX7_offerOf_0 rfl ?_
  refine pw_istore_n C dX7_offerOf_2 (by decide) ?_
  refine pw_aload_n C dX7_offerOf_3 rfl ?_
  refine pw_ldc C (z := -1000000) kw809 rfl dX7_offerOf_4 ?_
  refine pw_putI C (t := 7) (f := 11) rfl inF7 tyX7_ok nmX7 rfl (by decide) (by decide) rfl (Or.inl rfl) (Or.inl rfl) kw689 dX7_offerOf_6 t1 ?_
  refine pw_iconst C dX7_offerOf_9 ?_
  refine pw_istore_n C dX7_offerOf_10 (by decide) ?_
  exact kk
set_option maxRecDepth 20000 in
theorem B_X7_offerOf_11 {G : Gx} {X : Cx} {h : PH} {k n : Nat} {Q : State → Prop} {S : List PV} {a0 : Nat} {a1 : Int} {a2 : Int} {a3 : Int} (C : CX_X7_offerOf G X) (q1 : pR a3 := by first | assumption | (unfold pR; omega)) (q2 : pR 4 := by first | assumption | (unfold pR; omega)) (kt : 4 ≤ a3 → PW G X 5 Q k n 47 [some (.inr a0), some (.inl a1), some (.inl a2), some (.inl a3), none] (S) h) (kf : ¬ 4 ≤ a3 → PW G X 5 Q k n 16 [some (.inr a0), some (.inl a1), some (.inl a2), some (.inl a3), none] (S) h) : PW G X 5 Q k n 11 [some (.inr a0), some (.inl a1), some (.inl a2), some (.inl a3), none] (S) h := by
  refine pw_iload_n C dX7_offerOf_11 rfl ?_
  refine pw_iconst C dX7_offerOf_12 ?_
  exact pw_icmp_ge C 47 dX7_offerOf_13 (by decide) q1 q2 kt kf
set_option maxRecDepth 20000 in
theorem B_X7_offerOf_16 {G : Gx} {X : Cx} {h : PH} {k n : Nat} {Q : State → Prop} {S : List PV} {a0 : Nat} {a1 : Int} {a2 : Int} {a3 : Int} {PQ : Option PV → PH → Prop} (C : CX_X7_offerOf G X) (hk0 : k ≤ 0 := by decide) (hn0 : n ≤ 0 := by decide) (t1 : ph_T h a0 = 7 := by first | assumption | rfl) (hM : CT_X7_layAll G X.2.1 [.inr a0, .inl a3, .inl a1] h PQ) (hS : S.length ≤ 8 := by decide) (kk : ∀ r h', PQ r h' → PW G X 5 Q k n 22 [some (.inr a0), some (.inl a1), some (.inl a2), some (.inl a3), none] (r.toList ++ S) h') : PW G X 5 Q k n 16 [some (.inr a0), some (.inl a1), some (.inl a2), some (.inl a3), none] (S) h := by
  refine pw_aload_n C dX7_offerOf_16 rfl ?_
  refine pw_iload_n C dX7_offerOf_17 rfl ?_
  refine pw_iload_n C dX7_offerOf_18 rfl ?_
  exact pw_callV C (na := 2) (As := [.inl a3, .inl a1]) (S := S) hM t1 (by decide) (hcl := by rfl) kw797 kw799 kw20 kw45 kw800 (by decide +kernel) rfl dX7_offerOf_19 (by decide) (by decide) hk0 hn0 (by first | exact hS | (simp only [List.length_cons]; omega)) kk
set_option maxRecDepth 20000 in
theorem B_X7_offerOf_22 {G : Gx} {X : Cx} {h : PH} {k n : Nat} {Q : State → Prop} {S : List PV} {a0 : Nat} {a1 : Int} {a2 : Int} {a3 : Int} {s0 : Int} {x2 : Int} (C : CX_X7_offerOf G X) (t1 : ph_T h a0 = 7 := by first | assumption | rfl) (e3 : ph_I h a0 11 = x2 := by first | assumption | rfl) (q4 : pR s0 := by first | assumption | (unfold pR; omega)) (q5 : pR x2 := by first | assumption | (unfold pR; omega)) (kt : s0 ≤ x2 → PW G X 5 Q k n 41 [some (.inr a0), some (.inl a1), some (.inl a2), some (.inl a3), some (.inl s0)] (S) h) (kf : ¬ s0 ≤ x2 → PW G X 5 Q k n 33 [some (.inr a0), some (.inl a1), some (.inl a2), some (.inl a3), some (.inl s0)] (S) h) : PW G X 5 Q k n 22 [some (.inr a0), some (.inl a1), some (.inl a2), some (.inl a3), none] (.inl s0 :: S) h := by
  refine pw_istore C dX7_offerOf_22 (by decide) ?_
  refine pw_iload C dX7_offerOf_24 rfl ?_
  refine pw_aload_n C dX7_offerOf_26 rfl ?_
  refine pw_getI C (t := 7) (f := 11) rfl inF7 rfl (by decide) (by decide) rfl kw689 dX7_offerOf_27 t1 ?_
  rw [e3]
  exact pw_icmp_le C 41 dX7_offerOf_30 (by decide) q4 q5 kt kf
set_option maxRecDepth 20000 in
theorem B_X7_offerOf_33 {G : Gx} {X : Cx} {h : PH} {k n : Nat} {Q : State → Prop} {S : List PV} {a0 : Nat} {a1 : Int} {a2 : Int} {a3 : Int} {a4 : Int} (C : CX_X7_offerOf G X) (t1 : ph_T h a0 = 7 := by first | assumption | rfl) (kk : PW G X 5 Q k n 41 [some (.inr a0), some (.inl a1), some (.inl a3), some (.inl a3), some (.inl a4)] (S) (ph_setI h a0 11 a4)) : PW G X 5 Q k n 33 [some (.inr a0), some (.inl a1), some (.inl a2), some (.inl a3), some (.inl a4)] (S) h := by
  refine pw_aload_n C dX7_offerOf_33 rfl ?_
  refine pw_iload C dX7_offerOf_34 rfl ?_
  refine pw_putI C (t := 7) (f := 11) rfl inF7 tyX7_ok nmX7 rfl (by decide) (by decide) rfl (Or.inl rfl) (Or.inl rfl) kw689 dX7_offerOf_36 t1 ?_
  refine pw_iload_n C dX7_offerOf_39 rfl ?_
  refine pw_istore_n C dX7_offerOf_40 (by decide) ?_
  exact kk
set_option maxRecDepth 20000 in
theorem B_X7_offerOf_41 {G : Gx} {X : Cx} {h : PH} {k n : Nat} {Q : State → Prop} {S : List PV} {a0 : Nat} {a1 : Int} {a2 : Int} {a3 : Int} {a4 : Int} (C : CX_X7_offerOf G X) (kk : PW G X 5 Q k n 11 [some (.inr a0), some (.inl a1), some (.inl a2), some (.inl (a3 + 1)), none] (S) h) : PW G X 5 Q k n 41 [some (.inr a0), some (.inl a1), some (.inl a2), some (.inl a3), some (.inl a4)] (S) h := by
  refine pw_iinc C dX7_offerOf_41 rfl (by decide) ?_
  refine pw_goto C 11 dX7_offerOf_44 (by decide) ?_
  exact pw_weak [true, true, true, true, false] kk
set_option maxRecDepth 20000 in
theorem B_X7_offerOf_47 {G : Gx} {X : Cx} {h : PH} {k n : Nat} {a0 : Nat} {a1 : Int} {a2 : Int} {a3 : Int} {PQ : Option PV → PH → Prop} (C : CX_X7_offerOf G X) (hq : PQ (some (.inl a2)) h) : PW G X 5 (pw_E G X PQ k n) k n 47 [some (.inr a0), some (.inl a1), some (.inl a2), some (.inl a3), none] [] h := by
  refine pw_iload_n C dX7_offerOf_47 rfl ?_
  exact pw_ireturn C dX7_offerOf_48 hq
theorem dX7_offer_0 : decode cX7_offer 0 = .ok (.aload_n 0, 1) := by decide +kernel
theorem dX7_offer_1 : decode cX7_offer 1 = .ok (.iload_n 1, 1) := by decide +kernel
theorem dX7_offer_2 : decode cX7_offer 2 = .ok (.invokevirtual 37, 3) := by decide +kernel
theorem dX7_offer_5 : decode cX7_offer 5 = .ok (.istore_n 3, 1) := by decide +kernel
theorem dX7_offer_6 : decode cX7_offer 6 = .ok (.iload_n 3, 1) := by decide +kernel
theorem dX7_offer_7 : decode cX7_offer 7 = .ok (.ifCond .ge 5, 3) := by decide +kernel
theorem dX7_offer_10 : decode cX7_offer 10 = .ok (.iconst (-1), 1) := by decide +kernel
theorem dX7_offer_11 : decode cX7_offer 11 = .ok (.ireturn, 1) := by decide +kernel
theorem dX7_offer_12 : decode cX7_offer 12 = .ok (.iload_n 2, 1) := by decide +kernel
theorem dX7_offer_13 : decode cX7_offer 13 = .ok (.iconst 0, 1) := by decide +kernel
theorem dX7_offer_14 : decode cX7_offer 14 = .ok (.iconst 1, 1) := by decide +kernel
theorem dX7_offer_15 : decode cX7_offer 15 = .ok (.invokestatic 33, 3) := by decide +kernel
theorem dX7_offer_18 : decode cX7_offer 18 = .ok (.ifCond .ne 6, 3) := by decide +kernel
theorem dX7_offer_21 : decode cX7_offer 21 = .ok (.bipush (-2), 2) := by decide +kernel
theorem dX7_offer_23 : decode cX7_offer 23 = .ok (.ireturn, 1) := by decide +kernel
theorem dX7_offer_24 : decode cX7_offer 24 = .ok (.aload_n 0, 1) := by decide +kernel
theorem dX7_offer_25 : decode cX7_offer 25 = .ok (.iload_n 3, 1) := by decide +kernel
theorem dX7_offer_26 : decode cX7_offer 26 = .ok (.invokevirtual 108, 3) := by decide +kernel
theorem dX7_offer_29 : decode cX7_offer 29 = .ok (.ifCond .ne 6, 3) := by decide +kernel
theorem dX7_offer_32 : decode cX7_offer 32 = .ok (.bipush (-3), 2) := by decide +kernel
theorem dX7_offer_34 : decode cX7_offer 34 = .ok (.ireturn, 1) := by decide +kernel
theorem dX7_offer_35 : decode cX7_offer 35 = .ok (.aload_n 0, 1) := by decide +kernel
theorem dX7_offer_36 : decode cX7_offer 36 = .ok (.iload_n 3, 1) := by decide +kernel
theorem dX7_offer_37 : decode cX7_offer 37 = .ok (.invokevirtual 128, 3) := by decide +kernel
theorem dX7_offer_40 : decode cX7_offer 40 = .ok (.istore 4, 2) := by decide +kernel
theorem dX7_offer_42 : decode cX7_offer 42 = .ok (.iload 4, 2) := by decide +kernel
theorem dX7_offer_44 : decode cX7_offer 44 = .ok (.ifCond .lt 7, 3) := by decide +kernel
theorem dX7_offer_47 : decode cX7_offer 47 = .ok (.iload_n 2, 1) := by decide +kernel
theorem dX7_offer_48 : decode cX7_offer 48 = .ok (.ifCond .ne 8, 3) := by decide +kernel
theorem dX7_offer_51 : decode cX7_offer 51 = .ok (.iload 4, 2) := by decide +kernel
theorem dX7_offer_53 : decode cX7_offer 53 = .ok (.goto 10, 3) := by decide +kernel
theorem dX7_offer_56 : decode cX7_offer 56 = .ok (.aload_n 0, 1) := by decide +kernel
theorem dX7_offer_57 : decode cX7_offer 57 = .ok (.getfield 125, 3) := by decide +kernel
theorem dX7_offer_60 : decode cX7_offer 60 = .ok (.invokestatic 97, 3) := by decide +kernel
theorem dX7_offer_63 : decode cX7_offer 63 = .ok (.ireturn, 1) := by decide +kernel
set_option maxRecDepth 20000 in
theorem B_X7_offer_0 {G : Gx} {X : Cx} {h : PH} {k n : Nat} {Q : State → Prop} {S : List PV} {a0 : Nat} {a1 : Int} {a2 : Int} {PQ : Option PV → PH → Prop} (C : CX_X7_offer G X) (hk0 : k ≤ 0 := by decide) (hn0 : n ≤ 0 := by decide) (t1 : ph_T h a0 = 7 := by first | assumption | rfl) (hM : CT_X7_passOf G X.2.1 [.inr a0, .inl a1] h PQ) (hS : S.length ≤ 8 := by decide) (kk : ∀ r h', PQ r h' → PW G X 5 Q k n 5 [some (.inr a0), some (.inl a1), some (.inl a2), none, none] (r.toList ++ S) h') : PW G X 5 Q k n 0 [some (.inr a0), some (.inl a1), some (.inl a2), none, none] (S) h := by
  refine pw_aload_n C dX7_offer_0 rfl ?_
  refine pw_iload_n C dX7_offer_1 rfl ?_
  exact pw_callV C (na := 1) (As := [.inl a1]) (S := S) hM t1 (by decide) (hcl := by rfl) kw722 kw724 kw17 kw45 kw725 (by decide +kernel) rfl dX7_offer_2 (by decide) (by decide) hk0 hn0 (by first | exact hS | (simp only [List.length_cons]; omega)) kk
set_option maxRecDepth 20000 in
theorem B_X7_offer_5 {G : Gx} {X : Cx} {h : PH} {k n : Nat} {Q : State → Prop} {S : List PV} {a0 : Nat} {a1 : Int} {a2 : Int} {s0 : Int} (C : CX_X7_offer G X) (q1 : pR s0 := by first | assumption | (unfold pR; omega)) (kt : 0 ≤ s0 → PW G X 5 Q k n 12 [some (.inr a0), some (.inl a1), some (.inl a2), some (.inl s0), none] (S) h) (kf : ¬ 0 ≤ s0 → PW G X 5 Q k n 10 [some (.inr a0), some (.inl a1), some (.inl a2), some (.inl s0), none] (S) h) : PW G X 5 Q k n 5 [some (.inr a0), some (.inl a1), some (.inl a2), none, none] (.inl s0 :: S) h := by
  refine pw_istore_n C dX7_offer_5 (by decide) ?_
  refine pw_iload_n C dX7_offer_6 rfl ?_
  exact pw_if_ge C 12 dX7_offer_7 (by decide) q1 kt kf
set_option maxRecDepth 20000 in
theorem B_X7_offer_10 {G : Gx} {X : Cx} {h : PH} {k n : Nat} {a0 : Nat} {a1 : Int} {a2 : Int} {a3 : Int} {PQ : Option PV → PH → Prop} (C : CX_X7_offer G X) (hq : PQ (some (.inl (-1))) h) : PW G X 5 (pw_E G X PQ k n) k n 10 [some (.inr a0), some (.inl a1), some (.inl a2), some (.inl a3), none] [] h := by
  refine pw_iconst C dX7_offer_10 ?_
  exact pw_ireturn C dX7_offer_11 hq
set_option maxRecDepth 20000 in
theorem B_X7_offer_12 {G : Gx} {X : Cx} {h : PH} {k n : Nat} {Q : State → Prop} {S : List PV} {a0 : Nat} {a1 : Int} {a2 : Int} {a3 : Int} {PQ : Option PV → PH → Prop} (C : CX_X7_offer G X) (hk0 : k ≤ 0 := by decide) (hn0 : n ≤ 0 := by decide) (hM : CT_X7_in G X.2.1 [.inl a2, .inl 0, .inl 1] h PQ) (hS : S.length ≤ 8 := by decide) (kk : ∀ r h', PQ r h' → PW G X 5 Q k n 18 [some (.inr a0), some (.inl a1), some (.inl a2), some (.inl a3), none] (r.toList ++ S) h') : PW G X 5 Q k n 12 [some (.inr a0), some (.inl a1), some (.inl a2), some (.inl a3), none] (S) h := by
  refine pw_iload_n C dX7_offer_12 rfl ?_
  refine pw_iconst C dX7_offer_13 ?_
  refine pw_iconst C dX7_offer_14 ?_
  exact pw_callS C (na := 3) (As := [.inl a2, .inl 0, .inl 1]) (S := S) hM kw719 kw720 kw45 kw721 (by decide +kernel) rfl dX7_offer_15 (by decide) (by decide) hk0 hn0 (by first | exact hS | (simp only [List.length_cons]; omega)) kk
set_option maxRecDepth 20000 in
theorem B_X7_offer_18 {G : Gx} {X : Cx} {h : PH} {k n : Nat} {Q : State → Prop} {S : List PV} {a0 : Nat} {a1 : Int} {a2 : Int} {a3 : Int} {s0 : Int} (C : CX_X7_offer G X) (q1 : pR s0 := by first | assumption | (unfold pR; omega)) (kt : ¬ s0 = 0 → PW G X 5 Q k n 24 [some (.inr a0), some (.inl a1), some (.inl a2), some (.inl a3), none] (S) h) (kf : s0 = 0 → PW G X 5 Q k n 21 [some (.inr a0), some (.inl a1), some (.inl a2), some (.inl a3), none] (S) h) : PW G X 5 Q k n 18 [some (.inr a0), some (.inl a1), some (.inl a2), some (.inl a3), none] (.inl s0 :: S) h := by
  exact pw_if_ne C 24 dX7_offer_18 (by decide) q1 kt kf
set_option maxRecDepth 20000 in
theorem B_X7_offer_21 {G : Gx} {X : Cx} {h : PH} {k n : Nat} {a0 : Nat} {a1 : Int} {a2 : Int} {a3 : Int} {PQ : Option PV → PH → Prop} (C : CX_X7_offer G X) (hq : PQ (some (.inl (-2))) h) : PW G X 5 (pw_E G X PQ k n) k n 21 [some (.inr a0), some (.inl a1), some (.inl a2), some (.inl a3), none] [] h := by
  refine pw_bipush C dX7_offer_21 rfl ?_
  exact pw_ireturn C dX7_offer_23 hq
set_option maxRecDepth 20000 in
theorem B_X7_offer_24 {G : Gx} {X : Cx} {h : PH} {k n : Nat} {Q : State → Prop} {S : List PV} {a0 : Nat} {a1 : Int} {a2 : Int} {a3 : Int} {PQ : Option PV → PH → Prop} (C : CX_X7_offer G X) (hk0 : k ≤ 0 := by decide) (hn0 : n ≤ 0 := by decide) (t1 : ph_T h a0 = 7 := by first | assumption | rfl) (hM : CT_X7_isOpen G X.2.1 [.inr a0, .inl a3] h PQ) (hS : S.length ≤ 8 := by decide) (kk : ∀ r h', PQ r h' → PW G X 5 Q k n 29 [some (.inr a0), some (.inl a1), some (.inl a2), some (.inl a3), none] (r.toList ++ S) h') : PW G X 5 Q k n 24 [some (.inr a0), some (.inl a1), some (.inl a2), some (.inl a3), none] (S) h := by
  refine pw_aload_n C dX7_offer_24 rfl ?_
  refine pw_iload_n C dX7_offer_25 rfl ?_
  exact pw_callV C (na := 1) (As := [.inl a3]) (S := S) hM t1 (by decide) (hcl := by rfl) kw793 kw795 kw19 kw45 kw796 (by decide +kernel) rfl dX7_offer_26 (by decide) (by decide) hk0 hn0 (by first | exact hS | (simp only [List.length_cons]; omega)) kk
set_option maxRecDepth 20000 in
theorem B_X7_offer_29 {G : Gx} {X : Cx} {h : PH} {k n : Nat} {Q : State → Prop} {S : List PV} {a0 : Nat} {a1 : Int} {a2 : Int} {a3 : Int} {s0 : Int} (C : CX_X7_offer G X) (q1 : pR s0 := by first | assumption | (unfold pR; omega)) (kt : ¬ s0 = 0 → PW G X 5 Q k n 35 [some (.inr a0), some (.inl a1), some (.inl a2), some (.inl a3), none] (S) h) (kf : s0 = 0 → PW G X 5 Q k n 32 [some (.inr a0), some (.inl a1), some (.inl a2), some (.inl a3), none] (S) h) : PW G X 5 Q k n 29 [some (.inr a0), some (.inl a1), some (.inl a2), some (.inl a3), none] (.inl s0 :: S) h := by
  exact pw_if_ne C 35 dX7_offer_29 (by decide) q1 kt kf
set_option maxRecDepth 20000 in
theorem B_X7_offer_32 {G : Gx} {X : Cx} {h : PH} {k n : Nat} {a0 : Nat} {a1 : Int} {a2 : Int} {a3 : Int} {PQ : Option PV → PH → Prop} (C : CX_X7_offer G X) (hq : PQ (some (.inl (-3))) h) : PW G X 5 (pw_E G X PQ k n) k n 32 [some (.inr a0), some (.inl a1), some (.inl a2), some (.inl a3), none] [] h := by
  refine pw_bipush C dX7_offer_32 rfl ?_
  exact pw_ireturn C dX7_offer_34 hq
set_option maxRecDepth 20000 in
theorem B_X7_offer_35 {G : Gx} {X : Cx} {h : PH} {k n : Nat} {Q : State → Prop} {S : List PV} {a0 : Nat} {a1 : Int} {a2 : Int} {a3 : Int} {PQ : Option PV → PH → Prop} (C : CX_X7_offer G X) (hk0 : k ≤ 0 := by decide) (hn0 : n ≤ 0 := by decide) (t1 : ph_T h a0 = 7 := by first | assumption | rfl) (hM : CT_X7_offerOf G X.2.1 [.inr a0, .inl a3] h PQ) (hS : S.length ≤ 8 := by decide) (kk : ∀ r h', PQ r h' → PW G X 5 Q k n 40 [some (.inr a0), some (.inl a1), some (.inl a2), some (.inl a3), none] (r.toList ++ S) h') : PW G X 5 Q k n 35 [some (.inr a0), some (.inl a1), some (.inl a2), some (.inl a3), none] (S) h := by
  refine pw_aload_n C dX7_offer_35 rfl ?_
  refine pw_iload_n C dX7_offer_36 rfl ?_
  exact pw_callV C (na := 1) (As := [.inl a3]) (S := S) hM t1 (by decide) (hcl := by rfl) kw855 kw857 kw30 kw45 kw858 (by decide +kernel) rfl dX7_offer_37 (by decide) (by decide) hk0 hn0 (by first | exact hS | (simp only [List.length_cons]; omega)) kk
set_option maxRecDepth 20000 in
theorem B_X7_offer_40 {G : Gx} {X : Cx} {h : PH} {k n : Nat} {Q : State → Prop} {S : List PV} {a0 : Nat} {a1 : Int} {a2 : Int} {a3 : Int} {s0 : Int} (C : CX_X7_offer G X) (q1 : pR s0 := by first | assumption | (unfold pR; omega)) (kt : s0 < 0 → PW G X 5 Q k n 51 [some (.inr a0), some (.inl a1), some (.inl a2), some (.inl a3), some (.inl s0)] (S) h) (kf : ¬ s0 < 0 → PW G X 5 Q k n 47 [some (.inr a0), some (.inl a1), some (.inl a2), some (.inl a3), some (.inl s0)] (S) h) : PW G X 5 Q k n 40 [some (.inr a0), some (.inl a1), some (.inl a2), some (.inl a3), none] (.inl s0 :: S) h := by
  refine pw_istore C dX7_offer_40 (by decide) ?_
  refine pw_iload C dX7_offer_42 rfl ?_
  exact pw_if_lt C 51 dX7_offer_44 (by decide) q1 kt kf
set_option maxRecDepth 20000 in
theorem B_X7_offer_47 {G : Gx} {X : Cx} {h : PH} {k n : Nat} {Q : State → Prop} {S : List PV} {a0 : Nat} {a1 : Int} {a2 : Int} {a3 : Int} {a4 : Int} (C : CX_X7_offer G X) (q1 : pR a2 := by first | assumption | (unfold pR; omega)) (kt : ¬ a2 = 0 → PW G X 5 Q k n 56 [some (.inr a0), some (.inl a1), some (.inl a2), some (.inl a3), some (.inl a4)] (S) h) (kf : a2 = 0 → PW G X 5 Q k n 51 [some (.inr a0), some (.inl a1), some (.inl a2), some (.inl a3), some (.inl a4)] (S) h) : PW G X 5 Q k n 47 [some (.inr a0), some (.inl a1), some (.inl a2), some (.inl a3), some (.inl a4)] (S) h := by
  refine pw_iload_n C dX7_offer_47 rfl ?_
  exact pw_if_ne C 56 dX7_offer_48 (by decide) q1 kt kf
set_option maxRecDepth 20000 in
theorem B_X7_offer_51 {G : Gx} {X : Cx} {h : PH} {k n : Nat} {Q : State → Prop} {S : List PV} {a0 : Nat} {a1 : Int} {a2 : Int} {a3 : Int} {a4 : Int} (C : CX_X7_offer G X) (kk : PW G X 5 Q k n 63 [some (.inr a0), some (.inl a1), some (.inl a2), some (.inl a3), some (.inl a4)] (.inl a4 :: S) h) : PW G X 5 Q k n 51 [some (.inr a0), some (.inl a1), some (.inl a2), some (.inl a3), some (.inl a4)] (S) h := by
  refine pw_iload C dX7_offer_51 rfl ?_
  refine pw_goto C 63 dX7_offer_53 (by decide) ?_
  exact kk
set_option maxRecDepth 20000 in
theorem B_X7_offer_56 {G : Gx} {X : Cx} {h : PH} {k n : Nat} {Q : State → Prop} {S : List PV} {a0 : Nat} {a1 : Int} {a2 : Int} {a3 : Int} {a4 : Int} {x2 : Int} {PQ : Option PV → PH → Prop} (C : CX_X7_offer G X) (hk0 : k ≤ 0 := by decide) (hn0 : n ≤ 0 := by decide) (t1 : ph_T h a0 = 7 := by first | assumption | rfl) (e3 : ph_I h a0 11 = x2 := by first | assumption | rfl) (hM : CT_X7_seenOf G X.2.1 [.inl x2] h PQ) (hS : S.length ≤ 8 := by decide) (kk : ∀ r h', PQ r h' → PW G X 5 Q k n 63 [some (.inr a0), some (.inl a1), some (.inl a2), some (.inl a3), some (.inl a4)] (r.toList ++ S) h') : PW G X 5 Q k n 56 [some (.inr a0), some (.inl a1), some (.inl a2), some (.inl a3), some (.inl a4)] (S) h := by
  refine pw_aload_n C dX7_offer_56 rfl ?_
  refine pw_getI C (t := 7) (f := 11) rfl inF7 rfl (by decide) (by decide) rfl kw689 dX7_offer_57 t1 ?_
  rw [e3]
  exact pw_callS C (na := 1) (As := [.inl x2]) (S := S) hM kw837 kw838 kw45 kw839 (by decide +kernel) rfl dX7_offer_60 (by decide) (by decide) hk0 hn0 (by first | exact hS | (simp only [List.length_cons]; omega)) kk
set_option maxRecDepth 20000 in
theorem B_X7_offer_63 {G : Gx} {X : Cx} {h : PH} {k n : Nat} {a0 : Nat} {a1 : Int} {a2 : Int} {a3 : Int} {a4 : Int} {s0 : Int} {PQ : Option PV → PH → Prop} (C : CX_X7_offer G X) (hq : PQ (some (.inl s0)) h) : PW G X 5 (pw_E G X PQ k n) k n 63 [some (.inr a0), some (.inl a1), some (.inl a2), some (.inl a3), some (.inl a4)] [.inl s0] h := by
  exact pw_ireturn C dX7_offer_63 hq
theorem dX7_seenBy_0 : decode cX7_seenBy 0 = .ok (.iload_n 3, 1) := by decide +kernel
theorem dX7_seenBy_1 : decode cX7_seenBy 1 = .ok (.iload 4, 2) := by decide +kernel
theorem dX7_seenBy_3 : decode cX7_seenBy 3 = .ok (.if_icmp .lt 5, 3) := by decide +kernel
theorem dX7_seenBy_6 : decode cX7_seenBy 6 = .ok (.iconst 0, 1) := by decide +kernel
theorem dX7_seenBy_7 : decode cX7_seenBy 7 = .ok (.ireturn, 1) := by decide +kernel
theorem dX7_seenBy_8 : decode cX7_seenBy 8 = .ok (.aload_n 0, 1) := by decide +kernel
theorem dX7_seenBy_9 : decode cX7_seenBy 9 = .ok (.iload_n 1, 1) := by decide +kernel
theorem dX7_seenBy_10 : decode cX7_seenBy 10 = .ok (.iload_n 2, 1) := by decide +kernel
theorem dX7_seenBy_11 : decode cX7_seenBy 11 = .ok (.iload_n 3, 1) := by decide +kernel
theorem dX7_seenBy_12 : decode cX7_seenBy 12 = .ok (.iload 4, 2) := by decide +kernel
theorem dX7_seenBy_14 : decode cX7_seenBy 14 = .ok (.invokevirtual 104, 3) := by decide +kernel
theorem dX7_seenBy_17 : decode cX7_seenBy 17 = .ok (.istore 5, 2) := by decide +kernel
theorem dX7_seenBy_19 : decode cX7_seenBy 19 = .ok (.iload 5, 2) := by decide +kernel
theorem dX7_seenBy_21 : decode cX7_seenBy 21 = .ok (.ldc 74, 2) := by decide +kernel
theorem dX7_seenBy_23 : decode cX7_seenBy 23 = .ok (.if_icmp .ne 7, 3) := by decide +kernel
theorem dX7_seenBy_26 : decode cX7_seenBy 26 = .ok (.iconst 0, 1) := by decide +kernel
theorem dX7_seenBy_27 : decode cX7_seenBy 27 = .ok (.goto 8, 3) := by decide +kernel
theorem dX7_seenBy_30 : decode cX7_seenBy 30 = .ok (.iload 5, 2) := by decide +kernel
theorem dX7_seenBy_32 : decode cX7_seenBy 32 = .ok (.invokestatic 97, 3) := by decide +kernel
theorem dX7_seenBy_35 : decode cX7_seenBy 35 = .ok (.ireturn, 1) := by decide +kernel
set_option maxRecDepth 20000 in
theorem B_X7_seenBy_0 {G : Gx} {X : Cx} {h : PH} {k n : Nat} {Q : State → Prop} {S : List PV} {a0 : Nat} {a1 : Int} {a2 : Int} {a3 : Int} {a4 : Int} (C : CX_X7_seenBy G X) (q1 : pR a3 := by first | assumption | (unfold pR; omega)) (q2 : pR a4 := by first | assumption | (unfold pR; omega)) (kt : a3 < a4 → PW G X 6 Q k n 8 [some (.inr a0), some (.inl a1), some (.inl a2), some (.inl a3), some (.inl a4), none] (S) h) (kf : ¬ a3 < a4 → PW G X 6 Q k n 6 [some (.inr a0), some (.inl a1), some (.inl a2), some (.inl a3), some (.inl a4), none] (S) h) : PW G X 6 Q k n 0 [some (.inr a0), some (.inl a1), some (.inl a2), some (.inl a3), some (.inl a4), none] (S) h := by
  refine pw_iload_n C dX7_seenBy_0 rfl ?_
  refine pw_iload C dX7_seenBy_1 rfl ?_
  exact pw_icmp_lt C 8 dX7_seenBy_3 (by decide) q1 q2 kt kf
set_option maxRecDepth 20000 in
theorem B_X7_seenBy_6 {G : Gx} {X : Cx} {h : PH} {k n : Nat} {a0 : Nat} {a1 : Int} {a2 : Int} {a3 : Int} {a4 : Int} {PQ : Option PV → PH → Prop} (C : CX_X7_seenBy G X) (hq : PQ (some (.inl 0)) h) : PW G X 6 (pw_E G X PQ k n) k n 6 [some (.inr a0), some (.inl a1), some (.inl a2), some (.inl a3), some (.inl a4), none] [] h := by
  refine pw_iconst C dX7_seenBy_6 ?_
  exact pw_ireturn C dX7_seenBy_7 hq
set_option maxRecDepth 20000 in
theorem B_X7_seenBy_8 {G : Gx} {X : Cx} {h : PH} {k n : Nat} {Q : State → Prop} {S : List PV} {a0 : Nat} {a1 : Int} {a2 : Int} {a3 : Int} {a4 : Int} {PQ : Option PV → PH → Prop} (C : CX_X7_seenBy G X) (hk0 : k ≤ 0 := by decide) (hn0 : n ≤ 0 := by decide) (t1 : ph_T h a0 = 7 := by first | assumption | rfl) (hM : CT_X7_lay G X.2.1 [.inr a0, .inl a1, .inl a2, .inl a3, .inl a4] h PQ) (hS : S.length ≤ 8 := by decide) (kk : ∀ r h', PQ r h' → PW G X 6 Q k n 17 [some (.inr a0), some (.inl a1), some (.inl a2), some (.inl a3), some (.inl a4), none] (r.toList ++ S) h') : PW G X 6 Q k n 8 [some (.inr a0), some (.inl a1), some (.inl a2), some (.inl a3), some (.inl a4), none] (S) h := by
  refine pw_aload_n C dX7_seenBy_8 rfl ?_
  refine pw_iload_n C dX7_seenBy_9 rfl ?_
  refine pw_iload_n C dX7_seenBy_10 rfl ?_
  refine pw_iload_n C dX7_seenBy_11 rfl ?_
  refine pw_iload C dX7_seenBy_12 rfl ?_
  exact pw_callV C (na := 4) (As := [.inl a1, .inl a2, .inl a3, .inl a4]) (S := S) hM t1 (by decide) (hcl := by rfl) kw801 kw803 kw21 kw45 kw804 (by decide +kernel) rfl dX7_seenBy_14 (by decide) (by decide) hk0 hn0 (by first | exact hS | (simp only [List.length_cons]; omega)) kk
set_option maxRecDepth 20000 in
theorem B_X7_seenBy_17 {G : Gx} {X : Cx} {h : PH} {k n : Nat} {Q : State → Prop} {S : List PV} {a0 : Nat} {a1 : Int} {a2 : Int} {a3 : Int} {a4 : Int} {s0 : Int} (C : CX_X7_seenBy G X) (q1 : pR s0 := by first | assumption | (unfold pR; omega)) (q2 : pR (-1000000) := by first | assumption | (unfold pR; omega)) (kt : ¬ s0 = (-1000000) → PW G X 6 Q k n 30 [some (.inr a0), some (.inl a1), some (.inl a2), some (.inl a3), some (.inl a4), some (.inl s0)] (S) h) (kf : s0 = (-1000000) → PW G X 6 Q k n 26 [some (.inr a0), some (.inl a1), some (.inl a2), some (.inl a3), some (.inl a4), some (.inl s0)] (S) h) : PW G X 6 Q k n 17 [some (.inr a0), some (.inl a1), some (.inl a2), some (.inl a3), some (.inl a4), none] (.inl s0 :: S) h := by
  refine pw_istore C dX7_seenBy_17 (by decide) ?_
  refine pw_iload C dX7_seenBy_19 rfl ?_
  refine pw_ldc C (z := -1000000) kw809 rfl dX7_seenBy_21 ?_
  exact pw_icmp_ne C 30 dX7_seenBy_23 (by decide) q1 q2 kt kf
set_option maxRecDepth 20000 in
theorem B_X7_seenBy_26 {G : Gx} {X : Cx} {h : PH} {k n : Nat} {Q : State → Prop} {S : List PV} {a0 : Nat} {a1 : Int} {a2 : Int} {a3 : Int} {a4 : Int} {a5 : Int} (C : CX_X7_seenBy G X) (kk : PW G X 6 Q k n 35 [some (.inr a0), some (.inl a1), some (.inl a2), some (.inl a3), some (.inl a4), some (.inl a5)] (.inl 0 :: S) h) : PW G X 6 Q k n 26 [some (.inr a0), some (.inl a1), some (.inl a2), some (.inl a3), some (.inl a4), some (.inl a5)] (S) h := by
  refine pw_iconst C dX7_seenBy_26 ?_
  refine pw_goto C 35 dX7_seenBy_27 (by decide) ?_
  exact kk
set_option maxRecDepth 20000 in
theorem B_X7_seenBy_30 {G : Gx} {X : Cx} {h : PH} {k n : Nat} {Q : State → Prop} {S : List PV} {a0 : Nat} {a1 : Int} {a2 : Int} {a3 : Int} {a4 : Int} {a5 : Int} {PQ : Option PV → PH → Prop} (C : CX_X7_seenBy G X) (hk0 : k ≤ 0 := by decide) (hn0 : n ≤ 0 := by decide) (hM : CT_X7_seenOf G X.2.1 [.inl a5] h PQ) (hS : S.length ≤ 8 := by decide) (kk : ∀ r h', PQ r h' → PW G X 6 Q k n 35 [some (.inr a0), some (.inl a1), some (.inl a2), some (.inl a3), some (.inl a4), some (.inl a5)] (r.toList ++ S) h') : PW G X 6 Q k n 30 [some (.inr a0), some (.inl a1), some (.inl a2), some (.inl a3), some (.inl a4), some (.inl a5)] (S) h := by
  refine pw_iload C dX7_seenBy_30 rfl ?_
  exact pw_callS C (na := 1) (As := [.inl a5]) (S := S) hM kw837 kw838 kw45 kw839 (by decide +kernel) rfl dX7_seenBy_32 (by decide) (by decide) hk0 hn0 (by first | exact hS | (simp only [List.length_cons]; omega)) kk
set_option maxRecDepth 20000 in
theorem B_X7_seenBy_35 {G : Gx} {X : Cx} {h : PH} {k n : Nat} {a0 : Nat} {a1 : Int} {a2 : Int} {a3 : Int} {a4 : Int} {a5 : Int} {s0 : Int} {PQ : Option PV → PH → Prop} (C : CX_X7_seenBy G X) (hq : PQ (some (.inl s0)) h) : PW G X 6 (pw_E G X PQ k n) k n 35 [some (.inr a0), some (.inl a1), some (.inl a2), some (.inl a3), some (.inl a4), some (.inl a5)] [.inl s0] h := by
  exact pw_ireturn C dX7_seenBy_35 hq
theorem dX7_share_0 : decode cX7_share 0 = .ok (.aload_n 0, 1) := by decide +kernel
theorem dX7_share_1 : decode cX7_share 1 = .ok (.iload_n 1, 1) := by decide +kernel
theorem dX7_share_2 : decode cX7_share 2 = .ok (.invokevirtual 37, 3) := by decide +kernel
theorem dX7_share_5 : decode cX7_share 5 = .ok (.istore 5, 2) := by decide +kernel
theorem dX7_share_7 : decode cX7_share 7 = .ok (.iload 5, 2) := by decide +kernel
theorem dX7_share_9 : decode cX7_share 9 = .ok (.ifCond .lt 17, 3) := by decide +kernel
theorem dX7_share_12 : decode cX7_share 12 = .ok (.iload_n 2, 1) := by decide +kernel
theorem dX7_share_13 : decode cX7_share 13 = .ok (.invokestatic 45, 3) := by decide +kernel
theorem dX7_share_16 : decode cX7_share 16 = .ok (.ifCond .eq 10, 3) := by decide +kernel
theorem dX7_share_19 : decode cX7_share 19 = .ok (.iload_n 3, 1) := by decide +kernel
theorem dX7_share_20 : decode cX7_share 20 = .ok (.invokestatic 45, 3) := by decide +kernel
theorem dX7_share_23 : decode cX7_share 23 = .ok (.ifCond .ne 5, 3) := by decide +kernel
theorem dX7_share_26 : decode cX7_share 26 = .ok (.iconst (-1), 1) := by decide +kernel
theorem dX7_share_27 : decode cX7_share 27 = .ok (.ireturn, 1) := by decide +kernel
theorem dX7_share_28 : decode cX7_share 28 = .ok (.iload 4, 2) := by decide +kernel
theorem dX7_share_30 : decode cX7_share 30 = .ok (.iconst 0, 1) := by decide +kernel
theorem dX7_share_31 : decode cX7_share 31 = .ok (.iconst 1, 1) := by decide +kernel
theorem dX7_share_32 : decode cX7_share 32 = .ok (.invokestatic 33, 3) := by decide +kernel
theorem dX7_share_35 : decode cX7_share 35 = .ok (.ifCond .eq 8, 3) := by decide +kernel
theorem dX7_share_38 : decode cX7_share 38 = .ok (.iload_n 2, 1) := by decide +kernel
theorem dX7_share_39 : decode cX7_share 39 = .ok (.iload_n 3, 1) := by decide +kernel
theorem dX7_share_40 : decode cX7_share 40 = .ok (.if_icmp .ne 6, 3) := by decide +kernel
theorem dX7_share_43 : decode cX7_share 43 = .ok (.bipush (-2), 2) := by decide +kernel
theorem dX7_share_45 : decode cX7_share 45 = .ok (.ireturn, 1) := by decide +kernel
theorem dX7_share_46 : decode cX7_share 46 = .ok (.aload_n 0, 1) := by decide +kernel
theorem dX7_share_47 : decode cX7_share 47 = .ok (.iload 5, 2) := by decide +kernel
theorem dX7_share_49 : decode cX7_share 49 = .ok (.invokevirtual 108, 3) := by decide +kernel
theorem dX7_share_52 : decode cX7_share 52 = .ok (.ifCond .ne 6, 3) := by decide +kernel
theorem dX7_share_55 : decode cX7_share 55 = .ok (.bipush (-3), 2) := by decide +kernel
theorem dX7_share_57 : decode cX7_share 57 = .ok (.ireturn, 1) := by decide +kernel
theorem dX7_share_58 : decode cX7_share 58 = .ok (.iconst (-1), 1) := by decide +kernel
theorem dX7_share_59 : decode cX7_share 59 = .ok (.istore 6, 2) := by decide +kernel
theorem dX7_share_61 : decode cX7_share 61 = .ok (.iconst 0, 1) := by decide +kernel
theorem dX7_share_62 : decode cX7_share 62 = .ok (.istore 7, 2) := by decide +kernel
theorem dX7_share_64 : decode cX7_share 64 = .ok (.iconst 0, 1) := by decide +kernel
theorem dX7_share_65 : decode cX7_share 65 = .ok (.istore 8, 2) := by decide +kernel
theorem dX7_share_67 : decode cX7_share 67 = .ok (.iload 8, 2) := by decide +kernel
theorem dX7_share_69 : decode cX7_share 69 = .ok (.aload_n 0, 1) := by decide +kernel
theorem dX7_share_70 : decode cX7_share 70 = .ok (.getfield 7, 3) := by decide +kernel
theorem dX7_share_73 : decode cX7_share 73 = .ok (.bipush 16, 2) := by decide +kernel
theorem dX7_share_75 : decode cX7_share 75 = .ok (.iload 5, 2) := by decide +kernel
theorem dX7_share_77 : decode cX7_share 77 = .ok (.iadd, 1) := by decide +kernel
theorem dX7_share_78 : decode cX7_share 78 = .ok (.iaload, 1) := by decide +kernel
theorem dX7_share_79 : decode cX7_share 79 = .ok (.if_icmp .gt 73, 3) := by decide +kernel
theorem dX7_share_82 : decode cX7_share 82 = .ok (.aload_n 0, 1) := by decide +kernel
theorem dX7_share_83 : decode cX7_share 83 = .ok (.iload_n 2, 1) := by decide +kernel
theorem dX7_share_84 : decode cX7_share 84 = .ok (.iload 5, 2) := by decide +kernel
theorem dX7_share_86 : decode cX7_share 86 = .ok (.iconst 0, 1) := by decide +kernel
theorem dX7_share_87 : decode cX7_share 87 = .ok (.iload 8, 2) := by decide +kernel
theorem dX7_share_89 : decode cX7_share 89 = .ok (.invokevirtual 131, 3) := by decide +kernel
theorem dX7_share_92 : decode cX7_share 92 = .ok (.aload_n 0, 1) := by decide +kernel
theorem dX7_share_93 : decode cX7_share 93 = .ok (.iload_n 3, 1) := by decide +kernel
theorem dX7_share_94 : decode cX7_share 94 = .ok (.iload 5, 2) := by decide +kernel
theorem dX7_share_96 : decode cX7_share 96 = .ok (.iload 8, 2) := by decide +kernel
theorem dX7_share_98 : decode cX7_share 98 = .ok (.aload_n 0, 1) := by decide +kernel
theorem dX7_share_99 : decode cX7_share 99 = .ok (.getfield 7, 3) := by decide +kernel
theorem dX7_share_102 : decode cX7_share 102 = .ok (.bipush 16, 2) := by decide +kernel
theorem dX7_share_104 : decode cX7_share 104 = .ok (.iload 5, 2) := by decide +kernel
theorem dX7_share_106 : decode cX7_share 106 = .ok (.iadd, 1) := by decide +kernel
theorem dX7_share_107 : decode cX7_share 107 = .ok (.iaload, 1) := by decide +kernel
theorem dX7_share_108 : decode cX7_share 108 = .ok (.invokevirtual 131, 3) := by decide +kernel
theorem dX7_share_111 : decode cX7_share 111 = .ok (.iadd, 1) := by decide +kernel
theorem dX7_share_112 : decode cX7_share 112 = .ok (.istore 9, 2) := by decide +kernel
theorem dX7_share_114 : decode cX7_share 114 = .ok (.iload 9, 2) := by decide +kernel
theorem dX7_share_116 : decode cX7_share 116 = .ok (.iload 6, 2) := by decide +kernel
theorem dX7_share_118 : decode cX7_share 118 = .ok (.if_icmp .le 8, 3) := by decide +kernel
theorem dX7_share_121 : decode cX7_share 121 = .ok (.iload 8, 2) := by decide +kernel
theorem dX7_share_123 : decode cX7_share 123 = .ok (.goto 5, 3) := by decide +kernel
theorem dX7_share_126 : decode cX7_share 126 = .ok (.iload 7, 2) := by decide +kernel
theorem dX7_share_128 : decode cX7_share 128 = .ok (.istore 7, 2) := by decide +kernel
theorem dX7_share_130 : decode cX7_share 130 = .ok (.iload 9, 2) := by decide +kernel
theorem dX7_share_132 : decode cX7_share 132 = .ok (.iload 6, 2) := by decide +kernel
theorem dX7_share_134 : decode cX7_share 134 = .ok (.if_icmp .le 8, 3) := by decide +kernel
theorem dX7_share_137 : decode cX7_share 137 = .ok (.iload 9, 2) := by decide +kernel
theorem dX7_share_139 : decode cX7_share 139 = .ok (.goto 5, 3) := by decide +kernel
theorem dX7_share_142 : decode cX7_share 142 = .ok (.iload 6, 2) := by decide +kernel
theorem dX7_share_144 : decode cX7_share 144 = .ok (.istore 6, 2) := by decide +kernel
theorem dX7_share_146 : decode cX7_share 146 = .ok (.iinc 8 1, 3) := by decide +kernel
theorem dX7_share_149 : decode cX7_share 149 = .ok (.goto (-82), 3) := by decide +kernel
theorem dX7_share_152 : decode cX7_share 152 = .ok (.iload 4, 2) := by decide +kernel
theorem dX7_share_154 : decode cX7_share 154 = .ok (.ifCond .ne 8, 3) := by decide +kernel
theorem dX7_share_157 : decode cX7_share 157 = .ok (.iload 7, 2) := by decide +kernel
theorem dX7_share_159 : decode cX7_share 159 = .ok (.goto 5, 3) := by decide +kernel
theorem dX7_share_162 : decode cX7_share 162 = .ok (.iload 6, 2) := by decide +kernel
theorem dX7_share_164 : decode cX7_share 164 = .ok (.ireturn, 1) := by decide +kernel
set_option maxRecDepth 20000 in
theorem B_X7_share_0 {G : Gx} {X : Cx} {h : PH} {k n : Nat} {Q : State → Prop} {S : List PV} {a0 : Nat} {a1 : Int} {a2 : Int} {a3 : Int} {a4 : Int} {PQ : Option PV → PH → Prop} (C : CX_X7_share G X) (hk0 : k ≤ 0 := by decide) (hn0 : n ≤ 0 := by decide) (t1 : ph_T h a0 = 7 := by first | assumption | rfl) (hM : CT_X7_passOf G X.2.1 [.inr a0, .inl a1] h PQ) (hS : S.length ≤ 8 := by decide) (kk : ∀ r h', PQ r h' → PW G X 10 Q k n 5 [some (.inr a0), some (.inl a1), some (.inl a2), some (.inl a3), some (.inl a4), none, none, none, none, none] (r.toList ++ S) h') : PW G X 10 Q k n 0 [some (.inr a0), some (.inl a1), some (.inl a2), some (.inl a3), some (.inl a4), none, none, none, none, none] (S) h := by
  refine pw_aload_n C dX7_share_0 rfl ?_
  refine pw_iload_n C dX7_share_1 rfl ?_
  exact pw_callV C (na := 1) (As := [.inl a1]) (S := S) hM t1 (by decide) (hcl := by rfl) kw722 kw724 kw17 kw45 kw725 (by decide +kernel) rfl dX7_share_2 (by decide) (by decide) hk0 hn0 (by first | exact hS | (simp only [List.length_cons]; omega)) kk
set_option maxRecDepth 20000 in
theorem B_X7_share_5 {G : Gx} {X : Cx} {h : PH} {k n : Nat} {Q : State → Prop} {S : List PV} {a0 : Nat} {a1 : Int} {a2 : Int} {a3 : Int} {a4 : Int} {s0 : Int} (C : CX_X7_share G X) (q1 : pR s0 := by first | assumption | (unfold pR; omega)) (kt : s0 < 0 → PW G X 10 Q k n 26 [some (.inr a0), some (.inl a1), some (.inl a2), some (.inl a3), some (.inl a4), some (.inl s0), none, none, none, none] (S) h) (kf : ¬ s0 < 0 → PW G X 10 Q k n 12 [some (.inr a0), some (.inl a1), some (.inl a2), some (.inl a3), some (.inl a4), some (.inl s0), none, none, none, none] (S) h) : PW G X 10 Q k n 5 [some (.inr a0), some (.inl a1), some (.inl a2), some (.inl a3), some (.inl a4), none, none, none, none, none] (.inl s0 :: S) h := by
  refine pw_istore C dX7_share_5 (by decide) ?_
  refine pw_iload C dX7_share_7 rfl ?_
  exact pw_if_lt C 26 dX7_share_9 (by decide) q1 kt kf
set_option maxRecDepth 20000 in
theorem B_X7_share_12 {G : Gx} {X : Cx} {h : PH} {k n : Nat} {Q : State → Prop} {S : List PV} {a0 : Nat} {a1 : Int} {a2 : Int} {a3 : Int} {a4 : Int} {a5 : Int} {PQ : Option PV → PH → Prop} (C : CX_X7_share G X) (hk0 : k ≤ 0 := by decide) (hn0 : n ≤ 0 := by decide) (hM : CT_X7_isDish G X.2.1 [.inl a2] h PQ) (hS : S.length ≤ 8 := by decide) (kk : ∀ r h', PQ r h' → PW G X 10 Q k n 16 [some (.inr a0), some (.inl a1), some (.inl a2), some (.inl a3), some (.inl a4), some (.inl a5), none, none, none, none] (r.toList ++ S) h') : PW G X 10 Q k n 12 [some (.inr a0), some (.inl a1), some (.inl a2), some (.inl a3), some (.inl a4), some (.inl a5), none, none, none, none] (S) h := by
  refine pw_iload_n C dX7_share_12 rfl ?_
  exact pw_callS C (na := 1) (As := [.inl a2]) (S := S) hM kw741 kw742 kw45 kw743 (by decide +kernel) rfl dX7_share_13 (by decide) (by decide) hk0 hn0 (by first | exact hS | (simp only [List.length_cons]; omega)) kk
set_option maxRecDepth 20000 in
theorem B_X7_share_16 {G : Gx} {X : Cx} {h : PH} {k n : Nat} {Q : State → Prop} {S : List PV} {a0 : Nat} {a1 : Int} {a2 : Int} {a3 : Int} {a4 : Int} {a5 : Int} {s0 : Int} (C : CX_X7_share G X) (q1 : pR s0 := by first | assumption | (unfold pR; omega)) (kt : s0 = 0 → PW G X 10 Q k n 26 [some (.inr a0), some (.inl a1), some (.inl a2), some (.inl a3), some (.inl a4), some (.inl a5), none, none, none, none] (S) h) (kf : ¬ s0 = 0 → PW G X 10 Q k n 19 [some (.inr a0), some (.inl a1), some (.inl a2), some (.inl a3), some (.inl a4), some (.inl a5), none, none, none, none] (S) h) : PW G X 10 Q k n 16 [some (.inr a0), some (.inl a1), some (.inl a2), some (.inl a3), some (.inl a4), some (.inl a5), none, none, none, none] (.inl s0 :: S) h := by
  exact pw_if_eq C 26 dX7_share_16 (by decide) q1 kt kf
set_option maxRecDepth 20000 in
theorem B_X7_share_19 {G : Gx} {X : Cx} {h : PH} {k n : Nat} {Q : State → Prop} {S : List PV} {a0 : Nat} {a1 : Int} {a2 : Int} {a3 : Int} {a4 : Int} {a5 : Int} {PQ : Option PV → PH → Prop} (C : CX_X7_share G X) (hk0 : k ≤ 0 := by decide) (hn0 : n ≤ 0 := by decide) (hM : CT_X7_isDish G X.2.1 [.inl a3] h PQ) (hS : S.length ≤ 8 := by decide) (kk : ∀ r h', PQ r h' → PW G X 10 Q k n 23 [some (.inr a0), some (.inl a1), some (.inl a2), some (.inl a3), some (.inl a4), some (.inl a5), none, none, none, none] (r.toList ++ S) h') : PW G X 10 Q k n 19 [some (.inr a0), some (.inl a1), some (.inl a2), some (.inl a3), some (.inl a4), some (.inl a5), none, none, none, none] (S) h := by
  refine pw_iload_n C dX7_share_19 rfl ?_
  exact pw_callS C (na := 1) (As := [.inl a3]) (S := S) hM kw741 kw742 kw45 kw743 (by decide +kernel) rfl dX7_share_20 (by decide) (by decide) hk0 hn0 (by first | exact hS | (simp only [List.length_cons]; omega)) kk
set_option maxRecDepth 20000 in
theorem B_X7_share_23 {G : Gx} {X : Cx} {h : PH} {k n : Nat} {Q : State → Prop} {S : List PV} {a0 : Nat} {a1 : Int} {a2 : Int} {a3 : Int} {a4 : Int} {a5 : Int} {s0 : Int} (C : CX_X7_share G X) (q1 : pR s0 := by first | assumption | (unfold pR; omega)) (kt : ¬ s0 = 0 → PW G X 10 Q k n 28 [some (.inr a0), some (.inl a1), some (.inl a2), some (.inl a3), some (.inl a4), some (.inl a5), none, none, none, none] (S) h) (kf : s0 = 0 → PW G X 10 Q k n 26 [some (.inr a0), some (.inl a1), some (.inl a2), some (.inl a3), some (.inl a4), some (.inl a5), none, none, none, none] (S) h) : PW G X 10 Q k n 23 [some (.inr a0), some (.inl a1), some (.inl a2), some (.inl a3), some (.inl a4), some (.inl a5), none, none, none, none] (.inl s0 :: S) h := by
  exact pw_if_ne C 28 dX7_share_23 (by decide) q1 kt kf
set_option maxRecDepth 20000 in
theorem B_X7_share_26 {G : Gx} {X : Cx} {h : PH} {k n : Nat} {a0 : Nat} {a1 : Int} {a2 : Int} {a3 : Int} {a4 : Int} {a5 : Int} {PQ : Option PV → PH → Prop} (C : CX_X7_share G X) (hq : PQ (some (.inl (-1))) h) : PW G X 10 (pw_E G X PQ k n) k n 26 [some (.inr a0), some (.inl a1), some (.inl a2), some (.inl a3), some (.inl a4), some (.inl a5), none, none, none, none] [] h := by
  refine pw_iconst C dX7_share_26 ?_
  exact pw_ireturn C dX7_share_27 hq
set_option maxRecDepth 20000 in
theorem B_X7_share_28 {G : Gx} {X : Cx} {h : PH} {k n : Nat} {Q : State → Prop} {S : List PV} {a0 : Nat} {a1 : Int} {a2 : Int} {a3 : Int} {a4 : Int} {a5 : Int} {PQ : Option PV → PH → Prop} (C : CX_X7_share G X) (hk0 : k ≤ 0 := by decide) (hn0 : n ≤ 0 := by decide) (hM : CT_X7_in G X.2.1 [.inl a4, .inl 0, .inl 1] h PQ) (hS : S.length ≤ 8 := by decide) (kk : ∀ r h', PQ r h' → PW G X 10 Q k n 35 [some (.inr a0), some (.inl a1), some (.inl a2), some (.inl a3), some (.inl a4), some (.inl a5), none, none, none, none] (r.toList ++ S) h') : PW G X 10 Q k n 28 [some (.inr a0), some (.inl a1), some (.inl a2), some (.inl a3), some (.inl a4), some (.inl a5), none, none, none, none] (S) h := by
  refine pw_iload C dX7_share_28 rfl ?_
  refine pw_iconst C dX7_share_30 ?_
  refine pw_iconst C dX7_share_31 ?_
  exact pw_callS C (na := 3) (As := [.inl a4, .inl 0, .inl 1]) (S := S) hM kw719 kw720 kw45 kw721 (by decide +kernel) rfl dX7_share_32 (by decide) (by decide) hk0 hn0 (by first | exact hS | (simp only [List.length_cons]; omega)) kk
set_option maxRecDepth 20000 in
theorem B_X7_share_35 {G : Gx} {X : Cx} {h : PH} {k n : Nat} {Q : State → Prop} {S : List PV} {a0 : Nat} {a1 : Int} {a2 : Int} {a3 : Int} {a4 : Int} {a5 : Int} {s0 : Int} (C : CX_X7_share G X) (q1 : pR s0 := by first | assumption | (unfold pR; omega)) (kt : s0 = 0 → PW G X 10 Q k n 43 [some (.inr a0), some (.inl a1), some (.inl a2), some (.inl a3), some (.inl a4), some (.inl a5), none, none, none, none] (S) h) (kf : ¬ s0 = 0 → PW G X 10 Q k n 38 [some (.inr a0), some (.inl a1), some (.inl a2), some (.inl a3), some (.inl a4), some (.inl a5), none, none, none, none] (S) h) : PW G X 10 Q k n 35 [some (.inr a0), some (.inl a1), some (.inl a2), some (.inl a3), some (.inl a4), some (.inl a5), none, none, none, none] (.inl s0 :: S) h := by
  exact pw_if_eq C 43 dX7_share_35 (by decide) q1 kt kf
set_option maxRecDepth 20000 in
theorem B_X7_share_38 {G : Gx} {X : Cx} {h : PH} {k n : Nat} {Q : State → Prop} {S : List PV} {a0 : Nat} {a1 : Int} {a2 : Int} {a3 : Int} {a4 : Int} {a5 : Int} (C : CX_X7_share G X) (q1 : pR a2 := by first | assumption | (unfold pR; omega)) (q2 : pR a3 := by first | assumption | (unfold pR; omega)) (kt : ¬ a2 = a3 → PW G X 10 Q k n 46 [some (.inr a0), some (.inl a1), some (.inl a2), some (.inl a3), some (.inl a4), some (.inl a5), none, none, none, none] (S) h) (kf : a2 = a3 → PW G X 10 Q k n 43 [some (.inr a0), some (.inl a1), some (.inl a2), some (.inl a3), some (.inl a4), some (.inl a5), none, none, none, none] (S) h) : PW G X 10 Q k n 38 [some (.inr a0), some (.inl a1), some (.inl a2), some (.inl a3), some (.inl a4), some (.inl a5), none, none, none, none] (S) h := by
  refine pw_iload_n C dX7_share_38 rfl ?_
  refine pw_iload_n C dX7_share_39 rfl ?_
  exact pw_icmp_ne C 46 dX7_share_40 (by decide) q1 q2 kt kf
set_option maxRecDepth 20000 in
theorem B_X7_share_43 {G : Gx} {X : Cx} {h : PH} {k n : Nat} {a0 : Nat} {a1 : Int} {a2 : Int} {a3 : Int} {a4 : Int} {a5 : Int} {PQ : Option PV → PH → Prop} (C : CX_X7_share G X) (hq : PQ (some (.inl (-2))) h) : PW G X 10 (pw_E G X PQ k n) k n 43 [some (.inr a0), some (.inl a1), some (.inl a2), some (.inl a3), some (.inl a4), some (.inl a5), none, none, none, none] [] h := by
  refine pw_bipush C dX7_share_43 rfl ?_
  exact pw_ireturn C dX7_share_45 hq
set_option maxRecDepth 20000 in
theorem B_X7_share_46 {G : Gx} {X : Cx} {h : PH} {k n : Nat} {Q : State → Prop} {S : List PV} {a0 : Nat} {a1 : Int} {a2 : Int} {a3 : Int} {a4 : Int} {a5 : Int} {PQ : Option PV → PH → Prop} (C : CX_X7_share G X) (hk0 : k ≤ 0 := by decide) (hn0 : n ≤ 0 := by decide) (t1 : ph_T h a0 = 7 := by first | assumption | rfl) (hM : CT_X7_isOpen G X.2.1 [.inr a0, .inl a5] h PQ) (hS : S.length ≤ 8 := by decide) (kk : ∀ r h', PQ r h' → PW G X 10 Q k n 52 [some (.inr a0), some (.inl a1), some (.inl a2), some (.inl a3), some (.inl a4), some (.inl a5), none, none, none, none] (r.toList ++ S) h') : PW G X 10 Q k n 46 [some (.inr a0), some (.inl a1), some (.inl a2), some (.inl a3), some (.inl a4), some (.inl a5), none, none, none, none] (S) h := by
  refine pw_aload_n C dX7_share_46 rfl ?_
  refine pw_iload C dX7_share_47 rfl ?_
  exact pw_callV C (na := 1) (As := [.inl a5]) (S := S) hM t1 (by decide) (hcl := by rfl) kw793 kw795 kw19 kw45 kw796 (by decide +kernel) rfl dX7_share_49 (by decide) (by decide) hk0 hn0 (by first | exact hS | (simp only [List.length_cons]; omega)) kk
set_option maxRecDepth 20000 in
theorem B_X7_share_52 {G : Gx} {X : Cx} {h : PH} {k n : Nat} {Q : State → Prop} {S : List PV} {a0 : Nat} {a1 : Int} {a2 : Int} {a3 : Int} {a4 : Int} {a5 : Int} {s0 : Int} (C : CX_X7_share G X) (q1 : pR s0 := by first | assumption | (unfold pR; omega)) (kt : ¬ s0 = 0 → PW G X 10 Q k n 58 [some (.inr a0), some (.inl a1), some (.inl a2), some (.inl a3), some (.inl a4), some (.inl a5), none, none, none, none] (S) h) (kf : s0 = 0 → PW G X 10 Q k n 55 [some (.inr a0), some (.inl a1), some (.inl a2), some (.inl a3), some (.inl a4), some (.inl a5), none, none, none, none] (S) h) : PW G X 10 Q k n 52 [some (.inr a0), some (.inl a1), some (.inl a2), some (.inl a3), some (.inl a4), some (.inl a5), none, none, none, none] (.inl s0 :: S) h := by
  exact pw_if_ne C 58 dX7_share_52 (by decide) q1 kt kf
set_option maxRecDepth 20000 in
theorem B_X7_share_55 {G : Gx} {X : Cx} {h : PH} {k n : Nat} {a0 : Nat} {a1 : Int} {a2 : Int} {a3 : Int} {a4 : Int} {a5 : Int} {PQ : Option PV → PH → Prop} (C : CX_X7_share G X) (hq : PQ (some (.inl (-3))) h) : PW G X 10 (pw_E G X PQ k n) k n 55 [some (.inr a0), some (.inl a1), some (.inl a2), some (.inl a3), some (.inl a4), some (.inl a5), none, none, none, none] [] h := by
  refine pw_bipush C dX7_share_55 rfl ?_
  exact pw_ireturn C dX7_share_57 hq
set_option maxRecDepth 20000 in
theorem B_X7_share_58 {G : Gx} {X : Cx} {h : PH} {k n : Nat} {Q : State → Prop} {S : List PV} {a0 : Nat} {a1 : Int} {a2 : Int} {a3 : Int} {a4 : Int} {a5 : Int} (C : CX_X7_share G X) (kk : PW G X 10 Q k n 67 [some (.inr a0), some (.inl a1), some (.inl a2), some (.inl a3), some (.inl a4), some (.inl a5), some (.inl (-1)), some (.inl 0), some (.inl 0), none] (S) h) : PW G X 10 Q k n 58 [some (.inr a0), some (.inl a1), some (.inl a2), some (.inl a3), some (.inl a4), some (.inl a5), none, none, none, none] (S) h := by
  refine pw_iconst C dX7_share_58 ?_
  refine pw_istore C dX7_share_59 (by decide) ?_
  refine pw_iconst C dX7_share_61 ?_
  refine pw_istore C dX7_share_62 (by decide) ?_
  refine pw_iconst C dX7_share_64 ?_
  refine pw_istore C dX7_share_65 (by decide) ?_
  exact kk
set_option maxRecDepth 20000 in
theorem B_X7_share_67 {G : Gx} {X : Cx} {h : PH} {k n : Nat} {Q : State → Prop} {S : List PV} {a0 : Nat} {a1 : Int} {a2 : Int} {a3 : Int} {a4 : Int} {a5 : Int} {a6 : Int} {a7 : Int} {a8 : Int} {r2 : Nat} {x8 : Int} (C : CX_X7_share G X) (t1 : ph_T h a0 = 7 := by first | assumption | rfl) (e3 : ph_R h a0 0 = r2 := by first | assumption | rfl) (t4 : ph_T h r2 = 8 := by first | assumption | rfl) (q5 : (0 : Int) ≤ 16 + a5 := by first | assumption | omega) (q6 : 16 + a5 < (ph_L h r2 : Int) := by first | assumption | omega) (q7 : pR (16 + a5) := by first | assumption | (unfold pR; omega)) (e9 : ph_I h r2 (Int.toNat (16 + a5)) = x8 := by first | assumption | rfl) (q10 : pR a8 := by first | assumption | (unfold pR; omega)) (q11 : pR x8 := by first | assumption | (unfold pR; omega)) (kt : x8 < a8 → PW G X 10 Q k n 152 [some (.inr a0), some (.inl a1), some (.inl a2), some (.inl a3), some (.inl a4), some (.inl a5), some (.inl a6), some (.inl a7), some (.inl a8), none] (S) h) (kf : ¬ x8 < a8 → PW G X 10 Q k n 82 [some (.inr a0), some (.inl a1), some (.inl a2), some (.inl a3), some (.inl a4), some (.inl a5), some (.inl a6), some (.inl a7), some (.inl a8), none] (S) h) : PW G X 10 Q k n 67 [some (.inr a0), some (.inl a1), some (.inl a2), some (.inl a3), some (.inl a4), some (.inl a5), some (.inl a6), some (.inl a7), some (.inl a8), none] (S) h := by
  refine pw_iload C dX7_share_67 rfl ?_
  refine pw_aload_n C dX7_share_69 rfl ?_
  refine pw_getR C (t := 7) (f := 0) rfl inF7 rfl (by decide) (by decide) rfl kw678 dX7_share_70 t1 ?_
  rw [e3]
  refine pw_bipush C dX7_share_73 rfl ?_
  refine pw_iload C dX7_share_75 rfl ?_
  refine pw_iadd C dX7_share_77 ?_
  refine pw_iald C dX7_share_78 t4 q5 q6 q7 ?_
  rw [e9]
  exact pw_icmp_gt C 152 dX7_share_79 (by decide) q10 q11 kt kf
set_option maxRecDepth 20000 in
theorem B_X7_share_82 {G : Gx} {X : Cx} {h : PH} {k n : Nat} {Q : State → Prop} {S : List PV} {a0 : Nat} {a1 : Int} {a2 : Int} {a3 : Int} {a4 : Int} {a5 : Int} {a6 : Int} {a7 : Int} {a8 : Int} {PQ : Option PV → PH → Prop} (C : CX_X7_share G X) (hk0 : k ≤ 0 := by decide) (hn0 : n ≤ 0 := by decide) (t1 : ph_T h a0 = 7 := by first | assumption | rfl) (hM : CT_X7_seenBy G X.2.1 [.inr a0, .inl a2, .inl a5, .inl 0, .inl a8] h PQ) (hS : S.length ≤ 8 := by decide) (kk : ∀ r h', PQ r h' → PW G X 10 Q k n 92 [some (.inr a0), some (.inl a1), some (.inl a2), some (.inl a3), some (.inl a4), some (.inl a5), some (.inl a6), some (.inl a7), some (.inl a8), none] (r.toList ++ S) h') : PW G X 10 Q k n 82 [some (.inr a0), some (.inl a1), some (.inl a2), some (.inl a3), some (.inl a4), some (.inl a5), some (.inl a6), some (.inl a7), some (.inl a8), none] (S) h := by
  refine pw_aload_n C dX7_share_82 rfl ?_
  refine pw_iload_n C dX7_share_83 rfl ?_
  refine pw_iload C dX7_share_84 rfl ?_
  refine pw_iconst C dX7_share_86 ?_
  refine pw_iload C dX7_share_87 rfl ?_
  exact pw_callV C (na := 4) (As := [.inl a2, .inl a5, .inl 0, .inl a8]) (S := S) hM t1 (by decide) (hcl := by rfl) kw863 kw865 kw31 kw45 kw866 (by decide +kernel) rfl dX7_share_89 (by decide) (by decide) hk0 hn0 (by first | exact hS | (simp only [List.length_cons]; omega)) kk
set_option maxRecDepth 20000 in
theorem B_X7_share_92 {G : Gx} {X : Cx} {h : PH} {k n : Nat} {Q : State → Prop} {S : List PV} {a0 : Nat} {a1 : Int} {a2 : Int} {a3 : Int} {a4 : Int} {a5 : Int} {a6 : Int} {a7 : Int} {a8 : Int} {s0 : Int} {r2 : Nat} {x8 : Int} {PQ : Option PV → PH → Prop} (C : CX_X7_share G X) (hk0 : k ≤ 0 := by decide) (hn0 : n ≤ 0 := by decide) (t1 : ph_T h a0 = 7 := by first | assumption | rfl) (e3 : ph_R h a0 0 = r2 := by first | assumption | rfl) (t4 : ph_T h r2 = 8 := by first | assumption | rfl) (q5 : (0 : Int) ≤ 16 + a5 := by first | assumption | omega) (q6 : 16 + a5 < (ph_L h r2 : Int) := by first | assumption | omega) (q7 : pR (16 + a5) := by first | assumption | (unfold pR; omega)) (e9 : ph_I h r2 (Int.toNat (16 + a5)) = x8 := by first | assumption | rfl) (t10 : ph_T h a0 = 7 := by first | assumption | rfl) (hM : CT_X7_seenBy G X.2.1 [.inr a0, .inl a3, .inl a5, .inl a8, .inl x8] h PQ) (hS : S.length ≤ 7 := by decide) (kk : ∀ r h', PQ r h' → PW G X 10 Q k n 111 [some (.inr a0), some (.inl a1), some (.inl a2), some (.inl a3), some (.inl a4), some (.inl a5), some (.inl a6), some (.inl a7), some (.inl a8), none] (r.toList ++ (.inl s0 :: S)) h') : PW G X 10 Q k n 92 [some (.inr a0), some (.inl a1), some (.inl a2), some (.inl a3), some (.inl a4), some (.inl a5), some (.inl a6), some (.inl a7), some (.inl a8), none] (.inl s0 :: S) h := by
  refine pw_aload_n C dX7_share_92 rfl ?_
  refine pw_iload_n C dX7_share_93 rfl ?_
  refine pw_iload C dX7_share_94 rfl ?_
  refine pw_iload C dX7_share_96 rfl ?_
  refine pw_aload_n C dX7_share_98 rfl ?_
  refine pw_getR C (t := 7) (f := 0) rfl inF7 rfl (by decide) (by decide) rfl kw678 dX7_share_99 t1 ?_
  rw [e3]
  refine pw_bipush C dX7_share_102 rfl ?_
  refine pw_iload C dX7_share_104 rfl ?_
  refine pw_iadd C dX7_share_106 ?_
  refine pw_iald C dX7_share_107 t4 q5 q6 q7 ?_
  rw [e9]
  exact pw_callV C (na := 4) (As := [.inl a3, .inl a5, .inl a8, .inl x8]) (S := .inl s0 :: S) hM t10 (by decide) (hcl := by rfl) kw863 kw865 kw31 kw45 kw866 (by decide +kernel) rfl dX7_share_108 (by decide) (by decide) hk0 hn0 (by first | exact hS | (simp only [List.length_cons]; omega)) kk
set_option maxRecDepth 20000 in
theorem B_X7_share_111 {G : Gx} {X : Cx} {h : PH} {k n : Nat} {Q : State → Prop} {S : List PV} {a0 : Nat} {a1 : Int} {a2 : Int} {a3 : Int} {a4 : Int} {a5 : Int} {a6 : Int} {a7 : Int} {a8 : Int} {s0 : Int} {s1 : Int} (C : CX_X7_share G X) (q1 : pR (s1 + s0) := by first | assumption | (unfold pR; omega)) (q2 : pR a6 := by first | assumption | (unfold pR; omega)) (kt : s1 + s0 ≤ a6 → PW G X 10 Q k n 126 [some (.inr a0), some (.inl a1), some (.inl a2), some (.inl a3), some (.inl a4), some (.inl a5), some (.inl a6), some (.inl a7), some (.inl a8), some (.inl (s1 + s0))] (S) h) (kf : ¬ s1 + s0 ≤ a6 → PW G X 10 Q k n 121 [some (.inr a0), some (.inl a1), some (.inl a2), some (.inl a3), some (.inl a4), some (.inl a5), some (.inl a6), some (.inl a7), some (.inl a8), some (.inl (s1 + s0))] (S) h) : PW G X 10 Q k n 111 [some (.inr a0), some (.inl a1), some (.inl a2), some (.inl a3), some (.inl a4), some (.inl a5), some (.inl a6), some (.inl a7), some (.inl a8), none] (.inl s0 :: .inl s1 :: S) h := by
  refine pw_iadd C dX7_share_111 ?_
  refine pw_istore C dX7_share_112 (by decide) ?_
  refine pw_iload C dX7_share_114 rfl ?_
  refine pw_iload C dX7_share_116 rfl ?_
  exact pw_icmp_le C 126 dX7_share_118 (by decide) q1 q2 kt kf
set_option maxRecDepth 20000 in
theorem B_X7_share_121 {G : Gx} {X : Cx} {h : PH} {k n : Nat} {Q : State → Prop} {S : List PV} {a0 : Nat} {a1 : Int} {a2 : Int} {a3 : Int} {a4 : Int} {a5 : Int} {a6 : Int} {a7 : Int} {a8 : Int} {a9 : Int} (C : CX_X7_share G X) (kk : PW G X 10 Q k n 128 [some (.inr a0), some (.inl a1), some (.inl a2), some (.inl a3), some (.inl a4), some (.inl a5), some (.inl a6), some (.inl a7), some (.inl a8), some (.inl a9)] (.inl a8 :: S) h) : PW G X 10 Q k n 121 [some (.inr a0), some (.inl a1), some (.inl a2), some (.inl a3), some (.inl a4), some (.inl a5), some (.inl a6), some (.inl a7), some (.inl a8), some (.inl a9)] (S) h := by
  refine pw_iload C dX7_share_121 rfl ?_
  refine pw_goto C 128 dX7_share_123 (by decide) ?_
  exact kk
set_option maxRecDepth 20000 in
theorem B_X7_share_126 {G : Gx} {X : Cx} {h : PH} {k n : Nat} {Q : State → Prop} {S : List PV} {a0 : Nat} {a1 : Int} {a2 : Int} {a3 : Int} {a4 : Int} {a5 : Int} {a6 : Int} {a7 : Int} {a8 : Int} {a9 : Int} (C : CX_X7_share G X) (kk : PW G X 10 Q k n 128 [some (.inr a0), some (.inl a1), some (.inl a2), some (.inl a3), some (.inl a4), some (.inl a5), some (.inl a6), some (.inl a7), some (.inl a8), some (.inl a9)] (.inl a7 :: S) h) : PW G X 10 Q k n 126 [some (.inr a0), some (.inl a1), some (.inl a2), some (.inl a3), some (.inl a4), some (.inl a5), some (.inl a6), some (.inl a7), some (.inl a8), some (.inl a9)] (S) h := by
  refine pw_iload C dX7_share_126 rfl ?_
  exact kk
set_option maxRecDepth 20000 in
theorem B_X7_share_128 {G : Gx} {X : Cx} {h : PH} {k n : Nat} {Q : State → Prop} {S : List PV} {a0 : Nat} {a1 : Int} {a2 : Int} {a3 : Int} {a4 : Int} {a5 : Int} {a6 : Int} {a7 : Int} {a8 : Int} {a9 : Int} {s0 : Int} (C : CX_X7_share G X) (q1 : pR a9 := by first | assumption | (unfold pR; omega)) (q2 : pR a6 := by first | assumption | (unfold pR; omega)) (kt : a9 ≤ a6 → PW G X 10 Q k n 142 [some (.inr a0), some (.inl a1), some (.inl a2), some (.inl a3), some (.inl a4), some (.inl a5), some (.inl a6), some (.inl s0), some (.inl a8), some (.inl a9)] (S) h) (kf : ¬ a9 ≤ a6 → PW G X 10 Q k n 137 [some (.inr a0), some (.inl a1), some (.inl a2), some (.inl a3), some (.inl a4), some (.inl a5), some (.inl a6), some (.inl s0), some (.inl a8), some (.inl a9)] (S) h) : PW G X 10 Q k n 128 [some (.inr a0), some (.inl a1), some (.inl a2), some (.inl a3), some (.inl a4), some (.inl a5), some (.inl a6), some (.inl a7), some (.inl a8), some (.inl a9)] (.inl s0 :: S) h := by
  refine pw_istore C dX7_share_128 (by decide) ?_
  refine pw_iload C dX7_share_130 rfl ?_
  refine pw_iload C dX7_share_132 rfl ?_
  exact pw_icmp_le C 142 dX7_share_134 (by decide) q1 q2 kt kf
set_option maxRecDepth 20000 in
theorem B_X7_share_137 {G : Gx} {X : Cx} {h : PH} {k n : Nat} {Q : State → Prop} {S : List PV} {a0 : Nat} {a1 : Int} {a2 : Int} {a3 : Int} {a4 : Int} {a5 : Int} {a6 : Int} {a7 : Int} {a8 : Int} {a9 : Int} (C : CX_X7_share G X) (kk : PW G X 10 Q k n 144 [some (.inr a0), some (.inl a1), some (.inl a2), some (.inl a3), some (.inl a4), some (.inl a5), some (.inl a6), some (.inl a7), some (.inl a8), some (.inl a9)] (.inl a9 :: S) h) : PW G X 10 Q k n 137 [some (.inr a0), some (.inl a1), some (.inl a2), some (.inl a3), some (.inl a4), some (.inl a5), some (.inl a6), some (.inl a7), some (.inl a8), some (.inl a9)] (S) h := by
  refine pw_iload C dX7_share_137 rfl ?_
  refine pw_goto C 144 dX7_share_139 (by decide) ?_
  exact kk
set_option maxRecDepth 20000 in
theorem B_X7_share_142 {G : Gx} {X : Cx} {h : PH} {k n : Nat} {Q : State → Prop} {S : List PV} {a0 : Nat} {a1 : Int} {a2 : Int} {a3 : Int} {a4 : Int} {a5 : Int} {a6 : Int} {a7 : Int} {a8 : Int} {a9 : Int} (C : CX_X7_share G X) (kk : PW G X 10 Q k n 144 [some (.inr a0), some (.inl a1), some (.inl a2), some (.inl a3), some (.inl a4), some (.inl a5), some (.inl a6), some (.inl a7), some (.inl a8), some (.inl a9)] (.inl a6 :: S) h) : PW G X 10 Q k n 142 [some (.inr a0), some (.inl a1), some (.inl a2), some (.inl a3), some (.inl a4), some (.inl a5), some (.inl a6), some (.inl a7), some (.inl a8), some (.inl a9)] (S) h := by
  refine pw_iload C dX7_share_142 rfl ?_
  exact kk
set_option maxRecDepth 20000 in
theorem B_X7_share_144 {G : Gx} {X : Cx} {h : PH} {k n : Nat} {Q : State → Prop} {S : List PV} {a0 : Nat} {a1 : Int} {a2 : Int} {a3 : Int} {a4 : Int} {a5 : Int} {a6 : Int} {a7 : Int} {a8 : Int} {a9 : Int} {s0 : Int} (C : CX_X7_share G X) (kk : PW G X 10 Q k n 67 [some (.inr a0), some (.inl a1), some (.inl a2), some (.inl a3), some (.inl a4), some (.inl a5), some (.inl s0), some (.inl a7), some (.inl (a8 + 1)), none] (S) h) : PW G X 10 Q k n 144 [some (.inr a0), some (.inl a1), some (.inl a2), some (.inl a3), some (.inl a4), some (.inl a5), some (.inl a6), some (.inl a7), some (.inl a8), some (.inl a9)] (.inl s0 :: S) h := by
  refine pw_istore C dX7_share_144 (by decide) ?_
  refine pw_iinc C dX7_share_146 rfl (by decide) ?_
  refine pw_goto C 67 dX7_share_149 (by decide) ?_
  exact pw_weak [true, true, true, true, true, true, true, true, true, false] kk
set_option maxRecDepth 20000 in
theorem B_X7_share_152 {G : Gx} {X : Cx} {h : PH} {k n : Nat} {Q : State → Prop} {S : List PV} {a0 : Nat} {a1 : Int} {a2 : Int} {a3 : Int} {a4 : Int} {a5 : Int} {a6 : Int} {a7 : Int} {a8 : Int} (C : CX_X7_share G X) (q1 : pR a4 := by first | assumption | (unfold pR; omega)) (kt : ¬ a4 = 0 → PW G X 10 Q k n 162 [some (.inr a0), some (.inl a1), some (.inl a2), some (.inl a3), some (.inl a4), some (.inl a5), some (.inl a6), some (.inl a7), some (.inl a8), none] (S) h) (kf : a4 = 0 → PW G X 10 Q k n 157 [some (.inr a0), some (.inl a1), some (.inl a2), some (.inl a3), some (.inl a4), some (.inl a5), some (.inl a6), some (.inl a7), some (.inl a8), none] (S) h) : PW G X 10 Q k n 152 [some (.inr a0), some (.inl a1), some (.inl a2), some (.inl a3), some (.inl a4), some (.inl a5), some (.inl a6), some (.inl a7), some (.inl a8), none] (S) h := by
  refine pw_iload C dX7_share_152 rfl ?_
  exact pw_if_ne C 162 dX7_share_154 (by decide) q1 kt kf
set_option maxRecDepth 20000 in
theorem B_X7_share_157 {G : Gx} {X : Cx} {h : PH} {k n : Nat} {Q : State → Prop} {S : List PV} {a0 : Nat} {a1 : Int} {a2 : Int} {a3 : Int} {a4 : Int} {a5 : Int} {a6 : Int} {a7 : Int} {a8 : Int} (C : CX_X7_share G X) (kk : PW G X 10 Q k n 164 [some (.inr a0), some (.inl a1), some (.inl a2), some (.inl a3), some (.inl a4), some (.inl a5), some (.inl a6), some (.inl a7), some (.inl a8), none] (.inl a7 :: S) h) : PW G X 10 Q k n 157 [some (.inr a0), some (.inl a1), some (.inl a2), some (.inl a3), some (.inl a4), some (.inl a5), some (.inl a6), some (.inl a7), some (.inl a8), none] (S) h := by
  refine pw_iload C dX7_share_157 rfl ?_
  refine pw_goto C 164 dX7_share_159 (by decide) ?_
  exact kk
set_option maxRecDepth 20000 in
theorem B_X7_share_162 {G : Gx} {X : Cx} {h : PH} {k n : Nat} {Q : State → Prop} {S : List PV} {a0 : Nat} {a1 : Int} {a2 : Int} {a3 : Int} {a4 : Int} {a5 : Int} {a6 : Int} {a7 : Int} {a8 : Int} (C : CX_X7_share G X) (kk : PW G X 10 Q k n 164 [some (.inr a0), some (.inl a1), some (.inl a2), some (.inl a3), some (.inl a4), some (.inl a5), some (.inl a6), some (.inl a7), some (.inl a8), none] (.inl a6 :: S) h) : PW G X 10 Q k n 162 [some (.inr a0), some (.inl a1), some (.inl a2), some (.inl a3), some (.inl a4), some (.inl a5), some (.inl a6), some (.inl a7), some (.inl a8), none] (S) h := by
  refine pw_iload C dX7_share_162 rfl ?_
  exact kk
set_option maxRecDepth 20000 in
theorem B_X7_share_164 {G : Gx} {X : Cx} {h : PH} {k n : Nat} {a0 : Nat} {a1 : Int} {a2 : Int} {a3 : Int} {a4 : Int} {a5 : Int} {a6 : Int} {a7 : Int} {a8 : Int} {s0 : Int} {PQ : Option PV → PH → Prop} (C : CX_X7_share G X) (hq : PQ (some (.inl s0)) h) : PW G X 10 (pw_E G X PQ k n) k n 164 [some (.inr a0), some (.inl a1), some (.inl a2), some (.inl a3), some (.inl a4), some (.inl a5), some (.inl a6), some (.inl a7), some (.inl a8), none] [.inl s0] h := by
  exact pw_ireturn C dX7_share_164 hq
theorem dX7_takeBy_0 : decode cX7_takeBy 0 = .ok (.aload_n 0, 1) := by decide +kernel
theorem dX7_takeBy_1 : decode cX7_takeBy 1 = .ok (.iload_n 1, 1) := by decide +kernel
theorem dX7_takeBy_2 : decode cX7_takeBy 2 = .ok (.iload_n 2, 1) := by decide +kernel
theorem dX7_takeBy_3 : decode cX7_takeBy 3 = .ok (.invokevirtual 111, 3) := by decide +kernel
theorem dX7_takeBy_6 : decode cX7_takeBy 6 = .ok (.istore_n 3, 1) := by decide +kernel
theorem dX7_takeBy_7 : decode cX7_takeBy 7 = .ok (.iload_n 3, 1) := by decide +kernel
theorem dX7_takeBy_8 : decode cX7_takeBy 8 = .ok (.ldc 74, 2) := by decide +kernel
theorem dX7_takeBy_10 : decode cX7_takeBy 10 = .ok (.if_icmp .ne 6, 3) := by decide +kernel
theorem dX7_takeBy_13 : decode cX7_takeBy 13 = .ok (.bipush (-5), 2) := by decide +kernel
theorem dX7_takeBy_15 : decode cX7_takeBy 15 = .ok (.ireturn, 1) := by decide +kernel
theorem dX7_takeBy_16 : decode cX7_takeBy 16 = .ok (.aload_n 0, 1) := by decide +kernel
theorem dX7_takeBy_17 : decode cX7_takeBy 17 = .ok (.iload_n 3, 1) := by decide +kernel
theorem dX7_takeBy_18 : decode cX7_takeBy 18 = .ok (.invokevirtual 114, 3) := by decide +kernel
theorem dX7_takeBy_21 : decode cX7_takeBy 21 = .ok (.aload_n 0, 1) := by decide +kernel
theorem dX7_takeBy_22 : decode cX7_takeBy 22 = .ok (.getfield 7, 3) := by decide +kernel
theorem dX7_takeBy_25 : decode cX7_takeBy 25 = .ok (.sipush 304, 3) := by decide +kernel
theorem dX7_takeBy_28 : decode cX7_takeBy 28 = .ok (.iload_n 1, 1) := by decide +kernel
theorem dX7_takeBy_29 : decode cX7_takeBy 29 = .ok (.iadd, 1) := by decide +kernel
theorem dX7_takeBy_30 : decode cX7_takeBy 30 = .ok (.iaload, 1) := by decide +kernel
theorem dX7_takeBy_31 : decode cX7_takeBy 31 = .ok (.istore 4, 2) := by decide +kernel
theorem dX7_takeBy_33 : decode cX7_takeBy 33 = .ok (.iload 4, 2) := by decide +kernel
theorem dX7_takeBy_35 : decode cX7_takeBy 35 = .ok (.aload_n 0, 1) := by decide +kernel
theorem dX7_takeBy_36 : decode cX7_takeBy 36 = .ok (.invokevirtual 82, 3) := by decide +kernel
theorem dX7_takeBy_39 : decode cX7_takeBy 39 = .ok (.if_icmp .gt 57, 3) := by decide +kernel
theorem dX7_takeBy_42 : decode cX7_takeBy 42 = .ok (.aload_n 0, 1) := by decide +kernel
theorem dX7_takeBy_43 : decode cX7_takeBy 43 = .ok (.getfield 7, 3) := by decide +kernel
theorem dX7_takeBy_46 : decode cX7_takeBy 46 = .ok (.sipush 316, 3) := by decide +kernel
theorem dX7_takeBy_49 : decode cX7_takeBy 49 = .ok (.bipush 7, 2) := by decide +kernel
theorem dX7_takeBy_51 : decode cX7_takeBy 51 = .ok (.aload_n 0, 1) := by decide +kernel
theorem dX7_takeBy_52 : decode cX7_takeBy 52 = .ok (.getfield 24, 3) := by decide +kernel
theorem dX7_takeBy_55 : decode cX7_takeBy 55 = .ok (.iload 4, 2) := by decide +kernel
theorem dX7_takeBy_57 : decode cX7_takeBy 57 = .ok (.iaload, 1) := by decide +kernel
theorem dX7_takeBy_58 : decode cX7_takeBy 58 = .ok (.invokestatic 58, 3) := by decide +kernel
theorem dX7_takeBy_61 : decode cX7_takeBy 61 = .ok (.imul, 1) := by decide +kernel
theorem dX7_takeBy_62 : decode cX7_takeBy 62 = .ok (.iadd, 1) := by decide +kernel
theorem dX7_takeBy_63 : decode cX7_takeBy 63 = .ok (.aload_n 0, 1) := by decide +kernel
theorem dX7_takeBy_64 : decode cX7_takeBy 64 = .ok (.getfield 27, 3) := by decide +kernel
theorem dX7_takeBy_67 : decode cX7_takeBy 67 = .ok (.iload 4, 2) := by decide +kernel
theorem dX7_takeBy_69 : decode cX7_takeBy 69 = .ok (.iaload, 1) := by decide +kernel
theorem dX7_takeBy_70 : decode cX7_takeBy 70 = .ok (.iadd, 1) := by decide +kernel
theorem dX7_takeBy_71 : decode cX7_takeBy 71 = .ok (.dup2, 1) := by decide +kernel
theorem dX7_takeBy_72 : decode cX7_takeBy 72 = .ok (.iaload, 1) := by decide +kernel
theorem dX7_takeBy_73 : decode cX7_takeBy 73 = .ok (.aload_n 0, 1) := by decide +kernel
theorem dX7_takeBy_74 : decode cX7_takeBy 74 = .ok (.getfield 30, 3) := by decide +kernel
theorem dX7_takeBy_77 : decode cX7_takeBy 77 = .ok (.iload 4, 2) := by decide +kernel
theorem dX7_takeBy_79 : decode cX7_takeBy 79 = .ok (.baload, 1) := by decide +kernel
theorem dX7_takeBy_80 : decode cX7_takeBy 80 = .ok (.ifCond .eq 7, 3) := by decide +kernel
theorem dX7_takeBy_83 : decode cX7_takeBy 83 = .ok (.iconst 1, 1) := by decide +kernel
theorem dX7_takeBy_84 : decode cX7_takeBy 84 = .ok (.goto 4, 3) := by decide +kernel
theorem dX7_takeBy_87 : decode cX7_takeBy 87 = .ok (.iconst 0, 1) := by decide +kernel
theorem dX7_takeBy_88 : decode cX7_takeBy 88 = .ok (.iadd, 1) := by decide +kernel
theorem dX7_takeBy_89 : decode cX7_takeBy 89 = .ok (.iastore, 1) := by decide +kernel
theorem dX7_takeBy_90 : decode cX7_takeBy 90 = .ok (.iinc 4 1, 3) := by decide +kernel
theorem dX7_takeBy_93 : decode cX7_takeBy 93 = .ok (.goto (-60), 3) := by decide +kernel
theorem dX7_takeBy_96 : decode cX7_takeBy 96 = .ok (.aload_n 0, 1) := by decide +kernel
theorem dX7_takeBy_97 : decode cX7_takeBy 97 = .ok (.getfield 7, 3) := by decide +kernel
theorem dX7_takeBy_100 : decode cX7_takeBy 100 = .ok (.sipush 296, 3) := by decide +kernel
theorem dX7_takeBy_103 : decode cX7_takeBy 103 = .ok (.iload_n 1, 1) := by decide +kernel
theorem dX7_takeBy_104 : decode cX7_takeBy 104 = .ok (.iadd, 1) := by decide +kernel
theorem dX7_takeBy_105 : decode cX7_takeBy 105 = .ok (.aload_n 0, 1) := by decide +kernel
theorem dX7_takeBy_106 : decode cX7_takeBy 106 = .ok (.getfield 24, 3) := by decide +kernel
theorem dX7_takeBy_109 : decode cX7_takeBy 109 = .ok (.aload_n 0, 1) := by decide +kernel
theorem dX7_takeBy_110 : decode cX7_takeBy 110 = .ok (.invokevirtual 82, 3) := by decide +kernel
theorem dX7_takeBy_113 : decode cX7_takeBy 113 = .ok (.iaload, 1) := by decide +kernel
theorem dX7_takeBy_114 : decode cX7_takeBy 114 = .ok (.iastore, 1) := by decide +kernel
theorem dX7_takeBy_115 : decode cX7_takeBy 115 = .ok (.aload_n 0, 1) := by decide +kernel
theorem dX7_takeBy_116 : decode cX7_takeBy 116 = .ok (.getfield 7, 3) := by decide +kernel
theorem dX7_takeBy_119 : decode cX7_takeBy 119 = .ok (.sipush 300, 3) := by decide +kernel
theorem dX7_takeBy_122 : decode cX7_takeBy 122 = .ok (.iload_n 1, 1) := by decide +kernel
theorem dX7_takeBy_123 : decode cX7_takeBy 123 = .ok (.iadd, 1) := by decide +kernel
theorem dX7_takeBy_124 : decode cX7_takeBy 124 = .ok (.aload_n 0, 1) := by decide +kernel
theorem dX7_takeBy_125 : decode cX7_takeBy 125 = .ok (.getfield 27, 3) := by decide +kernel
theorem dX7_takeBy_128 : decode cX7_takeBy 128 = .ok (.aload_n 0, 1) := by decide +kernel
theorem dX7_takeBy_129 : decode cX7_takeBy 129 = .ok (.invokevirtual 82, 3) := by decide +kernel
theorem dX7_takeBy_132 : decode cX7_takeBy 132 = .ok (.iaload, 1) := by decide +kernel
theorem dX7_takeBy_133 : decode cX7_takeBy 133 = .ok (.iastore, 1) := by decide +kernel
theorem dX7_takeBy_134 : decode cX7_takeBy 134 = .ok (.aload_n 0, 1) := by decide +kernel
theorem dX7_takeBy_135 : decode cX7_takeBy 135 = .ok (.getfield 7, 3) := by decide +kernel
theorem dX7_takeBy_138 : decode cX7_takeBy 138 = .ok (.sipush 304, 3) := by decide +kernel
theorem dX7_takeBy_141 : decode cX7_takeBy 141 = .ok (.iload_n 1, 1) := by decide +kernel
theorem dX7_takeBy_142 : decode cX7_takeBy 142 = .ok (.iadd, 1) := by decide +kernel
theorem dX7_takeBy_143 : decode cX7_takeBy 143 = .ok (.aload_n 0, 1) := by decide +kernel
theorem dX7_takeBy_144 : decode cX7_takeBy 144 = .ok (.invokevirtual 82, 3) := by decide +kernel
theorem dX7_takeBy_147 : decode cX7_takeBy 147 = .ok (.iconst 1, 1) := by decide +kernel
theorem dX7_takeBy_148 : decode cX7_takeBy 148 = .ok (.iadd, 1) := by decide +kernel
theorem dX7_takeBy_149 : decode cX7_takeBy 149 = .ok (.iastore, 1) := by decide +kernel
theorem dX7_takeBy_150 : decode cX7_takeBy 150 = .ok (.aload_n 0, 1) := by decide +kernel
theorem dX7_takeBy_151 : decode cX7_takeBy 151 = .ok (.getfield 7, 3) := by decide +kernel
theorem dX7_takeBy_154 : decode cX7_takeBy 154 = .ok (.bipush 24, 2) := by decide +kernel
theorem dX7_takeBy_156 : decode cX7_takeBy 156 = .ok (.iload_n 2, 1) := by decide +kernel
theorem dX7_takeBy_157 : decode cX7_takeBy 157 = .ok (.iadd, 1) := by decide +kernel
theorem dX7_takeBy_158 : decode cX7_takeBy 158 = .ok (.iload_n 1, 1) := by decide +kernel
theorem dX7_takeBy_159 : decode cX7_takeBy 159 = .ok (.iastore, 1) := by decide +kernel
theorem dX7_takeBy_160 : decode cX7_takeBy 160 = .ok (.aload_n 0, 1) := by decide +kernel
theorem dX7_takeBy_161 : decode cX7_takeBy 161 = .ok (.getfield 7, 3) := by decide +kernel
theorem dX7_takeBy_164 : decode cX7_takeBy 164 = .ok (.bipush 32, 2) := by decide +kernel
theorem dX7_takeBy_166 : decode cX7_takeBy 166 = .ok (.iload_n 2, 1) := by decide +kernel
theorem dX7_takeBy_167 : decode cX7_takeBy 167 = .ok (.iadd, 1) := by decide +kernel
theorem dX7_takeBy_168 : decode cX7_takeBy 168 = .ok (.iload_n 3, 1) := by decide +kernel
theorem dX7_takeBy_169 : decode cX7_takeBy 169 = .ok (.invokestatic 97, 3) := by decide +kernel
theorem dX7_takeBy_172 : decode cX7_takeBy 172 = .ok (.iastore, 1) := by decide +kernel
theorem dX7_takeBy_173 : decode cX7_takeBy 173 = .ok (.iload_n 3, 1) := by decide +kernel
theorem dX7_takeBy_174 : decode cX7_takeBy 174 = .ok (.invokestatic 97, 3) := by decide +kernel
theorem dX7_takeBy_177 : decode cX7_takeBy 177 = .ok (.ireturn, 1) := by decide +kernel
set_option maxRecDepth 20000 in
theorem B_X7_takeBy_0 {G : Gx} {X : Cx} {h : PH} {k n : Nat} {Q : State → Prop} {S : List PV} {a0 : Nat} {a1 : Int} {a2 : Int} {PQ : Option PV → PH → Prop} (C : CX_X7_takeBy G X) (hk0 : k ≤ 0 := by decide) (hn0 : n ≤ 0 := by decide) (t1 : ph_T h a0 = 7 := by first | assumption | rfl) (hM : CT_X7_layAll G X.2.1 [.inr a0, .inl a1, .inl a2] h PQ) (hS : S.length ≤ 8 := by decide) (kk : ∀ r h', PQ r h' → PW G X 5 Q k n 6 [some (.inr a0), some (.inl a1), some (.inl a2), none, none] (r.toList ++ S) h') : PW G X 5 Q k n 0 [some (.inr a0), some (.inl a1), some (.inl a2), none, none] (S) h := by
  refine pw_aload_n C dX7_takeBy_0 rfl ?_
  refine pw_iload_n C dX7_takeBy_1 rfl ?_
  refine pw_iload_n C dX7_takeBy_2 rfl ?_
  exact pw_callV C (na := 2) (As := [.inl a1, .inl a2]) (S := S) hM t1 (by decide) (hcl := by rfl) kw797 kw799 kw20 kw45 kw800 (by decide +kernel) rfl dX7_takeBy_3 (by decide) (by decide) hk0 hn0 (by first | exact hS | (simp only [List.length_cons]; omega)) kk
set_option maxRecDepth 20000 in
theorem B_X7_takeBy_6 {G : Gx} {X : Cx} {h : PH} {k n : Nat} {Q : State → Prop} {S : List PV} {a0 : Nat} {a1 : Int} {a2 : Int} {s0 : Int} (C : CX_X7_takeBy G X) (q1 : pR s0 := by first | assumption | (unfold pR; omega)) (q2 : pR (-1000000) := by first | assumption | (unfold pR; omega)) (kt : ¬ s0 = (-1000000) → PW G X 5 Q k n 16 [some (.inr a0), some (.inl a1), some (.inl a2), some (.inl s0), none] (S) h) (kf : s0 = (-1000000) → PW G X 5 Q k n 13 [some (.inr a0), some (.inl a1), some (.inl a2), some (.inl s0), none] (S) h) : PW G X 5 Q k n 6 [some (.inr a0), some (.inl a1), some (.inl a2), none, none] (.inl s0 :: S) h := by
  refine pw_istore_n C dX7_takeBy_6 (by decide) ?_
  refine pw_iload_n C dX7_takeBy_7 rfl ?_
  refine pw_ldc C (z := -1000000) kw809 rfl dX7_takeBy_8 ?_
  exact pw_icmp_ne C 16 dX7_takeBy_10 (by decide) q1 q2 kt kf
set_option maxRecDepth 20000 in
theorem B_X7_takeBy_13 {G : Gx} {X : Cx} {h : PH} {k n : Nat} {a0 : Nat} {a1 : Int} {a2 : Int} {a3 : Int} {PQ : Option PV → PH → Prop} (C : CX_X7_takeBy G X) (hq : PQ (some (.inl (-5))) h) : PW G X 5 (pw_E G X PQ k n) k n 13 [some (.inr a0), some (.inl a1), some (.inl a2), some (.inl a3), none] [] h := by
  refine pw_bipush C dX7_takeBy_13 rfl ?_
  exact pw_ireturn C dX7_takeBy_15 hq
set_option maxRecDepth 20000 in
theorem B_X7_takeBy_16 {G : Gx} {X : Cx} {h : PH} {k n : Nat} {Q : State → Prop} {S : List PV} {a0 : Nat} {a1 : Int} {a2 : Int} {a3 : Int} {PQ : Option PV → PH → Prop} (C : CX_X7_takeBy G X) (hk0 : k ≤ 0 := by decide) (hn0 : n ≤ 0 := by decide) (t1 : ph_T h a0 = 7 := by first | assumption | rfl) (hM : CT_X7_walk G X.2.1 [.inr a0, .inl a3] h PQ) (hS : S.length ≤ 8 := by decide) (kk : ∀ r h', PQ r h' → PW G X 5 Q k n 21 [some (.inr a0), some (.inl a1), some (.inl a2), some (.inl a3), none] (r.toList ++ S) h') : PW G X 5 Q k n 16 [some (.inr a0), some (.inl a1), some (.inl a2), some (.inl a3), none] (S) h := by
  refine pw_aload_n C dX7_takeBy_16 rfl ?_
  refine pw_iload_n C dX7_takeBy_17 rfl ?_
  exact pw_callV C (na := 1) (As := [.inl a3]) (S := S) hM t1 (by decide) (hcl := by rfl) kw829 kw831 kw27 kw45 kw832 (by decide +kernel) rfl dX7_takeBy_18 (by decide) (by decide) hk0 hn0 (by first | exact hS | (simp only [List.length_cons]; omega)) kk
set_option maxRecDepth 20000 in
theorem B_X7_takeBy_21 {G : Gx} {X : Cx} {h : PH} {k n : Nat} {Q : State → Prop} {S : List PV} {a0 : Nat} {a1 : Int} {a2 : Int} {a3 : Int} {r2 : Nat} {x8 : Int} (C : CX_X7_takeBy G X) (t1 : ph_T h a0 = 7 := by first | assumption | rfl) (e3 : ph_R h a0 0 = r2 := by first | assumption | rfl) (t4 : ph_T h r2 = 8 := by first | assumption | rfl) (q5 : (0 : Int) ≤ 304 + a1 := by first | assumption | omega) (q6 : 304 + a1 < (ph_L h r2 : Int) := by first | assumption | omega) (q7 : pR (304 + a1) := by first | assumption | (unfold pR; omega)) (e9 : ph_I h r2 (Int.toNat (304 + a1)) = x8 := by first | assumption | rfl) (kk : PW G X 5 Q k n 33 [some (.inr a0), some (.inl a1), some (.inl a2), some (.inl a3), some (.inl x8)] (S) h) : PW G X 5 Q k n 21 [some (.inr a0), some (.inl a1), some (.inl a2), some (.inl a3), none] (S) h := by
  refine pw_aload_n C dX7_takeBy_21 rfl ?_
  refine pw_getR C (t := 7) (f := 0) rfl inF7 rfl (by decide) (by decide) rfl kw678 dX7_takeBy_22 t1 ?_
  rw [e3]
  refine pw_sipush C dX7_takeBy_25 rfl ?_
  refine pw_iload_n C dX7_takeBy_28 rfl ?_
  refine pw_iadd C dX7_takeBy_29 ?_
  refine pw_iald C dX7_takeBy_30 t4 q5 q6 q7 ?_
  rw [e9]
  refine pw_istore C dX7_takeBy_31 (by decide) ?_
  exact kk
set_option maxRecDepth 20000 in
theorem B_X7_takeBy_33 {G : Gx} {X : Cx} {h : PH} {k n : Nat} {Q : State → Prop} {S : List PV} {a0 : Nat} {a1 : Int} {a2 : Int} {a3 : Int} {a4 : Int} {PQ : Option PV → PH → Prop} (C : CX_X7_takeBy G X) (hk0 : k ≤ 0 := by decide) (hn0 : n ≤ 0 := by decide) (t1 : ph_T h a0 = 7 := by first | assumption | rfl) (hM : CT_X7_lastTick G X.2.1 [.inr a0] h PQ) (hS : S.length ≤ 7 := by decide) (kk : ∀ r h', PQ r h' → PW G X 5 Q k n 39 [some (.inr a0), some (.inl a1), some (.inl a2), some (.inl a3), some (.inl a4)] (r.toList ++ (.inl a4 :: S)) h') : PW G X 5 Q k n 33 [some (.inr a0), some (.inl a1), some (.inl a2), some (.inl a3), some (.inl a4)] (S) h := by
  refine pw_iload C dX7_takeBy_33 rfl ?_
  refine pw_aload_n C dX7_takeBy_35 rfl ?_
  exact pw_callV C (na := 0) (As := []) (S := .inl a4 :: S) hM t1 (by decide) (hcl := by rfl) kw805 kw807 kw22 kw45 kw808 (by decide +kernel) rfl dX7_takeBy_36 (by decide) (by decide) hk0 hn0 (by first | exact hS | (simp only [List.length_cons]; omega)) kk
set_option maxRecDepth 20000 in
theorem B_X7_takeBy_39 {G : Gx} {X : Cx} {h : PH} {k n : Nat} {Q : State → Prop} {S : List PV} {a0 : Nat} {a1 : Int} {a2 : Int} {a3 : Int} {a4 : Int} {s0 : Int} {s1 : Int} (C : CX_X7_takeBy G X) (q1 : pR s1 := by first | assumption | (unfold pR; omega)) (q2 : pR s0 := by first | assumption | (unfold pR; omega)) (kt : s0 < s1 → PW G X 5 Q k n 96 [some (.inr a0), some (.inl a1), some (.inl a2), some (.inl a3), some (.inl a4)] (S) h) (kf : ¬ s0 < s1 → PW G X 5 Q k n 42 [some (.inr a0), some (.inl a1), some (.inl a2), some (.inl a3), some (.inl a4)] (S) h) : PW G X 5 Q k n 39 [some (.inr a0), some (.inl a1), some (.inl a2), some (.inl a3), some (.inl a4)] (.inl s0 :: .inl s1 :: S) h := by
  exact pw_icmp_gt C 96 dX7_takeBy_39 (by decide) q1 q2 kt kf
set_option maxRecDepth 20000 in
theorem B_X7_takeBy_42 {G : Gx} {X : Cx} {h : PH} {k n : Nat} {Q : State → Prop} {S : List PV} {a0 : Nat} {a1 : Int} {a2 : Int} {a3 : Int} {a4 : Int} {r2 : Nat} {r5 : Nat} {x11 : Int} {PQ : Option PV → PH → Prop} (C : CX_X7_takeBy G X) (hk0 : k ≤ 0 := by decide) (hn0 : n ≤ 0 := by decide) (t1 : ph_T h a0 = 7 := by first | assumption | rfl) (e3 : ph_R h a0 0 = r2 := by first | assumption | rfl) (t4 : ph_T h a0 = 7 := by first | assumption | rfl) (e6 : ph_R h a0 8 = r5 := by first | assumption | rfl) (t7 : ph_T h r5 = 8 := by first | assumption | rfl) (q8 : (0 : Int) ≤ a4 := by first | assumption | omega) (q9 : a4 < (ph_L h r5 : Int) := by first | assumption | omega) (q10 : pR a4 := by first | assumption | (unfold pR; omega)) (e12 : ph_I h r5 (Int.toNat a4) = x11 := by first | assumption | rfl) (hM : CT_X7_sideOf G X.2.1 [.inl x11] h PQ) (hS : S.length ≤ 5 := by decide) (kk : ∀ r h', PQ r h' → PW G X 5 Q k n 61 [some (.inr a0), some (.inl a1), some (.inl a2), some (.inl a3), some (.inl a4)] (r.toList ++ (.inl 7 :: .inl 316 :: .inr r2 :: S)) h') : PW G X 5 Q k n 42 [some (.inr a0), some (.inl a1), some (.inl a2), some (.inl a3), some (.inl a4)] (S) h := by
  refine pw_aload_n C dX7_takeBy_42 rfl ?_
  refine pw_getR C (t := 7) (f := 0) rfl inF7 rfl (by decide) (by decide) rfl kw678 dX7_takeBy_43 t1 ?_
  rw [e3]
  refine pw_sipush C dX7_takeBy_46 rfl ?_
  refine pw_bipush C dX7_takeBy_49 rfl ?_
  refine pw_aload_n C dX7_takeBy_51 rfl ?_
  refine pw_getR C (t := 7) (f := 8) rfl inF7 rfl (by decide) (by decide) rfl kw686 dX7_takeBy_52 t4 ?_
  rw [e6]
  refine pw_iload C dX7_takeBy_55 rfl ?_
  refine pw_iald C dX7_takeBy_57 t7 q8 q9 q10 ?_
  rw [e12]
  exact pw_callS C (na := 1) (As := [.inl x11]) (S := .inl 7 :: .inl 316 :: .inr r2 :: S) hM kw786 kw787 kw45 kw788 (by decide +kernel) rfl dX7_takeBy_58 (by decide) (by decide) hk0 hn0 (by first | exact hS | (simp only [List.length_cons]; omega)) kk
set_option maxRecDepth 20000 in
theorem B_X7_takeBy_61 {G : Gx} {X : Cx} {h : PH} {k n : Nat} {Q : State → Prop} {S : List PV} {a0 : Nat} {a1 : Int} {a2 : Int} {a3 : Int} {a4 : Int} {s0 : Int} {s1 : Int} {s2 : Int} {s3 : Nat} {r2 : Nat} {x8 : Int} {x14 : Int} {r17 : Nat} {x23 : Int} (C : CX_X7_takeBy G X) (t1 : ph_T h a0 = 7 := by first | assumption | rfl) (e3 : ph_R h a0 9 = r2 := by first | assumption | rfl) (t4 : ph_T h r2 = 8 := by first | assumption | rfl) (q5 : (0 : Int) ≤ a4 := by first | assumption | omega) (q6 : a4 < (ph_L h r2 : Int) := by first | assumption | omega) (q7 : pR a4 := by first | assumption | (unfold pR; omega)) (e9 : ph_I h r2 (Int.toNat a4) = x8 := by first | assumption | rfl) (t10 : ph_T h s3 = 8 := by first | assumption | rfl) (q11 : (0 : Int) ≤ (s2 + (s1 * s0)) + x8 := by first | assumption | omega) (q12 : (s2 + (s1 * s0)) + x8 < (ph_L h s3 : Int) := by first | assumption | omega) (q13 : pR ((s2 + (s1 * s0)) + x8) := by first | assumption | (unfold pR; omega)) (e15 : ph_I h s3 (Int.toNat ((s2 + (s1 * s0)) + x8)) = x14 := by first | assumption | rfl) (t16 : ph_T h a0 = 7 := by first | assumption | rfl) (e18 : ph_R h a0 10 = r17 := by first | assumption | rfl) (t19 : ph_T h r17 = 9 := by first | assumption | rfl) (q20 : (0 : Int) ≤ a4 := by first | assumption | omega) (q21 : a4 < (ph_L h r17 : Int) := by first | assumption | omega) (q22 : pR a4 := by first | assumption | (unfold pR; omega)) (e24 : ph_I h r17 (Int.toNat a4) = x23 := by first | assumption | rfl) (q25 : pR x23 := by first | assumption | (unfold pR; omega)) (kt : x23 = 0 → PW G X 5 Q k n 87 [some (.inr a0), some (.inl a1), some (.inl a2), some (.inl a3), some (.inl a4)] (.inl x14 :: .inl ((s2 + (s1 * s0)) + x8) :: .inr s3 :: S) h) (kf : ¬ x23 = 0 → PW G X 5 Q k n 83 [some (.inr a0), some (.inl a1), some (.inl a2), some (.inl a3), some (.inl a4)] (.inl x14 :: .inl ((s2 + (s1 * s0)) + x8) :: .inr s3 :: S) h) : PW G X 5 Q k n 61 [some (.inr a0), some (.inl a1), some (.inl a2), some (.inl a3), some (.inl a4)] (.inl s0 :: .inl s1 :: .inl s2 :: .inr s3 :: S) h := by
  refine pw_imul C dX7_takeBy_61 ?_
  refine pw_iadd C dX7_takeBy_62 ?_
  refine pw_aload_n C dX7_takeBy_63 rfl ?_
  refine pw_getR C (t := 7) (f := 9) rfl inF7 rfl (by decide) (by decide) rfl kw687 dX7_takeBy_64 t1 ?_
  rw [e3]
  refine pw_iload C dX7_takeBy_67 rfl ?_
  refine pw_iald C dX7_takeBy_69 t4 q5 q6 q7 ?_
  rw [e9]
  refine pw_iadd C dX7_takeBy_70 ?_
  refine pw_dup2 C dX7_takeBy_71 ?_
  refine pw_iald C dX7_takeBy_72 t10 q11 q12 q13 ?_
  rw [e15]
  refine pw_aload_n C dX7_takeBy_73 rfl ?_
  refine pw_getR C (t := 7) (f := 10) rfl inF7 rfl (by decide) (by decide) rfl kw688 dX7_takeBy_74 t16 ?_
  rw [e18]
  refine pw_iload C dX7_takeBy_77 rfl ?_
  refine pw_zald C dX7_takeBy_79 t19 q20 q21 q22 ?_
  rw [e24]
  exact pw_if_eq C 87 dX7_takeBy_80 (by decide) q25 kt kf
set_option maxRecDepth 20000 in
theorem B_X7_takeBy_83 {G : Gx} {X : Cx} {h : PH} {k n : Nat} {Q : State → Prop} {S : List PV} {a0 : Nat} {a1 : Int} {a2 : Int} {a3 : Int} {a4 : Int} {s0 : Int} {s1 : Int} {s2 : Nat} (C : CX_X7_takeBy G X) (kk : PW G X 5 Q k n 88 [some (.inr a0), some (.inl a1), some (.inl a2), some (.inl a3), some (.inl a4)] (.inl 1 :: .inl s0 :: .inl s1 :: .inr s2 :: S) h) : PW G X 5 Q k n 83 [some (.inr a0), some (.inl a1), some (.inl a2), some (.inl a3), some (.inl a4)] (.inl s0 :: .inl s1 :: .inr s2 :: S) h := by
  refine pw_iconst C dX7_takeBy_83 ?_
  refine pw_goto C 88 dX7_takeBy_84 (by decide) ?_
  exact kk
set_option maxRecDepth 20000 in
theorem B_X7_takeBy_87 {G : Gx} {X : Cx} {h : PH} {k n : Nat} {Q : State → Prop} {S : List PV} {a0 : Nat} {a1 : Int} {a2 : Int} {a3 : Int} {a4 : Int} {s0 : Int} {s1 : Int} {s2 : Nat} (C : CX_X7_takeBy G X) (kk : PW G X 5 Q k n 88 [some (.inr a0), some (.inl a1), some (.inl a2), some (.inl a3), some (.inl a4)] (.inl 0 :: .inl s0 :: .inl s1 :: .inr s2 :: S) h) : PW G X 5 Q k n 87 [some (.inr a0), some (.inl a1), some (.inl a2), some (.inl a3), some (.inl a4)] (.inl s0 :: .inl s1 :: .inr s2 :: S) h := by
  refine pw_iconst C dX7_takeBy_87 ?_
  exact kk
set_option maxRecDepth 20000 in
theorem B_X7_takeBy_88 {G : Gx} {X : Cx} {h : PH} {k n : Nat} {Q : State → Prop} {S : List PV} {a0 : Nat} {a1 : Int} {a2 : Int} {a3 : Int} {a4 : Int} {s0 : Int} {s1 : Int} {s2 : Int} {s3 : Nat} (C : CX_X7_takeBy G X) (t1 : ph_T h s3 = 8 := by first | assumption | rfl) (q2 : (0 : Int) ≤ s2 := by first | assumption | omega) (q3 : s2 < (ph_L h s3 : Int) := by first | assumption | omega) (q4 : pR s2 := by first | assumption | (unfold pR; omega)) (kk : PW G X 5 Q k n 33 [some (.inr a0), some (.inl a1), some (.inl a2), some (.inl a3), some (.inl (a4 + 1))] (S) (ph_setI h s3 (Int.toNat s2) (s1 + s0))) : PW G X 5 Q k n 88 [some (.inr a0), some (.inl a1), some (.inl a2), some (.inl a3), some (.inl a4)] (.inl s0 :: .inl s1 :: .inl s2 :: .inr s3 :: S) h := by
  refine pw_iadd C dX7_takeBy_88 ?_
  refine pw_iast C dX7_takeBy_89 t1 q2 q3 q4 ?_
  refine pw_iinc C dX7_takeBy_90 rfl (by decide) ?_
  refine pw_goto C 33 dX7_takeBy_93 (by decide) ?_
  exact kk
set_option maxRecDepth 20000 in
theorem B_X7_takeBy_96 {G : Gx} {X : Cx} {h : PH} {k n : Nat} {Q : State → Prop} {S : List PV} {a0 : Nat} {a1 : Int} {a2 : Int} {a3 : Int} {a4 : Int} {r2 : Nat} {r5 : Nat} {PQ : Option PV → PH → Prop} (C : CX_X7_takeBy G X) (hk0 : k ≤ 0 := by decide) (hn0 : n ≤ 0 := by decide) (t1 : ph_T h a0 = 7 := by first | assumption | rfl) (e3 : ph_R h a0 0 = r2 := by first | assumption | rfl) (t4 : ph_T h a0 = 7 := by first | assumption | rfl) (e6 : ph_R h a0 8 = r5 := by first | assumption | rfl) (t7 : ph_T h a0 = 7 := by first | assumption | rfl) (hM : CT_X7_lastTick G X.2.1 [.inr a0] h PQ) (hS : S.length ≤ 5 := by decide) (kk : ∀ r h', PQ r h' → PW G X 5 Q k n 113 [some (.inr a0), some (.inl a1), some (.inl a2), some (.inl a3), some (.inl a4)] (r.toList ++ (.inr r5 :: .inl (296 + a1) :: .inr r2 :: S)) h') : PW G X 5 Q k n 96 [some (.inr a0), some (.inl a1), some (.inl a2), some (.inl a3), some (.inl a4)] (S) h := by
  refine pw_aload_n C dX7_takeBy_96 rfl ?_
  refine pw_getR C (t := 7) (f := 0) rfl inF7 rfl (by decide) (by decide) rfl kw678 dX7_takeBy_97 t1 ?_
  rw [e3]
  refine pw_sipush C dX7_takeBy_100 rfl ?_
  refine pw_iload_n C dX7_takeBy_103 rfl ?_
  refine pw_iadd C dX7_takeBy_104 ?_
  refine pw_aload_n C dX7_takeBy_105 rfl ?_
  refine pw_getR C (t := 7) (f := 8) rfl inF7 rfl (by decide) (by decide) rfl kw686 dX7_takeBy_106 t4 ?_
  rw [e6]
  refine pw_aload_n C dX7_takeBy_109 rfl ?_
  exact pw_callV C (na := 0) (As := []) (S := .inr r5 :: .inl (296 + a1) :: .inr r2 :: S) hM t7 (by decide) (hcl := by rfl) kw805 kw807 kw22 kw45 kw808 (by decide +kernel) rfl dX7_takeBy_110 (by decide) (by decide) hk0 hn0 (by first | exact hS | (simp only [List.length_cons]; omega)) kk
set_option maxRecDepth 20000 in
theorem B_X7_takeBy_113 {G : Gx} {X : Cx} {h : PH} {k n : Nat} {Q : State → Prop} {S : List PV} {a0 : Nat} {a1 : Int} {a2 : Int} {a3 : Int} {a4 : Int} {s0 : Int} {s1 : Nat} {s2 : Int} {s3 : Nat} {x5 : Int} {r13 : Nat} {r16 : Nat} {PQ : Option PV → PH → Prop} (C : CX_X7_takeBy G X) (hk0 : k ≤ 0 := by decide) (hn0 : n ≤ 0 := by decide) (t1 : ph_T h s1 = 8 := by first | assumption | rfl) (q2 : (0 : Int) ≤ s0 := by first | assumption | omega) (q3 : s0 < (ph_L h s1 : Int) := by first | assumption | omega) (q4 : pR s0 := by first | assumption | (unfold pR; omega)) (e6 : ph_I h s1 (Int.toNat s0) = x5 := by first | assumption | rfl) (t7 : ph_T h s3 = 8 := by first | assumption | rfl) (q8 : (0 : Int) ≤ s2 := by first | assumption | omega) (q9 : s2 < (ph_L h s3 : Int) := by first | assumption | omega) (q10 : pR s2 := by first | assumption | (unfold pR; omega)) (t12 : ph_T h a0 = 7 := by first | assumption | rfl) (e14 : ph_R h a0 0 = r13 := by first | assumption | rfl) (t15 : ph_T h a0 = 7 := by first | assumption | rfl) (e17 : ph_R h a0 9 = r16 := by first | assumption | rfl) (t18 : ph_T h a0 = 7 := by first | assumption | rfl) (hM : CT_X7_lastTick G X.2.1 [.inr a0] (ph_setI h s3 (Int.toNat s2) x5) PQ) (hS : S.length ≤ 5 := by decide) (kk : ∀ r h', PQ r h' → PW G X 5 Q k n 132 [some (.inr a0), some (.inl a1), some (.inl a2), some (.inl a3), some (.inl a4)] (r.toList ++ (.inr r16 :: .inl (300 + a1) :: .inr r13 :: S)) h') : PW G X 5 Q k n 113 [some (.inr a0), some (.inl a1), some (.inl a2), some (.inl a3), some (.inl a4)] (.inl s0 :: .inr s1 :: .inl s2 :: .inr s3 :: S) h := by
  refine pw_iald C dX7_takeBy_113 t1 q2 q3 q4 ?_
  rw [e6]
  refine pw_iast C dX7_takeBy_114 t7 q8 q9 q10 ?_
  refine pw_aload_n C dX7_takeBy_115 rfl ?_
  refine pw_getR C (t := 7) (f := 0) rfl inF7 rfl (by decide) (by decide) rfl kw678 dX7_takeBy_116 t12 ?_
  rw [show ph_R (ph_setI h s3 (Int.toNat s2) x5) a0 0 = r13 from e14]
  refine pw_sipush C dX7_takeBy_119 rfl ?_
  refine pw_iload_n C dX7_takeBy_122 rfl ?_
  refine pw_iadd C dX7_takeBy_123 ?_
  refine pw_aload_n C dX7_takeBy_124 rfl ?_
  refine pw_getR C (t := 7) (f := 9) rfl inF7 rfl (by decide) (by decide) rfl kw687 dX7_takeBy_125 t15 ?_
  rw [show ph_R (ph_setI h s3 (Int.toNat s2) x5) a0 9 = r16 from e17]
  refine pw_aload_n C dX7_takeBy_128 rfl ?_
  exact pw_callV C (na := 0) (As := []) (S := .inr r16 :: .inl (300 + a1) :: .inr r13 :: S) hM t18 (by decide) (hcl := by rfl) kw805 kw807 kw22 kw45 kw808 (by decide +kernel) rfl dX7_takeBy_129 (by decide) (by decide) hk0 hn0 (by first | exact hS | (simp only [List.length_cons]; omega)) kk
set_option maxRecDepth 20000 in
theorem B_X7_takeBy_132 {G : Gx} {X : Cx} {h : PH} {k n : Nat} {Q : State → Prop} {S : List PV} {a0 : Nat} {a1 : Int} {a2 : Int} {a3 : Int} {a4 : Int} {s0 : Int} {s1 : Nat} {s2 : Int} {s3 : Nat} {x5 : Int} {r13 : Nat} {PQ : Option PV → PH → Prop} (C : CX_X7_takeBy G X) (hk0 : k ≤ 0 := by decide) (hn0 : n ≤ 0 := by decide) (t1 : ph_T h s1 = 8 := by first | assumption | rfl) (q2 : (0 : Int) ≤ s0 := by first | assumption | omega) (q3 : s0 < (ph_L h s1 : Int) := by first | assumption | omega) (q4 : pR s0 := by first | assumption | (unfold pR; omega)) (e6 : ph_I h s1 (Int.toNat s0) = x5 := by first | assumption | rfl) (t7 : ph_T h s3 = 8 := by first | assumption | rfl) (q8 : (0 : Int) ≤ s2 := by first | assumption | omega) (q9 : s2 < (ph_L h s3 : Int) := by first | assumption | omega) (q10 : pR s2 := by first | assumption | (unfold pR; omega)) (t12 : ph_T h a0 = 7 := by first | assumption | rfl) (e14 : ph_R h a0 0 = r13 := by first | assumption | rfl) (t15 : ph_T h a0 = 7 := by first | assumption | rfl) (hM : CT_X7_lastTick G X.2.1 [.inr a0] (ph_setI h s3 (Int.toNat s2) x5) PQ) (hS : S.length ≤ 6 := by decide) (kk : ∀ r h', PQ r h' → PW G X 5 Q k n 147 [some (.inr a0), some (.inl a1), some (.inl a2), some (.inl a3), some (.inl a4)] (r.toList ++ (.inl (304 + a1) :: .inr r13 :: S)) h') : PW G X 5 Q k n 132 [some (.inr a0), some (.inl a1), some (.inl a2), some (.inl a3), some (.inl a4)] (.inl s0 :: .inr s1 :: .inl s2 :: .inr s3 :: S) h := by
  refine pw_iald C dX7_takeBy_132 t1 q2 q3 q4 ?_
  rw [e6]
  refine pw_iast C dX7_takeBy_133 t7 q8 q9 q10 ?_
  refine pw_aload_n C dX7_takeBy_134 rfl ?_
  refine pw_getR C (t := 7) (f := 0) rfl inF7 rfl (by decide) (by decide) rfl kw678 dX7_takeBy_135 t12 ?_
  rw [show ph_R (ph_setI h s3 (Int.toNat s2) x5) a0 0 = r13 from e14]
  refine pw_sipush C dX7_takeBy_138 rfl ?_
  refine pw_iload_n C dX7_takeBy_141 rfl ?_
  refine pw_iadd C dX7_takeBy_142 ?_
  refine pw_aload_n C dX7_takeBy_143 rfl ?_
  exact pw_callV C (na := 0) (As := []) (S := .inl (304 + a1) :: .inr r13 :: S) hM t15 (by decide) (hcl := by rfl) kw805 kw807 kw22 kw45 kw808 (by decide +kernel) rfl dX7_takeBy_144 (by decide) (by decide) hk0 hn0 (by first | exact hS | (simp only [List.length_cons]; omega)) kk
set_option maxRecDepth 20000 in
theorem B_X7_takeBy_147 {G : Gx} {X : Cx} {h : PH} {k n : Nat} {Q : State → Prop} {S : List PV} {a0 : Nat} {a1 : Int} {a2 : Int} {a3 : Int} {a4 : Int} {s0 : Int} {s1 : Int} {s2 : Nat} {r7 : Nat} {r15 : Nat} {PQ : Option PV → PH → Prop} (C : CX_X7_takeBy G X) (hk0 : k ≤ 0 := by decide) (hn0 : n ≤ 0 := by decide) (t1 : ph_T h s2 = 8 := by first | assumption | rfl) (q2 : (0 : Int) ≤ s1 := by first | assumption | omega) (q3 : s1 < (ph_L h s2 : Int) := by first | assumption | omega) (q4 : pR s1 := by first | assumption | (unfold pR; omega)) (t6 : ph_T h a0 = 7 := by first | assumption | rfl) (e8 : ph_R h a0 0 = r7 := by first | assumption | rfl) (t9 : ph_T h r7 = 8 := by first | assumption | rfl) (q10 : (0 : Int) ≤ 24 + a2 := by first | assumption | omega) (q11 : 24 + a2 < (ph_L h r7 : Int) := by first | assumption | omega) (q12 : pR (24 + a2) := by first | assumption | (unfold pR; omega)) (t14 : ph_T h a0 = 7 := by first | assumption | rfl) (e16 : ph_R h a0 0 = r15 := by first | assumption | rfl) (hM : CT_X7_seenOf G X.2.1 [.inl a3] (ph_setI (ph_setI h s2 (Int.toNat s1) (s0 + 1)) r7 (Int.toNat (24 + a2)) a1) PQ) (hS : S.length ≤ 6 := by decide) (kk : ∀ r h', PQ r h' → PW G X 5 Q k n 172 [some (.inr a0), some (.inl a1), some (.inl a2), some (.inl a3), some (.inl a4)] (r.toList ++ (.inl (32 + a2) :: .inr r15 :: S)) h') : PW G X 5 Q k n 147 [some (.inr a0), some (.inl a1), some (.inl a2), some (.inl a3), some (.inl a4)] (.inl s0 :: .inl s1 :: .inr s2 :: S) h := by
  refine pw_iconst C dX7_takeBy_147 ?_
  refine pw_iadd C dX7_takeBy_148 ?_
  refine pw_iast C dX7_takeBy_149 t1 q2 q3 q4 ?_
  refine pw_aload_n C dX7_takeBy_150 rfl ?_
  refine pw_getR C (t := 7) (f := 0) rfl inF7 rfl (by decide) (by decide) rfl kw678 dX7_takeBy_151 t6 ?_
  rw [show ph_R (ph_setI h s2 (Int.toNat s1) (s0 + 1)) a0 0 = r7 from e8]
  refine pw_bipush C dX7_takeBy_154 rfl ?_
  refine pw_iload_n C dX7_takeBy_156 rfl ?_
  refine pw_iadd C dX7_takeBy_157 ?_
  refine pw_iload_n C dX7_takeBy_158 rfl ?_
  refine pw_iast C dX7_takeBy_159 t9 q10 q11 q12 ?_
  refine pw_aload_n C dX7_takeBy_160 rfl ?_
  refine pw_getR C (t := 7) (f := 0) rfl inF7 rfl (by decide) (by decide) rfl kw678 dX7_takeBy_161 t14 ?_
  rw [show ph_R (ph_setI (ph_setI h s2 (Int.toNat s1) (s0 + 1)) r7 (Int.toNat (24 + a2)) a1) a0 0 = r15 from e16]
  refine pw_bipush C dX7_takeBy_164 rfl ?_
  refine pw_iload_n C dX7_takeBy_166 rfl ?_
  refine pw_iadd C dX7_takeBy_167 ?_
  refine pw_iload_n C dX7_takeBy_168 rfl ?_
  exact pw_callS C (na := 1) (As := [.inl a3]) (S := .inl (32 + a2) :: .inr r15 :: S) hM kw837 kw838 kw45 kw839 (by decide +kernel) rfl dX7_takeBy_169 (by decide) (by decide) hk0 hn0 (by first | exact hS | (simp only [List.length_cons]; omega)) kk
set_option maxRecDepth 20000 in
theorem B_X7_takeBy_172 {G : Gx} {X : Cx} {h : PH} {k n : Nat} {Q : State → Prop} {S : List PV} {a0 : Nat} {a1 : Int} {a2 : Int} {a3 : Int} {a4 : Int} {s0 : Int} {s1 : Int} {s2 : Nat} {PQ : Option PV → PH → Prop} (C : CX_X7_takeBy G X) (hk0 : k ≤ 0 := by decide) (hn0 : n ≤ 0 := by decide) (t1 : ph_T h s2 = 8 := by first | assumption | rfl) (q2 : (0 : Int) ≤ s1 := by first | assumption | omega) (q3 : s1 < (ph_L h s2 : Int) := by first | assumption | omega) (q4 : pR s1 := by first | assumption | (unfold pR; omega)) (hM : CT_X7_seenOf G X.2.1 [.inl a3] (ph_setI h s2 (Int.toNat s1) s0) PQ) (hS : S.length ≤ 8 := by decide) (kk : ∀ r h', PQ r h' → PW G X 5 Q k n 177 [some (.inr a0), some (.inl a1), some (.inl a2), some (.inl a3), some (.inl a4)] (r.toList ++ S) h') : PW G X 5 Q k n 172 [some (.inr a0), some (.inl a1), some (.inl a2), some (.inl a3), some (.inl a4)] (.inl s0 :: .inl s1 :: .inr s2 :: S) h := by
  refine pw_iast C dX7_takeBy_172 t1 q2 q3 q4 ?_
  refine pw_iload_n C dX7_takeBy_173 rfl ?_
  exact pw_callS C (na := 1) (As := [.inl a3]) (S := S) hM kw837 kw838 kw45 kw839 (by decide +kernel) rfl dX7_takeBy_174 (by decide) (by decide) hk0 hn0 (by first | exact hS | (simp only [List.length_cons]; omega)) kk
set_option maxRecDepth 20000 in
theorem B_X7_takeBy_177 {G : Gx} {X : Cx} {h : PH} {k n : Nat} {a0 : Nat} {a1 : Int} {a2 : Int} {a3 : Int} {a4 : Int} {s0 : Int} {PQ : Option PV → PH → Prop} (C : CX_X7_takeBy G X) (hq : PQ (some (.inl s0)) h) : PW G X 5 (pw_E G X PQ k n) k n 177 [some (.inr a0), some (.inl a1), some (.inl a2), some (.inl a3), some (.inl a4)] [.inl s0] h := by
  exact pw_ireturn C dX7_takeBy_177 hq
theorem dX7_take_0 : decode cX7_take 0 = .ok (.aload_n 0, 1) := by decide +kernel
theorem dX7_take_1 : decode cX7_take 1 = .ok (.iload_n 2, 1) := by decide +kernel
theorem dX7_take_2 : decode cX7_take 2 = .ok (.invokevirtual 37, 3) := by decide +kernel
theorem dX7_take_5 : decode cX7_take 5 = .ok (.istore_n 3, 1) := by decide +kernel
theorem dX7_take_6 : decode cX7_take 6 = .ok (.iload_n 1, 1) := by decide +kernel
theorem dX7_take_7 : decode cX7_take 7 = .ok (.invokestatic 45, 3) := by decide +kernel
theorem dX7_take_10 : decode cX7_take 10 = .ok (.ifCond .eq 7, 3) := by decide +kernel
theorem dX7_take_13 : decode cX7_take 13 = .ok (.iload_n 3, 1) := by decide +kernel
theorem dX7_take_14 : decode cX7_take 14 = .ok (.ifCond .ge 5, 3) := by decide +kernel
theorem dX7_take_17 : decode cX7_take 17 = .ok (.iconst (-1), 1) := by decide +kernel
theorem dX7_take_18 : decode cX7_take 18 = .ok (.ireturn, 1) := by decide +kernel
theorem dX7_take_19 : decode cX7_take 19 = .ok (.aload_n 0, 1) := by decide +kernel
theorem dX7_take_20 : decode cX7_take 20 = .ok (.iload_n 3, 1) := by decide +kernel
theorem dX7_take_21 : decode cX7_take 21 = .ok (.invokevirtual 108, 3) := by decide +kernel
theorem dX7_take_24 : decode cX7_take 24 = .ok (.ifCond .eq 12, 3) := by decide +kernel
theorem dX7_take_27 : decode cX7_take 27 = .ok (.aload_n 0, 1) := by decide +kernel
theorem dX7_take_28 : decode cX7_take 28 = .ok (.iload_n 1, 1) := by decide +kernel
theorem dX7_take_29 : decode cX7_take 29 = .ok (.iload_n 3, 1) := by decide +kernel
theorem dX7_take_30 : decode cX7_take 30 = .ok (.invokevirtual 134, 3) := by decide +kernel
theorem dX7_take_33 : decode cX7_take 33 = .ok (.goto 5, 3) := by decide +kernel
theorem dX7_take_36 : decode cX7_take 36 = .ok (.bipush (-3), 2) := by decide +kernel
theorem dX7_take_38 : decode cX7_take 38 = .ok (.ireturn, 1) := by decide +kernel
set_option maxRecDepth 20000 in
theorem B_X7_take_0 {G : Gx} {X : Cx} {h : PH} {k n : Nat} {Q : State → Prop} {S : List PV} {a0 : Nat} {a1 : Int} {a2 : Int} {PQ : Option PV → PH → Prop} (C : CX_X7_take G X) (hk0 : k ≤ 0 := by decide) (hn0 : n ≤ 0 := by decide) (t1 : ph_T h a0 = 7 := by first | assumption | rfl) (hM : CT_X7_passOf G X.2.1 [.inr a0, .inl a2] h PQ) (hS : S.length ≤ 8 := by decide) (kk : ∀ r h', PQ r h' → PW G X 4 Q k n 5 [some (.inr a0), some (.inl a1), some (.inl a2), none] (r.toList ++ S) h') : PW G X 4 Q k n 0 [some (.inr a0), some (.inl a1), some (.inl a2), none] (S) h := by
  refine pw_aload_n C dX7_take_0 rfl ?_
  refine pw_iload_n C dX7_take_1 rfl ?_
  exact pw_callV C (na := 1) (As := [.inl a2]) (S := S) hM t1 (by decide) (hcl := by rfl) kw722 kw724 kw17 kw45 kw725 (by decide +kernel) rfl dX7_take_2 (by decide) (by decide) hk0 hn0 (by first | exact hS | (simp only [List.length_cons]; omega)) kk
set_option maxRecDepth 20000 in
theorem B_X7_take_5 {G : Gx} {X : Cx} {h : PH} {k n : Nat} {Q : State → Prop} {S : List PV} {a0 : Nat} {a1 : Int} {a2 : Int} {s0 : Int} {PQ : Option PV → PH → Prop} (C : CX_X7_take G X) (hk0 : k ≤ 0 := by decide) (hn0 : n ≤ 0 := by decide) (hM : CT_X7_isDish G X.2.1 [.inl a1] h PQ) (hS : S.length ≤ 8 := by decide) (kk : ∀ r h', PQ r h' → PW G X 4 Q k n 10 [some (.inr a0), some (.inl a1), some (.inl a2), some (.inl s0)] (r.toList ++ S) h') : PW G X 4 Q k n 5 [some (.inr a0), some (.inl a1), some (.inl a2), none] (.inl s0 :: S) h := by
  refine pw_istore_n C dX7_take_5 (by decide) ?_
  refine pw_iload_n C dX7_take_6 rfl ?_
  exact pw_callS C (na := 1) (As := [.inl a1]) (S := S) hM kw741 kw742 kw45 kw743 (by decide +kernel) rfl dX7_take_7 (by decide) (by decide) hk0 hn0 (by first | exact hS | (simp only [List.length_cons]; omega)) kk
set_option maxRecDepth 20000 in
theorem B_X7_take_10 {G : Gx} {X : Cx} {h : PH} {k n : Nat} {Q : State → Prop} {S : List PV} {a0 : Nat} {a1 : Int} {a2 : Int} {a3 : Int} {s0 : Int} (C : CX_X7_take G X) (q1 : pR s0 := by first | assumption | (unfold pR; omega)) (kt : s0 = 0 → PW G X 4 Q k n 17 [some (.inr a0), some (.inl a1), some (.inl a2), some (.inl a3)] (S) h) (kf : ¬ s0 = 0 → PW G X 4 Q k n 13 [some (.inr a0), some (.inl a1), some (.inl a2), some (.inl a3)] (S) h) : PW G X 4 Q k n 10 [some (.inr a0), some (.inl a1), some (.inl a2), some (.inl a3)] (.inl s0 :: S) h := by
  exact pw_if_eq C 17 dX7_take_10 (by decide) q1 kt kf
set_option maxRecDepth 20000 in
theorem B_X7_take_13 {G : Gx} {X : Cx} {h : PH} {k n : Nat} {Q : State → Prop} {S : List PV} {a0 : Nat} {a1 : Int} {a2 : Int} {a3 : Int} (C : CX_X7_take G X) (q1 : pR a3 := by first | assumption | (unfold pR; omega)) (kt : 0 ≤ a3 → PW G X 4 Q k n 19 [some (.inr a0), some (.inl a1), some (.inl a2), some (.inl a3)] (S) h) (kf : ¬ 0 ≤ a3 → PW G X 4 Q k n 17 [some (.inr a0), some (.inl a1), some (.inl a2), some (.inl a3)] (S) h) : PW G X 4 Q k n 13 [some (.inr a0), some (.inl a1), some (.inl a2), some (.inl a3)] (S) h := by
  refine pw_iload_n C dX7_take_13 rfl ?_
  exact pw_if_ge C 19 dX7_take_14 (by decide) q1 kt kf
set_option maxRecDepth 20000 in
theorem B_X7_take_17 {G : Gx} {X : Cx} {h : PH} {k n : Nat} {a0 : Nat} {a1 : Int} {a2 : Int} {a3 : Int} {PQ : Option PV → PH → Prop} (C : CX_X7_take G X) (hq : PQ (some (.inl (-1))) h) : PW G X 4 (pw_E G X PQ k n) k n 17 [some (.inr a0), some (.inl a1), some (.inl a2), some (.inl a3)] [] h := by
  refine pw_iconst C dX7_take_17 ?_
  exact pw_ireturn C dX7_take_18 hq
set_option maxRecDepth 20000 in
theorem B_X7_take_19 {G : Gx} {X : Cx} {h : PH} {k n : Nat} {Q : State → Prop} {S : List PV} {a0 : Nat} {a1 : Int} {a2 : Int} {a3 : Int} {PQ : Option PV → PH → Prop} (C : CX_X7_take G X) (hk0 : k ≤ 0 := by decide) (hn0 : n ≤ 0 := by decide) (t1 : ph_T h a0 = 7 := by first | assumption | rfl) (hM : CT_X7_isOpen G X.2.1 [.inr a0, .inl a3] h PQ) (hS : S.length ≤ 8 := by decide) (kk : ∀ r h', PQ r h' → PW G X 4 Q k n 24 [some (.inr a0), some (.inl a1), some (.inl a2), some (.inl a3)] (r.toList ++ S) h') : PW G X 4 Q k n 19 [some (.inr a0), some (.inl a1), some (.inl a2), some (.inl a3)] (S) h := by
  refine pw_aload_n C dX7_take_19 rfl ?_
  refine pw_iload_n C dX7_take_20 rfl ?_
  exact pw_callV C (na := 1) (As := [.inl a3]) (S := S) hM t1 (by decide) (hcl := by rfl) kw793 kw795 kw19 kw45 kw796 (by decide +kernel) rfl dX7_take_21 (by decide) (by decide) hk0 hn0 (by first | exact hS | (simp only [List.length_cons]; omega)) kk
set_option maxRecDepth 20000 in
theorem B_X7_take_24 {G : Gx} {X : Cx} {h : PH} {k n : Nat} {Q : State → Prop} {S : List PV} {a0 : Nat} {a1 : Int} {a2 : Int} {a3 : Int} {s0 : Int} (C : CX_X7_take G X) (q1 : pR s0 := by first | assumption | (unfold pR; omega)) (kt : s0 = 0 → PW G X 4 Q k n 36 [some (.inr a0), some (.inl a1), some (.inl a2), some (.inl a3)] (S) h) (kf : ¬ s0 = 0 → PW G X 4 Q k n 27 [some (.inr a0), some (.inl a1), some (.inl a2), some (.inl a3)] (S) h) : PW G X 4 Q k n 24 [some (.inr a0), some (.inl a1), some (.inl a2), some (.inl a3)] (.inl s0 :: S) h := by
  exact pw_if_eq C 36 dX7_take_24 (by decide) q1 kt kf
set_option maxRecDepth 20000 in
theorem B_X7_take_27 {G : Gx} {X : Cx} {h : PH} {k n : Nat} {Q : State → Prop} {S : List PV} {a0 : Nat} {a1 : Int} {a2 : Int} {a3 : Int} {PQ : Option PV → PH → Prop} (C : CX_X7_take G X) (hk0 : k ≤ 0 := by decide) (hn0 : n ≤ 0 := by decide) (t1 : ph_T h a0 = 7 := by first | assumption | rfl) (hM : CT_X7_takeBy G X.2.1 [.inr a0, .inl a1, .inl a3] h PQ) (hS : S.length ≤ 8 := by decide) (kk : ∀ r h', PQ r h' → PW G X 4 Q k n 33 [some (.inr a0), some (.inl a1), some (.inl a2), some (.inl a3)] (r.toList ++ S) h') : PW G X 4 Q k n 27 [some (.inr a0), some (.inl a1), some (.inl a2), some (.inl a3)] (S) h := by
  refine pw_aload_n C dX7_take_27 rfl ?_
  refine pw_iload_n C dX7_take_28 rfl ?_
  refine pw_iload_n C dX7_take_29 rfl ?_
  exact pw_callV C (na := 2) (As := [.inl a1, .inl a3]) (S := S) hM t1 (by decide) (hcl := by rfl) kw871 kw873 kw32 kw45 kw874 (by decide +kernel) rfl dX7_take_30 (by decide) (by decide) hk0 hn0 (by first | exact hS | (simp only [List.length_cons]; omega)) kk
set_option maxRecDepth 20000 in
theorem B_X7_take_33 {G : Gx} {X : Cx} {h : PH} {k n : Nat} {Q : State → Prop} {S : List PV} {a0 : Nat} {a1 : Int} {a2 : Int} {a3 : Int} {s0 : Int} (C : CX_X7_take G X) (kk : PW G X 4 Q k n 38 [some (.inr a0), some (.inl a1), some (.inl a2), some (.inl a3)] (.inl s0 :: S) h) : PW G X 4 Q k n 33 [some (.inr a0), some (.inl a1), some (.inl a2), some (.inl a3)] (.inl s0 :: S) h := by
  refine pw_goto C 38 dX7_take_33 (by decide) ?_
  exact kk
set_option maxRecDepth 20000 in
theorem B_X7_take_36 {G : Gx} {X : Cx} {h : PH} {k n : Nat} {Q : State → Prop} {S : List PV} {a0 : Nat} {a1 : Int} {a2 : Int} {a3 : Int} (C : CX_X7_take G X) (kk : PW G X 4 Q k n 38 [some (.inr a0), some (.inl a1), some (.inl a2), some (.inl a3)] (.inl (-3) :: S) h) : PW G X 4 Q k n 36 [some (.inr a0), some (.inl a1), some (.inl a2), some (.inl a3)] (S) h := by
  refine pw_bipush C dX7_take_36 rfl ?_
  exact kk
set_option maxRecDepth 20000 in
theorem B_X7_take_38 {G : Gx} {X : Cx} {h : PH} {k n : Nat} {a0 : Nat} {a1 : Int} {a2 : Int} {a3 : Int} {s0 : Int} {PQ : Option PV → PH → Prop} (C : CX_X7_take G X) (hq : PQ (some (.inl s0)) h) : PW G X 4 (pw_E G X PQ k n) k n 38 [some (.inr a0), some (.inl a1), some (.inl a2), some (.inl a3)] [.inl s0] h := by
  exact pw_ireturn C dX7_take_38 hq
theorem dX7_nextPass_0 : decode cX7_nextPass 0 = .ok (.bipush (-6), 2) := by decide +kernel
theorem dX7_nextPass_2 : decode cX7_nextPass 2 = .ok (.istore_n 3, 1) := by decide +kernel
theorem dX7_nextPass_3 : decode cX7_nextPass 3 = .ok (.iconst 0, 1) := by decide +kernel
theorem dX7_nextPass_4 : decode cX7_nextPass 4 = .ok (.istore 4, 2) := by decide +kernel
theorem dX7_nextPass_6 : decode cX7_nextPass 6 = .ok (.iload 4, 2) := by decide +kernel
theorem dX7_nextPass_8 : decode cX7_nextPass 8 = .ok (.aload_n 0, 1) := by decide +kernel
theorem dX7_nextPass_9 : decode cX7_nextPass 9 = .ok (.getfield 7, 3) := by decide +kernel
theorem dX7_nextPass_12 : decode cX7_nextPass 12 = .ok (.sipush 484, 3) := by decide +kernel
theorem dX7_nextPass_15 : decode cX7_nextPass 15 = .ok (.iaload, 1) := by decide +kernel
theorem dX7_nextPass_16 : decode cX7_nextPass 16 = .ok (.if_icmp .ge 85, 3) := by decide +kernel
theorem dX7_nextPass_19 : decode cX7_nextPass 19 = .ok (.aload_n 0, 1) := by decide +kernel
theorem dX7_nextPass_20 : decode cX7_nextPass 20 = .ok (.getfield 7, 3) := by decide +kernel
theorem dX7_nextPass_23 : decode cX7_nextPass 23 = .ok (.bipush 8, 2) := by decide +kernel
theorem dX7_nextPass_25 : decode cX7_nextPass 25 = .ok (.iload 4, 2) := by decide +kernel
theorem dX7_nextPass_27 : decode cX7_nextPass 27 = .ok (.iadd, 1) := by decide +kernel
theorem dX7_nextPass_28 : decode cX7_nextPass 28 = .ok (.iaload, 1) := by decide +kernel
theorem dX7_nextPass_29 : decode cX7_nextPass 29 = .ok (.istore 5, 2) := by decide +kernel
theorem dX7_nextPass_31 : decode cX7_nextPass 31 = .ok (.iload 5, 2) := by decide +kernel
theorem dX7_nextPass_33 : decode cX7_nextPass 33 = .ok (.iload_n 1, 1) := by decide +kernel
theorem dX7_nextPass_34 : decode cX7_nextPass 34 = .ok (.if_icmp .gt 15, 3) := by decide +kernel
theorem dX7_nextPass_37 : decode cX7_nextPass 37 = .ok (.iload 5, 2) := by decide +kernel
theorem dX7_nextPass_39 : decode cX7_nextPass 39 = .ok (.iload_n 1, 1) := by decide +kernel
theorem dX7_nextPass_40 : decode cX7_nextPass 40 = .ok (.if_icmp .ne 13, 3) := by decide +kernel
theorem dX7_nextPass_43 : decode cX7_nextPass 43 = .ok (.iload 4, 2) := by decide +kernel
theorem dX7_nextPass_45 : decode cX7_nextPass 45 = .ok (.iload_n 2, 1) := by decide +kernel
theorem dX7_nextPass_46 : decode cX7_nextPass 46 = .ok (.if_icmp .le 7, 3) := by decide +kernel
theorem dX7_nextPass_49 : decode cX7_nextPass 49 = .ok (.iconst 1, 1) := by decide +kernel
theorem dX7_nextPass_50 : decode cX7_nextPass 50 = .ok (.goto 4, 3) := by decide +kernel
theorem dX7_nextPass_53 : decode cX7_nextPass 53 = .ok (.iconst 0, 1) := by decide +kernel
theorem dX7_nextPass_54 : decode cX7_nextPass 54 = .ok (.istore 6, 2) := by decide +kernel
theorem dX7_nextPass_56 : decode cX7_nextPass 56 = .ok (.aload_n 0, 1) := by decide +kernel
theorem dX7_nextPass_57 : decode cX7_nextPass 57 = .ok (.iload 4, 2) := by decide +kernel
theorem dX7_nextPass_59 : decode cX7_nextPass 59 = .ok (.invokevirtual 108, 3) := by decide +kernel
theorem dX7_nextPass_62 : decode cX7_nextPass 62 = .ok (.ifCond .eq 31, 3) := by decide +kernel
theorem dX7_nextPass_65 : decode cX7_nextPass 65 = .ok (.iload 6, 2) := by decide +kernel
theorem dX7_nextPass_67 : decode cX7_nextPass 67 = .ok (.ifCond .eq 26, 3) := by decide +kernel
theorem dX7_nextPass_70 : decode cX7_nextPass 70 = .ok (.iload_n 3, 1) := by decide +kernel
theorem dX7_nextPass_71 : decode cX7_nextPass 71 = .ok (.ifCond .lt 17, 3) := by decide +kernel
theorem dX7_nextPass_74 : decode cX7_nextPass 74 = .ok (.iload 5, 2) := by decide +kernel
theorem dX7_nextPass_76 : decode cX7_nextPass 76 = .ok (.aload_n 0, 1) := by decide +kernel
theorem dX7_nextPass_77 : decode cX7_nextPass 77 = .ok (.getfield 7, 3) := by decide +kernel
theorem dX7_nextPass_80 : decode cX7_nextPass 80 = .ok (.bipush 8, 2) := by decide +kernel
theorem dX7_nextPass_82 : decode cX7_nextPass 82 = .ok (.iload_n 3, 1) := by decide +kernel
theorem dX7_nextPass_83 : decode cX7_nextPass 83 = .ok (.iadd, 1) := by decide +kernel
theorem dX7_nextPass_84 : decode cX7_nextPass 84 = .ok (.iaload, 1) := by decide +kernel
theorem dX7_nextPass_85 : decode cX7_nextPass 85 = .ok (.if_icmp .ge 8, 3) := by decide +kernel
theorem dX7_nextPass_88 : decode cX7_nextPass 88 = .ok (.iload 4, 2) := by decide +kernel
theorem dX7_nextPass_90 : decode cX7_nextPass 90 = .ok (.goto 4, 3) := by decide +kernel
theorem dX7_nextPass_93 : decode cX7_nextPass 93 = .ok (.iload_n 3, 1) := by decide +kernel
theorem dX7_nextPass_94 : decode cX7_nextPass 94 = .ok (.istore_n 3, 1) := by decide +kernel
theorem dX7_nextPass_95 : decode cX7_nextPass 95 = .ok (.iinc 4 1, 3) := by decide +kernel
theorem dX7_nextPass_98 : decode cX7_nextPass 98 = .ok (.goto (-92), 3) := by decide +kernel
theorem dX7_nextPass_101 : decode cX7_nextPass 101 = .ok (.iload_n 3, 1) := by decide +kernel
theorem dX7_nextPass_102 : decode cX7_nextPass 102 = .ok (.ireturn, 1) := by decide +kernel
set_option maxRecDepth 20000 in
theorem B_X7_nextPass_0 {G : Gx} {X : Cx} {h : PH} {k n : Nat} {Q : State → Prop} {S : List PV} {a0 : Nat} {a1 : Int} {a2 : Int} (C : CX_X7_nextPass G X) (kk : PW G X 7 Q k n 6 [some (.inr a0), some (.inl a1), some (.inl a2), some (.inl (-6)), some (.inl 0), none, none] (S) h) : PW G X 7 Q k n 0 [some (.inr a0), some (.inl a1), some (.inl a2), none, none, none, none] (S) h := by
  refine pw_bipush C dX7_nextPass_0 rfl ?_
  refine pw_istore_n C dX7_nextPass_2 (by decide) ?_
  refine pw_iconst C dX7_nextPass_3 ?_
  refine pw_istore C dX7_nextPass_4 (by decide) ?_
  exact kk
set_option maxRecDepth 20000 in
theorem B_X7_nextPass_6 {G : Gx} {X : Cx} {h : PH} {k n : Nat} {Q : State → Prop} {S : List PV} {a0 : Nat} {a1 : Int} {a2 : Int} {a3 : Int} {a4 : Int} {r2 : Nat} {x8 : Int} (C : CX_X7_nextPass G X) (t1 : ph_T h a0 = 7 := by first | assumption | rfl) (e3 : ph_R h a0 0 = r2 := by first | assumption | rfl) (t4 : ph_T h r2 = 8 := by first | assumption | rfl) (q5 : (0 : Int) ≤ 484 := by first | assumption | omega) (q6 : 484 < (ph_L h r2 : Int) := by first | assumption | omega) (q7 : pR 484 := by first | assumption | (unfold pR; omega)) (e9 : ph_I h r2 484 = x8 := by first | assumption | rfl) (q10 : pR a4 := by first | assumption | (unfold pR; omega)) (q11 : pR x8 := by first | assumption | (unfold pR; omega)) (kt : x8 ≤ a4 → PW G X 7 Q k n 101 [some (.inr a0), some (.inl a1), some (.inl a2), some (.inl a3), some (.inl a4), none, none] (S) h) (kf : ¬ x8 ≤ a4 → PW G X 7 Q k n 19 [some (.inr a0), some (.inl a1), some (.inl a2), some (.inl a3), some (.inl a4), none, none] (S) h) : PW G X 7 Q k n 6 [some (.inr a0), some (.inl a1), some (.inl a2), some (.inl a3), some (.inl a4), none, none] (S) h := by
  refine pw_iload C dX7_nextPass_6 rfl ?_
  refine pw_aload_n C dX7_nextPass_8 rfl ?_
  refine pw_getR C (t := 7) (f := 0) rfl inF7 rfl (by decide) (by decide) rfl kw678 dX7_nextPass_9 t1 ?_
  rw [e3]
  refine pw_sipush C dX7_nextPass_12 rfl ?_
  refine pw_iald C dX7_nextPass_15 t4 q5 q6 q7 ?_
  rw [show ph_I h r2 (Int.toNat 484) = x8 from e9]
  exact pw_icmp_ge C 101 dX7_nextPass_16 (by decide) q10 q11 kt kf
set_option maxRecDepth 20000 in
theorem B_X7_nextPass_19 {G : Gx} {X : Cx} {h : PH} {k n : Nat} {Q : State → Prop} {S : List PV} {a0 : Nat} {a1 : Int} {a2 : Int} {a3 : Int} {a4 : Int} {r2 : Nat} {x8 : Int} (C : CX_X7_nextPass G X) (t1 : ph_T h a0 = 7 := by first | assumption | rfl) (e3 : ph_R h a0 0 = r2 := by first | assumption | rfl) (t4 : ph_T h r2 = 8 := by first | assumption | rfl) (q5 : (0 : Int) ≤ 8 + a4 := by first | assumption | omega) (q6 : 8 + a4 < (ph_L h r2 : Int) := by first | assumption | omega) (q7 : pR (8 + a4) := by first | assumption | (unfold pR; omega)) (e9 : ph_I h r2 (Int.toNat (8 + a4)) = x8 := by first | assumption | rfl) (q10 : pR x8 := by first | assumption | (unfold pR; omega)) (q11 : pR a1 := by first | assumption | (unfold pR; omega)) (kt : a1 < x8 → PW G X 7 Q k n 49 [some (.inr a0), some (.inl a1), some (.inl a2), some (.inl a3), some (.inl a4), some (.inl x8), none] (S) h) (kf : ¬ a1 < x8 → PW G X 7 Q k n 37 [some (.inr a0), some (.inl a1), some (.inl a2), some (.inl a3), some (.inl a4), some (.inl x8), none] (S) h) : PW G X 7 Q k n 19 [some (.inr a0), some (.inl a1), some (.inl a2), some (.inl a3), some (.inl a4), none, none] (S) h := by
  refine pw_aload_n C dX7_nextPass_19 rfl ?_
  refine pw_getR C (t := 7) (f := 0) rfl inF7 rfl (by decide) (by decide) rfl kw678 dX7_nextPass_20 t1 ?_
  rw [e3]
  refine pw_bipush C dX7_nextPass_23 rfl ?_
  refine pw_iload C dX7_nextPass_25 rfl ?_
  refine pw_iadd C dX7_nextPass_27 ?_
  refine pw_iald C dX7_nextPass_28 t4 q5 q6 q7 ?_
  rw [e9]
  refine pw_istore C dX7_nextPass_29 (by decide) ?_
  refine pw_iload C dX7_nextPass_31 rfl ?_
  refine pw_iload_n C dX7_nextPass_33 rfl ?_
  exact pw_icmp_gt C 49 dX7_nextPass_34 (by decide) q10 q11 kt kf
set_option maxRecDepth 20000 in
theorem B_X7_nextPass_37 {G : Gx} {X : Cx} {h : PH} {k n : Nat} {Q : State → Prop} {S : List PV} {a0 : Nat} {a1 : Int} {a2 : Int} {a3 : Int} {a4 : Int} {a5 : Int} (C : CX_X7_nextPass G X) (q1 : pR a5 := by first | assumption | (unfold pR; omega)) (q2 : pR a1 := by first | assumption | (unfold pR; omega)) (kt : ¬ a5 = a1 → PW G X 7 Q k n 53 [some (.inr a0), some (.inl a1), some (.inl a2), some (.inl a3), some (.inl a4), some (.inl a5), none] (S) h) (kf : a5 = a1 → PW G X 7 Q k n 43 [some (.inr a0), some (.inl a1), some (.inl a2), some (.inl a3), some (.inl a4), some (.inl a5), none] (S) h) : PW G X 7 Q k n 37 [some (.inr a0), some (.inl a1), some (.inl a2), some (.inl a3), some (.inl a4), some (.inl a5), none] (S) h := by
  refine pw_iload C dX7_nextPass_37 rfl ?_
  refine pw_iload_n C dX7_nextPass_39 rfl ?_
  exact pw_icmp_ne C 53 dX7_nextPass_40 (by decide) q1 q2 kt kf
set_option maxRecDepth 20000 in
theorem B_X7_nextPass_43 {G : Gx} {X : Cx} {h : PH} {k n : Nat} {Q : State → Prop} {S : List PV} {a0 : Nat} {a1 : Int} {a2 : Int} {a3 : Int} {a4 : Int} {a5 : Int} (C : CX_X7_nextPass G X) (q1 : pR a4 := by first | assumption | (unfold pR; omega)) (q2 : pR a2 := by first | assumption | (unfold pR; omega)) (kt : a4 ≤ a2 → PW G X 7 Q k n 53 [some (.inr a0), some (.inl a1), some (.inl a2), some (.inl a3), some (.inl a4), some (.inl a5), none] (S) h) (kf : ¬ a4 ≤ a2 → PW G X 7 Q k n 49 [some (.inr a0), some (.inl a1), some (.inl a2), some (.inl a3), some (.inl a4), some (.inl a5), none] (S) h) : PW G X 7 Q k n 43 [some (.inr a0), some (.inl a1), some (.inl a2), some (.inl a3), some (.inl a4), some (.inl a5), none] (S) h := by
  refine pw_iload C dX7_nextPass_43 rfl ?_
  refine pw_iload_n C dX7_nextPass_45 rfl ?_
  exact pw_icmp_le C 53 dX7_nextPass_46 (by decide) q1 q2 kt kf
set_option maxRecDepth 20000 in
theorem B_X7_nextPass_49 {G : Gx} {X : Cx} {h : PH} {k n : Nat} {Q : State → Prop} {S : List PV} {a0 : Nat} {a1 : Int} {a2 : Int} {a3 : Int} {a4 : Int} {a5 : Int} (C : CX_X7_nextPass G X) (kk : PW G X 7 Q k n 54 [some (.inr a0), some (.inl a1), some (.inl a2), some (.inl a3), some (.inl a4), some (.inl a5), none] (.inl 1 :: S) h) : PW G X 7 Q k n 49 [some (.inr a0), some (.inl a1), some (.inl a2), some (.inl a3), some (.inl a4), some (.inl a5), none] (S) h := by
  refine pw_iconst C dX7_nextPass_49 ?_
  refine pw_goto C 54 dX7_nextPass_50 (by decide) ?_
  exact kk
set_option maxRecDepth 20000 in
theorem B_X7_nextPass_53 {G : Gx} {X : Cx} {h : PH} {k n : Nat} {Q : State → Prop} {S : List PV} {a0 : Nat} {a1 : Int} {a2 : Int} {a3 : Int} {a4 : Int} {a5 : Int} (C : CX_X7_nextPass G X) (kk : PW G X 7 Q k n 54 [some (.inr a0), some (.inl a1), some (.inl a2), some (.inl a3), some (.inl a4), some (.inl a5), none] (.inl 0 :: S) h) : PW G X 7 Q k n 53 [some (.inr a0), some (.inl a1), some (.inl a2), some (.inl a3), some (.inl a4), some (.inl a5), none] (S) h := by
  refine pw_iconst C dX7_nextPass_53 ?_
  exact kk
set_option maxRecDepth 20000 in
theorem B_X7_nextPass_54 {G : Gx} {X : Cx} {h : PH} {k n : Nat} {Q : State → Prop} {S : List PV} {a0 : Nat} {a1 : Int} {a2 : Int} {a3 : Int} {a4 : Int} {a5 : Int} {s0 : Int} {PQ : Option PV → PH → Prop} (C : CX_X7_nextPass G X) (hk0 : k ≤ 0 := by decide) (hn0 : n ≤ 0 := by decide) (t1 : ph_T h a0 = 7 := by first | assumption | rfl) (hM : CT_X7_isOpen G X.2.1 [.inr a0, .inl a4] h PQ) (hS : S.length ≤ 8 := by decide) (kk : ∀ r h', PQ r h' → PW G X 7 Q k n 62 [some (.inr a0), some (.inl a1), some (.inl a2), some (.inl a3), some (.inl a4), some (.inl a5), some (.inl s0)] (r.toList ++ S) h') : PW G X 7 Q k n 54 [some (.inr a0), some (.inl a1), some (.inl a2), some (.inl a3), some (.inl a4), some (.inl a5), none] (.inl s0 :: S) h := by
  refine pw_istore C dX7_nextPass_54 (by decide) ?_
  refine pw_aload_n C dX7_nextPass_56 rfl ?_
  refine pw_iload C dX7_nextPass_57 rfl ?_
  exact pw_callV C (na := 1) (As := [.inl a4]) (S := S) hM t1 (by decide) (hcl := by rfl) kw793 kw795 kw19 kw45 kw796 (by decide +kernel) rfl dX7_nextPass_59 (by decide) (by decide) hk0 hn0 (by first | exact hS | (simp only [List.length_cons]; omega)) kk
set_option maxRecDepth 20000 in
theorem B_X7_nextPass_62 {G : Gx} {X : Cx} {h : PH} {k n : Nat} {Q : State → Prop} {S : List PV} {a0 : Nat} {a1 : Int} {a2 : Int} {a3 : Int} {a4 : Int} {a5 : Int} {a6 : Int} {s0 : Int} (C : CX_X7_nextPass G X) (q1 : pR s0 := by first | assumption | (unfold pR; omega)) (kt : s0 = 0 → PW G X 7 Q k n 93 [some (.inr a0), some (.inl a1), some (.inl a2), some (.inl a3), some (.inl a4), some (.inl a5), some (.inl a6)] (S) h) (kf : ¬ s0 = 0 → PW G X 7 Q k n 65 [some (.inr a0), some (.inl a1), some (.inl a2), some (.inl a3), some (.inl a4), some (.inl a5), some (.inl a6)] (S) h) : PW G X 7 Q k n 62 [some (.inr a0), some (.inl a1), some (.inl a2), some (.inl a3), some (.inl a4), some (.inl a5), some (.inl a6)] (.inl s0 :: S) h := by
  exact pw_if_eq C 93 dX7_nextPass_62 (by decide) q1 kt kf
set_option maxRecDepth 20000 in
theorem B_X7_nextPass_65 {G : Gx} {X : Cx} {h : PH} {k n : Nat} {Q : State → Prop} {S : List PV} {a0 : Nat} {a1 : Int} {a2 : Int} {a3 : Int} {a4 : Int} {a5 : Int} {a6 : Int} (C : CX_X7_nextPass G X) (q1 : pR a6 := by first | assumption | (unfold pR; omega)) (kt : a6 = 0 → PW G X 7 Q k n 93 [some (.inr a0), some (.inl a1), some (.inl a2), some (.inl a3), some (.inl a4), some (.inl a5), some (.inl a6)] (S) h) (kf : ¬ a6 = 0 → PW G X 7 Q k n 70 [some (.inr a0), some (.inl a1), some (.inl a2), some (.inl a3), some (.inl a4), some (.inl a5), some (.inl a6)] (S) h) : PW G X 7 Q k n 65 [some (.inr a0), some (.inl a1), some (.inl a2), some (.inl a3), some (.inl a4), some (.inl a5), some (.inl a6)] (S) h := by
  refine pw_iload C dX7_nextPass_65 rfl ?_
  exact pw_if_eq C 93 dX7_nextPass_67 (by decide) q1 kt kf
set_option maxRecDepth 20000 in
theorem B_X7_nextPass_70 {G : Gx} {X : Cx} {h : PH} {k n : Nat} {Q : State → Prop} {S : List PV} {a0 : Nat} {a1 : Int} {a2 : Int} {a3 : Int} {a4 : Int} {a5 : Int} {a6 : Int} (C : CX_X7_nextPass G X) (q1 : pR a3 := by first | assumption | (unfold pR; omega)) (kt : a3 < 0 → PW G X 7 Q k n 88 [some (.inr a0), some (.inl a1), some (.inl a2), some (.inl a3), some (.inl a4), some (.inl a5), some (.inl a6)] (S) h) (kf : ¬ a3 < 0 → PW G X 7 Q k n 74 [some (.inr a0), some (.inl a1), some (.inl a2), some (.inl a3), some (.inl a4), some (.inl a5), some (.inl a6)] (S) h) : PW G X 7 Q k n 70 [some (.inr a0), some (.inl a1), some (.inl a2), some (.inl a3), some (.inl a4), some (.inl a5), some (.inl a6)] (S) h := by
  refine pw_iload_n C dX7_nextPass_70 rfl ?_
  exact pw_if_lt C 88 dX7_nextPass_71 (by decide) q1 kt kf
set_option maxRecDepth 20000 in
theorem B_X7_nextPass_74 {G : Gx} {X : Cx} {h : PH} {k n : Nat} {Q : State → Prop} {S : List PV} {a0 : Nat} {a1 : Int} {a2 : Int} {a3 : Int} {a4 : Int} {a5 : Int} {a6 : Int} {r2 : Nat} {x8 : Int} (C : CX_X7_nextPass G X) (t1 : ph_T h a0 = 7 := by first | assumption | rfl) (e3 : ph_R h a0 0 = r2 := by first | assumption | rfl) (t4 : ph_T h r2 = 8 := by first | assumption | rfl) (q5 : (0 : Int) ≤ 8 + a3 := by first | assumption | omega) (q6 : 8 + a3 < (ph_L h r2 : Int) := by first | assumption | omega) (q7 : pR (8 + a3) := by first | assumption | (unfold pR; omega)) (e9 : ph_I h r2 (Int.toNat (8 + a3)) = x8 := by first | assumption | rfl) (q10 : pR a5 := by first | assumption | (unfold pR; omega)) (q11 : pR x8 := by first | assumption | (unfold pR; omega)) (kt : x8 ≤ a5 → PW G X 7 Q k n 93 [some (.inr a0), some (.inl a1), some (.inl a2), some (.inl a3), some (.inl a4), some (.inl a5), some (.inl a6)] (S) h) (kf : ¬ x8 ≤ a5 → PW G X 7 Q k n 88 [some (.inr a0), some (.inl a1), some (.inl a2), some (.inl a3), some (.inl a4), some (.inl a5), some (.inl a6)] (S) h) : PW G X 7 Q k n 74 [some (.inr a0), some (.inl a1), some (.inl a2), some (.inl a3), some (.inl a4), some (.inl a5), some (.inl a6)] (S) h := by
  refine pw_iload C dX7_nextPass_74 rfl ?_
  refine pw_aload_n C dX7_nextPass_76 rfl ?_
  refine pw_getR C (t := 7) (f := 0) rfl inF7 rfl (by decide) (by decide) rfl kw678 dX7_nextPass_77 t1 ?_
  rw [e3]
  refine pw_bipush C dX7_nextPass_80 rfl ?_
  refine pw_iload_n C dX7_nextPass_82 rfl ?_
  refine pw_iadd C dX7_nextPass_83 ?_
  refine pw_iald C dX7_nextPass_84 t4 q5 q6 q7 ?_
  rw [e9]
  exact pw_icmp_ge C 93 dX7_nextPass_85 (by decide) q10 q11 kt kf
set_option maxRecDepth 20000 in
theorem B_X7_nextPass_88 {G : Gx} {X : Cx} {h : PH} {k n : Nat} {Q : State → Prop} {S : List PV} {a0 : Nat} {a1 : Int} {a2 : Int} {a3 : Int} {a4 : Int} {a5 : Int} {a6 : Int} (C : CX_X7_nextPass G X) (kk : PW G X 7 Q k n 94 [some (.inr a0), some (.inl a1), some (.inl a2), some (.inl a3), some (.inl a4), some (.inl a5), some (.inl a6)] (.inl a4 :: S) h) : PW G X 7 Q k n 88 [some (.inr a0), some (.inl a1), some (.inl a2), some (.inl a3), some (.inl a4), some (.inl a5), some (.inl a6)] (S) h := by
  refine pw_iload C dX7_nextPass_88 rfl ?_
  refine pw_goto C 94 dX7_nextPass_90 (by decide) ?_
  exact kk
set_option maxRecDepth 20000 in
theorem B_X7_nextPass_93 {G : Gx} {X : Cx} {h : PH} {k n : Nat} {Q : State → Prop} {S : List PV} {a0 : Nat} {a1 : Int} {a2 : Int} {a3 : Int} {a4 : Int} {a5 : Int} {a6 : Int} (C : CX_X7_nextPass G X) (kk : PW G X 7 Q k n 94 [some (.inr a0), some (.inl a1), some (.inl a2), some (.inl a3), some (.inl a4), some (.inl a5), some (.inl a6)] (.inl a3 :: S) h) : PW G X 7 Q k n 93 [some (.inr a0), some (.inl a1), some (.inl a2), some (.inl a3), some (.inl a4), some (.inl a5), some (.inl a6)] (S) h := by
  refine pw_iload_n C dX7_nextPass_93 rfl ?_
  exact kk
set_option maxRecDepth 20000 in
theorem B_X7_nextPass_94 {G : Gx} {X : Cx} {h : PH} {k n : Nat} {Q : State → Prop} {S : List PV} {a0 : Nat} {a1 : Int} {a2 : Int} {a3 : Int} {a4 : Int} {a5 : Int} {a6 : Int} {s0 : Int} (C : CX_X7_nextPass G X) (kk : PW G X 7 Q k n 6 [some (.inr a0), some (.inl a1), some (.inl a2), some (.inl s0), some (.inl (a4 + 1)), none, none] (S) h) : PW G X 7 Q k n 94 [some (.inr a0), some (.inl a1), some (.inl a2), some (.inl a3), some (.inl a4), some (.inl a5), some (.inl a6)] (.inl s0 :: S) h := by
  refine pw_istore_n C dX7_nextPass_94 (by decide) ?_
  refine pw_iinc C dX7_nextPass_95 rfl (by decide) ?_
  refine pw_goto C 6 dX7_nextPass_98 (by decide) ?_
  exact pw_weak [true, true, true, true, true, false, false] kk
set_option maxRecDepth 20000 in
theorem B_X7_nextPass_101 {G : Gx} {X : Cx} {h : PH} {k n : Nat} {a0 : Nat} {a1 : Int} {a2 : Int} {a3 : Int} {a4 : Int} {PQ : Option PV → PH → Prop} (C : CX_X7_nextPass G X) (hq : PQ (some (.inl a3)) h) : PW G X 7 (pw_E G X PQ k n) k n 101 [some (.inr a0), some (.inl a1), some (.inl a2), some (.inl a3), some (.inl a4), none, none] [] h := by
  refine pw_iload_n C dX7_nextPass_101 rfl ?_
  exact pw_ireturn C dX7_nextPass_102 hq
theorem dX7_round_0 : decode cX7_round 0 = .ok (.iconst 0, 1) := by decide +kernel
theorem dX7_round_1 : decode cX7_round 1 = .ok (.istore_n 1, 1) := by decide +kernel
theorem dX7_round_2 : decode cX7_round 2 = .ok (.aload_n 0, 1) := by decide +kernel
theorem dX7_round_3 : decode cX7_round 3 = .ok (.iconst (-1), 1) := by decide +kernel
theorem dX7_round_4 : decode cX7_round 4 = .ok (.bipush (-6), 2) := by decide +kernel
theorem dX7_round_6 : decode cX7_round 6 = .ok (.invokevirtual 137, 3) := by decide +kernel
theorem dX7_round_9 : decode cX7_round 9 = .ok (.istore_n 2, 1) := by decide +kernel
theorem dX7_round_10 : decode cX7_round 10 = .ok (.iload_n 2, 1) := by decide +kernel
theorem dX7_round_11 : decode cX7_round 11 = .ok (.ifCond .lt 58, 3) := by decide +kernel
theorem dX7_round_14 : decode cX7_round 14 = .ok (.aload_n 0, 1) := by decide +kernel
theorem dX7_round_15 : decode cX7_round 15 = .ok (.iload_n 2, 1) := by decide +kernel
theorem dX7_round_16 : decode cX7_round 16 = .ok (.invokevirtual 128, 3) := by decide +kernel
theorem dX7_round_19 : decode cX7_round 19 = .ok (.istore_n 3, 1) := by decide +kernel
theorem dX7_round_20 : decode cX7_round 20 = .ok (.iload_n 3, 1) := by decide +kernel
theorem dX7_round_21 : decode cX7_round 21 = .ok (.ifCond .lt 30, 3) := by decide +kernel
theorem dX7_round_24 : decode cX7_round 24 = .ok (.aload_n 0, 1) := by decide +kernel
theorem dX7_round_25 : decode cX7_round 25 = .ok (.getfield 125, 3) := by decide +kernel
theorem dX7_round_28 : decode cX7_round 28 = .ok (.invokestatic 97, 3) := by decide +kernel
theorem dX7_round_31 : decode cX7_round 31 = .ok (.ifCond .le 20, 3) := by decide +kernel
theorem dX7_round_34 : decode cX7_round 34 = .ok (.iload_n 1, 1) := by decide +kernel
theorem dX7_round_35 : decode cX7_round 35 = .ok (.aload_n 0, 1) := by decide +kernel
theorem dX7_round_36 : decode cX7_round 36 = .ok (.iload_n 3, 1) := by decide +kernel
theorem dX7_round_37 : decode cX7_round 37 = .ok (.iload_n 2, 1) := by decide +kernel
theorem dX7_round_38 : decode cX7_round 38 = .ok (.invokevirtual 134, 3) := by decide +kernel
theorem dX7_round_41 : decode cX7_round 41 = .ok (.ifCond .le 7, 3) := by decide +kernel
theorem dX7_round_44 : decode cX7_round 44 = .ok (.iconst 1, 1) := by decide +kernel
theorem dX7_round_45 : decode cX7_round 45 = .ok (.goto 4, 3) := by decide +kernel
theorem dX7_round_48 : decode cX7_round 48 = .ok (.iconst 0, 1) := by decide +kernel
theorem dX7_round_49 : decode cX7_round 49 = .ok (.iadd, 1) := by decide +kernel
theorem dX7_round_50 : decode cX7_round 50 = .ok (.istore_n 1, 1) := by decide +kernel
theorem dX7_round_51 : decode cX7_round 51 = .ok (.aload_n 0, 1) := by decide +kernel
theorem dX7_round_52 : decode cX7_round 52 = .ok (.aload_n 0, 1) := by decide +kernel
theorem dX7_round_53 : decode cX7_round 53 = .ok (.getfield 7, 3) := by decide +kernel
theorem dX7_round_56 : decode cX7_round 56 = .ok (.bipush 8, 2) := by decide +kernel
theorem dX7_round_58 : decode cX7_round 58 = .ok (.iload_n 2, 1) := by decide +kernel
theorem dX7_round_59 : decode cX7_round 59 = .ok (.iadd, 1) := by decide +kernel
theorem dX7_round_60 : decode cX7_round 60 = .ok (.iaload, 1) := by decide +kernel
theorem dX7_round_61 : decode cX7_round 61 = .ok (.iload_n 2, 1) := by decide +kernel
theorem dX7_round_62 : decode cX7_round 62 = .ok (.invokevirtual 137, 3) := by decide +kernel
theorem dX7_round_65 : decode cX7_round 65 = .ok (.istore_n 2, 1) := by decide +kernel
theorem dX7_round_66 : decode cX7_round 66 = .ok (.goto (-56), 3) := by decide +kernel
theorem dX7_round_69 : decode cX7_round 69 = .ok (.iload_n 1, 1) := by decide +kernel
theorem dX7_round_70 : decode cX7_round 70 = .ok (.ireturn, 1) := by decide +kernel
set_option maxRecDepth 20000 in
theorem B_X7_round_0 {G : Gx} {X : Cx} {h : PH} {k n : Nat} {Q : State → Prop} {S : List PV} {a0 : Nat} {PQ : Option PV → PH → Prop} (C : CX_X7_round G X) (hk0 : k ≤ 0 := by decide) (hn0 : n ≤ 0 := by decide) (t1 : ph_T h a0 = 7 := by first | assumption | rfl) (hM : CT_X7_nextPass G X.2.1 [.inr a0, .inl (-1), .inl (-6)] h PQ) (hS : S.length ≤ 8 := by decide) (kk : ∀ r h', PQ r h' → PW G X 4 Q k n 9 [some (.inr a0), some (.inl 0), none, none] (r.toList ++ S) h') : PW G X 4 Q k n 0 [some (.inr a0), none, none, none] (S) h := by
  refine pw_iconst C dX7_round_0 ?_
  refine pw_istore_n C dX7_round_1 (by decide) ?_
  refine pw_aload_n C dX7_round_2 rfl ?_
  refine pw_iconst C dX7_round_3 ?_
  refine pw_bipush C dX7_round_4 rfl ?_
  exact pw_callV C (na := 2) (As := [.inl (-1), .inl (-6)]) (S := S) hM t1 (by decide) (hcl := by rfl) kw879 kw881 kw33 kw45 kw882 (by decide +kernel) rfl dX7_round_6 (by decide) (by decide) hk0 hn0 (by first | exact hS | (simp only [List.length_cons]; omega)) kk
set_option maxRecDepth 20000 in
theorem B_X7_round_9 {G : Gx} {X : Cx} {h : PH} {k n : Nat} {Q : State → Prop} {S : List PV} {a0 : Nat} {a1 : Int} {s0 : Int} (C : CX_X7_round G X) (kk : PW G X 4 Q k n 10 [some (.inr a0), some (.inl a1), some (.inl s0), none] (S) h) : PW G X 4 Q k n 9 [some (.inr a0), some (.inl a1), none, none] (.inl s0 :: S) h := by
  refine pw_istore_n C dX7_round_9 (by decide) ?_
  exact kk
set_option maxRecDepth 20000 in
theorem B_X7_round_10 {G : Gx} {X : Cx} {h : PH} {k n : Nat} {Q : State → Prop} {S : List PV} {a0 : Nat} {a1 : Int} {a2 : Int} (C : CX_X7_round G X) (q1 : pR a2 := by first | assumption | (unfold pR; omega)) (kt : a2 < 0 → PW G X 4 Q k n 69 [some (.inr a0), some (.inl a1), some (.inl a2), none] (S) h) (kf : ¬ a2 < 0 → PW G X 4 Q k n 14 [some (.inr a0), some (.inl a1), some (.inl a2), none] (S) h) : PW G X 4 Q k n 10 [some (.inr a0), some (.inl a1), some (.inl a2), none] (S) h := by
  refine pw_iload_n C dX7_round_10 rfl ?_
  exact pw_if_lt C 69 dX7_round_11 (by decide) q1 kt kf
set_option maxRecDepth 20000 in
theorem B_X7_round_14 {G : Gx} {X : Cx} {h : PH} {k n : Nat} {Q : State → Prop} {S : List PV} {a0 : Nat} {a1 : Int} {a2 : Int} {PQ : Option PV → PH → Prop} (C : CX_X7_round G X) (hk0 : k ≤ 0 := by decide) (hn0 : n ≤ 0 := by decide) (t1 : ph_T h a0 = 7 := by first | assumption | rfl) (hM : CT_X7_offerOf G X.2.1 [.inr a0, .inl a2] h PQ) (hS : S.length ≤ 8 := by decide) (kk : ∀ r h', PQ r h' → PW G X 4 Q k n 19 [some (.inr a0), some (.inl a1), some (.inl a2), none] (r.toList ++ S) h') : PW G X 4 Q k n 14 [some (.inr a0), some (.inl a1), some (.inl a2), none] (S) h := by
  refine pw_aload_n C dX7_round_14 rfl ?_
  refine pw_iload_n C dX7_round_15 rfl ?_
  exact pw_callV C (na := 1) (As := [.inl a2]) (S := S) hM t1 (by decide) (hcl := by rfl) kw855 kw857 kw30 kw45 kw858 (by decide +kernel) rfl dX7_round_16 (by decide) (by decide) hk0 hn0 (by first | exact hS | (simp only [List.length_cons]; omega)) kk
set_option maxRecDepth 20000 in
theorem B_X7_round_19 {G : Gx} {X : Cx} {h : PH} {k n : Nat} {Q : State → Prop} {S : List PV} {a0 : Nat} {a1 : Int} {a2 : Int} {s0 : Int} (C : CX_X7_round G X) (q1 : pR s0 := by first | assumption | (unfold pR; omega)) (kt : s0 < 0 → PW G X 4 Q k n 51 [some (.inr a0), some (.inl a1), some (.inl a2), some (.inl s0)] (S) h) (kf : ¬ s0 < 0 → PW G X 4 Q k n 24 [some (.inr a0), some (.inl a1), some (.inl a2), some (.inl s0)] (S) h) : PW G X 4 Q k n 19 [some (.inr a0), some (.inl a1), some (.inl a2), none] (.inl s0 :: S) h := by
  refine pw_istore_n C dX7_round_19 (by decide) ?_
  refine pw_iload_n C dX7_round_20 rfl ?_
  exact pw_if_lt C 51 dX7_round_21 (by decide) q1 kt kf
set_option maxRecDepth 20000 in
theorem B_X7_round_24 {G : Gx} {X : Cx} {h : PH} {k n : Nat} {Q : State → Prop} {S : List PV} {a0 : Nat} {a1 : Int} {a2 : Int} {a3 : Int} {x2 : Int} {PQ : Option PV → PH → Prop} (C : CX_X7_round G X) (hk0 : k ≤ 0 := by decide) (hn0 : n ≤ 0 := by decide) (t1 : ph_T h a0 = 7 := by first | assumption | rfl) (e3 : ph_I h a0 11 = x2 := by first | assumption | rfl) (hM : CT_X7_seenOf G X.2.1 [.inl x2] h PQ) (hS : S.length ≤ 8 := by decide) (kk : ∀ r h', PQ r h' → PW G X 4 Q k n 31 [some (.inr a0), some (.inl a1), some (.inl a2), some (.inl a3)] (r.toList ++ S) h') : PW G X 4 Q k n 24 [some (.inr a0), some (.inl a1), some (.inl a2), some (.inl a3)] (S) h := by
  refine pw_aload_n C dX7_round_24 rfl ?_
  refine pw_getI C (t := 7) (f := 11) rfl inF7 rfl (by decide) (by decide) rfl kw689 dX7_round_25 t1 ?_
  rw [e3]
  exact pw_callS C (na := 1) (As := [.inl x2]) (S := S) hM kw837 kw838 kw45 kw839 (by decide +kernel) rfl dX7_round_28 (by decide) (by decide) hk0 hn0 (by first | exact hS | (simp only [List.length_cons]; omega)) kk
set_option maxRecDepth 20000 in
theorem B_X7_round_31 {G : Gx} {X : Cx} {h : PH} {k n : Nat} {Q : State → Prop} {S : List PV} {a0 : Nat} {a1 : Int} {a2 : Int} {a3 : Int} {s0 : Int} (C : CX_X7_round G X) (q1 : pR s0 := by first | assumption | (unfold pR; omega)) (kt : s0 ≤ 0 → PW G X 4 Q k n 51 [some (.inr a0), some (.inl a1), some (.inl a2), some (.inl a3)] (S) h) (kf : ¬ s0 ≤ 0 → PW G X 4 Q k n 34 [some (.inr a0), some (.inl a1), some (.inl a2), some (.inl a3)] (S) h) : PW G X 4 Q k n 31 [some (.inr a0), some (.inl a1), some (.inl a2), some (.inl a3)] (.inl s0 :: S) h := by
  exact pw_if_le C 51 dX7_round_31 (by decide) q1 kt kf
set_option maxRecDepth 20000 in
theorem B_X7_round_34 {G : Gx} {X : Cx} {h : PH} {k n : Nat} {Q : State → Prop} {S : List PV} {a0 : Nat} {a1 : Int} {a2 : Int} {a3 : Int} {PQ : Option PV → PH → Prop} (C : CX_X7_round G X) (hk0 : k ≤ 0 := by decide) (hn0 : n ≤ 0 := by decide) (t1 : ph_T h a0 = 7 := by first | assumption | rfl) (hM : CT_X7_takeBy G X.2.1 [.inr a0, .inl a3, .inl a2] h PQ) (hS : S.length ≤ 7 := by decide) (kk : ∀ r h', PQ r h' → PW G X 4 Q k n 41 [some (.inr a0), some (.inl a1), some (.inl a2), some (.inl a3)] (r.toList ++ (.inl a1 :: S)) h') : PW G X 4 Q k n 34 [some (.inr a0), some (.inl a1), some (.inl a2), some (.inl a3)] (S) h := by
  refine pw_iload_n C dX7_round_34 rfl ?_
  refine pw_aload_n C dX7_round_35 rfl ?_
  refine pw_iload_n C dX7_round_36 rfl ?_
  refine pw_iload_n C dX7_round_37 rfl ?_
  exact pw_callV C (na := 2) (As := [.inl a3, .inl a2]) (S := .inl a1 :: S) hM t1 (by decide) (hcl := by rfl) kw871 kw873 kw32 kw45 kw874 (by decide +kernel) rfl dX7_round_38 (by decide) (by decide) hk0 hn0 (by first | exact hS | (simp only [List.length_cons]; omega)) kk
set_option maxRecDepth 20000 in
theorem B_X7_round_41 {G : Gx} {X : Cx} {h : PH} {k n : Nat} {Q : State → Prop} {S : List PV} {a0 : Nat} {a1 : Int} {a2 : Int} {a3 : Int} {s0 : Int} {s1 : Int} (C : CX_X7_round G X) (q1 : pR s0 := by first | assumption | (unfold pR; omega)) (kt : s0 ≤ 0 → PW G X 4 Q k n 48 [some (.inr a0), some (.inl a1), some (.inl a2), some (.inl a3)] (.inl s1 :: S) h) (kf : ¬ s0 ≤ 0 → PW G X 4 Q k n 44 [some (.inr a0), some (.inl a1), some (.inl a2), some (.inl a3)] (.inl s1 :: S) h) : PW G X 4 Q k n 41 [some (.inr a0), some (.inl a1), some (.inl a2), some (.inl a3)] (.inl s0 :: .inl s1 :: S) h := by
  exact pw_if_le C 48 dX7_round_41 (by decide) q1 kt kf
set_option maxRecDepth 20000 in
theorem B_X7_round_44 {G : Gx} {X : Cx} {h : PH} {k n : Nat} {Q : State → Prop} {S : List PV} {a0 : Nat} {a1 : Int} {a2 : Int} {a3 : Int} {s0 : Int} (C : CX_X7_round G X) (kk : PW G X 4 Q k n 49 [some (.inr a0), some (.inl a1), some (.inl a2), some (.inl a3)] (.inl 1 :: .inl s0 :: S) h) : PW G X 4 Q k n 44 [some (.inr a0), some (.inl a1), some (.inl a2), some (.inl a3)] (.inl s0 :: S) h := by
  refine pw_iconst C dX7_round_44 ?_
  refine pw_goto C 49 dX7_round_45 (by decide) ?_
  exact kk
set_option maxRecDepth 20000 in
theorem B_X7_round_48 {G : Gx} {X : Cx} {h : PH} {k n : Nat} {Q : State → Prop} {S : List PV} {a0 : Nat} {a1 : Int} {a2 : Int} {a3 : Int} {s0 : Int} (C : CX_X7_round G X) (kk : PW G X 4 Q k n 49 [some (.inr a0), some (.inl a1), some (.inl a2), some (.inl a3)] (.inl 0 :: .inl s0 :: S) h) : PW G X 4 Q k n 48 [some (.inr a0), some (.inl a1), some (.inl a2), some (.inl a3)] (.inl s0 :: S) h := by
  refine pw_iconst C dX7_round_48 ?_
  exact kk
set_option maxRecDepth 20000 in
theorem B_X7_round_49 {G : Gx} {X : Cx} {h : PH} {k n : Nat} {Q : State → Prop} {S : List PV} {a0 : Nat} {a1 : Int} {a2 : Int} {a3 : Int} {s0 : Int} {s1 : Int} (C : CX_X7_round G X) (kk : PW G X 4 Q k n 51 [some (.inr a0), some (.inl (s1 + s0)), some (.inl a2), some (.inl a3)] (S) h) : PW G X 4 Q k n 49 [some (.inr a0), some (.inl a1), some (.inl a2), some (.inl a3)] (.inl s0 :: .inl s1 :: S) h := by
  refine pw_iadd C dX7_round_49 ?_
  refine pw_istore_n C dX7_round_50 (by decide) ?_
  exact kk
set_option maxRecDepth 20000 in
theorem B_X7_round_51 {G : Gx} {X : Cx} {h : PH} {k n : Nat} {Q : State → Prop} {S : List PV} {a0 : Nat} {a1 : Int} {a2 : Int} {a3 : Int} {r2 : Nat} {x8 : Int} {PQ : Option PV → PH → Prop} (C : CX_X7_round G X) (hk0 : k ≤ 0 := by decide) (hn0 : n ≤ 0 := by decide) (t1 : ph_T h a0 = 7 := by first | assumption | rfl) (e3 : ph_R h a0 0 = r2 := by first | assumption | rfl) (t4 : ph_T h r2 = 8 := by first | assumption | rfl) (q5 : (0 : Int) ≤ 8 + a2 := by first | assumption | omega) (q6 : 8 + a2 < (ph_L h r2 : Int) := by first | assumption | omega) (q7 : pR (8 + a2) := by first | assumption | (unfold pR; omega)) (e9 : ph_I h r2 (Int.toNat (8 + a2)) = x8 := by first | assumption | rfl) (t10 : ph_T h a0 = 7 := by first | assumption | rfl) (hM : CT_X7_nextPass G X.2.1 [.inr a0, .inl x8, .inl a2] h PQ) (hS : S.length ≤ 8 := by decide) (kk : ∀ r h', PQ r h' → PW G X 4 Q k n 65 [some (.inr a0), some (.inl a1), some (.inl a2), some (.inl a3)] (r.toList ++ S) h') : PW G X 4 Q k n 51 [some (.inr a0), some (.inl a1), some (.inl a2), some (.inl a3)] (S) h := by
  refine pw_aload_n C dX7_round_51 rfl ?_
  refine pw_aload_n C dX7_round_52 rfl ?_
  refine pw_getR C (t := 7) (f := 0) rfl inF7 rfl (by decide) (by decide) rfl kw678 dX7_round_53 t1 ?_
  rw [e3]
  refine pw_bipush C dX7_round_56 rfl ?_
  refine pw_iload_n C dX7_round_58 rfl ?_
  refine pw_iadd C dX7_round_59 ?_
  refine pw_iald C dX7_round_60 t4 q5 q6 q7 ?_
  rw [e9]
  refine pw_iload_n C dX7_round_61 rfl ?_
  exact pw_callV C (na := 2) (As := [.inl x8, .inl a2]) (S := S) hM t10 (by decide) (hcl := by rfl) kw879 kw881 kw33 kw45 kw882 (by decide +kernel) rfl dX7_round_62 (by decide) (by decide) hk0 hn0 (by first | exact hS | (simp only [List.length_cons]; omega)) kk
set_option maxRecDepth 20000 in
theorem B_X7_round_65 {G : Gx} {X : Cx} {h : PH} {k n : Nat} {Q : State → Prop} {S : List PV} {a0 : Nat} {a1 : Int} {a2 : Int} {a3 : Int} {s0 : Int} (C : CX_X7_round G X) (kk : PW G X 4 Q k n 10 [some (.inr a0), some (.inl a1), some (.inl s0), none] (S) h) : PW G X 4 Q k n 65 [some (.inr a0), some (.inl a1), some (.inl a2), some (.inl a3)] (.inl s0 :: S) h := by
  refine pw_istore_n C dX7_round_65 (by decide) ?_
  refine pw_goto C 10 dX7_round_66 (by decide) ?_
  exact pw_weak [true, true, true, false] kk
set_option maxRecDepth 20000 in
theorem B_X7_round_69 {G : Gx} {X : Cx} {h : PH} {k n : Nat} {a0 : Nat} {a1 : Int} {a2 : Int} {PQ : Option PV → PH → Prop} (C : CX_X7_round G X) (hq : PQ (some (.inl a1)) h) : PW G X 4 (pw_E G X PQ k n) k n 69 [some (.inr a0), some (.inl a1), some (.inl a2), none] [] h := by
  refine pw_iload_n C dX7_round_69 rfl ?_
  exact pw_ireturn C dX7_round_70 hq
theorem dX7_looked_0 : decode cX7_looked 0 = .ok (.iload_n 1, 1) := by decide +kernel
theorem dX7_looked_1 : decode cX7_looked 1 = .ok (.iload_n 2, 1) := by decide +kernel
theorem dX7_looked_2 : decode cX7_looked 2 = .ok (.invokestatic 41, 3) := by decide +kernel
theorem dX7_looked_5 : decode cX7_looked 5 = .ok (.ifCond .eq 21, 3) := by decide +kernel
theorem dX7_looked_8 : decode cX7_looked 8 = .ok (.aload_n 0, 1) := by decide +kernel
theorem dX7_looked_9 : decode cX7_looked 9 = .ok (.getfield 7, 3) := by decide +kernel
theorem dX7_looked_12 : decode cX7_looked 12 = .ok (.sipush 316, 3) := by decide +kernel
theorem dX7_looked_15 : decode cX7_looked 15 = .ok (.bipush 7, 2) := by decide +kernel
theorem dX7_looked_17 : decode cX7_looked 17 = .ok (.iload_n 1, 1) := by decide +kernel
theorem dX7_looked_18 : decode cX7_looked 18 = .ok (.imul, 1) := by decide +kernel
theorem dX7_looked_19 : decode cX7_looked 19 = .ok (.iadd, 1) := by decide +kernel
theorem dX7_looked_20 : decode cX7_looked 20 = .ok (.iload_n 2, 1) := by decide +kernel
theorem dX7_looked_21 : decode cX7_looked 21 = .ok (.iadd, 1) := by decide +kernel
theorem dX7_looked_22 : decode cX7_looked 22 = .ok (.iaload, 1) := by decide +kernel
theorem dX7_looked_23 : decode cX7_looked 23 = .ok (.goto 5, 3) := by decide +kernel
theorem dX7_looked_26 : decode cX7_looked 26 = .ok (.bipush (-2), 2) := by decide +kernel
theorem dX7_looked_28 : decode cX7_looked 28 = .ok (.ireturn, 1) := by decide +kernel
set_option maxRecDepth 20000 in
theorem B_X7_looked_0 {G : Gx} {X : Cx} {h : PH} {k n : Nat} {Q : State → Prop} {S : List PV} {a0 : Nat} {a1 : Int} {a2 : Int} {PQ : Option PV → PH → Prop} (C : CX_X7_looked G X) (hk0 : k ≤ 0 := by decide) (hn0 : n ≤ 0 := by decide) (hM : CT_X7_isDirection G X.2.1 [.inl a1, .inl a2] h PQ) (hS : S.length ≤ 8 := by decide) (kk : ∀ r h', PQ r h' → PW G X 3 Q k n 5 [some (.inr a0), some (.inl a1), some (.inl a2)] (r.toList ++ S) h') : PW G X 3 Q k n 0 [some (.inr a0), some (.inl a1), some (.inl a2)] (S) h := by
  refine pw_iload_n C dX7_looked_0 rfl ?_
  refine pw_iload_n C dX7_looked_1 rfl ?_
  exact pw_callS C (na := 2) (As := [.inl a1, .inl a2]) (S := S) hM kw730 kw731 kw45 kw732 (by decide +kernel) rfl dX7_looked_2 (by decide) (by decide) hk0 hn0 (by first | exact hS | (simp only [List.length_cons]; omega)) kk
set_option maxRecDepth 20000 in
theorem B_X7_looked_5 {G : Gx} {X : Cx} {h : PH} {k n : Nat} {Q : State → Prop} {S : List PV} {a0 : Nat} {a1 : Int} {a2 : Int} {s0 : Int} (C : CX_X7_looked G X) (q1 : pR s0 := by first | assumption | (unfold pR; omega)) (kt : s0 = 0 → PW G X 3 Q k n 26 [some (.inr a0), some (.inl a1), some (.inl a2)] (S) h) (kf : ¬ s0 = 0 → PW G X 3 Q k n 8 [some (.inr a0), some (.inl a1), some (.inl a2)] (S) h) : PW G X 3 Q k n 5 [some (.inr a0), some (.inl a1), some (.inl a2)] (.inl s0 :: S) h := by
  exact pw_if_eq C 26 dX7_looked_5 (by decide) q1 kt kf
set_option maxRecDepth 20000 in
theorem B_X7_looked_8 {G : Gx} {X : Cx} {h : PH} {k n : Nat} {Q : State → Prop} {S : List PV} {a0 : Nat} {a1 : Int} {a2 : Int} {r2 : Nat} {x8 : Int} (C : CX_X7_looked G X) (t1 : ph_T h a0 = 7 := by first | assumption | rfl) (e3 : ph_R h a0 0 = r2 := by first | assumption | rfl) (t4 : ph_T h r2 = 8 := by first | assumption | rfl) (q5 : (0 : Int) ≤ (316 + (7 * a1)) + a2 := by first | assumption | omega) (q6 : (316 + (7 * a1)) + a2 < (ph_L h r2 : Int) := by first | assumption | omega) (q7 : pR ((316 + (7 * a1)) + a2) := by first | assumption | (unfold pR; omega)) (e9 : ph_I h r2 (Int.toNat ((316 + (7 * a1)) + a2)) = x8 := by first | assumption | rfl) (kk : PW G X 3 Q k n 28 [some (.inr a0), some (.inl a1), some (.inl a2)] (.inl x8 :: S) h) : PW G X 3 Q k n 8 [some (.inr a0), some (.inl a1), some (.inl a2)] (S) h := by
  refine pw_aload_n C dX7_looked_8 rfl ?_
  refine pw_getR C (t := 7) (f := 0) rfl inF7 rfl (by decide) (by decide) rfl kw678 dX7_looked_9 t1 ?_
  rw [e3]
  refine pw_sipush C dX7_looked_12 rfl ?_
  refine pw_bipush C dX7_looked_15 rfl ?_
  refine pw_iload_n C dX7_looked_17 rfl ?_
  refine pw_imul C dX7_looked_18 ?_
  refine pw_iadd C dX7_looked_19 ?_
  refine pw_iload_n C dX7_looked_20 rfl ?_
  refine pw_iadd C dX7_looked_21 ?_
  refine pw_iald C dX7_looked_22 t4 q5 q6 q7 ?_
  rw [e9]
  refine pw_goto C 28 dX7_looked_23 (by decide) ?_
  exact kk
set_option maxRecDepth 20000 in
theorem B_X7_looked_26 {G : Gx} {X : Cx} {h : PH} {k n : Nat} {Q : State → Prop} {S : List PV} {a0 : Nat} {a1 : Int} {a2 : Int} (C : CX_X7_looked G X) (kk : PW G X 3 Q k n 28 [some (.inr a0), some (.inl a1), some (.inl a2)] (.inl (-2) :: S) h) : PW G X 3 Q k n 26 [some (.inr a0), some (.inl a1), some (.inl a2)] (S) h := by
  refine pw_bipush C dX7_looked_26 rfl ?_
  exact kk
set_option maxRecDepth 20000 in
theorem B_X7_looked_28 {G : Gx} {X : Cx} {h : PH} {k n : Nat} {a0 : Nat} {a1 : Int} {a2 : Int} {s0 : Int} {PQ : Option PV → PH → Prop} (C : CX_X7_looked G X) (hq : PQ (some (.inl s0)) h) : PW G X 3 (pw_E G X PQ k n) k n 28 [some (.inr a0), some (.inl a1), some (.inl a2)] [.inl s0] h := by
  exact pw_ireturn C dX7_looked_28 hq
theorem dX7_takenOnes_0 : decode cX7_takenOnes 0 = .ok (.iconst 0, 1) := by decide +kernel
theorem dX7_takenOnes_1 : decode cX7_takenOnes 1 = .ok (.istore_n 1, 1) := by decide +kernel
theorem dX7_takenOnes_2 : decode cX7_takenOnes 2 = .ok (.iconst 0, 1) := by decide +kernel
theorem dX7_takenOnes_3 : decode cX7_takenOnes 3 = .ok (.istore_n 2, 1) := by decide +kernel
theorem dX7_takenOnes_4 : decode cX7_takenOnes 4 = .ok (.iload_n 2, 1) := by decide +kernel
theorem dX7_takenOnes_5 : decode cX7_takenOnes 5 = .ok (.aload_n 0, 1) := by decide +kernel
theorem dX7_takenOnes_6 : decode cX7_takenOnes 6 = .ok (.getfield 7, 3) := by decide +kernel
theorem dX7_takenOnes_9 : decode cX7_takenOnes 9 = .ok (.sipush 484, 3) := by decide +kernel
theorem dX7_takenOnes_12 : decode cX7_takenOnes 12 = .ok (.iaload, 1) := by decide +kernel
theorem dX7_takenOnes_13 : decode cX7_takenOnes 13 = .ok (.if_icmp .ge 29, 3) := by decide +kernel
theorem dX7_takenOnes_16 : decode cX7_takenOnes 16 = .ok (.iload_n 1, 1) := by decide +kernel
theorem dX7_takenOnes_17 : decode cX7_takenOnes 17 = .ok (.aload_n 0, 1) := by decide +kernel
theorem dX7_takenOnes_18 : decode cX7_takenOnes 18 = .ok (.getfield 7, 3) := by decide +kernel
theorem dX7_takenOnes_21 : decode cX7_takenOnes 21 = .ok (.bipush 24, 2) := by decide +kernel
theorem dX7_takenOnes_23 : decode cX7_takenOnes 23 = .ok (.iload_n 2, 1) := by decide +kernel
theorem dX7_takenOnes_24 : decode cX7_takenOnes 24 = .ok (.iadd, 1) := by decide +kernel
theorem dX7_takenOnes_25 : decode cX7_takenOnes 25 = .ok (.iaload, 1) := by decide +kernel
theorem dX7_takenOnes_26 : decode cX7_takenOnes 26 = .ok (.ifCond .lt 7, 3) := by decide +kernel
theorem dX7_takenOnes_29 : decode cX7_takenOnes 29 = .ok (.iconst 1, 1) := by decide +kernel
theorem dX7_takenOnes_30 : decode cX7_takenOnes 30 = .ok (.goto 4, 3) := by decide +kernel
theorem dX7_takenOnes_33 : decode cX7_takenOnes 33 = .ok (.iconst 0, 1) := by decide +kernel
theorem dX7_takenOnes_34 : decode cX7_takenOnes 34 = .ok (.iadd, 1) := by decide +kernel
theorem dX7_takenOnes_35 : decode cX7_takenOnes 35 = .ok (.istore_n 1, 1) := by decide +kernel
theorem dX7_takenOnes_36 : decode cX7_takenOnes 36 = .ok (.iinc 2 1, 3) := by decide +kernel
theorem dX7_takenOnes_39 : decode cX7_takenOnes 39 = .ok (.goto (-35), 3) := by decide +kernel
theorem dX7_takenOnes_42 : decode cX7_takenOnes 42 = .ok (.iload_n 1, 1) := by decide +kernel
theorem dX7_takenOnes_43 : decode cX7_takenOnes 43 = .ok (.ireturn, 1) := by decide +kernel
set_option maxRecDepth 20000 in
theorem B_X7_takenOnes_0 {G : Gx} {X : Cx} {h : PH} {k n : Nat} {Q : State → Prop} {S : List PV} {a0 : Nat} (C : CX_X7_takenOnes G X) (kk : PW G X 3 Q k n 4 [some (.inr a0), some (.inl 0), some (.inl 0)] (S) h) : PW G X 3 Q k n 0 [some (.inr a0), none, none] (S) h := by
  refine pw_iconst C dX7_takenOnes_0 ?_
  refine pw_istore_n C dX7_takenOnes_1 (by decide) ?_
  refine pw_iconst C dX7_takenOnes_2 ?_
  refine pw_istore_n C dX7_takenOnes_3 (by decide) ?_
  exact kk
set_option maxRecDepth 20000 in
theorem B_X7_takenOnes_4 {G : Gx} {X : Cx} {h : PH} {k n : Nat} {Q : State → Prop} {S : List PV} {a0 : Nat} {a1 : Int} {a2 : Int} {r2 : Nat} {x8 : Int} (C : CX_X7_takenOnes G X) (t1 : ph_T h a0 = 7 := by first | assumption | rfl) (e3 : ph_R h a0 0 = r2 := by first | assumption | rfl) (t4 : ph_T h r2 = 8 := by first | assumption | rfl) (q5 : (0 : Int) ≤ 484 := by first | assumption | omega) (q6 : 484 < (ph_L h r2 : Int) := by first | assumption | omega) (q7 : pR 484 := by first | assumption | (unfold pR; omega)) (e9 : ph_I h r2 484 = x8 := by first | assumption | rfl) (q10 : pR a2 := by first | assumption | (unfold pR; omega)) (q11 : pR x8 := by first | assumption | (unfold pR; omega)) (kt : x8 ≤ a2 → PW G X 3 Q k n 42 [some (.inr a0), some (.inl a1), some (.inl a2)] (S) h) (kf : ¬ x8 ≤ a2 → PW G X 3 Q k n 16 [some (.inr a0), some (.inl a1), some (.inl a2)] (S) h) : PW G X 3 Q k n 4 [some (.inr a0), some (.inl a1), some (.inl a2)] (S) h := by
  refine pw_iload_n C dX7_takenOnes_4 rfl ?_
  refine pw_aload_n C dX7_takenOnes_5 rfl ?_
  refine pw_getR C (t := 7) (f := 0) rfl inF7 rfl (by decide) (by decide) rfl kw678 dX7_takenOnes_6 t1 ?_
  rw [e3]
  refine pw_sipush C dX7_takenOnes_9 rfl ?_
  refine pw_iald C dX7_takenOnes_12 t4 q5 q6 q7 ?_
  rw [show ph_I h r2 (Int.toNat 484) = x8 from e9]
  exact pw_icmp_ge C 42 dX7_takenOnes_13 (by decide) q10 q11 kt kf
set_option maxRecDepth 20000 in
theorem B_X7_takenOnes_16 {G : Gx} {X : Cx} {h : PH} {k n : Nat} {Q : State → Prop} {S : List PV} {a0 : Nat} {a1 : Int} {a2 : Int} {r2 : Nat} {x8 : Int} (C : CX_X7_takenOnes G X) (t1 : ph_T h a0 = 7 := by first | assumption | rfl) (e3 : ph_R h a0 0 = r2 := by first | assumption | rfl) (t4 : ph_T h r2 = 8 := by first | assumption | rfl) (q5 : (0 : Int) ≤ 24 + a2 := by first | assumption | omega) (q6 : 24 + a2 < (ph_L h r2 : Int) := by first | assumption | omega) (q7 : pR (24 + a2) := by first | assumption | (unfold pR; omega)) (e9 : ph_I h r2 (Int.toNat (24 + a2)) = x8 := by first | assumption | rfl) (q10 : pR x8 := by first | assumption | (unfold pR; omega)) (kt : x8 < 0 → PW G X 3 Q k n 33 [some (.inr a0), some (.inl a1), some (.inl a2)] (.inl a1 :: S) h) (kf : ¬ x8 < 0 → PW G X 3 Q k n 29 [some (.inr a0), some (.inl a1), some (.inl a2)] (.inl a1 :: S) h) : PW G X 3 Q k n 16 [some (.inr a0), some (.inl a1), some (.inl a2)] (S) h := by
  refine pw_iload_n C dX7_takenOnes_16 rfl ?_
  refine pw_aload_n C dX7_takenOnes_17 rfl ?_
  refine pw_getR C (t := 7) (f := 0) rfl inF7 rfl (by decide) (by decide) rfl kw678 dX7_takenOnes_18 t1 ?_
  rw [e3]
  refine pw_bipush C dX7_takenOnes_21 rfl ?_
  refine pw_iload_n C dX7_takenOnes_23 rfl ?_
  refine pw_iadd C dX7_takenOnes_24 ?_
  refine pw_iald C dX7_takenOnes_25 t4 q5 q6 q7 ?_
  rw [e9]
  exact pw_if_lt C 33 dX7_takenOnes_26 (by decide) q10 kt kf
set_option maxRecDepth 20000 in
theorem B_X7_takenOnes_29 {G : Gx} {X : Cx} {h : PH} {k n : Nat} {Q : State → Prop} {S : List PV} {a0 : Nat} {a1 : Int} {a2 : Int} {s0 : Int} (C : CX_X7_takenOnes G X) (kk : PW G X 3 Q k n 34 [some (.inr a0), some (.inl a1), some (.inl a2)] (.inl 1 :: .inl s0 :: S) h) : PW G X 3 Q k n 29 [some (.inr a0), some (.inl a1), some (.inl a2)] (.inl s0 :: S) h := by
  refine pw_iconst C dX7_takenOnes_29 ?_
  refine pw_goto C 34 dX7_takenOnes_30 (by decide) ?_
  exact kk
set_option maxRecDepth 20000 in
theorem B_X7_takenOnes_33 {G : Gx} {X : Cx} {h : PH} {k n : Nat} {Q : State → Prop} {S : List PV} {a0 : Nat} {a1 : Int} {a2 : Int} {s0 : Int} (C : CX_X7_takenOnes G X) (kk : PW G X 3 Q k n 34 [some (.inr a0), some (.inl a1), some (.inl a2)] (.inl 0 :: .inl s0 :: S) h) : PW G X 3 Q k n 33 [some (.inr a0), some (.inl a1), some (.inl a2)] (.inl s0 :: S) h := by
  refine pw_iconst C dX7_takenOnes_33 ?_
  exact kk
set_option maxRecDepth 20000 in
theorem B_X7_takenOnes_34 {G : Gx} {X : Cx} {h : PH} {k n : Nat} {Q : State → Prop} {S : List PV} {a0 : Nat} {a1 : Int} {a2 : Int} {s0 : Int} {s1 : Int} (C : CX_X7_takenOnes G X) (kk : PW G X 3 Q k n 4 [some (.inr a0), some (.inl (s1 + s0)), some (.inl (a2 + 1))] (S) h) : PW G X 3 Q k n 34 [some (.inr a0), some (.inl a1), some (.inl a2)] (.inl s0 :: .inl s1 :: S) h := by
  refine pw_iadd C dX7_takenOnes_34 ?_
  refine pw_istore_n C dX7_takenOnes_35 (by decide) ?_
  refine pw_iinc C dX7_takenOnes_36 rfl (by decide) ?_
  refine pw_goto C 4 dX7_takenOnes_39 (by decide) ?_
  exact kk
set_option maxRecDepth 20000 in
theorem B_X7_takenOnes_42 {G : Gx} {X : Cx} {h : PH} {k n : Nat} {a0 : Nat} {a1 : Int} {a2 : Int} {PQ : Option PV → PH → Prop} (C : CX_X7_takenOnes G X) (hq : PQ (some (.inl a1)) h) : PW G X 3 (pw_E G X PQ k n) k n 42 [some (.inr a0), some (.inl a1), some (.inl a2)] [] h := by
  refine pw_iload_n C dX7_takenOnes_42 rfl ?_
  exact pw_ireturn C dX7_takenOnes_43 hq
theorem dX7_pointsOfAll_0 : decode cX7_pointsOfAll 0 = .ok (.iconst 0, 1) := by decide +kernel
theorem dX7_pointsOfAll_1 : decode cX7_pointsOfAll 1 = .ok (.istore_n 1, 1) := by decide +kernel
theorem dX7_pointsOfAll_2 : decode cX7_pointsOfAll 2 = .ok (.iconst 0, 1) := by decide +kernel
theorem dX7_pointsOfAll_3 : decode cX7_pointsOfAll 3 = .ok (.istore_n 2, 1) := by decide +kernel
theorem dX7_pointsOfAll_4 : decode cX7_pointsOfAll 4 = .ok (.iload_n 2, 1) := by decide +kernel
theorem dX7_pointsOfAll_5 : decode cX7_pointsOfAll 5 = .ok (.aload_n 0, 1) := by decide +kernel
theorem dX7_pointsOfAll_6 : decode cX7_pointsOfAll 6 = .ok (.getfield 7, 3) := by decide +kernel
theorem dX7_pointsOfAll_9 : decode cX7_pointsOfAll 9 = .ok (.sipush 484, 3) := by decide +kernel
theorem dX7_pointsOfAll_12 : decode cX7_pointsOfAll 12 = .ok (.iaload, 1) := by decide +kernel
theorem dX7_pointsOfAll_13 : decode cX7_pointsOfAll 13 = .ok (.if_icmp .ge 21, 3) := by decide +kernel
theorem dX7_pointsOfAll_16 : decode cX7_pointsOfAll 16 = .ok (.iload_n 1, 1) := by decide +kernel
theorem dX7_pointsOfAll_17 : decode cX7_pointsOfAll 17 = .ok (.aload_n 0, 1) := by decide +kernel
theorem dX7_pointsOfAll_18 : decode cX7_pointsOfAll 18 = .ok (.getfield 7, 3) := by decide +kernel
theorem dX7_pointsOfAll_21 : decode cX7_pointsOfAll 21 = .ok (.bipush 16, 2) := by decide +kernel
theorem dX7_pointsOfAll_23 : decode cX7_pointsOfAll 23 = .ok (.iload_n 2, 1) := by decide +kernel
theorem dX7_pointsOfAll_24 : decode cX7_pointsOfAll 24 = .ok (.iadd, 1) := by decide +kernel
theorem dX7_pointsOfAll_25 : decode cX7_pointsOfAll 25 = .ok (.iaload, 1) := by decide +kernel
theorem dX7_pointsOfAll_26 : decode cX7_pointsOfAll 26 = .ok (.iadd, 1) := by decide +kernel
theorem dX7_pointsOfAll_27 : decode cX7_pointsOfAll 27 = .ok (.istore_n 1, 1) := by decide +kernel
theorem dX7_pointsOfAll_28 : decode cX7_pointsOfAll 28 = .ok (.iinc 2 1, 3) := by decide +kernel
theorem dX7_pointsOfAll_31 : decode cX7_pointsOfAll 31 = .ok (.goto (-27), 3) := by decide +kernel
theorem dX7_pointsOfAll_34 : decode cX7_pointsOfAll 34 = .ok (.iload_n 1, 1) := by decide +kernel
theorem dX7_pointsOfAll_35 : decode cX7_pointsOfAll 35 = .ok (.ireturn, 1) := by decide +kernel
set_option maxRecDepth 20000 in
theorem B_X7_pointsOfAll_0 {G : Gx} {X : Cx} {h : PH} {k n : Nat} {Q : State → Prop} {S : List PV} {a0 : Nat} (C : CX_X7_pointsOfAll G X) (kk : PW G X 3 Q k n 4 [some (.inr a0), some (.inl 0), some (.inl 0)] (S) h) : PW G X 3 Q k n 0 [some (.inr a0), none, none] (S) h := by
  refine pw_iconst C dX7_pointsOfAll_0 ?_
  refine pw_istore_n C dX7_pointsOfAll_1 (by decide) ?_
  refine pw_iconst C dX7_pointsOfAll_2 ?_
  refine pw_istore_n C dX7_pointsOfAll_3 (by decide) ?_
  exact kk
set_option maxRecDepth 20000 in
theorem B_X7_pointsOfAll_4 {G : Gx} {X : Cx} {h : PH} {k n : Nat} {Q : State → Prop} {S : List PV} {a0 : Nat} {a1 : Int} {a2 : Int} {r2 : Nat} {x8 : Int} (C : CX_X7_pointsOfAll G X) (t1 : ph_T h a0 = 7 := by first | assumption | rfl) (e3 : ph_R h a0 0 = r2 := by first | assumption | rfl) (t4 : ph_T h r2 = 8 := by first | assumption | rfl) (q5 : (0 : Int) ≤ 484 := by first | assumption | omega) (q6 : 484 < (ph_L h r2 : Int) := by first | assumption | omega) (q7 : pR 484 := by first | assumption | (unfold pR; omega)) (e9 : ph_I h r2 484 = x8 := by first | assumption | rfl) (q10 : pR a2 := by first | assumption | (unfold pR; omega)) (q11 : pR x8 := by first | assumption | (unfold pR; omega)) (kt : x8 ≤ a2 → PW G X 3 Q k n 34 [some (.inr a0), some (.inl a1), some (.inl a2)] (S) h) (kf : ¬ x8 ≤ a2 → PW G X 3 Q k n 16 [some (.inr a0), some (.inl a1), some (.inl a2)] (S) h) : PW G X 3 Q k n 4 [some (.inr a0), some (.inl a1), some (.inl a2)] (S) h := by
  refine pw_iload_n C dX7_pointsOfAll_4 rfl ?_
  refine pw_aload_n C dX7_pointsOfAll_5 rfl ?_
  refine pw_getR C (t := 7) (f := 0) rfl inF7 rfl (by decide) (by decide) rfl kw678 dX7_pointsOfAll_6 t1 ?_
  rw [e3]
  refine pw_sipush C dX7_pointsOfAll_9 rfl ?_
  refine pw_iald C dX7_pointsOfAll_12 t4 q5 q6 q7 ?_
  rw [show ph_I h r2 (Int.toNat 484) = x8 from e9]
  exact pw_icmp_ge C 34 dX7_pointsOfAll_13 (by decide) q10 q11 kt kf
set_option maxRecDepth 20000 in
theorem B_X7_pointsOfAll_16 {G : Gx} {X : Cx} {h : PH} {k n : Nat} {Q : State → Prop} {S : List PV} {a0 : Nat} {a1 : Int} {a2 : Int} {r2 : Nat} {x8 : Int} (C : CX_X7_pointsOfAll G X) (t1 : ph_T h a0 = 7 := by first | assumption | rfl) (e3 : ph_R h a0 0 = r2 := by first | assumption | rfl) (t4 : ph_T h r2 = 8 := by first | assumption | rfl) (q5 : (0 : Int) ≤ 16 + a2 := by first | assumption | omega) (q6 : 16 + a2 < (ph_L h r2 : Int) := by first | assumption | omega) (q7 : pR (16 + a2) := by first | assumption | (unfold pR; omega)) (e9 : ph_I h r2 (Int.toNat (16 + a2)) = x8 := by first | assumption | rfl) (kk : PW G X 3 Q k n 4 [some (.inr a0), some (.inl (a1 + x8)), some (.inl (a2 + 1))] (S) h) : PW G X 3 Q k n 16 [some (.inr a0), some (.inl a1), some (.inl a2)] (S) h := by
  refine pw_iload_n C dX7_pointsOfAll_16 rfl ?_
  refine pw_aload_n C dX7_pointsOfAll_17 rfl ?_
  refine pw_getR C (t := 7) (f := 0) rfl inF7 rfl (by decide) (by decide) rfl kw678 dX7_pointsOfAll_18 t1 ?_
  rw [e3]
  refine pw_bipush C dX7_pointsOfAll_21 rfl ?_
  refine pw_iload_n C dX7_pointsOfAll_23 rfl ?_
  refine pw_iadd C dX7_pointsOfAll_24 ?_
  refine pw_iald C dX7_pointsOfAll_25 t4 q5 q6 q7 ?_
  rw [e9]
  refine pw_iadd C dX7_pointsOfAll_26 ?_
  refine pw_istore_n C dX7_pointsOfAll_27 (by decide) ?_
  refine pw_iinc C dX7_pointsOfAll_28 rfl (by decide) ?_
  refine pw_goto C 4 dX7_pointsOfAll_31 (by decide) ?_
  exact kk
set_option maxRecDepth 20000 in
theorem B_X7_pointsOfAll_34 {G : Gx} {X : Cx} {h : PH} {k n : Nat} {a0 : Nat} {a1 : Int} {a2 : Int} {PQ : Option PV → PH → Prop} (C : CX_X7_pointsOfAll G X) (hq : PQ (some (.inl a1)) h) : PW G X 3 (pw_E G X PQ k n) k n 34 [some (.inr a0), some (.inl a1), some (.inl a2)] [] h := by
  refine pw_iload_n C dX7_pointsOfAll_34 rfl ?_
  exact pw_ireturn C dX7_pointsOfAll_35 hq
theorem dX7_looks_0 : decode cX7_looks 0 = .ok (.iconst 0, 1) := by decide +kernel
theorem dX7_looks_1 : decode cX7_looks 1 = .ok (.istore_n 2, 1) := by decide +kernel
theorem dX7_looks_2 : decode cX7_looks 2 = .ok (.iconst 0, 1) := by decide +kernel
theorem dX7_looks_3 : decode cX7_looks 3 = .ok (.istore_n 3, 1) := by decide +kernel
theorem dX7_looks_4 : decode cX7_looks 4 = .ok (.iload_n 3, 1) := by decide +kernel
theorem dX7_looks_5 : decode cX7_looks 5 = .ok (.sipush 168, 3) := by decide +kernel
theorem dX7_looks_8 : decode cX7_looks 8 = .ok (.if_icmp .ge 47, 3) := by decide +kernel
theorem dX7_looks_11 : decode cX7_looks 11 = .ok (.iload_n 2, 1) := by decide +kernel
theorem dX7_looks_12 : decode cX7_looks 12 = .ok (.iload_n 1, 1) := by decide +kernel
theorem dX7_looks_13 : decode cX7_looks 13 = .ok (.ifCond .eq 24, 3) := by decide +kernel
theorem dX7_looks_16 : decode cX7_looks 16 = .ok (.aload_n 0, 1) := by decide +kernel
theorem dX7_looks_17 : decode cX7_looks 17 = .ok (.getfield 7, 3) := by decide +kernel
theorem dX7_looks_20 : decode cX7_looks 20 = .ok (.sipush 316, 3) := by decide +kernel
theorem dX7_looks_23 : decode cX7_looks 23 = .ok (.iload_n 3, 1) := by decide +kernel
theorem dX7_looks_24 : decode cX7_looks 24 = .ok (.iadd, 1) := by decide +kernel
theorem dX7_looks_25 : decode cX7_looks 25 = .ok (.iaload, 1) := by decide +kernel
theorem dX7_looks_26 : decode cX7_looks 26 = .ok (.ifCond .le 7, 3) := by decide +kernel
theorem dX7_looks_29 : decode cX7_looks 29 = .ok (.iconst 1, 1) := by decide +kernel
theorem dX7_looks_30 : decode cX7_looks 30 = .ok (.goto 17, 3) := by decide +kernel
theorem dX7_looks_33 : decode cX7_looks 33 = .ok (.iconst 0, 1) := by decide +kernel
theorem dX7_looks_34 : decode cX7_looks 34 = .ok (.goto 13, 3) := by decide +kernel
theorem dX7_looks_37 : decode cX7_looks 37 = .ok (.aload_n 0, 1) := by decide +kernel
theorem dX7_looks_38 : decode cX7_looks 38 = .ok (.getfield 7, 3) := by decide +kernel
theorem dX7_looks_41 : decode cX7_looks 41 = .ok (.sipush 316, 3) := by decide +kernel
theorem dX7_looks_44 : decode cX7_looks 44 = .ok (.iload_n 3, 1) := by decide +kernel
theorem dX7_looks_45 : decode cX7_looks 45 = .ok (.iadd, 1) := by decide +kernel
theorem dX7_looks_46 : decode cX7_looks 46 = .ok (.iaload, 1) := by decide +kernel
theorem dX7_looks_47 : decode cX7_looks 47 = .ok (.iadd, 1) := by decide +kernel
theorem dX7_looks_48 : decode cX7_looks 48 = .ok (.istore_n 2, 1) := by decide +kernel
theorem dX7_looks_49 : decode cX7_looks 49 = .ok (.iinc 3 1, 3) := by decide +kernel
theorem dX7_looks_52 : decode cX7_looks 52 = .ok (.goto (-48), 3) := by decide +kernel
theorem dX7_looks_55 : decode cX7_looks 55 = .ok (.iload_n 2, 1) := by decide +kernel
theorem dX7_looks_56 : decode cX7_looks 56 = .ok (.ireturn, 1) := by decide +kernel
set_option maxRecDepth 20000 in
theorem B_X7_looks_0 {G : Gx} {X : Cx} {h : PH} {k n : Nat} {Q : State → Prop} {S : List PV} {a0 : Nat} {a1 : Int} (C : CX_X7_looks G X) (kk : PW G X 4 Q k n 4 [some (.inr a0), some (.inl a1), some (.inl 0), some (.inl 0)] (S) h) : PW G X 4 Q k n 0 [some (.inr a0), some (.inl a1), none, none] (S) h := by
  refine pw_iconst C dX7_looks_0 ?_
  refine pw_istore_n C dX7_looks_1 (by decide) ?_
  refine pw_iconst C dX7_looks_2 ?_
  refine pw_istore_n C dX7_looks_3 (by decide) ?_
  exact kk
set_option maxRecDepth 20000 in
theorem B_X7_looks_4 {G : Gx} {X : Cx} {h : PH} {k n : Nat} {Q : State → Prop} {S : List PV} {a0 : Nat} {a1 : Int} {a2 : Int} {a3 : Int} (C : CX_X7_looks G X) (q1 : pR a3 := by first | assumption | (unfold pR; omega)) (q2 : pR 168 := by first | assumption | (unfold pR; omega)) (kt : 168 ≤ a3 → PW G X 4 Q k n 55 [some (.inr a0), some (.inl a1), some (.inl a2), some (.inl a3)] (S) h) (kf : ¬ 168 ≤ a3 → PW G X 4 Q k n 11 [some (.inr a0), some (.inl a1), some (.inl a2), some (.inl a3)] (S) h) : PW G X 4 Q k n 4 [some (.inr a0), some (.inl a1), some (.inl a2), some (.inl a3)] (S) h := by
  refine pw_iload_n C dX7_looks_4 rfl ?_
  refine pw_sipush C dX7_looks_5 rfl ?_
  exact pw_icmp_ge C 55 dX7_looks_8 (by decide) q1 q2 kt kf
set_option maxRecDepth 20000 in
theorem B_X7_looks_11 {G : Gx} {X : Cx} {h : PH} {k n : Nat} {Q : State → Prop} {S : List PV} {a0 : Nat} {a1 : Int} {a2 : Int} {a3 : Int} (C : CX_X7_looks G X) (q1 : pR a1 := by first | assumption | (unfold pR; omega)) (kt : a1 = 0 → PW G X 4 Q k n 37 [some (.inr a0), some (.inl a1), some (.inl a2), some (.inl a3)] (.inl a2 :: S) h) (kf : ¬ a1 = 0 → PW G X 4 Q k n 16 [some (.inr a0), some (.inl a1), some (.inl a2), some (.inl a3)] (.inl a2 :: S) h) : PW G X 4 Q k n 11 [some (.inr a0), some (.inl a1), some (.inl a2), some (.inl a3)] (S) h := by
  refine pw_iload_n C dX7_looks_11 rfl ?_
  refine pw_iload_n C dX7_looks_12 rfl ?_
  exact pw_if_eq C 37 dX7_looks_13 (by decide) q1 kt kf
set_option maxRecDepth 20000 in
theorem B_X7_looks_16 {G : Gx} {X : Cx} {h : PH} {k n : Nat} {Q : State → Prop} {S : List PV} {a0 : Nat} {a1 : Int} {a2 : Int} {a3 : Int} {s0 : Int} {r2 : Nat} {x8 : Int} (C : CX_X7_looks G X) (t1 : ph_T h a0 = 7 := by first | assumption | rfl) (e3 : ph_R h a0 0 = r2 := by first | assumption | rfl) (t4 : ph_T h r2 = 8 := by first | assumption | rfl) (q5 : (0 : Int) ≤ 316 + a3 := by first | assumption | omega) (q6 : 316 + a3 < (ph_L h r2 : Int) := by first | assumption | omega) (q7 : pR (316 + a3) := by first | assumption | (unfold pR; omega)) (e9 : ph_I h r2 (Int.toNat (316 + a3)) = x8 := by first | assumption | rfl) (q10 : pR x8 := by first | assumption | (unfold pR; omega)) (kt : x8 ≤ 0 → PW G X 4 Q k n 33 [some (.inr a0), some (.inl a1), some (.inl a2), some (.inl a3)] (.inl s0 :: S) h) (kf : ¬ x8 ≤ 0 → PW G X 4 Q k n 29 [some (.inr a0), some (.inl a1), some (.inl a2), some (.inl a3)] (.inl s0 :: S) h) : PW G X 4 Q k n 16 [some (.inr a0), some (.inl a1), some (.inl a2), some (.inl a3)] (.inl s0 :: S) h := by
  refine pw_aload_n C dX7_looks_16 rfl ?_
  refine pw_getR C (t := 7) (f := 0) rfl inF7 rfl (by decide) (by decide) rfl kw678 dX7_looks_17 t1 ?_
  rw [e3]
  refine pw_sipush C dX7_looks_20 rfl ?_
  refine pw_iload_n C dX7_looks_23 rfl ?_
  refine pw_iadd C dX7_looks_24 ?_
  refine pw_iald C dX7_looks_25 t4 q5 q6 q7 ?_
  rw [e9]
  exact pw_if_le C 33 dX7_looks_26 (by decide) q10 kt kf
set_option maxRecDepth 20000 in
theorem B_X7_looks_29 {G : Gx} {X : Cx} {h : PH} {k n : Nat} {Q : State → Prop} {S : List PV} {a0 : Nat} {a1 : Int} {a2 : Int} {a3 : Int} {s0 : Int} (C : CX_X7_looks G X) (kk : PW G X 4 Q k n 47 [some (.inr a0), some (.inl a1), some (.inl a2), some (.inl a3)] (.inl 1 :: .inl s0 :: S) h) : PW G X 4 Q k n 29 [some (.inr a0), some (.inl a1), some (.inl a2), some (.inl a3)] (.inl s0 :: S) h := by
  refine pw_iconst C dX7_looks_29 ?_
  refine pw_goto C 47 dX7_looks_30 (by decide) ?_
  exact kk
set_option maxRecDepth 20000 in
theorem B_X7_looks_33 {G : Gx} {X : Cx} {h : PH} {k n : Nat} {Q : State → Prop} {S : List PV} {a0 : Nat} {a1 : Int} {a2 : Int} {a3 : Int} {s0 : Int} (C : CX_X7_looks G X) (kk : PW G X 4 Q k n 47 [some (.inr a0), some (.inl a1), some (.inl a2), some (.inl a3)] (.inl 0 :: .inl s0 :: S) h) : PW G X 4 Q k n 33 [some (.inr a0), some (.inl a1), some (.inl a2), some (.inl a3)] (.inl s0 :: S) h := by
  refine pw_iconst C dX7_looks_33 ?_
  refine pw_goto C 47 dX7_looks_34 (by decide) ?_
  exact kk
set_option maxRecDepth 20000 in
theorem B_X7_looks_37 {G : Gx} {X : Cx} {h : PH} {k n : Nat} {Q : State → Prop} {S : List PV} {a0 : Nat} {a1 : Int} {a2 : Int} {a3 : Int} {s0 : Int} {r2 : Nat} {x8 : Int} (C : CX_X7_looks G X) (t1 : ph_T h a0 = 7 := by first | assumption | rfl) (e3 : ph_R h a0 0 = r2 := by first | assumption | rfl) (t4 : ph_T h r2 = 8 := by first | assumption | rfl) (q5 : (0 : Int) ≤ 316 + a3 := by first | assumption | omega) (q6 : 316 + a3 < (ph_L h r2 : Int) := by first | assumption | omega) (q7 : pR (316 + a3) := by first | assumption | (unfold pR; omega)) (e9 : ph_I h r2 (Int.toNat (316 + a3)) = x8 := by first | assumption | rfl) (kk : PW G X 4 Q k n 47 [some (.inr a0), some (.inl a1), some (.inl a2), some (.inl a3)] (.inl x8 :: .inl s0 :: S) h) : PW G X 4 Q k n 37 [some (.inr a0), some (.inl a1), some (.inl a2), some (.inl a3)] (.inl s0 :: S) h := by
  refine pw_aload_n C dX7_looks_37 rfl ?_
  refine pw_getR C (t := 7) (f := 0) rfl inF7 rfl (by decide) (by decide) rfl kw678 dX7_looks_38 t1 ?_
  rw [e3]
  refine pw_sipush C dX7_looks_41 rfl ?_
  refine pw_iload_n C dX7_looks_44 rfl ?_
  refine pw_iadd C dX7_looks_45 ?_
  refine pw_iald C dX7_looks_46 t4 q5 q6 q7 ?_
  rw [e9]
  exact kk
set_option maxRecDepth 20000 in
theorem B_X7_looks_47 {G : Gx} {X : Cx} {h : PH} {k n : Nat} {Q : State → Prop} {S : List PV} {a0 : Nat} {a1 : Int} {a2 : Int} {a3 : Int} {s0 : Int} {s1 : Int} (C : CX_X7_looks G X) (kk : PW G X 4 Q k n 4 [some (.inr a0), some (.inl a1), some (.inl (s1 + s0)), some (.inl (a3 + 1))] (S) h) : PW G X 4 Q k n 47 [some (.inr a0), some (.inl a1), some (.inl a2), some (.inl a3)] (.inl s0 :: .inl s1 :: S) h := by
  refine pw_iadd C dX7_looks_47 ?_
  refine pw_istore_n C dX7_looks_48 (by decide) ?_
  refine pw_iinc C dX7_looks_49 rfl (by decide) ?_
  refine pw_goto C 4 dX7_looks_52 (by decide) ?_
  exact kk
set_option maxRecDepth 20000 in
theorem B_X7_looks_55 {G : Gx} {X : Cx} {h : PH} {k n : Nat} {a0 : Nat} {a1 : Int} {a2 : Int} {a3 : Int} {PQ : Option PV → PH → Prop} (C : CX_X7_looks G X) (hq : PQ (some (.inl a2)) h) : PW G X 4 (pw_E G X PQ k n) k n 55 [some (.inr a0), some (.inl a1), some (.inl a2), some (.inl a3)] [] h := by
  refine pw_iload_n C dX7_looks_55 rfl ?_
  exact pw_ireturn C dX7_looks_56 hq
theorem dX7_count_0 : decode cX7_count 0 = .ok (.iload_n 1, 1) := by decide +kernel
theorem dX7_count_1 : decode cX7_count 1 = .ok (.tableswitch 180 0 11 #[63, 72, 77, 82, 88, 94, 103, 112, 121, 132, 141, 150], 63) := by decide +kernel
theorem dX7_count_64 : decode cX7_count 64 = .ok (.aload_n 0, 1) := by decide +kernel
theorem dX7_count_65 : decode cX7_count 65 = .ok (.getfield 7, 3) := by decide +kernel
theorem dX7_count_68 : decode cX7_count 68 = .ok (.sipush 484, 3) := by decide +kernel
theorem dX7_count_71 : decode cX7_count 71 = .ok (.iaload, 1) := by decide +kernel
theorem dX7_count_72 : decode cX7_count 72 = .ok (.ireturn, 1) := by decide +kernel
theorem dX7_count_73 : decode cX7_count 73 = .ok (.aload_n 0, 1) := by decide +kernel
theorem dX7_count_74 : decode cX7_count 74 = .ok (.invokevirtual 140, 3) := by decide +kernel
theorem dX7_count_77 : decode cX7_count 77 = .ok (.ireturn, 1) := by decide +kernel
theorem dX7_count_78 : decode cX7_count 78 = .ok (.aload_n 0, 1) := by decide +kernel
theorem dX7_count_79 : decode cX7_count 79 = .ok (.invokevirtual 143, 3) := by decide +kernel
theorem dX7_count_82 : decode cX7_count 82 = .ok (.ireturn, 1) := by decide +kernel
theorem dX7_count_83 : decode cX7_count 83 = .ok (.aload_n 0, 1) := by decide +kernel
theorem dX7_count_84 : decode cX7_count 84 = .ok (.iconst 0, 1) := by decide +kernel
theorem dX7_count_85 : decode cX7_count 85 = .ok (.invokevirtual 146, 3) := by decide +kernel
theorem dX7_count_88 : decode cX7_count 88 = .ok (.ireturn, 1) := by decide +kernel
theorem dX7_count_89 : decode cX7_count 89 = .ok (.aload_n 0, 1) := by decide +kernel
theorem dX7_count_90 : decode cX7_count 90 = .ok (.iconst 1, 1) := by decide +kernel
theorem dX7_count_91 : decode cX7_count 91 = .ok (.invokevirtual 146, 3) := by decide +kernel
theorem dX7_count_94 : decode cX7_count 94 = .ok (.ireturn, 1) := by decide +kernel
theorem dX7_count_95 : decode cX7_count 95 = .ok (.aload_n 0, 1) := by decide +kernel
theorem dX7_count_96 : decode cX7_count 96 = .ok (.getfield 7, 3) := by decide +kernel
theorem dX7_count_99 : decode cX7_count 99 = .ok (.sipush 491, 3) := by decide +kernel
theorem dX7_count_102 : decode cX7_count 102 = .ok (.iaload, 1) := by decide +kernel
theorem dX7_count_103 : decode cX7_count 103 = .ok (.ireturn, 1) := by decide +kernel
theorem dX7_count_104 : decode cX7_count 104 = .ok (.aload_n 0, 1) := by decide +kernel
theorem dX7_count_105 : decode cX7_count 105 = .ok (.getfield 7, 3) := by decide +kernel
theorem dX7_count_108 : decode cX7_count 108 = .ok (.sipush 485, 3) := by decide +kernel
theorem dX7_count_111 : decode cX7_count 111 = .ok (.iaload, 1) := by decide +kernel
theorem dX7_count_112 : decode cX7_count 112 = .ok (.ireturn, 1) := by decide +kernel
theorem dX7_count_113 : decode cX7_count 113 = .ok (.aload_n 0, 1) := by decide +kernel
theorem dX7_count_114 : decode cX7_count 114 = .ok (.getfield 7, 3) := by decide +kernel
theorem dX7_count_117 : decode cX7_count 117 = .ok (.sipush 487, 3) := by decide +kernel
theorem dX7_count_120 : decode cX7_count 120 = .ok (.iaload, 1) := by decide +kernel
theorem dX7_count_121 : decode cX7_count 121 = .ok (.ireturn, 1) := by decide +kernel
theorem dX7_count_122 : decode cX7_count 122 = .ok (.aload_n 0, 1) := by decide +kernel
theorem dX7_count_123 : decode cX7_count 123 = .ok (.getfield 7, 3) := by decide +kernel
theorem dX7_count_126 : decode cX7_count 126 = .ok (.sipush 488, 3) := by decide +kernel
theorem dX7_count_129 : decode cX7_count 129 = .ok (.iaload, 1) := by decide +kernel
theorem dX7_count_130 : decode cX7_count 130 = .ok (.iconst 1, 1) := by decide +kernel
theorem dX7_count_131 : decode cX7_count 131 = .ok (.iadd, 1) := by decide +kernel
theorem dX7_count_132 : decode cX7_count 132 = .ok (.ireturn, 1) := by decide +kernel
theorem dX7_count_133 : decode cX7_count 133 = .ok (.aload_n 0, 1) := by decide +kernel
theorem dX7_count_134 : decode cX7_count 134 = .ok (.getfield 7, 3) := by decide +kernel
theorem dX7_count_137 : decode cX7_count 137 = .ok (.sipush 489, 3) := by decide +kernel
theorem dX7_count_140 : decode cX7_count 140 = .ok (.iaload, 1) := by decide +kernel
theorem dX7_count_141 : decode cX7_count 141 = .ok (.ireturn, 1) := by decide +kernel
theorem dX7_count_142 : decode cX7_count 142 = .ok (.aload_n 0, 1) := by decide +kernel
theorem dX7_count_143 : decode cX7_count 143 = .ok (.getfield 7, 3) := by decide +kernel
theorem dX7_count_146 : decode cX7_count 146 = .ok (.sipush 490, 3) := by decide +kernel
theorem dX7_count_149 : decode cX7_count 149 = .ok (.iaload, 1) := by decide +kernel
theorem dX7_count_150 : decode cX7_count 150 = .ok (.ireturn, 1) := by decide +kernel
theorem dX7_count_151 : decode cX7_count 151 = .ok (.aload_n 0, 1) := by decide +kernel
theorem dX7_count_152 : decode cX7_count 152 = .ok (.getfield 16, 3) := by decide +kernel
theorem dX7_count_155 : decode cX7_count 155 = .ok (.iconst 0, 1) := by decide +kernel
theorem dX7_count_156 : decode cX7_count 156 = .ok (.baload, 1) := by decide +kernel
theorem dX7_count_157 : decode cX7_count 157 = .ok (.ifCond .eq 7, 3) := by decide +kernel
theorem dX7_count_160 : decode cX7_count 160 = .ok (.iconst 1, 1) := by decide +kernel
theorem dX7_count_161 : decode cX7_count 161 = .ok (.goto 4, 3) := by decide +kernel
theorem dX7_count_164 : decode cX7_count 164 = .ok (.iconst 0, 1) := by decide +kernel
theorem dX7_count_165 : decode cX7_count 165 = .ok (.aload_n 0, 1) := by decide +kernel
theorem dX7_count_166 : decode cX7_count 166 = .ok (.getfield 16, 3) := by decide +kernel
theorem dX7_count_169 : decode cX7_count 169 = .ok (.iconst 1, 1) := by decide +kernel
theorem dX7_count_170 : decode cX7_count 170 = .ok (.baload, 1) := by decide +kernel
theorem dX7_count_171 : decode cX7_count 171 = .ok (.ifCond .eq 7, 3) := by decide +kernel
theorem dX7_count_174 : decode cX7_count 174 = .ok (.iconst 2, 1) := by decide +kernel
theorem dX7_count_175 : decode cX7_count 175 = .ok (.goto 4, 3) := by decide +kernel
theorem dX7_count_178 : decode cX7_count 178 = .ok (.iconst 0, 1) := by decide +kernel
theorem dX7_count_179 : decode cX7_count 179 = .ok (.iadd, 1) := by decide +kernel
theorem dX7_count_180 : decode cX7_count 180 = .ok (.ireturn, 1) := by decide +kernel
theorem dX7_count_181 : decode cX7_count 181 = .ok (.bipush (-2), 2) := by decide +kernel
theorem dX7_count_183 : decode cX7_count 183 = .ok (.ireturn, 1) := by decide +kernel
set_option maxRecDepth 20000 in
theorem B_X7_count_0 {G : Gx} {X : Cx} {h : PH} {k n : Nat} {Q : State → Prop} {S : List PV} {a0 : Nat} {a1 : Int} (C : CX_X7_count G X) (kk : PW G X 2 Q k n 1 [some (.inr a0), some (.inl a1)] (.inl a1 :: S) h) : PW G X 2 Q k n 0 [some (.inr a0), some (.inl a1)] (S) h := by
  refine pw_iload_n C dX7_count_0 rfl ?_
  exact kk
set_option maxRecDepth 20000 in
theorem B_X7_count_1 {G : Gx} {X : Cx} {h : PH} {k n : Nat} {Q : State → Prop} {S : List PV} {a0 : Nat} {a1 : Int} {s0 : Int} (C : CX_X7_count G X) (q1 : pR s0 := by first | assumption | (unfold pR; omega)) (k0 : s0 = 0 → PW G X 2 Q k n 64 [some (.inr a0), some (.inl a1)] (S) h) (k1 : s0 = 1 → PW G X 2 Q k n 73 [some (.inr a0), some (.inl a1)] (S) h) (k2 : s0 = 2 → PW G X 2 Q k n 78 [some (.inr a0), some (.inl a1)] (S) h) (k3 : s0 = 3 → PW G X 2 Q k n 83 [some (.inr a0), some (.inl a1)] (S) h) (k4 : s0 = 4 → PW G X 2 Q k n 89 [some (.inr a0), some (.inl a1)] (S) h) (k5 : s0 = 5 → PW G X 2 Q k n 95 [some (.inr a0), some (.inl a1)] (S) h) (k6 : s0 = 6 → PW G X 2 Q k n 104 [some (.inr a0), some (.inl a1)] (S) h) (k7 : s0 = 7 → PW G X 2 Q k n 113 [some (.inr a0), some (.inl a1)] (S) h) (k8 : s0 = 8 → PW G X 2 Q k n 122 [some (.inr a0), some (.inl a1)] (S) h) (k9 : s0 = 9 → PW G X 2 Q k n 133 [some (.inr a0), some (.inl a1)] (S) h) (k10 : s0 = 10 → PW G X 2 Q k n 142 [some (.inr a0), some (.inl a1)] (S) h) (k11 : s0 = 11 → PW G X 2 Q k n 151 [some (.inr a0), some (.inl a1)] (S) h) (kd : s0 < 0 ∨ 11 < s0 → PW G X 2 Q k n 181 [some (.inr a0), some (.inl a1)] (S) h) : PW G X 2 Q k n 1 [some (.inr a0), some (.inl a1)] (.inl s0 :: S) h := by
  by_cases zz : s0 < 0 ∨ 11 < s0
  · exact pw_tableOut C 181 dX7_count_1 q1 zz (by decide) (kd zz)
  · have zz2 : s0 = 0 ∨ s0 = 1 ∨ s0 = 2 ∨ s0 = 3 ∨ s0 = 4 ∨ s0 = 5 ∨ s0 = 6 ∨ s0 = 7 ∨ s0 = 8 ∨ s0 = 9 ∨ s0 = 10 ∨ s0 = 11 := by omega
    rcases zz2 with z0 | z1 | z2 | z3 | z4 | z5 | z6 | z7 | z8 | z9 | z10 | z11
    · have kj := k0 z0
      subst z0
      exact pw_tableIn C 64 dX7_count_1 q1 (by decide) (by decide) rfl (by decide) kj
    · have kj := k1 z1
      subst z1
      exact pw_tableIn C 73 dX7_count_1 q1 (by decide) (by decide) rfl (by decide) kj
    · have kj := k2 z2
      subst z2
      exact pw_tableIn C 78 dX7_count_1 q1 (by decide) (by decide) rfl (by decide) kj
    · have kj := k3 z3
      subst z3
      exact pw_tableIn C 83 dX7_count_1 q1 (by decide) (by decide) rfl (by decide) kj
    · have kj := k4 z4
      subst z4
      exact pw_tableIn C 89 dX7_count_1 q1 (by decide) (by decide) rfl (by decide) kj
    · have kj := k5 z5
      subst z5
      exact pw_tableIn C 95 dX7_count_1 q1 (by decide) (by decide) rfl (by decide) kj
    · have kj := k6 z6
      subst z6
      exact pw_tableIn C 104 dX7_count_1 q1 (by decide) (by decide) rfl (by decide) kj
    · have kj := k7 z7
      subst z7
      exact pw_tableIn C 113 dX7_count_1 q1 (by decide) (by decide) rfl (by decide) kj
    · have kj := k8 z8
      subst z8
      exact pw_tableIn C 122 dX7_count_1 q1 (by decide) (by decide) rfl (by decide) kj
    · have kj := k9 z9
      subst z9
      exact pw_tableIn C 133 dX7_count_1 q1 (by decide) (by decide) rfl (by decide) kj
    · have kj := k10 z10
      subst z10
      exact pw_tableIn C 142 dX7_count_1 q1 (by decide) (by decide) rfl (by decide) kj
    · have kj := k11 z11
      subst z11
      exact pw_tableIn C 151 dX7_count_1 q1 (by decide) (by decide) rfl (by decide) kj
set_option maxRecDepth 20000 in
theorem B_X7_count_64 {G : Gx} {X : Cx} {h : PH} {k n : Nat} {a0 : Nat} {a1 : Int} {r2 : Nat} {x8 : Int} {PQ : Option PV → PH → Prop} (C : CX_X7_count G X) (t1 : ph_T h a0 = 7 := by first | assumption | rfl) (e3 : ph_R h a0 0 = r2 := by first | assumption | rfl) (t4 : ph_T h r2 = 8 := by first | assumption | rfl) (q5 : (0 : Int) ≤ 484 := by first | assumption | omega) (q6 : 484 < (ph_L h r2 : Int) := by first | assumption | omega) (q7 : pR 484 := by first | assumption | (unfold pR; omega)) (e9 : ph_I h r2 484 = x8 := by first | assumption | rfl) (hq : PQ (some (.inl x8)) h) : PW G X 2 (pw_E G X PQ k n) k n 64 [some (.inr a0), some (.inl a1)] [] h := by
  refine pw_aload_n C dX7_count_64 rfl ?_
  refine pw_getR C (t := 7) (f := 0) rfl inF7 rfl (by decide) (by decide) rfl kw678 dX7_count_65 t1 ?_
  rw [e3]
  refine pw_sipush C dX7_count_68 rfl ?_
  refine pw_iald C dX7_count_71 t4 q5 q6 q7 ?_
  rw [show ph_I h r2 (Int.toNat 484) = x8 from e9]
  exact pw_ireturn C dX7_count_72 hq
set_option maxRecDepth 20000 in
theorem B_X7_count_73 {G : Gx} {X : Cx} {h : PH} {k n : Nat} {Q : State → Prop} {S : List PV} {a0 : Nat} {a1 : Int} {PQ : Option PV → PH → Prop} (C : CX_X7_count G X) (hk0 : k ≤ 0 := by decide) (hn0 : n ≤ 0 := by decide) (t1 : ph_T h a0 = 7 := by first | assumption | rfl) (hM : CT_X7_takenOnes G X.2.1 [.inr a0] h PQ) (hS : S.length ≤ 8 := by decide) (kk : ∀ r h', PQ r h' → PW G X 2 Q k n 77 [some (.inr a0), some (.inl a1)] (r.toList ++ S) h') : PW G X 2 Q k n 73 [some (.inr a0), some (.inl a1)] (S) h := by
  refine pw_aload_n C dX7_count_73 rfl ?_
  exact pw_callV C (na := 0) (As := []) (S := S) hM t1 (by decide) (hcl := by rfl) kw891 kw893 kw34 kw45 kw894 (by decide +kernel) rfl dX7_count_74 (by decide) (by decide) hk0 hn0 (by first | exact hS | (simp only [List.length_cons]; omega)) kk
set_option maxRecDepth 20000 in
theorem B_X7_count_77 {G : Gx} {X : Cx} {h : PH} {k n : Nat} {a0 : Nat} {a1 : Int} {s0 : Int} {PQ : Option PV → PH → Prop} (C : CX_X7_count G X) (hq : PQ (some (.inl s0)) h) : PW G X 2 (pw_E G X PQ k n) k n 77 [some (.inr a0), some (.inl a1)] [.inl s0] h := by
  exact pw_ireturn C dX7_count_77 hq
set_option maxRecDepth 20000 in
theorem B_X7_count_78 {G : Gx} {X : Cx} {h : PH} {k n : Nat} {Q : State → Prop} {S : List PV} {a0 : Nat} {a1 : Int} {PQ : Option PV → PH → Prop} (C : CX_X7_count G X) (hk0 : k ≤ 0 := by decide) (hn0 : n ≤ 0 := by decide) (t1 : ph_T h a0 = 7 := by first | assumption | rfl) (hM : CT_X7_pointsOfAll G X.2.1 [.inr a0] h PQ) (hS : S.length ≤ 8 := by decide) (kk : ∀ r h', PQ r h' → PW G X 2 Q k n 82 [some (.inr a0), some (.inl a1)] (r.toList ++ S) h') : PW G X 2 Q k n 78 [some (.inr a0), some (.inl a1)] (S) h := by
  refine pw_aload_n C dX7_count_78 rfl ?_
  exact pw_callV C (na := 0) (As := []) (S := S) hM t1 (by decide) (hcl := by rfl) kw895 kw897 kw35 kw45 kw898 (by decide +kernel) rfl dX7_count_79 (by decide) (by decide) hk0 hn0 (by first | exact hS | (simp only [List.length_cons]; omega)) kk
set_option maxRecDepth 20000 in
theorem B_X7_count_82 {G : Gx} {X : Cx} {h : PH} {k n : Nat} {a0 : Nat} {a1 : Int} {s0 : Int} {PQ : Option PV → PH → Prop} (C : CX_X7_count G X) (hq : PQ (some (.inl s0)) h) : PW G X 2 (pw_E G X PQ k n) k n 82 [some (.inr a0), some (.inl a1)] [.inl s0] h := by
  exact pw_ireturn C dX7_count_82 hq
set_option maxRecDepth 20000 in
theorem B_X7_count_83 {G : Gx} {X : Cx} {h : PH} {k n : Nat} {Q : State → Prop} {S : List PV} {a0 : Nat} {a1 : Int} {PQ : Option PV → PH → Prop} (C : CX_X7_count G X) (hk0 : k ≤ 0 := by decide) (hn0 : n ≤ 0 := by decide) (t1 : ph_T h a0 = 7 := by first | assumption | rfl) (hM : CT_X7_looks G X.2.1 [.inr a0, .inl 0] h PQ) (hS : S.length ≤ 8 := by decide) (kk : ∀ r h', PQ r h' → PW G X 2 Q k n 88 [some (.inr a0), some (.inl a1)] (r.toList ++ S) h') : PW G X 2 Q k n 83 [some (.inr a0), some (.inl a1)] (S) h := by
  refine pw_aload_n C dX7_count_83 rfl ?_
  refine pw_iconst C dX7_count_84 ?_
  exact pw_callV C (na := 1) (As := [.inl 0]) (S := S) hM t1 (by decide) (hcl := by rfl) kw899 kw901 kw36 kw45 kw902 (by decide +kernel) rfl dX7_count_85 (by decide) (by decide) hk0 hn0 (by first | exact hS | (simp only [List.length_cons]; omega)) kk
set_option maxRecDepth 20000 in
theorem B_X7_count_88 {G : Gx} {X : Cx} {h : PH} {k n : Nat} {a0 : Nat} {a1 : Int} {s0 : Int} {PQ : Option PV → PH → Prop} (C : CX_X7_count G X) (hq : PQ (some (.inl s0)) h) : PW G X 2 (pw_E G X PQ k n) k n 88 [some (.inr a0), some (.inl a1)] [.inl s0] h := by
  exact pw_ireturn C dX7_count_88 hq
set_option maxRecDepth 20000 in
theorem B_X7_count_89 {G : Gx} {X : Cx} {h : PH} {k n : Nat} {Q : State → Prop} {S : List PV} {a0 : Nat} {a1 : Int} {PQ : Option PV → PH → Prop} (C : CX_X7_count G X) (hk0 : k ≤ 0 := by decide) (hn0 : n ≤ 0 := by decide) (t1 : ph_T h a0 = 7 := by first | assumption | rfl) (hM : CT_X7_looks G X.2.1 [.inr a0, .inl 1] h PQ) (hS : S.length ≤ 8 := by decide) (kk : ∀ r h', PQ r h' → PW G X 2 Q k n 94 [some (.inr a0), some (.inl a1)] (r.toList ++ S) h') : PW G X 2 Q k n 89 [some (.inr a0), some (.inl a1)] (S) h := by
  refine pw_aload_n C dX7_count_89 rfl ?_
  refine pw_iconst C dX7_count_90 ?_
  exact pw_callV C (na := 1) (As := [.inl 1]) (S := S) hM t1 (by decide) (hcl := by rfl) kw899 kw901 kw36 kw45 kw902 (by decide +kernel) rfl dX7_count_91 (by decide) (by decide) hk0 hn0 (by first | exact hS | (simp only [List.length_cons]; omega)) kk
set_option maxRecDepth 20000 in
theorem B_X7_count_94 {G : Gx} {X : Cx} {h : PH} {k n : Nat} {a0 : Nat} {a1 : Int} {s0 : Int} {PQ : Option PV → PH → Prop} (C : CX_X7_count G X) (hq : PQ (some (.inl s0)) h) : PW G X 2 (pw_E G X PQ k n) k n 94 [some (.inr a0), some (.inl a1)] [.inl s0] h := by
  exact pw_ireturn C dX7_count_94 hq
set_option maxRecDepth 20000 in
theorem B_X7_count_95 {G : Gx} {X : Cx} {h : PH} {k n : Nat} {a0 : Nat} {a1 : Int} {r2 : Nat} {x8 : Int} {PQ : Option PV → PH → Prop} (C : CX_X7_count G X) (t1 : ph_T h a0 = 7 := by first | assumption | rfl) (e3 : ph_R h a0 0 = r2 := by first | assumption | rfl) (t4 : ph_T h r2 = 8 := by first | assumption | rfl) (q5 : (0 : Int) ≤ 491 := by first | assumption | omega) (q6 : 491 < (ph_L h r2 : Int) := by first | assumption | omega) (q7 : pR 491 := by first | assumption | (unfold pR; omega)) (e9 : ph_I h r2 491 = x8 := by first | assumption | rfl) (hq : PQ (some (.inl x8)) h) : PW G X 2 (pw_E G X PQ k n) k n 95 [some (.inr a0), some (.inl a1)] [] h := by
  refine pw_aload_n C dX7_count_95 rfl ?_
  refine pw_getR C (t := 7) (f := 0) rfl inF7 rfl (by decide) (by decide) rfl kw678 dX7_count_96 t1 ?_
  rw [e3]
  refine pw_sipush C dX7_count_99 rfl ?_
  refine pw_iald C dX7_count_102 t4 q5 q6 q7 ?_
  rw [show ph_I h r2 (Int.toNat 491) = x8 from e9]
  exact pw_ireturn C dX7_count_103 hq
set_option maxRecDepth 20000 in
theorem B_X7_count_104 {G : Gx} {X : Cx} {h : PH} {k n : Nat} {a0 : Nat} {a1 : Int} {r2 : Nat} {x8 : Int} {PQ : Option PV → PH → Prop} (C : CX_X7_count G X) (t1 : ph_T h a0 = 7 := by first | assumption | rfl) (e3 : ph_R h a0 0 = r2 := by first | assumption | rfl) (t4 : ph_T h r2 = 8 := by first | assumption | rfl) (q5 : (0 : Int) ≤ 485 := by first | assumption | omega) (q6 : 485 < (ph_L h r2 : Int) := by first | assumption | omega) (q7 : pR 485 := by first | assumption | (unfold pR; omega)) (e9 : ph_I h r2 485 = x8 := by first | assumption | rfl) (hq : PQ (some (.inl x8)) h) : PW G X 2 (pw_E G X PQ k n) k n 104 [some (.inr a0), some (.inl a1)] [] h := by
  refine pw_aload_n C dX7_count_104 rfl ?_
  refine pw_getR C (t := 7) (f := 0) rfl inF7 rfl (by decide) (by decide) rfl kw678 dX7_count_105 t1 ?_
  rw [e3]
  refine pw_sipush C dX7_count_108 rfl ?_
  refine pw_iald C dX7_count_111 t4 q5 q6 q7 ?_
  rw [show ph_I h r2 (Int.toNat 485) = x8 from e9]
  exact pw_ireturn C dX7_count_112 hq
set_option maxRecDepth 20000 in
theorem B_X7_count_113 {G : Gx} {X : Cx} {h : PH} {k n : Nat} {a0 : Nat} {a1 : Int} {r2 : Nat} {x8 : Int} {PQ : Option PV → PH → Prop} (C : CX_X7_count G X) (t1 : ph_T h a0 = 7 := by first | assumption | rfl) (e3 : ph_R h a0 0 = r2 := by first | assumption | rfl) (t4 : ph_T h r2 = 8 := by first | assumption | rfl) (q5 : (0 : Int) ≤ 487 := by first | assumption | omega) (q6 : 487 < (ph_L h r2 : Int) := by first | assumption | omega) (q7 : pR 487 := by first | assumption | (unfold pR; omega)) (e9 : ph_I h r2 487 = x8 := by first | assumption | rfl) (hq : PQ (some (.inl x8)) h) : PW G X 2 (pw_E G X PQ k n) k n 113 [some (.inr a0), some (.inl a1)] [] h := by
  refine pw_aload_n C dX7_count_113 rfl ?_
  refine pw_getR C (t := 7) (f := 0) rfl inF7 rfl (by decide) (by decide) rfl kw678 dX7_count_114 t1 ?_
  rw [e3]
  refine pw_sipush C dX7_count_117 rfl ?_
  refine pw_iald C dX7_count_120 t4 q5 q6 q7 ?_
  rw [show ph_I h r2 (Int.toNat 487) = x8 from e9]
  exact pw_ireturn C dX7_count_121 hq
set_option maxRecDepth 20000 in
theorem B_X7_count_122 {G : Gx} {X : Cx} {h : PH} {k n : Nat} {a0 : Nat} {a1 : Int} {r2 : Nat} {x8 : Int} {PQ : Option PV → PH → Prop} (C : CX_X7_count G X) (t1 : ph_T h a0 = 7 := by first | assumption | rfl) (e3 : ph_R h a0 0 = r2 := by first | assumption | rfl) (t4 : ph_T h r2 = 8 := by first | assumption | rfl) (q5 : (0 : Int) ≤ 488 := by first | assumption | omega) (q6 : 488 < (ph_L h r2 : Int) := by first | assumption | omega) (q7 : pR 488 := by first | assumption | (unfold pR; omega)) (e9 : ph_I h r2 488 = x8 := by first | assumption | rfl) (hq : PQ (some (.inl (x8 + 1))) h) : PW G X 2 (pw_E G X PQ k n) k n 122 [some (.inr a0), some (.inl a1)] [] h := by
  refine pw_aload_n C dX7_count_122 rfl ?_
  refine pw_getR C (t := 7) (f := 0) rfl inF7 rfl (by decide) (by decide) rfl kw678 dX7_count_123 t1 ?_
  rw [e3]
  refine pw_sipush C dX7_count_126 rfl ?_
  refine pw_iald C dX7_count_129 t4 q5 q6 q7 ?_
  rw [show ph_I h r2 (Int.toNat 488) = x8 from e9]
  refine pw_iconst C dX7_count_130 ?_
  refine pw_iadd C dX7_count_131 ?_
  exact pw_ireturn C dX7_count_132 hq
set_option maxRecDepth 20000 in
theorem B_X7_count_133 {G : Gx} {X : Cx} {h : PH} {k n : Nat} {a0 : Nat} {a1 : Int} {r2 : Nat} {x8 : Int} {PQ : Option PV → PH → Prop} (C : CX_X7_count G X) (t1 : ph_T h a0 = 7 := by first | assumption | rfl) (e3 : ph_R h a0 0 = r2 := by first | assumption | rfl) (t4 : ph_T h r2 = 8 := by first | assumption | rfl) (q5 : (0 : Int) ≤ 489 := by first | assumption | omega) (q6 : 489 < (ph_L h r2 : Int) := by first | assumption | omega) (q7 : pR 489 := by first | assumption | (unfold pR; omega)) (e9 : ph_I h r2 489 = x8 := by first | assumption | rfl) (hq : PQ (some (.inl x8)) h) : PW G X 2 (pw_E G X PQ k n) k n 133 [some (.inr a0), some (.inl a1)] [] h := by
  refine pw_aload_n C dX7_count_133 rfl ?_
  refine pw_getR C (t := 7) (f := 0) rfl inF7 rfl (by decide) (by decide) rfl kw678 dX7_count_134 t1 ?_
  rw [e3]
  refine pw_sipush C dX7_count_137 rfl ?_
  refine pw_iald C dX7_count_140 t4 q5 q6 q7 ?_
  rw [show ph_I h r2 (Int.toNat 489) = x8 from e9]
  exact pw_ireturn C dX7_count_141 hq
set_option maxRecDepth 20000 in
theorem B_X7_count_142 {G : Gx} {X : Cx} {h : PH} {k n : Nat} {a0 : Nat} {a1 : Int} {r2 : Nat} {x8 : Int} {PQ : Option PV → PH → Prop} (C : CX_X7_count G X) (t1 : ph_T h a0 = 7 := by first | assumption | rfl) (e3 : ph_R h a0 0 = r2 := by first | assumption | rfl) (t4 : ph_T h r2 = 8 := by first | assumption | rfl) (q5 : (0 : Int) ≤ 490 := by first | assumption | omega) (q6 : 490 < (ph_L h r2 : Int) := by first | assumption | omega) (q7 : pR 490 := by first | assumption | (unfold pR; omega)) (e9 : ph_I h r2 490 = x8 := by first | assumption | rfl) (hq : PQ (some (.inl x8)) h) : PW G X 2 (pw_E G X PQ k n) k n 142 [some (.inr a0), some (.inl a1)] [] h := by
  refine pw_aload_n C dX7_count_142 rfl ?_
  refine pw_getR C (t := 7) (f := 0) rfl inF7 rfl (by decide) (by decide) rfl kw678 dX7_count_143 t1 ?_
  rw [e3]
  refine pw_sipush C dX7_count_146 rfl ?_
  refine pw_iald C dX7_count_149 t4 q5 q6 q7 ?_
  rw [show ph_I h r2 (Int.toNat 490) = x8 from e9]
  exact pw_ireturn C dX7_count_150 hq
set_option maxRecDepth 20000 in
theorem B_X7_count_151 {G : Gx} {X : Cx} {h : PH} {k n : Nat} {Q : State → Prop} {S : List PV} {a0 : Nat} {a1 : Int} {r2 : Nat} {x8 : Int} (C : CX_X7_count G X) (t1 : ph_T h a0 = 7 := by first | assumption | rfl) (e3 : ph_R h a0 2 = r2 := by first | assumption | rfl) (t4 : ph_T h r2 = 9 := by first | assumption | rfl) (q5 : (0 : Int) ≤ 0 := by first | assumption | omega) (q6 : 0 < (ph_L h r2 : Int) := by first | assumption | omega) (q7 : pR 0 := by first | assumption | (unfold pR; omega)) (e9 : ph_I h r2 0 = x8 := by first | assumption | rfl) (q10 : pR x8 := by first | assumption | (unfold pR; omega)) (kt : x8 = 0 → PW G X 2 Q k n 164 [some (.inr a0), some (.inl a1)] (S) h) (kf : ¬ x8 = 0 → PW G X 2 Q k n 160 [some (.inr a0), some (.inl a1)] (S) h) : PW G X 2 Q k n 151 [some (.inr a0), some (.inl a1)] (S) h := by
  refine pw_aload_n C dX7_count_151 rfl ?_
  refine pw_getR C (t := 7) (f := 2) rfl inF7 rfl (by decide) (by decide) rfl kw680 dX7_count_152 t1 ?_
  rw [e3]
  refine pw_iconst C dX7_count_155 ?_
  refine pw_zald C dX7_count_156 t4 q5 q6 q7 ?_
  rw [show ph_I h r2 (Int.toNat 0) = x8 from e9]
  exact pw_if_eq C 164 dX7_count_157 (by decide) q10 kt kf
set_option maxRecDepth 20000 in
theorem B_X7_count_160 {G : Gx} {X : Cx} {h : PH} {k n : Nat} {Q : State → Prop} {S : List PV} {a0 : Nat} {a1 : Int} (C : CX_X7_count G X) (kk : PW G X 2 Q k n 165 [some (.inr a0), some (.inl a1)] (.inl 1 :: S) h) : PW G X 2 Q k n 160 [some (.inr a0), some (.inl a1)] (S) h := by
  refine pw_iconst C dX7_count_160 ?_
  refine pw_goto C 165 dX7_count_161 (by decide) ?_
  exact kk
set_option maxRecDepth 20000 in
theorem B_X7_count_164 {G : Gx} {X : Cx} {h : PH} {k n : Nat} {Q : State → Prop} {S : List PV} {a0 : Nat} {a1 : Int} (C : CX_X7_count G X) (kk : PW G X 2 Q k n 165 [some (.inr a0), some (.inl a1)] (.inl 0 :: S) h) : PW G X 2 Q k n 164 [some (.inr a0), some (.inl a1)] (S) h := by
  refine pw_iconst C dX7_count_164 ?_
  exact kk
set_option maxRecDepth 20000 in
theorem B_X7_count_165 {G : Gx} {X : Cx} {h : PH} {k n : Nat} {Q : State → Prop} {S : List PV} {a0 : Nat} {a1 : Int} {s0 : Int} {r2 : Nat} {x8 : Int} (C : CX_X7_count G X) (t1 : ph_T h a0 = 7 := by first | assumption | rfl) (e3 : ph_R h a0 2 = r2 := by first | assumption | rfl) (t4 : ph_T h r2 = 9 := by first | assumption | rfl) (q5 : (0 : Int) ≤ 1 := by first | assumption | omega) (q6 : 1 < (ph_L h r2 : Int) := by first | assumption | omega) (q7 : pR 1 := by first | assumption | (unfold pR; omega)) (e9 : ph_I h r2 1 = x8 := by first | assumption | rfl) (q10 : pR x8 := by first | assumption | (unfold pR; omega)) (kt : x8 = 0 → PW G X 2 Q k n 178 [some (.inr a0), some (.inl a1)] (.inl s0 :: S) h) (kf : ¬ x8 = 0 → PW G X 2 Q k n 174 [some (.inr a0), some (.inl a1)] (.inl s0 :: S) h) : PW G X 2 Q k n 165 [some (.inr a0), some (.inl a1)] (.inl s0 :: S) h := by
  refine pw_aload_n C dX7_count_165 rfl ?_
  refine pw_getR C (t := 7) (f := 2) rfl inF7 rfl (by decide) (by decide) rfl kw680 dX7_count_166 t1 ?_
  rw [e3]
  refine pw_iconst C dX7_count_169 ?_
  refine pw_zald C dX7_count_170 t4 q5 q6 q7 ?_
  rw [show ph_I h r2 (Int.toNat 1) = x8 from e9]
  exact pw_if_eq C 178 dX7_count_171 (by decide) q10 kt kf
set_option maxRecDepth 20000 in
theorem B_X7_count_174 {G : Gx} {X : Cx} {h : PH} {k n : Nat} {Q : State → Prop} {S : List PV} {a0 : Nat} {a1 : Int} {s0 : Int} (C : CX_X7_count G X) (kk : PW G X 2 Q k n 179 [some (.inr a0), some (.inl a1)] (.inl 2 :: .inl s0 :: S) h) : PW G X 2 Q k n 174 [some (.inr a0), some (.inl a1)] (.inl s0 :: S) h := by
  refine pw_iconst C dX7_count_174 ?_
  refine pw_goto C 179 dX7_count_175 (by decide) ?_
  exact kk
set_option maxRecDepth 20000 in
theorem B_X7_count_178 {G : Gx} {X : Cx} {h : PH} {k n : Nat} {Q : State → Prop} {S : List PV} {a0 : Nat} {a1 : Int} {s0 : Int} (C : CX_X7_count G X) (kk : PW G X 2 Q k n 179 [some (.inr a0), some (.inl a1)] (.inl 0 :: .inl s0 :: S) h) : PW G X 2 Q k n 178 [some (.inr a0), some (.inl a1)] (.inl s0 :: S) h := by
  refine pw_iconst C dX7_count_178 ?_
  exact kk
set_option maxRecDepth 20000 in
theorem B_X7_count_179 {G : Gx} {X : Cx} {h : PH} {k n : Nat} {a0 : Nat} {a1 : Int} {s0 : Int} {s1 : Int} {PQ : Option PV → PH → Prop} (C : CX_X7_count G X) (hq : PQ (some (.inl (s1 + s0))) h) : PW G X 2 (pw_E G X PQ k n) k n 179 [some (.inr a0), some (.inl a1)] [.inl s0, .inl s1] h := by
  refine pw_iadd C dX7_count_179 ?_
  exact pw_ireturn C dX7_count_180 hq
set_option maxRecDepth 20000 in
theorem B_X7_count_181 {G : Gx} {X : Cx} {h : PH} {k n : Nat} {a0 : Nat} {a1 : Int} {PQ : Option PV → PH → Prop} (C : CX_X7_count G X) (hq : PQ (some (.inl (-2))) h) : PW G X 2 (pw_E G X PQ k n) k n 181 [some (.inr a0), some (.inl a1)] [] h := by
  refine pw_bipush C dX7_count_181 rfl ?_
  exact pw_ireturn C dX7_count_183 hq
theorem dX7_image_0 : decode cX7_image 0 = .ok (.iload_n 1, 1) := by decide +kernel
theorem dX7_image_1 : decode cX7_image 1 = .ok (.iconst 0, 1) := by decide +kernel
theorem dX7_image_2 : decode cX7_image 2 = .ok (.iconst 1, 1) := by decide +kernel
theorem dX7_image_3 : decode cX7_image 3 = .ok (.invokestatic 33, 3) := by decide +kernel
theorem dX7_image_6 : decode cX7_image 6 = .ok (.ifCond .ne 6, 3) := by decide +kernel
theorem dX7_image_9 : decode cX7_image 9 = .ok (.bipush (-2), 2) := by decide +kernel
theorem dX7_image_11 : decode cX7_image 11 = .ok (.ireturn, 1) := by decide +kernel
theorem dX7_image_12 : decode cX7_image 12 = .ok (.iconst 0, 1) := by decide +kernel
theorem dX7_image_13 : decode cX7_image 13 = .ok (.istore_n 2, 1) := by decide +kernel
theorem dX7_image_14 : decode cX7_image 14 = .ok (.iload_n 2, 1) := by decide +kernel
theorem dX7_image_15 : decode cX7_image 15 = .ok (.sipush 492, 3) := by decide +kernel
theorem dX7_image_18 : decode cX7_image 18 = .ok (.if_icmp .ge 27, 3) := by decide +kernel
theorem dX7_image_21 : decode cX7_image 21 = .ok (.aload_n 0, 1) := by decide +kernel
theorem dX7_image_22 : decode cX7_image 22 = .ok (.getfield 13, 3) := by decide +kernel
theorem dX7_image_25 : decode cX7_image 25 = .ok (.sipush 492, 3) := by decide +kernel
theorem dX7_image_28 : decode cX7_image 28 = .ok (.iload_n 1, 1) := by decide +kernel
theorem dX7_image_29 : decode cX7_image 29 = .ok (.imul, 1) := by decide +kernel
theorem dX7_image_30 : decode cX7_image 30 = .ok (.iload_n 2, 1) := by decide +kernel
theorem dX7_image_31 : decode cX7_image 31 = .ok (.iadd, 1) := by decide +kernel
theorem dX7_image_32 : decode cX7_image 32 = .ok (.aload_n 0, 1) := by decide +kernel
theorem dX7_image_33 : decode cX7_image 33 = .ok (.getfield 7, 3) := by decide +kernel
theorem dX7_image_36 : decode cX7_image 36 = .ok (.iload_n 2, 1) := by decide +kernel
theorem dX7_image_37 : decode cX7_image 37 = .ok (.iaload, 1) := by decide +kernel
theorem dX7_image_38 : decode cX7_image 38 = .ok (.iastore, 1) := by decide +kernel
theorem dX7_image_39 : decode cX7_image 39 = .ok (.iinc 2 1, 3) := by decide +kernel
theorem dX7_image_42 : decode cX7_image 42 = .ok (.goto (-28), 3) := by decide +kernel
theorem dX7_image_45 : decode cX7_image 45 = .ok (.aload_n 0, 1) := by decide +kernel
theorem dX7_image_46 : decode cX7_image 46 = .ok (.getfield 16, 3) := by decide +kernel
theorem dX7_image_49 : decode cX7_image 49 = .ok (.iload_n 1, 1) := by decide +kernel
theorem dX7_image_50 : decode cX7_image 50 = .ok (.iconst 1, 1) := by decide +kernel
theorem dX7_image_51 : decode cX7_image 51 = .ok (.bastore, 1) := by decide +kernel
theorem dX7_image_52 : decode cX7_image 52 = .ok (.iconst 1, 1) := by decide +kernel
theorem dX7_image_53 : decode cX7_image 53 = .ok (.ireturn, 1) := by decide +kernel
set_option maxRecDepth 20000 in
theorem B_X7_image_0 {G : Gx} {X : Cx} {h : PH} {k n : Nat} {Q : State → Prop} {S : List PV} {a0 : Nat} {a1 : Int} {PQ : Option PV → PH → Prop} (C : CX_X7_image G X) (hk0 : k ≤ 0 := by decide) (hn0 : n ≤ 0 := by decide) (hM : CT_X7_in G X.2.1 [.inl a1, .inl 0, .inl 1] h PQ) (hS : S.length ≤ 8 := by decide) (kk : ∀ r h', PQ r h' → PW G X 3 Q k n 6 [some (.inr a0), some (.inl a1), none] (r.toList ++ S) h') : PW G X 3 Q k n 0 [some (.inr a0), some (.inl a1), none] (S) h := by
  refine pw_iload_n C dX7_image_0 rfl ?_
  refine pw_iconst C dX7_image_1 ?_
  refine pw_iconst C dX7_image_2 ?_
  exact pw_callS C (na := 3) (As := [.inl a1, .inl 0, .inl 1]) (S := S) hM kw719 kw720 kw45 kw721 (by decide +kernel) rfl dX7_image_3 (by decide) (by decide) hk0 hn0 (by first | exact hS | (simp only [List.length_cons]; omega)) kk
set_option maxRecDepth 20000 in
theorem B_X7_image_6 {G : Gx} {X : Cx} {h : PH} {k n : Nat} {Q : State → Prop} {S : List PV} {a0 : Nat} {a1 : Int} {s0 : Int} (C : CX_X7_image G X) (q1 : pR s0 := by first | assumption | (unfold pR; omega)) (kt : ¬ s0 = 0 → PW G X 3 Q k n 12 [some (.inr a0), some (.inl a1), none] (S) h) (kf : s0 = 0 → PW G X 3 Q k n 9 [some (.inr a0), some (.inl a1), none] (S) h) : PW G X 3 Q k n 6 [some (.inr a0), some (.inl a1), none] (.inl s0 :: S) h := by
  exact pw_if_ne C 12 dX7_image_6 (by decide) q1 kt kf
set_option maxRecDepth 20000 in
theorem B_X7_image_9 {G : Gx} {X : Cx} {h : PH} {k n : Nat} {a0 : Nat} {a1 : Int} {PQ : Option PV → PH → Prop} (C : CX_X7_image G X) (hq : PQ (some (.inl (-2))) h) : PW G X 3 (pw_E G X PQ k n) k n 9 [some (.inr a0), some (.inl a1), none] [] h := by
  refine pw_bipush C dX7_image_9 rfl ?_
  exact pw_ireturn C dX7_image_11 hq
set_option maxRecDepth 20000 in
theorem B_X7_image_12 {G : Gx} {X : Cx} {h : PH} {k n : Nat} {Q : State → Prop} {S : List PV} {a0 : Nat} {a1 : Int} (C : CX_X7_image G X) (kk : PW G X 3 Q k n 14 [some (.inr a0), some (.inl a1), some (.inl 0)] (S) h) : PW G X 3 Q k n 12 [some (.inr a0), some (.inl a1), none] (S) h := by
  refine pw_iconst C dX7_image_12 ?_
  refine pw_istore_n C dX7_image_13 (by decide) ?_
  exact kk
set_option maxRecDepth 20000 in
theorem B_X7_image_14 {G : Gx} {X : Cx} {h : PH} {k n : Nat} {Q : State → Prop} {S : List PV} {a0 : Nat} {a1 : Int} {a2 : Int} (C : CX_X7_image G X) (q1 : pR a2 := by first | assumption | (unfold pR; omega)) (q2 : pR 492 := by first | assumption | (unfold pR; omega)) (kt : 492 ≤ a2 → PW G X 3 Q k n 45 [some (.inr a0), some (.inl a1), some (.inl a2)] (S) h) (kf : ¬ 492 ≤ a2 → PW G X 3 Q k n 21 [some (.inr a0), some (.inl a1), some (.inl a2)] (S) h) : PW G X 3 Q k n 14 [some (.inr a0), some (.inl a1), some (.inl a2)] (S) h := by
  refine pw_iload_n C dX7_image_14 rfl ?_
  refine pw_sipush C dX7_image_15 rfl ?_
  exact pw_icmp_ge C 45 dX7_image_18 (by decide) q1 q2 kt kf
set_option maxRecDepth 20000 in
theorem B_X7_image_21 {G : Gx} {X : Cx} {h : PH} {k n : Nat} {Q : State → Prop} {S : List PV} {a0 : Nat} {a1 : Int} {a2 : Int} {r2 : Nat} {r5 : Nat} {x11 : Int} (C : CX_X7_image G X) (t1 : ph_T h a0 = 7 := by first | assumption | rfl) (e3 : ph_R h a0 1 = r2 := by first | assumption | rfl) (t4 : ph_T h a0 = 7 := by first | assumption | rfl) (e6 : ph_R h a0 0 = r5 := by first | assumption | rfl) (t7 : ph_T h r5 = 8 := by first | assumption | rfl) (q8 : (0 : Int) ≤ a2 := by first | assumption | omega) (q9 : a2 < (ph_L h r5 : Int) := by first | assumption | omega) (q10 : pR a2 := by first | assumption | (unfold pR; omega)) (e12 : ph_I h r5 (Int.toNat a2) = x11 := by first | assumption | rfl) (t13 : ph_T h r2 = 8 := by first | assumption | rfl) (q14 : (0 : Int) ≤ (492 * a1) + a2 := by first | assumption | omega) (q15 : (492 * a1) + a2 < (ph_L h r2 : Int) := by first | assumption | omega) (q16 : pR ((492 * a1) + a2) := by first | assumption | (unfold pR; omega)) (kk : PW G X 3 Q k n 14 [some (.inr a0), some (.inl a1), some (.inl (a2 + 1))] (S) (ph_setI h r2 (Int.toNat ((492 * a1) + a2)) x11)) : PW G X 3 Q k n 21 [some (.inr a0), some (.inl a1), some (.inl a2)] (S) h := by
  refine pw_aload_n C dX7_image_21 rfl ?_
  refine pw_getR C (t := 7) (f := 1) rfl inF7 rfl (by decide) (by decide) rfl kw679 dX7_image_22 t1 ?_
  rw [e3]
  refine pw_sipush C dX7_image_25 rfl ?_
  refine pw_iload_n C dX7_image_28 rfl ?_
  refine pw_imul C dX7_image_29 ?_
  refine pw_iload_n C dX7_image_30 rfl ?_
  refine pw_iadd C dX7_image_31 ?_
  refine pw_aload_n C dX7_image_32 rfl ?_
  refine pw_getR C (t := 7) (f := 0) rfl inF7 rfl (by decide) (by decide) rfl kw678 dX7_image_33 t4 ?_
  rw [e6]
  refine pw_iload_n C dX7_image_36 rfl ?_
  refine pw_iald C dX7_image_37 t7 q8 q9 q10 ?_
  rw [e12]
  refine pw_iast C dX7_image_38 t13 q14 q15 q16 ?_
  refine pw_iinc C dX7_image_39 rfl (by decide) ?_
  refine pw_goto C 14 dX7_image_42 (by decide) ?_
  exact kk
set_option maxRecDepth 20000 in
theorem B_X7_image_45 {G : Gx} {X : Cx} {h : PH} {k n : Nat} {a0 : Nat} {a1 : Int} {a2 : Int} {r2 : Nat} {PQ : Option PV → PH → Prop} (C : CX_X7_image G X) (t1 : ph_T h a0 = 7 := by first | assumption | rfl) (e3 : ph_R h a0 2 = r2 := by first | assumption | rfl) (t4 : ph_T h r2 = 9 := by first | assumption | rfl) (q5 : (0 : Int) ≤ a1 := by first | assumption | omega) (q6 : a1 < (ph_L h r2 : Int) := by first | assumption | omega) (q7 : pR a1 := by first | assumption | (unfold pR; omega)) (q8 : (1 : Int) = 0 ∨ (1 : Int) = 1 := by omega) (hq : PQ (some (.inl 1)) (ph_setI h r2 (Int.toNat a1) 1)) : PW G X 3 (pw_E G X PQ k n) k n 45 [some (.inr a0), some (.inl a1), some (.inl a2)] [] h := by
  refine pw_aload_n C dX7_image_45 rfl ?_
  refine pw_getR C (t := 7) (f := 2) rfl inF7 rfl (by decide) (by decide) rfl kw680 dX7_image_46 t1 ?_
  rw [e3]
  refine pw_iload_n C dX7_image_49 rfl ?_
  refine pw_iconst C dX7_image_50 ?_
  refine pw_zast C dX7_image_51 t4 q5 q6 q7 q8 ?_
  refine pw_iconst C dX7_image_52 ?_
  exact pw_ireturn C dX7_image_53 hq
theorem dX7_restore_0 : decode cX7_restore 0 = .ok (.iload_n 1, 1) := by decide +kernel
theorem dX7_restore_1 : decode cX7_restore 1 = .ok (.iconst 0, 1) := by decide +kernel
theorem dX7_restore_2 : decode cX7_restore 2 = .ok (.iconst 1, 1) := by decide +kernel
theorem dX7_restore_3 : decode cX7_restore 3 = .ok (.invokestatic 33, 3) := by decide +kernel
theorem dX7_restore_6 : decode cX7_restore 6 = .ok (.ifCond .ne 6, 3) := by decide +kernel
theorem dX7_restore_9 : decode cX7_restore 9 = .ok (.bipush (-2), 2) := by decide +kernel
theorem dX7_restore_11 : decode cX7_restore 11 = .ok (.ireturn, 1) := by decide +kernel
theorem dX7_restore_12 : decode cX7_restore 12 = .ok (.aload_n 0, 1) := by decide +kernel
theorem dX7_restore_13 : decode cX7_restore 13 = .ok (.getfield 16, 3) := by decide +kernel
theorem dX7_restore_16 : decode cX7_restore 16 = .ok (.iload_n 1, 1) := by decide +kernel
theorem dX7_restore_17 : decode cX7_restore 17 = .ok (.baload, 1) := by decide +kernel
theorem dX7_restore_18 : decode cX7_restore 18 = .ok (.ifCond .ne 6, 3) := by decide +kernel
theorem dX7_restore_21 : decode cX7_restore 21 = .ok (.bipush (-3), 2) := by decide +kernel
theorem dX7_restore_23 : decode cX7_restore 23 = .ok (.ireturn, 1) := by decide +kernel
theorem dX7_restore_24 : decode cX7_restore 24 = .ok (.iconst 0, 1) := by decide +kernel
theorem dX7_restore_25 : decode cX7_restore 25 = .ok (.istore_n 2, 1) := by decide +kernel
theorem dX7_restore_26 : decode cX7_restore 26 = .ok (.iload_n 2, 1) := by decide +kernel
theorem dX7_restore_27 : decode cX7_restore 27 = .ok (.sipush 492, 3) := by decide +kernel
theorem dX7_restore_30 : decode cX7_restore 30 = .ok (.if_icmp .ge 27, 3) := by decide +kernel
theorem dX7_restore_33 : decode cX7_restore 33 = .ok (.aload_n 0, 1) := by decide +kernel
theorem dX7_restore_34 : decode cX7_restore 34 = .ok (.getfield 7, 3) := by decide +kernel
theorem dX7_restore_37 : decode cX7_restore 37 = .ok (.iload_n 2, 1) := by decide +kernel
theorem dX7_restore_38 : decode cX7_restore 38 = .ok (.aload_n 0, 1) := by decide +kernel
theorem dX7_restore_39 : decode cX7_restore 39 = .ok (.getfield 13, 3) := by decide +kernel
theorem dX7_restore_42 : decode cX7_restore 42 = .ok (.sipush 492, 3) := by decide +kernel
theorem dX7_restore_45 : decode cX7_restore 45 = .ok (.iload_n 1, 1) := by decide +kernel
theorem dX7_restore_46 : decode cX7_restore 46 = .ok (.imul, 1) := by decide +kernel
theorem dX7_restore_47 : decode cX7_restore 47 = .ok (.iload_n 2, 1) := by decide +kernel
theorem dX7_restore_48 : decode cX7_restore 48 = .ok (.iadd, 1) := by decide +kernel
theorem dX7_restore_49 : decode cX7_restore 49 = .ok (.iaload, 1) := by decide +kernel
theorem dX7_restore_50 : decode cX7_restore 50 = .ok (.iastore, 1) := by decide +kernel
theorem dX7_restore_51 : decode cX7_restore 51 = .ok (.iinc 2 1, 3) := by decide +kernel
theorem dX7_restore_54 : decode cX7_restore 54 = .ok (.goto (-28), 3) := by decide +kernel
theorem dX7_restore_57 : decode cX7_restore 57 = .ok (.iconst 1, 1) := by decide +kernel
theorem dX7_restore_58 : decode cX7_restore 58 = .ok (.ireturn, 1) := by decide +kernel
set_option maxRecDepth 20000 in
theorem B_X7_restore_0 {G : Gx} {X : Cx} {h : PH} {k n : Nat} {Q : State → Prop} {S : List PV} {a0 : Nat} {a1 : Int} {PQ : Option PV → PH → Prop} (C : CX_X7_restore G X) (hk0 : k ≤ 0 := by decide) (hn0 : n ≤ 0 := by decide) (hM : CT_X7_in G X.2.1 [.inl a1, .inl 0, .inl 1] h PQ) (hS : S.length ≤ 8 := by decide) (kk : ∀ r h', PQ r h' → PW G X 3 Q k n 6 [some (.inr a0), some (.inl a1), none] (r.toList ++ S) h') : PW G X 3 Q k n 0 [some (.inr a0), some (.inl a1), none] (S) h := by
  refine pw_iload_n C dX7_restore_0 rfl ?_
  refine pw_iconst C dX7_restore_1 ?_
  refine pw_iconst C dX7_restore_2 ?_
  exact pw_callS C (na := 3) (As := [.inl a1, .inl 0, .inl 1]) (S := S) hM kw719 kw720 kw45 kw721 (by decide +kernel) rfl dX7_restore_3 (by decide) (by decide) hk0 hn0 (by first | exact hS | (simp only [List.length_cons]; omega)) kk
set_option maxRecDepth 20000 in
theorem B_X7_restore_6 {G : Gx} {X : Cx} {h : PH} {k n : Nat} {Q : State → Prop} {S : List PV} {a0 : Nat} {a1 : Int} {s0 : Int} (C : CX_X7_restore G X) (q1 : pR s0 := by first | assumption | (unfold pR; omega)) (kt : ¬ s0 = 0 → PW G X 3 Q k n 12 [some (.inr a0), some (.inl a1), none] (S) h) (kf : s0 = 0 → PW G X 3 Q k n 9 [some (.inr a0), some (.inl a1), none] (S) h) : PW G X 3 Q k n 6 [some (.inr a0), some (.inl a1), none] (.inl s0 :: S) h := by
  exact pw_if_ne C 12 dX7_restore_6 (by decide) q1 kt kf
set_option maxRecDepth 20000 in
theorem B_X7_restore_9 {G : Gx} {X : Cx} {h : PH} {k n : Nat} {a0 : Nat} {a1 : Int} {PQ : Option PV → PH → Prop} (C : CX_X7_restore G X) (hq : PQ (some (.inl (-2))) h) : PW G X 3 (pw_E G X PQ k n) k n 9 [some (.inr a0), some (.inl a1), none] [] h := by
  refine pw_bipush C dX7_restore_9 rfl ?_
  exact pw_ireturn C dX7_restore_11 hq
set_option maxRecDepth 20000 in
theorem B_X7_restore_12 {G : Gx} {X : Cx} {h : PH} {k n : Nat} {Q : State → Prop} {S : List PV} {a0 : Nat} {a1 : Int} {r2 : Nat} {x8 : Int} (C : CX_X7_restore G X) (t1 : ph_T h a0 = 7 := by first | assumption | rfl) (e3 : ph_R h a0 2 = r2 := by first | assumption | rfl) (t4 : ph_T h r2 = 9 := by first | assumption | rfl) (q5 : (0 : Int) ≤ a1 := by first | assumption | omega) (q6 : a1 < (ph_L h r2 : Int) := by first | assumption | omega) (q7 : pR a1 := by first | assumption | (unfold pR; omega)) (e9 : ph_I h r2 (Int.toNat a1) = x8 := by first | assumption | rfl) (q10 : pR x8 := by first | assumption | (unfold pR; omega)) (kt : ¬ x8 = 0 → PW G X 3 Q k n 24 [some (.inr a0), some (.inl a1), none] (S) h) (kf : x8 = 0 → PW G X 3 Q k n 21 [some (.inr a0), some (.inl a1), none] (S) h) : PW G X 3 Q k n 12 [some (.inr a0), some (.inl a1), none] (S) h := by
  refine pw_aload_n C dX7_restore_12 rfl ?_
  refine pw_getR C (t := 7) (f := 2) rfl inF7 rfl (by decide) (by decide) rfl kw680 dX7_restore_13 t1 ?_
  rw [e3]
  refine pw_iload_n C dX7_restore_16 rfl ?_
  refine pw_zald C dX7_restore_17 t4 q5 q6 q7 ?_
  rw [e9]
  exact pw_if_ne C 24 dX7_restore_18 (by decide) q10 kt kf
set_option maxRecDepth 20000 in
theorem B_X7_restore_21 {G : Gx} {X : Cx} {h : PH} {k n : Nat} {a0 : Nat} {a1 : Int} {PQ : Option PV → PH → Prop} (C : CX_X7_restore G X) (hq : PQ (some (.inl (-3))) h) : PW G X 3 (pw_E G X PQ k n) k n 21 [some (.inr a0), some (.inl a1), none] [] h := by
  refine pw_bipush C dX7_restore_21 rfl ?_
  exact pw_ireturn C dX7_restore_23 hq
set_option maxRecDepth 20000 in
theorem B_X7_restore_24 {G : Gx} {X : Cx} {h : PH} {k n : Nat} {Q : State → Prop} {S : List PV} {a0 : Nat} {a1 : Int} (C : CX_X7_restore G X) (kk : PW G X 3 Q k n 26 [some (.inr a0), some (.inl a1), some (.inl 0)] (S) h) : PW G X 3 Q k n 24 [some (.inr a0), some (.inl a1), none] (S) h := by
  refine pw_iconst C dX7_restore_24 ?_
  refine pw_istore_n C dX7_restore_25 (by decide) ?_
  exact kk
set_option maxRecDepth 20000 in
theorem B_X7_restore_26 {G : Gx} {X : Cx} {h : PH} {k n : Nat} {Q : State → Prop} {S : List PV} {a0 : Nat} {a1 : Int} {a2 : Int} (C : CX_X7_restore G X) (q1 : pR a2 := by first | assumption | (unfold pR; omega)) (q2 : pR 492 := by first | assumption | (unfold pR; omega)) (kt : 492 ≤ a2 → PW G X 3 Q k n 57 [some (.inr a0), some (.inl a1), some (.inl a2)] (S) h) (kf : ¬ 492 ≤ a2 → PW G X 3 Q k n 33 [some (.inr a0), some (.inl a1), some (.inl a2)] (S) h) : PW G X 3 Q k n 26 [some (.inr a0), some (.inl a1), some (.inl a2)] (S) h := by
  refine pw_iload_n C dX7_restore_26 rfl ?_
  refine pw_sipush C dX7_restore_27 rfl ?_
  exact pw_icmp_ge C 57 dX7_restore_30 (by decide) q1 q2 kt kf
set_option maxRecDepth 20000 in
theorem B_X7_restore_33 {G : Gx} {X : Cx} {h : PH} {k n : Nat} {Q : State → Prop} {S : List PV} {a0 : Nat} {a1 : Int} {a2 : Int} {r2 : Nat} {r5 : Nat} {x11 : Int} (C : CX_X7_restore G X) (t1 : ph_T h a0 = 7 := by first | assumption | rfl) (e3 : ph_R h a0 0 = r2 := by first | assumption | rfl) (t4 : ph_T h a0 = 7 := by first | assumption | rfl) (e6 : ph_R h a0 1 = r5 := by first | assumption | rfl) (t7 : ph_T h r5 = 8 := by first | assumption | rfl) (q8 : (0 : Int) ≤ (492 * a1) + a2 := by first | assumption | omega) (q9 : (492 * a1) + a2 < (ph_L h r5 : Int) := by first | assumption | omega) (q10 : pR ((492 * a1) + a2) := by first | assumption | (unfold pR; omega)) (e12 : ph_I h r5 (Int.toNat ((492 * a1) + a2)) = x11 := by first | assumption | rfl) (t13 : ph_T h r2 = 8 := by first | assumption | rfl) (q14 : (0 : Int) ≤ a2 := by first | assumption | omega) (q15 : a2 < (ph_L h r2 : Int) := by first | assumption | omega) (q16 : pR a2 := by first | assumption | (unfold pR; omega)) (kk : PW G X 3 Q k n 26 [some (.inr a0), some (.inl a1), some (.inl (a2 + 1))] (S) (ph_setI h r2 (Int.toNat a2) x11)) : PW G X 3 Q k n 33 [some (.inr a0), some (.inl a1), some (.inl a2)] (S) h := by
  refine pw_aload_n C dX7_restore_33 rfl ?_
  refine pw_getR C (t := 7) (f := 0) rfl inF7 rfl (by decide) (by decide) rfl kw678 dX7_restore_34 t1 ?_
  rw [e3]
  refine pw_iload_n C dX7_restore_37 rfl ?_
  refine pw_aload_n C dX7_restore_38 rfl ?_
  refine pw_getR C (t := 7) (f := 1) rfl inF7 rfl (by decide) (by decide) rfl kw679 dX7_restore_39 t4 ?_
  rw [e6]
  refine pw_sipush C dX7_restore_42 rfl ?_
  refine pw_iload_n C dX7_restore_45 rfl ?_
  refine pw_imul C dX7_restore_46 ?_
  refine pw_iload_n C dX7_restore_47 rfl ?_
  refine pw_iadd C dX7_restore_48 ?_
  refine pw_iald C dX7_restore_49 t7 q8 q9 q10 ?_
  rw [e12]
  refine pw_iast C dX7_restore_50 t13 q14 q15 q16 ?_
  refine pw_iinc C dX7_restore_51 rfl (by decide) ?_
  refine pw_goto C 26 dX7_restore_54 (by decide) ?_
  exact kk
set_option maxRecDepth 20000 in
theorem B_X7_restore_57 {G : Gx} {X : Cx} {h : PH} {k n : Nat} {a0 : Nat} {a1 : Int} {a2 : Int} {PQ : Option PV → PH → Prop} (C : CX_X7_restore G X) (hq : PQ (some (.inl 1)) h) : PW G X 3 (pw_E G X PQ k n) k n 57 [some (.inr a0), some (.inl a1), some (.inl a2)] [] h := by
  refine pw_iconst C dX7_restore_57 ?_
  exact pw_ireturn C dX7_restore_58 hq
