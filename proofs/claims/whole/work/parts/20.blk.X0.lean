theorem dX0_init_0 : decode cX0_init 0 = .ok (.aload_n 0, 1) := by decide +kernel
theorem dX0_init_1 : decode cX0_init 1 = .ok (.invokespecial 3, 3) := by decide +kernel
theorem dX0_init_4 : decode cX0_init 4 = .ok (.aload_n 0, 1) := by decide +kernel
theorem dX0_init_5 : decode cX0_init 5 = .ok (.bipush 16, 2) := by decide +kernel
theorem dX0_init_7 : decode cX0_init 7 = .ok (.newarray .int, 2) := by decide +kernel
theorem dX0_init_9 : decode cX0_init 9 = .ok (.putfield 9, 3) := by decide +kernel
theorem dX0_init_12 : decode cX0_init 12 = .ok (.aload_n 0, 1) := by decide +kernel
theorem dX0_init_13 : decode cX0_init 13 = .ok (.bipush 16, 2) := by decide +kernel
theorem dX0_init_15 : decode cX0_init 15 = .ok (.newarray .int, 2) := by decide +kernel
theorem dX0_init_17 : decode cX0_init 17 = .ok (.putfield 15, 3) := by decide +kernel
theorem dX0_init_20 : decode cX0_init 20 = .ok (.aload_n 0, 1) := by decide +kernel
theorem dX0_init_21 : decode cX0_init 21 = .ok (.bipush (-6), 2) := by decide +kernel
theorem dX0_init_23 : decode cX0_init 23 = .ok (.putfield 18, 3) := by decide +kernel
theorem dX0_init_26 : decode cX0_init 26 = .ok (.aload_n 0, 1) := by decide +kernel
theorem dX0_init_27 : decode cX0_init 27 = .ok (.iconst 0, 1) := by decide +kernel
theorem dX0_init_28 : decode cX0_init 28 = .ok (.putfield 22, 3) := by decide +kernel
theorem dX0_init_31 : decode cX0_init 31 = .ok (.aload_n 0, 1) := by decide +kernel
theorem dX0_init_32 : decode cX0_init 32 = .ok (.iconst 0, 1) := by decide +kernel
theorem dX0_init_33 : decode cX0_init 33 = .ok (.putfield 25, 3) := by decide +kernel
theorem dX0_init_36 : decode cX0_init 36 = .ok (.aload_n 0, 1) := by decide +kernel
theorem dX0_init_37 : decode cX0_init 37 = .ok (.bipush (-6), 2) := by decide +kernel
theorem dX0_init_39 : decode cX0_init 39 = .ok (.putfield 28, 3) := by decide +kernel
theorem dX0_init_42 : decode cX0_init 42 = .ok (.aload_n 0, 1) := by decide +kernel
theorem dX0_init_43 : decode cX0_init 43 = .ok (.bipush (-6), 2) := by decide +kernel
theorem dX0_init_45 : decode cX0_init 45 = .ok (.putfield 31, 3) := by decide +kernel
theorem dX0_init_48 : decode cX0_init 48 = .ok (.return_, 1) := by decide +kernel
set_option maxRecDepth 20000 in
theorem B_X0_init_0 {G : Gx} {X : Cx} {h : PH} {k n : Nat} {Q : State → Prop} {S : List PV} {a0 : Nat} (C : CX_X0_init G X) (q1 : 2 ≤ a0 := by first | assumption | omega) (hS : S.length ≤ 4 := by decide) (hk2 : k + 1 ≤ 2) (hn3 : n + 16 ≤ 32) (kk : PW G X 1 Q (k + 1) (n + 16) 9 [some (.inr a0)] (.inr (ph_S h + 2) :: .inr a0 :: S) (ph_new h 8 16)) : PW G X 1 Q k n 0 [some (.inr a0)] (S) h := by
  refine pw_aload_n C dX0_init_0 rfl ?_
  refine pw_objInit C q1 kw106 kw55 kwObj dX0_init_1 (by decide) (by simp only [List.length_cons]; omega) ?_
  refine pw_aload_n C dX0_init_4 rfl ?_
  refine pw_bipush C dX0_init_5 rfl ?_
  refine pw_newarr C (t := 8) (atype := .int) (by decide) (by decide) rfl kw144 rfl (fun U cA z => z) dX0_init_7 (by unfold pR; decide) (by decide) (by decide) hk2 hn3 ?_
  exact kk
set_option maxRecDepth 20000 in
theorem B_X0_init_9 {G : Gx} {X : Cx} {h : PH} {k n : Nat} {Q : State → Prop} {S : List PV} {a0 : Nat} {s0 : Nat} {s1 : Nat} (C : CX_X0_init G X) (t1 : ph_T h s1 = 0 := by first | assumption | rfl) (hk2 : k + 1 ≤ 2) (hn3 : n + 16 ≤ 32) (kk : PW G X 1 Q (k + 1) (n + 16) 17 [some (.inr a0)] (.inr (ph_S (ph_setR h s1 0 s0) + 2) :: .inr a0 :: S) (ph_new (ph_setR h s1 0 s0) 8 16)) : PW G X 1 Q k n 9 [some (.inr a0)] (.inr s0 :: .inr s1 :: S) h := by
  refine pw_putR C (t := 0) (f := 0) rfl inF0 tyX0_ok nmX0 rfl (by decide) (by decide) rfl (Or.inr ⟨rfl, rfl, rfl⟩) (Or.inr ⟨_, rfl⟩) kw107 dX0_init_9 t1 ?_
  refine pw_aload_n C dX0_init_12 rfl ?_
  refine pw_bipush C dX0_init_13 rfl ?_
  refine pw_newarr C (t := 8) (atype := .int) (by decide) (by decide) rfl kw144 rfl (fun U cA z => z) dX0_init_15 (by unfold pR; decide) (by decide) (by decide) hk2 hn3 ?_
  exact kk
set_option maxRecDepth 20000 in
theorem B_X0_init_17 {G : Gx} {X : Cx} {h : PH} {k n : Nat} {a0 : Nat} {s0 : Nat} {s1 : Nat} {PQ : Option PV → PH → Prop} (C : CX_X0_init G X) (t1 : ph_T h s1 = 0 := by first | assumption | rfl) (t2 : ph_T h a0 = 0 := by first | assumption | rfl) (t3 : ph_T h a0 = 0 := by first | assumption | rfl) (t4 : ph_T h a0 = 0 := by first | assumption | rfl) (t5 : ph_T h a0 = 0 := by first | assumption | rfl) (t6 : ph_T h a0 = 0 := by first | assumption | rfl) (hq : PQ none (ph_setI (ph_setI (ph_setI (ph_setI (ph_setI (ph_setR h s1 1 s0) a0 2 (-6)) a0 3 0) a0 4 0) a0 5 (-6)) a0 6 (-6))) : PW G X 1 (pw_E G X PQ k n) k n 17 [some (.inr a0)] [.inr s0, .inr s1] h := by
  refine pw_putR C (t := 0) (f := 1) rfl inF0 tyX0_ok nmX0 rfl (by decide) (by decide) rfl (Or.inr ⟨rfl, rfl, rfl⟩) (Or.inr ⟨_, rfl⟩) kw110 dX0_init_17 t1 ?_
  refine pw_aload_n C dX0_init_20 rfl ?_
  refine pw_bipush C dX0_init_21 rfl ?_
  refine pw_putI C (t := 0) (f := 2) rfl inF0 tyX0_ok nmX0 rfl (by decide) (by decide) rfl (Or.inl rfl) (Or.inl rfl) kw113 dX0_init_23 t2 ?_
  refine pw_aload_n C dX0_init_26 rfl ?_
  refine pw_iconst C dX0_init_27 ?_
  refine pw_putI C (t := 0) (f := 3) rfl inF0 tyX0_ok nmX0 rfl (by decide) (by decide) rfl (Or.inl rfl) (Or.inl rfl) kw117 dX0_init_28 t3 ?_
  refine pw_aload_n C dX0_init_31 rfl ?_
  refine pw_iconst C dX0_init_32 ?_
  refine pw_putI C (t := 0) (f := 4) rfl inF0 tyX0_ok nmX0 rfl (by decide) (by decide) rfl (Or.inl rfl) (Or.inl rfl) kw121 dX0_init_33 t4 ?_
  refine pw_aload_n C dX0_init_36 rfl ?_
  refine pw_bipush C dX0_init_37 rfl ?_
  refine pw_putI C (t := 0) (f := 5) rfl inF0 tyX0_ok nmX0 rfl (by decide) (by decide) rfl (Or.inl rfl) (Or.inl rfl) kw125 dX0_init_39 t5 ?_
  refine pw_aload_n C dX0_init_42 rfl ?_
  refine pw_bipush C dX0_init_43 rfl ?_
  refine pw_putI C (t := 0) (f := 6) rfl inF0 tyX0_ok nmX0 rfl (by decide) (by decide) rfl (Or.inl rfl) (Or.inl rfl) kw127 dX0_init_45 t6 ?_
  exact pw_vreturn C dX0_init_48 hq
theorem dX0_start_0 : decode cX0_start 0 = .ok (.aload_n 0, 1) := by decide +kernel
theorem dX0_start_1 : decode cX0_start 1 = .ok (.iload_n 1, 1) := by decide +kernel
theorem dX0_start_2 : decode cX0_start 2 = .ok (.putfield 18, 3) := by decide +kernel
theorem dX0_start_5 : decode cX0_start 5 = .ok (.aload_n 0, 1) := by decide +kernel
theorem dX0_start_6 : decode cX0_start 6 = .ok (.iload_n 2, 1) := by decide +kernel
theorem dX0_start_7 : decode cX0_start 7 = .ok (.putfield 22, 3) := by decide +kernel
theorem dX0_start_10 : decode cX0_start 10 = .ok (.aload_n 0, 1) := by decide +kernel
theorem dX0_start_11 : decode cX0_start 11 = .ok (.iconst 0, 1) := by decide +kernel
theorem dX0_start_12 : decode cX0_start 12 = .ok (.putfield 25, 3) := by decide +kernel
theorem dX0_start_15 : decode cX0_start 15 = .ok (.aload_n 0, 1) := by decide +kernel
theorem dX0_start_16 : decode cX0_start 16 = .ok (.bipush (-6), 2) := by decide +kernel
theorem dX0_start_18 : decode cX0_start 18 = .ok (.putfield 28, 3) := by decide +kernel
theorem dX0_start_21 : decode cX0_start 21 = .ok (.aload_n 0, 1) := by decide +kernel
theorem dX0_start_22 : decode cX0_start 22 = .ok (.bipush (-6), 2) := by decide +kernel
theorem dX0_start_24 : decode cX0_start 24 = .ok (.putfield 31, 3) := by decide +kernel
theorem dX0_start_27 : decode cX0_start 27 = .ok (.return_, 1) := by decide +kernel
set_option maxRecDepth 20000 in
theorem B_X0_start_0 {G : Gx} {X : Cx} {h : PH} {k n : Nat} {a0 : Nat} {a1 : Int} {a2 : Int} {PQ : Option PV → PH → Prop} (C : CX_X0_start G X) (t1 : ph_T h a0 = 0 := by first | assumption | rfl) (t2 : ph_T h a0 = 0 := by first | assumption | rfl) (t3 : ph_T h a0 = 0 := by first | assumption | rfl) (t4 : ph_T h a0 = 0 := by first | assumption | rfl) (t5 : ph_T h a0 = 0 := by first | assumption | rfl) (hq : PQ none (ph_setI (ph_setI (ph_setI (ph_setI (ph_setI h a0 2 a1) a0 3 a2) a0 4 0) a0 5 (-6)) a0 6 (-6))) : PW G X 3 (pw_E G X PQ k n) k n 0 [some (.inr a0), some (.inl a1), some (.inl a2)] [] h := by
  refine pw_aload_n C dX0_start_0 rfl ?_
  refine pw_iload_n C dX0_start_1 rfl ?_
  refine pw_putI C (t := 0) (f := 2) rfl inF0 tyX0_ok nmX0 rfl (by decide) (by decide) rfl (Or.inl rfl) (Or.inl rfl) kw113 dX0_start_2 t1 ?_
  refine pw_aload_n C dX0_start_5 rfl ?_
  refine pw_iload_n C dX0_start_6 rfl ?_
  refine pw_putI C (t := 0) (f := 3) rfl inF0 tyX0_ok nmX0 rfl (by decide) (by decide) rfl (Or.inl rfl) (Or.inl rfl) kw117 dX0_start_7 t2 ?_
  refine pw_aload_n C dX0_start_10 rfl ?_
  refine pw_iconst C dX0_start_11 ?_
  refine pw_putI C (t := 0) (f := 4) rfl inF0 tyX0_ok nmX0 rfl (by decide) (by decide) rfl (Or.inl rfl) (Or.inl rfl) kw121 dX0_start_12 t3 ?_
  refine pw_aload_n C dX0_start_15 rfl ?_
  refine pw_bipush C dX0_start_16 rfl ?_
  refine pw_putI C (t := 0) (f := 5) rfl inF0 tyX0_ok nmX0 rfl (by decide) (by decide) rfl (Or.inl rfl) (Or.inl rfl) kw125 dX0_start_18 t4 ?_
  refine pw_aload_n C dX0_start_21 rfl ?_
  refine pw_bipush C dX0_start_22 rfl ?_
  refine pw_putI C (t := 0) (f := 6) rfl inF0 tyX0_ok nmX0 rfl (by decide) (by decide) rfl (Or.inl rfl) (Or.inl rfl) kw127 dX0_start_24 t5 ?_
  exact pw_vreturn C dX0_start_27 hq
theorem dX0_addPoint_0 : decode cX0_addPoint 0 = .ok (.aload_n 0, 1) := by decide +kernel
theorem dX0_addPoint_1 : decode cX0_addPoint 1 = .ok (.getfield 25, 3) := by decide +kernel
theorem dX0_addPoint_4 : decode cX0_addPoint 4 = .ok (.bipush 16, 2) := by decide +kernel
theorem dX0_addPoint_6 : decode cX0_addPoint 6 = .ok (.if_icmp .ge 33, 3) := by decide +kernel
theorem dX0_addPoint_9 : decode cX0_addPoint 9 = .ok (.aload_n 0, 1) := by decide +kernel
theorem dX0_addPoint_10 : decode cX0_addPoint 10 = .ok (.getfield 9, 3) := by decide +kernel
theorem dX0_addPoint_13 : decode cX0_addPoint 13 = .ok (.aload_n 0, 1) := by decide +kernel
theorem dX0_addPoint_14 : decode cX0_addPoint 14 = .ok (.getfield 25, 3) := by decide +kernel
theorem dX0_addPoint_17 : decode cX0_addPoint 17 = .ok (.iload_n 1, 1) := by decide +kernel
theorem dX0_addPoint_18 : decode cX0_addPoint 18 = .ok (.iastore, 1) := by decide +kernel
theorem dX0_addPoint_19 : decode cX0_addPoint 19 = .ok (.aload_n 0, 1) := by decide +kernel
theorem dX0_addPoint_20 : decode cX0_addPoint 20 = .ok (.getfield 15, 3) := by decide +kernel
theorem dX0_addPoint_23 : decode cX0_addPoint 23 = .ok (.aload_n 0, 1) := by decide +kernel
theorem dX0_addPoint_24 : decode cX0_addPoint 24 = .ok (.getfield 25, 3) := by decide +kernel
theorem dX0_addPoint_27 : decode cX0_addPoint 27 = .ok (.iload_n 2, 1) := by decide +kernel
theorem dX0_addPoint_28 : decode cX0_addPoint 28 = .ok (.iastore, 1) := by decide +kernel
theorem dX0_addPoint_29 : decode cX0_addPoint 29 = .ok (.aload_n 0, 1) := by decide +kernel
theorem dX0_addPoint_30 : decode cX0_addPoint 30 = .ok (.dup, 1) := by decide +kernel
theorem dX0_addPoint_31 : decode cX0_addPoint 31 = .ok (.getfield 25, 3) := by decide +kernel
theorem dX0_addPoint_34 : decode cX0_addPoint 34 = .ok (.iconst 1, 1) := by decide +kernel
theorem dX0_addPoint_35 : decode cX0_addPoint 35 = .ok (.iadd, 1) := by decide +kernel
theorem dX0_addPoint_36 : decode cX0_addPoint 36 = .ok (.putfield 25, 3) := by decide +kernel
theorem dX0_addPoint_39 : decode cX0_addPoint 39 = .ok (.return_, 1) := by decide +kernel
set_option maxRecDepth 20000 in
theorem B_X0_addPoint_0 {G : Gx} {X : Cx} {h : PH} {k n : Nat} {Q : State → Prop} {S : List PV} {a0 : Nat} {a1 : Int} {a2 : Int} {x2 : Int} (C : CX_X0_addPoint G X) (t1 : ph_T h a0 = 0 := by first | assumption | rfl) (e3 : ph_I h a0 4 = x2 := by first | assumption | rfl) (q4 : pR x2 := by first | assumption | (unfold pR; omega)) (q5 : pR 16 := by first | assumption | (unfold pR; omega)) (kt : 16 ≤ x2 → PW G X 3 Q k n 39 [some (.inr a0), some (.inl a1), some (.inl a2)] (S) h) (kf : ¬ 16 ≤ x2 → PW G X 3 Q k n 9 [some (.inr a0), some (.inl a1), some (.inl a2)] (S) h) : PW G X 3 Q k n 0 [some (.inr a0), some (.inl a1), some (.inl a2)] (S) h := by
  refine pw_aload_n C dX0_addPoint_0 rfl ?_
  refine pw_getI C (t := 0) (f := 4) rfl inF0 rfl (by decide) (by decide) rfl kw121 dX0_addPoint_1 t1 ?_
  rw [e3]
  refine pw_bipush C dX0_addPoint_4 rfl ?_
  exact pw_icmp_ge C 39 dX0_addPoint_6 (by decide) q4 q5 kt kf
set_option maxRecDepth 20000 in
theorem B_X0_addPoint_9 {G : Gx} {X : Cx} {h : PH} {k n : Nat} {Q : State → Prop} {S : List PV} {a0 : Nat} {a1 : Int} {a2 : Int} {r2 : Nat} {x5 : Int} {r13 : Nat} {x16 : Int} {x24 : Int} (C : CX_X0_addPoint G X) (t1 : ph_T h a0 = 0 := by first | assumption | rfl) (e3 : ph_R h a0 0 = r2 := by first | assumption | rfl) (t4 : ph_T h a0 = 0 := by first | assumption | rfl) (e6 : ph_I h a0 4 = x5 := by first | assumption | rfl) (t7 : ph_T h r2 = 8 := by first | assumption | rfl) (q8 : (0 : Int) ≤ x5 := by first | assumption | omega) (q9 : x5 < (ph_L h r2 : Int) := by first | assumption | omega) (q10 : pR x5 := by first | assumption | (unfold pR; omega)) (t12 : ph_T h a0 = 0 := by first | assumption | rfl) (e14 : ph_R h a0 1 = r13 := by first | assumption | rfl) (t15 : ph_T h a0 = 0 := by first | assumption | rfl) (e17 : ph_I (ph_setI h r2 (Int.toNat x5) a1) a0 4 = x16 := by first | assumption | rfl) (t18 : ph_T h r13 = 8 := by first | assumption | rfl) (q19 : (0 : Int) ≤ x16 := by first | assumption | omega) (q20 : x16 < (ph_L h r13 : Int) := by first | assumption | omega) (q21 : pR x16 := by first | assumption | (unfold pR; omega)) (t23 : ph_T h a0 = 0 := by first | assumption | rfl) (e25 : ph_I (ph_setI (ph_setI h r2 (Int.toNat x5) a1) r13 (Int.toNat x16) a2) a0 4 = x24 := by first | assumption | rfl) (t26 : ph_T h a0 = 0 := by first | assumption | rfl) (kk : PW G X 3 Q k n 39 [some (.inr a0), some (.inl a1), some (.inl a2)] (S) (ph_setI (ph_setI (ph_setI h r2 (Int.toNat x5) a1) r13 (Int.toNat x16) a2) a0 4 (x24 + 1))) : PW G X 3 Q k n 9 [some (.inr a0), some (.inl a1), some (.inl a2)] (S) h := by
  refine pw_aload_n C dX0_addPoint_9 rfl ?_
  refine pw_getR C (t := 0) (f := 0) rfl inF0 rfl (by decide) (by decide) rfl kw107 dX0_addPoint_10 t1 ?_
  rw [e3]
  refine pw_aload_n C dX0_addPoint_13 rfl ?_
  refine pw_getI C (t := 0) (f := 4) rfl inF0 rfl (by decide) (by decide) rfl kw121 dX0_addPoint_14 t4 ?_
  rw [e6]
  refine pw_iload_n C dX0_addPoint_17 rfl ?_
  refine pw_iast C dX0_addPoint_18 t7 q8 q9 q10 ?_
  refine pw_aload_n C dX0_addPoint_19 rfl ?_
  refine pw_getR C (t := 0) (f := 1) rfl inF0 rfl (by decide) (by decide) rfl kw110 dX0_addPoint_20 t12 ?_
  rw [show ph_R (ph_setI h r2 (Int.toNat x5) a1) a0 1 = r13 from e14]
  refine pw_aload_n C dX0_addPoint_23 rfl ?_
  refine pw_getI C (t := 0) (f := 4) rfl inF0 rfl (by decide) (by decide) rfl kw121 dX0_addPoint_24 t15 ?_
  rw [show ph_I (ph_setI h r2 (Int.toNat x5) a1) a0 4 = x16 from e17]
  refine pw_iload_n C dX0_addPoint_27 rfl ?_
  refine pw_iast C dX0_addPoint_28 t18 q19 q20 q21 ?_
  refine pw_aload_n C dX0_addPoint_29 rfl ?_
  refine pw_dup C dX0_addPoint_30 ?_
  refine pw_getI C (t := 0) (f := 4) rfl inF0 rfl (by decide) (by decide) rfl kw121 dX0_addPoint_31 t23 ?_
  rw [show ph_I (ph_setI (ph_setI h r2 (Int.toNat x5) a1) r13 (Int.toNat x16) a2) a0 4 = x24 from e25]
  refine pw_iconst C dX0_addPoint_34 ?_
  refine pw_iadd C dX0_addPoint_35 ?_
  refine pw_putI C (t := 0) (f := 4) rfl inF0 tyX0_ok nmX0 rfl (by decide) (by decide) rfl (Or.inl rfl) (Or.inl rfl) kw121 dX0_addPoint_36 t26 ?_
  exact kk
set_option maxRecDepth 20000 in
theorem B_X0_addPoint_39 {G : Gx} {X : Cx} {h : PH} {k n : Nat} {a0 : Nat} {a1 : Int} {a2 : Int} {PQ : Option PV → PH → Prop} (C : CX_X0_addPoint G X) (hq : PQ none h) : PW G X 3 (pw_E G X PQ k n) k n 39 [some (.inr a0), some (.inl a1), some (.inl a2)] [] h := by
  exact pw_vreturn C dX0_addPoint_39 hq
theorem dX0_isTaken_0 : decode cX0_isTaken 0 = .ok (.aload_n 0, 1) := by decide +kernel
theorem dX0_isTaken_1 : decode cX0_isTaken 1 = .ok (.getfield 28, 3) := by decide +kernel
theorem dX0_isTaken_4 : decode cX0_isTaken 4 = .ok (.bipush (-6), 2) := by decide +kernel
theorem dX0_isTaken_6 : decode cX0_isTaken 6 = .ok (.if_icmp .eq 7, 3) := by decide +kernel
theorem dX0_isTaken_9 : decode cX0_isTaken 9 = .ok (.iconst 1, 1) := by decide +kernel
theorem dX0_isTaken_10 : decode cX0_isTaken 10 = .ok (.goto 4, 3) := by decide +kernel
theorem dX0_isTaken_13 : decode cX0_isTaken 13 = .ok (.iconst 0, 1) := by decide +kernel
theorem dX0_isTaken_14 : decode cX0_isTaken 14 = .ok (.ireturn, 1) := by decide +kernel
set_option maxRecDepth 20000 in
theorem B_X0_isTaken_0 {G : Gx} {X : Cx} {h : PH} {k n : Nat} {Q : State → Prop} {S : List PV} {a0 : Nat} {x2 : Int} (C : CX_X0_isTaken G X) (t1 : ph_T h a0 = 0 := by first | assumption | rfl) (e3 : ph_I h a0 5 = x2 := by first | assumption | rfl) (q4 : pR x2 := by first | assumption | (unfold pR; omega)) (q5 : pR (-6) := by first | assumption | (unfold pR; omega)) (kt : x2 = (-6) → PW G X 1 Q k n 13 [some (.inr a0)] (S) h) (kf : ¬ x2 = (-6) → PW G X 1 Q k n 9 [some (.inr a0)] (S) h) : PW G X 1 Q k n 0 [some (.inr a0)] (S) h := by
  refine pw_aload_n C dX0_isTaken_0 rfl ?_
  refine pw_getI C (t := 0) (f := 5) rfl inF0 rfl (by decide) (by decide) rfl kw125 dX0_isTaken_1 t1 ?_
  rw [e3]
  refine pw_bipush C dX0_isTaken_4 rfl ?_
  exact pw_icmp_eq C 13 dX0_isTaken_6 (by decide) q4 q5 kt kf
set_option maxRecDepth 20000 in
theorem B_X0_isTaken_9 {G : Gx} {X : Cx} {h : PH} {k n : Nat} {Q : State → Prop} {S : List PV} {a0 : Nat} (C : CX_X0_isTaken G X) (kk : PW G X 1 Q k n 14 [some (.inr a0)] (.inl 1 :: S) h) : PW G X 1 Q k n 9 [some (.inr a0)] (S) h := by
  refine pw_iconst C dX0_isTaken_9 ?_
  refine pw_goto C 14 dX0_isTaken_10 (by decide) ?_
  exact kk
set_option maxRecDepth 20000 in
theorem B_X0_isTaken_13 {G : Gx} {X : Cx} {h : PH} {k n : Nat} {Q : State → Prop} {S : List PV} {a0 : Nat} (C : CX_X0_isTaken G X) (kk : PW G X 1 Q k n 14 [some (.inr a0)] (.inl 0 :: S) h) : PW G X 1 Q k n 13 [some (.inr a0)] (S) h := by
  refine pw_iconst C dX0_isTaken_13 ?_
  exact kk
set_option maxRecDepth 20000 in
theorem B_X0_isTaken_14 {G : Gx} {X : Cx} {h : PH} {k n : Nat} {a0 : Nat} {s0 : Int} {PQ : Option PV → PH → Prop} (C : CX_X0_isTaken G X) (q1 : (s0 : Int) = 0 ∨ (s0 : Int) = 1 := by omega) (hq : PQ (some (.inl s0)) h) : PW G X 1 (pw_E G X PQ k n) k n 14 [some (.inr a0)] [.inl s0] h := by
  exact pw_zreturn C dX0_isTaken_14 q1 hq
theorem dX0_isOpen_0 : decode cX0_isOpen 0 = .ok (.aload_n 0, 1) := by decide +kernel
theorem dX0_isOpen_1 : decode cX0_isOpen 1 = .ok (.getfield 25, 3) := by decide +kernel
theorem dX0_isOpen_4 : decode cX0_isOpen 4 = .ok (.ifCond .le 14, 3) := by decide +kernel
theorem dX0_isOpen_7 : decode cX0_isOpen 7 = .ok (.aload_n 0, 1) := by decide +kernel
theorem dX0_isOpen_8 : decode cX0_isOpen 8 = .ok (.invokevirtual 34, 3) := by decide +kernel
theorem dX0_isOpen_11 : decode cX0_isOpen 11 = .ok (.ifCond .ne 7, 3) := by decide +kernel
theorem dX0_isOpen_14 : decode cX0_isOpen 14 = .ok (.iconst 1, 1) := by decide +kernel
theorem dX0_isOpen_15 : decode cX0_isOpen 15 = .ok (.goto 4, 3) := by decide +kernel
theorem dX0_isOpen_18 : decode cX0_isOpen 18 = .ok (.iconst 0, 1) := by decide +kernel
theorem dX0_isOpen_19 : decode cX0_isOpen 19 = .ok (.ireturn, 1) := by decide +kernel
set_option maxRecDepth 20000 in
theorem B_X0_isOpen_0 {G : Gx} {X : Cx} {h : PH} {k n : Nat} {Q : State → Prop} {S : List PV} {a0 : Nat} {x2 : Int} (C : CX_X0_isOpen G X) (t1 : ph_T h a0 = 0 := by first | assumption | rfl) (e3 : ph_I h a0 4 = x2 := by first | assumption | rfl) (q4 : pR x2 := by first | assumption | (unfold pR; omega)) (kt : x2 ≤ 0 → PW G X 1 Q k n 18 [some (.inr a0)] (S) h) (kf : ¬ x2 ≤ 0 → PW G X 1 Q k n 7 [some (.inr a0)] (S) h) : PW G X 1 Q k n 0 [some (.inr a0)] (S) h := by
  refine pw_aload_n C dX0_isOpen_0 rfl ?_
  refine pw_getI C (t := 0) (f := 4) rfl inF0 rfl (by decide) (by decide) rfl kw121 dX0_isOpen_1 t1 ?_
  rw [e3]
  exact pw_if_le C 18 dX0_isOpen_4 (by decide) q4 kt kf
set_option maxRecDepth 20000 in
theorem B_X0_isOpen_7 {G : Gx} {X : Cx} {h : PH} {k n : Nat} {Q : State → Prop} {S : List PV} {a0 : Nat} {PQ : Option PV → PH → Prop} (C : CX_X0_isOpen G X) (hk0 : k ≤ 0 := by decide) (hn0 : n ≤ 0 := by decide) (t1 : ph_T h a0 = 0 := by first | assumption | rfl) (hM : CT_X0_isTaken G X.2.1 [.inr a0] h PQ) (hS : S.length ≤ 8 := by decide) (kk : ∀ r h', PQ r h' → PW G X 1 Q k n 11 [some (.inr a0)] (r.toList ++ S) h') : PW G X 1 Q k n 7 [some (.inr a0)] (S) h := by
  refine pw_aload_n C dX0_isOpen_7 rfl ?_
  exact pw_callV C (na := 0) (As := []) (S := S) hM t1 (by decide) (hcl := by rfl) kw453 kw356 kw357 kw41 kw358 (by decide +kernel) rfl dX0_isOpen_8 (by decide) (by decide) hk0 hn0 (by first | exact hS | (simp only [List.length_cons]; omega)) kk
set_option maxRecDepth 20000 in
theorem B_X0_isOpen_11 {G : Gx} {X : Cx} {h : PH} {k n : Nat} {Q : State → Prop} {S : List PV} {a0 : Nat} {s0 : Int} (C : CX_X0_isOpen G X) (q1 : pR s0 := by first | assumption | (unfold pR; omega)) (kt : ¬ s0 = 0 → PW G X 1 Q k n 18 [some (.inr a0)] (S) h) (kf : s0 = 0 → PW G X 1 Q k n 14 [some (.inr a0)] (S) h) : PW G X 1 Q k n 11 [some (.inr a0)] (.inl s0 :: S) h := by
  exact pw_if_ne C 18 dX0_isOpen_11 (by decide) q1 kt kf
set_option maxRecDepth 20000 in
theorem B_X0_isOpen_14 {G : Gx} {X : Cx} {h : PH} {k n : Nat} {Q : State → Prop} {S : List PV} {a0 : Nat} (C : CX_X0_isOpen G X) (kk : PW G X 1 Q k n 19 [some (.inr a0)] (.inl 1 :: S) h) : PW G X 1 Q k n 14 [some (.inr a0)] (S) h := by
  refine pw_iconst C dX0_isOpen_14 ?_
  refine pw_goto C 19 dX0_isOpen_15 (by decide) ?_
  exact kk
set_option maxRecDepth 20000 in
theorem B_X0_isOpen_18 {G : Gx} {X : Cx} {h : PH} {k n : Nat} {Q : State → Prop} {S : List PV} {a0 : Nat} (C : CX_X0_isOpen G X) (kk : PW G X 1 Q k n 19 [some (.inr a0)] (.inl 0 :: S) h) : PW G X 1 Q k n 18 [some (.inr a0)] (S) h := by
  refine pw_iconst C dX0_isOpen_18 ?_
  exact kk
set_option maxRecDepth 20000 in
theorem B_X0_isOpen_19 {G : Gx} {X : Cx} {h : PH} {k n : Nat} {a0 : Nat} {s0 : Int} {PQ : Option PV → PH → Prop} (C : CX_X0_isOpen G X) (q1 : (s0 : Int) = 0 ∨ (s0 : Int) = 1 := by omega) (hq : PQ (some (.inl s0)) h) : PW G X 1 (pw_E G X PQ k n) k n 19 [some (.inr a0)] [.inl s0] h := by
  exact pw_zreturn C dX0_isOpen_19 q1 hq
theorem dX0_lastTick_0 : decode cX0_lastTick 0 = .ok (.aload_n 0, 1) := by decide +kernel
theorem dX0_lastTick_1 : decode cX0_lastTick 1 = .ok (.getfield 22, 3) := by decide +kernel
theorem dX0_lastTick_4 : decode cX0_lastTick 4 = .ok (.aload_n 0, 1) := by decide +kernel
theorem dX0_lastTick_5 : decode cX0_lastTick 5 = .ok (.getfield 25, 3) := by decide +kernel
theorem dX0_lastTick_8 : decode cX0_lastTick 8 = .ok (.iadd, 1) := by decide +kernel
theorem dX0_lastTick_9 : decode cX0_lastTick 9 = .ok (.iconst 1, 1) := by decide +kernel
theorem dX0_lastTick_10 : decode cX0_lastTick 10 = .ok (.isub, 1) := by decide +kernel
theorem dX0_lastTick_11 : decode cX0_lastTick 11 = .ok (.ireturn, 1) := by decide +kernel
set_option maxRecDepth 20000 in
theorem B_X0_lastTick_0 {G : Gx} {X : Cx} {h : PH} {k n : Nat} {a0 : Nat} {x2 : Int} {x5 : Int} {PQ : Option PV → PH → Prop} (C : CX_X0_lastTick G X) (t1 : ph_T h a0 = 0 := by first | assumption | rfl) (e3 : ph_I h a0 3 = x2 := by first | assumption | rfl) (t4 : ph_T h a0 = 0 := by first | assumption | rfl) (e6 : ph_I h a0 4 = x5 := by first | assumption | rfl) (hq : PQ (some (.inl ((x2 + x5) - 1))) h) : PW G X 1 (pw_E G X PQ k n) k n 0 [some (.inr a0)] [] h := by
  refine pw_aload_n C dX0_lastTick_0 rfl ?_
  refine pw_getI C (t := 0) (f := 3) rfl inF0 rfl (by decide) (by decide) rfl kw117 dX0_lastTick_1 t1 ?_
  rw [e3]
  refine pw_aload_n C dX0_lastTick_4 rfl ?_
  refine pw_getI C (t := 0) (f := 4) rfl inF0 rfl (by decide) (by decide) rfl kw121 dX0_lastTick_5 t4 ?_
  rw [e6]
  refine pw_iadd C dX0_lastTick_8 ?_
  refine pw_iconst C dX0_lastTick_9 ?_
  refine pw_isub C dX0_lastTick_10 ?_
  exact pw_ireturn C dX0_lastTick_11 hq
theorem dX0_copyFrom_0 : decode cX0_copyFrom 0 = .ok (.aload_n 1, 1) := by decide +kernel
theorem dX0_copyFrom_1 : decode cX0_copyFrom 1 = .ok (.getfield 9, 3) := by decide +kernel
theorem dX0_copyFrom_4 : decode cX0_copyFrom 4 = .ok (.iconst 0, 1) := by decide +kernel
theorem dX0_copyFrom_5 : decode cX0_copyFrom 5 = .ok (.aload_n 0, 1) := by decide +kernel
theorem dX0_copyFrom_6 : decode cX0_copyFrom 6 = .ok (.getfield 9, 3) := by decide +kernel
theorem dX0_copyFrom_9 : decode cX0_copyFrom 9 = .ok (.iconst 0, 1) := by decide +kernel
theorem dX0_copyFrom_10 : decode cX0_copyFrom 10 = .ok (.bipush 16, 2) := by decide +kernel
theorem dX0_copyFrom_12 : decode cX0_copyFrom 12 = .ok (.invokestatic 38, 3) := by decide +kernel
theorem dX0_copyFrom_15 : decode cX0_copyFrom 15 = .ok (.aload_n 1, 1) := by decide +kernel
theorem dX0_copyFrom_16 : decode cX0_copyFrom 16 = .ok (.getfield 15, 3) := by decide +kernel
theorem dX0_copyFrom_19 : decode cX0_copyFrom 19 = .ok (.iconst 0, 1) := by decide +kernel
theorem dX0_copyFrom_20 : decode cX0_copyFrom 20 = .ok (.aload_n 0, 1) := by decide +kernel
theorem dX0_copyFrom_21 : decode cX0_copyFrom 21 = .ok (.getfield 15, 3) := by decide +kernel
theorem dX0_copyFrom_24 : decode cX0_copyFrom 24 = .ok (.iconst 0, 1) := by decide +kernel
theorem dX0_copyFrom_25 : decode cX0_copyFrom 25 = .ok (.bipush 16, 2) := by decide +kernel
theorem dX0_copyFrom_27 : decode cX0_copyFrom 27 = .ok (.invokestatic 38, 3) := by decide +kernel
theorem dX0_copyFrom_30 : decode cX0_copyFrom 30 = .ok (.aload_n 0, 1) := by decide +kernel
theorem dX0_copyFrom_31 : decode cX0_copyFrom 31 = .ok (.aload_n 1, 1) := by decide +kernel
theorem dX0_copyFrom_32 : decode cX0_copyFrom 32 = .ok (.getfield 18, 3) := by decide +kernel
theorem dX0_copyFrom_35 : decode cX0_copyFrom 35 = .ok (.putfield 18, 3) := by decide +kernel
theorem dX0_copyFrom_38 : decode cX0_copyFrom 38 = .ok (.aload_n 0, 1) := by decide +kernel
theorem dX0_copyFrom_39 : decode cX0_copyFrom 39 = .ok (.aload_n 1, 1) := by decide +kernel
theorem dX0_copyFrom_40 : decode cX0_copyFrom 40 = .ok (.getfield 22, 3) := by decide +kernel
theorem dX0_copyFrom_43 : decode cX0_copyFrom 43 = .ok (.putfield 22, 3) := by decide +kernel
theorem dX0_copyFrom_46 : decode cX0_copyFrom 46 = .ok (.aload_n 0, 1) := by decide +kernel
theorem dX0_copyFrom_47 : decode cX0_copyFrom 47 = .ok (.aload_n 1, 1) := by decide +kernel
theorem dX0_copyFrom_48 : decode cX0_copyFrom 48 = .ok (.getfield 25, 3) := by decide +kernel
theorem dX0_copyFrom_51 : decode cX0_copyFrom 51 = .ok (.putfield 25, 3) := by decide +kernel
theorem dX0_copyFrom_54 : decode cX0_copyFrom 54 = .ok (.aload_n 0, 1) := by decide +kernel
theorem dX0_copyFrom_55 : decode cX0_copyFrom 55 = .ok (.aload_n 1, 1) := by decide +kernel
theorem dX0_copyFrom_56 : decode cX0_copyFrom 56 = .ok (.getfield 28, 3) := by decide +kernel
theorem dX0_copyFrom_59 : decode cX0_copyFrom 59 = .ok (.putfield 28, 3) := by decide +kernel
theorem dX0_copyFrom_62 : decode cX0_copyFrom 62 = .ok (.aload_n 0, 1) := by decide +kernel
theorem dX0_copyFrom_63 : decode cX0_copyFrom 63 = .ok (.aload_n 1, 1) := by decide +kernel
theorem dX0_copyFrom_64 : decode cX0_copyFrom 64 = .ok (.getfield 31, 3) := by decide +kernel
theorem dX0_copyFrom_67 : decode cX0_copyFrom 67 = .ok (.putfield 31, 3) := by decide +kernel
theorem dX0_copyFrom_70 : decode cX0_copyFrom 70 = .ok (.return_, 1) := by decide +kernel
set_option maxRecDepth 20000 in
theorem B_X0_copyFrom_0 {G : Gx} {X : Cx} {h : PH} {k n : Nat} {a0 : Nat} {a1 : Nat} {r2 : Nat} {r5 : Nat} {r14 : Nat} {r17 : Nat} {x26 : Int} {x30 : Int} {x34 : Int} {x38 : Int} {x42 : Int} {PQ : Option PV → PH → Prop} (C : CX_X0_copyFrom G X) (t1 : ph_T h a1 = 0 := by first | assumption | rfl) (e3 : ph_R h a1 0 = r2 := by first | assumption | rfl) (t4 : ph_T h a0 = 0 := by first | assumption | rfl) (e6 : ph_R h a0 0 = r5 := by first | assumption | rfl) (t7 : ph_T h r2 = 8 := by first | assumption | rfl) (t8 : ph_T h r5 = 8 := by first | assumption | rfl) (q9 : pR 16 := by first | assumption | (unfold pR; omega)) (q10 : (0 : Int) ≤ 16 := by first | assumption | omega) (q11 : 16 ≤ (ph_L h r2 : Int) := by first | assumption | omega) (q12 : 16 ≤ (ph_L h r5 : Int) := by first | assumption | omega)  (t13 : ph_T h a1 = 0 := by first | assumption | rfl) (e15 : ph_R h a1 1 = r14 := by first | assumption | rfl) (t16 : ph_T h a0 = 0 := by first | assumption | rfl) (e18 : ph_R h a0 1 = r17 := by first | assumption | rfl) (t19 : ph_T h r14 = 8 := by first | assumption | rfl) (t20 : ph_T h r17 = 8 := by first | assumption | rfl) (q21 : pR 16 := by first | assumption | (unfold pR; omega)) (q22 : (0 : Int) ≤ 16 := by first | assumption | omega) (q23 : 16 ≤ (ph_L h r14 : Int) := by first | assumption | omega) (q24 : 16 ≤ (ph_L h r17 : Int) := by first | assumption | omega) (t25 : ph_T h a1 = 0 := by first | assumption | rfl) (e27 : ph_I (ph_rowI (ph_rowI h r5 (fun (j : Nat) => if (j : Int) < 16 then ph_I h r2 j else ph_I h r5 j)) r17 (fun (j : Nat) => if (j : Int) < 16 then ph_I (ph_rowI h r5 (fun (j : Nat) => if (j : Int) < 16 then ph_I h r2 j else ph_I h r5 j)) r14 j else ph_I (ph_rowI h r5 (fun (j : Nat) => if (j : Int) < 16 then ph_I h r2 j else ph_I h r5 j)) r17 j)) a1 2 = x26 := by first | assumption | rfl) (t28 : ph_T h a0 = 0 := by first | assumption | rfl) (t29 : ph_T h a1 = 0 := by first | assumption | rfl) (e31 : ph_I (ph_setI (ph_rowI (ph_rowI h r5 (fun (j : Nat) => if (j : Int) < 16 then ph_I h r2 j else ph_I h r5 j)) r17 (fun (j : Nat) => if (j : Int) < 16 then ph_I (ph_rowI h r5 (fun (j : Nat) => if (j : Int) < 16 then ph_I h r2 j else ph_I h r5 j)) r14 j else ph_I (ph_rowI h r5 (fun (j : Nat) => if (j : Int) < 16 then ph_I h r2 j else ph_I h r5 j)) r17 j)) a0 2 x26) a1 3 = x30 := by first | assumption | rfl) (t32 : ph_T h a0 = 0 := by first | assumption | rfl) (t33 : ph_T h a1 = 0 := by first | assumption | rfl) (e35 : ph_I (ph_setI (ph_setI (ph_rowI (ph_rowI h r5 (fun (j : Nat) => if (j : Int) < 16 then ph_I h r2 j else ph_I h r5 j)) r17 (fun (j : Nat) => if (j : Int) < 16 then ph_I (ph_rowI h r5 (fun (j : Nat) => if (j : Int) < 16 then ph_I h r2 j else ph_I h r5 j)) r14 j else ph_I (ph_rowI h r5 (fun (j : Nat) => if (j : Int) < 16 then ph_I h r2 j else ph_I h r5 j)) r17 j)) a0 2 x26) a0 3 x30) a1 4 = x34 := by first | assumption | rfl) (t36 : ph_T h a0 = 0 := by first | assumption | rfl) (t37 : ph_T h a1 = 0 := by first | assumption | rfl) (e39 : ph_I (ph_setI (ph_setI (ph_setI (ph_rowI (ph_rowI h r5 (fun (j : Nat) => if (j : Int) < 16 then ph_I h r2 j else ph_I h r5 j)) r17 (fun (j : Nat) => if (j : Int) < 16 then ph_I (ph_rowI h r5 (fun (j : Nat) => if (j : Int) < 16 then ph_I h r2 j else ph_I h r5 j)) r14 j else ph_I (ph_rowI h r5 (fun (j : Nat) => if (j : Int) < 16 then ph_I h r2 j else ph_I h r5 j)) r17 j)) a0 2 x26) a0 3 x30) a0 4 x34) a1 5 = x38 := by first | assumption | rfl) (t40 : ph_T h a0 = 0 := by first | assumption | rfl) (t41 : ph_T h a1 = 0 := by first | assumption | rfl) (e43 : ph_I (ph_setI (ph_setI (ph_setI (ph_setI (ph_rowI (ph_rowI h r5 (fun (j : Nat) => if (j : Int) < 16 then ph_I h r2 j else ph_I h r5 j)) r17 (fun (j : Nat) => if (j : Int) < 16 then ph_I (ph_rowI h r5 (fun (j : Nat) => if (j : Int) < 16 then ph_I h r2 j else ph_I h r5 j)) r14 j else ph_I (ph_rowI h r5 (fun (j : Nat) => if (j : Int) < 16 then ph_I h r2 j else ph_I h r5 j)) r17 j)) a0 2 x26) a0 3 x30) a0 4 x34) a0 5 x38) a1 6 = x42 := by first | assumption | rfl) (t44 : ph_T h a0 = 0 := by first | assumption | rfl) (hq : PQ none (ph_setI (ph_setI (ph_setI (ph_setI (ph_setI (ph_rowI (ph_rowI h r5 (fun (j : Nat) => if (j : Int) < 16 then ph_I h r2 j else ph_I h r5 j)) r17 (fun (j : Nat) => if (j : Int) < 16 then ph_I (ph_rowI h r5 (fun (j : Nat) => if (j : Int) < 16 then ph_I h r2 j else ph_I h r5 j)) r14 j else ph_I (ph_rowI h r5 (fun (j : Nat) => if (j : Int) < 16 then ph_I h r2 j else ph_I h r5 j)) r17 j)) a0 2 x26) a0 3 x30) a0 4 x34) a0 5 x38) a0 6 x42)) : PW G X 2 (pw_E G X PQ k n) k n 0 [some (.inr a0), some (.inr a1)] [] h := by
  refine pw_aload_n C dX0_copyFrom_0 rfl ?_
  refine pw_getR C (t := 0) (f := 0) rfl inF0 rfl (by decide) (by decide) rfl kw107 dX0_copyFrom_1 t1 ?_
  rw [e3]
  refine pw_iconst C dX0_copyFrom_4 ?_
  refine pw_aload_n C dX0_copyFrom_5 rfl ?_
  refine pw_getR C (t := 0) (f := 0) rfl inF0 rfl (by decide) (by decide) rfl kw107 dX0_copyFrom_6 t4 ?_
  rw [e6]
  refine pw_iconst C dX0_copyFrom_9 ?_
  refine pw_bipush C dX0_copyFrom_10 rfl ?_
  refine pw_copy C kw653 dX0_copyFrom_12 t7 t8 q9 q10 q11 q12 (by decide) (by show _ ≤ 40; exact Nat.le_trans (Nat.add_le_add_right (Nat.le_refl 0) _) (by decide)) ?_
  refine pw_aload_n C dX0_copyFrom_15 rfl ?_
  refine pw_getR C (t := 0) (f := 1) rfl inF0 rfl (by decide) (by decide) rfl kw110 dX0_copyFrom_16 t13 ?_
  rw [show ph_R (ph_rowI h r5 (fun (j : Nat) => if (j : Int) < 16 then ph_I h r2 j else ph_I h r5 j)) a1 1 = r14 from e15]
  refine pw_iconst C dX0_copyFrom_19 ?_
  refine pw_aload_n C dX0_copyFrom_20 rfl ?_
  refine pw_getR C (t := 0) (f := 1) rfl inF0 rfl (by decide) (by decide) rfl kw110 dX0_copyFrom_21 t16 ?_
  rw [show ph_R (ph_rowI h r5 (fun (j : Nat) => if (j : Int) < 16 then ph_I h r2 j else ph_I h r5 j)) a0 1 = r17 from e18]
  refine pw_iconst C dX0_copyFrom_24 ?_
  refine pw_bipush C dX0_copyFrom_25 rfl ?_
  refine pw_copy C kw653 dX0_copyFrom_27 t19 t20 q21 q22 q23 q24 (by decide) (by show _ ≤ 40; exact Nat.le_trans (Nat.add_le_add_right (Nat.le_refl 0) _) (by decide)) ?_
  refine pw_aload_n C dX0_copyFrom_30 rfl ?_
  refine pw_aload_n C dX0_copyFrom_31 rfl ?_
  refine pw_getI C (t := 0) (f := 2) rfl inF0 rfl (by decide) (by decide) rfl kw113 dX0_copyFrom_32 t25 ?_
  rw [show ph_I (ph_rowI (ph_rowI h r5 (fun (j : Nat) => if (j : Int) < 16 then ph_I h r2 j else ph_I h r5 j)) r17 (fun (j : Nat) => if (j : Int) < 16 then ph_I (ph_rowI h r5 (fun (j : Nat) => if (j : Int) < 16 then ph_I h r2 j else ph_I h r5 j)) r14 j else ph_I (ph_rowI h r5 (fun (j : Nat) => if (j : Int) < 16 then ph_I h r2 j else ph_I h r5 j)) r17 j)) a1 2 = x26 from e27]
  refine pw_putI C (t := 0) (f := 2) rfl inF0 tyX0_ok nmX0 rfl (by decide) (by decide) rfl (Or.inl rfl) (Or.inl rfl) kw113 dX0_copyFrom_35 t28 ?_
  refine pw_aload_n C dX0_copyFrom_38 rfl ?_
  refine pw_aload_n C dX0_copyFrom_39 rfl ?_
  refine pw_getI C (t := 0) (f := 3) rfl inF0 rfl (by decide) (by decide) rfl kw117 dX0_copyFrom_40 t29 ?_
  rw [show ph_I (ph_setI (ph_rowI (ph_rowI h r5 (fun (j : Nat) => if (j : Int) < 16 then ph_I h r2 j else ph_I h r5 j)) r17 (fun (j : Nat) => if (j : Int) < 16 then ph_I (ph_rowI h r5 (fun (j : Nat) => if (j : Int) < 16 then ph_I h r2 j else ph_I h r5 j)) r14 j else ph_I (ph_rowI h r5 (fun (j : Nat) => if (j : Int) < 16 then ph_I h r2 j else ph_I h r5 j)) r17 j)) a0 2 x26) a1 3 = x30 from e31]
  refine pw_putI C (t := 0) (f := 3) rfl inF0 tyX0_ok nmX0 rfl (by decide) (by decide) rfl (Or.inl rfl) (Or.inl rfl) kw117 dX0_copyFrom_43 t32 ?_
  refine pw_aload_n C dX0_copyFrom_46 rfl ?_
  refine pw_aload_n C dX0_copyFrom_47 rfl ?_
  refine pw_getI C (t := 0) (f := 4) rfl inF0 rfl (by decide) (by decide) rfl kw121 dX0_copyFrom_48 t33 ?_
  rw [show ph_I (ph_setI (ph_setI (ph_rowI (ph_rowI h r5 (fun (j : Nat) => if (j : Int) < 16 then ph_I h r2 j else ph_I h r5 j)) r17 (fun (j : Nat) => if (j : Int) < 16 then ph_I (ph_rowI h r5 (fun (j : Nat) => if (j : Int) < 16 then ph_I h r2 j else ph_I h r5 j)) r14 j else ph_I (ph_rowI h r5 (fun (j : Nat) => if (j : Int) < 16 then ph_I h r2 j else ph_I h r5 j)) r17 j)) a0 2 x26) a0 3 x30) a1 4 = x34 from e35]
  refine pw_putI C (t := 0) (f := 4) rfl inF0 tyX0_ok nmX0 rfl (by decide) (by decide) rfl (Or.inl rfl) (Or.inl rfl) kw121 dX0_copyFrom_51 t36 ?_
  refine pw_aload_n C dX0_copyFrom_54 rfl ?_
  refine pw_aload_n C dX0_copyFrom_55 rfl ?_
  refine pw_getI C (t := 0) (f := 5) rfl inF0 rfl (by decide) (by decide) rfl kw125 dX0_copyFrom_56 t37 ?_
  rw [show ph_I (ph_setI (ph_setI (ph_setI (ph_rowI (ph_rowI h r5 (fun (j : Nat) => if (j : Int) < 16 then ph_I h r2 j else ph_I h r5 j)) r17 (fun (j : Nat) => if (j : Int) < 16 then ph_I (ph_rowI h r5 (fun (j : Nat) => if (j : Int) < 16 then ph_I h r2 j else ph_I h r5 j)) r14 j else ph_I (ph_rowI h r5 (fun (j : Nat) => if (j : Int) < 16 then ph_I h r2 j else ph_I h r5 j)) r17 j)) a0 2 x26) a0 3 x30) a0 4 x34) a1 5 = x38 from e39]
  refine pw_putI C (t := 0) (f := 5) rfl inF0 tyX0_ok nmX0 rfl (by decide) (by decide) rfl (Or.inl rfl) (Or.inl rfl) kw125 dX0_copyFrom_59 t40 ?_
  refine pw_aload_n C dX0_copyFrom_62 rfl ?_
  refine pw_aload_n C dX0_copyFrom_63 rfl ?_
  refine pw_getI C (t := 0) (f := 6) rfl inF0 rfl (by decide) (by decide) rfl kw127 dX0_copyFrom_64 t41 ?_
  rw [show ph_I (ph_setI (ph_setI (ph_setI (ph_setI (ph_rowI (ph_rowI h r5 (fun (j : Nat) => if (j : Int) < 16 then ph_I h r2 j else ph_I h r5 j)) r17 (fun (j : Nat) => if (j : Int) < 16 then ph_I (ph_rowI h r5 (fun (j : Nat) => if (j : Int) < 16 then ph_I h r2 j else ph_I h r5 j)) r14 j else ph_I (ph_rowI h r5 (fun (j : Nat) => if (j : Int) < 16 then ph_I h r2 j else ph_I h r5 j)) r17 j)) a0 2 x26) a0 3 x30) a0 4 x34) a0 5 x38) a1 6 = x42 from e43]
  refine pw_putI C (t := 0) (f := 6) rfl inF0 tyX0_ok nmX0 rfl (by decide) (by decide) rfl (Or.inl rfl) (Or.inl rfl) kw127 dX0_copyFrom_67 t44 ?_
  exact pw_vreturn C dX0_copyFrom_70 hq
