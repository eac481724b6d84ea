theorem dX3_init_0 : decode cX3_init 0 = .ok (.aload_n 0, 1) := by decide +kernel
theorem dX3_init_1 : decode cX3_init 1 = .ok (.invokespecial 3, 3) := by decide +kernel
theorem dX3_init_4 : decode cX3_init 4 = .ok (.aload_n 0, 1) := by decide +kernel
theorem dX3_init_5 : decode cX3_init 5 = .ok (.iconst 0, 1) := by decide +kernel
theorem dX3_init_6 : decode cX3_init 6 = .ok (.putfield 9, 3) := by decide +kernel
theorem dX3_init_9 : decode cX3_init 9 = .ok (.aload_n 0, 1) := by decide +kernel
theorem dX3_init_10 : decode cX3_init 10 = .ok (.bipush 10, 2) := by decide +kernel
theorem dX3_init_12 : decode cX3_init 12 = .ok (.putfield 15, 3) := by decide +kernel
theorem dX3_init_15 : decode cX3_init 15 = .ok (.aload_n 0, 1) := by decide +kernel
theorem dX3_init_16 : decode cX3_init 16 = .ok (.iconst 3, 1) := by decide +kernel
theorem dX3_init_17 : decode cX3_init 17 = .ok (.putfield 18, 3) := by decide +kernel
theorem dX3_init_20 : decode cX3_init 20 = .ok (.aload_n 0, 1) := by decide +kernel
theorem dX3_init_21 : decode cX3_init 21 = .ok (.iconst (-1), 1) := by decide +kernel
theorem dX3_init_22 : decode cX3_init 22 = .ok (.putfield 21, 3) := by decide +kernel
theorem dX3_init_25 : decode cX3_init 25 = .ok (.aload_n 0, 1) := by decide +kernel
theorem dX3_init_26 : decode cX3_init 26 = .ok (.iconst 1, 1) := by decide +kernel
theorem dX3_init_27 : decode cX3_init 27 = .ok (.putfield 24, 3) := by decide +kernel
theorem dX3_init_30 : decode cX3_init 30 = .ok (.aload_n 0, 1) := by decide +kernel
theorem dX3_init_31 : decode cX3_init 31 = .ok (.iconst 0, 1) := by decide +kernel
theorem dX3_init_32 : decode cX3_init 32 = .ok (.putfield 27, 3) := by decide +kernel
theorem dX3_init_35 : decode cX3_init 35 = .ok (.aload_n 0, 1) := by decide +kernel
theorem dX3_init_36 : decode cX3_init 36 = .ok (.iconst 5, 1) := by decide +kernel
theorem dX3_init_37 : decode cX3_init 37 = .ok (.putfield 30, 3) := by decide +kernel
theorem dX3_init_40 : decode cX3_init 40 = .ok (.return_, 1) := by decide +kernel
set_option maxRecDepth 20000 in
theorem B_X3_init_0 {G : Gx} {X : Cx} {h : PH} {k n : Nat} {a0 : Nat} {PQ : Option PV → PH → Prop} (C : CX_X3_init G X) (q1 : 2 ≤ a0 := by first | assumption | omega)  (t2 : ph_T h a0 = 3 := by first | assumption | rfl) (t3 : ph_T h a0 = 3 := by first | assumption | rfl) (t4 : ph_T h a0 = 3 := by first | assumption | rfl) (t5 : ph_T h a0 = 3 := by first | assumption | rfl) (t6 : ph_T h a0 = 3 := by first | assumption | rfl) (t7 : ph_T h a0 = 3 := by first | assumption | rfl) (t8 : ph_T h a0 = 3 := by first | assumption | rfl) (hq : PQ none (ph_setI (ph_setI (ph_setI (ph_setI (ph_setI (ph_setI (ph_setI h a0 0 0) a0 1 10) a0 2 3) a0 3 (-1)) a0 4 1) a0 5 0) a0 6 5)) : PW G X 1 (pw_E G X PQ k n) k n 0 [some (.inr a0)] [] h := by
  refine pw_aload_n C dX3_init_0 rfl ?_
  refine pw_objInit C q1 kw72 kw55 kwObj dX3_init_1 (by decide) (Nat.le_of_ble_eq_true rfl) ?_
  refine pw_aload_n C dX3_init_4 rfl ?_
  refine pw_iconst C dX3_init_5 ?_
  refine pw_putI C (t := 3) (f := 0) rfl inF3 tyX3_ok nmX3 rfl (by decide) (by decide) rfl (Or.inl rfl) (Or.inl rfl) kw73 dX3_init_6 t2 ?_
  refine pw_aload_n C dX3_init_9 rfl ?_
  refine pw_bipush C dX3_init_10 rfl ?_
  refine pw_putI C (t := 3) (f := 1) rfl inF3 tyX3_ok nmX3 rfl (by decide) (by decide) rfl (Or.inl rfl) (Or.inl rfl) kw75 dX3_init_12 t3 ?_
  refine pw_aload_n C dX3_init_15 rfl ?_
  refine pw_iconst C dX3_init_16 ?_
  refine pw_putI C (t := 3) (f := 2) rfl inF3 tyX3_ok nmX3 rfl (by decide) (by decide) rfl (Or.inl rfl) (Or.inl rfl) kw76 dX3_init_17 t4 ?_
  refine pw_aload_n C dX3_init_20 rfl ?_
  refine pw_iconst C dX3_init_21 ?_
  refine pw_putI C (t := 3) (f := 3) rfl inF3 tyX3_ok nmX3 rfl (by decide) (by decide) rfl (Or.inl rfl) (Or.inl rfl) kw78 dX3_init_22 t5 ?_
  refine pw_aload_n C dX3_init_25 rfl ?_
  refine pw_iconst C dX3_init_26 ?_
  refine pw_putI C (t := 3) (f := 4) rfl inF3 tyX3_ok nmX3 rfl (by decide) (by decide) rfl (Or.inl rfl) (Or.inl rfl) kw80 dX3_init_27 t6 ?_
  refine pw_aload_n C dX3_init_30 rfl ?_
  refine pw_iconst C dX3_init_31 ?_
  refine pw_putI C (t := 3) (f := 5) rfl inF3 tyX3_ok nmX3 rfl (by decide) (by decide) rfl (Or.inl rfl) (Or.inl rfl) kw82 dX3_init_32 t7 ?_
  refine pw_aload_n C dX3_init_35 rfl ?_
  refine pw_iconst C dX3_init_36 ?_
  refine pw_putI C (t := 3) (f := 6) rfl inF3 tyX3_ok nmX3 rfl (by decide) (by decide) rfl (Or.inl rfl) (Or.inl rfl) kw84 dX3_init_37 t8 ?_
  exact pw_vreturn C dX3_init_40 hq
theorem dX3_putSun_0 : decode cX3_putSun 0 = .ok (.aload_n 0, 1) := by decide +kernel
theorem dX3_putSun_1 : decode cX3_putSun 1 = .ok (.iload_n 1, 1) := by decide +kernel
theorem dX3_putSun_2 : decode cX3_putSun 2 = .ok (.putfield 9, 3) := by decide +kernel
theorem dX3_putSun_5 : decode cX3_putSun 5 = .ok (.aload_n 0, 1) := by decide +kernel
theorem dX3_putSun_6 : decode cX3_putSun 6 = .ok (.iload_n 2, 1) := by decide +kernel
theorem dX3_putSun_7 : decode cX3_putSun 7 = .ok (.putfield 15, 3) := by decide +kernel
theorem dX3_putSun_10 : decode cX3_putSun 10 = .ok (.aload_n 0, 1) := by decide +kernel
theorem dX3_putSun_11 : decode cX3_putSun 11 = .ok (.iload_n 3, 1) := by decide +kernel
theorem dX3_putSun_12 : decode cX3_putSun 12 = .ok (.putfield 18, 3) := by decide +kernel
theorem dX3_putSun_15 : decode cX3_putSun 15 = .ok (.aload_n 0, 1) := by decide +kernel
theorem dX3_putSun_16 : decode cX3_putSun 16 = .ok (.iload 4, 2) := by decide +kernel
theorem dX3_putSun_18 : decode cX3_putSun 18 = .ok (.putfield 21, 3) := by decide +kernel
theorem dX3_putSun_21 : decode cX3_putSun 21 = .ok (.return_, 1) := by decide +kernel
set_option maxRecDepth 20000 in
theorem B_X3_putSun_0 {G : Gx} {X : Cx} {h : PH} {k n : Nat} {a0 : Nat} {a1 : Int} {a2 : Int} {a3 : Int} {a4 : Int} {PQ : Option PV → PH → Prop} (C : CX_X3_putSun G X) (t1 : ph_T h a0 = 3 := by first | assumption | rfl) (t2 : ph_T h a0 = 3 := by first | assumption | rfl) (t3 : ph_T h a0 = 3 := by first | assumption | rfl) (t4 : ph_T h a0 = 3 := by first | assumption | rfl) (hq : PQ none (ph_setI (ph_setI (ph_setI (ph_setI h a0 0 a1) a0 1 a2) a0 2 a3) a0 3 a4)) : PW G X 5 (pw_E G X PQ k n) k n 0 [some (.inr a0), some (.inl a1), some (.inl a2), some (.inl a3), some (.inl a4)] [] h := by
  refine pw_aload_n C dX3_putSun_0 rfl ?_
  refine pw_iload_n C dX3_putSun_1 rfl ?_
  refine pw_putI C (t := 3) (f := 0) rfl inF3 tyX3_ok nmX3 rfl (by decide) (by decide) rfl (Or.inl rfl) (Or.inl rfl) kw73 dX3_putSun_2 t1 ?_
  refine pw_aload_n C dX3_putSun_5 rfl ?_
  refine pw_iload_n C dX3_putSun_6 rfl ?_
  refine pw_putI C (t := 3) (f := 1) rfl inF3 tyX3_ok nmX3 rfl (by decide) (by decide) rfl (Or.inl rfl) (Or.inl rfl) kw75 dX3_putSun_7 t2 ?_
  refine pw_aload_n C dX3_putSun_10 rfl ?_
  refine pw_iload_n C dX3_putSun_11 rfl ?_
  refine pw_putI C (t := 3) (f := 2) rfl inF3 tyX3_ok nmX3 rfl (by decide) (by decide) rfl (Or.inl rfl) (Or.inl rfl) kw76 dX3_putSun_12 t3 ?_
  refine pw_aload_n C dX3_putSun_15 rfl ?_
  refine pw_iload C dX3_putSun_16 rfl ?_
  refine pw_putI C (t := 3) (f := 3) rfl inF3 tyX3_ok nmX3 rfl (by decide) (by decide) rfl (Or.inl rfl) (Or.inl rfl) kw78 dX3_putSun_18 t4 ?_
  exact pw_vreturn C dX3_putSun_21 hq
theorem dX3_isSunSide_0 : decode cX3_isSunSide 0 = .ok (.aload_n 0, 1) := by decide +kernel
theorem dX3_isSunSide_1 : decode cX3_isSunSide 1 = .ok (.getfield 15, 3) := by decide +kernel
theorem dX3_isSunSide_4 : decode cX3_isSunSide 4 = .ok (.ifCond .le 12, 3) := by decide +kernel
theorem dX3_isSunSide_7 : decode cX3_isSunSide 7 = .ok (.iload_n 2, 1) := by decide +kernel
theorem dX3_isSunSide_8 : decode cX3_isSunSide 8 = .ok (.aload_n 0, 1) := by decide +kernel
theorem dX3_isSunSide_9 : decode cX3_isSunSide 9 = .ok (.getfield 15, 3) := by decide +kernel
theorem dX3_isSunSide_12 : decode cX3_isSunSide 12 = .ok (.idiv, 1) := by decide +kernel
theorem dX3_isSunSide_13 : decode cX3_isSunSide 13 = .ok (.goto 4, 3) := by decide +kernel
theorem dX3_isSunSide_16 : decode cX3_isSunSide 16 = .ok (.iconst 0, 1) := by decide +kernel
theorem dX3_isSunSide_17 : decode cX3_isSunSide 17 = .ok (.istore_n 3, 1) := by decide +kernel
theorem dX3_isSunSide_18 : decode cX3_isSunSide 18 = .ok (.iload_n 1, 1) := by decide +kernel
theorem dX3_isSunSide_19 : decode cX3_isSunSide 19 = .ok (.aload_n 0, 1) := by decide +kernel
theorem dX3_isSunSide_20 : decode cX3_isSunSide 20 = .ok (.getfield 9, 3) := by decide +kernel
theorem dX3_isSunSide_23 : decode cX3_isSunSide 23 = .ok (.iload_n 3, 1) := by decide +kernel
theorem dX3_isSunSide_24 : decode cX3_isSunSide 24 = .ok (.iadd, 1) := by decide +kernel
theorem dX3_isSunSide_25 : decode cX3_isSunSide 25 = .ok (.bipush 24, 2) := by decide +kernel
theorem dX3_isSunSide_27 : decode cX3_isSunSide 27 = .ok (.irem, 1) := by decide +kernel
theorem dX3_isSunSide_28 : decode cX3_isSunSide 28 = .ok (.isub, 1) := by decide +kernel
theorem dX3_isSunSide_29 : decode cX3_isSunSide 29 = .ok (.invokestatic 33, 3) := by decide +kernel
theorem dX3_isSunSide_32 : decode cX3_isSunSide 32 = .ok (.istore 4, 2) := by decide +kernel
theorem dX3_isSunSide_34 : decode cX3_isSunSide 34 = .ok (.iload 4, 2) := by decide +kernel
theorem dX3_isSunSide_36 : decode cX3_isSunSide 36 = .ok (.bipush 24, 2) := by decide +kernel
theorem dX3_isSunSide_38 : decode cX3_isSunSide 38 = .ok (.iload 4, 2) := by decide +kernel
theorem dX3_isSunSide_40 : decode cX3_isSunSide 40 = .ok (.isub, 1) := by decide +kernel
theorem dX3_isSunSide_41 : decode cX3_isSunSide 41 = .ok (.invokestatic 39, 3) := by decide +kernel
theorem dX3_isSunSide_44 : decode cX3_isSunSide 44 = .ok (.aload_n 0, 1) := by decide +kernel
theorem dX3_isSunSide_45 : decode cX3_isSunSide 45 = .ok (.getfield 21, 3) := by decide +kernel
theorem dX3_isSunSide_48 : decode cX3_isSunSide 48 = .ok (.if_icmp .gt 7, 3) := by decide +kernel
theorem dX3_isSunSide_51 : decode cX3_isSunSide 51 = .ok (.iconst 1, 1) := by decide +kernel
theorem dX3_isSunSide_52 : decode cX3_isSunSide 52 = .ok (.goto 4, 3) := by decide +kernel
theorem dX3_isSunSide_55 : decode cX3_isSunSide 55 = .ok (.iconst 0, 1) := by decide +kernel
theorem dX3_isSunSide_56 : decode cX3_isSunSide 56 = .ok (.ireturn, 1) := by decide +kernel
set_option maxRecDepth 20000 in
theorem B_X3_isSunSide_0 {G : Gx} {X : Cx} {h : PH} {k n : Nat} {Q : State → Prop} {S : List PV} {a0 : Nat} {a1 : Int} {a2 : Int} {x2 : Int} (C : CX_X3_isSunSide G X) (t1 : ph_T h a0 = 3 := by first | assumption | rfl) (e3 : ph_I h a0 1 = x2 := by first | assumption | rfl) (q4 : pR x2 := by first | assumption | (unfold pR; omega)) (kt : x2 ≤ 0 → PW G X 5 Q k n 16 [some (.inr a0), some (.inl a1), some (.inl a2), none, none] (S) h) (kf : ¬ x2 ≤ 0 → PW G X 5 Q k n 7 [some (.inr a0), some (.inl a1), some (.inl a2), none, none] (S) h) : PW G X 5 Q k n 0 [some (.inr a0), some (.inl a1), some (.inl a2), none, none] (S) h := by
  refine pw_aload_n C dX3_isSunSide_0 rfl ?_
  refine pw_getI C (t := 3) (f := 1) rfl inF3 rfl (by decide) (by decide) rfl kw75 dX3_isSunSide_1 t1 ?_
  rw [e3]
  exact pw_if_le C 16 dX3_isSunSide_4 (by decide) q4 kt kf
set_option maxRecDepth 20000 in
theorem B_X3_isSunSide_7 {G : Gx} {X : Cx} {h : PH} {k n : Nat} {Q : State → Prop} {S : List PV} {a0 : Nat} {a1 : Int} {a2 : Int} {x2 : Int} (C : CX_X3_isSunSide G X) (t1 : ph_T h a0 = 3 := by first | assumption | rfl) (e3 : ph_I h a0 1 = x2 := by first | assumption | rfl) (q4 : pR a2 := by first | assumption | (unfold pR; omega)) (q5 : pR x2 := by first | assumption | (unfold pR; omega)) (q6 : (0 : Int) ≤ a2 := by first | assumption | omega) (q7 : (0 : Int) < x2 := by first | assumption | omega) (kk : PW G X 5 Q k n 17 [some (.inr a0), some (.inl a1), some (.inl a2), none, none] (.inl (a2 / x2) :: S) h) : PW G X 5 Q k n 7 [some (.inr a0), some (.inl a1), some (.inl a2), none, none] (S) h := by
  refine pw_iload_n C dX3_isSunSide_7 rfl ?_
  refine pw_aload_n C dX3_isSunSide_8 rfl ?_
  refine pw_getI C (t := 3) (f := 1) rfl inF3 rfl (by decide) (by decide) rfl kw75 dX3_isSunSide_9 t1 ?_
  rw [e3]
  refine pw_idiv C dX3_isSunSide_12 q4 q5 q6 q7 ?_
  refine pw_goto C 17 dX3_isSunSide_13 (by decide) ?_
  exact kk
set_option maxRecDepth 20000 in
theorem B_X3_isSunSide_16 {G : Gx} {X : Cx} {h : PH} {k n : Nat} {Q : State → Prop} {S : List PV} {a0 : Nat} {a1 : Int} {a2 : Int} (C : CX_X3_isSunSide G X) (kk : PW G X 5 Q k n 17 [some (.inr a0), some (.inl a1), some (.inl a2), none, none] (.inl 0 :: S) h) : PW G X 5 Q k n 16 [some (.inr a0), some (.inl a1), some (.inl a2), none, none] (S) h := by
  refine pw_iconst C dX3_isSunSide_16 ?_
  exact kk
set_option maxRecDepth 20000 in
theorem B_X3_isSunSide_17 {G : Gx} {X : Cx} {h : PH} {k n : Nat} {Q : State → Prop} {S : List PV} {a0 : Nat} {a1 : Int} {a2 : Int} {s0 : Int} {x2 : Int} {x9 : Int} {x13 : Int} {x16 : Int} (C : CX_X3_isSunSide G X) (hk0 : k ≤ 0 := by decide) (hn0 : n ≤ 0 := by decide) (t1 : ph_T h a0 = 3 := by first | assumption | rfl) (e3 : ph_I h a0 0 = x2 := by first | assumption | rfl) (q4 : pR (x2 + s0) := by first | assumption | (unfold pR; omega)) (q5 : pR 24 := by first | assumption | (unfold pR; omega)) (q6 : (0 : Int) ≤ x2 + s0 := by first | assumption | omega) (q7 : (0 : Int) < 24 := by first | assumption | omega) (q8 : pR (a1 - ((x2 + s0) % 24)) := by first | assumption | (unfold pR; omega)) (hS : S.length ≤ 4 := by decide) (e10 : (if 0 ≤ a1 - ((x2 + s0) % 24) then a1 - ((x2 + s0) % 24) else -(a1 - ((x2 + s0) % 24))) = x9 := by first | assumption | rfl) (q11 : pR x9 := by first | assumption | (unfold pR; omega)) (q12 : pR (24 - x9) := by first | assumption | (unfold pR; omega)) (e14 : (if 24 - x9 < x9 then 24 - x9 else x9) = x13 := by first | assumption | rfl) (t15 : ph_T h a0 = 3 := by first | assumption | rfl) (e17 : ph_I h a0 3 = x16 := by first | assumption | rfl) (q18 : pR x13 := by first | assumption | (unfold pR; omega)) (q19 : pR x16 := by first | assumption | (unfold pR; omega)) (kt : x16 < x13 → PW G X 5 Q k n 55 [some (.inr a0), some (.inl a1), some (.inl a2), some (.inl s0), some (.inl x9)] (S) h) (kf : ¬ x16 < x13 → PW G X 5 Q k n 51 [some (.inr a0), some (.inl a1), some (.inl a2), some (.inl s0), some (.inl x9)] (S) h) : PW G X 5 Q k n 17 [some (.inr a0), some (.inl a1), some (.inl a2), none, none] (.inl s0 :: S) h := by
  refine pw_istore_n C dX3_isSunSide_17 (by decide) ?_
  refine pw_iload_n C dX3_isSunSide_18 rfl ?_
  refine pw_aload_n C dX3_isSunSide_19 rfl ?_
  refine pw_getI C (t := 3) (f := 0) rfl inF3 rfl (by decide) (by decide) rfl kw73 dX3_isSunSide_20 t1 ?_
  rw [e3]
  refine pw_iload_n C dX3_isSunSide_23 rfl ?_
  refine pw_iadd C dX3_isSunSide_24 ?_
  refine pw_bipush C dX3_isSunSide_25 rfl ?_
  refine pw_irem C dX3_isSunSide_27 q4 q5 q6 q7 ?_
  refine pw_isub C dX3_isSunSide_28 ?_
  refine pw_abs C kw420 kw421 kw46 kwAbs dX3_isSunSide_29 (by decide) (by simp only [List.length_cons]; omega) hk0 hn0 q8 ?_
  rw [e10]
  refine pw_istore C dX3_isSunSide_32 (by decide) ?_
  refine pw_iload C dX3_isSunSide_34 rfl ?_
  refine pw_bipush C dX3_isSunSide_36 rfl ?_
  refine pw_iload C dX3_isSunSide_38 rfl ?_
  refine pw_isub C dX3_isSunSide_40 ?_
  refine pw_min C kw423 kw424 kw46 kwMin dX3_isSunSide_41 (by decide) (by simp only [List.length_cons]; omega) hk0 hn0 q11 q12 ?_
  rw [e14]
  refine pw_aload_n C dX3_isSunSide_44 rfl ?_
  refine pw_getI C (t := 3) (f := 3) rfl inF3 rfl (by decide) (by decide) rfl kw78 dX3_isSunSide_45 t15 ?_
  rw [e17]
  exact pw_icmp_gt C 55 dX3_isSunSide_48 (by decide) q18 q19 kt kf
set_option maxRecDepth 20000 in
theorem B_X3_isSunSide_51 {G : Gx} {X : Cx} {h : PH} {k n : Nat} {Q : State → Prop} {S : List PV} {a0 : Nat} {a1 : Int} {a2 : Int} {a3 : Int} {a4 : Int} (C : CX_X3_isSunSide G X) (kk : PW G X 5 Q k n 56 [some (.inr a0), some (.inl a1), some (.inl a2), some (.inl a3), some (.inl a4)] (.inl 1 :: S) h) : PW G X 5 Q k n 51 [some (.inr a0), some (.inl a1), some (.inl a2), some (.inl a3), some (.inl a4)] (S) h := by
  refine pw_iconst C dX3_isSunSide_51 ?_
  refine pw_goto C 56 dX3_isSunSide_52 (by decide) ?_
  exact kk
set_option maxRecDepth 20000 in
theorem B_X3_isSunSide_55 {G : Gx} {X : Cx} {h : PH} {k n : Nat} {Q : State → Prop} {S : List PV} {a0 : Nat} {a1 : Int} {a2 : Int} {a3 : Int} {a4 : Int} (C : CX_X3_isSunSide G X) (kk : PW G X 5 Q k n 56 [some (.inr a0), some (.inl a1), some (.inl a2), some (.inl a3), some (.inl a4)] (.inl 0 :: S) h) : PW G X 5 Q k n 55 [some (.inr a0), some (.inl a1), some (.inl a2), some (.inl a3), some (.inl a4)] (S) h := by
  refine pw_iconst C dX3_isSunSide_55 ?_
  exact kk
set_option maxRecDepth 20000 in
theorem B_X3_isSunSide_56 {G : Gx} {X : Cx} {h : PH} {k n : Nat} {a0 : Nat} {a1 : Int} {a2 : Int} {a3 : Int} {a4 : Int} {s0 : Int} {PQ : Option PV → PH → Prop} (C : CX_X3_isSunSide G X) (q1 : (s0 : Int) = 0 ∨ (s0 : Int) = 1 := by omega) (hq : PQ (some (.inl s0)) h) : PW G X 5 (pw_E G X PQ k n) k n 56 [some (.inr a0), some (.inl a1), some (.inl a2), some (.inl a3), some (.inl a4)] [.inl s0] h := by
  exact pw_zreturn C dX3_isSunSide_56 q1 hq
theorem dX3_isSunHeight_0 : decode cX3_isSunHeight 0 = .ok (.iload_n 1, 1) := by decide +kernel
theorem dX3_isSunHeight_1 : decode cX3_isSunHeight 1 = .ok (.aload_n 0, 1) := by decide +kernel
theorem dX3_isSunHeight_2 : decode cX3_isSunHeight 2 = .ok (.getfield 18, 3) := by decide +kernel
theorem dX3_isSunHeight_5 : decode cX3_isSunHeight 5 = .ok (.isub, 1) := by decide +kernel
theorem dX3_isSunHeight_6 : decode cX3_isSunHeight 6 = .ok (.invokestatic 33, 3) := by decide +kernel
theorem dX3_isSunHeight_9 : decode cX3_isSunHeight 9 = .ok (.aload_n 0, 1) := by decide +kernel
theorem dX3_isSunHeight_10 : decode cX3_isSunHeight 10 = .ok (.getfield 21, 3) := by decide +kernel
theorem dX3_isSunHeight_13 : decode cX3_isSunHeight 13 = .ok (.if_icmp .gt 7, 3) := by decide +kernel
theorem dX3_isSunHeight_16 : decode cX3_isSunHeight 16 = .ok (.iconst 1, 1) := by decide +kernel
theorem dX3_isSunHeight_17 : decode cX3_isSunHeight 17 = .ok (.goto 4, 3) := by decide +kernel
theorem dX3_isSunHeight_20 : decode cX3_isSunHeight 20 = .ok (.iconst 0, 1) := by decide +kernel
theorem dX3_isSunHeight_21 : decode cX3_isSunHeight 21 = .ok (.ireturn, 1) := by decide +kernel
set_option maxRecDepth 20000 in
theorem B_X3_isSunHeight_0 {G : Gx} {X : Cx} {h : PH} {k n : Nat} {Q : State → Prop} {S : List PV} {a0 : Nat} {a1 : Int} {x2 : Int} {x5 : Int} {x8 : Int} (C : CX_X3_isSunHeight G X) (hk0 : k ≤ 0 := by decide) (hn0 : n ≤ 0 := by decide) (t1 : ph_T h a0 = 3 := by first | assumption | rfl) (e3 : ph_I h a0 2 = x2 := by first | assumption | rfl) (q4 : pR (a1 - x2) := by first | assumption | (unfold pR; omega)) (hS : S.length ≤ 4 := by decide) (e6 : (if 0 ≤ a1 - x2 then a1 - x2 else -(a1 - x2)) = x5 := by first | assumption | rfl) (t7 : ph_T h a0 = 3 := by first | assumption | rfl) (e9 : ph_I h a0 3 = x8 := by first | assumption | rfl) (q10 : pR x5 := by first | assumption | (unfold pR; omega)) (q11 : pR x8 := by first | assumption | (unfold pR; omega)) (kt : x8 < x5 → PW G X 2 Q k n 20 [some (.inr a0), some (.inl a1)] (S) h) (kf : ¬ x8 < x5 → PW G X 2 Q k n 16 [some (.inr a0), some (.inl a1)] (S) h) : PW G X 2 Q k n 0 [some (.inr a0), some (.inl a1)] (S) h := by
  refine pw_iload_n C dX3_isSunHeight_0 rfl ?_
  refine pw_aload_n C dX3_isSunHeight_1 rfl ?_
  refine pw_getI C (t := 3) (f := 2) rfl inF3 rfl (by decide) (by decide) rfl kw76 dX3_isSunHeight_2 t1 ?_
  rw [e3]
  refine pw_isub C dX3_isSunHeight_5 ?_
  refine pw_abs C kw420 kw421 kw46 kwAbs dX3_isSunHeight_6 (by decide) (by simp only [List.length_cons]; omega) hk0 hn0 q4 ?_
  rw [e6]
  refine pw_aload_n C dX3_isSunHeight_9 rfl ?_
  refine pw_getI C (t := 3) (f := 3) rfl inF3 rfl (by decide) (by decide) rfl kw78 dX3_isSunHeight_10 t7 ?_
  rw [e9]
  exact pw_icmp_gt C 20 dX3_isSunHeight_13 (by decide) q10 q11 kt kf
set_option maxRecDepth 20000 in
theorem B_X3_isSunHeight_16 {G : Gx} {X : Cx} {h : PH} {k n : Nat} {Q : State → Prop} {S : List PV} {a0 : Nat} {a1 : Int} (C : CX_X3_isSunHeight G X) (kk : PW G X 2 Q k n 21 [some (.inr a0), some (.inl a1)] (.inl 1 :: S) h) : PW G X 2 Q k n 16 [some (.inr a0), some (.inl a1)] (S) h := by
  refine pw_iconst C dX3_isSunHeight_16 ?_
  refine pw_goto C 21 dX3_isSunHeight_17 (by decide) ?_
  exact kk
set_option maxRecDepth 20000 in
theorem B_X3_isSunHeight_20 {G : Gx} {X : Cx} {h : PH} {k n : Nat} {Q : State → Prop} {S : List PV} {a0 : Nat} {a1 : Int} (C : CX_X3_isSunHeight G X) (kk : PW G X 2 Q k n 21 [some (.inr a0), some (.inl a1)] (.inl 0 :: S) h) : PW G X 2 Q k n 20 [some (.inr a0), some (.inl a1)] (S) h := by
  refine pw_iconst C dX3_isSunHeight_20 ?_
  exact kk
set_option maxRecDepth 20000 in
theorem B_X3_isSunHeight_21 {G : Gx} {X : Cx} {h : PH} {k n : Nat} {a0 : Nat} {a1 : Int} {s0 : Int} {PQ : Option PV → PH → Prop} (C : CX_X3_isSunHeight G X) (q1 : (s0 : Int) = 0 ∨ (s0 : Int) = 1 := by omega) (hq : PQ (some (.inl s0)) h) : PW G X 2 (pw_E G X PQ k n) k n 21 [some (.inr a0), some (.inl a1)] [.inl s0] h := by
  exact pw_zreturn C dX3_isSunHeight_21 q1 hq
theorem dX3_isBurnt_0 : decode cX3_isBurnt 0 = .ok (.aload_n 0, 1) := by decide +kernel
theorem dX3_isBurnt_1 : decode cX3_isBurnt 1 = .ok (.iload_n 1, 1) := by decide +kernel
theorem dX3_isBurnt_2 : decode cX3_isBurnt 2 = .ok (.iload_n 3, 1) := by decide +kernel
theorem dX3_isBurnt_3 : decode cX3_isBurnt 3 = .ok (.invokevirtual 43, 3) := by decide +kernel
theorem dX3_isBurnt_6 : decode cX3_isBurnt 6 = .ok (.ifCond .eq 15, 3) := by decide +kernel
theorem dX3_isBurnt_9 : decode cX3_isBurnt 9 = .ok (.aload_n 0, 1) := by decide +kernel
theorem dX3_isBurnt_10 : decode cX3_isBurnt 10 = .ok (.iload_n 2, 1) := by decide +kernel
theorem dX3_isBurnt_11 : decode cX3_isBurnt 11 = .ok (.invokevirtual 47, 3) := by decide +kernel
theorem dX3_isBurnt_14 : decode cX3_isBurnt 14 = .ok (.ifCond .eq 7, 3) := by decide +kernel
theorem dX3_isBurnt_17 : decode cX3_isBurnt 17 = .ok (.iconst 1, 1) := by decide +kernel
theorem dX3_isBurnt_18 : decode cX3_isBurnt 18 = .ok (.goto 4, 3) := by decide +kernel
theorem dX3_isBurnt_21 : decode cX3_isBurnt 21 = .ok (.iconst 0, 1) := by decide +kernel
theorem dX3_isBurnt_22 : decode cX3_isBurnt 22 = .ok (.ireturn, 1) := by decide +kernel
set_option maxRecDepth 20000 in
theorem B_X3_isBurnt_0 {G : Gx} {X : Cx} {h : PH} {k n : Nat} {Q : State → Prop} {S : List PV} {a0 : Nat} {a1 : Int} {a2 : Int} {a3 : Int} {PQ : Option PV → PH → Prop} (C : CX_X3_isBurnt G X) (hk0 : k ≤ 0 := by decide) (hn0 : n ≤ 0 := by decide) (t1 : ph_T h a0 = 3 := by first | assumption | rfl) (hM : CT_X3_isSunSide G X.2.1 [.inr a0, .inl a1, .inl a3] h PQ) (hS : S.length ≤ 8 := by decide) (kk : ∀ r h', PQ r h' → PW G X 4 Q k n 6 [some (.inr a0), some (.inl a1), some (.inl a2), some (.inl a3)] (r.toList ++ S) h') : PW G X 4 Q k n 0 [some (.inr a0), some (.inl a1), some (.inl a2), some (.inl a3)] (S) h := by
  refine pw_aload_n C dX3_isBurnt_0 rfl ?_
  refine pw_iload_n C dX3_isBurnt_1 rfl ?_
  refine pw_iload_n C dX3_isBurnt_2 rfl ?_
  exact pw_callV C (na := 2) (As := [.inl a1, .inl a3]) (S := S) hM t1 (by decide) (hcl := by rfl) kw416 kw417 kw418 kw40 kw419 (by decide +kernel) rfl dX3_isBurnt_3 (by decide) (by decide) hk0 hn0 (by first | exact hS | (simp only [List.length_cons]; omega)) kk
set_option maxRecDepth 20000 in
theorem B_X3_isBurnt_6 {G : Gx} {X : Cx} {h : PH} {k n : Nat} {Q : State → Prop} {S : List PV} {a0 : Nat} {a1 : Int} {a2 : Int} {a3 : Int} {s0 : Int} (C : CX_X3_isBurnt G X) (q1 : pR s0 := by first | assumption | (unfold pR; omega)) (kt : s0 = 0 → PW G X 4 Q k n 21 [some (.inr a0), some (.inl a1), some (.inl a2), some (.inl a3)] (S) h) (kf : ¬ s0 = 0 → PW G X 4 Q k n 9 [some (.inr a0), some (.inl a1), some (.inl a2), some (.inl a3)] (S) h) : PW G X 4 Q k n 6 [some (.inr a0), some (.inl a1), some (.inl a2), some (.inl a3)] (.inl s0 :: S) h := by
  exact pw_if_eq C 21 dX3_isBurnt_6 (by decide) q1 kt kf
set_option maxRecDepth 20000 in
theorem B_X3_isBurnt_9 {G : Gx} {X : Cx} {h : PH} {k n : Nat} {Q : State → Prop} {S : List PV} {a0 : Nat} {a1 : Int} {a2 : Int} {a3 : Int} {PQ : Option PV → PH → Prop} (C : CX_X3_isBurnt G X) (hk0 : k ≤ 0 := by decide) (hn0 : n ≤ 0 := by decide) (t1 : ph_T h a0 = 3 := by first | assumption | rfl) (hM : CT_X3_isSunHeight G X.2.1 [.inr a0, .inl a2] h PQ) (hS : S.length ≤ 8 := by decide) (kk : ∀ r h', PQ r h' → PW G X 4 Q k n 14 [some (.inr a0), some (.inl a1), some (.inl a2), some (.inl a3)] (r.toList ++ S) h') : PW G X 4 Q k n 9 [some (.inr a0), some (.inl a1), some (.inl a2), some (.inl a3)] (S) h := by
  refine pw_aload_n C dX3_isBurnt_9 rfl ?_
  refine pw_iload_n C dX3_isBurnt_10 rfl ?_
  exact pw_callV C (na := 1) (As := [.inl a2]) (S := S) hM t1 (by decide) (hcl := by rfl) kw426 kw427 kw428 kw40 kw429 (by decide +kernel) rfl dX3_isBurnt_11 (by decide) (by decide) hk0 hn0 (by first | exact hS | (simp only [List.length_cons]; omega)) kk
set_option maxRecDepth 20000 in
theorem B_X3_isBurnt_14 {G : Gx} {X : Cx} {h : PH} {k n : Nat} {Q : State → Prop} {S : List PV} {a0 : Nat} {a1 : Int} {a2 : Int} {a3 : Int} {s0 : Int} (C : CX_X3_isBurnt G X) (q1 : pR s0 := by first | assumption | (unfold pR; omega)) (kt : s0 = 0 → PW G X 4 Q k n 21 [some (.inr a0), some (.inl a1), some (.inl a2), some (.inl a3)] (S) h) (kf : ¬ s0 = 0 → PW G X 4 Q k n 17 [some (.inr a0), some (.inl a1), some (.inl a2), some (.inl a3)] (S) h) : PW G X 4 Q k n 14 [some (.inr a0), some (.inl a1), some (.inl a2), some (.inl a3)] (.inl s0 :: S) h := by
  exact pw_if_eq C 21 dX3_isBurnt_14 (by decide) q1 kt kf
set_option maxRecDepth 20000 in
theorem B_X3_isBurnt_17 {G : Gx} {X : Cx} {h : PH} {k n : Nat} {Q : State → Prop} {S : List PV} {a0 : Nat} {a1 : Int} {a2 : Int} {a3 : Int} (C : CX_X3_isBurnt G X) (kk : PW G X 4 Q k n 22 [some (.inr a0), some (.inl a1), some (.inl a2), some (.inl a3)] (.inl 1 :: S) h) : PW G X 4 Q k n 17 [some (.inr a0), some (.inl a1), some (.inl a2), some (.inl a3)] (S) h := by
  refine pw_iconst C dX3_isBurnt_17 ?_
  refine pw_goto C 22 dX3_isBurnt_18 (by decide) ?_
  exact kk
set_option maxRecDepth 20000 in
theorem B_X3_isBurnt_21 {G : Gx} {X : Cx} {h : PH} {k n : Nat} {Q : State → Prop} {S : List PV} {a0 : Nat} {a1 : Int} {a2 : Int} {a3 : Int} (C : CX_X3_isBurnt G X) (kk : PW G X 4 Q k n 22 [some (.inr a0), some (.inl a1), some (.inl a2), some (.inl a3)] (.inl 0 :: S) h) : PW G X 4 Q k n 21 [some (.inr a0), some (.inl a1), some (.inl a2), some (.inl a3)] (S) h := by
  refine pw_iconst C dX3_isBurnt_21 ?_
  exact kk
set_option maxRecDepth 20000 in
theorem B_X3_isBurnt_22 {G : Gx} {X : Cx} {h : PH} {k n : Nat} {a0 : Nat} {a1 : Int} {a2 : Int} {a3 : Int} {s0 : Int} {PQ : Option PV → PH → Prop} (C : CX_X3_isBurnt G X) (q1 : (s0 : Int) = 0 ∨ (s0 : Int) = 1 := by omega) (hq : PQ (some (.inl s0)) h) : PW G X 4 (pw_E G X PQ k n) k n 22 [some (.inr a0), some (.inl a1), some (.inl a2), some (.inl a3)] [.inl s0] h := by
  exact pw_zreturn C dX3_isBurnt_22 q1 hq
theorem dX3_hasStorm_0 : decode cX3_hasStorm 0 = .ok (.aload_n 0, 1) := by decide +kernel
theorem dX3_hasStorm_1 : decode cX3_hasStorm 1 = .ok (.getfield 24, 3) := by decide +kernel
theorem dX3_hasStorm_4 : decode cX3_hasStorm 4 = .ok (.aload_n 0, 1) := by decide +kernel
theorem dX3_hasStorm_5 : decode cX3_hasStorm 5 = .ok (.getfield 27, 3) := by decide +kernel
theorem dX3_hasStorm_8 : decode cX3_hasStorm 8 = .ok (.if_icmp .gt 7, 3) := by decide +kernel
theorem dX3_hasStorm_11 : decode cX3_hasStorm 11 = .ok (.iconst 1, 1) := by decide +kernel
theorem dX3_hasStorm_12 : decode cX3_hasStorm 12 = .ok (.goto 4, 3) := by decide +kernel
theorem dX3_hasStorm_15 : decode cX3_hasStorm 15 = .ok (.iconst 0, 1) := by decide +kernel
theorem dX3_hasStorm_16 : decode cX3_hasStorm 16 = .ok (.ireturn, 1) := by decide +kernel
set_option maxRecDepth 20000 in
theorem B_X3_hasStorm_0 {G : Gx} {X : Cx} {h : PH} {k n : Nat} {Q : State → Prop} {S : List PV} {a0 : Nat} {x2 : Int} {x5 : Int} (C : CX_X3_hasStorm G X) (t1 : ph_T h a0 = 3 := by first | assumption | rfl) (e3 : ph_I h a0 4 = x2 := by first | assumption | rfl) (t4 : ph_T h a0 = 3 := by first | assumption | rfl) (e6 : ph_I h a0 5 = x5 := by first | assumption | rfl) (q7 : pR x2 := by first | assumption | (unfold pR; omega)) (q8 : pR x5 := by first | assumption | (unfold pR; omega)) (kt : x5 < x2 → PW G X 1 Q k n 15 [some (.inr a0)] (S) h) (kf : ¬ x5 < x2 → PW G X 1 Q k n 11 [some (.inr a0)] (S) h) : PW G X 1 Q k n 0 [some (.inr a0)] (S) h := by
  refine pw_aload_n C dX3_hasStorm_0 rfl ?_
  refine pw_getI C (t := 3) (f := 4) rfl inF3 rfl (by decide) (by decide) rfl kw80 dX3_hasStorm_1 t1 ?_
  rw [e3]
  refine pw_aload_n C dX3_hasStorm_4 rfl ?_
  refine pw_getI C (t := 3) (f := 5) rfl inF3 rfl (by decide) (by decide) rfl kw82 dX3_hasStorm_5 t4 ?_
  rw [e6]
  exact pw_icmp_gt C 15 dX3_hasStorm_8 (by decide) q7 q8 kt kf
set_option maxRecDepth 20000 in
theorem B_X3_hasStorm_11 {G : Gx} {X : Cx} {h : PH} {k n : Nat} {Q : State → Prop} {S : List PV} {a0 : Nat} (C : CX_X3_hasStorm G X) (kk : PW G X 1 Q k n 16 [some (.inr a0)] (.inl 1 :: S) h) : PW G X 1 Q k n 11 [some (.inr a0)] (S) h := by
  refine pw_iconst C dX3_hasStorm_11 ?_
  refine pw_goto C 16 dX3_hasStorm_12 (by decide) ?_
  exact kk
set_option maxRecDepth 20000 in
theorem B_X3_hasStorm_15 {G : Gx} {X : Cx} {h : PH} {k n : Nat} {Q : State → Prop} {S : List PV} {a0 : Nat} (C : CX_X3_hasStorm G X) (kk : PW G X 1 Q k n 16 [some (.inr a0)] (.inl 0 :: S) h) : PW G X 1 Q k n 15 [some (.inr a0)] (S) h := by
  refine pw_iconst C dX3_hasStorm_15 ?_
  exact kk
set_option maxRecDepth 20000 in
theorem B_X3_hasStorm_16 {G : Gx} {X : Cx} {h : PH} {k n : Nat} {a0 : Nat} {s0 : Int} {PQ : Option PV → PH → Prop} (C : CX_X3_hasStorm G X) (q1 : (s0 : Int) = 0 ∨ (s0 : Int) = 1 := by omega) (hq : PQ (some (.inl s0)) h) : PW G X 1 (pw_E G X PQ k n) k n 16 [some (.inr a0)] [.inl s0] h := by
  exact pw_zreturn C dX3_hasStorm_16 q1 hq
theorem dX3_isStormy_0 : decode cX3_isStormy 0 = .ok (.iload_n 1, 1) := by decide +kernel
theorem dX3_isStormy_1 : decode cX3_isStormy 1 = .ok (.aload_n 0, 1) := by decide +kernel
theorem dX3_isStormy_2 : decode cX3_isStormy 2 = .ok (.getfield 24, 3) := by decide +kernel
theorem dX3_isStormy_5 : decode cX3_isStormy 5 = .ok (.aload_n 0, 1) := by decide +kernel
theorem dX3_isStormy_6 : decode cX3_isStormy 6 = .ok (.getfield 27, 3) := by decide +kernel
theorem dX3_isStormy_9 : decode cX3_isStormy 9 = .ok (.invokestatic 51, 3) := by decide +kernel
theorem dX3_isStormy_12 : decode cX3_isStormy 12 = .ok (.ireturn, 1) := by decide +kernel
set_option maxRecDepth 20000 in
theorem B_X3_isStormy_0 {G : Gx} {X : Cx} {h : PH} {k n : Nat} {Q : State → Prop} {S : List PV} {a0 : Nat} {a1 : Int} {x2 : Int} {x5 : Int} {PQ : Option PV → PH → Prop} (C : CX_X3_isStormy G X) (hk0 : k ≤ 0 := by decide) (hn0 : n ≤ 0 := by decide) (t1 : ph_T h a0 = 3 := by first | assumption | rfl) (e3 : ph_I h a0 4 = x2 := by first | assumption | rfl) (t4 : ph_T h a0 = 3 := by first | assumption | rfl) (e6 : ph_I h a0 5 = x5 := by first | assumption | rfl) (hM : CT_X6_isIn G X.2.1 [.inl a1, .inl x2, .inl x5] h PQ) (hS : S.length ≤ 8 := by decide) (kk : ∀ r h', PQ r h' → PW G X 2 Q k n 12 [some (.inr a0), some (.inl a1)] (r.toList ++ S) h') : PW G X 2 Q k n 0 [some (.inr a0), some (.inl a1)] (S) h := by
  refine pw_iload_n C dX3_isStormy_0 rfl ?_
  refine pw_aload_n C dX3_isStormy_1 rfl ?_
  refine pw_getI C (t := 3) (f := 4) rfl inF3 rfl (by decide) (by decide) rfl kw80 dX3_isStormy_2 t1 ?_
  rw [e3]
  refine pw_aload_n C dX3_isStormy_5 rfl ?_
  refine pw_getI C (t := 3) (f := 5) rfl inF3 rfl (by decide) (by decide) rfl kw82 dX3_isStormy_6 t4 ?_
  rw [e6]
  exact pw_callSN C (na := 3) (As := [.inl a1, .inl x2, .inl x5]) (S := S) hM C.2.2.2.2.2.2.2.2.1.1.2.2.2.2.1 kw328 kw38 kw329 (by decide +kernel) rfl dX3_isStormy_9 (by decide) (by decide) hk0 hn0 (by first | exact hS | (simp only [List.length_cons]; omega)) kk
set_option maxRecDepth 20000 in
theorem B_X3_isStormy_12 {G : Gx} {X : Cx} {h : PH} {k n : Nat} {a0 : Nat} {a1 : Int} {s0 : Int} {PQ : Option PV → PH → Prop} (C : CX_X3_isStormy G X) (q1 : (s0 : Int) = 0 ∨ (s0 : Int) = 1 := by omega) (hq : PQ (some (.inl s0)) h) : PW G X 2 (pw_E G X PQ k n) k n 12 [some (.inr a0), some (.inl a1)] [.inl s0] h := by
  exact pw_zreturn C dX3_isStormy_12 q1 hq
theorem dX3_copyFrom_0 : decode cX3_copyFrom 0 = .ok (.aload_n 0, 1) := by decide +kernel
theorem dX3_copyFrom_1 : decode cX3_copyFrom 1 = .ok (.aload_n 1, 1) := by decide +kernel
theorem dX3_copyFrom_2 : decode cX3_copyFrom 2 = .ok (.getfield 9, 3) := by decide +kernel
theorem dX3_copyFrom_5 : decode cX3_copyFrom 5 = .ok (.aload_n 1, 1) := by decide +kernel
theorem dX3_copyFrom_6 : decode cX3_copyFrom 6 = .ok (.getfield 15, 3) := by decide +kernel
theorem dX3_copyFrom_9 : decode cX3_copyFrom 9 = .ok (.aload_n 1, 1) := by decide +kernel
theorem dX3_copyFrom_10 : decode cX3_copyFrom 10 = .ok (.getfield 18, 3) := by decide +kernel
theorem dX3_copyFrom_13 : decode cX3_copyFrom 13 = .ok (.aload_n 1, 1) := by decide +kernel
theorem dX3_copyFrom_14 : decode cX3_copyFrom 14 = .ok (.getfield 21, 3) := by decide +kernel
theorem dX3_copyFrom_17 : decode cX3_copyFrom 17 = .ok (.invokevirtual 55, 3) := by decide +kernel
theorem dX3_copyFrom_20 : decode cX3_copyFrom 20 = .ok (.aload_n 0, 1) := by decide +kernel
theorem dX3_copyFrom_21 : decode cX3_copyFrom 21 = .ok (.aload_n 1, 1) := by decide +kernel
theorem dX3_copyFrom_22 : decode cX3_copyFrom 22 = .ok (.getfield 24, 3) := by decide +kernel
theorem dX3_copyFrom_25 : decode cX3_copyFrom 25 = .ok (.putfield 24, 3) := by decide +kernel
theorem dX3_copyFrom_28 : decode cX3_copyFrom 28 = .ok (.aload_n 0, 1) := by decide +kernel
theorem dX3_copyFrom_29 : decode cX3_copyFrom 29 = .ok (.aload_n 1, 1) := by decide +kernel
theorem dX3_copyFrom_30 : decode cX3_copyFrom 30 = .ok (.getfield 27, 3) := by decide +kernel
theorem dX3_copyFrom_33 : decode cX3_copyFrom 33 = .ok (.putfield 27, 3) := by decide +kernel
theorem dX3_copyFrom_36 : decode cX3_copyFrom 36 = .ok (.aload_n 0, 1) := by decide +kernel
theorem dX3_copyFrom_37 : decode cX3_copyFrom 37 = .ok (.aload_n 1, 1) := by decide +kernel
theorem dX3_copyFrom_38 : decode cX3_copyFrom 38 = .ok (.getfield 30, 3) := by decide +kernel
theorem dX3_copyFrom_41 : decode cX3_copyFrom 41 = .ok (.putfield 30, 3) := by decide +kernel
theorem dX3_copyFrom_44 : decode cX3_copyFrom 44 = .ok (.return_, 1) := by decide +kernel
set_option maxRecDepth 20000 in
theorem B_X3_copyFrom_0 {G : Gx} {X : Cx} {h : PH} {k n : Nat} {Q : State → Prop} {S : List PV} {a0 : Nat} {a1 : Nat} {x2 : Int} {x5 : Int} {x8 : Int} {x11 : Int} {PQ : Option PV → PH → Prop} (C : CX_X3_copyFrom G X) (hk0 : k ≤ 0 := by decide) (hn0 : n ≤ 0 := by decide) (t1 : ph_T h a1 = 3 := by first | assumption | rfl) (e3 : ph_I h a1 0 = x2 := by first | assumption | rfl) (t4 : ph_T h a1 = 3 := by first | assumption | rfl) (e6 : ph_I h a1 1 = x5 := by first | assumption | rfl) (t7 : ph_T h a1 = 3 := by first | assumption | rfl) (e9 : ph_I h a1 2 = x8 := by first | assumption | rfl) (t10 : ph_T h a1 = 3 := by first | assumption | rfl) (e12 : ph_I h a1 3 = x11 := by first | assumption | rfl) (t13 : ph_T h a0 = 3 := by first | assumption | rfl) (hM : CT_X3_putSun G X.2.1 [.inr a0, .inl x2, .inl x5, .inl x8, .inl x11] h PQ) (hS : S.length ≤ 8 := by decide) (kk : ∀ r h', PQ r h' → PW G X 2 Q k n 20 [some (.inr a0), some (.inr a1)] (r.toList ++ S) h') : PW G X 2 Q k n 0 [some (.inr a0), some (.inr a1)] (S) h := by
  refine pw_aload_n C dX3_copyFrom_0 rfl ?_
  refine pw_aload_n C dX3_copyFrom_1 rfl ?_
  refine pw_getI C (t := 3) (f := 0) rfl inF3 rfl (by decide) (by decide) rfl kw73 dX3_copyFrom_2 t1 ?_
  rw [e3]
  refine pw_aload_n C dX3_copyFrom_5 rfl ?_
  refine pw_getI C (t := 3) (f := 1) rfl inF3 rfl (by decide) (by decide) rfl kw75 dX3_copyFrom_6 t4 ?_
  rw [e6]
  refine pw_aload_n C dX3_copyFrom_9 rfl ?_
  refine pw_getI C (t := 3) (f := 2) rfl inF3 rfl (by decide) (by decide) rfl kw76 dX3_copyFrom_10 t7 ?_
  rw [e9]
  refine pw_aload_n C dX3_copyFrom_13 rfl ?_
  refine pw_getI C (t := 3) (f := 3) rfl inF3 rfl (by decide) (by decide) rfl kw78 dX3_copyFrom_14 t10 ?_
  rw [e12]
  exact pw_callV C (na := 4) (As := [.inl x2, .inl x5, .inl x8, .inl x11]) (S := S) hM t13 (by decide) (hcl := by rfl) kw665 kw397 kw398 kw40 kw399 (by decide +kernel) rfl dX3_copyFrom_17 (by decide) (by decide) hk0 hn0 (by first | exact hS | (simp only [List.length_cons]; omega)) kk
set_option maxRecDepth 20000 in
theorem B_X3_copyFrom_20 {G : Gx} {X : Cx} {h : PH} {k n : Nat} {a0 : Nat} {a1 : Nat} {x2 : Int} {x6 : Int} {x10 : Int} {PQ : Option PV → PH → Prop} (C : CX_X3_copyFrom G X) (t1 : ph_T h a1 = 3 := by first | assumption | rfl) (e3 : ph_I h a1 4 = x2 := by first | assumption | rfl) (t4 : ph_T h a0 = 3 := by first | assumption | rfl) (t5 : ph_T h a1 = 3 := by first | assumption | rfl) (e7 : ph_I (ph_setI h a0 4 x2) a1 5 = x6 := by first | assumption | rfl) (t8 : ph_T h a0 = 3 := by first | assumption | rfl) (t9 : ph_T h a1 = 3 := by first | assumption | rfl) (e11 : ph_I (ph_setI (ph_setI h a0 4 x2) a0 5 x6) a1 6 = x10 := by first | assumption | rfl) (t12 : ph_T h a0 = 3 := by first | assumption | rfl) (hq : PQ none (ph_setI (ph_setI (ph_setI h a0 4 x2) a0 5 x6) a0 6 x10)) : PW G X 2 (pw_E G X PQ k n) k n 20 [some (.inr a0), some (.inr a1)] [] h := by
  refine pw_aload_n C dX3_copyFrom_20 rfl ?_
  refine pw_aload_n C dX3_copyFrom_21 rfl ?_
  refine pw_getI C (t := 3) (f := 4) rfl inF3 rfl (by decide) (by decide) rfl kw80 dX3_copyFrom_22 t1 ?_
  rw [e3]
  refine pw_putI C (t := 3) (f := 4) rfl inF3 tyX3_ok nmX3 rfl (by decide) (by decide) rfl (Or.inl rfl) (Or.inl rfl) kw80 dX3_copyFrom_25 t4 ?_
  refine pw_aload_n C dX3_copyFrom_28 rfl ?_
  refine pw_aload_n C dX3_copyFrom_29 rfl ?_
  refine pw_getI C (t := 3) (f := 5) rfl inF3 rfl (by decide) (by decide) rfl kw82 dX3_copyFrom_30 t5 ?_
  rw [show ph_I (ph_setI h a0 4 x2) a1 5 = x6 from e7]
  refine pw_putI C (t := 3) (f := 5) rfl inF3 tyX3_ok nmX3 rfl (by decide) (by decide) rfl (Or.inl rfl) (Or.inl rfl) kw82 dX3_copyFrom_33 t8 ?_
  refine pw_aload_n C dX3_copyFrom_36 rfl ?_
  refine pw_aload_n C dX3_copyFrom_37 rfl ?_
  refine pw_getI C (t := 3) (f := 6) rfl inF3 rfl (by decide) (by decide) rfl kw84 dX3_copyFrom_38 t9 ?_
  rw [show ph_I (ph_setI (ph_setI h a0 4 x2) a0 5 x6) a1 6 = x10 from e11]
  refine pw_putI C (t := 3) (f := 6) rfl inF3 tyX3_ok nmX3 rfl (by decide) (by decide) rfl (Or.inl rfl) (Or.inl rfl) kw84 dX3_copyFrom_41 t12 ?_
  exact pw_vreturn C dX3_copyFrom_44 hq
