theorem dX1_init_0 : decode cX1_init 0 = .ok (.aload_n 0, 1) := by decide +kernel
theorem dX1_init_1 : decode cX1_init 1 = .ok (.invokespecial 3, 3) := by decide +kernel
theorem dX1_init_4 : decode cX1_init 4 = .ok (.aload_n 0, 1) := by decide +kernel
theorem dX1_init_5 : decode cX1_init 5 = .ok (.iconst 0, 1) := by decide +kernel
theorem dX1_init_6 : decode cX1_init 6 = .ok (.putfield 9, 3) := by decide +kernel
theorem dX1_init_9 : decode cX1_init 9 = .ok (.aload_n 0, 1) := by decide +kernel
theorem dX1_init_10 : decode cX1_init 10 = .ok (.bipush 6, 2) := by decide +kernel
theorem dX1_init_12 : decode cX1_init 12 = .ok (.putfield 15, 3) := by decide +kernel
theorem dX1_init_15 : decode cX1_init 15 = .ok (.aload_n 0, 1) := by decide +kernel
theorem dX1_init_16 : decode cX1_init 16 = .ok (.iconst 0, 1) := by decide +kernel
theorem dX1_init_17 : decode cX1_init 17 = .ok (.putfield 18, 3) := by decide +kernel
theorem dX1_init_20 : decode cX1_init 20 = .ok (.aload_n 0, 1) := by decide +kernel
theorem dX1_init_21 : decode cX1_init 21 = .ok (.bipush 24, 2) := by decide +kernel
theorem dX1_init_23 : decode cX1_init 23 = .ok (.putfield 21, 3) := by decide +kernel
theorem dX1_init_26 : decode cX1_init 26 = .ok (.aload_n 0, 1) := by decide +kernel
theorem dX1_init_27 : decode cX1_init 27 = .ok (.iconst 1, 1) := by decide +kernel
theorem dX1_init_28 : decode cX1_init 28 = .ok (.putfield 24, 3) := by decide +kernel
theorem dX1_init_31 : decode cX1_init 31 = .ok (.return_, 1) := by decide +kernel
set_option maxRecDepth 20000 in
theorem B_X1_init_0 {G : Gx} {X : Cx} {h : PH} {k n : Nat} {a0 : Nat} {PQ : Option PV → PH → Prop} (C : CX_X1_init G X) (q1 : 2 ≤ a0 := by first | assumption | omega)  (t2 : ph_T h a0 = 1 := by first | assumption | rfl) (t3 : ph_T h a0 = 1 := by first | assumption | rfl) (t4 : ph_T h a0 = 1 := by first | assumption | rfl) (t5 : ph_T h a0 = 1 := by first | assumption | rfl) (t6 : ph_T h a0 = 1 := by first | assumption | rfl) (hq : PQ none (ph_setI (ph_setI (ph_setI (ph_setI (ph_setI h a0 0 0) a0 1 6) a0 2 0) a0 3 24) a0 4 1)) : PW G X 1 (pw_E G X PQ k n) k n 0 [some (.inr a0)] [] h := by
  refine pw_aload_n C dX1_init_0 rfl ?_
  refine pw_objInit C q1 kw149 kw55 kwObj dX1_init_1 (by decide) (Nat.le_of_ble_eq_true rfl) ?_
  refine pw_aload_n C dX1_init_4 rfl ?_
  refine pw_iconst C dX1_init_5 ?_
  refine pw_putI C (t := 1) (f := 0) rfl inF1 tyX1_ok nmX1 rfl (by decide) (by decide) rfl (Or.inl rfl) (Or.inl rfl) kw150 dX1_init_6 t2 ?_
  refine pw_aload_n C dX1_init_9 rfl ?_
  refine pw_bipush C dX1_init_10 rfl ?_
  refine pw_putI C (t := 1) (f := 1) rfl inF1 tyX1_ok nmX1 rfl (by decide) (by decide) rfl (Or.inl rfl) (Or.inl rfl) kw153 dX1_init_12 t3 ?_
  refine pw_aload_n C dX1_init_15 rfl ?_
  refine pw_iconst C dX1_init_16 ?_
  refine pw_putI C (t := 1) (f := 2) rfl inF1 tyX1_ok nmX1 rfl (by decide) (by decide) rfl (Or.inl rfl) (Or.inl rfl) kw156 dX1_init_17 t4 ?_
  refine pw_aload_n C dX1_init_20 rfl ?_
  refine pw_bipush C dX1_init_21 rfl ?_
  refine pw_putI C (t := 1) (f := 3) rfl inF1 tyX1_ok nmX1 rfl (by decide) (by decide) rfl (Or.inl rfl) (Or.inl rfl) kw159 dX1_init_23 t5 ?_
  refine pw_aload_n C dX1_init_26 rfl ?_
  refine pw_iconst C dX1_init_27 ?_
  refine pw_putI C (t := 1) (f := 4) rfl inF1 tyX1_ok nmX1 rfl (by decide) (by decide) rfl (Or.inl rfl) (Or.inl rfl) kw162 dX1_init_28 t6 ?_
  exact pw_vreturn C dX1_init_31 hq
theorem dX1_turnTo_0 : decode cX1_turnTo 0 = .ok (.aload_n 0, 1) := by decide +kernel
theorem dX1_turnTo_1 : decode cX1_turnTo 1 = .ok (.iload_n 1, 1) := by decide +kernel
theorem dX1_turnTo_2 : decode cX1_turnTo 2 = .ok (.putfield 9, 3) := by decide +kernel
theorem dX1_turnTo_5 : decode cX1_turnTo 5 = .ok (.aload_n 0, 1) := by decide +kernel
theorem dX1_turnTo_6 : decode cX1_turnTo 6 = .ok (.iload_n 2, 1) := by decide +kernel
theorem dX1_turnTo_7 : decode cX1_turnTo 7 = .ok (.putfield 15, 3) := by decide +kernel
theorem dX1_turnTo_10 : decode cX1_turnTo 10 = .ok (.aload_n 0, 1) := by decide +kernel
theorem dX1_turnTo_11 : decode cX1_turnTo 11 = .ok (.iload_n 3, 1) := by decide +kernel
theorem dX1_turnTo_12 : decode cX1_turnTo 12 = .ok (.putfield 18, 3) := by decide +kernel
theorem dX1_turnTo_15 : decode cX1_turnTo 15 = .ok (.return_, 1) := by decide +kernel
set_option maxRecDepth 20000 in
theorem B_X1_turnTo_0 {G : Gx} {X : Cx} {h : PH} {k n : Nat} {a0 : Nat} {a1 : Int} {a2 : Int} {a3 : Int} {PQ : Option PV → PH → Prop} (C : CX_X1_turnTo G X) (t1 : ph_T h a0 = 1 := by first | assumption | rfl) (t2 : ph_T h a0 = 1 := by first | assumption | rfl) (t3 : ph_T h a0 = 1 := by first | assumption | rfl) (hq : PQ none (ph_setI (ph_setI (ph_setI h a0 0 a1) a0 1 a2) a0 2 a3)) : PW G X 4 (pw_E G X PQ k n) k n 0 [some (.inr a0), some (.inl a1), some (.inl a2), some (.inl a3)] [] h := by
  refine pw_aload_n C dX1_turnTo_0 rfl ?_
  refine pw_iload_n C dX1_turnTo_1 rfl ?_
  refine pw_putI C (t := 1) (f := 0) rfl inF1 tyX1_ok nmX1 rfl (by decide) (by decide) rfl (Or.inl rfl) (Or.inl rfl) kw150 dX1_turnTo_2 t1 ?_
  refine pw_aload_n C dX1_turnTo_5 rfl ?_
  refine pw_iload_n C dX1_turnTo_6 rfl ?_
  refine pw_putI C (t := 1) (f := 1) rfl inF1 tyX1_ok nmX1 rfl (by decide) (by decide) rfl (Or.inl rfl) (Or.inl rfl) kw153 dX1_turnTo_7 t2 ?_
  refine pw_aload_n C dX1_turnTo_10 rfl ?_
  refine pw_iload_n C dX1_turnTo_11 rfl ?_
  refine pw_putI C (t := 1) (f := 2) rfl inF1 tyX1_ok nmX1 rfl (by decide) (by decide) rfl (Or.inl rfl) (Or.inl rfl) kw156 dX1_turnTo_12 t3 ?_
  exact pw_vreturn C dX1_turnTo_15 hq
theorem dX1_copyFrom_0 : decode cX1_copyFrom 0 = .ok (.aload_n 0, 1) := by decide +kernel
theorem dX1_copyFrom_1 : decode cX1_copyFrom 1 = .ok (.aload_n 1, 1) := by decide +kernel
theorem dX1_copyFrom_2 : decode cX1_copyFrom 2 = .ok (.getfield 9, 3) := by decide +kernel
theorem dX1_copyFrom_5 : decode cX1_copyFrom 5 = .ok (.aload_n 1, 1) := by decide +kernel
theorem dX1_copyFrom_6 : decode cX1_copyFrom 6 = .ok (.getfield 15, 3) := by decide +kernel
theorem dX1_copyFrom_9 : decode cX1_copyFrom 9 = .ok (.aload_n 1, 1) := by decide +kernel
theorem dX1_copyFrom_10 : decode cX1_copyFrom 10 = .ok (.getfield 18, 3) := by decide +kernel
theorem dX1_copyFrom_13 : decode cX1_copyFrom 13 = .ok (.invokevirtual 27, 3) := by decide +kernel
theorem dX1_copyFrom_16 : decode cX1_copyFrom 16 = .ok (.aload_n 0, 1) := by decide +kernel
theorem dX1_copyFrom_17 : decode cX1_copyFrom 17 = .ok (.aload_n 1, 1) := by decide +kernel
theorem dX1_copyFrom_18 : decode cX1_copyFrom 18 = .ok (.getfield 21, 3) := by decide +kernel
theorem dX1_copyFrom_21 : decode cX1_copyFrom 21 = .ok (.putfield 21, 3) := by decide +kernel
theorem dX1_copyFrom_24 : decode cX1_copyFrom 24 = .ok (.aload_n 0, 1) := by decide +kernel
theorem dX1_copyFrom_25 : decode cX1_copyFrom 25 = .ok (.aload_n 1, 1) := by decide +kernel
theorem dX1_copyFrom_26 : decode cX1_copyFrom 26 = .ok (.getfield 24, 3) := by decide +kernel
theorem dX1_copyFrom_29 : decode cX1_copyFrom 29 = .ok (.putfield 24, 3) := by decide +kernel
theorem dX1_copyFrom_32 : decode cX1_copyFrom 32 = .ok (.return_, 1) := by decide +kernel
set_option maxRecDepth 20000 in
theorem B_X1_copyFrom_0 {G : Gx} {X : Cx} {h : PH} {k n : Nat} {Q : State → Prop} {S : List PV} {a0 : Nat} {a1 : Nat} {x2 : Int} {x5 : Int} {x8 : Int} {PQ : Option PV → PH → Prop} (C : CX_X1_copyFrom G X) (hk0 : k ≤ 0 := by decide) (hn0 : n ≤ 0 := by decide) (t1 : ph_T h a1 = 1 := by first | assumption | rfl) (e3 : ph_I h a1 0 = x2 := by first | assumption | rfl) (t4 : ph_T h a1 = 1 := by first | assumption | rfl) (e6 : ph_I h a1 1 = x5 := by first | assumption | rfl) (t7 : ph_T h a1 = 1 := by first | assumption | rfl) (e9 : ph_I h a1 2 = x8 := by first | assumption | rfl) (t10 : ph_T h a0 = 1 := by first | assumption | rfl) (hM : CT_X1_turnTo G X.2.1 [.inr a0, .inl x2, .inl x5, .inl x8] h PQ) (hS : S.length ≤ 8 := by decide) (kk : ∀ r h', PQ r h' → PW G X 2 Q k n 16 [some (.inr a0), some (.inr a1)] (r.toList ++ S) h') : PW G X 2 Q k n 0 [some (.inr a0), some (.inr a1)] (S) h := by
  refine pw_aload_n C dX1_copyFrom_0 rfl ?_
  refine pw_aload_n C dX1_copyFrom_1 rfl ?_
  refine pw_getI C (t := 1) (f := 0) rfl inF1 rfl (by decide) (by decide) rfl kw150 dX1_copyFrom_2 t1 ?_
  rw [e3]
  refine pw_aload_n C dX1_copyFrom_5 rfl ?_
  refine pw_getI C (t := 1) (f := 1) rfl inF1 rfl (by decide) (by decide) rfl kw153 dX1_copyFrom_6 t4 ?_
  rw [e6]
  refine pw_aload_n C dX1_copyFrom_9 rfl ?_
  refine pw_getI C (t := 1) (f := 2) rfl inF1 rfl (by decide) (by decide) rfl kw156 dX1_copyFrom_10 t7 ?_
  rw [e9]
  exact pw_callV C (na := 3) (As := [.inl x2, .inl x5, .inl x8]) (S := S) hM t10 (by decide) (hcl := by rfl) kw660 kw382 kw383 kw42 kw384 (by decide +kernel) rfl dX1_copyFrom_13 (by decide) (by decide) hk0 hn0 (by first | exact hS | (simp only [List.length_cons]; omega)) kk
set_option maxRecDepth 20000 in
theorem B_X1_copyFrom_16 {G : Gx} {X : Cx} {h : PH} {k n : Nat} {a0 : Nat} {a1 : Nat} {x2 : Int} {x6 : Int} {PQ : Option PV → PH → Prop} (C : CX_X1_copyFrom G X) (t1 : ph_T h a1 = 1 := by first | assumption | rfl) (e3 : ph_I h a1 3 = x2 := by first | assumption | rfl) (t4 : ph_T h a0 = 1 := by first | assumption | rfl) (t5 : ph_T h a1 = 1 := by first | assumption | rfl) (e7 : ph_I (ph_setI h a0 3 x2) a1 4 = x6 := by first | assumption | rfl) (t8 : ph_T h a0 = 1 := by first | assumption | rfl) (hq : PQ none (ph_setI (ph_setI h a0 3 x2) a0 4 x6)) : PW G X 2 (pw_E G X PQ k n) k n 16 [some (.inr a0), some (.inr a1)] [] h := by
  refine pw_aload_n C dX1_copyFrom_16 rfl ?_
  refine pw_aload_n C dX1_copyFrom_17 rfl ?_
  refine pw_getI C (t := 1) (f := 3) rfl inF1 rfl (by decide) (by decide) rfl kw159 dX1_copyFrom_18 t1 ?_
  rw [e3]
  refine pw_putI C (t := 1) (f := 3) rfl inF1 tyX1_ok nmX1 rfl (by decide) (by decide) rfl (Or.inl rfl) (Or.inl rfl) kw159 dX1_copyFrom_21 t4 ?_
  refine pw_aload_n C dX1_copyFrom_24 rfl ?_
  refine pw_aload_n C dX1_copyFrom_25 rfl ?_
  refine pw_getI C (t := 1) (f := 4) rfl inF1 rfl (by decide) (by decide) rfl kw162 dX1_copyFrom_26 t5 ?_
  rw [show ph_I (ph_setI h a0 3 x2) a1 4 = x6 from e7]
  refine pw_putI C (t := 1) (f := 4) rfl inF1 tyX1_ok nmX1 rfl (by decide) (by decide) rfl (Or.inl rfl) (Or.inl rfl) kw162 dX1_copyFrom_29 t8 ?_
  exact pw_vreturn C dX1_copyFrom_32 hq
