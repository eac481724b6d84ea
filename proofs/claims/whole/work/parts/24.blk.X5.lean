theorem dX5_init_0 : decode cX5_init 0 = .ok (.aload_n 0, 1) := by decide +kernel
theorem dX5_init_1 : decode cX5_init 1 = .ok (.invokespecial 3, 3) := by decide +kernel
theorem dX5_init_4 : decode cX5_init 4 = .ok (.aload_n 0, 1) := by decide +kernel
theorem dX5_init_5 : decode cX5_init 5 = .ok (.bipush 8, 2) := by decide +kernel
theorem dX5_init_7 : decode cX5_init 7 = .ok (.anewarray 9, 3) := by decide +kernel
theorem dX5_init_10 : decode cX5_init 10 = .ok (.putfield 11, 3) := by decide +kernel
theorem dX5_init_13 : decode cX5_init 13 = .ok (.aload_n 0, 1) := by decide +kernel
theorem dX5_init_14 : decode cX5_init 14 = .ok (.iconst 4, 1) := by decide +kernel
theorem dX5_init_15 : decode cX5_init 15 = .ok (.anewarray 17, 3) := by decide +kernel
theorem dX5_init_18 : decode cX5_init 18 = .ok (.putfield 19, 3) := by decide +kernel
theorem dX5_init_21 : decode cX5_init 21 = .ok (.aload_n 0, 1) := by decide +kernel
theorem dX5_init_22 : decode cX5_init 22 = .ok (.new 23, 3) := by decide +kernel
theorem dX5_init_25 : decode cX5_init 25 = .ok (.dup, 1) := by decide +kernel
theorem dX5_init_26 : decode cX5_init 26 = .ok (.invokespecial 25, 3) := by decide +kernel
theorem dX5_init_29 : decode cX5_init 29 = .ok (.putfield 26, 3) := by decide +kernel
theorem dX5_init_32 : decode cX5_init 32 = .ok (.aload_n 0, 1) := by decide +kernel
theorem dX5_init_33 : decode cX5_init 33 = .ok (.sipush 168, 3) := by decide +kernel
theorem dX5_init_36 : decode cX5_init 36 = .ok (.newarray .int, 2) := by decide +kernel
theorem dX5_init_38 : decode cX5_init 38 = .ok (.putfield 30, 3) := by decide +kernel
theorem dX5_init_41 : decode cX5_init 41 = .ok (.aload_n 0, 1) := by decide +kernel
theorem dX5_init_42 : decode cX5_init 42 = .ok (.iconst 0, 1) := by decide +kernel
theorem dX5_init_43 : decode cX5_init 43 = .ok (.putfield 34, 3) := by decide +kernel
theorem dX5_init_46 : decode cX5_init 46 = .ok (.iconst 0, 1) := by decide +kernel
theorem dX5_init_47 : decode cX5_init 47 = .ok (.istore_n 1, 1) := by decide +kernel
theorem dX5_init_48 : decode cX5_init 48 = .ok (.iload_n 1, 1) := by decide +kernel
theorem dX5_init_49 : decode cX5_init 49 = .ok (.bipush 8, 2) := by decide +kernel
theorem dX5_init_51 : decode cX5_init 51 = .ok (.if_icmp .ge 22, 3) := by decide +kernel
theorem dX5_init_54 : decode cX5_init 54 = .ok (.aload_n 0, 1) := by decide +kernel
theorem dX5_init_55 : decode cX5_init 55 = .ok (.getfield 11, 3) := by decide +kernel
theorem dX5_init_58 : decode cX5_init 58 = .ok (.iload_n 1, 1) := by decide +kernel
theorem dX5_init_59 : decode cX5_init 59 = .ok (.new 9, 3) := by decide +kernel
theorem dX5_init_62 : decode cX5_init 62 = .ok (.dup, 1) := by decide +kernel
theorem dX5_init_63 : decode cX5_init 63 = .ok (.invokespecial 38, 3) := by decide +kernel
theorem dX5_init_66 : decode cX5_init 66 = .ok (.aastore, 1) := by decide +kernel
theorem dX5_init_67 : decode cX5_init 67 = .ok (.iinc 1 1, 3) := by decide +kernel
theorem dX5_init_70 : decode cX5_init 70 = .ok (.goto (-22), 3) := by decide +kernel
theorem dX5_init_73 : decode cX5_init 73 = .ok (.iconst 0, 1) := by decide +kernel
theorem dX5_init_74 : decode cX5_init 74 = .ok (.istore_n 1, 1) := by decide +kernel
theorem dX5_init_75 : decode cX5_init 75 = .ok (.iload_n 1, 1) := by decide +kernel
theorem dX5_init_76 : decode cX5_init 76 = .ok (.iconst 4, 1) := by decide +kernel
theorem dX5_init_77 : decode cX5_init 77 = .ok (.if_icmp .ge 22, 3) := by decide +kernel
theorem dX5_init_80 : decode cX5_init 80 = .ok (.aload_n 0, 1) := by decide +kernel
theorem dX5_init_81 : decode cX5_init 81 = .ok (.getfield 19, 3) := by decide +kernel
theorem dX5_init_84 : decode cX5_init 84 = .ok (.iload_n 1, 1) := by decide +kernel
theorem dX5_init_85 : decode cX5_init 85 = .ok (.new 17, 3) := by decide +kernel
theorem dX5_init_88 : decode cX5_init 88 = .ok (.dup, 1) := by decide +kernel
theorem dX5_init_89 : decode cX5_init 89 = .ok (.invokespecial 39, 3) := by decide +kernel
theorem dX5_init_92 : decode cX5_init 92 = .ok (.aastore, 1) := by decide +kernel
theorem dX5_init_93 : decode cX5_init 93 = .ok (.iinc 1 1, 3) := by decide +kernel
theorem dX5_init_96 : decode cX5_init 96 = .ok (.goto (-21), 3) := by decide +kernel
theorem dX5_init_99 : decode cX5_init 99 = .ok (.return_, 1) := by decide +kernel
set_option maxRecDepth 20000 in
theorem B_X5_init_0 {G : Gx} {X : Cx} {h : PH} {k n : Nat} {Q : State → Prop} {S : List PV} {a0 : Nat} (C : CX_X5_init G X) (q1 : 2 ≤ a0 := by first | assumption | omega) (hS : S.length ≤ 4 := by decide) (hk2 : k + 1 ≤ 32) (hn3 : n + 8 ≤ 519) (kk : PW G X 2 Q (k + 1) (n + 8) 10 [some (.inr a0), none] (.inr (ph_S h + 2) :: .inr a0 :: S) (ph_new h 10 8)) : PW G X 2 Q k n 0 [some (.inr a0), none] (S) h := by
  refine pw_aload_n C dX5_init_0 rfl ?_
  refine pw_objInit C q1 kw62 kw55 kwObj dX5_init_1 (by decide) (by simp only [List.length_cons]; omega) ?_
  refine pw_aload_n C dX5_init_4 rfl ?_
  refine pw_bipush C dX5_init_5 rfl ?_
  refine pw_anew C (t := 10) (by decide) rfl kw63 C.2.2.2.2.2.2.2.2.1.2.1 dX5_init_7 (by unfold pR; decide) (by decide) (by decide) hk2 hn3 ?_
  exact kk
set_option maxRecDepth 20000 in
theorem B_X5_init_10 {G : Gx} {X : Cx} {h : PH} {k n : Nat} {Q : State → Prop} {S : List PV} {a0 : Nat} {s0 : Nat} {s1 : Nat} (C : CX_X5_init G X) (t1 : ph_T h s1 = 5 := by first | assumption | rfl) (hk2 : k + 1 ≤ 32) (hn3 : n + 4 ≤ 519) (kk : PW G X 2 Q (k + 1) (n + 4) 18 [some (.inr a0), none] (.inr (ph_S (ph_setR h s1 0 s0) + 2) :: .inr a0 :: S) (ph_new (ph_setR h s1 0 s0) 11 4)) : PW G X 2 Q k n 10 [some (.inr a0), none] (.inr s0 :: .inr s1 :: S) h := by
  refine pw_putR C (t := 5) (f := 0) rfl inF5 tyX5_ok nmX5 rfl (by decide) (by decide) rfl (Or.inr ⟨rfl, rfl, rfl⟩) (Or.inr ⟨_, rfl⟩) kw176 dX5_init_10 t1 ?_
  refine pw_aload_n C dX5_init_13 rfl ?_
  refine pw_iconst C dX5_init_14 ?_
  refine pw_anew C (t := 11) (by decide) rfl kw65 C.2.2.2.2.2.2.2.2.1.2.2.1 dX5_init_15 (by unfold pR; decide) (by decide) (by decide) hk2 hn3 ?_
  exact kk
set_option maxRecDepth 20000 in
theorem B_X5_init_18 {G : Gx} {X : Cx} {h : PH} {k n : Nat} {Q : State → Prop} {S : List PV} {a0 : Nat} {s0 : Nat} {s1 : Nat} (C : CX_X5_init G X) (t1 : ph_T h s1 = 5 := by first | assumption | rfl) (hk2 : k + 1 ≤ 32) (hn3 : n + 7 ≤ 519) (kk : PW G X 2 Q (k + 1) (n + 7) 25 [some (.inr a0), none] (.inr (ph_S (ph_setR h s1 1 s0) + 2) :: .inr a0 :: S) (ph_new (ph_setR h s1 1 s0) 3 7)) : PW G X 2 Q k n 18 [some (.inr a0), none] (.inr s0 :: .inr s1 :: S) h := by
  refine pw_putR C (t := 5) (f := 1) rfl inF5 tyX5_ok nmX5 rfl (by decide) (by decide) rfl (Or.inr ⟨rfl, rfl, rfl⟩) (Or.inr ⟨_, rfl⟩) kw179 dX5_init_18 t1 ?_
  refine pw_aload_n C dX5_init_21 rfl ?_
  refine pw_new C (t := 3) rfl inF3 tyX3_ok rfl (by decide) (by decide +kernel) kw67 kw68 kw40 dX5_init_22 hk2 hn3 ?_
  exact kk
set_option maxRecDepth 20000 in
theorem B_X5_init_25 {G : Gx} {X : Cx} {h : PH} {k n : Nat} {Q : State → Prop} {S : List PV} {a0 : Nat} {s0 : Nat} {s1 : Nat} {PQ : Option PV → PH → Prop} (C : CX_X5_init G X) (hk0 : k ≤ 32 := by decide) (hn0 : n ≤ 519 := by decide) (q1 : 2 ≤ s0 := by first | assumption | omega) (hM : CT_X3_init G X.2.1 [.inr s0] h PQ) (hS : S.length ≤ 6 := by decide) (kk : ∀ r h', PQ r h' → PW G X 2 Q k n 29 [some (.inr a0), none] (r.toList ++ (.inr s0 :: .inr s1 :: S)) h') : PW G X 2 Q k n 25 [some (.inr a0), none] (.inr s0 :: .inr s1 :: S) h := by
  refine pw_dup C dX5_init_25 ?_
  exact pw_callIN C (na := 0) (As := []) (S := .inr s0 :: .inr s1 :: S) hM q1 C.2.2.2.2.2.2.2.2.1.1.1 kw70 kw40 kw71 rfl (by decide +kernel) rfl dX5_init_26 (by decide) (by decide) hk0 hn0 (by first | exact hS | (simp only [List.length_cons]; omega)) kk
set_option maxRecDepth 20000 in
theorem B_X5_init_29 {G : Gx} {X : Cx} {h : PH} {k n : Nat} {Q : State → Prop} {S : List PV} {a0 : Nat} {s0 : Nat} {s1 : Nat} (C : CX_X5_init G X) (t1 : ph_T h s1 = 5 := by first | assumption | rfl) (hk2 : k + 1 ≤ 32) (hn3 : n + 168 ≤ 519) (kk : PW G X 2 Q (k + 1) (n + 168) 38 [some (.inr a0), none] (.inr (ph_S (ph_setR h s1 2 s0) + 2) :: .inr a0 :: S) (ph_new (ph_setR h s1 2 s0) 8 168)) : PW G X 2 Q k n 29 [some (.inr a0), none] (.inr s0 :: .inr s1 :: S) h := by
  refine pw_putR C (t := 5) (f := 2) rfl inF5 tyX5_ok nmX5 rfl (by decide) (by decide) rfl (Or.inr ⟨rfl, rfl, rfl⟩) (Or.inl ⟨_, rfl⟩) kw182 dX5_init_29 t1 ?_
  refine pw_aload_n C dX5_init_32 rfl ?_
  refine pw_sipush C dX5_init_33 rfl ?_
  refine pw_newarr C (t := 8) (atype := .int) (by decide) (by decide) rfl kw144 rfl (fun U cA z => z) dX5_init_36 (by unfold pR; decide) (by decide) (by decide) hk2 hn3 ?_
  exact kk
set_option maxRecDepth 20000 in
theorem B_X5_init_38 {G : Gx} {X : Cx} {h : PH} {k n : Nat} {Q : State → Prop} {S : List PV} {a0 : Nat} {s0 : Nat} {s1 : Nat} (C : CX_X5_init G X) (t1 : ph_T h s1 = 5 := by first | assumption | rfl) (t2 : ph_T h a0 = 5 := by first | assumption | rfl) (kk : PW G X 2 Q k n 48 [some (.inr a0), some (.inl 0)] (S) (ph_setI (ph_setR h s1 3 s0) a0 4 0)) : PW G X 2 Q k n 38 [some (.inr a0), none] (.inr s0 :: .inr s1 :: S) h := by
  refine pw_putR C (t := 5) (f := 3) rfl inF5 tyX5_ok nmX5 rfl (by decide) (by decide) rfl (Or.inr ⟨rfl, rfl, rfl⟩) (Or.inr ⟨_, rfl⟩) kw185 dX5_init_38 t1 ?_
  refine pw_aload_n C dX5_init_41 rfl ?_
  refine pw_iconst C dX5_init_42 ?_
  refine pw_putI C (t := 5) (f := 4) rfl inF5 tyX5_ok nmX5 rfl (by decide) (by decide) rfl (Or.inl rfl) (Or.inl rfl) kw187 dX5_init_43 t2 ?_
  refine pw_iconst C dX5_init_46 ?_
  refine pw_istore_n C dX5_init_47 (by decide) ?_
  exact kk
set_option maxRecDepth 20000 in
theorem B_X5_init_48 {G : Gx} {X : Cx} {h : PH} {k n : Nat} {Q : State → Prop} {S : List PV} {a0 : Nat} {a1 : Int} (C : CX_X5_init G X) (q1 : pR a1 := by first | assumption | (unfold pR; omega)) (q2 : pR 8 := by first | assumption | (unfold pR; omega)) (kt : 8 ≤ a1 → PW G X 2 Q k n 73 [some (.inr a0), some (.inl a1)] (S) h) (kf : ¬ 8 ≤ a1 → PW G X 2 Q k n 54 [some (.inr a0), some (.inl a1)] (S) h) : PW G X 2 Q k n 48 [some (.inr a0), some (.inl a1)] (S) h := by
  refine pw_iload_n C dX5_init_48 rfl ?_
  refine pw_bipush C dX5_init_49 rfl ?_
  exact pw_icmp_ge C 73 dX5_init_51 (by decide) q1 q2 kt kf
set_option maxRecDepth 20000 in
theorem B_X5_init_54 {G : Gx} {X : Cx} {h : PH} {k n : Nat} {Q : State → Prop} {S : List PV} {a0 : Nat} {a1 : Int} {r2 : Nat} (C : CX_X5_init G X) (t1 : ph_T h a0 = 5 := by first | assumption | rfl) (e3 : ph_R h a0 0 = r2 := by first | assumption | rfl) (hk4 : k + 1 ≤ 32) (hn5 : n + 7 ≤ 519) (kk : PW G X 2 Q (k + 1) (n + 7) 62 [some (.inr a0), some (.inl a1)] (.inr (ph_S h + 2) :: .inl a1 :: .inr r2 :: S) (ph_new h 0 7)) : PW G X 2 Q k n 54 [some (.inr a0), some (.inl a1)] (S) h := by
  refine pw_aload_n C dX5_init_54 rfl ?_
  refine pw_getR C (t := 5) (f := 0) rfl inF5 rfl (by decide) (by decide) rfl kw176 dX5_init_55 t1 ?_
  rw [e3]
  refine pw_iload_n C dX5_init_58 rfl ?_
  refine pw_new C (t := 0) rfl inF0 tyX0_ok rfl (by decide) (by decide +kernel) kw63 kw102 kw41 dX5_init_59 hk4 hn5 ?_
  exact kk
set_option maxRecDepth 20000 in
theorem B_X5_init_62 {G : Gx} {X : Cx} {h : PH} {k n : Nat} {Q : State → Prop} {S : List PV} {a0 : Nat} {a1 : Int} {s0 : Nat} {s1 : Int} {s2 : Nat} {PQ : Option PV → PH → Prop} (C : CX_X5_init G X) (q1 : 2 ≤ s0 := by first | assumption | omega) (hM : CT_X0_init G X.2.1 [.inr s0] h PQ) (hkc : k + 2 ≤ 32) (hnc : n + 32 ≤ 519) (hS : S.length ≤ 5 := by decide) (kk : ∀ r h', PQ r h' → PW G X 2 Q (k + 2) (n + 32) 66 [some (.inr a0), some (.inl a1)] (r.toList ++ (.inr s0 :: .inl s1 :: .inr s2 :: S)) h') : PW G X 2 Q k n 62 [some (.inr a0), some (.inl a1)] (.inr s0 :: .inl s1 :: .inr s2 :: S) h := by
  refine pw_dup C dX5_init_62 ?_
  exact pw_callIN C (na := 0) (As := []) (S := .inr s0 :: .inl s1 :: .inr s2 :: S) hM q1 C.2.2.2.2.2.2.2.2.1.1.2.1 kw104 kw41 kw105 rfl (by decide +kernel) rfl dX5_init_63 (by decide) (by decide) hkc hnc (by first | exact hS | (simp only [List.length_cons]; omega)) kk
set_option maxRecDepth 20000 in
theorem B_X5_init_66 {G : Gx} {X : Cx} {h : PH} {k n : Nat} {Q : State → Prop} {S : List PV} {a0 : Nat} {a1 : Int} {s0 : Nat} {s1 : Int} {s2 : Nat} {m6 m6v : Nat} {m6r : vw_C} (C : CX_X5_init G X) (t1 : ph_T h s2 = m6 := by first | assumption | rfl) (t2 : ph_T h s0 = m6v := by first | assumption | rfl) (m6a : ¬ m6 < 10 := by decide) (m6b : m6 < 14 := by decide) (m6d : m6v < 8 := by decide) (m6e : vwCl[m6v]? = some m6r := by rfl) (m6c : (pw_tys G)[m6 - 8]? = some (G.2.2.2.2 m6, .object m6r.1) := by rfl) (q3 : (0 : Int) ≤ s1 := by first | assumption | omega) (q4 : s1 < (ph_L h s2 : Int) := by first | assumption | omega) (q5 : pR s1 := by first | assumption | (unfold pR; omega)) (kk : PW G X 2 Q k n 48 [some (.inr a0), some (.inl (a1 + 1))] (S) (ph_setR h s2 (Int.toNat s1) s0)) : PW G X 2 Q k n 66 [some (.inr a0), some (.inl a1)] (.inr s0 :: .inl s1 :: .inr s2 :: S) h := by
  refine pw_aast C (t := m6) (te := m6v) (r := m6r) dX5_init_66 t1 m6a m6b m6c t2 m6d m6e q3 q4 q5 ?_
  refine pw_iinc C dX5_init_67 rfl (by decide) ?_
  refine pw_goto C 48 dX5_init_70 (by decide) ?_
  exact kk
set_option maxRecDepth 20000 in
theorem B_X5_init_73 {G : Gx} {X : Cx} {h : PH} {k n : Nat} {Q : State → Prop} {S : List PV} {a0 : Nat} {a1 : Int} (C : CX_X5_init G X) (kk : PW G X 2 Q k n 75 [some (.inr a0), some (.inl 0)] (S) h) : PW G X 2 Q k n 73 [some (.inr a0), some (.inl a1)] (S) h := by
  refine pw_iconst C dX5_init_73 ?_
  refine pw_istore_n C dX5_init_74 (by decide) ?_
  exact kk
set_option maxRecDepth 20000 in
theorem B_X5_init_75 {G : Gx} {X : Cx} {h : PH} {k n : Nat} {Q : State → Prop} {S : List PV} {a0 : Nat} {a1 : Int} (C : CX_X5_init G X) (q1 : pR a1 := by first | assumption | (unfold pR; omega)) (q2 : pR 4 := by first | assumption | (unfold pR; omega)) (kt : 4 ≤ a1 → PW G X 2 Q k n 99 [some (.inr a0), some (.inl a1)] (S) h) (kf : ¬ 4 ≤ a1 → PW G X 2 Q k n 80 [some (.inr a0), some (.inl a1)] (S) h) : PW G X 2 Q k n 75 [some (.inr a0), some (.inl a1)] (S) h := by
  refine pw_iload_n C dX5_init_75 rfl ?_
  refine pw_iconst C dX5_init_76 ?_
  exact pw_icmp_ge C 99 dX5_init_77 (by decide) q1 q2 kt kf
set_option maxRecDepth 20000 in
theorem B_X5_init_80 {G : Gx} {X : Cx} {h : PH} {k n : Nat} {Q : State → Prop} {S : List PV} {a0 : Nat} {a1 : Int} {r2 : Nat} (C : CX_X5_init G X) (t1 : ph_T h a0 = 5 := by first | assumption | rfl) (e3 : ph_R h a0 1 = r2 := by first | assumption | rfl) (hk4 : k + 1 ≤ 32) (hn5 : n + 5 ≤ 519) (kk : PW G X 2 Q (k + 1) (n + 5) 88 [some (.inr a0), some (.inl a1)] (.inr (ph_S h + 2) :: .inl a1 :: .inr r2 :: S) (ph_new h 1 5)) : PW G X 2 Q k n 80 [some (.inr a0), some (.inl a1)] (S) h := by
  refine pw_aload_n C dX5_init_80 rfl ?_
  refine pw_getR C (t := 5) (f := 1) rfl inF5 rfl (by decide) (by decide) rfl kw179 dX5_init_81 t1 ?_
  rw [e3]
  refine pw_iload_n C dX5_init_84 rfl ?_
  refine pw_new C (t := 1) rfl inF1 tyX1_ok rfl (by decide) (by decide +kernel) kw65 kw145 kw42 dX5_init_85 hk4 hn5 ?_
  exact kk
set_option maxRecDepth 20000 in
theorem B_X5_init_88 {G : Gx} {X : Cx} {h : PH} {k n : Nat} {Q : State → Prop} {S : List PV} {a0 : Nat} {a1 : Int} {s0 : Nat} {s1 : Int} {s2 : Nat} {PQ : Option PV → PH → Prop} (C : CX_X5_init G X) (hk0 : k ≤ 32 := by decide) (hn0 : n ≤ 519 := by decide) (q1 : 2 ≤ s0 := by first | assumption | omega) (hM : CT_X1_init G X.2.1 [.inr s0] h PQ) (hS : S.length ≤ 5 := by decide) (kk : ∀ r h', PQ r h' → PW G X 2 Q k n 92 [some (.inr a0), some (.inl a1)] (r.toList ++ (.inr s0 :: .inl s1 :: .inr s2 :: S)) h') : PW G X 2 Q k n 88 [some (.inr a0), some (.inl a1)] (.inr s0 :: .inl s1 :: .inr s2 :: S) h := by
  refine pw_dup C dX5_init_88 ?_
  exact pw_callIN C (na := 0) (As := []) (S := .inr s0 :: .inl s1 :: .inr s2 :: S) hM q1 C.2.2.2.2.2.2.2.2.1.1.2.2.1 kw147 kw42 kw148 rfl (by decide +kernel) rfl dX5_init_89 (by decide) (by decide) hk0 hn0 (by first | exact hS | (simp only [List.length_cons]; omega)) kk
set_option maxRecDepth 20000 in
theorem B_X5_init_92 {G : Gx} {X : Cx} {h : PH} {k n : Nat} {Q : State → Prop} {S : List PV} {a0 : Nat} {a1 : Int} {s0 : Nat} {s1 : Int} {s2 : Nat} {m6 m6v : Nat} {m6r : vw_C} (C : CX_X5_init G X) (t1 : ph_T h s2 = m6 := by first | assumption | rfl) (t2 : ph_T h s0 = m6v := by first | assumption | rfl) (m6a : ¬ m6 < 10 := by decide) (m6b : m6 < 14 := by decide) (m6d : m6v < 8 := by decide) (m6e : vwCl[m6v]? = some m6r := by rfl) (m6c : (pw_tys G)[m6 - 8]? = some (G.2.2.2.2 m6, .object m6r.1) := by rfl) (q3 : (0 : Int) ≤ s1 := by first | assumption | omega) (q4 : s1 < (ph_L h s2 : Int) := by first | assumption | omega) (q5 : pR s1 := by first | assumption | (unfold pR; omega)) (kk : PW G X 2 Q k n 75 [some (.inr a0), some (.inl (a1 + 1))] (S) (ph_setR h s2 (Int.toNat s1) s0)) : PW G X 2 Q k n 92 [some (.inr a0), some (.inl a1)] (.inr s0 :: .inl s1 :: .inr s2 :: S) h := by
  refine pw_aast C (t := m6) (te := m6v) (r := m6r) dX5_init_92 t1 m6a m6b m6c t2 m6d m6e q3 q4 q5 ?_
  refine pw_iinc C dX5_init_93 rfl (by decide) ?_
  refine pw_goto C 75 dX5_init_96 (by decide) ?_
  exact kk
set_option maxRecDepth 20000 in
theorem B_X5_init_99 {G : Gx} {X : Cx} {h : PH} {k n : Nat} {a0 : Nat} {a1 : Int} {PQ : Option PV → PH → Prop} (C : CX_X5_init G X) (hq : PQ none h) : PW G X 2 (pw_E G X PQ k n) k n 99 [some (.inr a0), some (.inl a1)] [] h := by
  exact pw_vreturn C dX5_init_99 hq
theorem dX5_copyFrom_0 : decode cX5_copyFrom 0 = .ok (.iconst 0, 1) := by decide +kernel
theorem dX5_copyFrom_1 : decode cX5_copyFrom 1 = .ok (.istore_n 2, 1) := by decide +kernel
theorem dX5_copyFrom_2 : decode cX5_copyFrom 2 = .ok (.iload_n 2, 1) := by decide +kernel
theorem dX5_copyFrom_3 : decode cX5_copyFrom 3 = .ok (.bipush 8, 2) := by decide +kernel
theorem dX5_copyFrom_5 : decode cX5_copyFrom 5 = .ok (.if_icmp .ge 24, 3) := by decide +kernel
theorem dX5_copyFrom_8 : decode cX5_copyFrom 8 = .ok (.aload_n 0, 1) := by decide +kernel
theorem dX5_copyFrom_9 : decode cX5_copyFrom 9 = .ok (.getfield 11, 3) := by decide +kernel
theorem dX5_copyFrom_12 : decode cX5_copyFrom 12 = .ok (.iload_n 2, 1) := by decide +kernel
theorem dX5_copyFrom_13 : decode cX5_copyFrom 13 = .ok (.aaload, 1) := by decide +kernel
theorem dX5_copyFrom_14 : decode cX5_copyFrom 14 = .ok (.aload_n 1, 1) := by decide +kernel
theorem dX5_copyFrom_15 : decode cX5_copyFrom 15 = .ok (.getfield 11, 3) := by decide +kernel
theorem dX5_copyFrom_18 : decode cX5_copyFrom 18 = .ok (.iload_n 2, 1) := by decide +kernel
theorem dX5_copyFrom_19 : decode cX5_copyFrom 19 = .ok (.aaload, 1) := by decide +kernel
theorem dX5_copyFrom_20 : decode cX5_copyFrom 20 = .ok (.invokevirtual 40, 3) := by decide +kernel
theorem dX5_copyFrom_23 : decode cX5_copyFrom 23 = .ok (.iinc 2 1, 3) := by decide +kernel
theorem dX5_copyFrom_26 : decode cX5_copyFrom 26 = .ok (.goto (-24), 3) := by decide +kernel
theorem dX5_copyFrom_29 : decode cX5_copyFrom 29 = .ok (.iconst 0, 1) := by decide +kernel
theorem dX5_copyFrom_30 : decode cX5_copyFrom 30 = .ok (.istore_n 2, 1) := by decide +kernel
theorem dX5_copyFrom_31 : decode cX5_copyFrom 31 = .ok (.iload_n 2, 1) := by decide +kernel
theorem dX5_copyFrom_32 : decode cX5_copyFrom 32 = .ok (.iconst 4, 1) := by decide +kernel
theorem dX5_copyFrom_33 : decode cX5_copyFrom 33 = .ok (.if_icmp .ge 24, 3) := by decide +kernel
theorem dX5_copyFrom_36 : decode cX5_copyFrom 36 = .ok (.aload_n 0, 1) := by decide +kernel
theorem dX5_copyFrom_37 : decode cX5_copyFrom 37 = .ok (.getfield 19, 3) := by decide +kernel
theorem dX5_copyFrom_40 : decode cX5_copyFrom 40 = .ok (.iload_n 2, 1) := by decide +kernel
theorem dX5_copyFrom_41 : decode cX5_copyFrom 41 = .ok (.aaload, 1) := by decide +kernel
theorem dX5_copyFrom_42 : decode cX5_copyFrom 42 = .ok (.aload_n 1, 1) := by decide +kernel
theorem dX5_copyFrom_43 : decode cX5_copyFrom 43 = .ok (.getfield 19, 3) := by decide +kernel
theorem dX5_copyFrom_46 : decode cX5_copyFrom 46 = .ok (.iload_n 2, 1) := by decide +kernel
theorem dX5_copyFrom_47 : decode cX5_copyFrom 47 = .ok (.aaload, 1) := by decide +kernel
theorem dX5_copyFrom_48 : decode cX5_copyFrom 48 = .ok (.invokevirtual 44, 3) := by decide +kernel
theorem dX5_copyFrom_51 : decode cX5_copyFrom 51 = .ok (.iinc 2 1, 3) := by decide +kernel
theorem dX5_copyFrom_54 : decode cX5_copyFrom 54 = .ok (.goto (-23), 3) := by decide +kernel
theorem dX5_copyFrom_57 : decode cX5_copyFrom 57 = .ok (.aload_n 0, 1) := by decide +kernel
theorem dX5_copyFrom_58 : decode cX5_copyFrom 58 = .ok (.getfield 26, 3) := by decide +kernel
theorem dX5_copyFrom_61 : decode cX5_copyFrom 61 = .ok (.aload_n 1, 1) := by decide +kernel
theorem dX5_copyFrom_62 : decode cX5_copyFrom 62 = .ok (.getfield 26, 3) := by decide +kernel
theorem dX5_copyFrom_65 : decode cX5_copyFrom 65 = .ok (.invokevirtual 47, 3) := by decide +kernel
theorem dX5_copyFrom_68 : decode cX5_copyFrom 68 = .ok (.aload_n 1, 1) := by decide +kernel
theorem dX5_copyFrom_69 : decode cX5_copyFrom 69 = .ok (.getfield 30, 3) := by decide +kernel
theorem dX5_copyFrom_72 : decode cX5_copyFrom 72 = .ok (.iconst 0, 1) := by decide +kernel
theorem dX5_copyFrom_73 : decode cX5_copyFrom 73 = .ok (.aload_n 0, 1) := by decide +kernel
theorem dX5_copyFrom_74 : decode cX5_copyFrom 74 = .ok (.getfield 30, 3) := by decide +kernel
theorem dX5_copyFrom_77 : decode cX5_copyFrom 77 = .ok (.iconst 0, 1) := by decide +kernel
theorem dX5_copyFrom_78 : decode cX5_copyFrom 78 = .ok (.aload_n 0, 1) := by decide +kernel
theorem dX5_copyFrom_79 : decode cX5_copyFrom 79 = .ok (.getfield 30, 3) := by decide +kernel
theorem dX5_copyFrom_82 : decode cX5_copyFrom 82 = .ok (.arraylength, 1) := by decide +kernel
theorem dX5_copyFrom_83 : decode cX5_copyFrom 83 = .ok (.invokestatic 50, 3) := by decide +kernel
theorem dX5_copyFrom_86 : decode cX5_copyFrom 86 = .ok (.aload_n 0, 1) := by decide +kernel
theorem dX5_copyFrom_87 : decode cX5_copyFrom 87 = .ok (.aload_n 1, 1) := by decide +kernel
theorem dX5_copyFrom_88 : decode cX5_copyFrom 88 = .ok (.getfield 34, 3) := by decide +kernel
theorem dX5_copyFrom_91 : decode cX5_copyFrom 91 = .ok (.putfield 34, 3) := by decide +kernel
theorem dX5_copyFrom_94 : decode cX5_copyFrom 94 = .ok (.return_, 1) := by decide +kernel
set_option maxRecDepth 20000 in
theorem B_X5_copyFrom_0 {G : Gx} {X : Cx} {h : PH} {k n : Nat} {Q : State → Prop} {S : List PV} {a0 : Nat} {a1 : Nat} (C : CX_X5_copyFrom G X) (kk : PW G X 3 Q k n 2 [some (.inr a0), some (.inr a1), some (.inl 0)] (S) h) : PW G X 3 Q k n 0 [some (.inr a0), some (.inr a1), none] (S) h := by
  refine pw_iconst C dX5_copyFrom_0 ?_
  refine pw_istore_n C dX5_copyFrom_1 (by decide) ?_
  exact kk
set_option maxRecDepth 20000 in
theorem B_X5_copyFrom_2 {G : Gx} {X : Cx} {h : PH} {k n : Nat} {Q : State → Prop} {S : List PV} {a0 : Nat} {a1 : Nat} {a2 : Int} (C : CX_X5_copyFrom G X) (q1 : pR a2 := by first | assumption | (unfold pR; omega)) (q2 : pR 8 := by first | assumption | (unfold pR; omega)) (kt : 8 ≤ a2 → PW G X 3 Q k n 29 [some (.inr a0), some (.inr a1), some (.inl a2)] (S) h) (kf : ¬ 8 ≤ a2 → PW G X 3 Q k n 8 [some (.inr a0), some (.inr a1), some (.inl a2)] (S) h) : PW G X 3 Q k n 2 [some (.inr a0), some (.inr a1), some (.inl a2)] (S) h := by
  refine pw_iload_n C dX5_copyFrom_2 rfl ?_
  refine pw_bipush C dX5_copyFrom_3 rfl ?_
  exact pw_icmp_ge C 29 dX5_copyFrom_5 (by decide) q1 q2 kt kf
set_option maxRecDepth 20000 in
theorem B_X5_copyFrom_8 {G : Gx} {X : Cx} {h : PH} {k n : Nat} {Q : State → Prop} {S : List PV} {a0 : Nat} {a1 : Nat} {a2 : Int} {r2 : Nat} {m8 : Nat} {m8E : String} {r9 : Nat} {r12 : Nat} {m18 : Nat} {m18E : String} {r19 : Nat} {PQ : Option PV → PH → Prop} (C : CX_X5_copyFrom G X) (hk0 : k ≤ 0 := by decide) (hn0 : n ≤ 0 := by decide) (t1 : ph_T h a0 = 5 := by first | assumption | rfl) (e3 : ph_R h a0 0 = r2 := by first | assumption | rfl) (m8a : ¬ m8 < 10 := by decide) (m8b : m8 < 14 := by decide) (t4 : ph_T h r2 = m8 := by first | assumption | rfl) (m8c : (pw_tys G)[m8 - 8]? = some (G.2.2.2.2 m8, .object m8E) := by rfl) (q5 : (0 : Int) ≤ a2 := by first | assumption | omega) (q6 : a2 < (ph_L h r2 : Int) := by first | assumption | omega) (q7 : pR a2 := by first | assumption | (unfold pR; omega)) (e10 : ph_R h r2 (Int.toNat a2) = r9 := by first | assumption | rfl) (t11 : ph_T h a1 = 5 := by first | assumption | rfl) (e13 : ph_R h a1 0 = r12 := by first | assumption | rfl) (m18a : ¬ m18 < 10 := by decide) (m18b : m18 < 14 := by decide) (t14 : ph_T h r12 = m18 := by first | assumption | rfl) (m18c : (pw_tys G)[m18 - 8]? = some (G.2.2.2.2 m18, .object m18E) := by rfl) (q15 : (0 : Int) ≤ a2 := by first | assumption | omega) (q16 : a2 < (ph_L h r12 : Int) := by first | assumption | omega) (q17 : pR a2 := by first | assumption | (unfold pR; omega)) (e20 : ph_R h r12 (Int.toNat a2) = r19 := by first | assumption | rfl) (t21 : ph_T h r9 = 0 := by first | assumption | rfl) (hM : CT_X0_copyFrom G X.2.1 [.inr r9, .inr r19] h PQ) (hS : S.length ≤ 8 := by decide) (kk : ∀ r h', PQ r h' → PW G X 3 Q k n 23 [some (.inr a0), some (.inr a1), some (.inl a2)] (r.toList ++ S) h') : PW G X 3 Q k n 8 [some (.inr a0), some (.inr a1), some (.inl a2)] (S) h := by
  refine pw_aload_n C dX5_copyFrom_8 rfl ?_
  refine pw_getR C (t := 5) (f := 0) rfl inF5 rfl (by decide) (by decide) rfl kw176 dX5_copyFrom_9 t1 ?_
  rw [e3]
  refine pw_iload_n C dX5_copyFrom_12 rfl ?_
  refine pw_aald C (t := m8) dX5_copyFrom_13 t4 m8a m8b m8c q5 q6 q7 ?_
  rw [e10]
  refine pw_aload_n C dX5_copyFrom_14 rfl ?_
  refine pw_getR C (t := 5) (f := 0) rfl inF5 rfl (by decide) (by decide) rfl kw176 dX5_copyFrom_15 t11 ?_
  rw [e13]
  refine pw_iload_n C dX5_copyFrom_18 rfl ?_
  refine pw_aald C (t := m18) dX5_copyFrom_19 t14 m18a m18b m18c q15 q16 q17 ?_
  rw [e20]
  exact pw_callV C (na := 1) (As := [.inr r19]) (S := S) hM t21 (by decide) (hcl := by rfl) kw649 kw650 kw651 kw41 kw652 (by decide +kernel) rfl dX5_copyFrom_20 (by decide) (by decide) hk0 hn0 (by first | exact hS | (simp only [List.length_cons]; omega)) kk
set_option maxRecDepth 20000 in
theorem B_X5_copyFrom_23 {G : Gx} {X : Cx} {h : PH} {k n : Nat} {Q : State → Prop} {S : List PV} {a0 : Nat} {a1 : Nat} {a2 : Int} (C : CX_X5_copyFrom G X) (kk : PW G X 3 Q k n 2 [some (.inr a0), some (.inr a1), some (.inl (a2 + 1))] (S) h) : PW G X 3 Q k n 23 [some (.inr a0), some (.inr a1), some (.inl a2)] (S) h := by
  refine pw_iinc C dX5_copyFrom_23 rfl (by decide) ?_
  refine pw_goto C 2 dX5_copyFrom_26 (by decide) ?_
  exact kk
set_option maxRecDepth 20000 in
theorem B_X5_copyFrom_29 {G : Gx} {X : Cx} {h : PH} {k n : Nat} {Q : State → Prop} {S : List PV} {a0 : Nat} {a1 : Nat} {a2 : Int} (C : CX_X5_copyFrom G X) (kk : PW G X 3 Q k n 31 [some (.inr a0), some (.inr a1), some (.inl 0)] (S) h) : PW G X 3 Q k n 29 [some (.inr a0), some (.inr a1), some (.inl a2)] (S) h := by
  refine pw_iconst C dX5_copyFrom_29 ?_
  refine pw_istore_n C dX5_copyFrom_30 (by decide) ?_
  exact kk
set_option maxRecDepth 20000 in
theorem B_X5_copyFrom_31 {G : Gx} {X : Cx} {h : PH} {k n : Nat} {Q : State → Prop} {S : List PV} {a0 : Nat} {a1 : Nat} {a2 : Int} (C : CX_X5_copyFrom G X) (q1 : pR a2 := by first | assumption | (unfold pR; omega)) (q2 : pR 4 := by first | assumption | (unfold pR; omega)) (kt : 4 ≤ a2 → PW G X 3 Q k n 57 [some (.inr a0), some (.inr a1), some (.inl a2)] (S) h) (kf : ¬ 4 ≤ a2 → PW G X 3 Q k n 36 [some (.inr a0), some (.inr a1), some (.inl a2)] (S) h) : PW G X 3 Q k n 31 [some (.inr a0), some (.inr a1), some (.inl a2)] (S) h := by
  refine pw_iload_n C dX5_copyFrom_31 rfl ?_
  refine pw_iconst C dX5_copyFrom_32 ?_
  exact pw_icmp_ge C 57 dX5_copyFrom_33 (by decide) q1 q2 kt kf
set_option maxRecDepth 20000 in
theorem B_X5_copyFrom_36 {G : Gx} {X : Cx} {h : PH} {k n : Nat} {Q : State → Prop} {S : List PV} {a0 : Nat} {a1 : Nat} {a2 : Int} {r2 : Nat} {m8 : Nat} {m8E : String} {r9 : Nat} {r12 : Nat} {m18 : Nat} {m18E : String} {r19 : Nat} {PQ : Option PV → PH → Prop} (C : CX_X5_copyFrom G X) (hk0 : k ≤ 0 := by decide) (hn0 : n ≤ 0 := by decide) (t1 : ph_T h a0 = 5 := by first | assumption | rfl) (e3 : ph_R h a0 1 = r2 := by first | assumption | rfl) (m8a : ¬ m8 < 10 := by decide) (m8b : m8 < 14 := by decide) (t4 : ph_T h r2 = m8 := by first | assumption | rfl) (m8c : (pw_tys G)[m8 - 8]? = some (G.2.2.2.2 m8, .object m8E) := by rfl) (q5 : (0 : Int) ≤ a2 := by first | assumption | omega) (q6 : a2 < (ph_L h r2 : Int) := by first | assumption | omega) (q7 : pR a2 := by first | assumption | (unfold pR; omega)) (e10 : ph_R h r2 (Int.toNat a2) = r9 := by first | assumption | rfl) (t11 : ph_T h a1 = 5 := by first | assumption | rfl) (e13 : ph_R h a1 1 = r12 := by first | assumption | rfl) (m18a : ¬ m18 < 10 := by decide) (m18b : m18 < 14 := by decide) (t14 : ph_T h r12 = m18 := by first | assumption | rfl) (m18c : (pw_tys G)[m18 - 8]? = some (G.2.2.2.2 m18, .object m18E) := by rfl) (q15 : (0 : Int) ≤ a2 := by first | assumption | omega) (q16 : a2 < (ph_L h r12 : Int) := by first | assumption | omega) (q17 : pR a2 := by first | assumption | (unfold pR; omega)) (e20 : ph_R h r12 (Int.toNat a2) = r19 := by first | assumption | rfl) (t21 : ph_T h r9 = 1 := by first | assumption | rfl) (hM : CT_X1_copyFrom G X.2.1 [.inr r9, .inr r19] h PQ) (hS : S.length ≤ 8 := by decide) (kk : ∀ r h', PQ r h' → PW G X 3 Q k n 51 [some (.inr a0), some (.inr a1), some (.inl a2)] (r.toList ++ S) h') : PW G X 3 Q k n 36 [some (.inr a0), some (.inr a1), some (.inl a2)] (S) h := by
  refine pw_aload_n C dX5_copyFrom_36 rfl ?_
  refine pw_getR C (t := 5) (f := 1) rfl inF5 rfl (by decide) (by decide) rfl kw179 dX5_copyFrom_37 t1 ?_
  rw [e3]
  refine pw_iload_n C dX5_copyFrom_40 rfl ?_
  refine pw_aald C (t := m8) dX5_copyFrom_41 t4 m8a m8b m8c q5 q6 q7 ?_
  rw [e10]
  refine pw_aload_n C dX5_copyFrom_42 rfl ?_
  refine pw_getR C (t := 5) (f := 1) rfl inF5 rfl (by decide) (by decide) rfl kw179 dX5_copyFrom_43 t11 ?_
  rw [e13]
  refine pw_iload_n C dX5_copyFrom_46 rfl ?_
  refine pw_aald C (t := m18) dX5_copyFrom_47 t14 m18a m18b m18c q15 q16 q17 ?_
  rw [e20]
  exact pw_callV C (na := 1) (As := [.inr r19]) (S := S) hM t21 (by decide) (hcl := by rfl) kw656 kw657 kw658 kw42 kw659 (by decide +kernel) rfl dX5_copyFrom_48 (by decide) (by decide) hk0 hn0 (by first | exact hS | (simp only [List.length_cons]; omega)) kk
set_option maxRecDepth 20000 in
theorem B_X5_copyFrom_51 {G : Gx} {X : Cx} {h : PH} {k n : Nat} {Q : State → Prop} {S : List PV} {a0 : Nat} {a1 : Nat} {a2 : Int} (C : CX_X5_copyFrom G X) (kk : PW G X 3 Q k n 31 [some (.inr a0), some (.inr a1), some (.inl (a2 + 1))] (S) h) : PW G X 3 Q k n 51 [some (.inr a0), some (.inr a1), some (.inl a2)] (S) h := by
  refine pw_iinc C dX5_copyFrom_51 rfl (by decide) ?_
  refine pw_goto C 31 dX5_copyFrom_54 (by decide) ?_
  exact kk
set_option maxRecDepth 20000 in
theorem B_X5_copyFrom_57 {G : Gx} {X : Cx} {h : PH} {k n : Nat} {Q : State → Prop} {S : List PV} {a0 : Nat} {a1 : Nat} {a2 : Int} {r2 : Nat} {r5 : Nat} {PQ : Option PV → PH → Prop} (C : CX_X5_copyFrom G X) (hk0 : k ≤ 0 := by decide) (hn0 : n ≤ 0 := by decide) (t1 : ph_T h a0 = 5 := by first | assumption | rfl) (e3 : ph_R h a0 2 = r2 := by first | assumption | rfl) (t4 : ph_T h a1 = 5 := by first | assumption | rfl) (e6 : ph_R h a1 2 = r5 := by first | assumption | rfl) (t7 : ph_T h r2 = 3 := by first | assumption | rfl) (hM : CT_X3_copyFrom G X.2.1 [.inr r2, .inr r5] h PQ) (hS : S.length ≤ 8 := by decide) (kk : ∀ r h', PQ r h' → PW G X 3 Q k n 68 [some (.inr a0), some (.inr a1), some (.inl a2)] (r.toList ++ S) h') : PW G X 3 Q k n 57 [some (.inr a0), some (.inr a1), some (.inl a2)] (S) h := by
  refine pw_aload_n C dX5_copyFrom_57 rfl ?_
  refine pw_getR C (t := 5) (f := 2) rfl inF5 rfl (by decide) (by decide) rfl kw182 dX5_copyFrom_58 t1 ?_
  rw [e3]
  refine pw_aload_n C dX5_copyFrom_61 rfl ?_
  refine pw_getR C (t := 5) (f := 2) rfl inF5 rfl (by decide) (by decide) rfl kw182 dX5_copyFrom_62 t4 ?_
  rw [e6]
  exact pw_callV C (na := 1) (As := [.inr r5]) (S := S) hM t7 (by decide) (hcl := by rfl) kw661 kw662 kw663 kw40 kw664 (by decide +kernel) rfl dX5_copyFrom_65 (by decide) (by decide) hk0 hn0 (by first | exact hS | (simp only [List.length_cons]; omega)) kk
set_option maxRecDepth 20000 in
theorem B_X5_copyFrom_68 {G : Gx} {X : Cx} {h : PH} {k n : Nat} {a0 : Nat} {a1 : Nat} {a2 : Int} {r2 : Nat} {r5 : Nat} {r8 : Nat} {x11 : Int} {x20 : Int} {PQ : Option PV → PH → Prop} (C : CX_X5_copyFrom G X) (t1 : ph_T h a1 = 5 := by first | assumption | rfl) (e3 : ph_R h a1 3 = r2 := by first | assumption | rfl) (t4 : ph_T h a0 = 5 := by first | assumption | rfl) (e6 : ph_R h a0 3 = r5 := by first | assumption | rfl) (t7 : ph_T h a0 = 5 := by first | assumption | rfl) (e9 : ph_R h a0 3 = r8 := by first | assumption | rfl) (t10 : ph_T h r8 = 8 := by first | assumption | rfl) (e12 : (ph_L h r8 : Int) = x11 := by first | assumption | rfl) (t13 : ph_T h r2 = 8 := by first | assumption | rfl) (t14 : ph_T h r5 = 8 := by first | assumption | rfl) (q15 : pR x11 := by first | assumption | (unfold pR; omega)) (q16 : (0 : Int) ≤ x11 := by first | assumption | omega) (q17 : x11 ≤ (ph_L h r2 : Int) := by first | assumption | omega) (q18 : x11 ≤ (ph_L h r5 : Int) := by first | assumption | omega)  (t19 : ph_T h a1 = 5 := by first | assumption | rfl) (e21 : ph_I (ph_rowI h r5 (fun (j : Nat) => if (j : Int) < x11 then ph_I h r2 j else ph_I h r5 j)) a1 4 = x20 := by first | assumption | rfl) (t22 : ph_T h a0 = 5 := by first | assumption | rfl) (hq : PQ none (ph_setI (ph_rowI h r5 (fun (j : Nat) => if (j : Int) < x11 then ph_I h r2 j else ph_I h r5 j)) a0 4 x20)) : PW G X 3 (pw_E G X PQ k n) k n 68 [some (.inr a0), some (.inr a1), some (.inl a2)] [] h := by
  refine pw_aload_n C dX5_copyFrom_68 rfl ?_
  refine pw_getR C (t := 5) (f := 3) rfl inF5 rfl (by decide) (by decide) rfl kw185 dX5_copyFrom_69 t1 ?_
  rw [e3]
  refine pw_iconst C dX5_copyFrom_72 ?_
  refine pw_aload_n C dX5_copyFrom_73 rfl ?_
  refine pw_getR C (t := 5) (f := 3) rfl inF5 rfl (by decide) (by decide) rfl kw185 dX5_copyFrom_74 t4 ?_
  rw [e6]
  refine pw_iconst C dX5_copyFrom_77 ?_
  refine pw_aload_n C dX5_copyFrom_78 rfl ?_
  refine pw_getR C (t := 5) (f := 3) rfl inF5 rfl (by decide) (by decide) rfl kw185 dX5_copyFrom_79 t7 ?_
  rw [e9]
  refine pw_alen C dX5_copyFrom_82 t10 ?_
  show PW G X _ _ _ _ _ _ (.inl (ph_L h r8 : Int) :: _) _
  rw [e12]
  refine pw_copy C kw666 dX5_copyFrom_83 t13 t14 q15 q16 q17 q18 (by decide) (by show _ ≤ 61; exact Nat.le_trans (Nat.add_le_add_right (Nat.le_refl 0) _) (by decide)) ?_
  refine pw_aload_n C dX5_copyFrom_86 rfl ?_
  refine pw_aload_n C dX5_copyFrom_87 rfl ?_
  refine pw_getI C (t := 5) (f := 4) rfl inF5 rfl (by decide) (by decide) rfl kw187 dX5_copyFrom_88 t19 ?_
  rw [show ph_I (ph_rowI h r5 (fun (j : Nat) => if (j : Int) < x11 then ph_I h r2 j else ph_I h r5 j)) a1 4 = x20 from e21]
  refine pw_putI C (t := 5) (f := 4) rfl inF5 tyX5_ok nmX5 rfl (by decide) (by decide) rfl (Or.inl rfl) (Or.inl rfl) kw187 dX5_copyFrom_91 t22 ?_
  exact pw_vreturn C dX5_copyFrom_94 hq
theorem dX5_indexOf_0 : decode cX5_indexOf 0 = .ok (.iconst 0, 1) := by decide +kernel
theorem dX5_indexOf_1 : decode cX5_indexOf 1 = .ok (.istore_n 2, 1) := by decide +kernel
theorem dX5_indexOf_2 : decode cX5_indexOf 2 = .ok (.iload_n 2, 1) := by decide +kernel
theorem dX5_indexOf_3 : decode cX5_indexOf 3 = .ok (.aload_n 0, 1) := by decide +kernel
theorem dX5_indexOf_4 : decode cX5_indexOf 4 = .ok (.getfield 34, 3) := by decide +kernel
theorem dX5_indexOf_7 : decode cX5_indexOf 7 = .ok (.if_icmp .ge 24, 3) := by decide +kernel
theorem dX5_indexOf_10 : decode cX5_indexOf 10 = .ok (.aload_n 0, 1) := by decide +kernel
theorem dX5_indexOf_11 : decode cX5_indexOf 11 = .ok (.getfield 11, 3) := by decide +kernel
theorem dX5_indexOf_14 : decode cX5_indexOf 14 = .ok (.iload_n 2, 1) := by decide +kernel
theorem dX5_indexOf_15 : decode cX5_indexOf 15 = .ok (.aaload, 1) := by decide +kernel
theorem dX5_indexOf_16 : decode cX5_indexOf 16 = .ok (.getfield 56, 3) := by decide +kernel
theorem dX5_indexOf_19 : decode cX5_indexOf 19 = .ok (.iload_n 1, 1) := by decide +kernel
theorem dX5_indexOf_20 : decode cX5_indexOf 20 = .ok (.if_icmp .ne 5, 3) := by decide +kernel
theorem dX5_indexOf_23 : decode cX5_indexOf 23 = .ok (.iload_n 2, 1) := by decide +kernel
theorem dX5_indexOf_24 : decode cX5_indexOf 24 = .ok (.ireturn, 1) := by decide +kernel
theorem dX5_indexOf_25 : decode cX5_indexOf 25 = .ok (.iinc 2 1, 3) := by decide +kernel
theorem dX5_indexOf_28 : decode cX5_indexOf 28 = .ok (.goto (-26), 3) := by decide +kernel
theorem dX5_indexOf_31 : decode cX5_indexOf 31 = .ok (.iconst (-1), 1) := by decide +kernel
theorem dX5_indexOf_32 : decode cX5_indexOf 32 = .ok (.ireturn, 1) := by decide +kernel
set_option maxRecDepth 20000 in
theorem B_X5_indexOf_0 {G : Gx} {X : Cx} {h : PH} {k n : Nat} {Q : State → Prop} {S : List PV} {a0 : Nat} {a1 : Int} (C : CX_X5_indexOf G X) (kk : PW G X 3 Q k n 2 [some (.inr a0), some (.inl a1), some (.inl 0)] (S) h) : PW G X 3 Q k n 0 [some (.inr a0), some (.inl a1), none] (S) h := by
  refine pw_iconst C dX5_indexOf_0 ?_
  refine pw_istore_n C dX5_indexOf_1 (by decide) ?_
  exact kk
set_option maxRecDepth 20000 in
theorem B_X5_indexOf_2 {G : Gx} {X : Cx} {h : PH} {k n : Nat} {Q : State → Prop} {S : List PV} {a0 : Nat} {a1 : Int} {a2 : Int} {x2 : Int} (C : CX_X5_indexOf G X) (t1 : ph_T h a0 = 5 := by first | assumption | rfl) (e3 : ph_I h a0 4 = x2 := by first | assumption | rfl) (q4 : pR a2 := by first | assumption | (unfold pR; omega)) (q5 : pR x2 := by first | assumption | (unfold pR; omega)) (kt : x2 ≤ a2 → PW G X 3 Q k n 31 [some (.inr a0), some (.inl a1), some (.inl a2)] (S) h) (kf : ¬ x2 ≤ a2 → PW G X 3 Q k n 10 [some (.inr a0), some (.inl a1), some (.inl a2)] (S) h) : PW G X 3 Q k n 2 [some (.inr a0), some (.inl a1), some (.inl a2)] (S) h := by
  refine pw_iload_n C dX5_indexOf_2 rfl ?_
  refine pw_aload_n C dX5_indexOf_3 rfl ?_
  refine pw_getI C (t := 5) (f := 4) rfl inF5 rfl (by decide) (by decide) rfl kw187 dX5_indexOf_4 t1 ?_
  rw [e3]
  exact pw_icmp_ge C 31 dX5_indexOf_7 (by decide) q4 q5 kt kf
set_option maxRecDepth 20000 in
theorem B_X5_indexOf_10 {G : Gx} {X : Cx} {h : PH} {k n : Nat} {Q : State → Prop} {S : List PV} {a0 : Nat} {a1 : Int} {a2 : Int} {r2 : Nat} {m8 : Nat} {m8E : String} {r9 : Nat} {x12 : Int} (C : CX_X5_indexOf G X) (t1 : ph_T h a0 = 5 := by first | assumption | rfl) (e3 : ph_R h a0 0 = r2 := by first | assumption | rfl) (m8a : ¬ m8 < 10 := by decide) (m8b : m8 < 14 := by decide) (t4 : ph_T h r2 = m8 := by first | assumption | rfl) (m8c : (pw_tys G)[m8 - 8]? = some (G.2.2.2.2 m8, .object m8E) := by rfl) (q5 : (0 : Int) ≤ a2 := by first | assumption | omega) (q6 : a2 < (ph_L h r2 : Int) := by first | assumption | omega) (q7 : pR a2 := by first | assumption | (unfold pR; omega)) (e10 : ph_R h r2 (Int.toNat a2) = r9 := by first | assumption | rfl) (t11 : ph_T h r9 = 0 := by first | assumption | rfl) (e13 : ph_I h r9 2 = x12 := by first | assumption | rfl) (q14 : pR x12 := by first | assumption | (unfold pR; omega)) (q15 : pR a1 := by first | assumption | (unfold pR; omega)) (kt : ¬ x12 = a1 → PW G X 3 Q k n 25 [some (.inr a0), some (.inl a1), some (.inl a2)] (S) h) (kf : x12 = a1 → PW G X 3 Q k n 23 [some (.inr a0), some (.inl a1), some (.inl a2)] (S) h) : PW G X 3 Q k n 10 [some (.inr a0), some (.inl a1), some (.inl a2)] (S) h := by
  refine pw_aload_n C dX5_indexOf_10 rfl ?_
  refine pw_getR C (t := 5) (f := 0) rfl inF5 rfl (by decide) (by decide) rfl kw176 dX5_indexOf_11 t1 ?_
  rw [e3]
  refine pw_iload_n C dX5_indexOf_14 rfl ?_
  refine pw_aald C (t := m8) dX5_indexOf_15 t4 m8a m8b m8c q5 q6 q7 ?_
  rw [e10]
  refine pw_getI C (t := 0) (f := 2) rfl inF0 rfl (by decide) (by decide) rfl kw115 dX5_indexOf_16 t11 ?_
  rw [e13]
  refine pw_iload_n C dX5_indexOf_19 rfl ?_
  exact pw_icmp_ne C 25 dX5_indexOf_20 (by decide) q14 q15 kt kf
set_option maxRecDepth 20000 in
theorem B_X5_indexOf_23 {G : Gx} {X : Cx} {h : PH} {k n : Nat} {a0 : Nat} {a1 : Int} {a2 : Int} {PQ : Option PV → PH → Prop} (C : CX_X5_indexOf G X) (hq : PQ (some (.inl a2)) h) : PW G X 3 (pw_E G X PQ k n) k n 23 [some (.inr a0), some (.inl a1), some (.inl a2)] [] h := by
  refine pw_iload_n C dX5_indexOf_23 rfl ?_
  exact pw_ireturn C dX5_indexOf_24 hq
set_option maxRecDepth 20000 in
theorem B_X5_indexOf_25 {G : Gx} {X : Cx} {h : PH} {k n : Nat} {Q : State → Prop} {S : List PV} {a0 : Nat} {a1 : Int} {a2 : Int} (C : CX_X5_indexOf G X) (kk : PW G X 3 Q k n 2 [some (.inr a0), some (.inl a1), some (.inl (a2 + 1))] (S) h) : PW G X 3 Q k n 25 [some (.inr a0), some (.inl a1), some (.inl a2)] (S) h := by
  refine pw_iinc C dX5_indexOf_25 rfl (by decide) ?_
  refine pw_goto C 2 dX5_indexOf_28 (by decide) ?_
  exact kk
set_option maxRecDepth 20000 in
theorem B_X5_indexOf_31 {G : Gx} {X : Cx} {h : PH} {k n : Nat} {a0 : Nat} {a1 : Int} {a2 : Int} {PQ : Option PV → PH → Prop} (C : CX_X5_indexOf G X) (hq : PQ (some (.inl (-1))) h) : PW G X 3 (pw_E G X PQ k n) k n 31 [some (.inr a0), some (.inl a1), some (.inl a2)] [] h := by
  refine pw_iconst C dX5_indexOf_31 ?_
  exact pw_ireturn C dX5_indexOf_32 hq
theorem dX5_removeFlight_0 : decode cX5_removeFlight 0 = .ok (.aload_n 0, 1) := by decide +kernel
theorem dX5_removeFlight_1 : decode cX5_removeFlight 1 = .ok (.getfield 11, 3) := by decide +kernel
theorem dX5_removeFlight_4 : decode cX5_removeFlight 4 = .ok (.iload_n 1, 1) := by decide +kernel
theorem dX5_removeFlight_5 : decode cX5_removeFlight 5 = .ok (.aaload, 1) := by decide +kernel
theorem dX5_removeFlight_6 : decode cX5_removeFlight 6 = .ok (.astore_n 2, 1) := by decide +kernel
theorem dX5_removeFlight_7 : decode cX5_removeFlight 7 = .ok (.iload_n 1, 1) := by decide +kernel
theorem dX5_removeFlight_8 : decode cX5_removeFlight 8 = .ok (.istore_n 3, 1) := by decide +kernel
theorem dX5_removeFlight_9 : decode cX5_removeFlight 9 = .ok (.iload_n 3, 1) := by decide +kernel
theorem dX5_removeFlight_10 : decode cX5_removeFlight 10 = .ok (.aload_n 0, 1) := by decide +kernel
theorem dX5_removeFlight_11 : decode cX5_removeFlight 11 = .ok (.getfield 34, 3) := by decide +kernel
theorem dX5_removeFlight_14 : decode cX5_removeFlight 14 = .ok (.iconst 1, 1) := by decide +kernel
theorem dX5_removeFlight_15 : decode cX5_removeFlight 15 = .ok (.isub, 1) := by decide +kernel
theorem dX5_removeFlight_16 : decode cX5_removeFlight 16 = .ok (.if_icmp .ge 23, 3) := by decide +kernel
theorem dX5_removeFlight_19 : decode cX5_removeFlight 19 = .ok (.aload_n 0, 1) := by decide +kernel
theorem dX5_removeFlight_20 : decode cX5_removeFlight 20 = .ok (.getfield 11, 3) := by decide +kernel
theorem dX5_removeFlight_23 : decode cX5_removeFlight 23 = .ok (.iload_n 3, 1) := by decide +kernel
theorem dX5_removeFlight_24 : decode cX5_removeFlight 24 = .ok (.aload_n 0, 1) := by decide +kernel
theorem dX5_removeFlight_25 : decode cX5_removeFlight 25 = .ok (.getfield 11, 3) := by decide +kernel
theorem dX5_removeFlight_28 : decode cX5_removeFlight 28 = .ok (.iload_n 3, 1) := by decide +kernel
theorem dX5_removeFlight_29 : decode cX5_removeFlight 29 = .ok (.iconst 1, 1) := by decide +kernel
theorem dX5_removeFlight_30 : decode cX5_removeFlight 30 = .ok (.iadd, 1) := by decide +kernel
theorem dX5_removeFlight_31 : decode cX5_removeFlight 31 = .ok (.aaload, 1) := by decide +kernel
theorem dX5_removeFlight_32 : decode cX5_removeFlight 32 = .ok (.aastore, 1) := by decide +kernel
theorem dX5_removeFlight_33 : decode cX5_removeFlight 33 = .ok (.iinc 3 1, 3) := by decide +kernel
theorem dX5_removeFlight_36 : decode cX5_removeFlight 36 = .ok (.goto (-27), 3) := by decide +kernel
theorem dX5_removeFlight_39 : decode cX5_removeFlight 39 = .ok (.aload_n 0, 1) := by decide +kernel
theorem dX5_removeFlight_40 : decode cX5_removeFlight 40 = .ok (.dup, 1) := by decide +kernel
theorem dX5_removeFlight_41 : decode cX5_removeFlight 41 = .ok (.getfield 34, 3) := by decide +kernel
theorem dX5_removeFlight_44 : decode cX5_removeFlight 44 = .ok (.iconst 1, 1) := by decide +kernel
theorem dX5_removeFlight_45 : decode cX5_removeFlight 45 = .ok (.isub, 1) := by decide +kernel
theorem dX5_removeFlight_46 : decode cX5_removeFlight 46 = .ok (.putfield 34, 3) := by decide +kernel
theorem dX5_removeFlight_49 : decode cX5_removeFlight 49 = .ok (.aload_n 0, 1) := by decide +kernel
theorem dX5_removeFlight_50 : decode cX5_removeFlight 50 = .ok (.getfield 11, 3) := by decide +kernel
theorem dX5_removeFlight_53 : decode cX5_removeFlight 53 = .ok (.aload_n 0, 1) := by decide +kernel
theorem dX5_removeFlight_54 : decode cX5_removeFlight 54 = .ok (.getfield 34, 3) := by decide +kernel
theorem dX5_removeFlight_57 : decode cX5_removeFlight 57 = .ok (.aload_n 2, 1) := by decide +kernel
theorem dX5_removeFlight_58 : decode cX5_removeFlight 58 = .ok (.aastore, 1) := by decide +kernel
theorem dX5_removeFlight_59 : decode cX5_removeFlight 59 = .ok (.return_, 1) := by decide +kernel
set_option maxRecDepth 20000 in
theorem B_X5_removeFlight_0 {G : Gx} {X : Cx} {h : PH} {k n : Nat} {Q : State → Prop} {S : List PV} {a0 : Nat} {a1 : Int} {r2 : Nat} {m8 : Nat} {m8E : String} {r9 : Nat} (C : CX_X5_removeFlight G X) (t1 : ph_T h a0 = 5 := by first | assumption | rfl) (e3 : ph_R h a0 0 = r2 := by first | assumption | rfl) (m8a : ¬ m8 < 10 := by decide) (m8b : m8 < 14 := by decide) (t4 : ph_T h r2 = m8 := by first | assumption | rfl) (m8c : (pw_tys G)[m8 - 8]? = some (G.2.2.2.2 m8, .object m8E) := by rfl) (q5 : (0 : Int) ≤ a1 := by first | assumption | omega) (q6 : a1 < (ph_L h r2 : Int) := by first | assumption | omega) (q7 : pR a1 := by first | assumption | (unfold pR; omega)) (e10 : ph_R h r2 (Int.toNat a1) = r9 := by first | assumption | rfl) (q11 : 2 ≤ r9 := by first | assumption | omega) (kk : PW G X 4 Q k n 9 [some (.inr a0), some (.inl a1), some (.inr r9), some (.inl a1)] (S) h) : PW G X 4 Q k n 0 [some (.inr a0), some (.inl a1), none, none] (S) h := by
  refine pw_aload_n C dX5_removeFlight_0 rfl ?_
  refine pw_getR C (t := 5) (f := 0) rfl inF5 rfl (by decide) (by decide) rfl kw176 dX5_removeFlight_1 t1 ?_
  rw [e3]
  refine pw_iload_n C dX5_removeFlight_4 rfl ?_
  refine pw_aald C (t := m8) dX5_removeFlight_5 t4 m8a m8b m8c q5 q6 q7 ?_
  rw [e10]
  refine pw_astore_n C dX5_removeFlight_6 (by decide) q11 ?_
  refine pw_iload_n C dX5_removeFlight_7 rfl ?_
  refine pw_istore_n C dX5_removeFlight_8 (by decide) ?_
  exact kk
set_option maxRecDepth 20000 in
theorem B_X5_removeFlight_9 {G : Gx} {X : Cx} {h : PH} {k n : Nat} {Q : State → Prop} {S : List PV} {a0 : Nat} {a1 : Int} {a2 : Nat} {a3 : Int} {x2 : Int} (C : CX_X5_removeFlight G X) (t1 : ph_T h a0 = 5 := by first | assumption | rfl) (e3 : ph_I h a0 4 = x2 := by first | assumption | rfl) (q4 : pR a3 := by first | assumption | (unfold pR; omega)) (q5 : pR (x2 - 1) := by first | assumption | (unfold pR; omega)) (kt : x2 - 1 ≤ a3 → PW G X 4 Q k n 39 [some (.inr a0), some (.inl a1), some (.inr a2), some (.inl a3)] (S) h) (kf : ¬ x2 - 1 ≤ a3 → PW G X 4 Q k n 19 [some (.inr a0), some (.inl a1), some (.inr a2), some (.inl a3)] (S) h) : PW G X 4 Q k n 9 [some (.inr a0), some (.inl a1), some (.inr a2), some (.inl a3)] (S) h := by
  refine pw_iload_n C dX5_removeFlight_9 rfl ?_
  refine pw_aload_n C dX5_removeFlight_10 rfl ?_
  refine pw_getI C (t := 5) (f := 4) rfl inF5 rfl (by decide) (by decide) rfl kw187 dX5_removeFlight_11 t1 ?_
  rw [e3]
  refine pw_iconst C dX5_removeFlight_14 ?_
  refine pw_isub C dX5_removeFlight_15 ?_
  exact pw_icmp_ge C 39 dX5_removeFlight_16 (by decide) q4 q5 kt kf
set_option maxRecDepth 20000 in
theorem B_X5_removeFlight_19 {G : Gx} {X : Cx} {h : PH} {k n : Nat} {Q : State → Prop} {S : List PV} {a0 : Nat} {a1 : Int} {a2 : Nat} {a3 : Int} {r2 : Nat} {r5 : Nat} {m11 : Nat} {m11E : String} {r12 : Nat} {m19 m19v : Nat} {m19r : vw_C} (C : CX_X5_removeFlight G X) (t1 : ph_T h a0 = 5 := by first | assumption | rfl) (e3 : ph_R h a0 0 = r2 := by first | assumption | rfl) (t4 : ph_T h a0 = 5 := by first | assumption | rfl) (e6 : ph_R h a0 0 = r5 := by first | assumption | rfl) (m11a : ¬ m11 < 10 := by decide) (m11b : m11 < 14 := by decide) (t7 : ph_T h r5 = m11 := by first | assumption | rfl) (m11c : (pw_tys G)[m11 - 8]? = some (G.2.2.2.2 m11, .object m11E) := by rfl) (q8 : (0 : Int) ≤ a3 + 1 := by first | assumption | omega) (q9 : a3 + 1 < (ph_L h r5 : Int) := by first | assumption | omega) (q10 : pR (a3 + 1) := by first | assumption | (unfold pR; omega)) (e13 : ph_R h r5 (Int.toNat (a3 + 1)) = r12 := by first | assumption | rfl) (t14 : ph_T h r2 = m19 := by first | assumption | rfl) (t15 : ph_T h r12 = m19v := by first | assumption | rfl) (m19a : ¬ m19 < 10 := by decide) (m19b : m19 < 14 := by decide) (m19d : m19v < 8 := by decide) (m19e : vwCl[m19v]? = some m19r := by rfl) (m19c : (pw_tys G)[m19 - 8]? = some (G.2.2.2.2 m19, .object m19r.1) := by rfl) (q16 : (0 : Int) ≤ a3 := by first | assumption | omega) (q17 : a3 < (ph_L h r2 : Int) := by first | assumption | omega) (q18 : pR a3 := by first | assumption | (unfold pR; omega)) (kk : PW G X 4 Q k n 9 [some (.inr a0), some (.inl a1), some (.inr a2), some (.inl (a3 + 1))] (S) (ph_setR h r2 (Int.toNat a3) r12)) : PW G X 4 Q k n 19 [some (.inr a0), some (.inl a1), some (.inr a2), some (.inl a3)] (S) h := by
  refine pw_aload_n C dX5_removeFlight_19 rfl ?_
  refine pw_getR C (t := 5) (f := 0) rfl inF5 rfl (by decide) (by decide) rfl kw176 dX5_removeFlight_20 t1 ?_
  rw [e3]
  refine pw_iload_n C dX5_removeFlight_23 rfl ?_
  refine pw_aload_n C dX5_removeFlight_24 rfl ?_
  refine pw_getR C (t := 5) (f := 0) rfl inF5 rfl (by decide) (by decide) rfl kw176 dX5_removeFlight_25 t4 ?_
  rw [e6]
  refine pw_iload_n C dX5_removeFlight_28 rfl ?_
  refine pw_iconst C dX5_removeFlight_29 ?_
  refine pw_iadd C dX5_removeFlight_30 ?_
  refine pw_aald C (t := m11) dX5_removeFlight_31 t7 m11a m11b m11c q8 q9 q10 ?_
  rw [e13]
  refine pw_aast C (t := m19) (te := m19v) (r := m19r) dX5_removeFlight_32 t14 m19a m19b m19c t15 m19d m19e q16 q17 q18 ?_
  refine pw_iinc C dX5_removeFlight_33 rfl (by decide) ?_
  refine pw_goto C 9 dX5_removeFlight_36 (by decide) ?_
  exact kk
set_option maxRecDepth 20000 in
theorem B_X5_removeFlight_39 {G : Gx} {X : Cx} {h : PH} {k n : Nat} {a0 : Nat} {a1 : Int} {a2 : Nat} {a3 : Int} {x2 : Int} {r6 : Nat} {x9 : Int} {m16 m16v : Nat} {m16r : vw_C} {PQ : Option PV → PH → Prop} (C : CX_X5_removeFlight G X) (t1 : ph_T h a0 = 5 := by first | assumption | rfl) (e3 : ph_I h a0 4 = x2 := by first | assumption | rfl) (t4 : ph_T h a0 = 5 := by first | assumption | rfl) (t5 : ph_T h a0 = 5 := by first | assumption | rfl) (e7 : ph_R h a0 0 = r6 := by first | assumption | rfl) (t8 : ph_T h a0 = 5 := by first | assumption | rfl) (e10 : ph_I (ph_setI h a0 4 (x2 - 1)) a0 4 = x9 := by first | assumption | rfl) (t11 : ph_T h r6 = m16 := by first | assumption | rfl) (t12 : ph_T h a2 = m16v := by first | assumption | rfl) (m16a : ¬ m16 < 10 := by decide) (m16b : m16 < 14 := by decide) (m16d : m16v < 8 := by decide) (m16e : vwCl[m16v]? = some m16r := by rfl) (m16c : (pw_tys G)[m16 - 8]? = some (G.2.2.2.2 m16, .object m16r.1) := by rfl) (q13 : (0 : Int) ≤ x9 := by first | assumption | omega) (q14 : x9 < (ph_L h r6 : Int) := by first | assumption | omega) (q15 : pR x9 := by first | assumption | (unfold pR; omega)) (hq : PQ none (ph_setR (ph_setI h a0 4 (x2 - 1)) r6 (Int.toNat x9) a2)) : PW G X 4 (pw_E G X PQ k n) k n 39 [some (.inr a0), some (.inl a1), some (.inr a2), some (.inl a3)] [] h := by
  refine pw_aload_n C dX5_removeFlight_39 rfl ?_
  refine pw_dup C dX5_removeFlight_40 ?_
  refine pw_getI C (t := 5) (f := 4) rfl inF5 rfl (by decide) (by decide) rfl kw187 dX5_removeFlight_41 t1 ?_
  rw [e3]
  refine pw_iconst C dX5_removeFlight_44 ?_
  refine pw_isub C dX5_removeFlight_45 ?_
  refine pw_putI C (t := 5) (f := 4) rfl inF5 tyX5_ok nmX5 rfl (by decide) (by decide) rfl (Or.inl rfl) (Or.inl rfl) kw187 dX5_removeFlight_46 t4 ?_
  refine pw_aload_n C dX5_removeFlight_49 rfl ?_
  refine pw_getR C (t := 5) (f := 0) rfl inF5 rfl (by decide) (by decide) rfl kw176 dX5_removeFlight_50 t5 ?_
  rw [show ph_R (ph_setI h a0 4 (x2 - 1)) a0 0 = r6 from e7]
  refine pw_aload_n C dX5_removeFlight_53 rfl ?_
  refine pw_getI C (t := 5) (f := 4) rfl inF5 rfl (by decide) (by decide) rfl kw187 dX5_removeFlight_54 t8 ?_
  rw [show ph_I (ph_setI h a0 4 (x2 - 1)) a0 4 = x9 from e10]
  refine pw_aload_n C dX5_removeFlight_57 rfl ?_
  refine pw_aast C (t := m16) (te := m16v) (r := m16r) dX5_removeFlight_58 t11 m16a m16b m16c t12 m16d m16e q13 q14 q15 ?_
  exact pw_vreturn C dX5_removeFlight_59 hq
theorem dX5_nextOpen_0 : decode cX5_nextOpen 0 = .ok (.iconst (-1), 1) := by decide +kernel
theorem dX5_nextOpen_1 : decode cX5_nextOpen 1 = .ok (.istore_n 2, 1) := by decide +kernel
theorem dX5_nextOpen_2 : decode cX5_nextOpen 2 = .ok (.iconst 0, 1) := by decide +kernel
theorem dX5_nextOpen_3 : decode cX5_nextOpen 3 = .ok (.istore_n 3, 1) := by decide +kernel
theorem dX5_nextOpen_4 : decode cX5_nextOpen 4 = .ok (.iload_n 3, 1) := by decide +kernel
theorem dX5_nextOpen_5 : decode cX5_nextOpen 5 = .ok (.aload_n 0, 1) := by decide +kernel
theorem dX5_nextOpen_6 : decode cX5_nextOpen 6 = .ok (.getfield 34, 3) := by decide +kernel
theorem dX5_nextOpen_9 : decode cX5_nextOpen 9 = .ok (.if_icmp .ge 68, 3) := by decide +kernel
theorem dX5_nextOpen_12 : decode cX5_nextOpen 12 = .ok (.aload_n 0, 1) := by decide +kernel
theorem dX5_nextOpen_13 : decode cX5_nextOpen 13 = .ok (.getfield 11, 3) := by decide +kernel
theorem dX5_nextOpen_16 : decode cX5_nextOpen 16 = .ok (.iload_n 3, 1) := by decide +kernel
theorem dX5_nextOpen_17 : decode cX5_nextOpen 17 = .ok (.aaload, 1) := by decide +kernel
theorem dX5_nextOpen_18 : decode cX5_nextOpen 18 = .ok (.invokevirtual 59, 3) := by decide +kernel
theorem dX5_nextOpen_21 : decode cX5_nextOpen 21 = .ok (.ifCond .eq 15, 3) := by decide +kernel
theorem dX5_nextOpen_24 : decode cX5_nextOpen 24 = .ok (.iload_n 1, 1) := by decide +kernel
theorem dX5_nextOpen_25 : decode cX5_nextOpen 25 = .ok (.iload_n 3, 1) := by decide +kernel
theorem dX5_nextOpen_26 : decode cX5_nextOpen 26 = .ok (.ishr, 1) := by decide +kernel
theorem dX5_nextOpen_27 : decode cX5_nextOpen 27 = .ok (.iconst 1, 1) := by decide +kernel
theorem dX5_nextOpen_28 : decode cX5_nextOpen 28 = .ok (.iand, 1) := by decide +kernel
theorem dX5_nextOpen_29 : decode cX5_nextOpen 29 = .ok (.ifCond .ne 7, 3) := by decide +kernel
theorem dX5_nextOpen_32 : decode cX5_nextOpen 32 = .ok (.iconst 1, 1) := by decide +kernel
theorem dX5_nextOpen_33 : decode cX5_nextOpen 33 = .ok (.goto 4, 3) := by decide +kernel
theorem dX5_nextOpen_36 : decode cX5_nextOpen 36 = .ok (.iconst 0, 1) := by decide +kernel
theorem dX5_nextOpen_37 : decode cX5_nextOpen 37 = .ok (.istore 4, 2) := by decide +kernel
theorem dX5_nextOpen_39 : decode cX5_nextOpen 39 = .ok (.iload 4, 2) := by decide +kernel
theorem dX5_nextOpen_41 : decode cX5_nextOpen 41 = .ok (.ifCond .eq 30, 3) := by decide +kernel
theorem dX5_nextOpen_44 : decode cX5_nextOpen 44 = .ok (.iload_n 2, 1) := by decide +kernel
theorem dX5_nextOpen_45 : decode cX5_nextOpen 45 = .ok (.ifCond .lt 24, 3) := by decide +kernel
theorem dX5_nextOpen_48 : decode cX5_nextOpen 48 = .ok (.aload_n 0, 1) := by decide +kernel
theorem dX5_nextOpen_49 : decode cX5_nextOpen 49 = .ok (.getfield 11, 3) := by decide +kernel
theorem dX5_nextOpen_52 : decode cX5_nextOpen 52 = .ok (.iload_n 3, 1) := by decide +kernel
theorem dX5_nextOpen_53 : decode cX5_nextOpen 53 = .ok (.aaload, 1) := by decide +kernel
theorem dX5_nextOpen_54 : decode cX5_nextOpen 54 = .ok (.getfield 63, 3) := by decide +kernel
theorem dX5_nextOpen_57 : decode cX5_nextOpen 57 = .ok (.aload_n 0, 1) := by decide +kernel
theorem dX5_nextOpen_58 : decode cX5_nextOpen 58 = .ok (.getfield 11, 3) := by decide +kernel
theorem dX5_nextOpen_61 : decode cX5_nextOpen 61 = .ok (.iload_n 2, 1) := by decide +kernel
theorem dX5_nextOpen_62 : decode cX5_nextOpen 62 = .ok (.aaload, 1) := by decide +kernel
theorem dX5_nextOpen_63 : decode cX5_nextOpen 63 = .ok (.getfield 63, 3) := by decide +kernel
theorem dX5_nextOpen_66 : decode cX5_nextOpen 66 = .ok (.if_icmp .ge 5, 3) := by decide +kernel
theorem dX5_nextOpen_69 : decode cX5_nextOpen 69 = .ok (.iload_n 3, 1) := by decide +kernel
theorem dX5_nextOpen_70 : decode cX5_nextOpen 70 = .ok (.istore_n 2, 1) := by decide +kernel
theorem dX5_nextOpen_71 : decode cX5_nextOpen 71 = .ok (.iinc 3 1, 3) := by decide +kernel
theorem dX5_nextOpen_74 : decode cX5_nextOpen 74 = .ok (.goto (-70), 3) := by decide +kernel
theorem dX5_nextOpen_77 : decode cX5_nextOpen 77 = .ok (.iload_n 2, 1) := by decide +kernel
theorem dX5_nextOpen_78 : decode cX5_nextOpen 78 = .ok (.ireturn, 1) := by decide +kernel
set_option maxRecDepth 20000 in
theorem B_X5_nextOpen_0 {G : Gx} {X : Cx} {h : PH} {k n : Nat} {Q : State → Prop} {S : List PV} {a0 : Nat} {a1 : Int} (C : CX_X5_nextOpen G X) (kk : PW G X 5 Q k n 4 [some (.inr a0), some (.inl a1), some (.inl (-1)), some (.inl 0), none] (S) h) : PW G X 5 Q k n 0 [some (.inr a0), some (.inl a1), none, none, none] (S) h := by
  refine pw_iconst C dX5_nextOpen_0 ?_
  refine pw_istore_n C dX5_nextOpen_1 (by decide) ?_
  refine pw_iconst C dX5_nextOpen_2 ?_
  refine pw_istore_n C dX5_nextOpen_3 (by decide) ?_
  exact kk
set_option maxRecDepth 20000 in
theorem B_X5_nextOpen_4 {G : Gx} {X : Cx} {h : PH} {k n : Nat} {Q : State → Prop} {S : List PV} {a0 : Nat} {a1 : Int} {a2 : Int} {a3 : Int} {x2 : Int} (C : CX_X5_nextOpen G X) (t1 : ph_T h a0 = 5 := by first | assumption | rfl) (e3 : ph_I h a0 4 = x2 := by first | assumption | rfl) (q4 : pR a3 := by first | assumption | (unfold pR; omega)) (q5 : pR x2 := by first | assumption | (unfold pR; omega)) (kt : x2 ≤ a3 → PW G X 5 Q k n 77 [some (.inr a0), some (.inl a1), some (.inl a2), some (.inl a3), none] (S) h) (kf : ¬ x2 ≤ a3 → PW G X 5 Q k n 12 [some (.inr a0), some (.inl a1), some (.inl a2), some (.inl a3), none] (S) h) : PW G X 5 Q k n 4 [some (.inr a0), some (.inl a1), some (.inl a2), some (.inl a3), none] (S) h := by
  refine pw_iload_n C dX5_nextOpen_4 rfl ?_
  refine pw_aload_n C dX5_nextOpen_5 rfl ?_
  refine pw_getI C (t := 5) (f := 4) rfl inF5 rfl (by decide) (by decide) rfl kw187 dX5_nextOpen_6 t1 ?_
  rw [e3]
  exact pw_icmp_ge C 77 dX5_nextOpen_9 (by decide) q4 q5 kt kf
set_option maxRecDepth 20000 in
theorem B_X5_nextOpen_12 {G : Gx} {X : Cx} {h : PH} {k n : Nat} {Q : State → Prop} {S : List PV} {a0 : Nat} {a1 : Int} {a2 : Int} {a3 : Int} {r2 : Nat} {m8 : Nat} {m8E : String} {r9 : Nat} {PQ : Option PV → PH → Prop} (C : CX_X5_nextOpen G X) (hk0 : k ≤ 0 := by decide) (hn0 : n ≤ 0 := by decide) (t1 : ph_T h a0 = 5 := by first | assumption | rfl) (e3 : ph_R h a0 0 = r2 := by first | assumption | rfl) (m8a : ¬ m8 < 10 := by decide) (m8b : m8 < 14 := by decide) (t4 : ph_T h r2 = m8 := by first | assumption | rfl) (m8c : (pw_tys G)[m8 - 8]? = some (G.2.2.2.2 m8, .object m8E) := by rfl) (q5 : (0 : Int) ≤ a3 := by first | assumption | omega) (q6 : a3 < (ph_L h r2 : Int) := by first | assumption | omega) (q7 : pR a3 := by first | assumption | (unfold pR; omega)) (e10 : ph_R h r2 (Int.toNat a3) = r9 := by first | assumption | rfl) (t11 : ph_T h r9 = 0 := by first | assumption | rfl) (hM : CT_X0_isOpen G X.2.1 [.inr r9] h PQ) (hS : S.length ≤ 8 := by decide) (kk : ∀ r h', PQ r h' → PW G X 5 Q k n 21 [some (.inr a0), some (.inl a1), some (.inl a2), some (.inl a3), none] (r.toList ++ S) h') : PW G X 5 Q k n 12 [some (.inr a0), some (.inl a1), some (.inl a2), some (.inl a3), none] (S) h := by
  refine pw_aload_n C dX5_nextOpen_12 rfl ?_
  refine pw_getR C (t := 5) (f := 0) rfl inF5 rfl (by decide) (by decide) rfl kw176 dX5_nextOpen_13 t1 ?_
  rw [e3]
  refine pw_iload_n C dX5_nextOpen_16 rfl ?_
  refine pw_aald C (t := m8) dX5_nextOpen_17 t4 m8a m8b m8c q5 q6 q7 ?_
  rw [e10]
  exact pw_callV C (na := 0) (As := []) (S := S) hM t11 (by decide) (hcl := by rfl) kw611 kw450 kw451 kw41 kw452 (by decide +kernel) rfl dX5_nextOpen_18 (by decide) (by decide) hk0 hn0 (by first | exact hS | (simp only [List.length_cons]; omega)) kk
set_option maxRecDepth 20000 in
theorem B_X5_nextOpen_21 {G : Gx} {X : Cx} {h : PH} {k n : Nat} {Q : State → Prop} {S : List PV} {a0 : Nat} {a1 : Int} {a2 : Int} {a3 : Int} {s0 : Int} (C : CX_X5_nextOpen G X) (q1 : pR s0 := by first | assumption | (unfold pR; omega)) (kt : s0 = 0 → PW G X 5 Q k n 36 [some (.inr a0), some (.inl a1), some (.inl a2), some (.inl a3), none] (S) h) (kf : ¬ s0 = 0 → PW G X 5 Q k n 24 [some (.inr a0), some (.inl a1), some (.inl a2), some (.inl a3), none] (S) h) : PW G X 5 Q k n 21 [some (.inr a0), some (.inl a1), some (.inl a2), some (.inl a3), none] (.inl s0 :: S) h := by
  exact pw_if_eq C 36 dX5_nextOpen_21 (by decide) q1 kt kf
set_option maxRecDepth 20000 in
theorem B_X5_nextOpen_24 {G : Gx} {X : Cx} {h : PH} {k n : Nat} {Q : State → Prop} {S : List PV} {a0 : Nat} {a1 : Int} {a2 : Int} {a3 : Int} (C : CX_X5_nextOpen G X) (q1 : pR ((zI ((zI a1 >>> (zI a3 &&& 31)).toInt) &&& zI 1).toInt) := by first | assumption | (unfold pR; omega)) (kt : ¬ (zI ((zI a1 >>> (zI a3 &&& 31)).toInt) &&& zI 1).toInt = 0 → PW G X 5 Q k n 36 [some (.inr a0), some (.inl a1), some (.inl a2), some (.inl a3), none] (S) h) (kf : (zI ((zI a1 >>> (zI a3 &&& 31)).toInt) &&& zI 1).toInt = 0 → PW G X 5 Q k n 32 [some (.inr a0), some (.inl a1), some (.inl a2), some (.inl a3), none] (S) h) : PW G X 5 Q k n 24 [some (.inr a0), some (.inl a1), some (.inl a2), some (.inl a3), none] (S) h := by
  refine pw_iload_n C dX5_nextOpen_24 rfl ?_
  refine pw_iload_n C dX5_nextOpen_25 rfl ?_
  refine pw_ishr C dX5_nextOpen_26 ?_
  refine pw_iconst C dX5_nextOpen_27 ?_
  refine pw_iand C dX5_nextOpen_28 ?_
  exact pw_if_ne C 36 dX5_nextOpen_29 (by decide) q1 kt kf
set_option maxRecDepth 20000 in
theorem B_X5_nextOpen_32 {G : Gx} {X : Cx} {h : PH} {k n : Nat} {Q : State → Prop} {S : List PV} {a0 : Nat} {a1 : Int} {a2 : Int} {a3 : Int} (C : CX_X5_nextOpen G X) (kk : PW G X 5 Q k n 37 [some (.inr a0), some (.inl a1), some (.inl a2), some (.inl a3), none] (.inl 1 :: S) h) : PW G X 5 Q k n 32 [some (.inr a0), some (.inl a1), some (.inl a2), some (.inl a3), none] (S) h := by
  refine pw_iconst C dX5_nextOpen_32 ?_
  refine pw_goto C 37 dX5_nextOpen_33 (by decide) ?_
  exact kk
set_option maxRecDepth 20000 in
theorem B_X5_nextOpen_36 {G : Gx} {X : Cx} {h : PH} {k n : Nat} {Q : State → Prop} {S : List PV} {a0 : Nat} {a1 : Int} {a2 : Int} {a3 : Int} (C : CX_X5_nextOpen G X) (kk : PW G X 5 Q k n 37 [some (.inr a0), some (.inl a1), some (.inl a2), some (.inl a3), none] (.inl 0 :: S) h) : PW G X 5 Q k n 36 [some (.inr a0), some (.inl a1), some (.inl a2), some (.inl a3), none] (S) h := by
  refine pw_iconst C dX5_nextOpen_36 ?_
  exact kk
set_option maxRecDepth 20000 in
theorem B_X5_nextOpen_37 {G : Gx} {X : Cx} {h : PH} {k n : Nat} {Q : State → Prop} {S : List PV} {a0 : Nat} {a1 : Int} {a2 : Int} {a3 : Int} {s0 : Int} (C : CX_X5_nextOpen G X) (q1 : pR s0 := by first | assumption | (unfold pR; omega)) (kt : s0 = 0 → PW G X 5 Q k n 71 [some (.inr a0), some (.inl a1), some (.inl a2), some (.inl a3), some (.inl s0)] (S) h) (kf : ¬ s0 = 0 → PW G X 5 Q k n 44 [some (.inr a0), some (.inl a1), some (.inl a2), some (.inl a3), some (.inl s0)] (S) h) : PW G X 5 Q k n 37 [some (.inr a0), some (.inl a1), some (.inl a2), some (.inl a3), none] (.inl s0 :: S) h := by
  refine pw_istore C dX5_nextOpen_37 (by decide) ?_
  refine pw_iload C dX5_nextOpen_39 rfl ?_
  exact pw_if_eq C 71 dX5_nextOpen_41 (by decide) q1 kt kf
set_option maxRecDepth 20000 in
theorem B_X5_nextOpen_44 {G : Gx} {X : Cx} {h : PH} {k n : Nat} {Q : State → Prop} {S : List PV} {a0 : Nat} {a1 : Int} {a2 : Int} {a3 : Int} {a4 : Int} (C : CX_X5_nextOpen G X) (q1 : pR a2 := by first | assumption | (unfold pR; omega)) (kt : a2 < 0 → PW G X 5 Q k n 69 [some (.inr a0), some (.inl a1), some (.inl a2), some (.inl a3), some (.inl a4)] (S) h) (kf : ¬ a2 < 0 → PW G X 5 Q k n 48 [some (.inr a0), some (.inl a1), some (.inl a2), some (.inl a3), some (.inl a4)] (S) h) : PW G X 5 Q k n 44 [some (.inr a0), some (.inl a1), some (.inl a2), some (.inl a3), some (.inl a4)] (S) h := by
  refine pw_iload_n C dX5_nextOpen_44 rfl ?_
  exact pw_if_lt C 69 dX5_nextOpen_45 (by decide) q1 kt kf
set_option maxRecDepth 20000 in
theorem B_X5_nextOpen_48 {G : Gx} {X : Cx} {h : PH} {k n : Nat} {Q : State → Prop} {S : List PV} {a0 : Nat} {a1 : Int} {a2 : Int} {a3 : Int} {a4 : Int} {r2 : Nat} {m8 : Nat} {m8E : String} {r9 : Nat} {x12 : Int} {r15 : Nat} {m21 : Nat} {m21E : String} {r22 : Nat} {x25 : Int} (C : CX_X5_nextOpen G X) (t1 : ph_T h a0 = 5 := by first | assumption | rfl) (e3 : ph_R h a0 0 = r2 := by first | assumption | rfl) (m8a : ¬ m8 < 10 := by decide) (m8b : m8 < 14 := by decide) (t4 : ph_T h r2 = m8 := by first | assumption | rfl) (m8c : (pw_tys G)[m8 - 8]? = some (G.2.2.2.2 m8, .object m8E) := by rfl) (q5 : (0 : Int) ≤ a3 := by first | assumption | omega) (q6 : a3 < (ph_L h r2 : Int) := by first | assumption | omega) (q7 : pR a3 := by first | assumption | (unfold pR; omega)) (e10 : ph_R h r2 (Int.toNat a3) = r9 := by first | assumption | rfl) (t11 : ph_T h r9 = 0 := by first | assumption | rfl) (e13 : ph_I h r9 3 = x12 := by first | assumption | rfl) (t14 : ph_T h a0 = 5 := by first | assumption | rfl) (e16 : ph_R h a0 0 = r15 := by first | assumption | rfl) (m21a : ¬ m21 < 10 := by decide) (m21b : m21 < 14 := by decide) (t17 : ph_T h r15 = m21 := by first | assumption | rfl) (m21c : (pw_tys G)[m21 - 8]? = some (G.2.2.2.2 m21, .object m21E) := by rfl) (q18 : (0 : Int) ≤ a2 := by first | assumption | omega) (q19 : a2 < (ph_L h r15 : Int) := by first | assumption | omega) (q20 : pR a2 := by first | assumption | (unfold pR; omega)) (e23 : ph_R h r15 (Int.toNat a2) = r22 := by first | assumption | rfl) (t24 : ph_T h r22 = 0 := by first | assumption | rfl) (e26 : ph_I h r22 3 = x25 := by first | assumption | rfl) (q27 : pR x12 := by first | assumption | (unfold pR; omega)) (q28 : pR x25 := by first | assumption | (unfold pR; omega)) (kt : x25 ≤ x12 → PW G X 5 Q k n 71 [some (.inr a0), some (.inl a1), some (.inl a2), some (.inl a3), some (.inl a4)] (S) h) (kf : ¬ x25 ≤ x12 → PW G X 5 Q k n 69 [some (.inr a0), some (.inl a1), some (.inl a2), some (.inl a3), some (.inl a4)] (S) h) : PW G X 5 Q k n 48 [some (.inr a0), some (.inl a1), some (.inl a2), some (.inl a3), some (.inl a4)] (S) h := by
  refine pw_aload_n C dX5_nextOpen_48 rfl ?_
  refine pw_getR C (t := 5) (f := 0) rfl inF5 rfl (by decide) (by decide) rfl kw176 dX5_nextOpen_49 t1 ?_
  rw [e3]
  refine pw_iload_n C dX5_nextOpen_52 rfl ?_
  refine pw_aald C (t := m8) dX5_nextOpen_53 t4 m8a m8b m8c q5 q6 q7 ?_
  rw [e10]
  refine pw_getI C (t := 0) (f := 3) rfl inF0 rfl (by decide) (by decide) rfl kw118 dX5_nextOpen_54 t11 ?_
  rw [e13]
  refine pw_aload_n C dX5_nextOpen_57 rfl ?_
  refine pw_getR C (t := 5) (f := 0) rfl inF5 rfl (by decide) (by decide) rfl kw176 dX5_nextOpen_58 t14 ?_
  rw [e16]
  refine pw_iload_n C dX5_nextOpen_61 rfl ?_
  refine pw_aald C (t := m21) dX5_nextOpen_62 t17 m21a m21b m21c q18 q19 q20 ?_
  rw [e23]
  refine pw_getI C (t := 0) (f := 3) rfl inF0 rfl (by decide) (by decide) rfl kw118 dX5_nextOpen_63 t24 ?_
  rw [e26]
  exact pw_icmp_ge C 71 dX5_nextOpen_66 (by decide) q27 q28 kt kf
set_option maxRecDepth 20000 in
theorem B_X5_nextOpen_69 {G : Gx} {X : Cx} {h : PH} {k n : Nat} {Q : State → Prop} {S : List PV} {a0 : Nat} {a1 : Int} {a2 : Int} {a3 : Int} {a4 : Int} (C : CX_X5_nextOpen G X) (kk : PW G X 5 Q k n 71 [some (.inr a0), some (.inl a1), some (.inl a3), some (.inl a3), some (.inl a4)] (S) h) : PW G X 5 Q k n 69 [some (.inr a0), some (.inl a1), some (.inl a2), some (.inl a3), some (.inl a4)] (S) h := by
  refine pw_iload_n C dX5_nextOpen_69 rfl ?_
  refine pw_istore_n C dX5_nextOpen_70 (by decide) ?_
  exact kk
set_option maxRecDepth 20000 in
theorem B_X5_nextOpen_71 {G : Gx} {X : Cx} {h : PH} {k n : Nat} {Q : State → Prop} {S : List PV} {a0 : Nat} {a1 : Int} {a2 : Int} {a3 : Int} {a4 : Int} (C : CX_X5_nextOpen G X) (kk : PW G X 5 Q k n 4 [some (.inr a0), some (.inl a1), some (.inl a2), some (.inl (a3 + 1)), none] (S) h) : PW G X 5 Q k n 71 [some (.inr a0), some (.inl a1), some (.inl a2), some (.inl a3), some (.inl a4)] (S) h := by
  refine pw_iinc C dX5_nextOpen_71 rfl (by decide) ?_
  refine pw_goto C 4 dX5_nextOpen_74 (by decide) ?_
  exact pw_weak [true, true, true, true, false] kk
set_option maxRecDepth 20000 in
theorem B_X5_nextOpen_77 {G : Gx} {X : Cx} {h : PH} {k n : Nat} {a0 : Nat} {a1 : Int} {a2 : Int} {a3 : Int} {PQ : Option PV → PH → Prop} (C : CX_X5_nextOpen G X) (hq : PQ (some (.inl a2)) h) : PW G X 5 (pw_E G X PQ k n) k n 77 [some (.inr a0), some (.inl a1), some (.inl a2), some (.inl a3), none] [] h := by
  refine pw_iload_n C dX5_nextOpen_77 rfl ?_
  exact pw_ireturn C dX5_nextOpen_78 hq
theorem dX5_takenFlights_0 : decode cX5_takenFlights 0 = .ok (.iconst 0, 1) := by decide +kernel
theorem dX5_takenFlights_1 : decode cX5_takenFlights 1 = .ok (.istore_n 1, 1) := by decide +kernel
theorem dX5_takenFlights_2 : decode cX5_takenFlights 2 = .ok (.iconst 0, 1) := by decide +kernel
theorem dX5_takenFlights_3 : decode cX5_takenFlights 3 = .ok (.istore_n 2, 1) := by decide +kernel
theorem dX5_takenFlights_4 : decode cX5_takenFlights 4 = .ok (.iload_n 2, 1) := by decide +kernel
theorem dX5_takenFlights_5 : decode cX5_takenFlights 5 = .ok (.aload_n 0, 1) := by decide +kernel
theorem dX5_takenFlights_6 : decode cX5_takenFlights 6 = .ok (.getfield 34, 3) := by decide +kernel
theorem dX5_takenFlights_9 : decode cX5_takenFlights 9 = .ok (.if_icmp .ge 24, 3) := by decide +kernel
theorem dX5_takenFlights_12 : decode cX5_takenFlights 12 = .ok (.aload_n 0, 1) := by decide +kernel
theorem dX5_takenFlights_13 : decode cX5_takenFlights 13 = .ok (.getfield 11, 3) := by decide +kernel
theorem dX5_takenFlights_16 : decode cX5_takenFlights 16 = .ok (.iload_n 2, 1) := by decide +kernel
theorem dX5_takenFlights_17 : decode cX5_takenFlights 17 = .ok (.aaload, 1) := by decide +kernel
theorem dX5_takenFlights_18 : decode cX5_takenFlights 18 = .ok (.invokevirtual 66, 3) := by decide +kernel
theorem dX5_takenFlights_21 : decode cX5_takenFlights 21 = .ok (.ifCond .eq 6, 3) := by decide +kernel
theorem dX5_takenFlights_24 : decode cX5_takenFlights 24 = .ok (.iinc 1 1, 3) := by decide +kernel
theorem dX5_takenFlights_27 : decode cX5_takenFlights 27 = .ok (.iinc 2 1, 3) := by decide +kernel
theorem dX5_takenFlights_30 : decode cX5_takenFlights 30 = .ok (.goto (-26), 3) := by decide +kernel
theorem dX5_takenFlights_33 : decode cX5_takenFlights 33 = .ok (.iload_n 1, 1) := by decide +kernel
theorem dX5_takenFlights_34 : decode cX5_takenFlights 34 = .ok (.ireturn, 1) := by decide +kernel
set_option maxRecDepth 20000 in
theorem B_X5_takenFlights_0 {G : Gx} {X : Cx} {h : PH} {k n : Nat} {Q : State → Prop} {S : List PV} {a0 : Nat} (C : CX_X5_takenFlights G X) (kk : PW G X 3 Q k n 4 [some (.inr a0), some (.inl 0), some (.inl 0)] (S) h) : PW G X 3 Q k n 0 [some (.inr a0), none, none] (S) h := by
  refine pw_iconst C dX5_takenFlights_0 ?_
  refine pw_istore_n C dX5_takenFlights_1 (by decide) ?_
  refine pw_iconst C dX5_takenFlights_2 ?_
  refine pw_istore_n C dX5_takenFlights_3 (by decide) ?_
  exact kk
set_option maxRecDepth 20000 in
theorem B_X5_takenFlights_4 {G : Gx} {X : Cx} {h : PH} {k n : Nat} {Q : State → Prop} {S : List PV} {a0 : Nat} {a1 : Int} {a2 : Int} {x2 : Int} (C : CX_X5_takenFlights G X) (t1 : ph_T h a0 = 5 := by first | assumption | rfl) (e3 : ph_I h a0 4 = x2 := by first | assumption | rfl) (q4 : pR a2 := by first | assumption | (unfold pR; omega)) (q5 : pR x2 := by first | assumption | (unfold pR; omega)) (kt : x2 ≤ a2 → PW G X 3 Q k n 33 [some (.inr a0), some (.inl a1), some (.inl a2)] (S) h) (kf : ¬ x2 ≤ a2 → PW G X 3 Q k n 12 [some (.inr a0), some (.inl a1), some (.inl a2)] (S) h) : PW G X 3 Q k n 4 [some (.inr a0), some (.inl a1), some (.inl a2)] (S) h := by
  refine pw_iload_n C dX5_takenFlights_4 rfl ?_
  refine pw_aload_n C dX5_takenFlights_5 rfl ?_
  refine pw_getI C (t := 5) (f := 4) rfl inF5 rfl (by decide) (by decide) rfl kw187 dX5_takenFlights_6 t1 ?_
  rw [e3]
  exact pw_icmp_ge C 33 dX5_takenFlights_9 (by decide) q4 q5 kt kf
set_option maxRecDepth 20000 in
theorem B_X5_takenFlights_12 {G : Gx} {X : Cx} {h : PH} {k n : Nat} {Q : State → Prop} {S : List PV} {a0 : Nat} {a1 : Int} {a2 : Int} {r2 : Nat} {m8 : Nat} {m8E : String} {r9 : Nat} {PQ : Option PV → PH → Prop} (C : CX_X5_takenFlights G X) (hk0 : k ≤ 0 := by decide) (hn0 : n ≤ 0 := by decide) (t1 : ph_T h a0 = 5 := by first | assumption | rfl) (e3 : ph_R h a0 0 = r2 := by first | assumption | rfl) (m8a : ¬ m8 < 10 := by decide) (m8b : m8 < 14 := by decide) (t4 : ph_T h r2 = m8 := by first | assumption | rfl) (m8c : (pw_tys G)[m8 - 8]? = some (G.2.2.2.2 m8, .object m8E) := by rfl) (q5 : (0 : Int) ≤ a2 := by first | assumption | omega) (q6 : a2 < (ph_L h r2 : Int) := by first | assumption | omega) (q7 : pR a2 := by first | assumption | (unfold pR; omega)) (e10 : ph_R h r2 (Int.toNat a2) = r9 := by first | assumption | rfl) (t11 : ph_T h r9 = 0 := by first | assumption | rfl) (hM : CT_X0_isTaken G X.2.1 [.inr r9] h PQ) (hS : S.length ≤ 8 := by decide) (kk : ∀ r h', PQ r h' → PW G X 3 Q k n 21 [some (.inr a0), some (.inl a1), some (.inl a2)] (r.toList ++ S) h') : PW G X 3 Q k n 12 [some (.inr a0), some (.inl a1), some (.inl a2)] (S) h := by
  refine pw_aload_n C dX5_takenFlights_12 rfl ?_
  refine pw_getR C (t := 5) (f := 0) rfl inF5 rfl (by decide) (by decide) rfl kw176 dX5_takenFlights_13 t1 ?_
  rw [e3]
  refine pw_iload_n C dX5_takenFlights_16 rfl ?_
  refine pw_aald C (t := m8) dX5_takenFlights_17 t4 m8a m8b m8c q5 q6 q7 ?_
  rw [e10]
  exact pw_callV C (na := 0) (As := []) (S := S) hM t11 (by decide) (hcl := by rfl) kw624 kw356 kw357 kw41 kw358 (by decide +kernel) rfl dX5_takenFlights_18 (by decide) (by decide) hk0 hn0 (by first | exact hS | (simp only [List.length_cons]; omega)) kk
set_option maxRecDepth 20000 in
theorem B_X5_takenFlights_21 {G : Gx} {X : Cx} {h : PH} {k n : Nat} {Q : State → Prop} {S : List PV} {a0 : Nat} {a1 : Int} {a2 : Int} {s0 : Int} (C : CX_X5_takenFlights G X) (q1 : pR s0 := by first | assumption | (unfold pR; omega)) (kt : s0 = 0 → PW G X 3 Q k n 27 [some (.inr a0), some (.inl a1), some (.inl a2)] (S) h) (kf : ¬ s0 = 0 → PW G X 3 Q k n 24 [some (.inr a0), some (.inl a1), some (.inl a2)] (S) h) : PW G X 3 Q k n 21 [some (.inr a0), some (.inl a1), some (.inl a2)] (.inl s0 :: S) h := by
  exact pw_if_eq C 27 dX5_takenFlights_21 (by decide) q1 kt kf
set_option maxRecDepth 20000 in
theorem B_X5_takenFlights_24 {G : Gx} {X : Cx} {h : PH} {k n : Nat} {Q : State → Prop} {S : List PV} {a0 : Nat} {a1 : Int} {a2 : Int} (C : CX_X5_takenFlights G X) (kk : PW G X 3 Q k n 27 [some (.inr a0), some (.inl (a1 + 1)), some (.inl a2)] (S) h) : PW G X 3 Q k n 24 [some (.inr a0), some (.inl a1), some (.inl a2)] (S) h := by
  refine pw_iinc C dX5_takenFlights_24 rfl (by decide) ?_
  exact kk
set_option maxRecDepth 20000 in
theorem B_X5_takenFlights_27 {G : Gx} {X : Cx} {h : PH} {k n : Nat} {Q : State → Prop} {S : List PV} {a0 : Nat} {a1 : Int} {a2 : Int} (C : CX_X5_takenFlights G X) (kk : PW G X 3 Q k n 4 [some (.inr a0), some (.inl a1), some (.inl (a2 + 1))] (S) h) : PW G X 3 Q k n 27 [some (.inr a0), some (.inl a1), some (.inl a2)] (S) h := by
  refine pw_iinc C dX5_takenFlights_27 rfl (by decide) ?_
  refine pw_goto C 4 dX5_takenFlights_30 (by decide) ?_
  exact kk
set_option maxRecDepth 20000 in
theorem B_X5_takenFlights_33 {G : Gx} {X : Cx} {h : PH} {k n : Nat} {a0 : Nat} {a1 : Int} {a2 : Int} {PQ : Option PV → PH → Prop} (C : CX_X5_takenFlights G X) (hq : PQ (some (.inl a1)) h) : PW G X 3 (pw_E G X PQ k n) k n 33 [some (.inr a0), some (.inl a1), some (.inl a2)] [] h := by
  refine pw_iload_n C dX5_takenFlights_33 rfl ?_
  exact pw_ireturn C dX5_takenFlights_34 hq
theorem dX5_allPoints_0 : decode cX5_allPoints 0 = .ok (.iconst 0, 1) := by decide +kernel
theorem dX5_allPoints_1 : decode cX5_allPoints 1 = .ok (.istore_n 1, 1) := by decide +kernel
theorem dX5_allPoints_2 : decode cX5_allPoints 2 = .ok (.iconst 0, 1) := by decide +kernel
theorem dX5_allPoints_3 : decode cX5_allPoints 3 = .ok (.istore_n 2, 1) := by decide +kernel
theorem dX5_allPoints_4 : decode cX5_allPoints 4 = .ok (.iload_n 2, 1) := by decide +kernel
theorem dX5_allPoints_5 : decode cX5_allPoints 5 = .ok (.aload_n 0, 1) := by decide +kernel
theorem dX5_allPoints_6 : decode cX5_allPoints 6 = .ok (.getfield 34, 3) := by decide +kernel
theorem dX5_allPoints_9 : decode cX5_allPoints 9 = .ok (.if_icmp .ge 21, 3) := by decide +kernel
theorem dX5_allPoints_12 : decode cX5_allPoints 12 = .ok (.iload_n 1, 1) := by decide +kernel
theorem dX5_allPoints_13 : decode cX5_allPoints 13 = .ok (.aload_n 0, 1) := by decide +kernel
theorem dX5_allPoints_14 : decode cX5_allPoints 14 = .ok (.getfield 11, 3) := by decide +kernel
theorem dX5_allPoints_17 : decode cX5_allPoints 17 = .ok (.iload_n 2, 1) := by decide +kernel
theorem dX5_allPoints_18 : decode cX5_allPoints 18 = .ok (.aaload, 1) := by decide +kernel
theorem dX5_allPoints_19 : decode cX5_allPoints 19 = .ok (.getfield 69, 3) := by decide +kernel
theorem dX5_allPoints_22 : decode cX5_allPoints 22 = .ok (.iadd, 1) := by decide +kernel
theorem dX5_allPoints_23 : decode cX5_allPoints 23 = .ok (.istore_n 1, 1) := by decide +kernel
theorem dX5_allPoints_24 : decode cX5_allPoints 24 = .ok (.iinc 2 1, 3) := by decide +kernel
theorem dX5_allPoints_27 : decode cX5_allPoints 27 = .ok (.goto (-23), 3) := by decide +kernel
theorem dX5_allPoints_30 : decode cX5_allPoints 30 = .ok (.iload_n 1, 1) := by decide +kernel
theorem dX5_allPoints_31 : decode cX5_allPoints 31 = .ok (.ireturn, 1) := by decide +kernel
set_option maxRecDepth 20000 in
theorem B_X5_allPoints_0 {G : Gx} {X : Cx} {h : PH} {k n : Nat} {Q : State → Prop} {S : List PV} {a0 : Nat} (C : CX_X5_allPoints G X) (kk : PW G X 3 Q k n 4 [some (.inr a0), some (.inl 0), some (.inl 0)] (S) h) : PW G X 3 Q k n 0 [some (.inr a0), none, none] (S) h := by
  refine pw_iconst C dX5_allPoints_0 ?_
  refine pw_istore_n C dX5_allPoints_1 (by decide) ?_
  refine pw_iconst C dX5_allPoints_2 ?_
  refine pw_istore_n C dX5_allPoints_3 (by decide) ?_
  exact kk
set_option maxRecDepth 20000 in
theorem B_X5_allPoints_4 {G : Gx} {X : Cx} {h : PH} {k n : Nat} {Q : State → Prop} {S : List PV} {a0 : Nat} {a1 : Int} {a2 : Int} {x2 : Int} (C : CX_X5_allPoints G X) (t1 : ph_T h a0 = 5 := by first | assumption | rfl) (e3 : ph_I h a0 4 = x2 := by first | assumption | rfl) (q4 : pR a2 := by first | assumption | (unfold pR; omega)) (q5 : pR x2 := by first | assumption | (unfold pR; omega)) (kt : x2 ≤ a2 → PW G X 3 Q k n 30 [some (.inr a0), some (.inl a1), some (.inl a2)] (S) h) (kf : ¬ x2 ≤ a2 → PW G X 3 Q k n 12 [some (.inr a0), some (.inl a1), some (.inl a2)] (S) h) : PW G X 3 Q k n 4 [some (.inr a0), some (.inl a1), some (.inl a2)] (S) h := by
  refine pw_iload_n C dX5_allPoints_4 rfl ?_
  refine pw_aload_n C dX5_allPoints_5 rfl ?_
  refine pw_getI C (t := 5) (f := 4) rfl inF5 rfl (by decide) (by decide) rfl kw187 dX5_allPoints_6 t1 ?_
  rw [e3]
  exact pw_icmp_ge C 30 dX5_allPoints_9 (by decide) q4 q5 kt kf
set_option maxRecDepth 20000 in
theorem B_X5_allPoints_12 {G : Gx} {X : Cx} {h : PH} {k n : Nat} {Q : State → Prop} {S : List PV} {a0 : Nat} {a1 : Int} {a2 : Int} {r2 : Nat} {m8 : Nat} {m8E : String} {r9 : Nat} {x12 : Int} (C : CX_X5_allPoints G X) (t1 : ph_T h a0 = 5 := by first | assumption | rfl) (e3 : ph_R h a0 0 = r2 := by first | assumption | rfl) (m8a : ¬ m8 < 10 := by decide) (m8b : m8 < 14 := by decide) (t4 : ph_T h r2 = m8 := by first | assumption | rfl) (m8c : (pw_tys G)[m8 - 8]? = some (G.2.2.2.2 m8, .object m8E) := by rfl) (q5 : (0 : Int) ≤ a2 := by first | assumption | omega) (q6 : a2 < (ph_L h r2 : Int) := by first | assumption | omega) (q7 : pR a2 := by first | assumption | (unfold pR; omega)) (e10 : ph_R h r2 (Int.toNat a2) = r9 := by first | assumption | rfl) (t11 : ph_T h r9 = 0 := by first | assumption | rfl) (e13 : ph_I h r9 4 = x12 := by first | assumption | rfl) (kk : PW G X 3 Q k n 4 [some (.inr a0), some (.inl (a1 + x12)), some (.inl (a2 + 1))] (S) h) : PW G X 3 Q k n 12 [some (.inr a0), some (.inl a1), some (.inl a2)] (S) h := by
  refine pw_iload_n C dX5_allPoints_12 rfl ?_
  refine pw_aload_n C dX5_allPoints_13 rfl ?_
  refine pw_getR C (t := 5) (f := 0) rfl inF5 rfl (by decide) (by decide) rfl kw176 dX5_allPoints_14 t1 ?_
  rw [e3]
  refine pw_iload_n C dX5_allPoints_17 rfl ?_
  refine pw_aald C (t := m8) dX5_allPoints_18 t4 m8a m8b m8c q5 q6 q7 ?_
  rw [e10]
  refine pw_getI C (t := 0) (f := 4) rfl inF0 rfl (by decide) (by decide) rfl kw123 dX5_allPoints_19 t11 ?_
  rw [e13]
  refine pw_iadd C dX5_allPoints_22 ?_
  refine pw_istore_n C dX5_allPoints_23 (by decide) ?_
  refine pw_iinc C dX5_allPoints_24 rfl (by decide) ?_
  refine pw_goto C 4 dX5_allPoints_27 (by decide) ?_
  exact kk
set_option maxRecDepth 20000 in
theorem B_X5_allPoints_30 {G : Gx} {X : Cx} {h : PH} {k n : Nat} {a0 : Nat} {a1 : Int} {a2 : Int} {PQ : Option PV → PH → Prop} (C : CX_X5_allPoints G X) (hq : PQ (some (.inl a1)) h) : PW G X 3 (pw_E G X PQ k n) k n 30 [some (.inr a0), some (.inl a1), some (.inl a2)] [] h := by
  refine pw_iload_n C dX5_allPoints_30 rfl ?_
  exact pw_ireturn C dX5_allPoints_31 hq
theorem dX5_allLooks_0 : decode cX5_allLooks 0 = .ok (.iconst 0, 1) := by decide +kernel
theorem dX5_allLooks_1 : decode cX5_allLooks 1 = .ok (.istore_n 1, 1) := by decide +kernel
theorem dX5_allLooks_2 : decode cX5_allLooks 2 = .ok (.iconst 0, 1) := by decide +kernel
theorem dX5_allLooks_3 : decode cX5_allLooks 3 = .ok (.istore_n 2, 1) := by decide +kernel
theorem dX5_allLooks_4 : decode cX5_allLooks 4 = .ok (.iload_n 2, 1) := by decide +kernel
theorem dX5_allLooks_5 : decode cX5_allLooks 5 = .ok (.aload_n 0, 1) := by decide +kernel
theorem dX5_allLooks_6 : decode cX5_allLooks 6 = .ok (.getfield 30, 3) := by decide +kernel
theorem dX5_allLooks_9 : decode cX5_allLooks 9 = .ok (.arraylength, 1) := by decide +kernel
theorem dX5_allLooks_10 : decode cX5_allLooks 10 = .ok (.if_icmp .ge 18, 3) := by decide +kernel
theorem dX5_allLooks_13 : decode cX5_allLooks 13 = .ok (.iload_n 1, 1) := by decide +kernel
theorem dX5_allLooks_14 : decode cX5_allLooks 14 = .ok (.aload_n 0, 1) := by decide +kernel
theorem dX5_allLooks_15 : decode cX5_allLooks 15 = .ok (.getfield 30, 3) := by decide +kernel
theorem dX5_allLooks_18 : decode cX5_allLooks 18 = .ok (.iload_n 2, 1) := by decide +kernel
theorem dX5_allLooks_19 : decode cX5_allLooks 19 = .ok (.iaload, 1) := by decide +kernel
theorem dX5_allLooks_20 : decode cX5_allLooks 20 = .ok (.iadd, 1) := by decide +kernel
theorem dX5_allLooks_21 : decode cX5_allLooks 21 = .ok (.istore_n 1, 1) := by decide +kernel
theorem dX5_allLooks_22 : decode cX5_allLooks 22 = .ok (.iinc 2 1, 3) := by decide +kernel
theorem dX5_allLooks_25 : decode cX5_allLooks 25 = .ok (.goto (-21), 3) := by decide +kernel
theorem dX5_allLooks_28 : decode cX5_allLooks 28 = .ok (.iload_n 1, 1) := by decide +kernel
theorem dX5_allLooks_29 : decode cX5_allLooks 29 = .ok (.ireturn, 1) := by decide +kernel
set_option maxRecDepth 20000 in
theorem B_X5_allLooks_0 {G : Gx} {X : Cx} {h : PH} {k n : Nat} {Q : State → Prop} {S : List PV} {a0 : Nat} (C : CX_X5_allLooks G X) (kk : PW G X 3 Q k n 4 [some (.inr a0), some (.inl 0), some (.inl 0)] (S) h) : PW G X 3 Q k n 0 [some (.inr a0), none, none] (S) h := by
  refine pw_iconst C dX5_allLooks_0 ?_
  refine pw_istore_n C dX5_allLooks_1 (by decide) ?_
  refine pw_iconst C dX5_allLooks_2 ?_
  refine pw_istore_n C dX5_allLooks_3 (by decide) ?_
  exact kk
set_option maxRecDepth 20000 in
theorem B_X5_allLooks_4 {G : Gx} {X : Cx} {h : PH} {k n : Nat} {Q : State → Prop} {S : List PV} {a0 : Nat} {a1 : Int} {a2 : Int} {r2 : Nat} {x5 : Int} (C : CX_X5_allLooks G X) (t1 : ph_T h a0 = 5 := by first | assumption | rfl) (e3 : ph_R h a0 3 = r2 := by first | assumption | rfl) (t4 : ph_T h r2 = 8 := by first | assumption | rfl) (e6 : (ph_L h r2 : Int) = x5 := by first | assumption | rfl) (q7 : pR a2 := by first | assumption | (unfold pR; omega)) (q8 : pR x5 := by first | assumption | (unfold pR; omega)) (kt : x5 ≤ a2 → PW G X 3 Q k n 28 [some (.inr a0), some (.inl a1), some (.inl a2)] (S) h) (kf : ¬ x5 ≤ a2 → PW G X 3 Q k n 13 [some (.inr a0), some (.inl a1), some (.inl a2)] (S) h) : PW G X 3 Q k n 4 [some (.inr a0), some (.inl a1), some (.inl a2)] (S) h := by
  refine pw_iload_n C dX5_allLooks_4 rfl ?_
  refine pw_aload_n C dX5_allLooks_5 rfl ?_
  refine pw_getR C (t := 5) (f := 3) rfl inF5 rfl (by decide) (by decide) rfl kw185 dX5_allLooks_6 t1 ?_
  rw [e3]
  refine pw_alen C dX5_allLooks_9 t4 ?_
  show PW G X _ _ _ _ _ _ (.inl (ph_L h r2 : Int) :: _) _
  rw [e6]
  exact pw_icmp_ge C 28 dX5_allLooks_10 (by decide) q7 q8 kt kf
set_option maxRecDepth 20000 in
theorem B_X5_allLooks_13 {G : Gx} {X : Cx} {h : PH} {k n : Nat} {Q : State → Prop} {S : List PV} {a0 : Nat} {a1 : Int} {a2 : Int} {r2 : Nat} {x8 : Int} (C : CX_X5_allLooks G X) (t1 : ph_T h a0 = 5 := by first | assumption | rfl) (e3 : ph_R h a0 3 = r2 := by first | assumption | rfl) (t4 : ph_T h r2 = 8 := by first | assumption | rfl) (q5 : (0 : Int) ≤ a2 := by first | assumption | omega) (q6 : a2 < (ph_L h r2 : Int) := by first | assumption | omega) (q7 : pR a2 := by first | assumption | (unfold pR; omega)) (e9 : ph_I h r2 (Int.toNat a2) = x8 := by first | assumption | rfl) (kk : PW G X 3 Q k n 4 [some (.inr a0), some (.inl (a1 + x8)), some (.inl (a2 + 1))] (S) h) : PW G X 3 Q k n 13 [some (.inr a0), some (.inl a1), some (.inl a2)] (S) h := by
  refine pw_iload_n C dX5_allLooks_13 rfl ?_
  refine pw_aload_n C dX5_allLooks_14 rfl ?_
  refine pw_getR C (t := 5) (f := 3) rfl inF5 rfl (by decide) (by decide) rfl kw185 dX5_allLooks_15 t1 ?_
  rw [e3]
  refine pw_iload_n C dX5_allLooks_18 rfl ?_
  refine pw_iald C dX5_allLooks_19 t4 q5 q6 q7 ?_
  rw [e9]
  refine pw_iadd C dX5_allLooks_20 ?_
  refine pw_istore_n C dX5_allLooks_21 (by decide) ?_
  refine pw_iinc C dX5_allLooks_22 rfl (by decide) ?_
  refine pw_goto C 4 dX5_allLooks_25 (by decide) ?_
  exact kk
set_option maxRecDepth 20000 in
theorem B_X5_allLooks_28 {G : Gx} {X : Cx} {h : PH} {k n : Nat} {a0 : Nat} {a1 : Int} {a2 : Int} {PQ : Option PV → PH → Prop} (C : CX_X5_allLooks G X) (hq : PQ (some (.inl a1)) h) : PW G X 3 (pw_E G X PQ k n) k n 28 [some (.inr a0), some (.inl a1), some (.inl a2)] [] h := by
  refine pw_iload_n C dX5_allLooks_28 rfl ?_
  exact pw_ireturn C dX5_allLooks_29 hq
theorem dX5_unlikeLooks_0 : decode cX5_unlikeLooks 0 = .ok (.iconst 0, 1) := by decide +kernel
theorem dX5_unlikeLooks_1 : decode cX5_unlikeLooks 1 = .ok (.istore_n 1, 1) := by decide +kernel
theorem dX5_unlikeLooks_2 : decode cX5_unlikeLooks 2 = .ok (.iconst 0, 1) := by decide +kernel
theorem dX5_unlikeLooks_3 : decode cX5_unlikeLooks 3 = .ok (.istore_n 2, 1) := by decide +kernel
theorem dX5_unlikeLooks_4 : decode cX5_unlikeLooks 4 = .ok (.iload_n 2, 1) := by decide +kernel
theorem dX5_unlikeLooks_5 : decode cX5_unlikeLooks 5 = .ok (.aload_n 0, 1) := by decide +kernel
theorem dX5_unlikeLooks_6 : decode cX5_unlikeLooks 6 = .ok (.getfield 30, 3) := by decide +kernel
theorem dX5_unlikeLooks_9 : decode cX5_unlikeLooks 9 = .ok (.arraylength, 1) := by decide +kernel
theorem dX5_unlikeLooks_10 : decode cX5_unlikeLooks 10 = .ok (.if_icmp .ge 21, 3) := by decide +kernel
theorem dX5_unlikeLooks_13 : decode cX5_unlikeLooks 13 = .ok (.aload_n 0, 1) := by decide +kernel
theorem dX5_unlikeLooks_14 : decode cX5_unlikeLooks 14 = .ok (.getfield 30, 3) := by decide +kernel
theorem dX5_unlikeLooks_17 : decode cX5_unlikeLooks 17 = .ok (.iload_n 2, 1) := by decide +kernel
theorem dX5_unlikeLooks_18 : decode cX5_unlikeLooks 18 = .ok (.iaload, 1) := by decide +kernel
theorem dX5_unlikeLooks_19 : decode cX5_unlikeLooks 19 = .ok (.ifCond .le 6, 3) := by decide +kernel
theorem dX5_unlikeLooks_22 : decode cX5_unlikeLooks 22 = .ok (.iinc 1 1, 3) := by decide +kernel
theorem dX5_unlikeLooks_25 : decode cX5_unlikeLooks 25 = .ok (.iinc 2 1, 3) := by decide +kernel
theorem dX5_unlikeLooks_28 : decode cX5_unlikeLooks 28 = .ok (.goto (-24), 3) := by decide +kernel
theorem dX5_unlikeLooks_31 : decode cX5_unlikeLooks 31 = .ok (.iload_n 1, 1) := by decide +kernel
theorem dX5_unlikeLooks_32 : decode cX5_unlikeLooks 32 = .ok (.ireturn, 1) := by decide +kernel
set_option maxRecDepth 20000 in
theorem B_X5_unlikeLooks_0 {G : Gx} {X : Cx} {h : PH} {k n : Nat} {Q : State → Prop} {S : List PV} {a0 : Nat} (C : CX_X5_unlikeLooks G X) (kk : PW G X 3 Q k n 4 [some (.inr a0), some (.inl 0), some (.inl 0)] (S) h) : PW G X 3 Q k n 0 [some (.inr a0), none, none] (S) h := by
  refine pw_iconst C dX5_unlikeLooks_0 ?_
  refine pw_istore_n C dX5_unlikeLooks_1 (by decide) ?_
  refine pw_iconst C dX5_unlikeLooks_2 ?_
  refine pw_istore_n C dX5_unlikeLooks_3 (by decide) ?_
  exact kk
set_option maxRecDepth 20000 in
theorem B_X5_unlikeLooks_4 {G : Gx} {X : Cx} {h : PH} {k n : Nat} {Q : State → Prop} {S : List PV} {a0 : Nat} {a1 : Int} {a2 : Int} {r2 : Nat} {x5 : Int} (C : CX_X5_unlikeLooks G X) (t1 : ph_T h a0 = 5 := by first | assumption | rfl) (e3 : ph_R h a0 3 = r2 := by first | assumption | rfl) (t4 : ph_T h r2 = 8 := by first | assumption | rfl) (e6 : (ph_L h r2 : Int) = x5 := by first | assumption | rfl) (q7 : pR a2 := by first | assumption | (unfold pR; omega)) (q8 : pR x5 := by first | assumption | (unfold pR; omega)) (kt : x5 ≤ a2 → PW G X 3 Q k n 31 [some (.inr a0), some (.inl a1), some (.inl a2)] (S) h) (kf : ¬ x5 ≤ a2 → PW G X 3 Q k n 13 [some (.inr a0), some (.inl a1), some (.inl a2)] (S) h) : PW G X 3 Q k n 4 [some (.inr a0), some (.inl a1), some (.inl a2)] (S) h := by
  refine pw_iload_n C dX5_unlikeLooks_4 rfl ?_
  refine pw_aload_n C dX5_unlikeLooks_5 rfl ?_
  refine pw_getR C (t := 5) (f := 3) rfl inF5 rfl (by decide) (by decide) rfl kw185 dX5_unlikeLooks_6 t1 ?_
  rw [e3]
  refine pw_alen C dX5_unlikeLooks_9 t4 ?_
  show PW G X _ _ _ _ _ _ (.inl (ph_L h r2 : Int) :: _) _
  rw [e6]
  exact pw_icmp_ge C 31 dX5_unlikeLooks_10 (by decide) q7 q8 kt kf
set_option maxRecDepth 20000 in
theorem B_X5_unlikeLooks_13 {G : Gx} {X : Cx} {h : PH} {k n : Nat} {Q : State → Prop} {S : List PV} {a0 : Nat} {a1 : Int} {a2 : Int} {r2 : Nat} {x8 : Int} (C : CX_X5_unlikeLooks G X) (t1 : ph_T h a0 = 5 := by first | assumption | rfl) (e3 : ph_R h a0 3 = r2 := by first | assumption | rfl) (t4 : ph_T h r2 = 8 := by first | assumption | rfl) (q5 : (0 : Int) ≤ a2 := by first | assumption | omega) (q6 : a2 < (ph_L h r2 : Int) := by first | assumption | omega) (q7 : pR a2 := by first | assumption | (unfold pR; omega)) (e9 : ph_I h r2 (Int.toNat a2) = x8 := by first | assumption | rfl) (q10 : pR x8 := by first | assumption | (unfold pR; omega)) (kt : x8 ≤ 0 → PW G X 3 Q k n 25 [some (.inr a0), some (.inl a1), some (.inl a2)] (S) h) (kf : ¬ x8 ≤ 0 → PW G X 3 Q k n 22 [some (.inr a0), some (.inl a1), some (.inl a2)] (S) h) : PW G X 3 Q k n 13 [some (.inr a0), some (.inl a1), some (.inl a2)] (S) h := by
  refine pw_aload_n C dX5_unlikeLooks_13 rfl ?_
  refine pw_getR C (t := 5) (f := 3) rfl inF5 rfl (by decide) (by decide) rfl kw185 dX5_unlikeLooks_14 t1 ?_
  rw [e3]
  refine pw_iload_n C dX5_unlikeLooks_17 rfl ?_
  refine pw_iald C dX5_unlikeLooks_18 t4 q5 q6 q7 ?_
  rw [e9]
  exact pw_if_le C 25 dX5_unlikeLooks_19 (by decide) q10 kt kf
set_option maxRecDepth 20000 in
theorem B_X5_unlikeLooks_22 {G : Gx} {X : Cx} {h : PH} {k n : Nat} {Q : State → Prop} {S : List PV} {a0 : Nat} {a1 : Int} {a2 : Int} (C : CX_X5_unlikeLooks G X) (kk : PW G X 3 Q k n 25 [some (.inr a0), some (.inl (a1 + 1)), some (.inl a2)] (S) h) : PW G X 3 Q k n 22 [some (.inr a0), some (.inl a1), some (.inl a2)] (S) h := by
  refine pw_iinc C dX5_unlikeLooks_22 rfl (by decide) ?_
  exact kk
set_option maxRecDepth 20000 in
theorem B_X5_unlikeLooks_25 {G : Gx} {X : Cx} {h : PH} {k n : Nat} {Q : State → Prop} {S : List PV} {a0 : Nat} {a1 : Int} {a2 : Int} (C : CX_X5_unlikeLooks G X) (kk : PW G X 3 Q k n 4 [some (.inr a0), some (.inl a1), some (.inl (a2 + 1))] (S) h) : PW G X 3 Q k n 25 [some (.inr a0), some (.inl a1), some (.inl a2)] (S) h := by
  refine pw_iinc C dX5_unlikeLooks_25 rfl (by decide) ?_
  refine pw_goto C 4 dX5_unlikeLooks_28 (by decide) ?_
  exact kk
set_option maxRecDepth 20000 in
theorem B_X5_unlikeLooks_31 {G : Gx} {X : Cx} {h : PH} {k n : Nat} {a0 : Nat} {a1 : Int} {a2 : Int} {PQ : Option PV → PH → Prop} (C : CX_X5_unlikeLooks G X) (hq : PQ (some (.inl a1)) h) : PW G X 3 (pw_E G X PQ k n) k n 31 [some (.inr a0), some (.inl a1), some (.inl a2)] [] h := by
  refine pw_iload_n C dX5_unlikeLooks_31 rfl ?_
  exact pw_ireturn C dX5_unlikeLooks_32 hq
