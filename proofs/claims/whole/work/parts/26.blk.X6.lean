theorem dX6_init_0 : decode cX6_init 0 = .ok (.aload_n 0, 1) := by decide +kernel
theorem dX6_init_1 : decode cX6_init 1 = .ok (.invokespecial 3, 3) := by decide +kernel
theorem dX6_init_4 : decode cX6_init 4 = .ok (.aload_n 0, 1) := by decide +kernel
theorem dX6_init_5 : decode cX6_init 5 = .ok (.new 9, 3) := by decide +kernel
theorem dX6_init_8 : decode cX6_init 8 = .ok (.dup, 1) := by decide +kernel
theorem dX6_init_9 : decode cX6_init 9 = .ok (.invokespecial 11, 3) := by decide +kernel
theorem dX6_init_12 : decode cX6_init 12 = .ok (.putfield 12, 3) := by decide +kernel
theorem dX6_init_15 : decode cX6_init 15 = .ok (.aload_n 0, 1) := by decide +kernel
theorem dX6_init_16 : decode cX6_init 16 = .ok (.iconst 2, 1) := by decide +kernel
theorem dX6_init_17 : decode cX6_init 17 = .ok (.anewarray 9, 3) := by decide +kernel
theorem dX6_init_20 : decode cX6_init 20 = .ok (.putfield 16, 3) := by decide +kernel
theorem dX6_init_23 : decode cX6_init 23 = .ok (.aload_n 0, 1) := by decide +kernel
theorem dX6_init_24 : decode cX6_init 24 = .ok (.iconst 2, 1) := by decide +kernel
theorem dX6_init_25 : decode cX6_init 25 = .ok (.newarray .boolean, 2) := by decide +kernel
theorem dX6_init_27 : decode cX6_init 27 = .ok (.putfield 20, 3) := by decide +kernel
theorem dX6_init_30 : decode cX6_init 30 = .ok (.iconst 0, 1) := by decide +kernel
theorem dX6_init_31 : decode cX6_init 31 = .ok (.istore_n 1, 1) := by decide +kernel
theorem dX6_init_32 : decode cX6_init 32 = .ok (.iload_n 1, 1) := by decide +kernel
theorem dX6_init_33 : decode cX6_init 33 = .ok (.iconst 2, 1) := by decide +kernel
theorem dX6_init_34 : decode cX6_init 34 = .ok (.if_icmp .ge 22, 3) := by decide +kernel
theorem dX6_init_37 : decode cX6_init 37 = .ok (.aload_n 0, 1) := by decide +kernel
theorem dX6_init_38 : decode cX6_init 38 = .ok (.getfield 16, 3) := by decide +kernel
theorem dX6_init_41 : decode cX6_init 41 = .ok (.iload_n 1, 1) := by decide +kernel
theorem dX6_init_42 : decode cX6_init 42 = .ok (.new 9, 3) := by decide +kernel
theorem dX6_init_45 : decode cX6_init 45 = .ok (.dup, 1) := by decide +kernel
theorem dX6_init_46 : decode cX6_init 46 = .ok (.invokespecial 11, 3) := by decide +kernel
theorem dX6_init_49 : decode cX6_init 49 = .ok (.aastore, 1) := by decide +kernel
theorem dX6_init_50 : decode cX6_init 50 = .ok (.iinc 1 1, 3) := by decide +kernel
theorem dX6_init_53 : decode cX6_init 53 = .ok (.goto (-21), 3) := by decide +kernel
theorem dX6_init_56 : decode cX6_init 56 = .ok (.aload_n 0, 1) := by decide +kernel
theorem dX6_init_57 : decode cX6_init 57 = .ok (.new 24, 3) := by decide +kernel
theorem dX6_init_60 : decode cX6_init 60 = .ok (.dup, 1) := by decide +kernel
theorem dX6_init_61 : decode cX6_init 61 = .ok (.aload_n 0, 1) := by decide +kernel
theorem dX6_init_62 : decode cX6_init 62 = .ok (.getfield 12, 3) := by decide +kernel
theorem dX6_init_65 : decode cX6_init 65 = .ok (.invokespecial 26, 3) := by decide +kernel
theorem dX6_init_68 : decode cX6_init 68 = .ok (.putfield 29, 3) := by decide +kernel
theorem dX6_init_71 : decode cX6_init 71 = .ok (.return_, 1) := by decide +kernel
set_option maxRecDepth 20000 in
theorem B_X6_init_0 {G : Gx} {X : Cx} {h : PH} {k n : Nat} {Q : State → Prop} {S : List PV} {a0 : Nat} (C : CX_X6_init G X) (q1 : 2 ≤ a0 := by first | assumption | omega) (hS : S.length ≤ 4 := by decide) (hk2 : k + 1 ≤ 131) (hn3 : n + 5 ≤ 43092) (kk : PW G X 2 Q (k + 1) (n + 5) 8 [some (.inr a0), none] (.inr (ph_S h + 2) :: .inr a0 :: S) (ph_new h 5 5)) : PW G X 2 Q k n 0 [some (.inr a0), none] (S) h := by
  refine pw_aload_n C dX6_init_0 rfl ?_
  refine pw_objInit C q1 kw54 kw55 kwObj dX6_init_1 (by decide) (by simp only [List.length_cons]; omega) ?_
  refine pw_aload_n C dX6_init_4 rfl ?_
  refine pw_new C (t := 5) rfl inF5 tyX5_ok rfl (by decide) (by decide +kernel) kw57 kw58 kw39 dX6_init_5 hk2 hn3 ?_
  exact kk
set_option maxRecDepth 20000 in
theorem B_X6_init_8 {G : Gx} {X : Cx} {h : PH} {k n : Nat} {Q : State → Prop} {S : List PV} {a0 : Nat} {s0 : Nat} {s1 : Nat} {PQ : Option PV → PH → Prop} (C : CX_X6_init G X) (q1 : 2 ≤ s0 := by first | assumption | omega) (hM : CT_X5_init G X.2.1 [.inr s0] h PQ) (hkc : k + 32 ≤ 131) (hnc : n + 519 ≤ 43092) (hS : S.length ≤ 6 := by decide) (kk : ∀ r h', PQ r h' → PW G X 2 Q (k + 32) (n + 519) 12 [some (.inr a0), none] (r.toList ++ (.inr s0 :: .inr s1 :: S)) h') : PW G X 2 Q k n 8 [some (.inr a0), none] (.inr s0 :: .inr s1 :: S) h := by
  refine pw_dup C dX6_init_8 ?_
  exact pw_callI C (na := 0) (As := []) (S := .inr s0 :: .inr s1 :: S) hM q1 kw59 kw60 kw39 kw61 rfl (by decide +kernel) rfl dX6_init_9 (by decide) (by decide) hkc hnc (by first | exact hS | (simp only [List.length_cons]; omega)) kk
set_option maxRecDepth 20000 in
theorem B_X6_init_12 {G : Gx} {X : Cx} {h : PH} {k n : Nat} {Q : State → Prop} {S : List PV} {a0 : Nat} {s0 : Nat} {s1 : Nat} (C : CX_X6_init G X) (t1 : ph_T h s1 = 6 := by first | assumption | rfl) (hk2 : k + 1 ≤ 131) (hn3 : n + 2 ≤ 43092) (kk : PW G X 2 Q (k + 1) (n + 2) 20 [some (.inr a0), none] (.inr (ph_S (ph_setR h s1 0 s0) + 2) :: .inr a0 :: S) (ph_new (ph_setR h s1 0 s0) 13 2)) : PW G X 2 Q k n 12 [some (.inr a0), none] (.inr s0 :: .inr s1 :: S) h := by
  refine pw_putR C (t := 6) (f := 0) rfl inF6 tyX6_ok nmX6 rfl (by decide) (by decide) rfl (Or.inr ⟨rfl, rfl, rfl⟩) (Or.inl ⟨_, rfl⟩) kw310 dX6_init_12 t1 ?_
  refine pw_aload_n C dX6_init_15 rfl ?_
  refine pw_iconst C dX6_init_16 ?_
  refine pw_anew C (t := 13) (by decide) rfl kw57 C.2.2.2.2.2.2.2.2.1.2.2.2.2 dX6_init_17 (by unfold pR; decide) (by decide) (by decide) hk2 hn3 ?_
  exact kk
set_option maxRecDepth 20000 in
theorem B_X6_init_20 {G : Gx} {X : Cx} {h : PH} {k n : Nat} {Q : State → Prop} {S : List PV} {a0 : Nat} {s0 : Nat} {s1 : Nat} (C : CX_X6_init G X) (t1 : ph_T h s1 = 6 := by first | assumption | rfl) (hk2 : k + 1 ≤ 131) (hn3 : n + 2 ≤ 43092) (kk : PW G X 2 Q (k + 1) (n + 2) 27 [some (.inr a0), none] (.inr (ph_S (ph_setR h s1 1 s0) + 2) :: .inr a0 :: S) (ph_new (ph_setR h s1 1 s0) 9 2)) : PW G X 2 Q k n 20 [some (.inr a0), none] (.inr s0 :: .inr s1 :: S) h := by
  refine pw_putR C (t := 6) (f := 1) rfl inF6 tyX6_ok nmX6 rfl (by decide) (by decide) rfl (Or.inr ⟨rfl, rfl, rfl⟩) (Or.inr ⟨_, rfl⟩) kw311 dX6_init_20 t1 ?_
  refine pw_aload_n C dX6_init_23 rfl ?_
  refine pw_iconst C dX6_init_24 ?_
  refine pw_newarr C (t := 9) (atype := .boolean) (by decide) (by decide) rfl kw275 rfl (fun U cA z => z) dX6_init_25 (by unfold pR; decide) (by decide) (by decide) hk2 hn3 ?_
  exact kk
set_option maxRecDepth 20000 in
theorem B_X6_init_27 {G : Gx} {X : Cx} {h : PH} {k n : Nat} {Q : State → Prop} {S : List PV} {a0 : Nat} {s0 : Nat} {s1 : Nat} (C : CX_X6_init G X) (t1 : ph_T h s1 = 6 := by first | assumption | rfl) (kk : PW G X 2 Q k n 32 [some (.inr a0), some (.inl 0)] (S) (ph_setR h s1 2 s0)) : PW G X 2 Q k n 27 [some (.inr a0), none] (.inr s0 :: .inr s1 :: S) h := by
  refine pw_putR C (t := 6) (f := 2) rfl inF6 tyX6_ok nmX6 rfl (by decide) (by decide) rfl (Or.inr ⟨rfl, rfl, rfl⟩) (Or.inr ⟨_, rfl⟩) kw312 dX6_init_27 t1 ?_
  refine pw_iconst C dX6_init_30 ?_
  refine pw_istore_n C dX6_init_31 (by decide) ?_
  exact kk
set_option maxRecDepth 20000 in
theorem B_X6_init_32 {G : Gx} {X : Cx} {h : PH} {k n : Nat} {Q : State → Prop} {S : List PV} {a0 : Nat} {a1 : Int} (C : CX_X6_init G X) (q1 : pR a1 := by first | assumption | (unfold pR; omega)) (q2 : pR 2 := by first | assumption | (unfold pR; omega)) (kt : 2 ≤ a1 → PW G X 2 Q k n 56 [some (.inr a0), some (.inl a1)] (S) h) (kf : ¬ 2 ≤ a1 → PW G X 2 Q k n 37 [some (.inr a0), some (.inl a1)] (S) h) : PW G X 2 Q k n 32 [some (.inr a0), some (.inl a1)] (S) h := by
  refine pw_iload_n C dX6_init_32 rfl ?_
  refine pw_iconst C dX6_init_33 ?_
  exact pw_icmp_ge C 56 dX6_init_34 (by decide) q1 q2 kt kf
set_option maxRecDepth 20000 in
theorem B_X6_init_37 {G : Gx} {X : Cx} {h : PH} {k n : Nat} {Q : State → Prop} {S : List PV} {a0 : Nat} {a1 : Int} {r2 : Nat} (C : CX_X6_init G X) (t1 : ph_T h a0 = 6 := by first | assumption | rfl) (e3 : ph_R h a0 1 = r2 := by first | assumption | rfl) (hk4 : k + 1 ≤ 131) (hn5 : n + 5 ≤ 43092) (kk : PW G X 2 Q (k + 1) (n + 5) 45 [some (.inr a0), some (.inl a1)] (.inr (ph_S h + 2) :: .inl a1 :: .inr r2 :: S) (ph_new h 5 5)) : PW G X 2 Q k n 37 [some (.inr a0), some (.inl a1)] (S) h := by
  refine pw_aload_n C dX6_init_37 rfl ?_
  refine pw_getR C (t := 6) (f := 1) rfl inF6 rfl (by decide) (by decide) rfl kw311 dX6_init_38 t1 ?_
  rw [e3]
  refine pw_iload_n C dX6_init_41 rfl ?_
  refine pw_new C (t := 5) rfl inF5 tyX5_ok rfl (by decide) (by decide +kernel) kw57 kw58 kw39 dX6_init_42 hk4 hn5 ?_
  exact kk
set_option maxRecDepth 20000 in
theorem B_X6_init_45 {G : Gx} {X : Cx} {h : PH} {k n : Nat} {Q : State → Prop} {S : List PV} {a0 : Nat} {a1 : Int} {s0 : Nat} {s1 : Int} {s2 : Nat} {PQ : Option PV → PH → Prop} (C : CX_X6_init G X) (q1 : 2 ≤ s0 := by first | assumption | omega) (hM : CT_X5_init G X.2.1 [.inr s0] h PQ) (hkc : k + 32 ≤ 131) (hnc : n + 519 ≤ 43092) (hS : S.length ≤ 5 := by decide) (kk : ∀ r h', PQ r h' → PW G X 2 Q (k + 32) (n + 519) 49 [some (.inr a0), some (.inl a1)] (r.toList ++ (.inr s0 :: .inl s1 :: .inr s2 :: S)) h') : PW G X 2 Q k n 45 [some (.inr a0), some (.inl a1)] (.inr s0 :: .inl s1 :: .inr s2 :: S) h := by
  refine pw_dup C dX6_init_45 ?_
  exact pw_callI C (na := 0) (As := []) (S := .inr s0 :: .inl s1 :: .inr s2 :: S) hM q1 kw59 kw60 kw39 kw61 rfl (by decide +kernel) rfl dX6_init_46 (by decide) (by decide) hkc hnc (by first | exact hS | (simp only [List.length_cons]; omega)) kk
set_option maxRecDepth 20000 in
theorem B_X6_init_49 {G : Gx} {X : Cx} {h : PH} {k n : Nat} {Q : State → Prop} {S : List PV} {a0 : Nat} {a1 : Int} {s0 : Nat} {s1 : Int} {s2 : Nat} {m6 m6v : Nat} {m6r : vw_C} (C : CX_X6_init G X) (t1 : ph_T h s2 = m6 := by first | assumption | rfl) (t2 : ph_T h s0 = m6v := by first | assumption | rfl) (m6a : ¬ m6 < 10 := by decide) (m6b : m6 < 14 := by decide) (m6d : m6v < 8 := by decide) (m6e : vwCl[m6v]? = some m6r := by rfl) (m6c : (pw_tys G)[m6 - 8]? = some (G.2.2.2.2 m6, .object m6r.1) := by rfl) (q3 : (0 : Int) ≤ s1 := by first | assumption | omega) (q4 : s1 < (ph_L h s2 : Int) := by first | assumption | omega) (q5 : pR s1 := by first | assumption | (unfold pR; omega)) (kk : PW G X 2 Q k n 32 [some (.inr a0), some (.inl (a1 + 1))] (S) (ph_setR h s2 (Int.toNat s1) s0)) : PW G X 2 Q k n 49 [some (.inr a0), some (.inl a1)] (.inr s0 :: .inl s1 :: .inr s2 :: S) h := by
  refine pw_aast C (t := m6) (te := m6v) (r := m6r) dX6_init_49 t1 m6a m6b m6c t2 m6d m6e q3 q4 q5 ?_
  refine pw_iinc C dX6_init_50 rfl (by decide) ?_
  refine pw_goto C 32 dX6_init_53 (by decide) ?_
  exact kk
set_option maxRecDepth 20000 in
theorem B_X6_init_56 {G : Gx} {X : Cx} {h : PH} {k n : Nat} {Q : State → Prop} {S : List PV} {a0 : Nat} {a1 : Int} (C : CX_X6_init G X) (hk1 : k + 1 ≤ 131) (hn2 : n + 11 ≤ 43092) (kk : PW G X 2 Q (k + 1) (n + 11) 60 [some (.inr a0), some (.inl a1)] (.inr (ph_S h + 2) :: .inr a0 :: S) (ph_new h 2 11)) : PW G X 2 Q k n 56 [some (.inr a0), some (.inl a1)] (S) h := by
  refine pw_aload_n C dX6_init_56 rfl ?_
  refine pw_new C (t := 2) rfl inF2 tyX2_ok rfl (by decide) (by decide +kernel) kw201 kw202 kw43 dX6_init_57 hk1 hn2 ?_
  exact kk
set_option maxRecDepth 20000 in
theorem B_X6_init_60 {G : Gx} {X : Cx} {h : PH} {k n : Nat} {Q : State → Prop} {S : List PV} {a0 : Nat} {a1 : Int} {s0 : Nat} {s1 : Nat} {r2 : Nat} {PQ : Option PV → PH → Prop} (C : CX_X6_init G X) (t1 : ph_T h a0 = 6 := by first | assumption | rfl) (e3 : ph_R h a0 0 = r2 := by first | assumption | rfl) (q4 : 2 ≤ s0 := by first | assumption | omega) (hM : CT_X2_init G X.2.1 [.inr s0, .inr r2] h PQ) (hkc : k + 29 ≤ 131) (hnc : n + 41505 ≤ 43092) (hS : S.length ≤ 6 := by decide) (kk : ∀ r h', PQ r h' → PW G X 2 Q (k + 29) (n + 41505) 68 [some (.inr a0), some (.inl a1)] (r.toList ++ (.inr s0 :: .inr s1 :: S)) h') : PW G X 2 Q k n 60 [some (.inr a0), some (.inl a1)] (.inr s0 :: .inr s1 :: S) h := by
  refine pw_dup C dX6_init_60 ?_
  refine pw_aload_n C dX6_init_61 rfl ?_
  refine pw_getR C (t := 6) (f := 0) rfl inF6 rfl (by decide) (by decide) rfl kw310 dX6_init_62 t1 ?_
  rw [e3]
  exact pw_callI C (na := 1) (As := [.inr r2]) (S := .inr s0 :: .inr s1 :: S) hM q4 kw203 kw204 kw43 kw205 rfl (by decide +kernel) rfl dX6_init_65 (by decide) (by decide) hkc hnc (by first | exact hS | (simp only [List.length_cons]; omega)) kk
set_option maxRecDepth 20000 in
theorem B_X6_init_68 {G : Gx} {X : Cx} {h : PH} {k n : Nat} {a0 : Nat} {a1 : Int} {s0 : Nat} {s1 : Nat} {PQ : Option PV → PH → Prop} (C : CX_X6_init G X) (t1 : ph_T h s1 = 6 := by first | assumption | rfl) (hq : PQ none (ph_setR h s1 3 s0)) : PW G X 2 (pw_E G X PQ k n) k n 68 [some (.inr a0), some (.inl a1)] [.inr s0, .inr s1] h := by
  refine pw_putR C (t := 6) (f := 3) rfl inF6 tyX6_ok nmX6 rfl (by decide) (by decide) rfl (Or.inr ⟨rfl, rfl, rfl⟩) (Or.inl ⟨_, rfl⟩) kw313 dX6_init_68 t1 ?_
  exact pw_vreturn C dX6_init_71 hq
theorem dX6_pass_0 : decode cX6_pass 0 = .ok (.iload_n 1, 1) := by decide +kernel
theorem dX6_pass_1 : decode cX6_pass 1 = .ok (.iconst 0, 1) := by decide +kernel
theorem dX6_pass_2 : decode cX6_pass 2 = .ok (.bipush 99, 2) := by decide +kernel
theorem dX6_pass_4 : decode cX6_pass 4 = .ok (.invokestatic 33, 3) := by decide +kernel
theorem dX6_pass_7 : decode cX6_pass 7 = .ok (.ifCond .eq 13, 3) := by decide +kernel
theorem dX6_pass_10 : decode cX6_pass 10 = .ok (.iload_n 2, 1) := by decide +kernel
theorem dX6_pass_11 : decode cX6_pass 11 = .ok (.iconst 0, 1) := by decide +kernel
theorem dX6_pass_12 : decode cX6_pass 12 = .ok (.bipush 60, 2) := by decide +kernel
theorem dX6_pass_14 : decode cX6_pass 14 = .ok (.invokestatic 33, 3) := by decide +kernel
theorem dX6_pass_17 : decode cX6_pass 17 = .ok (.ifCond .ne 6, 3) := by decide +kernel
theorem dX6_pass_20 : decode cX6_pass 20 = .ok (.bipush (-2), 2) := by decide +kernel
theorem dX6_pass_22 : decode cX6_pass 22 = .ok (.ireturn, 1) := by decide +kernel
theorem dX6_pass_23 : decode cX6_pass 23 = .ok (.aload_n 0, 1) := by decide +kernel
theorem dX6_pass_24 : decode cX6_pass 24 = .ok (.getfield 12, 3) := by decide +kernel
theorem dX6_pass_27 : decode cX6_pass 27 = .ok (.iload_n 1, 1) := by decide +kernel
theorem dX6_pass_28 : decode cX6_pass 28 = .ok (.invokevirtual 37, 3) := by decide +kernel
theorem dX6_pass_31 : decode cX6_pass 31 = .ok (.ifCond .lt 6, 3) := by decide +kernel
theorem dX6_pass_34 : decode cX6_pass 34 = .ok (.bipush (-5), 2) := by decide +kernel
theorem dX6_pass_36 : decode cX6_pass 36 = .ok (.ireturn, 1) := by decide +kernel
theorem dX6_pass_37 : decode cX6_pass 37 = .ok (.aload_n 0, 1) := by decide +kernel
theorem dX6_pass_38 : decode cX6_pass 38 = .ok (.getfield 12, 3) := by decide +kernel
theorem dX6_pass_41 : decode cX6_pass 41 = .ok (.getfield 41, 3) := by decide +kernel
theorem dX6_pass_44 : decode cX6_pass 44 = .ok (.bipush 8, 2) := by decide +kernel
theorem dX6_pass_46 : decode cX6_pass 46 = .ok (.if_icmp .lt 6, 3) := by decide +kernel
theorem dX6_pass_49 : decode cX6_pass 49 = .ok (.bipush (-4), 2) := by decide +kernel
theorem dX6_pass_51 : decode cX6_pass 51 = .ok (.ireturn, 1) := by decide +kernel
theorem dX6_pass_52 : decode cX6_pass 52 = .ok (.aload_n 0, 1) := by decide +kernel
theorem dX6_pass_53 : decode cX6_pass 53 = .ok (.getfield 12, 3) := by decide +kernel
theorem dX6_pass_56 : decode cX6_pass 56 = .ok (.getfield 45, 3) := by decide +kernel
theorem dX6_pass_59 : decode cX6_pass 59 = .ok (.aload_n 0, 1) := by decide +kernel
theorem dX6_pass_60 : decode cX6_pass 60 = .ok (.getfield 12, 3) := by decide +kernel
theorem dX6_pass_63 : decode cX6_pass 63 = .ok (.getfield 41, 3) := by decide +kernel
theorem dX6_pass_66 : decode cX6_pass 66 = .ok (.aaload, 1) := by decide +kernel
theorem dX6_pass_67 : decode cX6_pass 67 = .ok (.iload_n 1, 1) := by decide +kernel
theorem dX6_pass_68 : decode cX6_pass 68 = .ok (.iload_n 2, 1) := by decide +kernel
theorem dX6_pass_69 : decode cX6_pass 69 = .ok (.invokevirtual 49, 3) := by decide +kernel
theorem dX6_pass_72 : decode cX6_pass 72 = .ok (.aload_n 0, 1) := by decide +kernel
theorem dX6_pass_73 : decode cX6_pass 73 = .ok (.getfield 12, 3) := by decide +kernel
theorem dX6_pass_76 : decode cX6_pass 76 = .ok (.dup, 1) := by decide +kernel
theorem dX6_pass_77 : decode cX6_pass 77 = .ok (.getfield 41, 3) := by decide +kernel
theorem dX6_pass_80 : decode cX6_pass 80 = .ok (.iconst 1, 1) := by decide +kernel
theorem dX6_pass_81 : decode cX6_pass 81 = .ok (.iadd, 1) := by decide +kernel
theorem dX6_pass_82 : decode cX6_pass 82 = .ok (.putfield 41, 3) := by decide +kernel
theorem dX6_pass_85 : decode cX6_pass 85 = .ok (.aload_n 0, 1) := by decide +kernel
theorem dX6_pass_86 : decode cX6_pass 86 = .ok (.getfield 29, 3) := by decide +kernel
theorem dX6_pass_89 : decode cX6_pass 89 = .ok (.invokevirtual 55, 3) := by decide +kernel
theorem dX6_pass_92 : decode cX6_pass 92 = .ok (.aload_n 0, 1) := by decide +kernel
theorem dX6_pass_93 : decode cX6_pass 93 = .ok (.getfield 12, 3) := by decide +kernel
theorem dX6_pass_96 : decode cX6_pass 96 = .ok (.getfield 41, 3) := by decide +kernel
theorem dX6_pass_99 : decode cX6_pass 99 = .ok (.ireturn, 1) := by decide +kernel
set_option maxRecDepth 20000 in
theorem B_X6_pass_0 {G : Gx} {X : Cx} {h : PH} {k n : Nat} {Q : State → Prop} {S : List PV} {a0 : Nat} {a1 : Int} {a2 : Int} {PQ : Option PV → PH → Prop} (C : CX_X6_pass G X) (hk0 : k ≤ 0 := by decide) (hn0 : n ≤ 0 := by decide) (hM : CT_X6_isIn G X.2.1 [.inl a1, .inl 0, .inl 99] h PQ) (hS : S.length ≤ 8 := by decide) (kk : ∀ r h', PQ r h' → PW G X 3 Q k n 7 [some (.inr a0), some (.inl a1), some (.inl a2)] (r.toList ++ S) h') : PW G X 3 Q k n 0 [some (.inr a0), some (.inl a1), some (.inl a2)] (S) h := by
  refine pw_iload_n C dX6_pass_0 rfl ?_
  refine pw_iconst C dX6_pass_1 ?_
  refine pw_bipush C dX6_pass_2 rfl ?_
  exact pw_callS C (na := 3) (As := [.inl a1, .inl 0, .inl 99]) (S := S) hM kw327 kw328 kw38 kw329 (by decide +kernel) rfl dX6_pass_4 (by decide) (by decide) hk0 hn0 (by first | exact hS | (simp only [List.length_cons]; omega)) kk
set_option maxRecDepth 20000 in
theorem B_X6_pass_7 {G : Gx} {X : Cx} {h : PH} {k n : Nat} {Q : State → Prop} {S : List PV} {a0 : Nat} {a1 : Int} {a2 : Int} {s0 : Int} (C : CX_X6_pass G X) (q1 : pR s0 := by first | assumption | (unfold pR; omega)) (kt : s0 = 0 → PW G X 3 Q k n 20 [some (.inr a0), some (.inl a1), some (.inl a2)] (S) h) (kf : ¬ s0 = 0 → PW G X 3 Q k n 10 [some (.inr a0), some (.inl a1), some (.inl a2)] (S) h) : PW G X 3 Q k n 7 [some (.inr a0), some (.inl a1), some (.inl a2)] (.inl s0 :: S) h := by
  exact pw_if_eq C 20 dX6_pass_7 (by decide) q1 kt kf
set_option maxRecDepth 20000 in
theorem B_X6_pass_10 {G : Gx} {X : Cx} {h : PH} {k n : Nat} {Q : State → Prop} {S : List PV} {a0 : Nat} {a1 : Int} {a2 : Int} {PQ : Option PV → PH → Prop} (C : CX_X6_pass G X) (hk0 : k ≤ 0 := by decide) (hn0 : n ≤ 0 := by decide) (hM : CT_X6_isIn G X.2.1 [.inl a2, .inl 0, .inl 60] h PQ) (hS : S.length ≤ 8 := by decide) (kk : ∀ r h', PQ r h' → PW G X 3 Q k n 17 [some (.inr a0), some (.inl a1), some (.inl a2)] (r.toList ++ S) h') : PW G X 3 Q k n 10 [some (.inr a0), some (.inl a1), some (.inl a2)] (S) h := by
  refine pw_iload_n C dX6_pass_10 rfl ?_
  refine pw_iconst C dX6_pass_11 ?_
  refine pw_bipush C dX6_pass_12 rfl ?_
  exact pw_callS C (na := 3) (As := [.inl a2, .inl 0, .inl 60]) (S := S) hM kw327 kw328 kw38 kw329 (by decide +kernel) rfl dX6_pass_14 (by decide) (by decide) hk0 hn0 (by first | exact hS | (simp only [List.length_cons]; omega)) kk
set_option maxRecDepth 20000 in
theorem B_X6_pass_17 {G : Gx} {X : Cx} {h : PH} {k n : Nat} {Q : State → Prop} {S : List PV} {a0 : Nat} {a1 : Int} {a2 : Int} {s0 : Int} (C : CX_X6_pass G X) (q1 : pR s0 := by first | assumption | (unfold pR; omega)) (kt : ¬ s0 = 0 → PW G X 3 Q k n 23 [some (.inr a0), some (.inl a1), some (.inl a2)] (S) h) (kf : s0 = 0 → PW G X 3 Q k n 20 [some (.inr a0), some (.inl a1), some (.inl a2)] (S) h) : PW G X 3 Q k n 17 [some (.inr a0), some (.inl a1), some (.inl a2)] (.inl s0 :: S) h := by
  exact pw_if_ne C 23 dX6_pass_17 (by decide) q1 kt kf
set_option maxRecDepth 20000 in
theorem B_X6_pass_20 {G : Gx} {X : Cx} {h : PH} {k n : Nat} {a0 : Nat} {a1 : Int} {a2 : Int} {PQ : Option PV → PH → Prop} (C : CX_X6_pass G X) (hq : PQ (some (.inl (-2))) h) : PW G X 3 (pw_E G X PQ k n) k n 20 [some (.inr a0), some (.inl a1), some (.inl a2)] [] h := by
  refine pw_bipush C dX6_pass_20 rfl ?_
  exact pw_ireturn C dX6_pass_22 hq
set_option maxRecDepth 20000 in
theorem B_X6_pass_23 {G : Gx} {X : Cx} {h : PH} {k n : Nat} {Q : State → Prop} {S : List PV} {a0 : Nat} {a1 : Int} {a2 : Int} {r2 : Nat} {PQ : Option PV → PH → Prop} (C : CX_X6_pass G X) (hk0 : k ≤ 0 := by decide) (hn0 : n ≤ 0 := by decide) (t1 : ph_T h a0 = 6 := by first | assumption | rfl) (e3 : ph_R h a0 0 = r2 := by first | assumption | rfl) (t4 : ph_T h r2 = 5 := by first | assumption | rfl) (hM : CT_X5_indexOf G X.2.1 [.inr r2, .inl a1] h PQ) (hS : S.length ≤ 8 := by decide) (kk : ∀ r h', PQ r h' → PW G X 3 Q k n 31 [some (.inr a0), some (.inl a1), some (.inl a2)] (r.toList ++ S) h') : PW G X 3 Q k n 23 [some (.inr a0), some (.inl a1), some (.inl a2)] (S) h := by
  refine pw_aload_n C dX6_pass_23 rfl ?_
  refine pw_getR C (t := 6) (f := 0) rfl inF6 rfl (by decide) (by decide) rfl kw310 dX6_pass_24 t1 ?_
  rw [e3]
  refine pw_iload_n C dX6_pass_27 rfl ?_
  exact pw_callV C (na := 1) (As := [.inl a1]) (S := S) hM t4 (by decide) (hcl := by rfl) kw330 kw331 kw332 kw39 kw333 (by decide +kernel) rfl dX6_pass_28 (by decide) (by decide) hk0 hn0 (by first | exact hS | (simp only [List.length_cons]; omega)) kk
set_option maxRecDepth 20000 in
theorem B_X6_pass_31 {G : Gx} {X : Cx} {h : PH} {k n : Nat} {Q : State → Prop} {S : List PV} {a0 : Nat} {a1 : Int} {a2 : Int} {s0 : Int} (C : CX_X6_pass G X) (q1 : pR s0 := by first | assumption | (unfold pR; omega)) (kt : s0 < 0 → PW G X 3 Q k n 37 [some (.inr a0), some (.inl a1), some (.inl a2)] (S) h) (kf : ¬ s0 < 0 → PW G X 3 Q k n 34 [some (.inr a0), some (.inl a1), some (.inl a2)] (S) h) : PW G X 3 Q k n 31 [some (.inr a0), some (.inl a1), some (.inl a2)] (.inl s0 :: S) h := by
  exact pw_if_lt C 37 dX6_pass_31 (by decide) q1 kt kf
set_option maxRecDepth 20000 in
theorem B_X6_pass_34 {G : Gx} {X : Cx} {h : PH} {k n : Nat} {a0 : Nat} {a1 : Int} {a2 : Int} {PQ : Option PV → PH → Prop} (C : CX_X6_pass G X) (hq : PQ (some (.inl (-5))) h) : PW G X 3 (pw_E G X PQ k n) k n 34 [some (.inr a0), some (.inl a1), some (.inl a2)] [] h := by
  refine pw_bipush C dX6_pass_34 rfl ?_
  exact pw_ireturn C dX6_pass_36 hq
set_option maxRecDepth 20000 in
theorem B_X6_pass_37 {G : Gx} {X : Cx} {h : PH} {k n : Nat} {Q : State → Prop} {S : List PV} {a0 : Nat} {a1 : Int} {a2 : Int} {r2 : Nat} {x5 : Int} (C : CX_X6_pass G X) (t1 : ph_T h a0 = 6 := by first | assumption | rfl) (e3 : ph_R h a0 0 = r2 := by first | assumption | rfl) (t4 : ph_T h r2 = 5 := by first | assumption | rfl) (e6 : ph_I h r2 4 = x5 := by first | assumption | rfl) (q7 : pR x5 := by first | assumption | (unfold pR; omega)) (q8 : pR 8 := by first | assumption | (unfold pR; omega)) (kt : x5 < 8 → PW G X 3 Q k n 52 [some (.inr a0), some (.inl a1), some (.inl a2)] (S) h) (kf : ¬ x5 < 8 → PW G X 3 Q k n 49 [some (.inr a0), some (.inl a1), some (.inl a2)] (S) h) : PW G X 3 Q k n 37 [some (.inr a0), some (.inl a1), some (.inl a2)] (S) h := by
  refine pw_aload_n C dX6_pass_37 rfl ?_
  refine pw_getR C (t := 6) (f := 0) rfl inF6 rfl (by decide) (by decide) rfl kw310 dX6_pass_38 t1 ?_
  rw [e3]
  refine pw_getI C (t := 5) (f := 4) rfl inF5 rfl (by decide) (by decide) rfl kw188 dX6_pass_41 t4 ?_
  rw [e6]
  refine pw_bipush C dX6_pass_44 rfl ?_
  exact pw_icmp_lt C 52 dX6_pass_46 (by decide) q7 q8 kt kf
set_option maxRecDepth 20000 in
theorem B_X6_pass_49 {G : Gx} {X : Cx} {h : PH} {k n : Nat} {a0 : Nat} {a1 : Int} {a2 : Int} {PQ : Option PV → PH → Prop} (C : CX_X6_pass G X) (hq : PQ (some (.inl (-4))) h) : PW G X 3 (pw_E G X PQ k n) k n 49 [some (.inr a0), some (.inl a1), some (.inl a2)] [] h := by
  refine pw_bipush C dX6_pass_49 rfl ?_
  exact pw_ireturn C dX6_pass_51 hq
set_option maxRecDepth 20000 in
theorem B_X6_pass_52 {G : Gx} {X : Cx} {h : PH} {k n : Nat} {Q : State → Prop} {S : List PV} {a0 : Nat} {a1 : Int} {a2 : Int} {r2 : Nat} {r5 : Nat} {r8 : Nat} {x11 : Int} {m17 : Nat} {m17E : String} {r18 : Nat} {PQ : Option PV → PH → Prop} (C : CX_X6_pass G X) (hk0 : k ≤ 0 := by decide) (hn0 : n ≤ 0 := by decide) (t1 : ph_T h a0 = 6 := by first | assumption | rfl) (e3 : ph_R h a0 0 = r2 := by first | assumption | rfl) (t4 : ph_T h r2 = 5 := by first | assumption | rfl) (e6 : ph_R h r2 0 = r5 := by first | assumption | rfl) (t7 : ph_T h a0 = 6 := by first | assumption | rfl) (e9 : ph_R h a0 0 = r8 := by first | assumption | rfl) (t10 : ph_T h r8 = 5 := by first | assumption | rfl) (e12 : ph_I h r8 4 = x11 := by first | assumption | rfl) (m17a : ¬ m17 < 10 := by decide) (m17b : m17 < 14 := by decide) (t13 : ph_T h r5 = m17 := by first | assumption | rfl) (m17c : (pw_tys G)[m17 - 8]? = some (G.2.2.2.2 m17, .object m17E) := by rfl) (q14 : (0 : Int) ≤ x11 := by first | assumption | omega) (q15 : x11 < (ph_L h r5 : Int) := by first | assumption | omega) (q16 : pR x11 := by first | assumption | (unfold pR; omega)) (e19 : ph_R h r5 (Int.toNat x11) = r18 := by first | assumption | rfl) (t20 : ph_T h r18 = 0 := by first | assumption | rfl) (hM : CT_X0_start G X.2.1 [.inr r18, .inl a1, .inl a2] h PQ) (hS : S.length ≤ 8 := by decide) (kk : ∀ r h', PQ r h' → PW G X 3 Q k n 72 [some (.inr a0), some (.inl a1), some (.inl a2)] (r.toList ++ S) h') : PW G X 3 Q k n 52 [some (.inr a0), some (.inl a1), some (.inl a2)] (S) h := by
  refine pw_aload_n C dX6_pass_52 rfl ?_
  refine pw_getR C (t := 6) (f := 0) rfl inF6 rfl (by decide) (by decide) rfl kw310 dX6_pass_53 t1 ?_
  rw [e3]
  refine pw_getR C (t := 5) (f := 0) rfl inF5 rfl (by decide) (by decide) rfl kw178 dX6_pass_56 t4 ?_
  rw [e6]
  refine pw_aload_n C dX6_pass_59 rfl ?_
  refine pw_getR C (t := 6) (f := 0) rfl inF6 rfl (by decide) (by decide) rfl kw310 dX6_pass_60 t7 ?_
  rw [e9]
  refine pw_getI C (t := 5) (f := 4) rfl inF5 rfl (by decide) (by decide) rfl kw188 dX6_pass_63 t10 ?_
  rw [e12]
  refine pw_aald C (t := m17) dX6_pass_66 t13 m17a m17b m17c q14 q15 q16 ?_
  rw [e19]
  refine pw_iload_n C dX6_pass_67 rfl ?_
  refine pw_iload_n C dX6_pass_68 rfl ?_
  exact pw_callV C (na := 2) (As := [.inl a1, .inl a2]) (S := S) hM t20 (by decide) (hcl := by rfl) kw334 kw335 kw336 kw41 kw337 (by decide +kernel) rfl dX6_pass_69 (by decide) (by decide) hk0 hn0 (by first | exact hS | (simp only [List.length_cons]; omega)) kk
set_option maxRecDepth 20000 in
theorem B_X6_pass_72 {G : Gx} {X : Cx} {h : PH} {k n : Nat} {Q : State → Prop} {S : List PV} {a0 : Nat} {a1 : Int} {a2 : Int} {r2 : Nat} {x5 : Int} {r9 : Nat} {PQ : Option PV → PH → Prop} (C : CX_X6_pass G X) (hk0 : k ≤ 0 := by decide) (hn0 : n ≤ 0 := by decide) (t1 : ph_T h a0 = 6 := by first | assumption | rfl) (e3 : ph_R h a0 0 = r2 := by first | assumption | rfl) (t4 : ph_T h r2 = 5 := by first | assumption | rfl) (e6 : ph_I h r2 4 = x5 := by first | assumption | rfl) (t7 : ph_T h r2 = 5 := by first | assumption | rfl) (t8 : ph_T h a0 = 6 := by first | assumption | rfl) (e10 : ph_R h a0 3 = r9 := by first | assumption | rfl) (t11 : ph_T h r9 = 2 := by first | assumption | rfl) (hM : CT_X2_forgetWays G X.2.1 [.inr r9] (ph_setI h r2 4 (x5 + 1)) PQ) (hS : S.length ≤ 8 := by decide) (kk : ∀ r h', PQ r h' → PW G X 3 Q k n 92 [some (.inr a0), some (.inl a1), some (.inl a2)] (r.toList ++ S) h') : PW G X 3 Q k n 72 [some (.inr a0), some (.inl a1), some (.inl a2)] (S) h := by
  refine pw_aload_n C dX6_pass_72 rfl ?_
  refine pw_getR C (t := 6) (f := 0) rfl inF6 rfl (by decide) (by decide) rfl kw310 dX6_pass_73 t1 ?_
  rw [e3]
  refine pw_dup C dX6_pass_76 ?_
  refine pw_getI C (t := 5) (f := 4) rfl inF5 rfl (by decide) (by decide) rfl kw188 dX6_pass_77 t4 ?_
  rw [e6]
  refine pw_iconst C dX6_pass_80 ?_
  refine pw_iadd C dX6_pass_81 ?_
  refine pw_putI C (t := 5) (f := 4) rfl inF5 tyX5_ok nmX5 rfl (by decide) (by decide) rfl (Or.inl rfl) (Or.inl rfl) kw188 dX6_pass_82 t7 ?_
  refine pw_aload_n C dX6_pass_85 rfl ?_
  refine pw_getR C (t := 6) (f := 3) rfl inF6 rfl (by decide) (by decide) rfl kw313 dX6_pass_86 t8 ?_
  rw [show ph_R (ph_setI h r2 4 (x5 + 1)) a0 3 = r9 from e10]
  exact pw_callV C (na := 0) (As := []) (S := S) hM t11 (by decide) (hcl := by rfl) kw338 kw339 kw340 kw43 kw341 (by decide +kernel) rfl dX6_pass_89 (by decide) (by decide) hk0 hn0 (by first | exact hS | (simp only [List.length_cons]; omega)) kk
set_option maxRecDepth 20000 in
theorem B_X6_pass_92 {G : Gx} {X : Cx} {h : PH} {k n : Nat} {a0 : Nat} {a1 : Int} {a2 : Int} {r2 : Nat} {x5 : Int} {PQ : Option PV → PH → Prop} (C : CX_X6_pass G X) (t1 : ph_T h a0 = 6 := by first | assumption | rfl) (e3 : ph_R h a0 0 = r2 := by first | assumption | rfl) (t4 : ph_T h r2 = 5 := by first | assumption | rfl) (e6 : ph_I h r2 4 = x5 := by first | assumption | rfl) (hq : PQ (some (.inl x5)) h) : PW G X 3 (pw_E G X PQ k n) k n 92 [some (.inr a0), some (.inl a1), some (.inl a2)] [] h := by
  refine pw_aload_n C dX6_pass_92 rfl ?_
  refine pw_getR C (t := 6) (f := 0) rfl inF6 rfl (by decide) (by decide) rfl kw310 dX6_pass_93 t1 ?_
  rw [e3]
  refine pw_getI C (t := 5) (f := 4) rfl inF5 rfl (by decide) (by decide) rfl kw188 dX6_pass_96 t4 ?_
  rw [e6]
  exact pw_ireturn C dX6_pass_99 hq
theorem dX6_point_0 : decode cX6_point 0 = .ok (.aload_n 0, 1) := by decide +kernel
theorem dX6_point_1 : decode cX6_point 1 = .ok (.getfield 12, 3) := by decide +kernel
theorem dX6_point_4 : decode cX6_point 4 = .ok (.iload_n 1, 1) := by decide +kernel
theorem dX6_point_5 : decode cX6_point 5 = .ok (.invokevirtual 37, 3) := by decide +kernel
theorem dX6_point_8 : decode cX6_point 8 = .ok (.istore 4, 2) := by decide +kernel
theorem dX6_point_10 : decode cX6_point 10 = .ok (.iload 4, 2) := by decide +kernel
theorem dX6_point_12 : decode cX6_point 12 = .ok (.ifCond .ge 5, 3) := by decide +kernel
theorem dX6_point_15 : decode cX6_point 15 = .ok (.iconst (-1), 1) := by decide +kernel
theorem dX6_point_16 : decode cX6_point 16 = .ok (.ireturn, 1) := by decide +kernel
theorem dX6_point_17 : decode cX6_point 17 = .ok (.iload_n 2, 1) := by decide +kernel
theorem dX6_point_18 : decode cX6_point 18 = .ok (.iload_n 3, 1) := by decide +kernel
theorem dX6_point_19 : decode cX6_point 19 = .ok (.invokestatic 58, 3) := by decide +kernel
theorem dX6_point_22 : decode cX6_point 22 = .ok (.ifCond .ne 6, 3) := by decide +kernel
theorem dX6_point_25 : decode cX6_point 25 = .ok (.bipush (-2), 2) := by decide +kernel
theorem dX6_point_27 : decode cX6_point 27 = .ok (.ireturn, 1) := by decide +kernel
theorem dX6_point_28 : decode cX6_point 28 = .ok (.aload_n 0, 1) := by decide +kernel
theorem dX6_point_29 : decode cX6_point 29 = .ok (.getfield 12, 3) := by decide +kernel
theorem dX6_point_32 : decode cX6_point 32 = .ok (.getfield 45, 3) := by decide +kernel
theorem dX6_point_35 : decode cX6_point 35 = .ok (.iload 4, 2) := by decide +kernel
theorem dX6_point_37 : decode cX6_point 37 = .ok (.aaload, 1) := by decide +kernel
theorem dX6_point_38 : decode cX6_point 38 = .ok (.astore 5, 2) := by decide +kernel
theorem dX6_point_40 : decode cX6_point 40 = .ok (.aload 5, 2) := by decide +kernel
theorem dX6_point_42 : decode cX6_point 42 = .ok (.invokevirtual 62, 3) := by decide +kernel
theorem dX6_point_45 : decode cX6_point 45 = .ok (.ifCond .eq 6, 3) := by decide +kernel
theorem dX6_point_48 : decode cX6_point 48 = .ok (.bipush (-3), 2) := by decide +kernel
theorem dX6_point_50 : decode cX6_point 50 = .ok (.ireturn, 1) := by decide +kernel
theorem dX6_point_51 : decode cX6_point 51 = .ok (.aload 5, 2) := by decide +kernel
theorem dX6_point_53 : decode cX6_point 53 = .ok (.getfield 66, 3) := by decide +kernel
theorem dX6_point_56 : decode cX6_point 56 = .ok (.bipush 16, 2) := by decide +kernel
theorem dX6_point_58 : decode cX6_point 58 = .ok (.if_icmp .lt 6, 3) := by decide +kernel
theorem dX6_point_61 : decode cX6_point 61 = .ok (.bipush (-4), 2) := by decide +kernel
theorem dX6_point_63 : decode cX6_point 63 = .ok (.ireturn, 1) := by decide +kernel
theorem dX6_point_64 : decode cX6_point 64 = .ok (.aload 5, 2) := by decide +kernel
theorem dX6_point_66 : decode cX6_point 66 = .ok (.iload_n 2, 1) := by decide +kernel
theorem dX6_point_67 : decode cX6_point 67 = .ok (.iload_n 3, 1) := by decide +kernel
theorem dX6_point_68 : decode cX6_point 68 = .ok (.invokevirtual 69, 3) := by decide +kernel
theorem dX6_point_71 : decode cX6_point 71 = .ok (.aload_n 0, 1) := by decide +kernel
theorem dX6_point_72 : decode cX6_point 72 = .ok (.getfield 29, 3) := by decide +kernel
theorem dX6_point_75 : decode cX6_point 75 = .ok (.invokevirtual 55, 3) := by decide +kernel
theorem dX6_point_78 : decode cX6_point 78 = .ok (.aload 5, 2) := by decide +kernel
theorem dX6_point_80 : decode cX6_point 80 = .ok (.getfield 66, 3) := by decide +kernel
theorem dX6_point_83 : decode cX6_point 83 = .ok (.ireturn, 1) := by decide +kernel
set_option maxRecDepth 20000 in
theorem B_X6_point_0 {G : Gx} {X : Cx} {h : PH} {k n : Nat} {Q : State → Prop} {S : List PV} {a0 : Nat} {a1 : Int} {a2 : Int} {a3 : Int} {r2 : Nat} {PQ : Option PV → PH → Prop} (C : CX_X6_point G X) (hk0 : k ≤ 0 := by decide) (hn0 : n ≤ 0 := by decide) (t1 : ph_T h a0 = 6 := by first | assumption | rfl) (e3 : ph_R h a0 0 = r2 := by first | assumption | rfl) (t4 : ph_T h r2 = 5 := by first | assumption | rfl) (hM : CT_X5_indexOf G X.2.1 [.inr r2, .inl a1] h PQ) (hS : S.length ≤ 8 := by decide) (kk : ∀ r h', PQ r h' → PW G X 6 Q k n 8 [some (.inr a0), some (.inl a1), some (.inl a2), some (.inl a3), none, none] (r.toList ++ S) h') : PW G X 6 Q k n 0 [some (.inr a0), some (.inl a1), some (.inl a2), some (.inl a3), none, none] (S) h := by
  refine pw_aload_n C dX6_point_0 rfl ?_
  refine pw_getR C (t := 6) (f := 0) rfl inF6 rfl (by decide) (by decide) rfl kw310 dX6_point_1 t1 ?_
  rw [e3]
  refine pw_iload_n C dX6_point_4 rfl ?_
  exact pw_callV C (na := 1) (As := [.inl a1]) (S := S) hM t4 (by decide) (hcl := by rfl) kw330 kw331 kw332 kw39 kw333 (by decide +kernel) rfl dX6_point_5 (by decide) (by decide) hk0 hn0 (by first | exact hS | (simp only [List.length_cons]; omega)) kk
set_option maxRecDepth 20000 in
theorem B_X6_point_8 {G : Gx} {X : Cx} {h : PH} {k n : Nat} {Q : State → Prop} {S : List PV} {a0 : Nat} {a1 : Int} {a2 : Int} {a3 : Int} {s0 : Int} (C : CX_X6_point G X) (q1 : pR s0 := by first | assumption | (unfold pR; omega)) (kt : 0 ≤ s0 → PW G X 6 Q k n 17 [some (.inr a0), some (.inl a1), some (.inl a2), some (.inl a3), some (.inl s0), none] (S) h) (kf : ¬ 0 ≤ s0 → PW G X 6 Q k n 15 [some (.inr a0), some (.inl a1), some (.inl a2), some (.inl a3), some (.inl s0), none] (S) h) : PW G X 6 Q k n 8 [some (.inr a0), some (.inl a1), some (.inl a2), some (.inl a3), none, none] (.inl s0 :: S) h := by
  refine pw_istore C dX6_point_8 (by decide) ?_
  refine pw_iload C dX6_point_10 rfl ?_
  exact pw_if_ge C 17 dX6_point_12 (by decide) q1 kt kf
set_option maxRecDepth 20000 in
theorem B_X6_point_15 {G : Gx} {X : Cx} {h : PH} {k n : Nat} {a0 : Nat} {a1 : Int} {a2 : Int} {a3 : Int} {a4 : Int} {PQ : Option PV → PH → Prop} (C : CX_X6_point G X) (hq : PQ (some (.inl (-1))) h) : PW G X 6 (pw_E G X PQ k n) k n 15 [some (.inr a0), some (.inl a1), some (.inl a2), some (.inl a3), some (.inl a4), none] [] h := by
  refine pw_iconst C dX6_point_15 ?_
  exact pw_ireturn C dX6_point_16 hq
set_option maxRecDepth 20000 in
theorem B_X6_point_17 {G : Gx} {X : Cx} {h : PH} {k n : Nat} {Q : State → Prop} {S : List PV} {a0 : Nat} {a1 : Int} {a2 : Int} {a3 : Int} {a4 : Int} {PQ : Option PV → PH → Prop} (C : CX_X6_point G X) (hk0 : k ≤ 0 := by decide) (hn0 : n ≤ 0 := by decide) (hM : CT_X6_isDirection G X.2.1 [.inl a2, .inl a3] h PQ) (hS : S.length ≤ 8 := by decide) (kk : ∀ r h', PQ r h' → PW G X 6 Q k n 22 [some (.inr a0), some (.inl a1), some (.inl a2), some (.inl a3), some (.inl a4), none] (r.toList ++ S) h') : PW G X 6 Q k n 17 [some (.inr a0), some (.inl a1), some (.inl a2), some (.inl a3), some (.inl a4), none] (S) h := by
  refine pw_iload_n C dX6_point_17 rfl ?_
  refine pw_iload_n C dX6_point_18 rfl ?_
  exact pw_callS C (na := 2) (As := [.inl a2, .inl a3]) (S := S) hM kw346 kw347 kw38 kw348 (by decide +kernel) rfl dX6_point_19 (by decide) (by decide) hk0 hn0 (by first | exact hS | (simp only [List.length_cons]; omega)) kk
set_option maxRecDepth 20000 in
theorem B_X6_point_22 {G : Gx} {X : Cx} {h : PH} {k n : Nat} {Q : State → Prop} {S : List PV} {a0 : Nat} {a1 : Int} {a2 : Int} {a3 : Int} {a4 : Int} {s0 : Int} (C : CX_X6_point G X) (q1 : pR s0 := by first | assumption | (unfold pR; omega)) (kt : ¬ s0 = 0 → PW G X 6 Q k n 28 [some (.inr a0), some (.inl a1), some (.inl a2), some (.inl a3), some (.inl a4), none] (S) h) (kf : s0 = 0 → PW G X 6 Q k n 25 [some (.inr a0), some (.inl a1), some (.inl a2), some (.inl a3), some (.inl a4), none] (S) h) : PW G X 6 Q k n 22 [some (.inr a0), some (.inl a1), some (.inl a2), some (.inl a3), some (.inl a4), none] (.inl s0 :: S) h := by
  exact pw_if_ne C 28 dX6_point_22 (by decide) q1 kt kf
set_option maxRecDepth 20000 in
theorem B_X6_point_25 {G : Gx} {X : Cx} {h : PH} {k n : Nat} {a0 : Nat} {a1 : Int} {a2 : Int} {a3 : Int} {a4 : Int} {PQ : Option PV → PH → Prop} (C : CX_X6_point G X) (hq : PQ (some (.inl (-2))) h) : PW G X 6 (pw_E G X PQ k n) k n 25 [some (.inr a0), some (.inl a1), some (.inl a2), some (.inl a3), some (.inl a4), none] [] h := by
  refine pw_bipush C dX6_point_25 rfl ?_
  exact pw_ireturn C dX6_point_27 hq
set_option maxRecDepth 20000 in
theorem B_X6_point_28 {G : Gx} {X : Cx} {h : PH} {k n : Nat} {Q : State → Prop} {S : List PV} {a0 : Nat} {a1 : Int} {a2 : Int} {a3 : Int} {a4 : Int} {r2 : Nat} {r5 : Nat} {m11 : Nat} {m11E : String} {r12 : Nat} {PQ : Option PV → PH → Prop} (C : CX_X6_point G X) (hk0 : k ≤ 0 := by decide) (hn0 : n ≤ 0 := by decide) (t1 : ph_T h a0 = 6 := by first | assumption | rfl) (e3 : ph_R h a0 0 = r2 := by first | assumption | rfl) (t4 : ph_T h r2 = 5 := by first | assumption | rfl) (e6 : ph_R h r2 0 = r5 := by first | assumption | rfl) (m11a : ¬ m11 < 10 := by decide) (m11b : m11 < 14 := by decide) (t7 : ph_T h r5 = m11 := by first | assumption | rfl) (m11c : (pw_tys G)[m11 - 8]? = some (G.2.2.2.2 m11, .object m11E) := by rfl) (q8 : (0 : Int) ≤ a4 := by first | assumption | omega) (q9 : a4 < (ph_L h r5 : Int) := by first | assumption | omega) (q10 : pR a4 := by first | assumption | (unfold pR; omega)) (e13 : ph_R h r5 (Int.toNat a4) = r12 := by first | assumption | rfl) (q14 : 2 ≤ r12 := by first | assumption | omega) (t15 : ph_T h r12 = 0 := by first | assumption | rfl) (hM : CT_X0_isTaken G X.2.1 [.inr r12] h PQ) (hS : S.length ≤ 8 := by decide) (kk : ∀ r h', PQ r h' → PW G X 6 Q k n 45 [some (.inr a0), some (.inl a1), some (.inl a2), some (.inl a3), some (.inl a4), some (.inr r12)] (r.toList ++ S) h') : PW G X 6 Q k n 28 [some (.inr a0), some (.inl a1), some (.inl a2), some (.inl a3), some (.inl a4), none] (S) h := by
  refine pw_aload_n C dX6_point_28 rfl ?_
  refine pw_getR C (t := 6) (f := 0) rfl inF6 rfl (by decide) (by decide) rfl kw310 dX6_point_29 t1 ?_
  rw [e3]
  refine pw_getR C (t := 5) (f := 0) rfl inF5 rfl (by decide) (by decide) rfl kw178 dX6_point_32 t4 ?_
  rw [e6]
  refine pw_iload C dX6_point_35 rfl ?_
  refine pw_aald C (t := m11) dX6_point_37 t7 m11a m11b m11c q8 q9 q10 ?_
  rw [e13]
  refine pw_astore C dX6_point_38 (by decide) q14 ?_
  refine pw_aload C dX6_point_40 rfl ?_
  exact pw_callV C (na := 0) (As := []) (S := S) hM t15 (by decide) (hcl := by rfl) kw355 kw356 kw357 kw41 kw358 (by decide +kernel) rfl dX6_point_42 (by decide) (by decide) hk0 hn0 (by first | exact hS | (simp only [List.length_cons]; omega)) kk
set_option maxRecDepth 20000 in
theorem B_X6_point_45 {G : Gx} {X : Cx} {h : PH} {k n : Nat} {Q : State → Prop} {S : List PV} {a0 : Nat} {a1 : Int} {a2 : Int} {a3 : Int} {a4 : Int} {a5 : Nat} {s0 : Int} (C : CX_X6_point G X) (q1 : pR s0 := by first | assumption | (unfold pR; omega)) (kt : s0 = 0 → PW G X 6 Q k n 51 [some (.inr a0), some (.inl a1), some (.inl a2), some (.inl a3), some (.inl a4), some (.inr a5)] (S) h) (kf : ¬ s0 = 0 → PW G X 6 Q k n 48 [some (.inr a0), some (.inl a1), some (.inl a2), some (.inl a3), some (.inl a4), some (.inr a5)] (S) h) : PW G X 6 Q k n 45 [some (.inr a0), some (.inl a1), some (.inl a2), some (.inl a3), some (.inl a4), some (.inr a5)] (.inl s0 :: S) h := by
  exact pw_if_eq C 51 dX6_point_45 (by decide) q1 kt kf
set_option maxRecDepth 20000 in
theorem B_X6_point_48 {G : Gx} {X : Cx} {h : PH} {k n : Nat} {a0 : Nat} {a1 : Int} {a2 : Int} {a3 : Int} {a4 : Int} {a5 : Nat} {PQ : Option PV → PH → Prop} (C : CX_X6_point G X) (hq : PQ (some (.inl (-3))) h) : PW G X 6 (pw_E G X PQ k n) k n 48 [some (.inr a0), some (.inl a1), some (.inl a2), some (.inl a3), some (.inl a4), some (.inr a5)] [] h := by
  refine pw_bipush C dX6_point_48 rfl ?_
  exact pw_ireturn C dX6_point_50 hq
set_option maxRecDepth 20000 in
theorem B_X6_point_51 {G : Gx} {X : Cx} {h : PH} {k n : Nat} {Q : State → Prop} {S : List PV} {a0 : Nat} {a1 : Int} {a2 : Int} {a3 : Int} {a4 : Int} {a5 : Nat} {x2 : Int} (C : CX_X6_point G X) (t1 : ph_T h a5 = 0 := by first | assumption | rfl) (e3 : ph_I h a5 4 = x2 := by first | assumption | rfl) (q4 : pR x2 := by first | assumption | (unfold pR; omega)) (q5 : pR 16 := by first | assumption | (unfold pR; omega)) (kt : x2 < 16 → PW G X 6 Q k n 64 [some (.inr a0), some (.inl a1), some (.inl a2), some (.inl a3), some (.inl a4), some (.inr a5)] (S) h) (kf : ¬ x2 < 16 → PW G X 6 Q k n 61 [some (.inr a0), some (.inl a1), some (.inl a2), some (.inl a3), some (.inl a4), some (.inr a5)] (S) h) : PW G X 6 Q k n 51 [some (.inr a0), some (.inl a1), some (.inl a2), some (.inl a3), some (.inl a4), some (.inr a5)] (S) h := by
  refine pw_aload C dX6_point_51 rfl ?_
  refine pw_getI C (t := 0) (f := 4) rfl inF0 rfl (by decide) (by decide) rfl kw122 dX6_point_53 t1 ?_
  rw [e3]
  refine pw_bipush C dX6_point_56 rfl ?_
  exact pw_icmp_lt C 64 dX6_point_58 (by decide) q4 q5 kt kf
set_option maxRecDepth 20000 in
theorem B_X6_point_61 {G : Gx} {X : Cx} {h : PH} {k n : Nat} {a0 : Nat} {a1 : Int} {a2 : Int} {a3 : Int} {a4 : Int} {a5 : Nat} {PQ : Option PV → PH → Prop} (C : CX_X6_point G X) (hq : PQ (some (.inl (-4))) h) : PW G X 6 (pw_E G X PQ k n) k n 61 [some (.inr a0), some (.inl a1), some (.inl a2), some (.inl a3), some (.inl a4), some (.inr a5)] [] h := by
  refine pw_bipush C dX6_point_61 rfl ?_
  exact pw_ireturn C dX6_point_63 hq
set_option maxRecDepth 20000 in
theorem B_X6_point_64 {G : Gx} {X : Cx} {h : PH} {k n : Nat} {Q : State → Prop} {S : List PV} {a0 : Nat} {a1 : Int} {a2 : Int} {a3 : Int} {a4 : Int} {a5 : Nat} {PQ : Option PV → PH → Prop} (C : CX_X6_point G X) (hk0 : k ≤ 0 := by decide) (hn0 : n ≤ 0 := by decide) (t1 : ph_T h a5 = 0 := by first | assumption | rfl) (hM : CT_X0_addPoint G X.2.1 [.inr a5, .inl a2, .inl a3] h PQ) (hS : S.length ≤ 8 := by decide) (kk : ∀ r h', PQ r h' → PW G X 6 Q k n 71 [some (.inr a0), some (.inl a1), some (.inl a2), some (.inl a3), some (.inl a4), some (.inr a5)] (r.toList ++ S) h') : PW G X 6 Q k n 64 [some (.inr a0), some (.inl a1), some (.inl a2), some (.inl a3), some (.inl a4), some (.inr a5)] (S) h := by
  refine pw_aload C dX6_point_64 rfl ?_
  refine pw_iload_n C dX6_point_66 rfl ?_
  refine pw_iload_n C dX6_point_67 rfl ?_
  exact pw_callV C (na := 2) (As := [.inl a2, .inl a3]) (S := S) hM t1 (by decide) (hcl := by rfl) kw359 kw360 kw361 kw41 kw362 (by decide +kernel) rfl dX6_point_68 (by decide) (by decide) hk0 hn0 (by first | exact hS | (simp only [List.length_cons]; omega)) kk
set_option maxRecDepth 20000 in
theorem B_X6_point_71 {G : Gx} {X : Cx} {h : PH} {k n : Nat} {Q : State → Prop} {S : List PV} {a0 : Nat} {a1 : Int} {a2 : Int} {a3 : Int} {a4 : Int} {a5 : Nat} {r2 : Nat} {PQ : Option PV → PH → Prop} (C : CX_X6_point G X) (hk0 : k ≤ 0 := by decide) (hn0 : n ≤ 0 := by decide) (t1 : ph_T h a0 = 6 := by first | assumption | rfl) (e3 : ph_R h a0 3 = r2 := by first | assumption | rfl) (t4 : ph_T h r2 = 2 := by first | assumption | rfl) (hM : CT_X2_forgetWays G X.2.1 [.inr r2] h PQ) (hS : S.length ≤ 8 := by decide) (kk : ∀ r h', PQ r h' → PW G X 6 Q k n 78 [some (.inr a0), some (.inl a1), some (.inl a2), some (.inl a3), some (.inl a4), some (.inr a5)] (r.toList ++ S) h') : PW G X 6 Q k n 71 [some (.inr a0), some (.inl a1), some (.inl a2), some (.inl a3), some (.inl a4), some (.inr a5)] (S) h := by
  refine pw_aload_n C dX6_point_71 rfl ?_
  refine pw_getR C (t := 6) (f := 3) rfl inF6 rfl (by decide) (by decide) rfl kw313 dX6_point_72 t1 ?_
  rw [e3]
  exact pw_callV C (na := 0) (As := []) (S := S) hM t4 (by decide) (hcl := by rfl) kw338 kw339 kw340 kw43 kw341 (by decide +kernel) rfl dX6_point_75 (by decide) (by decide) hk0 hn0 (by first | exact hS | (simp only [List.length_cons]; omega)) kk
set_option maxRecDepth 20000 in
theorem B_X6_point_78 {G : Gx} {X : Cx} {h : PH} {k n : Nat} {a0 : Nat} {a1 : Int} {a2 : Int} {a3 : Int} {a4 : Int} {a5 : Nat} {x2 : Int} {PQ : Option PV → PH → Prop} (C : CX_X6_point G X) (t1 : ph_T h a5 = 0 := by first | assumption | rfl) (e3 : ph_I h a5 4 = x2 := by first | assumption | rfl) (hq : PQ (some (.inl x2)) h) : PW G X 6 (pw_E G X PQ k n) k n 78 [some (.inr a0), some (.inl a1), some (.inl a2), some (.inl a3), some (.inl a4), some (.inr a5)] [] h := by
  refine pw_aload C dX6_point_78 rfl ?_
  refine pw_getI C (t := 0) (f := 4) rfl inF0 rfl (by decide) (by decide) rfl kw122 dX6_point_80 t1 ?_
  rw [e3]
  exact pw_ireturn C dX6_point_83 hq
theorem dX6_drop_0 : decode cX6_drop 0 = .ok (.aload_n 0, 1) := by decide +kernel
theorem dX6_drop_1 : decode cX6_drop 1 = .ok (.getfield 12, 3) := by decide +kernel
theorem dX6_drop_4 : decode cX6_drop 4 = .ok (.iload_n 1, 1) := by decide +kernel
theorem dX6_drop_5 : decode cX6_drop 5 = .ok (.invokevirtual 37, 3) := by decide +kernel
theorem dX6_drop_8 : decode cX6_drop 8 = .ok (.istore_n 2, 1) := by decide +kernel
theorem dX6_drop_9 : decode cX6_drop 9 = .ok (.iload_n 2, 1) := by decide +kernel
theorem dX6_drop_10 : decode cX6_drop 10 = .ok (.ifCond .ge 5, 3) := by decide +kernel
theorem dX6_drop_13 : decode cX6_drop 13 = .ok (.iconst (-1), 1) := by decide +kernel
theorem dX6_drop_14 : decode cX6_drop 14 = .ok (.ireturn, 1) := by decide +kernel
theorem dX6_drop_15 : decode cX6_drop 15 = .ok (.aload_n 0, 1) := by decide +kernel
theorem dX6_drop_16 : decode cX6_drop 16 = .ok (.getfield 12, 3) := by decide +kernel
theorem dX6_drop_19 : decode cX6_drop 19 = .ok (.iload_n 2, 1) := by decide +kernel
theorem dX6_drop_20 : decode cX6_drop 20 = .ok (.invokevirtual 72, 3) := by decide +kernel
theorem dX6_drop_23 : decode cX6_drop 23 = .ok (.aload_n 0, 1) := by decide +kernel
theorem dX6_drop_24 : decode cX6_drop 24 = .ok (.getfield 29, 3) := by decide +kernel
theorem dX6_drop_27 : decode cX6_drop 27 = .ok (.invokevirtual 55, 3) := by decide +kernel
theorem dX6_drop_30 : decode cX6_drop 30 = .ok (.aload_n 0, 1) := by decide +kernel
theorem dX6_drop_31 : decode cX6_drop 31 = .ok (.getfield 12, 3) := by decide +kernel
theorem dX6_drop_34 : decode cX6_drop 34 = .ok (.getfield 41, 3) := by decide +kernel
theorem dX6_drop_37 : decode cX6_drop 37 = .ok (.ireturn, 1) := by decide +kernel
set_option maxRecDepth 20000 in
theorem B_X6_drop_0 {G : Gx} {X : Cx} {h : PH} {k n : Nat} {Q : State → Prop} {S : List PV} {a0 : Nat} {a1 : Int} {r2 : Nat} {PQ : Option PV → PH → Prop} (C : CX_X6_drop G X) (hk0 : k ≤ 0 := by decide) (hn0 : n ≤ 0 := by decide) (t1 : ph_T h a0 = 6 := by first | assumption | rfl) (e3 : ph_R h a0 0 = r2 := by first | assumption | rfl) (t4 : ph_T h r2 = 5 := by first | assumption | rfl) (hM : CT_X5_indexOf G X.2.1 [.inr r2, .inl a1] h PQ) (hS : S.length ≤ 8 := by decide) (kk : ∀ r h', PQ r h' → PW G X 3 Q k n 8 [some (.inr a0), some (.inl a1), none] (r.toList ++ S) h') : PW G X 3 Q k n 0 [some (.inr a0), some (.inl a1), none] (S) h := by
  refine pw_aload_n C dX6_drop_0 rfl ?_
  refine pw_getR C (t := 6) (f := 0) rfl inF6 rfl (by decide) (by decide) rfl kw310 dX6_drop_1 t1 ?_
  rw [e3]
  refine pw_iload_n C dX6_drop_4 rfl ?_
  exact pw_callV C (na := 1) (As := [.inl a1]) (S := S) hM t4 (by decide) (hcl := by rfl) kw330 kw331 kw332 kw39 kw333 (by decide +kernel) rfl dX6_drop_5 (by decide) (by decide) hk0 hn0 (by first | exact hS | (simp only [List.length_cons]; omega)) kk
set_option maxRecDepth 20000 in
theorem B_X6_drop_8 {G : Gx} {X : Cx} {h : PH} {k n : Nat} {Q : State → Prop} {S : List PV} {a0 : Nat} {a1 : Int} {s0 : Int} (C : CX_X6_drop G X) (q1 : pR s0 := by first | assumption | (unfold pR; omega)) (kt : 0 ≤ s0 → PW G X 3 Q k n 15 [some (.inr a0), some (.inl a1), some (.inl s0)] (S) h) (kf : ¬ 0 ≤ s0 → PW G X 3 Q k n 13 [some (.inr a0), some (.inl a1), some (.inl s0)] (S) h) : PW G X 3 Q k n 8 [some (.inr a0), some (.inl a1), none] (.inl s0 :: S) h := by
  refine pw_istore_n C dX6_drop_8 (by decide) ?_
  refine pw_iload_n C dX6_drop_9 rfl ?_
  exact pw_if_ge C 15 dX6_drop_10 (by decide) q1 kt kf
set_option maxRecDepth 20000 in
theorem B_X6_drop_13 {G : Gx} {X : Cx} {h : PH} {k n : Nat} {a0 : Nat} {a1 : Int} {a2 : Int} {PQ : Option PV → PH → Prop} (C : CX_X6_drop G X) (hq : PQ (some (.inl (-1))) h) : PW G X 3 (pw_E G X PQ k n) k n 13 [some (.inr a0), some (.inl a1), some (.inl a2)] [] h := by
  refine pw_iconst C dX6_drop_13 ?_
  exact pw_ireturn C dX6_drop_14 hq
set_option maxRecDepth 20000 in
theorem B_X6_drop_15 {G : Gx} {X : Cx} {h : PH} {k n : Nat} {Q : State → Prop} {S : List PV} {a0 : Nat} {a1 : Int} {a2 : Int} {r2 : Nat} {PQ : Option PV → PH → Prop} (C : CX_X6_drop G X) (hk0 : k ≤ 0 := by decide) (hn0 : n ≤ 0 := by decide) (t1 : ph_T h a0 = 6 := by first | assumption | rfl) (e3 : ph_R h a0 0 = r2 := by first | assumption | rfl) (t4 : ph_T h r2 = 5 := by first | assumption | rfl) (hM : CT_X5_removeFlight G X.2.1 [.inr r2, .inl a2] h PQ) (hS : S.length ≤ 8 := by decide) (kk : ∀ r h', PQ r h' → PW G X 3 Q k n 23 [some (.inr a0), some (.inl a1), some (.inl a2)] (r.toList ++ S) h') : PW G X 3 Q k n 15 [some (.inr a0), some (.inl a1), some (.inl a2)] (S) h := by
  refine pw_aload_n C dX6_drop_15 rfl ?_
  refine pw_getR C (t := 6) (f := 0) rfl inF6 rfl (by decide) (by decide) rfl kw310 dX6_drop_16 t1 ?_
  rw [e3]
  refine pw_iload_n C dX6_drop_19 rfl ?_
  exact pw_callV C (na := 1) (As := [.inl a2]) (S := S) hM t4 (by decide) (hcl := by rfl) kw367 kw368 kw369 kw39 kw370 (by decide +kernel) rfl dX6_drop_20 (by decide) (by decide) hk0 hn0 (by first | exact hS | (simp only [List.length_cons]; omega)) kk
set_option maxRecDepth 20000 in
theorem B_X6_drop_23 {G : Gx} {X : Cx} {h : PH} {k n : Nat} {Q : State → Prop} {S : List PV} {a0 : Nat} {a1 : Int} {a2 : Int} {r2 : Nat} {PQ : Option PV → PH → Prop} (C : CX_X6_drop G X) (hk0 : k ≤ 0 := by decide) (hn0 : n ≤ 0 := by decide) (t1 : ph_T h a0 = 6 := by first | assumption | rfl) (e3 : ph_R h a0 3 = r2 := by first | assumption | rfl) (t4 : ph_T h r2 = 2 := by first | assumption | rfl) (hM : CT_X2_forgetWays G X.2.1 [.inr r2] h PQ) (hS : S.length ≤ 8 := by decide) (kk : ∀ r h', PQ r h' → PW G X 3 Q k n 30 [some (.inr a0), some (.inl a1), some (.inl a2)] (r.toList ++ S) h') : PW G X 3 Q k n 23 [some (.inr a0), some (.inl a1), some (.inl a2)] (S) h := by
  refine pw_aload_n C dX6_drop_23 rfl ?_
  refine pw_getR C (t := 6) (f := 3) rfl inF6 rfl (by decide) (by decide) rfl kw313 dX6_drop_24 t1 ?_
  rw [e3]
  exact pw_callV C (na := 0) (As := []) (S := S) hM t4 (by decide) (hcl := by rfl) kw338 kw339 kw340 kw43 kw341 (by decide +kernel) rfl dX6_drop_27 (by decide) (by decide) hk0 hn0 (by first | exact hS | (simp only [List.length_cons]; omega)) kk
set_option maxRecDepth 20000 in
theorem B_X6_drop_30 {G : Gx} {X : Cx} {h : PH} {k n : Nat} {a0 : Nat} {a1 : Int} {a2 : Int} {r2 : Nat} {x5 : Int} {PQ : Option PV → PH → Prop} (C : CX_X6_drop G X) (t1 : ph_T h a0 = 6 := by first | assumption | rfl) (e3 : ph_R h a0 0 = r2 := by first | assumption | rfl) (t4 : ph_T h r2 = 5 := by first | assumption | rfl) (e6 : ph_I h r2 4 = x5 := by first | assumption | rfl) (hq : PQ (some (.inl x5)) h) : PW G X 3 (pw_E G X PQ k n) k n 30 [some (.inr a0), some (.inl a1), some (.inl a2)] [] h := by
  refine pw_aload_n C dX6_drop_30 rfl ?_
  refine pw_getR C (t := 6) (f := 0) rfl inF6 rfl (by decide) (by decide) rfl kw310 dX6_drop_31 t1 ?_
  rw [e3]
  refine pw_getI C (t := 5) (f := 4) rfl inF5 rfl (by decide) (by decide) rfl kw188 dX6_drop_34 t4 ?_
  rw [e6]
  exact pw_ireturn C dX6_drop_37 hq
theorem dX6_stand_0 : decode cX6_stand 0 = .ok (.iload_n 1, 1) := by decide +kernel
theorem dX6_stand_1 : decode cX6_stand 1 = .ok (.invokestatic 76, 3) := by decide +kernel
theorem dX6_stand_4 : decode cX6_stand 4 = .ok (.ifCond .ne 5, 3) := by decide +kernel
theorem dX6_stand_7 : decode cX6_stand 7 = .ok (.iconst (-1), 1) := by decide +kernel
theorem dX6_stand_8 : decode cX6_stand 8 = .ok (.ireturn, 1) := by decide +kernel
theorem dX6_stand_9 : decode cX6_stand 9 = .ok (.aload_n 0, 1) := by decide +kernel
theorem dX6_stand_10 : decode cX6_stand 10 = .ok (.getfield 12, 3) := by decide +kernel
theorem dX6_stand_13 : decode cX6_stand 13 = .ok (.getfield 80, 3) := by decide +kernel
theorem dX6_stand_16 : decode cX6_stand 16 = .ok (.iload_n 1, 1) := by decide +kernel
theorem dX6_stand_17 : decode cX6_stand 17 = .ok (.aaload, 1) := by decide +kernel
theorem dX6_stand_18 : decode cX6_stand 18 = .ok (.astore 5, 2) := by decide +kernel
theorem dX6_stand_20 : decode cX6_stand 20 = .ok (.iload_n 2, 1) := by decide +kernel
theorem dX6_stand_21 : decode cX6_stand 21 = .ok (.aload 5, 2) := by decide +kernel
theorem dX6_stand_23 : decode cX6_stand 23 = .ok (.getfield 84, 3) := by decide +kernel
theorem dX6_stand_26 : decode cX6_stand 26 = .ok (.ineg, 1) := by decide +kernel
theorem dX6_stand_27 : decode cX6_stand 27 = .ok (.aload 5, 2) := by decide +kernel
theorem dX6_stand_29 : decode cX6_stand 29 = .ok (.getfield 84, 3) := by decide +kernel
theorem dX6_stand_32 : decode cX6_stand 32 = .ok (.invokestatic 33, 3) := by decide +kernel
theorem dX6_stand_35 : decode cX6_stand 35 = .ok (.ifCond .eq 18, 3) := by decide +kernel
theorem dX6_stand_38 : decode cX6_stand 38 = .ok (.iload_n 3, 1) := by decide +kernel
theorem dX6_stand_39 : decode cX6_stand 39 = .ok (.invokestatic 89, 3) := by decide +kernel
theorem dX6_stand_42 : decode cX6_stand 42 = .ok (.ifCond .eq 11, 3) := by decide +kernel
theorem dX6_stand_45 : decode cX6_stand 45 = .ok (.iload 4, 2) := by decide +kernel
theorem dX6_stand_47 : decode cX6_stand 47 = .ok (.invokestatic 92, 3) := by decide +kernel
theorem dX6_stand_50 : decode cX6_stand 50 = .ok (.ifCond .ne 6, 3) := by decide +kernel
theorem dX6_stand_53 : decode cX6_stand 53 = .ok (.bipush (-2), 2) := by decide +kernel
theorem dX6_stand_55 : decode cX6_stand 55 = .ok (.ireturn, 1) := by decide +kernel
theorem dX6_stand_56 : decode cX6_stand 56 = .ok (.aload 5, 2) := by decide +kernel
theorem dX6_stand_58 : decode cX6_stand 58 = .ok (.iload_n 2, 1) := by decide +kernel
theorem dX6_stand_59 : decode cX6_stand 59 = .ok (.iload_n 3, 1) := by decide +kernel
theorem dX6_stand_60 : decode cX6_stand 60 = .ok (.iload 4, 2) := by decide +kernel
theorem dX6_stand_62 : decode cX6_stand 62 = .ok (.invokevirtual 95, 3) := by decide +kernel
theorem dX6_stand_65 : decode cX6_stand 65 = .ok (.aload_n 0, 1) := by decide +kernel
theorem dX6_stand_66 : decode cX6_stand 66 = .ok (.getfield 29, 3) := by decide +kernel
theorem dX6_stand_69 : decode cX6_stand 69 = .ok (.invokevirtual 55, 3) := by decide +kernel
theorem dX6_stand_72 : decode cX6_stand 72 = .ok (.iconst 1, 1) := by decide +kernel
theorem dX6_stand_73 : decode cX6_stand 73 = .ok (.ireturn, 1) := by decide +kernel
set_option maxRecDepth 20000 in
theorem B_X6_stand_0 {G : Gx} {X : Cx} {h : PH} {k n : Nat} {Q : State → Prop} {S : List PV} {a0 : Nat} {a1 : Int} {a2 : Int} {a3 : Int} {a4 : Int} {PQ : Option PV → PH → Prop} (C : CX_X6_stand G X) (hk0 : k ≤ 0 := by decide) (hn0 : n ≤ 0 := by decide) (hM : CT_X6_isDish G X.2.1 [.inl a1] h PQ) (hS : S.length ≤ 8 := by decide) (kk : ∀ r h', PQ r h' → PW G X 6 Q k n 4 [some (.inr a0), some (.inl a1), some (.inl a2), some (.inl a3), some (.inl a4), none] (r.toList ++ S) h') : PW G X 6 Q k n 0 [some (.inr a0), some (.inl a1), some (.inl a2), some (.inl a3), some (.inl a4), none] (S) h := by
  refine pw_iload_n C dX6_stand_0 rfl ?_
  exact pw_callS C (na := 1) (As := [.inl a1]) (S := S) hM kw375 kw376 kw38 kw377 (by decide +kernel) rfl dX6_stand_1 (by decide) (by decide) hk0 hn0 (by first | exact hS | (simp only [List.length_cons]; omega)) kk
set_option maxRecDepth 20000 in
theorem B_X6_stand_4 {G : Gx} {X : Cx} {h : PH} {k n : Nat} {Q : State → Prop} {S : List PV} {a0 : Nat} {a1 : Int} {a2 : Int} {a3 : Int} {a4 : Int} {s0 : Int} (C : CX_X6_stand G X) (q1 : pR s0 := by first | assumption | (unfold pR; omega)) (kt : ¬ s0 = 0 → PW G X 6 Q k n 9 [some (.inr a0), some (.inl a1), some (.inl a2), some (.inl a3), some (.inl a4), none] (S) h) (kf : s0 = 0 → PW G X 6 Q k n 7 [some (.inr a0), some (.inl a1), some (.inl a2), some (.inl a3), some (.inl a4), none] (S) h) : PW G X 6 Q k n 4 [some (.inr a0), some (.inl a1), some (.inl a2), some (.inl a3), some (.inl a4), none] (.inl s0 :: S) h := by
  exact pw_if_ne C 9 dX6_stand_4 (by decide) q1 kt kf
set_option maxRecDepth 20000 in
theorem B_X6_stand_7 {G : Gx} {X : Cx} {h : PH} {k n : Nat} {a0 : Nat} {a1 : Int} {a2 : Int} {a3 : Int} {a4 : Int} {PQ : Option PV → PH → Prop} (C : CX_X6_stand G X) (hq : PQ (some (.inl (-1))) h) : PW G X 6 (pw_E G X PQ k n) k n 7 [some (.inr a0), some (.inl a1), some (.inl a2), some (.inl a3), some (.inl a4), none] [] h := by
  refine pw_iconst C dX6_stand_7 ?_
  exact pw_ireturn C dX6_stand_8 hq
set_option maxRecDepth 20000 in
theorem B_X6_stand_9 {G : Gx} {X : Cx} {h : PH} {k n : Nat} {Q : State → Prop} {S : List PV} {a0 : Nat} {a1 : Int} {a2 : Int} {a3 : Int} {a4 : Int} {r2 : Nat} {r5 : Nat} {m11 : Nat} {m11E : String} {r12 : Nat} {x16 : Int} {x19 : Int} {PQ : Option PV → PH → Prop} (C : CX_X6_stand G X) (hk0 : k ≤ 0 := by decide) (hn0 : n ≤ 0 := by decide) (t1 : ph_T h a0 = 6 := by first | assumption | rfl) (e3 : ph_R h a0 0 = r2 := by first | assumption | rfl) (t4 : ph_T h r2 = 5 := by first | assumption | rfl) (e6 : ph_R h r2 1 = r5 := by first | assumption | rfl) (m11a : ¬ m11 < 10 := by decide) (m11b : m11 < 14 := by decide) (t7 : ph_T h r5 = m11 := by first | assumption | rfl) (m11c : (pw_tys G)[m11 - 8]? = some (G.2.2.2.2 m11, .object m11E) := by rfl) (q8 : (0 : Int) ≤ a1 := by first | assumption | omega) (q9 : a1 < (ph_L h r5 : Int) := by first | assumption | omega) (q10 : pR a1 := by first | assumption | (unfold pR; omega)) (e13 : ph_R h r5 (Int.toNat a1) = r12 := by first | assumption | rfl) (q14 : 2 ≤ r12 := by first | assumption | omega) (t15 : ph_T h r12 = 1 := by first | assumption | rfl) (e17 : ph_I h r12 3 = x16 := by first | assumption | rfl) (t18 : ph_T h r12 = 1 := by first | assumption | rfl) (e20 : ph_I h r12 3 = x19 := by first | assumption | rfl) (hM : CT_X6_isIn G X.2.1 [.inl a2, .inl (-x16), .inl x19] h PQ) (hS : S.length ≤ 8 := by decide) (kk : ∀ r h', PQ r h' → PW G X 6 Q k n 35 [some (.inr a0), some (.inl a1), some (.inl a2), some (.inl a3), some (.inl a4), some (.inr r12)] (r.toList ++ S) h') : PW G X 6 Q k n 9 [some (.inr a0), some (.inl a1), some (.inl a2), some (.inl a3), some (.inl a4), none] (S) h := by
  refine pw_aload_n C dX6_stand_9 rfl ?_
  refine pw_getR C (t := 6) (f := 0) rfl inF6 rfl (by decide) (by decide) rfl kw310 dX6_stand_10 t1 ?_
  rw [e3]
  refine pw_getR C (t := 5) (f := 1) rfl inF5 rfl (by decide) (by decide) rfl kw181 dX6_stand_13 t4 ?_
  rw [e6]
  refine pw_iload_n C dX6_stand_16 rfl ?_
  refine pw_aald C (t := m11) dX6_stand_17 t7 m11a m11b m11c q8 q9 q10 ?_
  rw [e13]
  refine pw_astore C dX6_stand_18 (by decide) q14 ?_
  refine pw_iload_n C dX6_stand_20 rfl ?_
  refine pw_aload C dX6_stand_21 rfl ?_
  refine pw_getI C (t := 1) (f := 3) rfl inF1 rfl (by decide) (by decide) rfl kw160 dX6_stand_23 t15 ?_
  rw [e17]
  refine pw_ineg C dX6_stand_26 ?_
  refine pw_aload C dX6_stand_27 rfl ?_
  refine pw_getI C (t := 1) (f := 3) rfl inF1 rfl (by decide) (by decide) rfl kw160 dX6_stand_29 t18 ?_
  rw [e20]
  exact pw_callS C (na := 3) (As := [.inl a2, .inl (-x16), .inl x19]) (S := S) hM kw327 kw328 kw38 kw329 (by decide +kernel) rfl dX6_stand_32 (by decide) (by decide) hk0 hn0 (by first | exact hS | (simp only [List.length_cons]; omega)) kk
set_option maxRecDepth 20000 in
theorem B_X6_stand_35 {G : Gx} {X : Cx} {h : PH} {k n : Nat} {Q : State → Prop} {S : List PV} {a0 : Nat} {a1 : Int} {a2 : Int} {a3 : Int} {a4 : Int} {a5 : Nat} {s0 : Int} (C : CX_X6_stand G X) (q1 : pR s0 := by first | assumption | (unfold pR; omega)) (kt : s0 = 0 → PW G X 6 Q k n 53 [some (.inr a0), some (.inl a1), some (.inl a2), some (.inl a3), some (.inl a4), some (.inr a5)] (S) h) (kf : ¬ s0 = 0 → PW G X 6 Q k n 38 [some (.inr a0), some (.inl a1), some (.inl a2), some (.inl a3), some (.inl a4), some (.inr a5)] (S) h) : PW G X 6 Q k n 35 [some (.inr a0), some (.inl a1), some (.inl a2), some (.inl a3), some (.inl a4), some (.inr a5)] (.inl s0 :: S) h := by
  exact pw_if_eq C 53 dX6_stand_35 (by decide) q1 kt kf
set_option maxRecDepth 20000 in
theorem B_X6_stand_38 {G : Gx} {X : Cx} {h : PH} {k n : Nat} {Q : State → Prop} {S : List PV} {a0 : Nat} {a1 : Int} {a2 : Int} {a3 : Int} {a4 : Int} {a5 : Nat} {PQ : Option PV → PH → Prop} (C : CX_X6_stand G X) (hk0 : k ≤ 0 := by decide) (hn0 : n ≤ 0 := by decide) (hM : CT_X6_isHeight G X.2.1 [.inl a3] h PQ) (hS : S.length ≤ 8 := by decide) (kk : ∀ r h', PQ r h' → PW G X 6 Q k n 42 [some (.inr a0), some (.inl a1), some (.inl a2), some (.inl a3), some (.inl a4), some (.inr a5)] (r.toList ++ S) h') : PW G X 6 Q k n 38 [some (.inr a0), some (.inl a1), some (.inl a2), some (.inl a3), some (.inl a4), some (.inr a5)] (S) h := by
  refine pw_iload_n C dX6_stand_38 rfl ?_
  exact pw_callS C (na := 1) (As := [.inl a3]) (S := S) hM kw352 kw353 kw38 kw354 (by decide +kernel) rfl dX6_stand_39 (by decide) (by decide) hk0 hn0 (by first | exact hS | (simp only [List.length_cons]; omega)) kk
set_option maxRecDepth 20000 in
theorem B_X6_stand_42 {G : Gx} {X : Cx} {h : PH} {k n : Nat} {Q : State → Prop} {S : List PV} {a0 : Nat} {a1 : Int} {a2 : Int} {a3 : Int} {a4 : Int} {a5 : Nat} {s0 : Int} (C : CX_X6_stand G X) (q1 : pR s0 := by first | assumption | (unfold pR; omega)) (kt : s0 = 0 → PW G X 6 Q k n 53 [some (.inr a0), some (.inl a1), some (.inl a2), some (.inl a3), some (.inl a4), some (.inr a5)] (S) h) (kf : ¬ s0 = 0 → PW G X 6 Q k n 45 [some (.inr a0), some (.inl a1), some (.inl a2), some (.inl a3), some (.inl a4), some (.inr a5)] (S) h) : PW G X 6 Q k n 42 [some (.inr a0), some (.inl a1), some (.inl a2), some (.inl a3), some (.inl a4), some (.inr a5)] (.inl s0 :: S) h := by
  exact pw_if_eq C 53 dX6_stand_42 (by decide) q1 kt kf
set_option maxRecDepth 20000 in
theorem B_X6_stand_45 {G : Gx} {X : Cx} {h : PH} {k n : Nat} {Q : State → Prop} {S : List PV} {a0 : Nat} {a1 : Int} {a2 : Int} {a3 : Int} {a4 : Int} {a5 : Nat} {PQ : Option PV → PH → Prop} (C : CX_X6_stand G X) (hk0 : k ≤ 0 := by decide) (hn0 : n ≤ 0 := by decide) (hM : CT_X6_isTick G X.2.1 [.inl a4] h PQ) (hS : S.length ≤ 8 := by decide) (kk : ∀ r h', PQ r h' → PW G X 6 Q k n 50 [some (.inr a0), some (.inl a1), some (.inl a2), some (.inl a3), some (.inl a4), some (.inr a5)] (r.toList ++ S) h') : PW G X 6 Q k n 45 [some (.inr a0), some (.inl a1), some (.inl a2), some (.inl a3), some (.inl a4), some (.inr a5)] (S) h := by
  refine pw_iload C dX6_stand_45 rfl ?_
  exact pw_callS C (na := 1) (As := [.inl a4]) (S := S) hM kw378 kw379 kw38 kw380 (by decide +kernel) rfl dX6_stand_47 (by decide) (by decide) hk0 hn0 (by first | exact hS | (simp only [List.length_cons]; omega)) kk
set_option maxRecDepth 20000 in
theorem B_X6_stand_50 {G : Gx} {X : Cx} {h : PH} {k n : Nat} {Q : State → Prop} {S : List PV} {a0 : Nat} {a1 : Int} {a2 : Int} {a3 : Int} {a4 : Int} {a5 : Nat} {s0 : Int} (C : CX_X6_stand G X) (q1 : pR s0 := by first | assumption | (unfold pR; omega)) (kt : ¬ s0 = 0 → PW G X 6 Q k n 56 [some (.inr a0), some (.inl a1), some (.inl a2), some (.inl a3), some (.inl a4), some (.inr a5)] (S) h) (kf : s0 = 0 → PW G X 6 Q k n 53 [some (.inr a0), some (.inl a1), some (.inl a2), some (.inl a3), some (.inl a4), some (.inr a5)] (S) h) : PW G X 6 Q k n 50 [some (.inr a0), some (.inl a1), some (.inl a2), some (.inl a3), some (.inl a4), some (.inr a5)] (.inl s0 :: S) h := by
  exact pw_if_ne C 56 dX6_stand_50 (by decide) q1 kt kf
set_option maxRecDepth 20000 in
theorem B_X6_stand_53 {G : Gx} {X : Cx} {h : PH} {k n : Nat} {a0 : Nat} {a1 : Int} {a2 : Int} {a3 : Int} {a4 : Int} {a5 : Nat} {PQ : Option PV → PH → Prop} (C : CX_X6_stand G X) (hq : PQ (some (.inl (-2))) h) : PW G X 6 (pw_E G X PQ k n) k n 53 [some (.inr a0), some (.inl a1), some (.inl a2), some (.inl a3), some (.inl a4), some (.inr a5)] [] h := by
  refine pw_bipush C dX6_stand_53 rfl ?_
  exact pw_ireturn C dX6_stand_55 hq
set_option maxRecDepth 20000 in
theorem B_X6_stand_56 {G : Gx} {X : Cx} {h : PH} {k n : Nat} {Q : State → Prop} {S : List PV} {a0 : Nat} {a1 : Int} {a2 : Int} {a3 : Int} {a4 : Int} {a5 : Nat} {PQ : Option PV → PH → Prop} (C : CX_X6_stand G X) (hk0 : k ≤ 0 := by decide) (hn0 : n ≤ 0 := by decide) (t1 : ph_T h a5 = 1 := by first | assumption | rfl) (hM : CT_X1_turnTo G X.2.1 [.inr a5, .inl a2, .inl a3, .inl a4] h PQ) (hS : S.length ≤ 8 := by decide) (kk : ∀ r h', PQ r h' → PW G X 6 Q k n 65 [some (.inr a0), some (.inl a1), some (.inl a2), some (.inl a3), some (.inl a4), some (.inr a5)] (r.toList ++ S) h') : PW G X 6 Q k n 56 [some (.inr a0), some (.inl a1), some (.inl a2), some (.inl a3), some (.inl a4), some (.inr a5)] (S) h := by
  refine pw_aload C dX6_stand_56 rfl ?_
  refine pw_iload_n C dX6_stand_58 rfl ?_
  refine pw_iload_n C dX6_stand_59 rfl ?_
  refine pw_iload C dX6_stand_60 rfl ?_
  exact pw_callV C (na := 3) (As := [.inl a2, .inl a3, .inl a4]) (S := S) hM t1 (by decide) (hcl := by rfl) kw381 kw382 kw383 kw42 kw384 (by decide +kernel) rfl dX6_stand_62 (by decide) (by decide) hk0 hn0 (by first | exact hS | (simp only [List.length_cons]; omega)) kk
set_option maxRecDepth 20000 in
theorem B_X6_stand_65 {G : Gx} {X : Cx} {h : PH} {k n : Nat} {Q : State → Prop} {S : List PV} {a0 : Nat} {a1 : Int} {a2 : Int} {a3 : Int} {a4 : Int} {a5 : Nat} {r2 : Nat} {PQ : Option PV → PH → Prop} (C : CX_X6_stand G X) (hk0 : k ≤ 0 := by decide) (hn0 : n ≤ 0 := by decide) (t1 : ph_T h a0 = 6 := by first | assumption | rfl) (e3 : ph_R h a0 3 = r2 := by first | assumption | rfl) (t4 : ph_T h r2 = 2 := by first | assumption | rfl) (hM : CT_X2_forgetWays G X.2.1 [.inr r2] h PQ) (hS : S.length ≤ 8 := by decide) (kk : ∀ r h', PQ r h' → PW G X 6 Q k n 72 [some (.inr a0), some (.inl a1), some (.inl a2), some (.inl a3), some (.inl a4), some (.inr a5)] (r.toList ++ S) h') : PW G X 6 Q k n 65 [some (.inr a0), some (.inl a1), some (.inl a2), some (.inl a3), some (.inl a4), some (.inr a5)] (S) h := by
  refine pw_aload_n C dX6_stand_65 rfl ?_
  refine pw_getR C (t := 6) (f := 3) rfl inF6 rfl (by decide) (by decide) rfl kw313 dX6_stand_66 t1 ?_
  rw [e3]
  exact pw_callV C (na := 0) (As := []) (S := S) hM t4 (by decide) (hcl := by rfl) kw338 kw339 kw340 kw43 kw341 (by decide +kernel) rfl dX6_stand_69 (by decide) (by decide) hk0 hn0 (by first | exact hS | (simp only [List.length_cons]; omega)) kk
set_option maxRecDepth 20000 in
theorem B_X6_stand_72 {G : Gx} {X : Cx} {h : PH} {k n : Nat} {a0 : Nat} {a1 : Int} {a2 : Int} {a3 : Int} {a4 : Int} {a5 : Nat} {PQ : Option PV → PH → Prop} (C : CX_X6_stand G X) (hq : PQ (some (.inl 1)) h) : PW G X 6 (pw_E G X PQ k n) k n 72 [some (.inr a0), some (.inl a1), some (.inl a2), some (.inl a3), some (.inl a4), some (.inr a5)] [] h := by
  refine pw_iconst C dX6_stand_72 ?_
  exact pw_ireturn C dX6_stand_73 hq
theorem dX6_set_0 : decode cX6_set 0 = .ok (.iload_n 1, 1) := by decide +kernel
theorem dX6_set_1 : decode cX6_set 1 = .ok (.invokestatic 76, 3) := by decide +kernel
theorem dX6_set_4 : decode cX6_set 4 = .ok (.ifCond .ne 5, 3) := by decide +kernel
theorem dX6_set_7 : decode cX6_set 7 = .ok (.iconst (-1), 1) := by decide +kernel
theorem dX6_set_8 : decode cX6_set 8 = .ok (.ireturn, 1) := by decide +kernel
theorem dX6_set_9 : decode cX6_set 9 = .ok (.iload_n 2, 1) := by decide +kernel
theorem dX6_set_10 : decode cX6_set 10 = .ok (.iload_n 3, 1) := by decide +kernel
theorem dX6_set_11 : decode cX6_set 11 = .ok (.invokestatic 99, 3) := by decide +kernel
theorem dX6_set_14 : decode cX6_set 14 = .ok (.ifCond .ne 6, 3) := by decide +kernel
theorem dX6_set_17 : decode cX6_set 17 = .ok (.bipush (-2), 2) := by decide +kernel
theorem dX6_set_19 : decode cX6_set 19 = .ok (.ireturn, 1) := by decide +kernel
theorem dX6_set_20 : decode cX6_set 20 = .ok (.aload_n 0, 1) := by decide +kernel
theorem dX6_set_21 : decode cX6_set 21 = .ok (.getfield 12, 3) := by decide +kernel
theorem dX6_set_24 : decode cX6_set 24 = .ok (.getfield 80, 3) := by decide +kernel
theorem dX6_set_27 : decode cX6_set 27 = .ok (.iload_n 1, 1) := by decide +kernel
theorem dX6_set_28 : decode cX6_set 28 = .ok (.aaload, 1) := by decide +kernel
theorem dX6_set_29 : decode cX6_set 29 = .ok (.astore 4, 2) := by decide +kernel
theorem dX6_set_31 : decode cX6_set 31 = .ok (.iload_n 2, 1) := by decide +kernel
theorem dX6_set_32 : decode cX6_set 32 = .ok (.ifCond .ne 20, 3) := by decide +kernel
theorem dX6_set_35 : decode cX6_set 35 = .ok (.aload 4, 2) := by decide +kernel
theorem dX6_set_37 : decode cX6_set 37 = .ok (.getfield 102, 3) := by decide +kernel
theorem dX6_set_40 : decode cX6_set 40 = .ok (.iload_n 3, 1) := by decide +kernel
theorem dX6_set_41 : decode cX6_set 41 = .ok (.ineg, 1) := by decide +kernel
theorem dX6_set_42 : decode cX6_set 42 = .ok (.iload_n 3, 1) := by decide +kernel
theorem dX6_set_43 : decode cX6_set 43 = .ok (.invokestatic 33, 3) := by decide +kernel
theorem dX6_set_46 : decode cX6_set 46 = .ok (.ifCond .ne 6, 3) := by decide +kernel
theorem dX6_set_49 : decode cX6_set 49 = .ok (.bipush (-5), 2) := by decide +kernel
theorem dX6_set_51 : decode cX6_set 51 = .ok (.ireturn, 1) := by decide +kernel
theorem dX6_set_52 : decode cX6_set 52 = .ok (.iload_n 2, 1) := by decide +kernel
theorem dX6_set_53 : decode cX6_set 53 = .ok (.ifCond .ne 11, 3) := by decide +kernel
theorem dX6_set_56 : decode cX6_set 56 = .ok (.aload 4, 2) := by decide +kernel
theorem dX6_set_58 : decode cX6_set 58 = .ok (.getfield 84, 3) := by decide +kernel
theorem dX6_set_61 : decode cX6_set 61 = .ok (.goto 8, 3) := by decide +kernel
theorem dX6_set_64 : decode cX6_set 64 = .ok (.aload 4, 2) := by decide +kernel
theorem dX6_set_66 : decode cX6_set 66 = .ok (.getfield 105, 3) := by decide +kernel
theorem dX6_set_69 : decode cX6_set 69 = .ok (.istore 5, 2) := by decide +kernel
theorem dX6_set_71 : decode cX6_set 71 = .ok (.iload_n 2, 1) := by decide +kernel
theorem dX6_set_72 : decode cX6_set 72 = .ok (.ifCond .ne 12, 3) := by decide +kernel
theorem dX6_set_75 : decode cX6_set 75 = .ok (.aload 4, 2) := by decide +kernel
theorem dX6_set_77 : decode cX6_set 77 = .ok (.iload_n 3, 1) := by decide +kernel
theorem dX6_set_78 : decode cX6_set 78 = .ok (.putfield 84, 3) := by decide +kernel
theorem dX6_set_81 : decode cX6_set 81 = .ok (.goto 9, 3) := by decide +kernel
theorem dX6_set_84 : decode cX6_set 84 = .ok (.aload 4, 2) := by decide +kernel
theorem dX6_set_86 : decode cX6_set 86 = .ok (.iload_n 3, 1) := by decide +kernel
theorem dX6_set_87 : decode cX6_set 87 = .ok (.putfield 105, 3) := by decide +kernel
theorem dX6_set_90 : decode cX6_set 90 = .ok (.aload_n 0, 1) := by decide +kernel
theorem dX6_set_91 : decode cX6_set 91 = .ok (.getfield 29, 3) := by decide +kernel
theorem dX6_set_94 : decode cX6_set 94 = .ok (.invokevirtual 55, 3) := by decide +kernel
theorem dX6_set_97 : decode cX6_set 97 = .ok (.iload 5, 2) := by decide +kernel
theorem dX6_set_99 : decode cX6_set 99 = .ok (.ireturn, 1) := by decide +kernel
set_option maxRecDepth 20000 in
theorem B_X6_set_0 {G : Gx} {X : Cx} {h : PH} {k n : Nat} {Q : State → Prop} {S : List PV} {a0 : Nat} {a1 : Int} {a2 : Int} {a3 : Int} {PQ : Option PV → PH → Prop} (C : CX_X6_set G X) (hk0 : k ≤ 0 := by decide) (hn0 : n ≤ 0 := by decide) (hM : CT_X6_isDish G X.2.1 [.inl a1] h PQ) (hS : S.length ≤ 8 := by decide) (kk : ∀ r h', PQ r h' → PW G X 6 Q k n 4 [some (.inr a0), some (.inl a1), some (.inl a2), some (.inl a3), none, none] (r.toList ++ S) h') : PW G X 6 Q k n 0 [some (.inr a0), some (.inl a1), some (.inl a2), some (.inl a3), none, none] (S) h := by
  refine pw_iload_n C dX6_set_0 rfl ?_
  exact pw_callS C (na := 1) (As := [.inl a1]) (S := S) hM kw375 kw376 kw38 kw377 (by decide +kernel) rfl dX6_set_1 (by decide) (by decide) hk0 hn0 (by first | exact hS | (simp only [List.length_cons]; omega)) kk
set_option maxRecDepth 20000 in
theorem B_X6_set_4 {G : Gx} {X : Cx} {h : PH} {k n : Nat} {Q : State → Prop} {S : List PV} {a0 : Nat} {a1 : Int} {a2 : Int} {a3 : Int} {s0 : Int} (C : CX_X6_set G X) (q1 : pR s0 := by first | assumption | (unfold pR; omega)) (kt : ¬ s0 = 0 → PW G X 6 Q k n 9 [some (.inr a0), some (.inl a1), some (.inl a2), some (.inl a3), none, none] (S) h) (kf : s0 = 0 → PW G X 6 Q k n 7 [some (.inr a0), some (.inl a1), some (.inl a2), some (.inl a3), none, none] (S) h) : PW G X 6 Q k n 4 [some (.inr a0), some (.inl a1), some (.inl a2), some (.inl a3), none, none] (.inl s0 :: S) h := by
  exact pw_if_ne C 9 dX6_set_4 (by decide) q1 kt kf
set_option maxRecDepth 20000 in
theorem B_X6_set_7 {G : Gx} {X : Cx} {h : PH} {k n : Nat} {a0 : Nat} {a1 : Int} {a2 : Int} {a3 : Int} {PQ : Option PV → PH → Prop} (C : CX_X6_set G X) (hq : PQ (some (.inl (-1))) h) : PW G X 6 (pw_E G X PQ k n) k n 7 [some (.inr a0), some (.inl a1), some (.inl a2), some (.inl a3), none, none] [] h := by
  refine pw_iconst C dX6_set_7 ?_
  exact pw_ireturn C dX6_set_8 hq
set_option maxRecDepth 20000 in
theorem B_X6_set_9 {G : Gx} {X : Cx} {h : PH} {k n : Nat} {Q : State → Prop} {S : List PV} {a0 : Nat} {a1 : Int} {a2 : Int} {a3 : Int} {PQ : Option PV → PH → Prop} (C : CX_X6_set G X) (hk0 : k ≤ 0 := by decide) (hn0 : n ≤ 0 := by decide) (hM : CT_X6_isSetting G X.2.1 [.inl a2, .inl a3] h PQ) (hS : S.length ≤ 8 := by decide) (kk : ∀ r h', PQ r h' → PW G X 6 Q k n 14 [some (.inr a0), some (.inl a1), some (.inl a2), some (.inl a3), none, none] (r.toList ++ S) h') : PW G X 6 Q k n 9 [some (.inr a0), some (.inl a1), some (.inl a2), some (.inl a3), none, none] (S) h := by
  refine pw_iload_n C dX6_set_9 rfl ?_
  refine pw_iload_n C dX6_set_10 rfl ?_
  exact pw_callS C (na := 2) (As := [.inl a2, .inl a3]) (S := S) hM kw389 kw390 kw38 kw391 (by decide +kernel) rfl dX6_set_11 (by decide) (by decide) hk0 hn0 (by first | exact hS | (simp only [List.length_cons]; omega)) kk
set_option maxRecDepth 20000 in
theorem B_X6_set_14 {G : Gx} {X : Cx} {h : PH} {k n : Nat} {Q : State → Prop} {S : List PV} {a0 : Nat} {a1 : Int} {a2 : Int} {a3 : Int} {s0 : Int} (C : CX_X6_set G X) (q1 : pR s0 := by first | assumption | (unfold pR; omega)) (kt : ¬ s0 = 0 → PW G X 6 Q k n 20 [some (.inr a0), some (.inl a1), some (.inl a2), some (.inl a3), none, none] (S) h) (kf : s0 = 0 → PW G X 6 Q k n 17 [some (.inr a0), some (.inl a1), some (.inl a2), some (.inl a3), none, none] (S) h) : PW G X 6 Q k n 14 [some (.inr a0), some (.inl a1), some (.inl a2), some (.inl a3), none, none] (.inl s0 :: S) h := by
  exact pw_if_ne C 20 dX6_set_14 (by decide) q1 kt kf
set_option maxRecDepth 20000 in
theorem B_X6_set_17 {G : Gx} {X : Cx} {h : PH} {k n : Nat} {a0 : Nat} {a1 : Int} {a2 : Int} {a3 : Int} {PQ : Option PV → PH → Prop} (C : CX_X6_set G X) (hq : PQ (some (.inl (-2))) h) : PW G X 6 (pw_E G X PQ k n) k n 17 [some (.inr a0), some (.inl a1), some (.inl a2), some (.inl a3), none, none] [] h := by
  refine pw_bipush C dX6_set_17 rfl ?_
  exact pw_ireturn C dX6_set_19 hq
set_option maxRecDepth 20000 in
theorem B_X6_set_20 {G : Gx} {X : Cx} {h : PH} {k n : Nat} {Q : State → Prop} {S : List PV} {a0 : Nat} {a1 : Int} {a2 : Int} {a3 : Int} {r2 : Nat} {r5 : Nat} {m11 : Nat} {m11E : String} {r12 : Nat} (C : CX_X6_set G X) (t1 : ph_T h a0 = 6 := by first | assumption | rfl) (e3 : ph_R h a0 0 = r2 := by first | assumption | rfl) (t4 : ph_T h r2 = 5 := by first | assumption | rfl) (e6 : ph_R h r2 1 = r5 := by first | assumption | rfl) (m11a : ¬ m11 < 10 := by decide) (m11b : m11 < 14 := by decide) (t7 : ph_T h r5 = m11 := by first | assumption | rfl) (m11c : (pw_tys G)[m11 - 8]? = some (G.2.2.2.2 m11, .object m11E) := by rfl) (q8 : (0 : Int) ≤ a1 := by first | assumption | omega) (q9 : a1 < (ph_L h r5 : Int) := by first | assumption | omega) (q10 : pR a1 := by first | assumption | (unfold pR; omega)) (e13 : ph_R h r5 (Int.toNat a1) = r12 := by first | assumption | rfl) (q14 : 2 ≤ r12 := by first | assumption | omega) (q15 : pR a2 := by first | assumption | (unfold pR; omega)) (kt : ¬ a2 = 0 → PW G X 6 Q k n 52 [some (.inr a0), some (.inl a1), some (.inl a2), some (.inl a3), some (.inr r12), none] (S) h) (kf : a2 = 0 → PW G X 6 Q k n 35 [some (.inr a0), some (.inl a1), some (.inl a2), some (.inl a3), some (.inr r12), none] (S) h) : PW G X 6 Q k n 20 [some (.inr a0), some (.inl a1), some (.inl a2), some (.inl a3), none, none] (S) h := by
  refine pw_aload_n C dX6_set_20 rfl ?_
  refine pw_getR C (t := 6) (f := 0) rfl inF6 rfl (by decide) (by decide) rfl kw310 dX6_set_21 t1 ?_
  rw [e3]
  refine pw_getR C (t := 5) (f := 1) rfl inF5 rfl (by decide) (by decide) rfl kw181 dX6_set_24 t4 ?_
  rw [e6]
  refine pw_iload_n C dX6_set_27 rfl ?_
  refine pw_aald C (t := m11) dX6_set_28 t7 m11a m11b m11c q8 q9 q10 ?_
  rw [e13]
  refine pw_astore C dX6_set_29 (by decide) q14 ?_
  refine pw_iload_n C dX6_set_31 rfl ?_
  exact pw_if_ne C 52 dX6_set_32 (by decide) q15 kt kf
set_option maxRecDepth 20000 in
theorem B_X6_set_35 {G : Gx} {X : Cx} {h : PH} {k n : Nat} {Q : State → Prop} {S : List PV} {a0 : Nat} {a1 : Int} {a2 : Int} {a3 : Int} {a4 : Nat} {x2 : Int} {PQ : Option PV → PH → Prop} (C : CX_X6_set G X) (hk0 : k ≤ 0 := by decide) (hn0 : n ≤ 0 := by decide) (t1 : ph_T h a4 = 1 := by first | assumption | rfl) (e3 : ph_I h a4 0 = x2 := by first | assumption | rfl) (hM : CT_X6_isIn G X.2.1 [.inl x2, .inl (-a3), .inl a3] h PQ) (hS : S.length ≤ 8 := by decide) (kk : ∀ r h', PQ r h' → PW G X 6 Q k n 46 [some (.inr a0), some (.inl a1), some (.inl a2), some (.inl a3), some (.inr a4), none] (r.toList ++ S) h') : PW G X 6 Q k n 35 [some (.inr a0), some (.inl a1), some (.inl a2), some (.inl a3), some (.inr a4), none] (S) h := by
  refine pw_aload C dX6_set_35 rfl ?_
  refine pw_getI C (t := 1) (f := 0) rfl inF1 rfl (by decide) (by decide) rfl kw152 dX6_set_37 t1 ?_
  rw [e3]
  refine pw_iload_n C dX6_set_40 rfl ?_
  refine pw_ineg C dX6_set_41 ?_
  refine pw_iload_n C dX6_set_42 rfl ?_
  exact pw_callS C (na := 3) (As := [.inl x2, .inl (-a3), .inl a3]) (S := S) hM kw327 kw328 kw38 kw329 (by decide +kernel) rfl dX6_set_43 (by decide) (by decide) hk0 hn0 (by first | exact hS | (simp only [List.length_cons]; omega)) kk
set_option maxRecDepth 20000 in
theorem B_X6_set_46 {G : Gx} {X : Cx} {h : PH} {k n : Nat} {Q : State → Prop} {S : List PV} {a0 : Nat} {a1 : Int} {a2 : Int} {a3 : Int} {a4 : Nat} {s0 : Int} (C : CX_X6_set G X) (q1 : pR s0 := by first | assumption | (unfold pR; omega)) (kt : ¬ s0 = 0 → PW G X 6 Q k n 52 [some (.inr a0), some (.inl a1), some (.inl a2), some (.inl a3), some (.inr a4), none] (S) h) (kf : s0 = 0 → PW G X 6 Q k n 49 [some (.inr a0), some (.inl a1), some (.inl a2), some (.inl a3), some (.inr a4), none] (S) h) : PW G X 6 Q k n 46 [some (.inr a0), some (.inl a1), some (.inl a2), some (.inl a3), some (.inr a4), none] (.inl s0 :: S) h := by
  exact pw_if_ne C 52 dX6_set_46 (by decide) q1 kt kf
set_option maxRecDepth 20000 in
theorem B_X6_set_49 {G : Gx} {X : Cx} {h : PH} {k n : Nat} {a0 : Nat} {a1 : Int} {a2 : Int} {a3 : Int} {a4 : Nat} {PQ : Option PV → PH → Prop} (C : CX_X6_set G X) (hq : PQ (some (.inl (-5))) h) : PW G X 6 (pw_E G X PQ k n) k n 49 [some (.inr a0), some (.inl a1), some (.inl a2), some (.inl a3), some (.inr a4), none] [] h := by
  refine pw_bipush C dX6_set_49 rfl ?_
  exact pw_ireturn C dX6_set_51 hq
set_option maxRecDepth 20000 in
theorem B_X6_set_52 {G : Gx} {X : Cx} {h : PH} {k n : Nat} {Q : State → Prop} {S : List PV} {a0 : Nat} {a1 : Int} {a2 : Int} {a3 : Int} {a4 : Nat} (C : CX_X6_set G X) (q1 : pR a2 := by first | assumption | (unfold pR; omega)) (kt : ¬ a2 = 0 → PW G X 6 Q k n 64 [some (.inr a0), some (.inl a1), some (.inl a2), some (.inl a3), some (.inr a4), none] (S) h) (kf : a2 = 0 → PW G X 6 Q k n 56 [some (.inr a0), some (.inl a1), some (.inl a2), some (.inl a3), some (.inr a4), none] (S) h) : PW G X 6 Q k n 52 [some (.inr a0), some (.inl a1), some (.inl a2), some (.inl a3), some (.inr a4), none] (S) h := by
  refine pw_iload_n C dX6_set_52 rfl ?_
  exact pw_if_ne C 64 dX6_set_53 (by decide) q1 kt kf
set_option maxRecDepth 20000 in
theorem B_X6_set_56 {G : Gx} {X : Cx} {h : PH} {k n : Nat} {Q : State → Prop} {S : List PV} {a0 : Nat} {a1 : Int} {a2 : Int} {a3 : Int} {a4 : Nat} {x2 : Int} (C : CX_X6_set G X) (t1 : ph_T h a4 = 1 := by first | assumption | rfl) (e3 : ph_I h a4 3 = x2 := by first | assumption | rfl) (kk : PW G X 6 Q k n 69 [some (.inr a0), some (.inl a1), some (.inl a2), some (.inl a3), some (.inr a4), none] (.inl x2 :: S) h) : PW G X 6 Q k n 56 [some (.inr a0), some (.inl a1), some (.inl a2), some (.inl a3), some (.inr a4), none] (S) h := by
  refine pw_aload C dX6_set_56 rfl ?_
  refine pw_getI C (t := 1) (f := 3) rfl inF1 rfl (by decide) (by decide) rfl kw160 dX6_set_58 t1 ?_
  rw [e3]
  refine pw_goto C 69 dX6_set_61 (by decide) ?_
  exact kk
set_option maxRecDepth 20000 in
theorem B_X6_set_64 {G : Gx} {X : Cx} {h : PH} {k n : Nat} {Q : State → Prop} {S : List PV} {a0 : Nat} {a1 : Int} {a2 : Int} {a3 : Int} {a4 : Nat} {x2 : Int} (C : CX_X6_set G X) (t1 : ph_T h a4 = 1 := by first | assumption | rfl) (e3 : ph_I h a4 4 = x2 := by first | assumption | rfl) (kk : PW G X 6 Q k n 69 [some (.inr a0), some (.inl a1), some (.inl a2), some (.inl a3), some (.inr a4), none] (.inl x2 :: S) h) : PW G X 6 Q k n 64 [some (.inr a0), some (.inl a1), some (.inl a2), some (.inl a3), some (.inr a4), none] (S) h := by
  refine pw_aload C dX6_set_64 rfl ?_
  refine pw_getI C (t := 1) (f := 4) rfl inF1 rfl (by decide) (by decide) rfl kw163 dX6_set_66 t1 ?_
  rw [e3]
  exact kk
set_option maxRecDepth 20000 in
theorem B_X6_set_69 {G : Gx} {X : Cx} {h : PH} {k n : Nat} {Q : State → Prop} {S : List PV} {a0 : Nat} {a1 : Int} {a2 : Int} {a3 : Int} {a4 : Nat} {s0 : Int} (C : CX_X6_set G X) (q1 : pR a2 := by first | assumption | (unfold pR; omega)) (kt : ¬ a2 = 0 → PW G X 6 Q k n 84 [some (.inr a0), some (.inl a1), some (.inl a2), some (.inl a3), some (.inr a4), some (.inl s0)] (S) h) (kf : a2 = 0 → PW G X 6 Q k n 75 [some (.inr a0), some (.inl a1), some (.inl a2), some (.inl a3), some (.inr a4), some (.inl s0)] (S) h) : PW G X 6 Q k n 69 [some (.inr a0), some (.inl a1), some (.inl a2), some (.inl a3), some (.inr a4), none] (.inl s0 :: S) h := by
  refine pw_istore C dX6_set_69 (by decide) ?_
  refine pw_iload_n C dX6_set_71 rfl ?_
  exact pw_if_ne C 84 dX6_set_72 (by decide) q1 kt kf
set_option maxRecDepth 20000 in
theorem B_X6_set_75 {G : Gx} {X : Cx} {h : PH} {k n : Nat} {Q : State → Prop} {S : List PV} {a0 : Nat} {a1 : Int} {a2 : Int} {a3 : Int} {a4 : Nat} {a5 : Int} (C : CX_X6_set G X) (t1 : ph_T h a4 = 1 := by first | assumption | rfl) (kk : PW G X 6 Q k n 90 [some (.inr a0), some (.inl a1), some (.inl a2), some (.inl a3), some (.inr a4), some (.inl a5)] (S) (ph_setI h a4 3 a3)) : PW G X 6 Q k n 75 [some (.inr a0), some (.inl a1), some (.inl a2), some (.inl a3), some (.inr a4), some (.inl a5)] (S) h := by
  refine pw_aload C dX6_set_75 rfl ?_
  refine pw_iload_n C dX6_set_77 rfl ?_
  refine pw_putI C (t := 1) (f := 3) rfl inF1 tyX1_ok nmX1 rfl (by decide) (by decide) rfl (Or.inl rfl) (Or.inl rfl) kw160 dX6_set_78 t1 ?_
  refine pw_goto C 90 dX6_set_81 (by decide) ?_
  exact kk
set_option maxRecDepth 20000 in
theorem B_X6_set_84 {G : Gx} {X : Cx} {h : PH} {k n : Nat} {Q : State → Prop} {S : List PV} {a0 : Nat} {a1 : Int} {a2 : Int} {a3 : Int} {a4 : Nat} {a5 : Int} (C : CX_X6_set G X) (t1 : ph_T h a4 = 1 := by first | assumption | rfl) (kk : PW G X 6 Q k n 90 [some (.inr a0), some (.inl a1), some (.inl a2), some (.inl a3), some (.inr a4), some (.inl a5)] (S) (ph_setI h a4 4 a3)) : PW G X 6 Q k n 84 [some (.inr a0), some (.inl a1), some (.inl a2), some (.inl a3), some (.inr a4), some (.inl a5)] (S) h := by
  refine pw_aload C dX6_set_84 rfl ?_
  refine pw_iload_n C dX6_set_86 rfl ?_
  refine pw_putI C (t := 1) (f := 4) rfl inF1 tyX1_ok nmX1 rfl (by decide) (by decide) rfl (Or.inl rfl) (Or.inl rfl) kw163 dX6_set_87 t1 ?_
  exact kk
set_option maxRecDepth 20000 in
theorem B_X6_set_90 {G : Gx} {X : Cx} {h : PH} {k n : Nat} {Q : State → Prop} {S : List PV} {a0 : Nat} {a1 : Int} {a2 : Int} {a3 : Int} {a4 : Nat} {a5 : Int} {r2 : Nat} {PQ : Option PV → PH → Prop} (C : CX_X6_set G X) (hk0 : k ≤ 0 := by decide) (hn0 : n ≤ 0 := by decide) (t1 : ph_T h a0 = 6 := by first | assumption | rfl) (e3 : ph_R h a0 3 = r2 := by first | assumption | rfl) (t4 : ph_T h r2 = 2 := by first | assumption | rfl) (hM : CT_X2_forgetWays G X.2.1 [.inr r2] h PQ) (hS : S.length ≤ 8 := by decide) (kk : ∀ r h', PQ r h' → PW G X 6 Q k n 97 [some (.inr a0), some (.inl a1), some (.inl a2), some (.inl a3), some (.inr a4), some (.inl a5)] (r.toList ++ S) h') : PW G X 6 Q k n 90 [some (.inr a0), some (.inl a1), some (.inl a2), some (.inl a3), some (.inr a4), some (.inl a5)] (S) h := by
  refine pw_aload_n C dX6_set_90 rfl ?_
  refine pw_getR C (t := 6) (f := 3) rfl inF6 rfl (by decide) (by decide) rfl kw313 dX6_set_91 t1 ?_
  rw [e3]
  exact pw_callV C (na := 0) (As := []) (S := S) hM t4 (by decide) (hcl := by rfl) kw338 kw339 kw340 kw43 kw341 (by decide +kernel) rfl dX6_set_94 (by decide) (by decide) hk0 hn0 (by first | exact hS | (simp only [List.length_cons]; omega)) kk
set_option maxRecDepth 20000 in
theorem B_X6_set_97 {G : Gx} {X : Cx} {h : PH} {k n : Nat} {a0 : Nat} {a1 : Int} {a2 : Int} {a3 : Int} {a4 : Nat} {a5 : Int} {PQ : Option PV → PH → Prop} (C : CX_X6_set G X) (hq : PQ (some (.inl a5)) h) : PW G X 6 (pw_E G X PQ k n) k n 97 [some (.inr a0), some (.inl a1), some (.inl a2), some (.inl a3), some (.inr a4), some (.inl a5)] [] h := by
  refine pw_iload C dX6_set_97 rfl ?_
  exact pw_ireturn C dX6_set_99 hq
theorem dX6_sun_0 : decode cX6_sun 0 = .ok (.iload_n 1, 1) := by decide +kernel
theorem dX6_sun_1 : decode cX6_sun 1 = .ok (.invokestatic 108, 3) := by decide +kernel
theorem dX6_sun_4 : decode cX6_sun 4 = .ok (.ifCond .eq 30, 3) := by decide +kernel
theorem dX6_sun_7 : decode cX6_sun 7 = .ok (.iload_n 2, 1) := by decide +kernel
theorem dX6_sun_8 : decode cX6_sun 8 = .ok (.iconst 1, 1) := by decide +kernel
theorem dX6_sun_9 : decode cX6_sun 9 = .ok (.bipush 40, 2) := by decide +kernel
theorem dX6_sun_11 : decode cX6_sun 11 = .ok (.invokestatic 33, 3) := by decide +kernel
theorem dX6_sun_14 : decode cX6_sun 14 = .ok (.ifCond .eq 20, 3) := by decide +kernel
theorem dX6_sun_17 : decode cX6_sun 17 = .ok (.iload_n 3, 1) := by decide +kernel
theorem dX6_sun_18 : decode cX6_sun 18 = .ok (.invokestatic 89, 3) := by decide +kernel
theorem dX6_sun_21 : decode cX6_sun 21 = .ok (.ifCond .eq 13, 3) := by decide +kernel
theorem dX6_sun_24 : decode cX6_sun 24 = .ok (.iload 4, 2) := by decide +kernel
theorem dX6_sun_26 : decode cX6_sun 26 = .ok (.iconst (-1), 1) := by decide +kernel
theorem dX6_sun_27 : decode cX6_sun 27 = .ok (.iconst 3, 1) := by decide +kernel
theorem dX6_sun_28 : decode cX6_sun 28 = .ok (.invokestatic 33, 3) := by decide +kernel
theorem dX6_sun_31 : decode cX6_sun 31 = .ok (.ifCond .ne 6, 3) := by decide +kernel
theorem dX6_sun_34 : decode cX6_sun 34 = .ok (.bipush (-2), 2) := by decide +kernel
theorem dX6_sun_36 : decode cX6_sun 36 = .ok (.ireturn, 1) := by decide +kernel
theorem dX6_sun_37 : decode cX6_sun 37 = .ok (.aload_n 0, 1) := by decide +kernel
theorem dX6_sun_38 : decode cX6_sun 38 = .ok (.getfield 12, 3) := by decide +kernel
theorem dX6_sun_41 : decode cX6_sun 41 = .ok (.getfield 111, 3) := by decide +kernel
theorem dX6_sun_44 : decode cX6_sun 44 = .ok (.iload_n 1, 1) := by decide +kernel
theorem dX6_sun_45 : decode cX6_sun 45 = .ok (.iload_n 2, 1) := by decide +kernel
theorem dX6_sun_46 : decode cX6_sun 46 = .ok (.iload_n 3, 1) := by decide +kernel
theorem dX6_sun_47 : decode cX6_sun 47 = .ok (.iload 4, 2) := by decide +kernel
theorem dX6_sun_49 : decode cX6_sun 49 = .ok (.invokevirtual 115, 3) := by decide +kernel
theorem dX6_sun_52 : decode cX6_sun 52 = .ok (.aload_n 0, 1) := by decide +kernel
theorem dX6_sun_53 : decode cX6_sun 53 = .ok (.getfield 29, 3) := by decide +kernel
theorem dX6_sun_56 : decode cX6_sun 56 = .ok (.invokevirtual 55, 3) := by decide +kernel
theorem dX6_sun_59 : decode cX6_sun 59 = .ok (.iconst 1, 1) := by decide +kernel
theorem dX6_sun_60 : decode cX6_sun 60 = .ok (.ireturn, 1) := by decide +kernel
set_option maxRecDepth 20000 in
theorem B_X6_sun_0 {G : Gx} {X : Cx} {h : PH} {k n : Nat} {Q : State → Prop} {S : List PV} {a0 : Nat} {a1 : Int} {a2 : Int} {a3 : Int} {a4 : Int} {PQ : Option PV → PH → Prop} (C : CX_X6_sun G X) (hk0 : k ≤ 0 := by decide) (hn0 : n ≤ 0 := by decide) (hM : CT_X6_isSide G X.2.1 [.inl a1] h PQ) (hS : S.length ≤ 8 := by decide) (kk : ∀ r h', PQ r h' → PW G X 5 Q k n 4 [some (.inr a0), some (.inl a1), some (.inl a2), some (.inl a3), some (.inl a4)] (r.toList ++ S) h') : PW G X 5 Q k n 0 [some (.inr a0), some (.inl a1), some (.inl a2), some (.inl a3), some (.inl a4)] (S) h := by
  refine pw_iload_n C dX6_sun_0 rfl ?_
  exact pw_callS C (na := 1) (As := [.inl a1]) (S := S) hM kw349 kw350 kw38 kw351 (by decide +kernel) rfl dX6_sun_1 (by decide) (by decide) hk0 hn0 (by first | exact hS | (simp only [List.length_cons]; omega)) kk
set_option maxRecDepth 20000 in
theorem B_X6_sun_4 {G : Gx} {X : Cx} {h : PH} {k n : Nat} {Q : State → Prop} {S : List PV} {a0 : Nat} {a1 : Int} {a2 : Int} {a3 : Int} {a4 : Int} {s0 : Int} (C : CX_X6_sun G X) (q1 : pR s0 := by first | assumption | (unfold pR; omega)) (kt : s0 = 0 → PW G X 5 Q k n 34 [some (.inr a0), some (.inl a1), some (.inl a2), some (.inl a3), some (.inl a4)] (S) h) (kf : ¬ s0 = 0 → PW G X 5 Q k n 7 [some (.inr a0), some (.inl a1), some (.inl a2), some (.inl a3), some (.inl a4)] (S) h) : PW G X 5 Q k n 4 [some (.inr a0), some (.inl a1), some (.inl a2), some (.inl a3), some (.inl a4)] (.inl s0 :: S) h := by
  exact pw_if_eq C 34 dX6_sun_4 (by decide) q1 kt kf
set_option maxRecDepth 20000 in
theorem B_X6_sun_7 {G : Gx} {X : Cx} {h : PH} {k n : Nat} {Q : State → Prop} {S : List PV} {a0 : Nat} {a1 : Int} {a2 : Int} {a3 : Int} {a4 : Int} {PQ : Option PV → PH → Prop} (C : CX_X6_sun G X) (hk0 : k ≤ 0 := by decide) (hn0 : n ≤ 0 := by decide) (hM : CT_X6_isIn G X.2.1 [.inl a2, .inl 1, .inl 40] h PQ) (hS : S.length ≤ 8 := by decide) (kk : ∀ r h', PQ r h' → PW G X 5 Q k n 14 [some (.inr a0), some (.inl a1), some (.inl a2), some (.inl a3), some (.inl a4)] (r.toList ++ S) h') : PW G X 5 Q k n 7 [some (.inr a0), some (.inl a1), some (.inl a2), some (.inl a3), some (.inl a4)] (S) h := by
  refine pw_iload_n C dX6_sun_7 rfl ?_
  refine pw_iconst C dX6_sun_8 ?_
  refine pw_bipush C dX6_sun_9 rfl ?_
  exact pw_callS C (na := 3) (As := [.inl a2, .inl 1, .inl 40]) (S := S) hM kw327 kw328 kw38 kw329 (by decide +kernel) rfl dX6_sun_11 (by decide) (by decide) hk0 hn0 (by first | exact hS | (simp only [List.length_cons]; omega)) kk
set_option maxRecDepth 20000 in
theorem B_X6_sun_14 {G : Gx} {X : Cx} {h : PH} {k n : Nat} {Q : State → Prop} {S : List PV} {a0 : Nat} {a1 : Int} {a2 : Int} {a3 : Int} {a4 : Int} {s0 : Int} (C : CX_X6_sun G X) (q1 : pR s0 := by first | assumption | (unfold pR; omega)) (kt : s0 = 0 → PW G X 5 Q k n 34 [some (.inr a0), some (.inl a1), some (.inl a2), some (.inl a3), some (.inl a4)] (S) h) (kf : ¬ s0 = 0 → PW G X 5 Q k n 17 [some (.inr a0), some (.inl a1), some (.inl a2), some (.inl a3), some (.inl a4)] (S) h) : PW G X 5 Q k n 14 [some (.inr a0), some (.inl a1), some (.inl a2), some (.inl a3), some (.inl a4)] (.inl s0 :: S) h := by
  exact pw_if_eq C 34 dX6_sun_14 (by decide) q1 kt kf
set_option maxRecDepth 20000 in
theorem B_X6_sun_17 {G : Gx} {X : Cx} {h : PH} {k n : Nat} {Q : State → Prop} {S : List PV} {a0 : Nat} {a1 : Int} {a2 : Int} {a3 : Int} {a4 : Int} {PQ : Option PV → PH → Prop} (C : CX_X6_sun G X) (hk0 : k ≤ 0 := by decide) (hn0 : n ≤ 0 := by decide) (hM : CT_X6_isHeight G X.2.1 [.inl a3] h PQ) (hS : S.length ≤ 8 := by decide) (kk : ∀ r h', PQ r h' → PW G X 5 Q k n 21 [some (.inr a0), some (.inl a1), some (.inl a2), some (.inl a3), some (.inl a4)] (r.toList ++ S) h') : PW G X 5 Q k n 17 [some (.inr a0), some (.inl a1), some (.inl a2), some (.inl a3), some (.inl a4)] (S) h := by
  refine pw_iload_n C dX6_sun_17 rfl ?_
  exact pw_callS C (na := 1) (As := [.inl a3]) (S := S) hM kw352 kw353 kw38 kw354 (by decide +kernel) rfl dX6_sun_18 (by decide) (by decide) hk0 hn0 (by first | exact hS | (simp only [List.length_cons]; omega)) kk
set_option maxRecDepth 20000 in
theorem B_X6_sun_21 {G : Gx} {X : Cx} {h : PH} {k n : Nat} {Q : State → Prop} {S : List PV} {a0 : Nat} {a1 : Int} {a2 : Int} {a3 : Int} {a4 : Int} {s0 : Int} (C : CX_X6_sun G X) (q1 : pR s0 := by first | assumption | (unfold pR; omega)) (kt : s0 = 0 → PW G X 5 Q k n 34 [some (.inr a0), some (.inl a1), some (.inl a2), some (.inl a3), some (.inl a4)] (S) h) (kf : ¬ s0 = 0 → PW G X 5 Q k n 24 [some (.inr a0), some (.inl a1), some (.inl a2), some (.inl a3), some (.inl a4)] (S) h) : PW G X 5 Q k n 21 [some (.inr a0), some (.inl a1), some (.inl a2), some (.inl a3), some (.inl a4)] (.inl s0 :: S) h := by
  exact pw_if_eq C 34 dX6_sun_21 (by decide) q1 kt kf
set_option maxRecDepth 20000 in
theorem B_X6_sun_24 {G : Gx} {X : Cx} {h : PH} {k n : Nat} {Q : State → Prop} {S : List PV} {a0 : Nat} {a1 : Int} {a2 : Int} {a3 : Int} {a4 : Int} {PQ : Option PV → PH → Prop} (C : CX_X6_sun G X) (hk0 : k ≤ 0 := by decide) (hn0 : n ≤ 0 := by decide) (hM : CT_X6_isIn G X.2.1 [.inl a4, .inl (-1), .inl 3] h PQ) (hS : S.length ≤ 8 := by decide) (kk : ∀ r h', PQ r h' → PW G X 5 Q k n 31 [some (.inr a0), some (.inl a1), some (.inl a2), some (.inl a3), some (.inl a4)] (r.toList ++ S) h') : PW G X 5 Q k n 24 [some (.inr a0), some (.inl a1), some (.inl a2), some (.inl a3), some (.inl a4)] (S) h := by
  refine pw_iload C dX6_sun_24 rfl ?_
  refine pw_iconst C dX6_sun_26 ?_
  refine pw_iconst C dX6_sun_27 ?_
  exact pw_callS C (na := 3) (As := [.inl a4, .inl (-1), .inl 3]) (S := S) hM kw327 kw328 kw38 kw329 (by decide +kernel) rfl dX6_sun_28 (by decide) (by decide) hk0 hn0 (by first | exact hS | (simp only [List.length_cons]; omega)) kk
set_option maxRecDepth 20000 in
theorem B_X6_sun_31 {G : Gx} {X : Cx} {h : PH} {k n : Nat} {Q : State → Prop} {S : List PV} {a0 : Nat} {a1 : Int} {a2 : Int} {a3 : Int} {a4 : Int} {s0 : Int} (C : CX_X6_sun G X) (q1 : pR s0 := by first | assumption | (unfold pR; omega)) (kt : ¬ s0 = 0 → PW G X 5 Q k n 37 [some (.inr a0), some (.inl a1), some (.inl a2), some (.inl a3), some (.inl a4)] (S) h) (kf : s0 = 0 → PW G X 5 Q k n 34 [some (.inr a0), some (.inl a1), some (.inl a2), some (.inl a3), some (.inl a4)] (S) h) : PW G X 5 Q k n 31 [some (.inr a0), some (.inl a1), some (.inl a2), some (.inl a3), some (.inl a4)] (.inl s0 :: S) h := by
  exact pw_if_ne C 37 dX6_sun_31 (by decide) q1 kt kf
set_option maxRecDepth 20000 in
theorem B_X6_sun_34 {G : Gx} {X : Cx} {h : PH} {k n : Nat} {a0 : Nat} {a1 : Int} {a2 : Int} {a3 : Int} {a4 : Int} {PQ : Option PV → PH → Prop} (C : CX_X6_sun G X) (hq : PQ (some (.inl (-2))) h) : PW G X 5 (pw_E G X PQ k n) k n 34 [some (.inr a0), some (.inl a1), some (.inl a2), some (.inl a3), some (.inl a4)] [] h := by
  refine pw_bipush C dX6_sun_34 rfl ?_
  exact pw_ireturn C dX6_sun_36 hq
set_option maxRecDepth 20000 in
theorem B_X6_sun_37 {G : Gx} {X : Cx} {h : PH} {k n : Nat} {Q : State → Prop} {S : List PV} {a0 : Nat} {a1 : Int} {a2 : Int} {a3 : Int} {a4 : Int} {r2 : Nat} {r5 : Nat} {PQ : Option PV → PH → Prop} (C : CX_X6_sun G X) (hk0 : k ≤ 0 := by decide) (hn0 : n ≤ 0 := by decide) (t1 : ph_T h a0 = 6 := by first | assumption | rfl) (e3 : ph_R h a0 0 = r2 := by first | assumption | rfl) (t4 : ph_T h r2 = 5 := by first | assumption | rfl) (e6 : ph_R h r2 2 = r5 := by first | assumption | rfl) (t7 : ph_T h r5 = 3 := by first | assumption | rfl) (hM : CT_X3_putSun G X.2.1 [.inr r5, .inl a1, .inl a2, .inl a3, .inl a4] h PQ) (hS : S.length ≤ 8 := by decide) (kk : ∀ r h', PQ r h' → PW G X 5 Q k n 52 [some (.inr a0), some (.inl a1), some (.inl a2), some (.inl a3), some (.inl a4)] (r.toList ++ S) h') : PW G X 5 Q k n 37 [some (.inr a0), some (.inl a1), some (.inl a2), some (.inl a3), some (.inl a4)] (S) h := by
  refine pw_aload_n C dX6_sun_37 rfl ?_
  refine pw_getR C (t := 6) (f := 0) rfl inF6 rfl (by decide) (by decide) rfl kw310 dX6_sun_38 t1 ?_
  rw [e3]
  refine pw_getR C (t := 5) (f := 2) rfl inF5 rfl (by decide) (by decide) rfl kw183 dX6_sun_41 t4 ?_
  rw [e6]
  refine pw_iload_n C dX6_sun_44 rfl ?_
  refine pw_iload_n C dX6_sun_45 rfl ?_
  refine pw_iload_n C dX6_sun_46 rfl ?_
  refine pw_iload C dX6_sun_47 rfl ?_
  exact pw_callV C (na := 4) (As := [.inl a1, .inl a2, .inl a3, .inl a4]) (S := S) hM t7 (by decide) (hcl := by rfl) kw396 kw397 kw398 kw40 kw399 (by decide +kernel) rfl dX6_sun_49 (by decide) (by decide) hk0 hn0 (by first | exact hS | (simp only [List.length_cons]; omega)) kk
set_option maxRecDepth 20000 in
theorem B_X6_sun_52 {G : Gx} {X : Cx} {h : PH} {k n : Nat} {Q : State → Prop} {S : List PV} {a0 : Nat} {a1 : Int} {a2 : Int} {a3 : Int} {a4 : Int} {r2 : Nat} {PQ : Option PV → PH → Prop} (C : CX_X6_sun G X) (hk0 : k ≤ 0 := by decide) (hn0 : n ≤ 0 := by decide) (t1 : ph_T h a0 = 6 := by first | assumption | rfl) (e3 : ph_R h a0 3 = r2 := by first | assumption | rfl) (t4 : ph_T h r2 = 2 := by first | assumption | rfl) (hM : CT_X2_forgetWays G X.2.1 [.inr r2] h PQ) (hS : S.length ≤ 8 := by decide) (kk : ∀ r h', PQ r h' → PW G X 5 Q k n 59 [some (.inr a0), some (.inl a1), some (.inl a2), some (.inl a3), some (.inl a4)] (r.toList ++ S) h') : PW G X 5 Q k n 52 [some (.inr a0), some (.inl a1), some (.inl a2), some (.inl a3), some (.inl a4)] (S) h := by
  refine pw_aload_n C dX6_sun_52 rfl ?_
  refine pw_getR C (t := 6) (f := 3) rfl inF6 rfl (by decide) (by decide) rfl kw313 dX6_sun_53 t1 ?_
  rw [e3]
  exact pw_callV C (na := 0) (As := []) (S := S) hM t4 (by decide) (hcl := by rfl) kw338 kw339 kw340 kw43 kw341 (by decide +kernel) rfl dX6_sun_56 (by decide) (by decide) hk0 hn0 (by first | exact hS | (simp only [List.length_cons]; omega)) kk
set_option maxRecDepth 20000 in
theorem B_X6_sun_59 {G : Gx} {X : Cx} {h : PH} {k n : Nat} {a0 : Nat} {a1 : Int} {a2 : Int} {a3 : Int} {a4 : Int} {PQ : Option PV → PH → Prop} (C : CX_X6_sun G X) (hq : PQ (some (.inl 1)) h) : PW G X 5 (pw_E G X PQ k n) k n 59 [some (.inr a0), some (.inl a1), some (.inl a2), some (.inl a3), some (.inl a4)] [] h := by
  refine pw_iconst C dX6_sun_59 ?_
  exact pw_ireturn C dX6_sun_60 hq
theorem dX6_storm_0 : decode cX6_storm 0 = .ok (.iload_n 1, 1) := by decide +kernel
theorem dX6_storm_1 : decode cX6_storm 1 = .ok (.invokestatic 92, 3) := by decide +kernel
theorem dX6_storm_4 : decode cX6_storm 4 = .ok (.ifCond .eq 10, 3) := by decide +kernel
theorem dX6_storm_7 : decode cX6_storm 7 = .ok (.iload_n 2, 1) := by decide +kernel
theorem dX6_storm_8 : decode cX6_storm 8 = .ok (.invokestatic 92, 3) := by decide +kernel
theorem dX6_storm_11 : decode cX6_storm 11 = .ok (.ifCond .ne 6, 3) := by decide +kernel
theorem dX6_storm_14 : decode cX6_storm 14 = .ok (.bipush (-2), 2) := by decide +kernel
theorem dX6_storm_16 : decode cX6_storm 16 = .ok (.ireturn, 1) := by decide +kernel
theorem dX6_storm_17 : decode cX6_storm 17 = .ok (.aload_n 0, 1) := by decide +kernel
theorem dX6_storm_18 : decode cX6_storm 18 = .ok (.getfield 12, 3) := by decide +kernel
theorem dX6_storm_21 : decode cX6_storm 21 = .ok (.getfield 111, 3) := by decide +kernel
theorem dX6_storm_24 : decode cX6_storm 24 = .ok (.iload_n 1, 1) := by decide +kernel
theorem dX6_storm_25 : decode cX6_storm 25 = .ok (.putfield 121, 3) := by decide +kernel
theorem dX6_storm_28 : decode cX6_storm 28 = .ok (.aload_n 0, 1) := by decide +kernel
theorem dX6_storm_29 : decode cX6_storm 29 = .ok (.getfield 12, 3) := by decide +kernel
theorem dX6_storm_32 : decode cX6_storm 32 = .ok (.getfield 111, 3) := by decide +kernel
theorem dX6_storm_35 : decode cX6_storm 35 = .ok (.iload_n 2, 1) := by decide +kernel
theorem dX6_storm_36 : decode cX6_storm 36 = .ok (.putfield 124, 3) := by decide +kernel
theorem dX6_storm_39 : decode cX6_storm 39 = .ok (.aload_n 0, 1) := by decide +kernel
theorem dX6_storm_40 : decode cX6_storm 40 = .ok (.getfield 29, 3) := by decide +kernel
theorem dX6_storm_43 : decode cX6_storm 43 = .ok (.invokevirtual 55, 3) := by decide +kernel
theorem dX6_storm_46 : decode cX6_storm 46 = .ok (.iconst 1, 1) := by decide +kernel
theorem dX6_storm_47 : decode cX6_storm 47 = .ok (.ireturn, 1) := by decide +kernel
set_option maxRecDepth 20000 in
theorem B_X6_storm_0 {G : Gx} {X : Cx} {h : PH} {k n : Nat} {Q : State → Prop} {S : List PV} {a0 : Nat} {a1 : Int} {a2 : Int} {PQ : Option PV → PH → Prop} (C : CX_X6_storm G X) (hk0 : k ≤ 0 := by decide) (hn0 : n ≤ 0 := by decide) (hM : CT_X6_isTick G X.2.1 [.inl a1] h PQ) (hS : S.length ≤ 8 := by decide) (kk : ∀ r h', PQ r h' → PW G X 3 Q k n 4 [some (.inr a0), some (.inl a1), some (.inl a2)] (r.toList ++ S) h') : PW G X 3 Q k n 0 [some (.inr a0), some (.inl a1), some (.inl a2)] (S) h := by
  refine pw_iload_n C dX6_storm_0 rfl ?_
  exact pw_callS C (na := 1) (As := [.inl a1]) (S := S) hM kw378 kw379 kw38 kw380 (by decide +kernel) rfl dX6_storm_1 (by decide) (by decide) hk0 hn0 (by first | exact hS | (simp only [List.length_cons]; omega)) kk
set_option maxRecDepth 20000 in
theorem B_X6_storm_4 {G : Gx} {X : Cx} {h : PH} {k n : Nat} {Q : State → Prop} {S : List PV} {a0 : Nat} {a1 : Int} {a2 : Int} {s0 : Int} (C : CX_X6_storm G X) (q1 : pR s0 := by first | assumption | (unfold pR; omega)) (kt : s0 = 0 → PW G X 3 Q k n 14 [some (.inr a0), some (.inl a1), some (.inl a2)] (S) h) (kf : ¬ s0 = 0 → PW G X 3 Q k n 7 [some (.inr a0), some (.inl a1), some (.inl a2)] (S) h) : PW G X 3 Q k n 4 [some (.inr a0), some (.inl a1), some (.inl a2)] (.inl s0 :: S) h := by
  exact pw_if_eq C 14 dX6_storm_4 (by decide) q1 kt kf
set_option maxRecDepth 20000 in
theorem B_X6_storm_7 {G : Gx} {X : Cx} {h : PH} {k n : Nat} {Q : State → Prop} {S : List PV} {a0 : Nat} {a1 : Int} {a2 : Int} {PQ : Option PV → PH → Prop} (C : CX_X6_storm G X) (hk0 : k ≤ 0 := by decide) (hn0 : n ≤ 0 := by decide) (hM : CT_X6_isTick G X.2.1 [.inl a2] h PQ) (hS : S.length ≤ 8 := by decide) (kk : ∀ r h', PQ r h' → PW G X 3 Q k n 11 [some (.inr a0), some (.inl a1), some (.inl a2)] (r.toList ++ S) h') : PW G X 3 Q k n 7 [some (.inr a0), some (.inl a1), some (.inl a2)] (S) h := by
  refine pw_iload_n C dX6_storm_7 rfl ?_
  exact pw_callS C (na := 1) (As := [.inl a2]) (S := S) hM kw378 kw379 kw38 kw380 (by decide +kernel) rfl dX6_storm_8 (by decide) (by decide) hk0 hn0 (by first | exact hS | (simp only [List.length_cons]; omega)) kk
set_option maxRecDepth 20000 in
theorem B_X6_storm_11 {G : Gx} {X : Cx} {h : PH} {k n : Nat} {Q : State → Prop} {S : List PV} {a0 : Nat} {a1 : Int} {a2 : Int} {s0 : Int} (C : CX_X6_storm G X) (q1 : pR s0 := by first | assumption | (unfold pR; omega)) (kt : ¬ s0 = 0 → PW G X 3 Q k n 17 [some (.inr a0), some (.inl a1), some (.inl a2)] (S) h) (kf : s0 = 0 → PW G X 3 Q k n 14 [some (.inr a0), some (.inl a1), some (.inl a2)] (S) h) : PW G X 3 Q k n 11 [some (.inr a0), some (.inl a1), some (.inl a2)] (.inl s0 :: S) h := by
  exact pw_if_ne C 17 dX6_storm_11 (by decide) q1 kt kf
set_option maxRecDepth 20000 in
theorem B_X6_storm_14 {G : Gx} {X : Cx} {h : PH} {k n : Nat} {a0 : Nat} {a1 : Int} {a2 : Int} {PQ : Option PV → PH → Prop} (C : CX_X6_storm G X) (hq : PQ (some (.inl (-2))) h) : PW G X 3 (pw_E G X PQ k n) k n 14 [some (.inr a0), some (.inl a1), some (.inl a2)] [] h := by
  refine pw_bipush C dX6_storm_14 rfl ?_
  exact pw_ireturn C dX6_storm_16 hq
set_option maxRecDepth 20000 in
theorem B_X6_storm_17 {G : Gx} {X : Cx} {h : PH} {k n : Nat} {Q : State → Prop} {S : List PV} {a0 : Nat} {a1 : Int} {a2 : Int} {r2 : Nat} {r5 : Nat} {r9 : Nat} {r12 : Nat} {r16 : Nat} {PQ : Option PV → PH → Prop} (C : CX_X6_storm G X) (hk0 : k ≤ 0 := by decide) (hn0 : n ≤ 0 := by decide) (t1 : ph_T h a0 = 6 := by first | assumption | rfl) (e3 : ph_R h a0 0 = r2 := by first | assumption | rfl) (t4 : ph_T h r2 = 5 := by first | assumption | rfl) (e6 : ph_R h r2 2 = r5 := by first | assumption | rfl) (t7 : ph_T h r5 = 3 := by first | assumption | rfl) (t8 : ph_T h a0 = 6 := by first | assumption | rfl) (e10 : ph_R h a0 0 = r9 := by first | assumption | rfl) (t11 : ph_T h r9 = 5 := by first | assumption | rfl) (e13 : ph_R h r9 2 = r12 := by first | assumption | rfl) (t14 : ph_T h r12 = 3 := by first | assumption | rfl) (t15 : ph_T h a0 = 6 := by first | assumption | rfl) (e17 : ph_R h a0 3 = r16 := by first | assumption | rfl) (t18 : ph_T h r16 = 2 := by first | assumption | rfl) (hM : CT_X2_forgetWays G X.2.1 [.inr r16] (ph_setI (ph_setI h r5 4 a1) r12 5 a2) PQ) (hS : S.length ≤ 8 := by decide) (kk : ∀ r h', PQ r h' → PW G X 3 Q k n 46 [some (.inr a0), some (.inl a1), some (.inl a2)] (r.toList ++ S) h') : PW G X 3 Q k n 17 [some (.inr a0), some (.inl a1), some (.inl a2)] (S) h := by
  refine pw_aload_n C dX6_storm_17 rfl ?_
  refine pw_getR C (t := 6) (f := 0) rfl inF6 rfl (by decide) (by decide) rfl kw310 dX6_storm_18 t1 ?_
  rw [e3]
  refine pw_getR C (t := 5) (f := 2) rfl inF5 rfl (by decide) (by decide) rfl kw183 dX6_storm_21 t4 ?_
  rw [e6]
  refine pw_iload_n C dX6_storm_24 rfl ?_
  refine pw_putI C (t := 3) (f := 4) rfl inF3 tyX3_ok nmX3 rfl (by decide) (by decide) rfl (Or.inl rfl) (Or.inl rfl) kw81 dX6_storm_25 t7 ?_
  refine pw_aload_n C dX6_storm_28 rfl ?_
  refine pw_getR C (t := 6) (f := 0) rfl inF6 rfl (by decide) (by decide) rfl kw310 dX6_storm_29 t8 ?_
  rw [show ph_R (ph_setI h r5 4 a1) a0 0 = r9 from e10]
  refine pw_getR C (t := 5) (f := 2) rfl inF5 rfl (by decide) (by decide) rfl kw183 dX6_storm_32 t11 ?_
  rw [show ph_R (ph_setI h r5 4 a1) r9 2 = r12 from e13]
  refine pw_iload_n C dX6_storm_35 rfl ?_
  refine pw_putI C (t := 3) (f := 5) rfl inF3 tyX3_ok nmX3 rfl (by decide) (by decide) rfl (Or.inl rfl) (Or.inl rfl) kw83 dX6_storm_36 t14 ?_
  refine pw_aload_n C dX6_storm_39 rfl ?_
  refine pw_getR C (t := 6) (f := 3) rfl inF6 rfl (by decide) (by decide) rfl kw313 dX6_storm_40 t15 ?_
  rw [show ph_R (ph_setI (ph_setI h r5 4 a1) r12 5 a2) a0 3 = r16 from e17]
  exact pw_callV C (na := 0) (As := []) (S := S) hM t18 (by decide) (hcl := by rfl) kw338 kw339 kw340 kw43 kw341 (by decide +kernel) rfl dX6_storm_43 (by decide) (by decide) hk0 hn0 (by first | exact hS | (simp only [List.length_cons]; omega)) kk
set_option maxRecDepth 20000 in
theorem B_X6_storm_46 {G : Gx} {X : Cx} {h : PH} {k n : Nat} {a0 : Nat} {a1 : Int} {a2 : Int} {PQ : Option PV → PH → Prop} (C : CX_X6_storm G X) (hq : PQ (some (.inl 1)) h) : PW G X 3 (pw_E G X PQ k n) k n 46 [some (.inr a0), some (.inl a1), some (.inl a2)] [] h := by
  refine pw_iconst C dX6_storm_46 ?_
  exact pw_ireturn C dX6_storm_47 hq
theorem dX6_key_0 : decode cX6_key 0 = .ok (.iload_n 1, 1) := by decide +kernel
theorem dX6_key_1 : decode cX6_key 1 = .ok (.invokestatic 89, 3) := by decide +kernel
theorem dX6_key_4 : decode cX6_key 4 = .ok (.ifCond .ne 6, 3) := by decide +kernel
theorem dX6_key_7 : decode cX6_key 7 = .ok (.bipush (-2), 2) := by decide +kernel
theorem dX6_key_9 : decode cX6_key 9 = .ok (.ireturn, 1) := by decide +kernel
theorem dX6_key_10 : decode cX6_key 10 = .ok (.aload_n 0, 1) := by decide +kernel
theorem dX6_key_11 : decode cX6_key 11 = .ok (.getfield 12, 3) := by decide +kernel
theorem dX6_key_14 : decode cX6_key 14 = .ok (.getfield 111, 3) := by decide +kernel
theorem dX6_key_17 : decode cX6_key 17 = .ok (.getfield 127, 3) := by decide +kernel
theorem dX6_key_20 : decode cX6_key 20 = .ok (.istore_n 2, 1) := by decide +kernel
theorem dX6_key_21 : decode cX6_key 21 = .ok (.aload_n 0, 1) := by decide +kernel
theorem dX6_key_22 : decode cX6_key 22 = .ok (.getfield 12, 3) := by decide +kernel
theorem dX6_key_25 : decode cX6_key 25 = .ok (.getfield 111, 3) := by decide +kernel
theorem dX6_key_28 : decode cX6_key 28 = .ok (.iload_n 1, 1) := by decide +kernel
theorem dX6_key_29 : decode cX6_key 29 = .ok (.putfield 127, 3) := by decide +kernel
theorem dX6_key_32 : decode cX6_key 32 = .ok (.aload_n 0, 1) := by decide +kernel
theorem dX6_key_33 : decode cX6_key 33 = .ok (.getfield 29, 3) := by decide +kernel
theorem dX6_key_36 : decode cX6_key 36 = .ok (.invokevirtual 55, 3) := by decide +kernel
theorem dX6_key_39 : decode cX6_key 39 = .ok (.iload_n 2, 1) := by decide +kernel
theorem dX6_key_40 : decode cX6_key 40 = .ok (.ireturn, 1) := by decide +kernel
set_option maxRecDepth 20000 in
theorem B_X6_key_0 {G : Gx} {X : Cx} {h : PH} {k n : Nat} {Q : State → Prop} {S : List PV} {a0 : Nat} {a1 : Int} {PQ : Option PV → PH → Prop} (C : CX_X6_key G X) (hk0 : k ≤ 0 := by decide) (hn0 : n ≤ 0 := by decide) (hM : CT_X6_isHeight G X.2.1 [.inl a1] h PQ) (hS : S.length ≤ 8 := by decide) (kk : ∀ r h', PQ r h' → PW G X 3 Q k n 4 [some (.inr a0), some (.inl a1), none] (r.toList ++ S) h') : PW G X 3 Q k n 0 [some (.inr a0), some (.inl a1), none] (S) h := by
  refine pw_iload_n C dX6_key_0 rfl ?_
  exact pw_callS C (na := 1) (As := [.inl a1]) (S := S) hM kw352 kw353 kw38 kw354 (by decide +kernel) rfl dX6_key_1 (by decide) (by decide) hk0 hn0 (by first | exact hS | (simp only [List.length_cons]; omega)) kk
set_option maxRecDepth 20000 in
theorem B_X6_key_4 {G : Gx} {X : Cx} {h : PH} {k n : Nat} {Q : State → Prop} {S : List PV} {a0 : Nat} {a1 : Int} {s0 : Int} (C : CX_X6_key G X) (q1 : pR s0 := by first | assumption | (unfold pR; omega)) (kt : ¬ s0 = 0 → PW G X 3 Q k n 10 [some (.inr a0), some (.inl a1), none] (S) h) (kf : s0 = 0 → PW G X 3 Q k n 7 [some (.inr a0), some (.inl a1), none] (S) h) : PW G X 3 Q k n 4 [some (.inr a0), some (.inl a1), none] (.inl s0 :: S) h := by
  exact pw_if_ne C 10 dX6_key_4 (by decide) q1 kt kf
set_option maxRecDepth 20000 in
theorem B_X6_key_7 {G : Gx} {X : Cx} {h : PH} {k n : Nat} {a0 : Nat} {a1 : Int} {PQ : Option PV → PH → Prop} (C : CX_X6_key G X) (hq : PQ (some (.inl (-2))) h) : PW G X 3 (pw_E G X PQ k n) k n 7 [some (.inr a0), some (.inl a1), none] [] h := by
  refine pw_bipush C dX6_key_7 rfl ?_
  exact pw_ireturn C dX6_key_9 hq
set_option maxRecDepth 20000 in
theorem B_X6_key_10 {G : Gx} {X : Cx} {h : PH} {k n : Nat} {Q : State → Prop} {S : List PV} {a0 : Nat} {a1 : Int} {r2 : Nat} {r5 : Nat} {x8 : Int} {r11 : Nat} {r14 : Nat} {r18 : Nat} {PQ : Option PV → PH → Prop} (C : CX_X6_key G X) (hk0 : k ≤ 0 := by decide) (hn0 : n ≤ 0 := by decide) (t1 : ph_T h a0 = 6 := by first | assumption | rfl) (e3 : ph_R h a0 0 = r2 := by first | assumption | rfl) (t4 : ph_T h r2 = 5 := by first | assumption | rfl) (e6 : ph_R h r2 2 = r5 := by first | assumption | rfl) (t7 : ph_T h r5 = 3 := by first | assumption | rfl) (e9 : ph_I h r5 6 = x8 := by first | assumption | rfl) (t10 : ph_T h a0 = 6 := by first | assumption | rfl) (e12 : ph_R h a0 0 = r11 := by first | assumption | rfl) (t13 : ph_T h r11 = 5 := by first | assumption | rfl) (e15 : ph_R h r11 2 = r14 := by first | assumption | rfl) (t16 : ph_T h r14 = 3 := by first | assumption | rfl) (t17 : ph_T h a0 = 6 := by first | assumption | rfl) (e19 : ph_R h a0 3 = r18 := by first | assumption | rfl) (t20 : ph_T h r18 = 2 := by first | assumption | rfl) (hM : CT_X2_forgetWays G X.2.1 [.inr r18] (ph_setI h r14 6 a1) PQ) (hS : S.length ≤ 8 := by decide) (kk : ∀ r h', PQ r h' → PW G X 3 Q k n 39 [some (.inr a0), some (.inl a1), some (.inl x8)] (r.toList ++ S) h') : PW G X 3 Q k n 10 [some (.inr a0), some (.inl a1), none] (S) h := by
  refine pw_aload_n C dX6_key_10 rfl ?_
  refine pw_getR C (t := 6) (f := 0) rfl inF6 rfl (by decide) (by decide) rfl kw310 dX6_key_11 t1 ?_
  rw [e3]
  refine pw_getR C (t := 5) (f := 2) rfl inF5 rfl (by decide) (by decide) rfl kw183 dX6_key_14 t4 ?_
  rw [e6]
  refine pw_getI C (t := 3) (f := 6) rfl inF3 rfl (by decide) (by decide) rfl kw85 dX6_key_17 t7 ?_
  rw [e9]
  refine pw_istore_n C dX6_key_20 (by decide) ?_
  refine pw_aload_n C dX6_key_21 rfl ?_
  refine pw_getR C (t := 6) (f := 0) rfl inF6 rfl (by decide) (by decide) rfl kw310 dX6_key_22 t10 ?_
  rw [e12]
  refine pw_getR C (t := 5) (f := 2) rfl inF5 rfl (by decide) (by decide) rfl kw183 dX6_key_25 t13 ?_
  rw [e15]
  refine pw_iload_n C dX6_key_28 rfl ?_
  refine pw_putI C (t := 3) (f := 6) rfl inF3 tyX3_ok nmX3 rfl (by decide) (by decide) rfl (Or.inl rfl) (Or.inl rfl) kw85 dX6_key_29 t16 ?_
  refine pw_aload_n C dX6_key_32 rfl ?_
  refine pw_getR C (t := 6) (f := 3) rfl inF6 rfl (by decide) (by decide) rfl kw313 dX6_key_33 t17 ?_
  rw [show ph_R (ph_setI h r14 6 a1) a0 3 = r18 from e19]
  exact pw_callV C (na := 0) (As := []) (S := S) hM t20 (by decide) (hcl := by rfl) kw338 kw339 kw340 kw43 kw341 (by decide +kernel) rfl dX6_key_36 (by decide) (by decide) hk0 hn0 (by first | exact hS | (simp only [List.length_cons]; omega)) kk
set_option maxRecDepth 20000 in
theorem B_X6_key_39 {G : Gx} {X : Cx} {h : PH} {k n : Nat} {a0 : Nat} {a1 : Int} {a2 : Int} {PQ : Option PV → PH → Prop} (C : CX_X6_key G X) (hq : PQ (some (.inl a2)) h) : PW G X 3 (pw_E G X PQ k n) k n 39 [some (.inr a0), some (.inl a1), some (.inl a2)] [] h := by
  refine pw_iload_n C dX6_key_39 rfl ?_
  exact pw_ireturn C dX6_key_40 hq
theorem dX6_burnt_0 : decode cX6_burnt 0 = .ok (.iload_n 1, 1) := by decide +kernel
theorem dX6_burnt_1 : decode cX6_burnt 1 = .ok (.iload_n 2, 1) := by decide +kernel
theorem dX6_burnt_2 : decode cX6_burnt 2 = .ok (.invokestatic 58, 3) := by decide +kernel
theorem dX6_burnt_5 : decode cX6_burnt 5 = .ok (.ifCond .eq 10, 3) := by decide +kernel
theorem dX6_burnt_8 : decode cX6_burnt 8 = .ok (.iload_n 3, 1) := by decide +kernel
theorem dX6_burnt_9 : decode cX6_burnt 9 = .ok (.invokestatic 92, 3) := by decide +kernel
theorem dX6_burnt_12 : decode cX6_burnt 12 = .ok (.ifCond .ne 6, 3) := by decide +kernel
theorem dX6_burnt_15 : decode cX6_burnt 15 = .ok (.bipush (-2), 2) := by decide +kernel
theorem dX6_burnt_17 : decode cX6_burnt 17 = .ok (.ireturn, 1) := by decide +kernel
theorem dX6_burnt_18 : decode cX6_burnt 18 = .ok (.aload_n 0, 1) := by decide +kernel
theorem dX6_burnt_19 : decode cX6_burnt 19 = .ok (.getfield 12, 3) := by decide +kernel
theorem dX6_burnt_22 : decode cX6_burnt 22 = .ok (.getfield 111, 3) := by decide +kernel
theorem dX6_burnt_25 : decode cX6_burnt 25 = .ok (.iload_n 1, 1) := by decide +kernel
theorem dX6_burnt_26 : decode cX6_burnt 26 = .ok (.iload_n 2, 1) := by decide +kernel
theorem dX6_burnt_27 : decode cX6_burnt 27 = .ok (.iload_n 3, 1) := by decide +kernel
theorem dX6_burnt_28 : decode cX6_burnt 28 = .ok (.invokevirtual 130, 3) := by decide +kernel
theorem dX6_burnt_31 : decode cX6_burnt 31 = .ok (.ifCond .eq 7, 3) := by decide +kernel
theorem dX6_burnt_34 : decode cX6_burnt 34 = .ok (.iconst 1, 1) := by decide +kernel
theorem dX6_burnt_35 : decode cX6_burnt 35 = .ok (.goto 4, 3) := by decide +kernel
theorem dX6_burnt_38 : decode cX6_burnt 38 = .ok (.iconst 0, 1) := by decide +kernel
theorem dX6_burnt_39 : decode cX6_burnt 39 = .ok (.ireturn, 1) := by decide +kernel
set_option maxRecDepth 20000 in
theorem B_X6_burnt_0 {G : Gx} {X : Cx} {h : PH} {k n : Nat} {Q : State → Prop} {S : List PV} {a0 : Nat} {a1 : Int} {a2 : Int} {a3 : Int} {PQ : Option PV → PH → Prop} (C : CX_X6_burnt G X) (hk0 : k ≤ 0 := by decide) (hn0 : n ≤ 0 := by decide) (hM : CT_X6_isDirection G X.2.1 [.inl a1, .inl a2] h PQ) (hS : S.length ≤ 8 := by decide) (kk : ∀ r h', PQ r h' → PW G X 4 Q k n 5 [some (.inr a0), some (.inl a1), some (.inl a2), some (.inl a3)] (r.toList ++ S) h') : PW G X 4 Q k n 0 [some (.inr a0), some (.inl a1), some (.inl a2), some (.inl a3)] (S) h := by
  refine pw_iload_n C dX6_burnt_0 rfl ?_
  refine pw_iload_n C dX6_burnt_1 rfl ?_
  exact pw_callS C (na := 2) (As := [.inl a1, .inl a2]) (S := S) hM kw346 kw347 kw38 kw348 (by decide +kernel) rfl dX6_burnt_2 (by decide) (by decide) hk0 hn0 (by first | exact hS | (simp only [List.length_cons]; omega)) kk
set_option maxRecDepth 20000 in
theorem B_X6_burnt_5 {G : Gx} {X : Cx} {h : PH} {k n : Nat} {Q : State → Prop} {S : List PV} {a0 : Nat} {a1 : Int} {a2 : Int} {a3 : Int} {s0 : Int} (C : CX_X6_burnt G X) (q1 : pR s0 := by first | assumption | (unfold pR; omega)) (kt : s0 = 0 → PW G X 4 Q k n 15 [some (.inr a0), some (.inl a1), some (.inl a2), some (.inl a3)] (S) h) (kf : ¬ s0 = 0 → PW G X 4 Q k n 8 [some (.inr a0), some (.inl a1), some (.inl a2), some (.inl a3)] (S) h) : PW G X 4 Q k n 5 [some (.inr a0), some (.inl a1), some (.inl a2), some (.inl a3)] (.inl s0 :: S) h := by
  exact pw_if_eq C 15 dX6_burnt_5 (by decide) q1 kt kf
set_option maxRecDepth 20000 in
theorem B_X6_burnt_8 {G : Gx} {X : Cx} {h : PH} {k n : Nat} {Q : State → Prop} {S : List PV} {a0 : Nat} {a1 : Int} {a2 : Int} {a3 : Int} {PQ : Option PV → PH → Prop} (C : CX_X6_burnt G X) (hk0 : k ≤ 0 := by decide) (hn0 : n ≤ 0 := by decide) (hM : CT_X6_isTick G X.2.1 [.inl a3] h PQ) (hS : S.length ≤ 8 := by decide) (kk : ∀ r h', PQ r h' → PW G X 4 Q k n 12 [some (.inr a0), some (.inl a1), some (.inl a2), some (.inl a3)] (r.toList ++ S) h') : PW G X 4 Q k n 8 [some (.inr a0), some (.inl a1), some (.inl a2), some (.inl a3)] (S) h := by
  refine pw_iload_n C dX6_burnt_8 rfl ?_
  exact pw_callS C (na := 1) (As := [.inl a3]) (S := S) hM kw378 kw379 kw38 kw380 (by decide +kernel) rfl dX6_burnt_9 (by decide) (by decide) hk0 hn0 (by first | exact hS | (simp only [List.length_cons]; omega)) kk
set_option maxRecDepth 20000 in
theorem B_X6_burnt_12 {G : Gx} {X : Cx} {h : PH} {k n : Nat} {Q : State → Prop} {S : List PV} {a0 : Nat} {a1 : Int} {a2 : Int} {a3 : Int} {s0 : Int} (C : CX_X6_burnt G X) (q1 : pR s0 := by first | assumption | (unfold pR; omega)) (kt : ¬ s0 = 0 → PW G X 4 Q k n 18 [some (.inr a0), some (.inl a1), some (.inl a2), some (.inl a3)] (S) h) (kf : s0 = 0 → PW G X 4 Q k n 15 [some (.inr a0), some (.inl a1), some (.inl a2), some (.inl a3)] (S) h) : PW G X 4 Q k n 12 [some (.inr a0), some (.inl a1), some (.inl a2), some (.inl a3)] (.inl s0 :: S) h := by
  exact pw_if_ne C 18 dX6_burnt_12 (by decide) q1 kt kf
set_option maxRecDepth 20000 in
theorem B_X6_burnt_15 {G : Gx} {X : Cx} {h : PH} {k n : Nat} {a0 : Nat} {a1 : Int} {a2 : Int} {a3 : Int} {PQ : Option PV → PH → Prop} (C : CX_X6_burnt G X) (hq : PQ (some (.inl (-2))) h) : PW G X 4 (pw_E G X PQ k n) k n 15 [some (.inr a0), some (.inl a1), some (.inl a2), some (.inl a3)] [] h := by
  refine pw_bipush C dX6_burnt_15 rfl ?_
  exact pw_ireturn C dX6_burnt_17 hq
set_option maxRecDepth 20000 in
theorem B_X6_burnt_18 {G : Gx} {X : Cx} {h : PH} {k n : Nat} {Q : State → Prop} {S : List PV} {a0 : Nat} {a1 : Int} {a2 : Int} {a3 : Int} {r2 : Nat} {r5 : Nat} {PQ : Option PV → PH → Prop} (C : CX_X6_burnt G X) (hk0 : k ≤ 0 := by decide) (hn0 : n ≤ 0 := by decide) (t1 : ph_T h a0 = 6 := by first | assumption | rfl) (e3 : ph_R h a0 0 = r2 := by first | assumption | rfl) (t4 : ph_T h r2 = 5 := by first | assumption | rfl) (e6 : ph_R h r2 2 = r5 := by first | assumption | rfl) (t7 : ph_T h r5 = 3 := by first | assumption | rfl) (hM : CT_X3_isBurnt G X.2.1 [.inr r5, .inl a1, .inl a2, .inl a3] h PQ) (hS : S.length ≤ 8 := by decide) (kk : ∀ r h', PQ r h' → PW G X 4 Q k n 31 [some (.inr a0), some (.inl a1), some (.inl a2), some (.inl a3)] (r.toList ++ S) h') : PW G X 4 Q k n 18 [some (.inr a0), some (.inl a1), some (.inl a2), some (.inl a3)] (S) h := by
  refine pw_aload_n C dX6_burnt_18 rfl ?_
  refine pw_getR C (t := 6) (f := 0) rfl inF6 rfl (by decide) (by decide) rfl kw310 dX6_burnt_19 t1 ?_
  rw [e3]
  refine pw_getR C (t := 5) (f := 2) rfl inF5 rfl (by decide) (by decide) rfl kw183 dX6_burnt_22 t4 ?_
  rw [e6]
  refine pw_iload_n C dX6_burnt_25 rfl ?_
  refine pw_iload_n C dX6_burnt_26 rfl ?_
  refine pw_iload_n C dX6_burnt_27 rfl ?_
  exact pw_callV C (na := 3) (As := [.inl a1, .inl a2, .inl a3]) (S := S) hM t7 (by decide) (hcl := by rfl) kw412 kw413 kw414 kw40 kw415 (by decide +kernel) rfl dX6_burnt_28 (by decide) (by decide) hk0 hn0 (by first | exact hS | (simp only [List.length_cons]; omega)) kk
set_option maxRecDepth 20000 in
theorem B_X6_burnt_31 {G : Gx} {X : Cx} {h : PH} {k n : Nat} {Q : State → Prop} {S : List PV} {a0 : Nat} {a1 : Int} {a2 : Int} {a3 : Int} {s0 : Int} (C : CX_X6_burnt G X) (q1 : pR s0 := by first | assumption | (unfold pR; omega)) (kt : s0 = 0 → PW G X 4 Q k n 38 [some (.inr a0), some (.inl a1), some (.inl a2), some (.inl a3)] (S) h) (kf : ¬ s0 = 0 → PW G X 4 Q k n 34 [some (.inr a0), some (.inl a1), some (.inl a2), some (.inl a3)] (S) h) : PW G X 4 Q k n 31 [some (.inr a0), some (.inl a1), some (.inl a2), some (.inl a3)] (.inl s0 :: S) h := by
  exact pw_if_eq C 38 dX6_burnt_31 (by decide) q1 kt kf
set_option maxRecDepth 20000 in
theorem B_X6_burnt_34 {G : Gx} {X : Cx} {h : PH} {k n : Nat} {Q : State → Prop} {S : List PV} {a0 : Nat} {a1 : Int} {a2 : Int} {a3 : Int} (C : CX_X6_burnt G X) (kk : PW G X 4 Q k n 39 [some (.inr a0), some (.inl a1), some (.inl a2), some (.inl a3)] (.inl 1 :: S) h) : PW G X 4 Q k n 34 [some (.inr a0), some (.inl a1), some (.inl a2), some (.inl a3)] (S) h := by
  refine pw_iconst C dX6_burnt_34 ?_
  refine pw_goto C 39 dX6_burnt_35 (by decide) ?_
  exact kk
set_option maxRecDepth 20000 in
theorem B_X6_burnt_38 {G : Gx} {X : Cx} {h : PH} {k n : Nat} {Q : State → Prop} {S : List PV} {a0 : Nat} {a1 : Int} {a2 : Int} {a3 : Int} (C : CX_X6_burnt G X) (kk : PW G X 4 Q k n 39 [some (.inr a0), some (.inl a1), some (.inl a2), some (.inl a3)] (.inl 0 :: S) h) : PW G X 4 Q k n 38 [some (.inr a0), some (.inl a1), some (.inl a2), some (.inl a3)] (S) h := by
  refine pw_iconst C dX6_burnt_38 ?_
  exact kk
set_option maxRecDepth 20000 in
theorem B_X6_burnt_39 {G : Gx} {X : Cx} {h : PH} {k n : Nat} {a0 : Nat} {a1 : Int} {a2 : Int} {a3 : Int} {s0 : Int} {PQ : Option PV → PH → Prop} (C : CX_X6_burnt G X) (hq : PQ (some (.inl s0)) h) : PW G X 4 (pw_E G X PQ k n) k n 39 [some (.inr a0), some (.inl a1), some (.inl a2), some (.inl a3)] [.inl s0] h := by
  exact pw_ireturn C dX6_burnt_39 hq
theorem dX6_told_0 : decode cX6_told 0 = .ok (.aload_n 0, 1) := by decide +kernel
theorem dX6_told_1 : decode cX6_told 1 = .ok (.getfield 12, 3) := by decide +kernel
theorem dX6_told_4 : decode cX6_told 4 = .ok (.iload_n 1, 1) := by decide +kernel
theorem dX6_told_5 : decode cX6_told 5 = .ok (.invokevirtual 37, 3) := by decide +kernel
theorem dX6_told_8 : decode cX6_told 8 = .ok (.istore_n 3, 1) := by decide +kernel
theorem dX6_told_9 : decode cX6_told 9 = .ok (.iload_n 3, 1) := by decide +kernel
theorem dX6_told_10 : decode cX6_told 10 = .ok (.ifCond .ge 5, 3) := by decide +kernel
theorem dX6_told_13 : decode cX6_told 13 = .ok (.iconst (-1), 1) := by decide +kernel
theorem dX6_told_14 : decode cX6_told 14 = .ok (.ireturn, 1) := by decide +kernel
theorem dX6_told_15 : decode cX6_told 15 = .ok (.aload_n 0, 1) := by decide +kernel
theorem dX6_told_16 : decode cX6_told 16 = .ok (.getfield 12, 3) := by decide +kernel
theorem dX6_told_19 : decode cX6_told 19 = .ok (.getfield 45, 3) := by decide +kernel
theorem dX6_told_22 : decode cX6_told 22 = .ok (.iload_n 3, 1) := by decide +kernel
theorem dX6_told_23 : decode cX6_told 23 = .ok (.aaload, 1) := by decide +kernel
theorem dX6_told_24 : decode cX6_told 24 = .ok (.astore 4, 2) := by decide +kernel
theorem dX6_told_26 : decode cX6_told 26 = .ok (.iload_n 2, 1) := by decide +kernel
theorem dX6_told_27 : decode cX6_told 27 = .ok (.tableswitch 59 0 4 #[33, 39, 45, 47, 53], 33) := by decide +kernel
theorem dX6_told_60 : decode cX6_told 60 = .ok (.aload 4, 2) := by decide +kernel
theorem dX6_told_62 : decode cX6_told 62 = .ok (.getfield 133, 3) := by decide +kernel
theorem dX6_told_65 : decode cX6_told 65 = .ok (.ireturn, 1) := by decide +kernel
theorem dX6_told_66 : decode cX6_told 66 = .ok (.aload 4, 2) := by decide +kernel
theorem dX6_told_68 : decode cX6_told 68 = .ok (.getfield 66, 3) := by decide +kernel
theorem dX6_told_71 : decode cX6_told 71 = .ok (.ireturn, 1) := by decide +kernel
theorem dX6_told_72 : decode cX6_told 72 = .ok (.iload_n 3, 1) := by decide +kernel
theorem dX6_told_73 : decode cX6_told 73 = .ok (.ireturn, 1) := by decide +kernel
theorem dX6_told_74 : decode cX6_told 74 = .ok (.aload 4, 2) := by decide +kernel
theorem dX6_told_76 : decode cX6_told 76 = .ok (.getfield 136, 3) := by decide +kernel
theorem dX6_told_79 : decode cX6_told 79 = .ok (.ireturn, 1) := by decide +kernel
theorem dX6_told_80 : decode cX6_told 80 = .ok (.aload 4, 2) := by decide +kernel
theorem dX6_told_82 : decode cX6_told 82 = .ok (.getfield 139, 3) := by decide +kernel
theorem dX6_told_85 : decode cX6_told 85 = .ok (.ireturn, 1) := by decide +kernel
theorem dX6_told_86 : decode cX6_told 86 = .ok (.bipush (-2), 2) := by decide +kernel
theorem dX6_told_88 : decode cX6_told 88 = .ok (.ireturn, 1) := by decide +kernel
set_option maxRecDepth 20000 in
theorem B_X6_told_0 {G : Gx} {X : Cx} {h : PH} {k n : Nat} {Q : State → Prop} {S : List PV} {a0 : Nat} {a1 : Int} {a2 : Int} {r2 : Nat} {PQ : Option PV → PH → Prop} (C : CX_X6_told G X) (hk0 : k ≤ 0 := by decide) (hn0 : n ≤ 0 := by decide) (t1 : ph_T h a0 = 6 := by first | assumption | rfl) (e3 : ph_R h a0 0 = r2 := by first | assumption | rfl) (t4 : ph_T h r2 = 5 := by first | assumption | rfl) (hM : CT_X5_indexOf G X.2.1 [.inr r2, .inl a1] h PQ) (hS : S.length ≤ 8 := by decide) (kk : ∀ r h', PQ r h' → PW G X 5 Q k n 8 [some (.inr a0), some (.inl a1), some (.inl a2), none, none] (r.toList ++ S) h') : PW G X 5 Q k n 0 [some (.inr a0), some (.inl a1), some (.inl a2), none, none] (S) h := by
  refine pw_aload_n C dX6_told_0 rfl ?_
  refine pw_getR C (t := 6) (f := 0) rfl inF6 rfl (by decide) (by decide) rfl kw310 dX6_told_1 t1 ?_
  rw [e3]
  refine pw_iload_n C dX6_told_4 rfl ?_
  exact pw_callV C (na := 1) (As := [.inl a1]) (S := S) hM t4 (by decide) (hcl := by rfl) kw330 kw331 kw332 kw39 kw333 (by decide +kernel) rfl dX6_told_5 (by decide) (by decide) hk0 hn0 (by first | exact hS | (simp only [List.length_cons]; omega)) kk
set_option maxRecDepth 20000 in
theorem B_X6_told_8 {G : Gx} {X : Cx} {h : PH} {k n : Nat} {Q : State → Prop} {S : List PV} {a0 : Nat} {a1 : Int} {a2 : Int} {s0 : Int} (C : CX_X6_told G X) (q1 : pR s0 := by first | assumption | (unfold pR; omega)) (kt : 0 ≤ s0 → PW G X 5 Q k n 15 [some (.inr a0), some (.inl a1), some (.inl a2), some (.inl s0), none] (S) h) (kf : ¬ 0 ≤ s0 → PW G X 5 Q k n 13 [some (.inr a0), some (.inl a1), some (.inl a2), some (.inl s0), none] (S) h) : PW G X 5 Q k n 8 [some (.inr a0), some (.inl a1), some (.inl a2), none, none] (.inl s0 :: S) h := by
  refine pw_istore_n C dX6_told_8 (by decide) ?_
  refine pw_iload_n C dX6_told_9 rfl ?_
  exact pw_if_ge C 15 dX6_told_10 (by decide) q1 kt kf
set_option maxRecDepth 20000 in
theorem B_X6_told_13 {G : Gx} {X : Cx} {h : PH} {k n : Nat} {a0 : Nat} {a1 : Int} {a2 : Int} {a3 : Int} {PQ : Option PV → PH → Prop} (C : CX_X6_told G X) (hq : PQ (some (.inl (-1))) h) : PW G X 5 (pw_E G X PQ k n) k n 13 [some (.inr a0), some (.inl a1), some (.inl a2), some (.inl a3), none] [] h := by
  refine pw_iconst C dX6_told_13 ?_
  exact pw_ireturn C dX6_told_14 hq
set_option maxRecDepth 20000 in
theorem B_X6_told_15 {G : Gx} {X : Cx} {h : PH} {k n : Nat} {Q : State → Prop} {S : List PV} {a0 : Nat} {a1 : Int} {a2 : Int} {a3 : Int} {r2 : Nat} {r5 : Nat} {m11 : Nat} {m11E : String} {r12 : Nat} (C : CX_X6_told G X) (t1 : ph_T h a0 = 6 := by first | assumption | rfl) (e3 : ph_R h a0 0 = r2 := by first | assumption | rfl) (t4 : ph_T h r2 = 5 := by first | assumption | rfl) (e6 : ph_R h r2 0 = r5 := by first | assumption | rfl) (m11a : ¬ m11 < 10 := by decide) (m11b : m11 < 14 := by decide) (t7 : ph_T h r5 = m11 := by first | assumption | rfl) (m11c : (pw_tys G)[m11 - 8]? = some (G.2.2.2.2 m11, .object m11E) := by rfl) (q8 : (0 : Int) ≤ a3 := by first | assumption | omega) (q9 : a3 < (ph_L h r5 : Int) := by first | assumption | omega) (q10 : pR a3 := by first | assumption | (unfold pR; omega)) (e13 : ph_R h r5 (Int.toNat a3) = r12 := by first | assumption | rfl) (q14 : 2 ≤ r12 := by first | assumption | omega) (kk : PW G X 5 Q k n 27 [some (.inr a0), some (.inl a1), some (.inl a2), some (.inl a3), some (.inr r12)] (.inl a2 :: S) h) : PW G X 5 Q k n 15 [some (.inr a0), some (.inl a1), some (.inl a2), some (.inl a3), none] (S) h := by
  refine pw_aload_n C dX6_told_15 rfl ?_
  refine pw_getR C (t := 6) (f := 0) rfl inF6 rfl (by decide) (by decide) rfl kw310 dX6_told_16 t1 ?_
  rw [e3]
  refine pw_getR C (t := 5) (f := 0) rfl inF5 rfl (by decide) (by decide) rfl kw178 dX6_told_19 t4 ?_
  rw [e6]
  refine pw_iload_n C dX6_told_22 rfl ?_
  refine pw_aald C (t := m11) dX6_told_23 t7 m11a m11b m11c q8 q9 q10 ?_
  rw [e13]
  refine pw_astore C dX6_told_24 (by decide) q14 ?_
  refine pw_iload_n C dX6_told_26 rfl ?_
  exact kk
set_option maxRecDepth 20000 in
theorem B_X6_told_27 {G : Gx} {X : Cx} {h : PH} {k n : Nat} {Q : State → Prop} {S : List PV} {a0 : Nat} {a1 : Int} {a2 : Int} {a3 : Int} {a4 : Nat} {s0 : Int} (C : CX_X6_told G X) (q1 : pR s0 := by first | assumption | (unfold pR; omega)) (k0 : s0 = 0 → PW G X 5 Q k n 60 [some (.inr a0), some (.inl a1), some (.inl a2), some (.inl a3), some (.inr a4)] (S) h) (k1 : s0 = 1 → PW G X 5 Q k n 66 [some (.inr a0), some (.inl a1), some (.inl a2), some (.inl a3), some (.inr a4)] (S) h) (k2 : s0 = 2 → PW G X 5 Q k n 72 [some (.inr a0), some (.inl a1), some (.inl a2), some (.inl a3), some (.inr a4)] (S) h) (k3 : s0 = 3 → PW G X 5 Q k n 74 [some (.inr a0), some (.inl a1), some (.inl a2), some (.inl a3), some (.inr a4)] (S) h) (k4 : s0 = 4 → PW G X 5 Q k n 80 [some (.inr a0), some (.inl a1), some (.inl a2), some (.inl a3), some (.inr a4)] (S) h) (kd : s0 < 0 ∨ 4 < s0 → PW G X 5 Q k n 86 [some (.inr a0), some (.inl a1), some (.inl a2), some (.inl a3), some (.inr a4)] (S) h) : PW G X 5 Q k n 27 [some (.inr a0), some (.inl a1), some (.inl a2), some (.inl a3), some (.inr a4)] (.inl s0 :: S) h := by
  by_cases zz : s0 < 0 ∨ 4 < s0
  · exact pw_tableOut C 86 dX6_told_27 q1 zz (by decide) (kd zz)
  · have zz2 : s0 = 0 ∨ s0 = 1 ∨ s0 = 2 ∨ s0 = 3 ∨ s0 = 4 := by omega
    rcases zz2 with z0 | z1 | z2 | z3 | z4
    · have kj := k0 z0
      subst z0
      exact pw_tableIn C 60 dX6_told_27 q1 (by decide) (by decide) rfl (by decide) kj
    · have kj := k1 z1
      subst z1
      exact pw_tableIn C 66 dX6_told_27 q1 (by decide) (by decide) rfl (by decide) kj
    · have kj := k2 z2
      subst z2
      exact pw_tableIn C 72 dX6_told_27 q1 (by decide) (by decide) rfl (by decide) kj
    · have kj := k3 z3
      subst z3
      exact pw_tableIn C 74 dX6_told_27 q1 (by decide) (by decide) rfl (by decide) kj
    · have kj := k4 z4
      subst z4
      exact pw_tableIn C 80 dX6_told_27 q1 (by decide) (by decide) rfl (by decide) kj
set_option maxRecDepth 20000 in
theorem B_X6_told_60 {G : Gx} {X : Cx} {h : PH} {k n : Nat} {a0 : Nat} {a1 : Int} {a2 : Int} {a3 : Int} {a4 : Nat} {x2 : Int} {PQ : Option PV → PH → Prop} (C : CX_X6_told G X) (t1 : ph_T h a4 = 0 := by first | assumption | rfl) (e3 : ph_I h a4 3 = x2 := by first | assumption | rfl) (hq : PQ (some (.inl x2)) h) : PW G X 5 (pw_E G X PQ k n) k n 60 [some (.inr a0), some (.inl a1), some (.inl a2), some (.inl a3), some (.inr a4)] [] h := by
  refine pw_aload C dX6_told_60 rfl ?_
  refine pw_getI C (t := 0) (f := 3) rfl inF0 rfl (by decide) (by decide) rfl kw120 dX6_told_62 t1 ?_
  rw [e3]
  exact pw_ireturn C dX6_told_65 hq
set_option maxRecDepth 20000 in
theorem B_X6_told_66 {G : Gx} {X : Cx} {h : PH} {k n : Nat} {a0 : Nat} {a1 : Int} {a2 : Int} {a3 : Int} {a4 : Nat} {x2 : Int} {PQ : Option PV → PH → Prop} (C : CX_X6_told G X) (t1 : ph_T h a4 = 0 := by first | assumption | rfl) (e3 : ph_I h a4 4 = x2 := by first | assumption | rfl) (hq : PQ (some (.inl x2)) h) : PW G X 5 (pw_E G X PQ k n) k n 66 [some (.inr a0), some (.inl a1), some (.inl a2), some (.inl a3), some (.inr a4)] [] h := by
  refine pw_aload C dX6_told_66 rfl ?_
  refine pw_getI C (t := 0) (f := 4) rfl inF0 rfl (by decide) (by decide) rfl kw122 dX6_told_68 t1 ?_
  rw [e3]
  exact pw_ireturn C dX6_told_71 hq
set_option maxRecDepth 20000 in
theorem B_X6_told_72 {G : Gx} {X : Cx} {h : PH} {k n : Nat} {a0 : Nat} {a1 : Int} {a2 : Int} {a3 : Int} {a4 : Nat} {PQ : Option PV → PH → Prop} (C : CX_X6_told G X) (hq : PQ (some (.inl a3)) h) : PW G X 5 (pw_E G X PQ k n) k n 72 [some (.inr a0), some (.inl a1), some (.inl a2), some (.inl a3), some (.inr a4)] [] h := by
  refine pw_iload_n C dX6_told_72 rfl ?_
  exact pw_ireturn C dX6_told_73 hq
set_option maxRecDepth 20000 in
theorem B_X6_told_74 {G : Gx} {X : Cx} {h : PH} {k n : Nat} {a0 : Nat} {a1 : Int} {a2 : Int} {a3 : Int} {a4 : Nat} {x2 : Int} {PQ : Option PV → PH → Prop} (C : CX_X6_told G X) (t1 : ph_T h a4 = 0 := by first | assumption | rfl) (e3 : ph_I h a4 5 = x2 := by first | assumption | rfl) (hq : PQ (some (.inl x2)) h) : PW G X 5 (pw_E G X PQ k n) k n 74 [some (.inr a0), some (.inl a1), some (.inl a2), some (.inl a3), some (.inr a4)] [] h := by
  refine pw_aload C dX6_told_74 rfl ?_
  refine pw_getI C (t := 0) (f := 5) rfl inF0 rfl (by decide) (by decide) rfl kw126 dX6_told_76 t1 ?_
  rw [e3]
  exact pw_ireturn C dX6_told_79 hq
set_option maxRecDepth 20000 in
theorem B_X6_told_80 {G : Gx} {X : Cx} {h : PH} {k n : Nat} {a0 : Nat} {a1 : Int} {a2 : Int} {a3 : Int} {a4 : Nat} {x2 : Int} {PQ : Option PV → PH → Prop} (C : CX_X6_told G X) (t1 : ph_T h a4 = 0 := by first | assumption | rfl) (e3 : ph_I h a4 6 = x2 := by first | assumption | rfl) (hq : PQ (some (.inl x2)) h) : PW G X 5 (pw_E G X PQ k n) k n 80 [some (.inr a0), some (.inl a1), some (.inl a2), some (.inl a3), some (.inr a4)] [] h := by
  refine pw_aload C dX6_told_80 rfl ?_
  refine pw_getI C (t := 0) (f := 6) rfl inF0 rfl (by decide) (by decide) rfl kw128 dX6_told_82 t1 ?_
  rw [e3]
  exact pw_ireturn C dX6_told_85 hq
set_option maxRecDepth 20000 in
theorem B_X6_told_86 {G : Gx} {X : Cx} {h : PH} {k n : Nat} {a0 : Nat} {a1 : Int} {a2 : Int} {a3 : Int} {a4 : Nat} {PQ : Option PV → PH → Prop} (C : CX_X6_told G X) (hq : PQ (some (.inl (-2))) h) : PW G X 5 (pw_E G X PQ k n) k n 86 [some (.inr a0), some (.inl a1), some (.inl a2), some (.inl a3), some (.inr a4)] [] h := by
  refine pw_bipush C dX6_told_86 rfl ?_
  exact pw_ireturn C dX6_told_88 hq
theorem dX6_order_0 : decode cX6_order 0 = .ok (.iload_n 1, 1) := by decide +kernel
theorem dX6_order_1 : decode cX6_order 1 = .ok (.iconst (-1), 1) := by decide +kernel
theorem dX6_order_2 : decode cX6_order 2 = .ok (.if_icmp .ne 11, 3) := by decide +kernel
theorem dX6_order_5 : decode cX6_order 5 = .ok (.aload_n 0, 1) := by decide +kernel
theorem dX6_order_6 : decode cX6_order 6 = .ok (.getfield 12, 3) := by decide +kernel
theorem dX6_order_9 : decode cX6_order 9 = .ok (.getfield 41, 3) := by decide +kernel
theorem dX6_order_12 : decode cX6_order 12 = .ok (.ireturn, 1) := by decide +kernel
theorem dX6_order_13 : decode cX6_order 13 = .ok (.iload_n 1, 1) := by decide +kernel
theorem dX6_order_14 : decode cX6_order 14 = .ok (.iconst 0, 1) := by decide +kernel
theorem dX6_order_15 : decode cX6_order 15 = .ok (.aload_n 0, 1) := by decide +kernel
theorem dX6_order_16 : decode cX6_order 16 = .ok (.getfield 12, 3) := by decide +kernel
theorem dX6_order_19 : decode cX6_order 19 = .ok (.getfield 41, 3) := by decide +kernel
theorem dX6_order_22 : decode cX6_order 22 = .ok (.iconst 1, 1) := by decide +kernel
theorem dX6_order_23 : decode cX6_order 23 = .ok (.isub, 1) := by decide +kernel
theorem dX6_order_24 : decode cX6_order 24 = .ok (.invokestatic 33, 3) := by decide +kernel
theorem dX6_order_27 : decode cX6_order 27 = .ok (.ifCond .eq 18, 3) := by decide +kernel
theorem dX6_order_30 : decode cX6_order 30 = .ok (.aload_n 0, 1) := by decide +kernel
theorem dX6_order_31 : decode cX6_order 31 = .ok (.getfield 12, 3) := by decide +kernel
theorem dX6_order_34 : decode cX6_order 34 = .ok (.getfield 45, 3) := by decide +kernel
theorem dX6_order_37 : decode cX6_order 37 = .ok (.iload_n 1, 1) := by decide +kernel
theorem dX6_order_38 : decode cX6_order 38 = .ok (.aaload, 1) := by decide +kernel
theorem dX6_order_39 : decode cX6_order 39 = .ok (.getfield 142, 3) := by decide +kernel
theorem dX6_order_42 : decode cX6_order 42 = .ok (.goto 5, 3) := by decide +kernel
theorem dX6_order_45 : decode cX6_order 45 = .ok (.bipush (-6), 2) := by decide +kernel
theorem dX6_order_47 : decode cX6_order 47 = .ok (.ireturn, 1) := by decide +kernel
set_option maxRecDepth 20000 in
theorem B_X6_order_0 {G : Gx} {X : Cx} {h : PH} {k n : Nat} {Q : State → Prop} {S : List PV} {a0 : Nat} {a1 : Int} (C : CX_X6_order G X) (q1 : pR a1 := by first | assumption | (unfold pR; omega)) (q2 : pR (-1) := by first | assumption | (unfold pR; omega)) (kt : ¬ a1 = (-1) → PW G X 2 Q k n 13 [some (.inr a0), some (.inl a1)] (S) h) (kf : a1 = (-1) → PW G X 2 Q k n 5 [some (.inr a0), some (.inl a1)] (S) h) : PW G X 2 Q k n 0 [some (.inr a0), some (.inl a1)] (S) h := by
  refine pw_iload_n C dX6_order_0 rfl ?_
  refine pw_iconst C dX6_order_1 ?_
  exact pw_icmp_ne C 13 dX6_order_2 (by decide) q1 q2 kt kf
set_option maxRecDepth 20000 in
theorem B_X6_order_5 {G : Gx} {X : Cx} {h : PH} {k n : Nat} {a0 : Nat} {a1 : Int} {r2 : Nat} {x5 : Int} {PQ : Option PV → PH → Prop} (C : CX_X6_order G X) (t1 : ph_T h a0 = 6 := by first | assumption | rfl) (e3 : ph_R h a0 0 = r2 := by first | assumption | rfl) (t4 : ph_T h r2 = 5 := by first | assumption | rfl) (e6 : ph_I h r2 4 = x5 := by first | assumption | rfl) (hq : PQ (some (.inl x5)) h) : PW G X 2 (pw_E G X PQ k n) k n 5 [some (.inr a0), some (.inl a1)] [] h := by
  refine pw_aload_n C dX6_order_5 rfl ?_
  refine pw_getR C (t := 6) (f := 0) rfl inF6 rfl (by decide) (by decide) rfl kw310 dX6_order_6 t1 ?_
  rw [e3]
  refine pw_getI C (t := 5) (f := 4) rfl inF5 rfl (by decide) (by decide) rfl kw188 dX6_order_9 t4 ?_
  rw [e6]
  exact pw_ireturn C dX6_order_12 hq
set_option maxRecDepth 20000 in
theorem B_X6_order_13 {G : Gx} {X : Cx} {h : PH} {k n : Nat} {Q : State → Prop} {S : List PV} {a0 : Nat} {a1 : Int} {r2 : Nat} {x5 : Int} {PQ : Option PV → PH → Prop} (C : CX_X6_order G X) (hk0 : k ≤ 0 := by decide) (hn0 : n ≤ 0 := by decide) (t1 : ph_T h a0 = 6 := by first | assumption | rfl) (e3 : ph_R h a0 0 = r2 := by first | assumption | rfl) (t4 : ph_T h r2 = 5 := by first | assumption | rfl) (e6 : ph_I h r2 4 = x5 := by first | assumption | rfl) (hM : CT_X6_isIn G X.2.1 [.inl a1, .inl 0, .inl (x5 - 1)] h PQ) (hS : S.length ≤ 8 := by decide) (kk : ∀ r h', PQ r h' → PW G X 2 Q k n 27 [some (.inr a0), some (.inl a1)] (r.toList ++ S) h') : PW G X 2 Q k n 13 [some (.inr a0), some (.inl a1)] (S) h := by
  refine pw_iload_n C dX6_order_13 rfl ?_
  refine pw_iconst C dX6_order_14 ?_
  refine pw_aload_n C dX6_order_15 rfl ?_
  refine pw_getR C (t := 6) (f := 0) rfl inF6 rfl (by decide) (by decide) rfl kw310 dX6_order_16 t1 ?_
  rw [e3]
  refine pw_getI C (t := 5) (f := 4) rfl inF5 rfl (by decide) (by decide) rfl kw188 dX6_order_19 t4 ?_
  rw [e6]
  refine pw_iconst C dX6_order_22 ?_
  refine pw_isub C dX6_order_23 ?_
  exact pw_callS C (na := 3) (As := [.inl a1, .inl 0, .inl (x5 - 1)]) (S := S) hM kw327 kw328 kw38 kw329 (by decide +kernel) rfl dX6_order_24 (by decide) (by decide) hk0 hn0 (by first | exact hS | (simp only [List.length_cons]; omega)) kk
set_option maxRecDepth 20000 in
theorem B_X6_order_27 {G : Gx} {X : Cx} {h : PH} {k n : Nat} {Q : State → Prop} {S : List PV} {a0 : Nat} {a1 : Int} {s0 : Int} (C : CX_X6_order G X) (q1 : pR s0 := by first | assumption | (unfold pR; omega)) (kt : s0 = 0 → PW G X 2 Q k n 45 [some (.inr a0), some (.inl a1)] (S) h) (kf : ¬ s0 = 0 → PW G X 2 Q k n 30 [some (.inr a0), some (.inl a1)] (S) h) : PW G X 2 Q k n 27 [some (.inr a0), some (.inl a1)] (.inl s0 :: S) h := by
  exact pw_if_eq C 45 dX6_order_27 (by decide) q1 kt kf
set_option maxRecDepth 20000 in
theorem B_X6_order_30 {G : Gx} {X : Cx} {h : PH} {k n : Nat} {Q : State → Prop} {S : List PV} {a0 : Nat} {a1 : Int} {r2 : Nat} {r5 : Nat} {m11 : Nat} {m11E : String} {r12 : Nat} {x15 : Int} (C : CX_X6_order G X) (t1 : ph_T h a0 = 6 := by first | assumption | rfl) (e3 : ph_R h a0 0 = r2 := by first | assumption | rfl) (t4 : ph_T h r2 = 5 := by first | assumption | rfl) (e6 : ph_R h r2 0 = r5 := by first | assumption | rfl) (m11a : ¬ m11 < 10 := by decide) (m11b : m11 < 14 := by decide) (t7 : ph_T h r5 = m11 := by first | assumption | rfl) (m11c : (pw_tys G)[m11 - 8]? = some (G.2.2.2.2 m11, .object m11E) := by rfl) (q8 : (0 : Int) ≤ a1 := by first | assumption | omega) (q9 : a1 < (ph_L h r5 : Int) := by first | assumption | omega) (q10 : pR a1 := by first | assumption | (unfold pR; omega)) (e13 : ph_R h r5 (Int.toNat a1) = r12 := by first | assumption | rfl) (t14 : ph_T h r12 = 0 := by first | assumption | rfl) (e16 : ph_I h r12 2 = x15 := by first | assumption | rfl) (kk : PW G X 2 Q k n 47 [some (.inr a0), some (.inl a1)] (.inl x15 :: S) h) : PW G X 2 Q k n 30 [some (.inr a0), some (.inl a1)] (S) h := by
  refine pw_aload_n C dX6_order_30 rfl ?_
  refine pw_getR C (t := 6) (f := 0) rfl inF6 rfl (by decide) (by decide) rfl kw310 dX6_order_31 t1 ?_
  rw [e3]
  refine pw_getR C (t := 5) (f := 0) rfl inF5 rfl (by decide) (by decide) rfl kw178 dX6_order_34 t4 ?_
  rw [e6]
  refine pw_iload_n C dX6_order_37 rfl ?_
  refine pw_aald C (t := m11) dX6_order_38 t7 m11a m11b m11c q8 q9 q10 ?_
  rw [e13]
  refine pw_getI C (t := 0) (f := 2) rfl inF0 rfl (by decide) (by decide) rfl kw116 dX6_order_39 t14 ?_
  rw [e16]
  refine pw_goto C 47 dX6_order_42 (by decide) ?_
  exact kk
set_option maxRecDepth 20000 in
theorem B_X6_order_45 {G : Gx} {X : Cx} {h : PH} {k n : Nat} {Q : State → Prop} {S : List PV} {a0 : Nat} {a1 : Int} (C : CX_X6_order G X) (kk : PW G X 2 Q k n 47 [some (.inr a0), some (.inl a1)] (.inl (-6) :: S) h) : PW G X 2 Q k n 45 [some (.inr a0), some (.inl a1)] (S) h := by
  refine pw_bipush C dX6_order_45 rfl ?_
  exact kk
set_option maxRecDepth 20000 in
theorem B_X6_order_47 {G : Gx} {X : Cx} {h : PH} {k n : Nat} {a0 : Nat} {a1 : Int} {s0 : Int} {PQ : Option PV → PH → Prop} (C : CX_X6_order G X) (hq : PQ (some (.inl s0)) h) : PW G X 2 (pw_E G X PQ k n) k n 47 [some (.inr a0), some (.inl a1)] [.inl s0] h := by
  exact pw_ireturn C dX6_order_47 hq
theorem dX6_dish_0 : decode cX6_dish 0 = .ok (.iload_n 1, 1) := by decide +kernel
theorem dX6_dish_1 : decode cX6_dish 1 = .ok (.invokestatic 76, 3) := by decide +kernel
theorem dX6_dish_4 : decode cX6_dish 4 = .ok (.ifCond .ne 5, 3) := by decide +kernel
theorem dX6_dish_7 : decode cX6_dish 7 = .ok (.iconst (-1), 1) := by decide +kernel
theorem dX6_dish_8 : decode cX6_dish 8 = .ok (.ireturn, 1) := by decide +kernel
theorem dX6_dish_9 : decode cX6_dish 9 = .ok (.aload_n 0, 1) := by decide +kernel
theorem dX6_dish_10 : decode cX6_dish 10 = .ok (.getfield 12, 3) := by decide +kernel
theorem dX6_dish_13 : decode cX6_dish 13 = .ok (.getfield 80, 3) := by decide +kernel
theorem dX6_dish_16 : decode cX6_dish 16 = .ok (.iload_n 1, 1) := by decide +kernel
theorem dX6_dish_17 : decode cX6_dish 17 = .ok (.aaload, 1) := by decide +kernel
theorem dX6_dish_18 : decode cX6_dish 18 = .ok (.astore_n 3, 1) := by decide +kernel
theorem dX6_dish_19 : decode cX6_dish 19 = .ok (.iload_n 2, 1) := by decide +kernel
theorem dX6_dish_20 : decode cX6_dish 20 = .ok (.tableswitch 78 0 5 #[40, 50, 55, 60, 65, 70], 40) := by decide +kernel
theorem dX6_dish_60 : decode cX6_dish 60 = .ok (.aload_n 3, 1) := by decide +kernel
theorem dX6_dish_61 : decode cX6_dish 61 = .ok (.getfield 102, 3) := by decide +kernel
theorem dX6_dish_64 : decode cX6_dish 64 = .ok (.aload_n 3, 1) := by decide +kernel
theorem dX6_dish_65 : decode cX6_dish 65 = .ok (.getfield 84, 3) := by decide +kernel
theorem dX6_dish_68 : decode cX6_dish 68 = .ok (.iadd, 1) := by decide +kernel
theorem dX6_dish_69 : decode cX6_dish 69 = .ok (.ireturn, 1) := by decide +kernel
theorem dX6_dish_70 : decode cX6_dish 70 = .ok (.aload_n 3, 1) := by decide +kernel
theorem dX6_dish_71 : decode cX6_dish 71 = .ok (.getfield 145, 3) := by decide +kernel
theorem dX6_dish_74 : decode cX6_dish 74 = .ok (.ireturn, 1) := by decide +kernel
theorem dX6_dish_75 : decode cX6_dish 75 = .ok (.aload_n 3, 1) := by decide +kernel
theorem dX6_dish_76 : decode cX6_dish 76 = .ok (.getfield 148, 3) := by decide +kernel
theorem dX6_dish_79 : decode cX6_dish 79 = .ok (.ireturn, 1) := by decide +kernel
theorem dX6_dish_80 : decode cX6_dish 80 = .ok (.aload_n 3, 1) := by decide +kernel
theorem dX6_dish_81 : decode cX6_dish 81 = .ok (.getfield 84, 3) := by decide +kernel
theorem dX6_dish_84 : decode cX6_dish 84 = .ok (.ireturn, 1) := by decide +kernel
theorem dX6_dish_85 : decode cX6_dish 85 = .ok (.aload_n 3, 1) := by decide +kernel
theorem dX6_dish_86 : decode cX6_dish 86 = .ok (.getfield 105, 3) := by decide +kernel
theorem dX6_dish_89 : decode cX6_dish 89 = .ok (.ireturn, 1) := by decide +kernel
theorem dX6_dish_90 : decode cX6_dish 90 = .ok (.aload_n 3, 1) := by decide +kernel
theorem dX6_dish_91 : decode cX6_dish 91 = .ok (.getfield 102, 3) := by decide +kernel
theorem dX6_dish_94 : decode cX6_dish 94 = .ok (.invokestatic 151, 3) := by decide +kernel
theorem dX6_dish_97 : decode cX6_dish 97 = .ok (.ireturn, 1) := by decide +kernel
theorem dX6_dish_98 : decode cX6_dish 98 = .ok (.bipush (-2), 2) := by decide +kernel
theorem dX6_dish_100 : decode cX6_dish 100 = .ok (.ireturn, 1) := by decide +kernel
set_option maxRecDepth 20000 in
theorem B_X6_dish_0 {G : Gx} {X : Cx} {h : PH} {k n : Nat} {Q : State → Prop} {S : List PV} {a0 : Nat} {a1 : Int} {a2 : Int} {PQ : Option PV → PH → Prop} (C : CX_X6_dish G X) (hk0 : k ≤ 0 := by decide) (hn0 : n ≤ 0 := by decide) (hM : CT_X6_isDish G X.2.1 [.inl a1] h PQ) (hS : S.length ≤ 8 := by decide) (kk : ∀ r h', PQ r h' → PW G X 4 Q k n 4 [some (.inr a0), some (.inl a1), some (.inl a2), none] (r.toList ++ S) h') : PW G X 4 Q k n 0 [some (.inr a0), some (.inl a1), some (.inl a2), none] (S) h := by
  refine pw_iload_n C dX6_dish_0 rfl ?_
  exact pw_callS C (na := 1) (As := [.inl a1]) (S := S) hM kw375 kw376 kw38 kw377 (by decide +kernel) rfl dX6_dish_1 (by decide) (by decide) hk0 hn0 (by first | exact hS | (simp only [List.length_cons]; omega)) kk
set_option maxRecDepth 20000 in
theorem B_X6_dish_4 {G : Gx} {X : Cx} {h : PH} {k n : Nat} {Q : State → Prop} {S : List PV} {a0 : Nat} {a1 : Int} {a2 : Int} {s0 : Int} (C : CX_X6_dish G X) (q1 : pR s0 := by first | assumption | (unfold pR; omega)) (kt : ¬ s0 = 0 → PW G X 4 Q k n 9 [some (.inr a0), some (.inl a1), some (.inl a2), none] (S) h) (kf : s0 = 0 → PW G X 4 Q k n 7 [some (.inr a0), some (.inl a1), some (.inl a2), none] (S) h) : PW G X 4 Q k n 4 [some (.inr a0), some (.inl a1), some (.inl a2), none] (.inl s0 :: S) h := by
  exact pw_if_ne C 9 dX6_dish_4 (by decide) q1 kt kf
set_option maxRecDepth 20000 in
theorem B_X6_dish_7 {G : Gx} {X : Cx} {h : PH} {k n : Nat} {a0 : Nat} {a1 : Int} {a2 : Int} {PQ : Option PV → PH → Prop} (C : CX_X6_dish G X) (hq : PQ (some (.inl (-1))) h) : PW G X 4 (pw_E G X PQ k n) k n 7 [some (.inr a0), some (.inl a1), some (.inl a2), none] [] h := by
  refine pw_iconst C dX6_dish_7 ?_
  exact pw_ireturn C dX6_dish_8 hq
set_option maxRecDepth 20000 in
theorem B_X6_dish_9 {G : Gx} {X : Cx} {h : PH} {k n : Nat} {Q : State → Prop} {S : List PV} {a0 : Nat} {a1 : Int} {a2 : Int} {r2 : Nat} {r5 : Nat} {m11 : Nat} {m11E : String} {r12 : Nat} (C : CX_X6_dish G X) (t1 : ph_T h a0 = 6 := by first | assumption | rfl) (e3 : ph_R h a0 0 = r2 := by first | assumption | rfl) (t4 : ph_T h r2 = 5 := by first | assumption | rfl) (e6 : ph_R h r2 1 = r5 := by first | assumption | rfl) (m11a : ¬ m11 < 10 := by decide) (m11b : m11 < 14 := by decide) (t7 : ph_T h r5 = m11 := by first | assumption | rfl) (m11c : (pw_tys G)[m11 - 8]? = some (G.2.2.2.2 m11, .object m11E) := by rfl) (q8 : (0 : Int) ≤ a1 := by first | assumption | omega) (q9 : a1 < (ph_L h r5 : Int) := by first | assumption | omega) (q10 : pR a1 := by first | assumption | (unfold pR; omega)) (e13 : ph_R h r5 (Int.toNat a1) = r12 := by first | assumption | rfl) (q14 : 2 ≤ r12 := by first | assumption | omega) (kk : PW G X 4 Q k n 20 [some (.inr a0), some (.inl a1), some (.inl a2), some (.inr r12)] (.inl a2 :: S) h) : PW G X 4 Q k n 9 [some (.inr a0), some (.inl a1), some (.inl a2), none] (S) h := by
  refine pw_aload_n C dX6_dish_9 rfl ?_
  refine pw_getR C (t := 6) (f := 0) rfl inF6 rfl (by decide) (by decide) rfl kw310 dX6_dish_10 t1 ?_
  rw [e3]
  refine pw_getR C (t := 5) (f := 1) rfl inF5 rfl (by decide) (by decide) rfl kw181 dX6_dish_13 t4 ?_
  rw [e6]
  refine pw_iload_n C dX6_dish_16 rfl ?_
  refine pw_aald C (t := m11) dX6_dish_17 t7 m11a m11b m11c q8 q9 q10 ?_
  rw [e13]
  refine pw_astore_n C dX6_dish_18 (by decide) q14 ?_
  refine pw_iload_n C dX6_dish_19 rfl ?_
  exact kk
set_option maxRecDepth 20000 in
theorem B_X6_dish_20 {G : Gx} {X : Cx} {h : PH} {k n : Nat} {Q : State → Prop} {S : List PV} {a0 : Nat} {a1 : Int} {a2 : Int} {a3 : Nat} {s0 : Int} (C : CX_X6_dish G X) (q1 : pR s0 := by first | assumption | (unfold pR; omega)) (k0 : s0 = 0 → PW G X 4 Q k n 60 [some (.inr a0), some (.inl a1), some (.inl a2), some (.inr a3)] (S) h) (k1 : s0 = 1 → PW G X 4 Q k n 70 [some (.inr a0), some (.inl a1), some (.inl a2), some (.inr a3)] (S) h) (k2 : s0 = 2 → PW G X 4 Q k n 75 [some (.inr a0), some (.inl a1), some (.inl a2), some (.inr a3)] (S) h) (k3 : s0 = 3 → PW G X 4 Q k n 80 [some (.inr a0), some (.inl a1), some (.inl a2), some (.inr a3)] (S) h) (k4 : s0 = 4 → PW G X 4 Q k n 85 [some (.inr a0), some (.inl a1), some (.inl a2), some (.inr a3)] (S) h) (k5 : s0 = 5 → PW G X 4 Q k n 90 [some (.inr a0), some (.inl a1), some (.inl a2), some (.inr a3)] (S) h) (kd : s0 < 0 ∨ 5 < s0 → PW G X 4 Q k n 98 [some (.inr a0), some (.inl a1), some (.inl a2), some (.inr a3)] (S) h) : PW G X 4 Q k n 20 [some (.inr a0), some (.inl a1), some (.inl a2), some (.inr a3)] (.inl s0 :: S) h := by
  by_cases zz : s0 < 0 ∨ 5 < s0
  · exact pw_tableOut C 98 dX6_dish_20 q1 zz (by decide) (kd zz)
  · have zz2 : s0 = 0 ∨ s0 = 1 ∨ s0 = 2 ∨ s0 = 3 ∨ s0 = 4 ∨ s0 = 5 := by omega
    rcases zz2 with z0 | z1 | z2 | z3 | z4 | z5
    · have kj := k0 z0
      subst z0
      exact pw_tableIn C 60 dX6_dish_20 q1 (by decide) (by decide) rfl (by decide) kj
    · have kj := k1 z1
      subst z1
      exact pw_tableIn C 70 dX6_dish_20 q1 (by decide) (by decide) rfl (by decide) kj
    · have kj := k2 z2
      subst z2
      exact pw_tableIn C 75 dX6_dish_20 q1 (by decide) (by decide) rfl (by decide) kj
    · have kj := k3 z3
      subst z3
      exact pw_tableIn C 80 dX6_dish_20 q1 (by decide) (by decide) rfl (by decide) kj
    · have kj := k4 z4
      subst z4
      exact pw_tableIn C 85 dX6_dish_20 q1 (by decide) (by decide) rfl (by decide) kj
    · have kj := k5 z5
      subst z5
      exact pw_tableIn C 90 dX6_dish_20 q1 (by decide) (by decide) rfl (by decide) kj
set_option maxRecDepth 20000 in
theorem B_X6_dish_60 {G : Gx} {X : Cx} {h : PH} {k n : Nat} {a0 : Nat} {a1 : Int} {a2 : Int} {a3 : Nat} {x2 : Int} {x5 : Int} {PQ : Option PV → PH → Prop} (C : CX_X6_dish G X) (t1 : ph_T h a3 = 1 := by first | assumption | rfl) (e3 : ph_I h a3 0 = x2 := by first | assumption | rfl) (t4 : ph_T h a3 = 1 := by first | assumption | rfl) (e6 : ph_I h a3 3 = x5 := by first | assumption | rfl) (hq : PQ (some (.inl (x2 + x5))) h) : PW G X 4 (pw_E G X PQ k n) k n 60 [some (.inr a0), some (.inl a1), some (.inl a2), some (.inr a3)] [] h := by
  refine pw_aload_n C dX6_dish_60 rfl ?_
  refine pw_getI C (t := 1) (f := 0) rfl inF1 rfl (by decide) (by decide) rfl kw152 dX6_dish_61 t1 ?_
  rw [e3]
  refine pw_aload_n C dX6_dish_64 rfl ?_
  refine pw_getI C (t := 1) (f := 3) rfl inF1 rfl (by decide) (by decide) rfl kw160 dX6_dish_65 t4 ?_
  rw [e6]
  refine pw_iadd C dX6_dish_68 ?_
  exact pw_ireturn C dX6_dish_69 hq
set_option maxRecDepth 20000 in
theorem B_X6_dish_70 {G : Gx} {X : Cx} {h : PH} {k n : Nat} {a0 : Nat} {a1 : Int} {a2 : Int} {a3 : Nat} {x2 : Int} {PQ : Option PV → PH → Prop} (C : CX_X6_dish G X) (t1 : ph_T h a3 = 1 := by first | assumption | rfl) (e3 : ph_I h a3 1 = x2 := by first | assumption | rfl) (hq : PQ (some (.inl x2)) h) : PW G X 4 (pw_E G X PQ k n) k n 70 [some (.inr a0), some (.inl a1), some (.inl a2), some (.inr a3)] [] h := by
  refine pw_aload_n C dX6_dish_70 rfl ?_
  refine pw_getI C (t := 1) (f := 1) rfl inF1 rfl (by decide) (by decide) rfl kw155 dX6_dish_71 t1 ?_
  rw [e3]
  exact pw_ireturn C dX6_dish_74 hq
set_option maxRecDepth 20000 in
theorem B_X6_dish_75 {G : Gx} {X : Cx} {h : PH} {k n : Nat} {a0 : Nat} {a1 : Int} {a2 : Int} {a3 : Nat} {x2 : Int} {PQ : Option PV → PH → Prop} (C : CX_X6_dish G X) (t1 : ph_T h a3 = 1 := by first | assumption | rfl) (e3 : ph_I h a3 2 = x2 := by first | assumption | rfl) (hq : PQ (some (.inl x2)) h) : PW G X 4 (pw_E G X PQ k n) k n 75 [some (.inr a0), some (.inl a1), some (.inl a2), some (.inr a3)] [] h := by
  refine pw_aload_n C dX6_dish_75 rfl ?_
  refine pw_getI C (t := 1) (f := 2) rfl inF1 rfl (by decide) (by decide) rfl kw158 dX6_dish_76 t1 ?_
  rw [e3]
  exact pw_ireturn C dX6_dish_79 hq
set_option maxRecDepth 20000 in
theorem B_X6_dish_80 {G : Gx} {X : Cx} {h : PH} {k n : Nat} {a0 : Nat} {a1 : Int} {a2 : Int} {a3 : Nat} {x2 : Int} {PQ : Option PV → PH → Prop} (C : CX_X6_dish G X) (t1 : ph_T h a3 = 1 := by first | assumption | rfl) (e3 : ph_I h a3 3 = x2 := by first | assumption | rfl) (hq : PQ (some (.inl x2)) h) : PW G X 4 (pw_E G X PQ k n) k n 80 [some (.inr a0), some (.inl a1), some (.inl a2), some (.inr a3)] [] h := by
  refine pw_aload_n C dX6_dish_80 rfl ?_
  refine pw_getI C (t := 1) (f := 3) rfl inF1 rfl (by decide) (by decide) rfl kw160 dX6_dish_81 t1 ?_
  rw [e3]
  exact pw_ireturn C dX6_dish_84 hq
set_option maxRecDepth 20000 in
theorem B_X6_dish_85 {G : Gx} {X : Cx} {h : PH} {k n : Nat} {a0 : Nat} {a1 : Int} {a2 : Int} {a3 : Nat} {x2 : Int} {PQ : Option PV → PH → Prop} (C : CX_X6_dish G X) (t1 : ph_T h a3 = 1 := by first | assumption | rfl) (e3 : ph_I h a3 4 = x2 := by first | assumption | rfl) (hq : PQ (some (.inl x2)) h) : PW G X 4 (pw_E G X PQ k n) k n 85 [some (.inr a0), some (.inl a1), some (.inl a2), some (.inr a3)] [] h := by
  refine pw_aload_n C dX6_dish_85 rfl ?_
  refine pw_getI C (t := 1) (f := 4) rfl inF1 rfl (by decide) (by decide) rfl kw163 dX6_dish_86 t1 ?_
  rw [e3]
  exact pw_ireturn C dX6_dish_89 hq
set_option maxRecDepth 20000 in
theorem B_X6_dish_90 {G : Gx} {X : Cx} {h : PH} {k n : Nat} {Q : State → Prop} {S : List PV} {a0 : Nat} {a1 : Int} {a2 : Int} {a3 : Nat} {x2 : Int} {PQ : Option PV → PH → Prop} (C : CX_X6_dish G X) (hk0 : k ≤ 0 := by decide) (hn0 : n ≤ 0 := by decide) (t1 : ph_T h a3 = 1 := by first | assumption | rfl) (e3 : ph_I h a3 0 = x2 := by first | assumption | rfl) (hM : CT_X6_sideOf G X.2.1 [.inl x2] h PQ) (hS : S.length ≤ 8 := by decide) (kk : ∀ r h', PQ r h' → PW G X 4 Q k n 97 [some (.inr a0), some (.inl a1), some (.inl a2), some (.inr a3)] (r.toList ++ S) h') : PW G X 4 Q k n 90 [some (.inr a0), some (.inl a1), some (.inl a2), some (.inr a3)] (S) h := by
  refine pw_aload_n C dX6_dish_90 rfl ?_
  refine pw_getI C (t := 1) (f := 0) rfl inF1 rfl (by decide) (by decide) rfl kw152 dX6_dish_91 t1 ?_
  rw [e3]
  exact pw_callS C (na := 1) (As := [.inl x2]) (S := S) hM kw442 kw443 kw38 kw444 (by decide +kernel) rfl dX6_dish_94 (by decide) (by decide) hk0 hn0 (by first | exact hS | (simp only [List.length_cons]; omega)) kk
set_option maxRecDepth 20000 in
theorem B_X6_dish_97 {G : Gx} {X : Cx} {h : PH} {k n : Nat} {a0 : Nat} {a1 : Int} {a2 : Int} {a3 : Nat} {s0 : Int} {PQ : Option PV → PH → Prop} (C : CX_X6_dish G X) (hq : PQ (some (.inl s0)) h) : PW G X 4 (pw_E G X PQ k n) k n 97 [some (.inr a0), some (.inl a1), some (.inl a2), some (.inr a3)] [.inl s0] h := by
  exact pw_ireturn C dX6_dish_97 hq
set_option maxRecDepth 20000 in
theorem B_X6_dish_98 {G : Gx} {X : Cx} {h : PH} {k n : Nat} {a0 : Nat} {a1 : Int} {a2 : Int} {a3 : Nat} {PQ : Option PV → PH → Prop} (C : CX_X6_dish G X) (hq : PQ (some (.inl (-2))) h) : PW G X 4 (pw_E G X PQ k n) k n 98 [some (.inr a0), some (.inl a1), some (.inl a2), some (.inr a3)] [] h := by
  refine pw_bipush C dX6_dish_98 rfl ?_
  exact pw_ireturn C dX6_dish_100 hq
theorem dX6_way_0 : decode cX6_way 0 = .ok (.aload_n 0, 1) := by decide +kernel
theorem dX6_way_1 : decode cX6_way 1 = .ok (.getfield 12, 3) := by decide +kernel
theorem dX6_way_4 : decode cX6_way 4 = .ok (.iload_n 2, 1) := by decide +kernel
theorem dX6_way_5 : decode cX6_way 5 = .ok (.invokevirtual 37, 3) := by decide +kernel
theorem dX6_way_8 : decode cX6_way 8 = .ok (.istore 4, 2) := by decide +kernel
theorem dX6_way_10 : decode cX6_way 10 = .ok (.iload_n 1, 1) := by decide +kernel
theorem dX6_way_11 : decode cX6_way 11 = .ok (.invokestatic 76, 3) := by decide +kernel
theorem dX6_way_14 : decode cX6_way 14 = .ok (.ifCond .eq 8, 3) := by decide +kernel
theorem dX6_way_17 : decode cX6_way 17 = .ok (.iload 4, 2) := by decide +kernel
theorem dX6_way_19 : decode cX6_way 19 = .ok (.ifCond .ge 5, 3) := by decide +kernel
theorem dX6_way_22 : decode cX6_way 22 = .ok (.iconst (-1), 1) := by decide +kernel
theorem dX6_way_23 : decode cX6_way 23 = .ok (.ireturn, 1) := by decide +kernel
theorem dX6_way_24 : decode cX6_way 24 = .ok (.iload_n 3, 1) := by decide +kernel
theorem dX6_way_25 : decode cX6_way 25 = .ok (.iconst 0, 1) := by decide +kernel
theorem dX6_way_26 : decode cX6_way 26 = .ok (.iconst 5, 1) := by decide +kernel
theorem dX6_way_27 : decode cX6_way 27 = .ok (.invokestatic 33, 3) := by decide +kernel
theorem dX6_way_30 : decode cX6_way 30 = .ok (.ifCond .ne 6, 3) := by decide +kernel
theorem dX6_way_33 : decode cX6_way 33 = .ok (.bipush (-2), 2) := by decide +kernel
theorem dX6_way_35 : decode cX6_way 35 = .ok (.ireturn, 1) := by decide +kernel
theorem dX6_way_36 : decode cX6_way 36 = .ok (.aload_n 0, 1) := by decide +kernel
theorem dX6_way_37 : decode cX6_way 37 = .ok (.getfield 12, 3) := by decide +kernel
theorem dX6_way_40 : decode cX6_way 40 = .ok (.getfield 45, 3) := by decide +kernel
theorem dX6_way_43 : decode cX6_way 43 = .ok (.iload 4, 2) := by decide +kernel
theorem dX6_way_45 : decode cX6_way 45 = .ok (.aaload, 1) := by decide +kernel
theorem dX6_way_46 : decode cX6_way 46 = .ok (.invokevirtual 154, 3) := by decide +kernel
theorem dX6_way_49 : decode cX6_way 49 = .ok (.ifCond .ne 6, 3) := by decide +kernel
theorem dX6_way_52 : decode cX6_way 52 = .ok (.bipush (-3), 2) := by decide +kernel
theorem dX6_way_54 : decode cX6_way 54 = .ok (.ireturn, 1) := by decide +kernel
theorem dX6_way_55 : decode cX6_way 55 = .ok (.aload_n 0, 1) := by decide +kernel
theorem dX6_way_56 : decode cX6_way 56 = .ok (.getfield 29, 3) := by decide +kernel
theorem dX6_way_59 : decode cX6_way 59 = .ok (.iload_n 1, 1) := by decide +kernel
theorem dX6_way_60 : decode cX6_way 60 = .ok (.aload_n 0, 1) := by decide +kernel
theorem dX6_way_61 : decode cX6_way 61 = .ok (.getfield 12, 3) := by decide +kernel
theorem dX6_way_64 : decode cX6_way 64 = .ok (.getfield 45, 3) := by decide +kernel
theorem dX6_way_67 : decode cX6_way 67 = .ok (.iload 4, 2) := by decide +kernel
theorem dX6_way_69 : decode cX6_way 69 = .ok (.aaload, 1) := by decide +kernel
theorem dX6_way_70 : decode cX6_way 70 = .ok (.invokevirtual 157, 3) := by decide +kernel
theorem dX6_way_73 : decode cX6_way 73 = .ok (.astore 5, 2) := by decide +kernel
theorem dX6_way_75 : decode cX6_way 75 = .ok (.aload 5, 2) := by decide +kernel
theorem dX6_way_77 : decode cX6_way 77 = .ok (.getfield 161, 3) := by decide +kernel
theorem dX6_way_80 : decode cX6_way 80 = .ok (.ifCond .ne 6, 3) := by decide +kernel
theorem dX6_way_83 : decode cX6_way 83 = .ok (.bipush (-6), 2) := by decide +kernel
theorem dX6_way_85 : decode cX6_way 85 = .ok (.ireturn, 1) := by decide +kernel
theorem dX6_way_86 : decode cX6_way 86 = .ok (.iload_n 3, 1) := by decide +kernel
theorem dX6_way_87 : decode cX6_way 87 = .ok (.tableswitch 82 0 4 #[33, 39, 45, 51, 57], 33) := by decide +kernel
theorem dX6_way_120 : decode cX6_way 120 = .ok (.aload 5, 2) := by decide +kernel
theorem dX6_way_122 : decode cX6_way 122 = .ok (.getfield 167, 3) := by decide +kernel
theorem dX6_way_125 : decode cX6_way 125 = .ok (.ireturn, 1) := by decide +kernel
theorem dX6_way_126 : decode cX6_way 126 = .ok (.aload 5, 2) := by decide +kernel
theorem dX6_way_128 : decode cX6_way 128 = .ok (.getfield 170, 3) := by decide +kernel
theorem dX6_way_131 : decode cX6_way 131 = .ok (.ireturn, 1) := by decide +kernel
theorem dX6_way_132 : decode cX6_way 132 = .ok (.aload 5, 2) := by decide +kernel
theorem dX6_way_134 : decode cX6_way 134 = .ok (.getfield 173, 3) := by decide +kernel
theorem dX6_way_137 : decode cX6_way 137 = .ok (.ireturn, 1) := by decide +kernel
theorem dX6_way_138 : decode cX6_way 138 = .ok (.aload 5, 2) := by decide +kernel
theorem dX6_way_140 : decode cX6_way 140 = .ok (.getfield 176, 3) := by decide +kernel
theorem dX6_way_143 : decode cX6_way 143 = .ok (.ireturn, 1) := by decide +kernel
theorem dX6_way_144 : decode cX6_way 144 = .ok (.aload 5, 2) := by decide +kernel
theorem dX6_way_146 : decode cX6_way 146 = .ok (.getfield 179, 3) := by decide +kernel
theorem dX6_way_149 : decode cX6_way 149 = .ok (.aload 5, 2) := by decide +kernel
theorem dX6_way_151 : decode cX6_way 151 = .ok (.getfield 183, 3) := by decide +kernel
theorem dX6_way_154 : decode cX6_way 154 = .ok (.iaload, 1) := by decide +kernel
theorem dX6_way_155 : decode cX6_way 155 = .ok (.aload_n 0, 1) := by decide +kernel
theorem dX6_way_156 : decode cX6_way 156 = .ok (.getfield 12, 3) := by decide +kernel
theorem dX6_way_159 : decode cX6_way 159 = .ok (.getfield 80, 3) := by decide +kernel
theorem dX6_way_162 : decode cX6_way 162 = .ok (.iload_n 1, 1) := by decide +kernel
theorem dX6_way_163 : decode cX6_way 163 = .ok (.aaload, 1) := by decide +kernel
theorem dX6_way_164 : decode cX6_way 164 = .ok (.getfield 84, 3) := by decide +kernel
theorem dX6_way_167 : decode cX6_way 167 = .ok (.iadd, 1) := by decide +kernel
theorem dX6_way_168 : decode cX6_way 168 = .ok (.ireturn, 1) := by decide +kernel
theorem dX6_way_169 : decode cX6_way 169 = .ok (.aload 5, 2) := by decide +kernel
theorem dX6_way_171 : decode cX6_way 171 = .ok (.getfield 186, 3) := by decide +kernel
theorem dX6_way_174 : decode cX6_way 174 = .ok (.aload 5, 2) := by decide +kernel
theorem dX6_way_176 : decode cX6_way 176 = .ok (.getfield 183, 3) := by decide +kernel
theorem dX6_way_179 : decode cX6_way 179 = .ok (.iaload, 1) := by decide +kernel
theorem dX6_way_180 : decode cX6_way 180 = .ok (.ireturn, 1) := by decide +kernel
set_option maxRecDepth 20000 in
theorem B_X6_way_0 {G : Gx} {X : Cx} {h : PH} {k n : Nat} {Q : State → Prop} {S : List PV} {a0 : Nat} {a1 : Int} {a2 : Int} {a3 : Int} {r2 : Nat} {PQ : Option PV → PH → Prop} (C : CX_X6_way G X) (hk0 : k ≤ 0 := by decide) (hn0 : n ≤ 0 := by decide) (t1 : ph_T h a0 = 6 := by first | assumption | rfl) (e3 : ph_R h a0 0 = r2 := by first | assumption | rfl) (t4 : ph_T h r2 = 5 := by first | assumption | rfl) (hM : CT_X5_indexOf G X.2.1 [.inr r2, .inl a2] h PQ) (hS : S.length ≤ 8 := by decide) (kk : ∀ r h', PQ r h' → PW G X 6 Q k n 8 [some (.inr a0), some (.inl a1), some (.inl a2), some (.inl a3), none, none] (r.toList ++ S) h') : PW G X 6 Q k n 0 [some (.inr a0), some (.inl a1), some (.inl a2), some (.inl a3), none, none] (S) h := by
  refine pw_aload_n C dX6_way_0 rfl ?_
  refine pw_getR C (t := 6) (f := 0) rfl inF6 rfl (by decide) (by decide) rfl kw310 dX6_way_1 t1 ?_
  rw [e3]
  refine pw_iload_n C dX6_way_4 rfl ?_
  exact pw_callV C (na := 1) (As := [.inl a2]) (S := S) hM t4 (by decide) (hcl := by rfl) kw330 kw331 kw332 kw39 kw333 (by decide +kernel) rfl dX6_way_5 (by decide) (by decide) hk0 hn0 (by first | exact hS | (simp only [List.length_cons]; omega)) kk
set_option maxRecDepth 20000 in
theorem B_X6_way_8 {G : Gx} {X : Cx} {h : PH} {k n : Nat} {Q : State → Prop} {S : List PV} {a0 : Nat} {a1 : Int} {a2 : Int} {a3 : Int} {s0 : Int} {PQ : Option PV → PH → Prop} (C : CX_X6_way G X) (hk0 : k ≤ 0 := by decide) (hn0 : n ≤ 0 := by decide) (hM : CT_X6_isDish G X.2.1 [.inl a1] h PQ) (hS : S.length ≤ 8 := by decide) (kk : ∀ r h', PQ r h' → PW G X 6 Q k n 14 [some (.inr a0), some (.inl a1), some (.inl a2), some (.inl a3), some (.inl s0), none] (r.toList ++ S) h') : PW G X 6 Q k n 8 [some (.inr a0), some (.inl a1), some (.inl a2), some (.inl a3), none, none] (.inl s0 :: S) h := by
  refine pw_istore C dX6_way_8 (by decide) ?_
  refine pw_iload_n C dX6_way_10 rfl ?_
  exact pw_callS C (na := 1) (As := [.inl a1]) (S := S) hM kw375 kw376 kw38 kw377 (by decide +kernel) rfl dX6_way_11 (by decide) (by decide) hk0 hn0 (by first | exact hS | (simp only [List.length_cons]; omega)) kk
set_option maxRecDepth 20000 in
theorem B_X6_way_14 {G : Gx} {X : Cx} {h : PH} {k n : Nat} {Q : State → Prop} {S : List PV} {a0 : Nat} {a1 : Int} {a2 : Int} {a3 : Int} {a4 : Int} {s0 : Int} (C : CX_X6_way G X) (q1 : pR s0 := by first | assumption | (unfold pR; omega)) (kt : s0 = 0 → PW G X 6 Q k n 22 [some (.inr a0), some (.inl a1), some (.inl a2), some (.inl a3), some (.inl a4), none] (S) h) (kf : ¬ s0 = 0 → PW G X 6 Q k n 17 [some (.inr a0), some (.inl a1), some (.inl a2), some (.inl a3), some (.inl a4), none] (S) h) : PW G X 6 Q k n 14 [some (.inr a0), some (.inl a1), some (.inl a2), some (.inl a3), some (.inl a4), none] (.inl s0 :: S) h := by
  exact pw_if_eq C 22 dX6_way_14 (by decide) q1 kt kf
set_option maxRecDepth 20000 in
theorem B_X6_way_17 {G : Gx} {X : Cx} {h : PH} {k n : Nat} {Q : State → Prop} {S : List PV} {a0 : Nat} {a1 : Int} {a2 : Int} {a3 : Int} {a4 : Int} (C : CX_X6_way G X) (q1 : pR a4 := by first | assumption | (unfold pR; omega)) (kt : 0 ≤ a4 → PW G X 6 Q k n 24 [some (.inr a0), some (.inl a1), some (.inl a2), some (.inl a3), some (.inl a4), none] (S) h) (kf : ¬ 0 ≤ a4 → PW G X 6 Q k n 22 [some (.inr a0), some (.inl a1), some (.inl a2), some (.inl a3), some (.inl a4), none] (S) h) : PW G X 6 Q k n 17 [some (.inr a0), some (.inl a1), some (.inl a2), some (.inl a3), some (.inl a4), none] (S) h := by
  refine pw_iload C dX6_way_17 rfl ?_
  exact pw_if_ge C 24 dX6_way_19 (by decide) q1 kt kf
set_option maxRecDepth 20000 in
theorem B_X6_way_22 {G : Gx} {X : Cx} {h : PH} {k n : Nat} {a0 : Nat} {a1 : Int} {a2 : Int} {a3 : Int} {a4 : Int} {PQ : Option PV → PH → Prop} (C : CX_X6_way G X) (hq : PQ (some (.inl (-1))) h) : PW G X 6 (pw_E G X PQ k n) k n 22 [some (.inr a0), some (.inl a1), some (.inl a2), some (.inl a3), some (.inl a4), none] [] h := by
  refine pw_iconst C dX6_way_22 ?_
  exact pw_ireturn C dX6_way_23 hq
set_option maxRecDepth 20000 in
theorem B_X6_way_24 {G : Gx} {X : Cx} {h : PH} {k n : Nat} {Q : State → Prop} {S : List PV} {a0 : Nat} {a1 : Int} {a2 : Int} {a3 : Int} {a4 : Int} {PQ : Option PV → PH → Prop} (C : CX_X6_way G X) (hk0 : k ≤ 0 := by decide) (hn0 : n ≤ 0 := by decide) (hM : CT_X6_isIn G X.2.1 [.inl a3, .inl 0, .inl 5] h PQ) (hS : S.length ≤ 8 := by decide) (kk : ∀ r h', PQ r h' → PW G X 6 Q k n 30 [some (.inr a0), some (.inl a1), some (.inl a2), some (.inl a3), some (.inl a4), none] (r.toList ++ S) h') : PW G X 6 Q k n 24 [some (.inr a0), some (.inl a1), some (.inl a2), some (.inl a3), some (.inl a4), none] (S) h := by
  refine pw_iload_n C dX6_way_24 rfl ?_
  refine pw_iconst C dX6_way_25 ?_
  refine pw_iconst C dX6_way_26 ?_
  exact pw_callS C (na := 3) (As := [.inl a3, .inl 0, .inl 5]) (S := S) hM kw327 kw328 kw38 kw329 (by decide +kernel) rfl dX6_way_27 (by decide) (by decide) hk0 hn0 (by first | exact hS | (simp only [List.length_cons]; omega)) kk
set_option maxRecDepth 20000 in
theorem B_X6_way_30 {G : Gx} {X : Cx} {h : PH} {k n : Nat} {Q : State → Prop} {S : List PV} {a0 : Nat} {a1 : Int} {a2 : Int} {a3 : Int} {a4 : Int} {s0 : Int} (C : CX_X6_way G X) (q1 : pR s0 := by first | assumption | (unfold pR; omega)) (kt : ¬ s0 = 0 → PW G X 6 Q k n 36 [some (.inr a0), some (.inl a1), some (.inl a2), some (.inl a3), some (.inl a4), none] (S) h) (kf : s0 = 0 → PW G X 6 Q k n 33 [some (.inr a0), some (.inl a1), some (.inl a2), some (.inl a3), some (.inl a4), none] (S) h) : PW G X 6 Q k n 30 [some (.inr a0), some (.inl a1), some (.inl a2), some (.inl a3), some (.inl a4), none] (.inl s0 :: S) h := by
  exact pw_if_ne C 36 dX6_way_30 (by decide) q1 kt kf
set_option maxRecDepth 20000 in
theorem B_X6_way_33 {G : Gx} {X : Cx} {h : PH} {k n : Nat} {a0 : Nat} {a1 : Int} {a2 : Int} {a3 : Int} {a4 : Int} {PQ : Option PV → PH → Prop} (C : CX_X6_way G X) (hq : PQ (some (.inl (-2))) h) : PW G X 6 (pw_E G X PQ k n) k n 33 [some (.inr a0), some (.inl a1), some (.inl a2), some (.inl a3), some (.inl a4), none] [] h := by
  refine pw_bipush C dX6_way_33 rfl ?_
  exact pw_ireturn C dX6_way_35 hq
set_option maxRecDepth 20000 in
theorem B_X6_way_36 {G : Gx} {X : Cx} {h : PH} {k n : Nat} {Q : State → Prop} {S : List PV} {a0 : Nat} {a1 : Int} {a2 : Int} {a3 : Int} {a4 : Int} {r2 : Nat} {r5 : Nat} {m11 : Nat} {m11E : String} {r12 : Nat} {PQ : Option PV → PH → Prop} (C : CX_X6_way G X) (hk0 : k ≤ 0 := by decide) (hn0 : n ≤ 0 := by decide) (t1 : ph_T h a0 = 6 := by first | assumption | rfl) (e3 : ph_R h a0 0 = r2 := by first | assumption | rfl) (t4 : ph_T h r2 = 5 := by first | assumption | rfl) (e6 : ph_R h r2 0 = r5 := by first | assumption | rfl) (m11a : ¬ m11 < 10 := by decide) (m11b : m11 < 14 := by decide) (t7 : ph_T h r5 = m11 := by first | assumption | rfl) (m11c : (pw_tys G)[m11 - 8]? = some (G.2.2.2.2 m11, .object m11E) := by rfl) (q8 : (0 : Int) ≤ a4 := by first | assumption | omega) (q9 : a4 < (ph_L h r5 : Int) := by first | assumption | omega) (q10 : pR a4 := by first | assumption | (unfold pR; omega)) (e13 : ph_R h r5 (Int.toNat a4) = r12 := by first | assumption | rfl) (t14 : ph_T h r12 = 0 := by first | assumption | rfl) (hM : CT_X0_isOpen G X.2.1 [.inr r12] h PQ) (hS : S.length ≤ 8 := by decide) (kk : ∀ r h', PQ r h' → PW G X 6 Q k n 49 [some (.inr a0), some (.inl a1), some (.inl a2), some (.inl a3), some (.inl a4), none] (r.toList ++ S) h') : PW G X 6 Q k n 36 [some (.inr a0), some (.inl a1), some (.inl a2), some (.inl a3), some (.inl a4), none] (S) h := by
  refine pw_aload_n C dX6_way_36 rfl ?_
  refine pw_getR C (t := 6) (f := 0) rfl inF6 rfl (by decide) (by decide) rfl kw310 dX6_way_37 t1 ?_
  rw [e3]
  refine pw_getR C (t := 5) (f := 0) rfl inF5 rfl (by decide) (by decide) rfl kw178 dX6_way_40 t4 ?_
  rw [e6]
  refine pw_iload C dX6_way_43 rfl ?_
  refine pw_aald C (t := m11) dX6_way_45 t7 m11a m11b m11c q8 q9 q10 ?_
  rw [e13]
  exact pw_callV C (na := 0) (As := []) (S := S) hM t14 (by decide) (hcl := by rfl) kw449 kw450 kw451 kw41 kw452 (by decide +kernel) rfl dX6_way_46 (by decide) (by decide) hk0 hn0 (by first | exact hS | (simp only [List.length_cons]; omega)) kk
set_option maxRecDepth 20000 in
theorem B_X6_way_49 {G : Gx} {X : Cx} {h : PH} {k n : Nat} {Q : State → Prop} {S : List PV} {a0 : Nat} {a1 : Int} {a2 : Int} {a3 : Int} {a4 : Int} {s0 : Int} (C : CX_X6_way G X) (q1 : pR s0 := by first | assumption | (unfold pR; omega)) (kt : ¬ s0 = 0 → PW G X 6 Q k n 55 [some (.inr a0), some (.inl a1), some (.inl a2), some (.inl a3), some (.inl a4), none] (S) h) (kf : s0 = 0 → PW G X 6 Q k n 52 [some (.inr a0), some (.inl a1), some (.inl a2), some (.inl a3), some (.inl a4), none] (S) h) : PW G X 6 Q k n 49 [some (.inr a0), some (.inl a1), some (.inl a2), some (.inl a3), some (.inl a4), none] (.inl s0 :: S) h := by
  exact pw_if_ne C 55 dX6_way_49 (by decide) q1 kt kf
set_option maxRecDepth 20000 in
theorem B_X6_way_52 {G : Gx} {X : Cx} {h : PH} {k n : Nat} {a0 : Nat} {a1 : Int} {a2 : Int} {a3 : Int} {a4 : Int} {PQ : Option PV → PH → Prop} (C : CX_X6_way G X) (hq : PQ (some (.inl (-3))) h) : PW G X 6 (pw_E G X PQ k n) k n 52 [some (.inr a0), some (.inl a1), some (.inl a2), some (.inl a3), some (.inl a4), none] [] h := by
  refine pw_bipush C dX6_way_52 rfl ?_
  exact pw_ireturn C dX6_way_54 hq
set_option maxRecDepth 20000 in
theorem B_X6_way_55 {G : Gx} {X : Cx} {h : PH} {k n : Nat} {Q : State → Prop} {S : List PV} {a0 : Nat} {a1 : Int} {a2 : Int} {a3 : Int} {a4 : Int} {r2 : Nat} {r5 : Nat} {r8 : Nat} {m14 : Nat} {m14E : String} {r15 : Nat} {PQ : Option PV → PH → Prop} (C : CX_X6_way G X) (hk0 : k ≤ 0 := by decide) (hn0 : n ≤ 0 := by decide) (t1 : ph_T h a0 = 6 := by first | assumption | rfl) (e3 : ph_R h a0 3 = r2 := by first | assumption | rfl) (t4 : ph_T h a0 = 6 := by first | assumption | rfl) (e6 : ph_R h a0 0 = r5 := by first | assumption | rfl) (t7 : ph_T h r5 = 5 := by first | assumption | rfl) (e9 : ph_R h r5 0 = r8 := by first | assumption | rfl) (m14a : ¬ m14 < 10 := by decide) (m14b : m14 < 14 := by decide) (t10 : ph_T h r8 = m14 := by first | assumption | rfl) (m14c : (pw_tys G)[m14 - 8]? = some (G.2.2.2.2 m14, .object m14E) := by rfl) (q11 : (0 : Int) ≤ a4 := by first | assumption | omega) (q12 : a4 < (ph_L h r8 : Int) := by first | assumption | omega) (q13 : pR a4 := by first | assumption | (unfold pR; omega)) (e16 : ph_R h r8 (Int.toNat a4) = r15 := by first | assumption | rfl) (t17 : ph_T h r2 = 2 := by first | assumption | rfl) (hM : CT_X2_bestWay G X.2.1 [.inr r2, .inl a1, .inr r15] h PQ) (hS : S.length ≤ 8 := by decide) (kk : ∀ r h', PQ r h' → PW G X 6 Q k n 73 [some (.inr a0), some (.inl a1), some (.inl a2), some (.inl a3), some (.inl a4), none] (r.toList ++ S) h') : PW G X 6 Q k n 55 [some (.inr a0), some (.inl a1), some (.inl a2), some (.inl a3), some (.inl a4), none] (S) h := by
  refine pw_aload_n C dX6_way_55 rfl ?_
  refine pw_getR C (t := 6) (f := 3) rfl inF6 rfl (by decide) (by decide) rfl kw313 dX6_way_56 t1 ?_
  rw [e3]
  refine pw_iload_n C dX6_way_59 rfl ?_
  refine pw_aload_n C dX6_way_60 rfl ?_
  refine pw_getR C (t := 6) (f := 0) rfl inF6 rfl (by decide) (by decide) rfl kw310 dX6_way_61 t4 ?_
  rw [e6]
  refine pw_getR C (t := 5) (f := 0) rfl inF5 rfl (by decide) (by decide) rfl kw178 dX6_way_64 t7 ?_
  rw [e9]
  refine pw_iload C dX6_way_67 rfl ?_
  refine pw_aald C (t := m14) dX6_way_69 t10 m14a m14b m14c q11 q12 q13 ?_
  rw [e16]
  exact pw_callV C (na := 2) (As := [.inl a1, .inr r15]) (S := S) hM t17 (by decide) (hcl := by rfl) kw454 kw455 kw456 kw43 kw457 (by decide +kernel) rfl dX6_way_70 (by decide) (by decide) hk0 hn0 (by first | exact hS | (simp only [List.length_cons]; omega)) kk
set_option maxRecDepth 20000 in
theorem B_X6_way_73 {G : Gx} {X : Cx} {h : PH} {k n : Nat} {Q : State → Prop} {S : List PV} {a0 : Nat} {a1 : Int} {a2 : Int} {a3 : Int} {a4 : Int} {s0 : Nat} {x3 : Int} (C : CX_X6_way G X) (q1 : 2 ≤ s0 := by first | assumption | omega) (t2 : ph_T h s0 = 4 := by first | assumption | rfl) (e4 : ph_I h s0 6 = x3 := by first | assumption | rfl) (q5 : pR x3 := by first | assumption | (unfold pR; omega)) (kt : ¬ x3 = 0 → PW G X 6 Q k n 86 [some (.inr a0), some (.inl a1), some (.inl a2), some (.inl a3), some (.inl a4), some (.inr s0)] (S) h) (kf : x3 = 0 → PW G X 6 Q k n 83 [some (.inr a0), some (.inl a1), some (.inl a2), some (.inl a3), some (.inl a4), some (.inr s0)] (S) h) : PW G X 6 Q k n 73 [some (.inr a0), some (.inl a1), some (.inl a2), some (.inl a3), some (.inl a4), none] (.inr s0 :: S) h := by
  refine pw_astore C dX6_way_73 (by decide) q1 ?_
  refine pw_aload C dX6_way_75 rfl ?_
  refine pw_getI C (t := 4) (f := 6) rfl inF4 rfl (by decide) (by decide) rfl kw230 dX6_way_77 t2 ?_
  rw [e4]
  exact pw_if_ne C 86 dX6_way_80 (by decide) q5 kt kf
set_option maxRecDepth 20000 in
theorem B_X6_way_83 {G : Gx} {X : Cx} {h : PH} {k n : Nat} {a0 : Nat} {a1 : Int} {a2 : Int} {a3 : Int} {a4 : Int} {a5 : Nat} {PQ : Option PV → PH → Prop} (C : CX_X6_way G X) (hq : PQ (some (.inl (-6))) h) : PW G X 6 (pw_E G X PQ k n) k n 83 [some (.inr a0), some (.inl a1), some (.inl a2), some (.inl a3), some (.inl a4), some (.inr a5)] [] h := by
  refine pw_bipush C dX6_way_83 rfl ?_
  exact pw_ireturn C dX6_way_85 hq
set_option maxRecDepth 20000 in
theorem B_X6_way_86 {G : Gx} {X : Cx} {h : PH} {k n : Nat} {Q : State → Prop} {S : List PV} {a0 : Nat} {a1 : Int} {a2 : Int} {a3 : Int} {a4 : Int} {a5 : Nat} (C : CX_X6_way G X) (kk : PW G X 6 Q k n 87 [some (.inr a0), some (.inl a1), some (.inl a2), some (.inl a3), some (.inl a4), some (.inr a5)] (.inl a3 :: S) h) : PW G X 6 Q k n 86 [some (.inr a0), some (.inl a1), some (.inl a2), some (.inl a3), some (.inl a4), some (.inr a5)] (S) h := by
  refine pw_iload_n C dX6_way_86 rfl ?_
  exact kk
set_option maxRecDepth 20000 in
theorem B_X6_way_87 {G : Gx} {X : Cx} {h : PH} {k n : Nat} {Q : State → Prop} {S : List PV} {a0 : Nat} {a1 : Int} {a2 : Int} {a3 : Int} {a4 : Int} {a5 : Nat} {s0 : Int} (C : CX_X6_way G X) (q1 : pR s0 := by first | assumption | (unfold pR; omega)) (k0 : s0 = 0 → PW G X 6 Q k n 120 [some (.inr a0), some (.inl a1), some (.inl a2), some (.inl a3), some (.inl a4), some (.inr a5)] (S) h) (k1 : s0 = 1 → PW G X 6 Q k n 126 [some (.inr a0), some (.inl a1), some (.inl a2), some (.inl a3), some (.inl a4), some (.inr a5)] (S) h) (k2 : s0 = 2 → PW G X 6 Q k n 132 [some (.inr a0), some (.inl a1), some (.inl a2), some (.inl a3), some (.inl a4), some (.inr a5)] (S) h) (k3 : s0 = 3 → PW G X 6 Q k n 138 [some (.inr a0), some (.inl a1), some (.inl a2), some (.inl a3), some (.inl a4), some (.inr a5)] (S) h) (k4 : s0 = 4 → PW G X 6 Q k n 144 [some (.inr a0), some (.inl a1), some (.inl a2), some (.inl a3), some (.inl a4), some (.inr a5)] (S) h) (kd : s0 < 0 ∨ 4 < s0 → PW G X 6 Q k n 169 [some (.inr a0), some (.inl a1), some (.inl a2), some (.inl a3), some (.inl a4), some (.inr a5)] (S) h) : PW G X 6 Q k n 87 [some (.inr a0), some (.inl a1), some (.inl a2), some (.inl a3), some (.inl a4), some (.inr a5)] (.inl s0 :: S) h := by
  by_cases zz : s0 < 0 ∨ 4 < s0
  · exact pw_tableOut C 169 dX6_way_87 q1 zz (by decide) (kd zz)
  · have zz2 : s0 = 0 ∨ s0 = 1 ∨ s0 = 2 ∨ s0 = 3 ∨ s0 = 4 := by omega
    rcases zz2 with z0 | z1 | z2 | z3 | z4
    · have kj := k0 z0
      subst z0
      exact pw_tableIn C 120 dX6_way_87 q1 (by decide) (by decide) rfl (by decide) kj
    · have kj := k1 z1
      subst z1
      exact pw_tableIn C 126 dX6_way_87 q1 (by decide) (by decide) rfl (by decide) kj
    · have kj := k2 z2
      subst z2
      exact pw_tableIn C 132 dX6_way_87 q1 (by decide) (by decide) rfl (by decide) kj
    · have kj := k3 z3
      subst z3
      exact pw_tableIn C 138 dX6_way_87 q1 (by decide) (by decide) rfl (by decide) kj
    · have kj := k4 z4
      subst z4
      exact pw_tableIn C 144 dX6_way_87 q1 (by decide) (by decide) rfl (by decide) kj
set_option maxRecDepth 20000 in
theorem B_X6_way_120 {G : Gx} {X : Cx} {h : PH} {k n : Nat} {a0 : Nat} {a1 : Int} {a2 : Int} {a3 : Int} {a4 : Int} {a5 : Nat} {x2 : Int} {PQ : Option PV → PH → Prop} (C : CX_X6_way G X) (t1 : ph_T h a5 = 4 := by first | assumption | rfl) (e3 : ph_I h a5 10 = x2 := by first | assumption | rfl) (hq : PQ (some (.inl x2)) h) : PW G X 6 (pw_E G X PQ k n) k n 120 [some (.inr a0), some (.inl a1), some (.inl a2), some (.inl a3), some (.inl a4), some (.inr a5)] [] h := by
  refine pw_aload C dX6_way_120 rfl ?_
  refine pw_getI C (t := 4) (f := 10) rfl inF4 rfl (by decide) (by decide) rfl kw239 dX6_way_122 t1 ?_
  rw [e3]
  exact pw_ireturn C dX6_way_125 hq
set_option maxRecDepth 20000 in
theorem B_X6_way_126 {G : Gx} {X : Cx} {h : PH} {k n : Nat} {a0 : Nat} {a1 : Int} {a2 : Int} {a3 : Int} {a4 : Int} {a5 : Nat} {x2 : Int} {PQ : Option PV → PH → Prop} (C : CX_X6_way G X) (t1 : ph_T h a5 = 4 := by first | assumption | rfl) (e3 : ph_I h a5 11 = x2 := by first | assumption | rfl) (hq : PQ (some (.inl x2)) h) : PW G X 6 (pw_E G X PQ k n) k n 126 [some (.inr a0), some (.inl a1), some (.inl a2), some (.inl a3), some (.inl a4), some (.inr a5)] [] h := by
  refine pw_aload C dX6_way_126 rfl ?_
  refine pw_getI C (t := 4) (f := 11) rfl inF4 rfl (by decide) (by decide) rfl kw241 dX6_way_128 t1 ?_
  rw [e3]
  exact pw_ireturn C dX6_way_131 hq
set_option maxRecDepth 20000 in
theorem B_X6_way_132 {G : Gx} {X : Cx} {h : PH} {k n : Nat} {a0 : Nat} {a1 : Int} {a2 : Int} {a3 : Int} {a4 : Int} {a5 : Nat} {x2 : Int} {PQ : Option PV → PH → Prop} (C : CX_X6_way G X) (t1 : ph_T h a5 = 4 := by first | assumption | rfl) (e3 : ph_I h a5 12 = x2 := by first | assumption | rfl) (hq : PQ (some (.inl x2)) h) : PW G X 6 (pw_E G X PQ k n) k n 132 [some (.inr a0), some (.inl a1), some (.inl a2), some (.inl a3), some (.inl a4), some (.inr a5)] [] h := by
  refine pw_aload C dX6_way_132 rfl ?_
  refine pw_getI C (t := 4) (f := 12) rfl inF4 rfl (by decide) (by decide) rfl kw243 dX6_way_134 t1 ?_
  rw [e3]
  exact pw_ireturn C dX6_way_137 hq
set_option maxRecDepth 20000 in
theorem B_X6_way_138 {G : Gx} {X : Cx} {h : PH} {k n : Nat} {a0 : Nat} {a1 : Int} {a2 : Int} {a3 : Int} {a4 : Int} {a5 : Nat} {x2 : Int} {PQ : Option PV → PH → Prop} (C : CX_X6_way G X) (t1 : ph_T h a5 = 4 := by first | assumption | rfl) (e3 : ph_I h a5 13 = x2 := by first | assumption | rfl) (hq : PQ (some (.inl x2)) h) : PW G X 6 (pw_E G X PQ k n) k n 138 [some (.inr a0), some (.inl a1), some (.inl a2), some (.inl a3), some (.inl a4), some (.inr a5)] [] h := by
  refine pw_aload C dX6_way_138 rfl ?_
  refine pw_getI C (t := 4) (f := 13) rfl inF4 rfl (by decide) (by decide) rfl kw245 dX6_way_140 t1 ?_
  rw [e3]
  exact pw_ireturn C dX6_way_143 hq
set_option maxRecDepth 20000 in
theorem B_X6_way_144 {G : Gx} {X : Cx} {h : PH} {k n : Nat} {a0 : Nat} {a1 : Int} {a2 : Int} {a3 : Int} {a4 : Int} {a5 : Nat} {r2 : Nat} {x5 : Int} {x11 : Int} {r14 : Nat} {r17 : Nat} {m23 : Nat} {m23E : String} {r24 : Nat} {x27 : Int} {PQ : Option PV → PH → Prop} (C : CX_X6_way G X) (t1 : ph_T h a5 = 4 := by first | assumption | rfl) (e3 : ph_R h a5 0 = r2 := by first | assumption | rfl) (t4 : ph_T h a5 = 4 := by first | assumption | rfl) (e6 : ph_I h a5 9 = x5 := by first | assumption | rfl) (t7 : ph_T h r2 = 8 := by first | assumption | rfl) (q8 : (0 : Int) ≤ x5 := by first | assumption | omega) (q9 : x5 < (ph_L h r2 : Int) := by first | assumption | omega) (q10 : pR x5 := by first | assumption | (unfold pR; omega)) (e12 : ph_I h r2 (Int.toNat x5) = x11 := by first | assumption | rfl) (t13 : ph_T h a0 = 6 := by first | assumption | rfl) (e15 : ph_R h a0 0 = r14 := by first | assumption | rfl) (t16 : ph_T h r14 = 5 := by first | assumption | rfl) (e18 : ph_R h r14 1 = r17 := by first | assumption | rfl) (m23a : ¬ m23 < 10 := by decide) (m23b : m23 < 14 := by decide) (t19 : ph_T h r17 = m23 := by first | assumption | rfl) (m23c : (pw_tys G)[m23 - 8]? = some (G.2.2.2.2 m23, .object m23E) := by rfl) (q20 : (0 : Int) ≤ a1 := by first | assumption | omega) (q21 : a1 < (ph_L h r17 : Int) := by first | assumption | omega) (q22 : pR a1 := by first | assumption | (unfold pR; omega)) (e25 : ph_R h r17 (Int.toNat a1) = r24 := by first | assumption | rfl) (t26 : ph_T h r24 = 1 := by first | assumption | rfl) (e28 : ph_I h r24 3 = x27 := by first | assumption | rfl) (hq : PQ (some (.inl (x11 + x27))) h) : PW G X 6 (pw_E G X PQ k n) k n 144 [some (.inr a0), some (.inl a1), some (.inl a2), some (.inl a3), some (.inl a4), some (.inr a5)] [] h := by
  refine pw_aload C dX6_way_144 rfl ?_
  refine pw_getR C (t := 4) (f := 0) rfl inF4 rfl (by decide) (by decide) rfl kw216 dX6_way_146 t1 ?_
  rw [e3]
  refine pw_aload C dX6_way_149 rfl ?_
  refine pw_getI C (t := 4) (f := 9) rfl inF4 rfl (by decide) (by decide) rfl kw236 dX6_way_151 t4 ?_
  rw [e6]
  refine pw_iald C dX6_way_154 t7 q8 q9 q10 ?_
  rw [e12]
  refine pw_aload_n C dX6_way_155 rfl ?_
  refine pw_getR C (t := 6) (f := 0) rfl inF6 rfl (by decide) (by decide) rfl kw310 dX6_way_156 t13 ?_
  rw [e15]
  refine pw_getR C (t := 5) (f := 1) rfl inF5 rfl (by decide) (by decide) rfl kw181 dX6_way_159 t16 ?_
  rw [e18]
  refine pw_iload_n C dX6_way_162 rfl ?_
  refine pw_aald C (t := m23) dX6_way_163 t19 m23a m23b m23c q20 q21 q22 ?_
  rw [e25]
  refine pw_getI C (t := 1) (f := 3) rfl inF1 rfl (by decide) (by decide) rfl kw160 dX6_way_164 t26 ?_
  rw [e28]
  refine pw_iadd C dX6_way_167 ?_
  exact pw_ireturn C dX6_way_168 hq
set_option maxRecDepth 20000 in
theorem B_X6_way_169 {G : Gx} {X : Cx} {h : PH} {k n : Nat} {a0 : Nat} {a1 : Int} {a2 : Int} {a3 : Int} {a4 : Int} {a5 : Nat} {r2 : Nat} {x5 : Int} {x11 : Int} {PQ : Option PV → PH → Prop} (C : CX_X6_way G X) (t1 : ph_T h a5 = 4 := by first | assumption | rfl) (e3 : ph_R h a5 1 = r2 := by first | assumption | rfl) (t4 : ph_T h a5 = 4 := by first | assumption | rfl) (e6 : ph_I h a5 9 = x5 := by first | assumption | rfl) (t7 : ph_T h r2 = 8 := by first | assumption | rfl) (q8 : (0 : Int) ≤ x5 := by first | assumption | omega) (q9 : x5 < (ph_L h r2 : Int) := by first | assumption | omega) (q10 : pR x5 := by first | assumption | (unfold pR; omega)) (e12 : ph_I h r2 (Int.toNat x5) = x11 := by first | assumption | rfl) (hq : PQ (some (.inl x11)) h) : PW G X 6 (pw_E G X PQ k n) k n 169 [some (.inr a0), some (.inl a1), some (.inl a2), some (.inl a3), some (.inl a4), some (.inr a5)] [] h := by
  refine pw_aload C dX6_way_169 rfl ?_
  refine pw_getR C (t := 4) (f := 1) rfl inF4 rfl (by decide) (by decide) rfl kw218 dX6_way_171 t1 ?_
  rw [e3]
  refine pw_aload C dX6_way_174 rfl ?_
  refine pw_getI C (t := 4) (f := 9) rfl inF4 rfl (by decide) (by decide) rfl kw236 dX6_way_176 t4 ?_
  rw [e6]
  refine pw_iald C dX6_way_179 t7 q8 q9 q10 ?_
  rw [e12]
  exact pw_ireturn C dX6_way_180 hq
theorem dX6_where_0 : decode cX6_where 0 = .ok (.aload_n 0, 1) := by decide +kernel
theorem dX6_where_1 : decode cX6_where 1 = .ok (.getfield 12, 3) := by decide +kernel
theorem dX6_where_4 : decode cX6_where 4 = .ok (.iload_n 2, 1) := by decide +kernel
theorem dX6_where_5 : decode cX6_where 5 = .ok (.invokevirtual 37, 3) := by decide +kernel
theorem dX6_where_8 : decode cX6_where 8 = .ok (.istore 5, 2) := by decide +kernel
theorem dX6_where_10 : decode cX6_where 10 = .ok (.iload_n 1, 1) := by decide +kernel
theorem dX6_where_11 : decode cX6_where 11 = .ok (.invokestatic 76, 3) := by decide +kernel
theorem dX6_where_14 : decode cX6_where 14 = .ok (.ifCond .eq 8, 3) := by decide +kernel
theorem dX6_where_17 : decode cX6_where 17 = .ok (.iload 5, 2) := by decide +kernel
theorem dX6_where_19 : decode cX6_where 19 = .ok (.ifCond .ge 5, 3) := by decide +kernel
theorem dX6_where_22 : decode cX6_where 22 = .ok (.iconst (-1), 1) := by decide +kernel
theorem dX6_where_23 : decode cX6_where 23 = .ok (.ireturn, 1) := by decide +kernel
theorem dX6_where_24 : decode cX6_where 24 = .ok (.iload_n 3, 1) := by decide +kernel
theorem dX6_where_25 : decode cX6_where 25 = .ok (.invokestatic 92, 3) := by decide +kernel
theorem dX6_where_28 : decode cX6_where 28 = .ok (.ifCond .eq 13, 3) := by decide +kernel
theorem dX6_where_31 : decode cX6_where 31 = .ok (.iload 4, 2) := by decide +kernel
theorem dX6_where_33 : decode cX6_where 33 = .ok (.iconst 0, 1) := by decide +kernel
theorem dX6_where_34 : decode cX6_where 34 = .ok (.iconst 2, 1) := by decide +kernel
theorem dX6_where_35 : decode cX6_where 35 = .ok (.invokestatic 33, 3) := by decide +kernel
theorem dX6_where_38 : decode cX6_where 38 = .ok (.ifCond .ne 6, 3) := by decide +kernel
theorem dX6_where_41 : decode cX6_where 41 = .ok (.bipush (-2), 2) := by decide +kernel
theorem dX6_where_43 : decode cX6_where 43 = .ok (.ireturn, 1) := by decide +kernel
theorem dX6_where_44 : decode cX6_where 44 = .ok (.aload_n 0, 1) := by decide +kernel
theorem dX6_where_45 : decode cX6_where 45 = .ok (.getfield 12, 3) := by decide +kernel
theorem dX6_where_48 : decode cX6_where 48 = .ok (.getfield 45, 3) := by decide +kernel
theorem dX6_where_51 : decode cX6_where 51 = .ok (.iload 5, 2) := by decide +kernel
theorem dX6_where_53 : decode cX6_where 53 = .ok (.aaload, 1) := by decide +kernel
theorem dX6_where_54 : decode cX6_where 54 = .ok (.invokevirtual 154, 3) := by decide +kernel
theorem dX6_where_57 : decode cX6_where 57 = .ok (.ifCond .ne 6, 3) := by decide +kernel
theorem dX6_where_60 : decode cX6_where 60 = .ok (.bipush (-3), 2) := by decide +kernel
theorem dX6_where_62 : decode cX6_where 62 = .ok (.ireturn, 1) := by decide +kernel
theorem dX6_where_63 : decode cX6_where 63 = .ok (.aload_n 0, 1) := by decide +kernel
theorem dX6_where_64 : decode cX6_where 64 = .ok (.getfield 29, 3) := by decide +kernel
theorem dX6_where_67 : decode cX6_where 67 = .ok (.iload_n 1, 1) := by decide +kernel
theorem dX6_where_68 : decode cX6_where 68 = .ok (.aload_n 0, 1) := by decide +kernel
theorem dX6_where_69 : decode cX6_where 69 = .ok (.getfield 12, 3) := by decide +kernel
theorem dX6_where_72 : decode cX6_where 72 = .ok (.getfield 45, 3) := by decide +kernel
theorem dX6_where_75 : decode cX6_where 75 = .ok (.iload 5, 2) := by decide +kernel
theorem dX6_where_77 : decode cX6_where 77 = .ok (.aaload, 1) := by decide +kernel
theorem dX6_where_78 : decode cX6_where 78 = .ok (.invokevirtual 157, 3) := by decide +kernel
theorem dX6_where_81 : decode cX6_where 81 = .ok (.astore 6, 2) := by decide +kernel
theorem dX6_where_83 : decode cX6_where 83 = .ok (.aload 6, 2) := by decide +kernel
theorem dX6_where_85 : decode cX6_where 85 = .ok (.getfield 161, 3) := by decide +kernel
theorem dX6_where_88 : decode cX6_where 88 = .ok (.ifCond .eq 20, 3) := by decide +kernel
theorem dX6_where_91 : decode cX6_where 91 = .ok (.iload_n 3, 1) := by decide +kernel
theorem dX6_where_92 : decode cX6_where 92 = .ok (.aload 6, 2) := by decide +kernel
theorem dX6_where_94 : decode cX6_where 94 = .ok (.getfield 189, 3) := by decide +kernel
theorem dX6_where_97 : decode cX6_where 97 = .ok (.aload 6, 2) := by decide +kernel
theorem dX6_where_99 : decode cX6_where 99 = .ok (.getfield 183, 3) := by decide +kernel
theorem dX6_where_102 : decode cX6_where 102 = .ok (.invokestatic 33, 3) := by decide +kernel
theorem dX6_where_105 : decode cX6_where 105 = .ok (.ifCond .ne 6, 3) := by decide +kernel
theorem dX6_where_108 : decode cX6_where 108 = .ok (.bipush (-6), 2) := by decide +kernel
theorem dX6_where_110 : decode cX6_where 110 = .ok (.ireturn, 1) := by decide +kernel
theorem dX6_where_111 : decode cX6_where 111 = .ok (.iload 4, 2) := by decide +kernel
theorem dX6_where_113 : decode cX6_where 113 = .ok (.lookupswitch 56 #[(0, 27), (1, 48)], 27) := by decide +kernel
theorem dX6_where_140 : decode cX6_where 140 = .ok (.aload 6, 2) := by decide +kernel
theorem dX6_where_142 : decode cX6_where 142 = .ok (.getfield 179, 3) := by decide +kernel
theorem dX6_where_145 : decode cX6_where 145 = .ok (.iload_n 3, 1) := by decide +kernel
theorem dX6_where_146 : decode cX6_where 146 = .ok (.iaload, 1) := by decide +kernel
theorem dX6_where_147 : decode cX6_where 147 = .ok (.aload_n 0, 1) := by decide +kernel
theorem dX6_where_148 : decode cX6_where 148 = .ok (.getfield 12, 3) := by decide +kernel
theorem dX6_where_151 : decode cX6_where 151 = .ok (.getfield 80, 3) := by decide +kernel
theorem dX6_where_154 : decode cX6_where 154 = .ok (.iload_n 1, 1) := by decide +kernel
theorem dX6_where_155 : decode cX6_where 155 = .ok (.aaload, 1) := by decide +kernel
theorem dX6_where_156 : decode cX6_where 156 = .ok (.getfield 84, 3) := by decide +kernel
theorem dX6_where_159 : decode cX6_where 159 = .ok (.iadd, 1) := by decide +kernel
theorem dX6_where_160 : decode cX6_where 160 = .ok (.ireturn, 1) := by decide +kernel
theorem dX6_where_161 : decode cX6_where 161 = .ok (.aload 6, 2) := by decide +kernel
theorem dX6_where_163 : decode cX6_where 163 = .ok (.getfield 186, 3) := by decide +kernel
theorem dX6_where_166 : decode cX6_where 166 = .ok (.iload_n 3, 1) := by decide +kernel
theorem dX6_where_167 : decode cX6_where 167 = .ok (.iaload, 1) := by decide +kernel
theorem dX6_where_168 : decode cX6_where 168 = .ok (.ireturn, 1) := by decide +kernel
theorem dX6_where_169 : decode cX6_where 169 = .ok (.aload 6, 2) := by decide +kernel
theorem dX6_where_171 : decode cX6_where 171 = .ok (.getfield 190, 3) := by decide +kernel
theorem dX6_where_174 : decode cX6_where 174 = .ok (.iload_n 3, 1) := by decide +kernel
theorem dX6_where_175 : decode cX6_where 175 = .ok (.baload, 1) := by decide +kernel
theorem dX6_where_176 : decode cX6_where 176 = .ok (.ifCond .eq 7, 3) := by decide +kernel
theorem dX6_where_179 : decode cX6_where 179 = .ok (.iconst 1, 1) := by decide +kernel
theorem dX6_where_180 : decode cX6_where 180 = .ok (.goto 4, 3) := by decide +kernel
theorem dX6_where_183 : decode cX6_where 183 = .ok (.iconst 0, 1) := by decide +kernel
theorem dX6_where_184 : decode cX6_where 184 = .ok (.ireturn, 1) := by decide +kernel
set_option maxRecDepth 20000 in
theorem B_X6_where_0 {G : Gx} {X : Cx} {h : PH} {k n : Nat} {Q : State → Prop} {S : List PV} {a0 : Nat} {a1 : Int} {a2 : Int} {a3 : Int} {a4 : Int} {r2 : Nat} {PQ : Option PV → PH → Prop} (C : CX_X6_where G X) (hk0 : k ≤ 0 := by decide) (hn0 : n ≤ 0 := by decide) (t1 : ph_T h a0 = 6 := by first | assumption | rfl) (e3 : ph_R h a0 0 = r2 := by first | assumption | rfl) (t4 : ph_T h r2 = 5 := by first | assumption | rfl) (hM : CT_X5_indexOf G X.2.1 [.inr r2, .inl a2] h PQ) (hS : S.length ≤ 8 := by decide) (kk : ∀ r h', PQ r h' → PW G X 7 Q k n 8 [some (.inr a0), some (.inl a1), some (.inl a2), some (.inl a3), some (.inl a4), none, none] (r.toList ++ S) h') : PW G X 7 Q k n 0 [some (.inr a0), some (.inl a1), some (.inl a2), some (.inl a3), some (.inl a4), none, none] (S) h := by
  refine pw_aload_n C dX6_where_0 rfl ?_
  refine pw_getR C (t := 6) (f := 0) rfl inF6 rfl (by decide) (by decide) rfl kw310 dX6_where_1 t1 ?_
  rw [e3]
  refine pw_iload_n C dX6_where_4 rfl ?_
  exact pw_callV C (na := 1) (As := [.inl a2]) (S := S) hM t4 (by decide) (hcl := by rfl) kw330 kw331 kw332 kw39 kw333 (by decide +kernel) rfl dX6_where_5 (by decide) (by decide) hk0 hn0 (by first | exact hS | (simp only [List.length_cons]; omega)) kk
set_option maxRecDepth 20000 in
theorem B_X6_where_8 {G : Gx} {X : Cx} {h : PH} {k n : Nat} {Q : State → Prop} {S : List PV} {a0 : Nat} {a1 : Int} {a2 : Int} {a3 : Int} {a4 : Int} {s0 : Int} {PQ : Option PV → PH → Prop} (C : CX_X6_where G X) (hk0 : k ≤ 0 := by decide) (hn0 : n ≤ 0 := by decide) (hM : CT_X6_isDish G X.2.1 [.inl a1] h PQ) (hS : S.length ≤ 8 := by decide) (kk : ∀ r h', PQ r h' → PW G X 7 Q k n 14 [some (.inr a0), some (.inl a1), some (.inl a2), some (.inl a3), some (.inl a4), some (.inl s0), none] (r.toList ++ S) h') : PW G X 7 Q k n 8 [some (.inr a0), some (.inl a1), some (.inl a2), some (.inl a3), some (.inl a4), none, none] (.inl s0 :: S) h := by
  refine pw_istore C dX6_where_8 (by decide) ?_
  refine pw_iload_n C dX6_where_10 rfl ?_
  exact pw_callS C (na := 1) (As := [.inl a1]) (S := S) hM kw375 kw376 kw38 kw377 (by decide +kernel) rfl dX6_where_11 (by decide) (by decide) hk0 hn0 (by first | exact hS | (simp only [List.length_cons]; omega)) kk
set_option maxRecDepth 20000 in
theorem B_X6_where_14 {G : Gx} {X : Cx} {h : PH} {k n : Nat} {Q : State → Prop} {S : List PV} {a0 : Nat} {a1 : Int} {a2 : Int} {a3 : Int} {a4 : Int} {a5 : Int} {s0 : Int} (C : CX_X6_where G X) (q1 : pR s0 := by first | assumption | (unfold pR; omega)) (kt : s0 = 0 → PW G X 7 Q k n 22 [some (.inr a0), some (.inl a1), some (.inl a2), some (.inl a3), some (.inl a4), some (.inl a5), none] (S) h) (kf : ¬ s0 = 0 → PW G X 7 Q k n 17 [some (.inr a0), some (.inl a1), some (.inl a2), some (.inl a3), some (.inl a4), some (.inl a5), none] (S) h) : PW G X 7 Q k n 14 [some (.inr a0), some (.inl a1), some (.inl a2), some (.inl a3), some (.inl a4), some (.inl a5), none] (.inl s0 :: S) h := by
  exact pw_if_eq C 22 dX6_where_14 (by decide) q1 kt kf
set_option maxRecDepth 20000 in
theorem B_X6_where_17 {G : Gx} {X : Cx} {h : PH} {k n : Nat} {Q : State → Prop} {S : List PV} {a0 : Nat} {a1 : Int} {a2 : Int} {a3 : Int} {a4 : Int} {a5 : Int} (C : CX_X6_where G X) (q1 : pR a5 := by first | assumption | (unfold pR; omega)) (kt : 0 ≤ a5 → PW G X 7 Q k n 24 [some (.inr a0), some (.inl a1), some (.inl a2), some (.inl a3), some (.inl a4), some (.inl a5), none] (S) h) (kf : ¬ 0 ≤ a5 → PW G X 7 Q k n 22 [some (.inr a0), some (.inl a1), some (.inl a2), some (.inl a3), some (.inl a4), some (.inl a5), none] (S) h) : PW G X 7 Q k n 17 [some (.inr a0), some (.inl a1), some (.inl a2), some (.inl a3), some (.inl a4), some (.inl a5), none] (S) h := by
  refine pw_iload C dX6_where_17 rfl ?_
  exact pw_if_ge C 24 dX6_where_19 (by decide) q1 kt kf
set_option maxRecDepth 20000 in
theorem B_X6_where_22 {G : Gx} {X : Cx} {h : PH} {k n : Nat} {a0 : Nat} {a1 : Int} {a2 : Int} {a3 : Int} {a4 : Int} {a5 : Int} {PQ : Option PV → PH → Prop} (C : CX_X6_where G X) (hq : PQ (some (.inl (-1))) h) : PW G X 7 (pw_E G X PQ k n) k n 22 [some (.inr a0), some (.inl a1), some (.inl a2), some (.inl a3), some (.inl a4), some (.inl a5), none] [] h := by
  refine pw_iconst C dX6_where_22 ?_
  exact pw_ireturn C dX6_where_23 hq
set_option maxRecDepth 20000 in
theorem B_X6_where_24 {G : Gx} {X : Cx} {h : PH} {k n : Nat} {Q : State → Prop} {S : List PV} {a0 : Nat} {a1 : Int} {a2 : Int} {a3 : Int} {a4 : Int} {a5 : Int} {PQ : Option PV → PH → Prop} (C : CX_X6_where G X) (hk0 : k ≤ 0 := by decide) (hn0 : n ≤ 0 := by decide) (hM : CT_X6_isTick G X.2.1 [.inl a3] h PQ) (hS : S.length ≤ 8 := by decide) (kk : ∀ r h', PQ r h' → PW G X 7 Q k n 28 [some (.inr a0), some (.inl a1), some (.inl a2), some (.inl a3), some (.inl a4), some (.inl a5), none] (r.toList ++ S) h') : PW G X 7 Q k n 24 [some (.inr a0), some (.inl a1), some (.inl a2), some (.inl a3), some (.inl a4), some (.inl a5), none] (S) h := by
  refine pw_iload_n C dX6_where_24 rfl ?_
  exact pw_callS C (na := 1) (As := [.inl a3]) (S := S) hM kw378 kw379 kw38 kw380 (by decide +kernel) rfl dX6_where_25 (by decide) (by decide) hk0 hn0 (by first | exact hS | (simp only [List.length_cons]; omega)) kk
set_option maxRecDepth 20000 in
theorem B_X6_where_28 {G : Gx} {X : Cx} {h : PH} {k n : Nat} {Q : State → Prop} {S : List PV} {a0 : Nat} {a1 : Int} {a2 : Int} {a3 : Int} {a4 : Int} {a5 : Int} {s0 : Int} (C : CX_X6_where G X) (q1 : pR s0 := by first | assumption | (unfold pR; omega)) (kt : s0 = 0 → PW G X 7 Q k n 41 [some (.inr a0), some (.inl a1), some (.inl a2), some (.inl a3), some (.inl a4), some (.inl a5), none] (S) h) (kf : ¬ s0 = 0 → PW G X 7 Q k n 31 [some (.inr a0), some (.inl a1), some (.inl a2), some (.inl a3), some (.inl a4), some (.inl a5), none] (S) h) : PW G X 7 Q k n 28 [some (.inr a0), some (.inl a1), some (.inl a2), some (.inl a3), some (.inl a4), some (.inl a5), none] (.inl s0 :: S) h := by
  exact pw_if_eq C 41 dX6_where_28 (by decide) q1 kt kf
set_option maxRecDepth 20000 in
theorem B_X6_where_31 {G : Gx} {X : Cx} {h : PH} {k n : Nat} {Q : State → Prop} {S : List PV} {a0 : Nat} {a1 : Int} {a2 : Int} {a3 : Int} {a4 : Int} {a5 : Int} {PQ : Option PV → PH → Prop} (C : CX_X6_where G X) (hk0 : k ≤ 0 := by decide) (hn0 : n ≤ 0 := by decide) (hM : CT_X6_isIn G X.2.1 [.inl a4, .inl 0, .inl 2] h PQ) (hS : S.length ≤ 8 := by decide) (kk : ∀ r h', PQ r h' → PW G X 7 Q k n 38 [some (.inr a0), some (.inl a1), some (.inl a2), some (.inl a3), some (.inl a4), some (.inl a5), none] (r.toList ++ S) h') : PW G X 7 Q k n 31 [some (.inr a0), some (.inl a1), some (.inl a2), some (.inl a3), some (.inl a4), some (.inl a5), none] (S) h := by
  refine pw_iload C dX6_where_31 rfl ?_
  refine pw_iconst C dX6_where_33 ?_
  refine pw_iconst C dX6_where_34 ?_
  exact pw_callS C (na := 3) (As := [.inl a4, .inl 0, .inl 2]) (S := S) hM kw327 kw328 kw38 kw329 (by decide +kernel) rfl dX6_where_35 (by decide) (by decide) hk0 hn0 (by first | exact hS | (simp only [List.length_cons]; omega)) kk
set_option maxRecDepth 20000 in
theorem B_X6_where_38 {G : Gx} {X : Cx} {h : PH} {k n : Nat} {Q : State → Prop} {S : List PV} {a0 : Nat} {a1 : Int} {a2 : Int} {a3 : Int} {a4 : Int} {a5 : Int} {s0 : Int} (C : CX_X6_where G X) (q1 : pR s0 := by first | assumption | (unfold pR; omega)) (kt : ¬ s0 = 0 → PW G X 7 Q k n 44 [some (.inr a0), some (.inl a1), some (.inl a2), some (.inl a3), some (.inl a4), some (.inl a5), none] (S) h) (kf : s0 = 0 → PW G X 7 Q k n 41 [some (.inr a0), some (.inl a1), some (.inl a2), some (.inl a3), some (.inl a4), some (.inl a5), none] (S) h) : PW G X 7 Q k n 38 [some (.inr a0), some (.inl a1), some (.inl a2), some (.inl a3), some (.inl a4), some (.inl a5), none] (.inl s0 :: S) h := by
  exact pw_if_ne C 44 dX6_where_38 (by decide) q1 kt kf
set_option maxRecDepth 20000 in
theorem B_X6_where_41 {G : Gx} {X : Cx} {h : PH} {k n : Nat} {a0 : Nat} {a1 : Int} {a2 : Int} {a3 : Int} {a4 : Int} {a5 : Int} {PQ : Option PV → PH → Prop} (C : CX_X6_where G X) (hq : PQ (some (.inl (-2))) h) : PW G X 7 (pw_E G X PQ k n) k n 41 [some (.inr a0), some (.inl a1), some (.inl a2), some (.inl a3), some (.inl a4), some (.inl a5), none] [] h := by
  refine pw_bipush C dX6_where_41 rfl ?_
  exact pw_ireturn C dX6_where_43 hq
set_option maxRecDepth 20000 in
theorem B_X6_where_44 {G : Gx} {X : Cx} {h : PH} {k n : Nat} {Q : State → Prop} {S : List PV} {a0 : Nat} {a1 : Int} {a2 : Int} {a3 : Int} {a4 : Int} {a5 : Int} {r2 : Nat} {r5 : Nat} {m11 : Nat} {m11E : String} {r12 : Nat} {PQ : Option PV → PH → Prop} (C : CX_X6_where G X) (hk0 : k ≤ 0 := by decide) (hn0 : n ≤ 0 := by decide) (t1 : ph_T h a0 = 6 := by first | assumption | rfl) (e3 : ph_R h a0 0 = r2 := by first | assumption | rfl) (t4 : ph_T h r2 = 5 := by first | assumption | rfl) (e6 : ph_R h r2 0 = r5 := by first | assumption | rfl) (m11a : ¬ m11 < 10 := by decide) (m11b : m11 < 14 := by decide) (t7 : ph_T h r5 = m11 := by first | assumption | rfl) (m11c : (pw_tys G)[m11 - 8]? = some (G.2.2.2.2 m11, .object m11E) := by rfl) (q8 : (0 : Int) ≤ a5 := by first | assumption | omega) (q9 : a5 < (ph_L h r5 : Int) := by first | assumption | omega) (q10 : pR a5 := by first | assumption | (unfold pR; omega)) (e13 : ph_R h r5 (Int.toNat a5) = r12 := by first | assumption | rfl) (t14 : ph_T h r12 = 0 := by first | assumption | rfl) (hM : CT_X0_isOpen G X.2.1 [.inr r12] h PQ) (hS : S.length ≤ 8 := by decide) (kk : ∀ r h', PQ r h' → PW G X 7 Q k n 57 [some (.inr a0), some (.inl a1), some (.inl a2), some (.inl a3), some (.inl a4), some (.inl a5), none] (r.toList ++ S) h') : PW G X 7 Q k n 44 [some (.inr a0), some (.inl a1), some (.inl a2), some (.inl a3), some (.inl a4), some (.inl a5), none] (S) h := by
  refine pw_aload_n C dX6_where_44 rfl ?_
  refine pw_getR C (t := 6) (f := 0) rfl inF6 rfl (by decide) (by decide) rfl kw310 dX6_where_45 t1 ?_
  rw [e3]
  refine pw_getR C (t := 5) (f := 0) rfl inF5 rfl (by decide) (by decide) rfl kw178 dX6_where_48 t4 ?_
  rw [e6]
  refine pw_iload C dX6_where_51 rfl ?_
  refine pw_aald C (t := m11) dX6_where_53 t7 m11a m11b m11c q8 q9 q10 ?_
  rw [e13]
  exact pw_callV C (na := 0) (As := []) (S := S) hM t14 (by decide) (hcl := by rfl) kw449 kw450 kw451 kw41 kw452 (by decide +kernel) rfl dX6_where_54 (by decide) (by decide) hk0 hn0 (by first | exact hS | (simp only [List.length_cons]; omega)) kk
set_option maxRecDepth 20000 in
theorem B_X6_where_57 {G : Gx} {X : Cx} {h : PH} {k n : Nat} {Q : State → Prop} {S : List PV} {a0 : Nat} {a1 : Int} {a2 : Int} {a3 : Int} {a4 : Int} {a5 : Int} {s0 : Int} (C : CX_X6_where G X) (q1 : pR s0 := by first | assumption | (unfold pR; omega)) (kt : ¬ s0 = 0 → PW G X 7 Q k n 63 [some (.inr a0), some (.inl a1), some (.inl a2), some (.inl a3), some (.inl a4), some (.inl a5), none] (S) h) (kf : s0 = 0 → PW G X 7 Q k n 60 [some (.inr a0), some (.inl a1), some (.inl a2), some (.inl a3), some (.inl a4), some (.inl a5), none] (S) h) : PW G X 7 Q k n 57 [some (.inr a0), some (.inl a1), some (.inl a2), some (.inl a3), some (.inl a4), some (.inl a5), none] (.inl s0 :: S) h := by
  exact pw_if_ne C 63 dX6_where_57 (by decide) q1 kt kf
set_option maxRecDepth 20000 in
theorem B_X6_where_60 {G : Gx} {X : Cx} {h : PH} {k n : Nat} {a0 : Nat} {a1 : Int} {a2 : Int} {a3 : Int} {a4 : Int} {a5 : Int} {PQ : Option PV → PH → Prop} (C : CX_X6_where G X) (hq : PQ (some (.inl (-3))) h) : PW G X 7 (pw_E G X PQ k n) k n 60 [some (.inr a0), some (.inl a1), some (.inl a2), some (.inl a3), some (.inl a4), some (.inl a5), none] [] h := by
  refine pw_bipush C dX6_where_60 rfl ?_
  exact pw_ireturn C dX6_where_62 hq
set_option maxRecDepth 20000 in
theorem B_X6_where_63 {G : Gx} {X : Cx} {h : PH} {k n : Nat} {Q : State → Prop} {S : List PV} {a0 : Nat} {a1 : Int} {a2 : Int} {a3 : Int} {a4 : Int} {a5 : Int} {r2 : Nat} {r5 : Nat} {r8 : Nat} {m14 : Nat} {m14E : String} {r15 : Nat} {PQ : Option PV → PH → Prop} (C : CX_X6_where G X) (hk0 : k ≤ 0 := by decide) (hn0 : n ≤ 0 := by decide) (t1 : ph_T h a0 = 6 := by first | assumption | rfl) (e3 : ph_R h a0 3 = r2 := by first | assumption | rfl) (t4 : ph_T h a0 = 6 := by first | assumption | rfl) (e6 : ph_R h a0 0 = r5 := by first | assumption | rfl) (t7 : ph_T h r5 = 5 := by first | assumption | rfl) (e9 : ph_R h r5 0 = r8 := by first | assumption | rfl) (m14a : ¬ m14 < 10 := by decide) (m14b : m14 < 14 := by decide) (t10 : ph_T h r8 = m14 := by first | assumption | rfl) (m14c : (pw_tys G)[m14 - 8]? = some (G.2.2.2.2 m14, .object m14E) := by rfl) (q11 : (0 : Int) ≤ a5 := by first | assumption | omega) (q12 : a5 < (ph_L h r8 : Int) := by first | assumption | omega) (q13 : pR a5 := by first | assumption | (unfold pR; omega)) (e16 : ph_R h r8 (Int.toNat a5) = r15 := by first | assumption | rfl) (t17 : ph_T h r2 = 2 := by first | assumption | rfl) (hM : CT_X2_bestWay G X.2.1 [.inr r2, .inl a1, .inr r15] h PQ) (hS : S.length ≤ 8 := by decide) (kk : ∀ r h', PQ r h' → PW G X 7 Q k n 81 [some (.inr a0), some (.inl a1), some (.inl a2), some (.inl a3), some (.inl a4), some (.inl a5), none] (r.toList ++ S) h') : PW G X 7 Q k n 63 [some (.inr a0), some (.inl a1), some (.inl a2), some (.inl a3), some (.inl a4), some (.inl a5), none] (S) h := by
  refine pw_aload_n C dX6_where_63 rfl ?_
  refine pw_getR C (t := 6) (f := 3) rfl inF6 rfl (by decide) (by decide) rfl kw313 dX6_where_64 t1 ?_
  rw [e3]
  refine pw_iload_n C dX6_where_67 rfl ?_
  refine pw_aload_n C dX6_where_68 rfl ?_
  refine pw_getR C (t := 6) (f := 0) rfl inF6 rfl (by decide) (by decide) rfl kw310 dX6_where_69 t4 ?_
  rw [e6]
  refine pw_getR C (t := 5) (f := 0) rfl inF5 rfl (by decide) (by decide) rfl kw178 dX6_where_72 t7 ?_
  rw [e9]
  refine pw_iload C dX6_where_75 rfl ?_
  refine pw_aald C (t := m14) dX6_where_77 t10 m14a m14b m14c q11 q12 q13 ?_
  rw [e16]
  exact pw_callV C (na := 2) (As := [.inl a1, .inr r15]) (S := S) hM t17 (by decide) (hcl := by rfl) kw454 kw455 kw456 kw43 kw457 (by decide +kernel) rfl dX6_where_78 (by decide) (by decide) hk0 hn0 (by first | exact hS | (simp only [List.length_cons]; omega)) kk
set_option maxRecDepth 20000 in
theorem B_X6_where_81 {G : Gx} {X : Cx} {h : PH} {k n : Nat} {Q : State → Prop} {S : List PV} {a0 : Nat} {a1 : Int} {a2 : Int} {a3 : Int} {a4 : Int} {a5 : Int} {s0 : Nat} {x3 : Int} (C : CX_X6_where G X) (q1 : 2 ≤ s0 := by first | assumption | omega) (t2 : ph_T h s0 = 4 := by first | assumption | rfl) (e4 : ph_I h s0 6 = x3 := by first | assumption | rfl) (q5 : pR x3 := by first | assumption | (unfold pR; omega)) (kt : x3 = 0 → PW G X 7 Q k n 108 [some (.inr a0), some (.inl a1), some (.inl a2), some (.inl a3), some (.inl a4), some (.inl a5), some (.inr s0)] (S) h) (kf : ¬ x3 = 0 → PW G X 7 Q k n 91 [some (.inr a0), some (.inl a1), some (.inl a2), some (.inl a3), some (.inl a4), some (.inl a5), some (.inr s0)] (S) h) : PW G X 7 Q k n 81 [some (.inr a0), some (.inl a1), some (.inl a2), some (.inl a3), some (.inl a4), some (.inl a5), none] (.inr s0 :: S) h := by
  refine pw_astore C dX6_where_81 (by decide) q1 ?_
  refine pw_aload C dX6_where_83 rfl ?_
  refine pw_getI C (t := 4) (f := 6) rfl inF4 rfl (by decide) (by decide) rfl kw230 dX6_where_85 t2 ?_
  rw [e4]
  exact pw_if_eq C 108 dX6_where_88 (by decide) q5 kt kf
set_option maxRecDepth 20000 in
theorem B_X6_where_91 {G : Gx} {X : Cx} {h : PH} {k n : Nat} {Q : State → Prop} {S : List PV} {a0 : Nat} {a1 : Int} {a2 : Int} {a3 : Int} {a4 : Int} {a5 : Int} {a6 : Nat} {x2 : Int} {x5 : Int} {PQ : Option PV → PH → Prop} (C : CX_X6_where G X) (hk0 : k ≤ 0 := by decide) (hn0 : n ≤ 0 := by decide) (t1 : ph_T h a6 = 4 := by first | assumption | rfl) (e3 : ph_I h a6 8 = x2 := by first | assumption | rfl) (t4 : ph_T h a6 = 4 := by first | assumption | rfl) (e6 : ph_I h a6 9 = x5 := by first | assumption | rfl) (hM : CT_X6_isIn G X.2.1 [.inl a3, .inl x2, .inl x5] h PQ) (hS : S.length ≤ 8 := by decide) (kk : ∀ r h', PQ r h' → PW G X 7 Q k n 105 [some (.inr a0), some (.inl a1), some (.inl a2), some (.inl a3), some (.inl a4), some (.inl a5), some (.inr a6)] (r.toList ++ S) h') : PW G X 7 Q k n 91 [some (.inr a0), some (.inl a1), some (.inl a2), some (.inl a3), some (.inl a4), some (.inl a5), some (.inr a6)] (S) h := by
  refine pw_iload_n C dX6_where_91 rfl ?_
  refine pw_aload C dX6_where_92 rfl ?_
  refine pw_getI C (t := 4) (f := 8) rfl inF4 rfl (by decide) (by decide) rfl kw234 dX6_where_94 t1 ?_
  rw [e3]
  refine pw_aload C dX6_where_97 rfl ?_
  refine pw_getI C (t := 4) (f := 9) rfl inF4 rfl (by decide) (by decide) rfl kw236 dX6_where_99 t4 ?_
  rw [e6]
  exact pw_callS C (na := 3) (As := [.inl a3, .inl x2, .inl x5]) (S := S) hM kw327 kw328 kw38 kw329 (by decide +kernel) rfl dX6_where_102 (by decide) (by decide) hk0 hn0 (by first | exact hS | (simp only [List.length_cons]; omega)) kk
set_option maxRecDepth 20000 in
theorem B_X6_where_105 {G : Gx} {X : Cx} {h : PH} {k n : Nat} {Q : State → Prop} {S : List PV} {a0 : Nat} {a1 : Int} {a2 : Int} {a3 : Int} {a4 : Int} {a5 : Int} {a6 : Nat} {s0 : Int} (C : CX_X6_where G X) (q1 : pR s0 := by first | assumption | (unfold pR; omega)) (kt : ¬ s0 = 0 → PW G X 7 Q k n 111 [some (.inr a0), some (.inl a1), some (.inl a2), some (.inl a3), some (.inl a4), some (.inl a5), some (.inr a6)] (S) h) (kf : s0 = 0 → PW G X 7 Q k n 108 [some (.inr a0), some (.inl a1), some (.inl a2), some (.inl a3), some (.inl a4), some (.inl a5), some (.inr a6)] (S) h) : PW G X 7 Q k n 105 [some (.inr a0), some (.inl a1), some (.inl a2), some (.inl a3), some (.inl a4), some (.inl a5), some (.inr a6)] (.inl s0 :: S) h := by
  exact pw_if_ne C 111 dX6_where_105 (by decide) q1 kt kf
set_option maxRecDepth 20000 in
theorem B_X6_where_108 {G : Gx} {X : Cx} {h : PH} {k n : Nat} {a0 : Nat} {a1 : Int} {a2 : Int} {a3 : Int} {a4 : Int} {a5 : Int} {a6 : Nat} {PQ : Option PV → PH → Prop} (C : CX_X6_where G X) (hq : PQ (some (.inl (-6))) h) : PW G X 7 (pw_E G X PQ k n) k n 108 [some (.inr a0), some (.inl a1), some (.inl a2), some (.inl a3), some (.inl a4), some (.inl a5), some (.inr a6)] [] h := by
  refine pw_bipush C dX6_where_108 rfl ?_
  exact pw_ireturn C dX6_where_110 hq
set_option maxRecDepth 20000 in
theorem B_X6_where_111 {G : Gx} {X : Cx} {h : PH} {k n : Nat} {Q : State → Prop} {S : List PV} {a0 : Nat} {a1 : Int} {a2 : Int} {a3 : Int} {a4 : Int} {a5 : Int} {a6 : Nat} (C : CX_X6_where G X) (kk : PW G X 7 Q k n 113 [some (.inr a0), some (.inl a1), some (.inl a2), some (.inl a3), some (.inl a4), some (.inl a5), some (.inr a6)] (.inl a4 :: S) h) : PW G X 7 Q k n 111 [some (.inr a0), some (.inl a1), some (.inl a2), some (.inl a3), some (.inl a4), some (.inl a5), some (.inr a6)] (S) h := by
  refine pw_iload C dX6_where_111 rfl ?_
  exact kk
set_option maxRecDepth 20000 in
theorem B_X6_where_113 {G : Gx} {X : Cx} {h : PH} {k n : Nat} {Q : State → Prop} {S : List PV} {a0 : Nat} {a1 : Int} {a2 : Int} {a3 : Int} {a4 : Int} {a5 : Int} {a6 : Nat} {s0 : Int} (C : CX_X6_where G X) (q1 : pR s0 := by first | assumption | (unfold pR; omega)) (k0 : s0 = 0 → PW G X 7 Q k n 140 [some (.inr a0), some (.inl a1), some (.inl a2), some (.inl a3), some (.inl a4), some (.inl a5), some (.inr a6)] (S) h) (k1 : s0 = 1 → PW G X 7 Q k n 161 [some (.inr a0), some (.inl a1), some (.inl a2), some (.inl a3), some (.inl a4), some (.inl a5), some (.inr a6)] (S) h) (kd : ¬ s0 = 0 ∧ ¬ s0 = 1 → PW G X 7 Q k n 169 [some (.inr a0), some (.inl a1), some (.inl a2), some (.inl a3), some (.inl a4), some (.inl a5), some (.inr a6)] (S) h) : PW G X 7 Q k n 113 [some (.inr a0), some (.inl a1), some (.inl a2), some (.inl a3), some (.inl a4), some (.inl a5), some (.inr a6)] (.inl s0 :: S) h := by
  by_cases z0 : s0 = 0
  · have kj := k0 z0
    subst z0
    exact pw_lookup C 140 dX6_where_113 (by decide) q1 rfl (by decide) kj
  by_cases z1 : s0 = 1
  · have kj := k1 z1
    subst z1
    exact pw_lookup C 161 dX6_where_113 (by decide) q1 rfl (by decide) kj
  have kj := kd ⟨z0, z1⟩
  exact pw_lookup (off := 56) C 169 dX6_where_113 (by decide) q1 (by simp [Op.lookupswitch.offset, Ne.symm z0, z0, Ne.symm z1, z1]) (by decide) kj
set_option maxRecDepth 20000 in
theorem B_X6_where_140 {G : Gx} {X : Cx} {h : PH} {k n : Nat} {a0 : Nat} {a1 : Int} {a2 : Int} {a3 : Int} {a4 : Int} {a5 : Int} {a6 : Nat} {r2 : Nat} {x8 : Int} {r11 : Nat} {r14 : Nat} {m20 : Nat} {m20E : String} {r21 : Nat} {x24 : Int} {PQ : Option PV → PH → Prop} (C : CX_X6_where G X) (t1 : ph_T h a6 = 4 := by first | assumption | rfl) (e3 : ph_R h a6 0 = r2 := by first | assumption | rfl) (t4 : ph_T h r2 = 8 := by first | assumption | rfl) (q5 : (0 : Int) ≤ a3 := by first | assumption | omega) (q6 : a3 < (ph_L h r2 : Int) := by first | assumption | omega) (q7 : pR a3 := by first | assumption | (unfold pR; omega)) (e9 : ph_I h r2 (Int.toNat a3) = x8 := by first | assumption | rfl) (t10 : ph_T h a0 = 6 := by first | assumption | rfl) (e12 : ph_R h a0 0 = r11 := by first | assumption | rfl) (t13 : ph_T h r11 = 5 := by first | assumption | rfl) (e15 : ph_R h r11 1 = r14 := by first | assumption | rfl) (m20a : ¬ m20 < 10 := by decide) (m20b : m20 < 14 := by decide) (t16 : ph_T h r14 = m20 := by first | assumption | rfl) (m20c : (pw_tys G)[m20 - 8]? = some (G.2.2.2.2 m20, .object m20E) := by rfl) (q17 : (0 : Int) ≤ a1 := by first | assumption | omega) (q18 : a1 < (ph_L h r14 : Int) := by first | assumption | omega) (q19 : pR a1 := by first | assumption | (unfold pR; omega)) (e22 : ph_R h r14 (Int.toNat a1) = r21 := by first | assumption | rfl) (t23 : ph_T h r21 = 1 := by first | assumption | rfl) (e25 : ph_I h r21 3 = x24 := by first | assumption | rfl) (hq : PQ (some (.inl (x8 + x24))) h) : PW G X 7 (pw_E G X PQ k n) k n 140 [some (.inr a0), some (.inl a1), some (.inl a2), some (.inl a3), some (.inl a4), some (.inl a5), some (.inr a6)] [] h := by
  refine pw_aload C dX6_where_140 rfl ?_
  refine pw_getR C (t := 4) (f := 0) rfl inF4 rfl (by decide) (by decide) rfl kw216 dX6_where_142 t1 ?_
  rw [e3]
  refine pw_iload_n C dX6_where_145 rfl ?_
  refine pw_iald C dX6_where_146 t4 q5 q6 q7 ?_
  rw [e9]
  refine pw_aload_n C dX6_where_147 rfl ?_
  refine pw_getR C (t := 6) (f := 0) rfl inF6 rfl (by decide) (by decide) rfl kw310 dX6_where_148 t10 ?_
  rw [e12]
  refine pw_getR C (t := 5) (f := 1) rfl inF5 rfl (by decide) (by decide) rfl kw181 dX6_where_151 t13 ?_
  rw [e15]
  refine pw_iload_n C dX6_where_154 rfl ?_
  refine pw_aald C (t := m20) dX6_where_155 t16 m20a m20b m20c q17 q18 q19 ?_
  rw [e22]
  refine pw_getI C (t := 1) (f := 3) rfl inF1 rfl (by decide) (by decide) rfl kw160 dX6_where_156 t23 ?_
  rw [e25]
  refine pw_iadd C dX6_where_159 ?_
  exact pw_ireturn C dX6_where_160 hq
set_option maxRecDepth 20000 in
theorem B_X6_where_161 {G : Gx} {X : Cx} {h : PH} {k n : Nat} {a0 : Nat} {a1 : Int} {a2 : Int} {a3 : Int} {a4 : Int} {a5 : Int} {a6 : Nat} {r2 : Nat} {x8 : Int} {PQ : Option PV → PH → Prop} (C : CX_X6_where G X) (t1 : ph_T h a6 = 4 := by first | assumption | rfl) (e3 : ph_R h a6 1 = r2 := by first | assumption | rfl) (t4 : ph_T h r2 = 8 := by first | assumption | rfl) (q5 : (0 : Int) ≤ a3 := by first | assumption | omega) (q6 : a3 < (ph_L h r2 : Int) := by first | assumption | omega) (q7 : pR a3 := by first | assumption | (unfold pR; omega)) (e9 : ph_I h r2 (Int.toNat a3) = x8 := by first | assumption | rfl) (hq : PQ (some (.inl x8)) h) : PW G X 7 (pw_E G X PQ k n) k n 161 [some (.inr a0), some (.inl a1), some (.inl a2), some (.inl a3), some (.inl a4), some (.inl a5), some (.inr a6)] [] h := by
  refine pw_aload C dX6_where_161 rfl ?_
  refine pw_getR C (t := 4) (f := 1) rfl inF4 rfl (by decide) (by decide) rfl kw218 dX6_where_163 t1 ?_
  rw [e3]
  refine pw_iload_n C dX6_where_166 rfl ?_
  refine pw_iald C dX6_where_167 t4 q5 q6 q7 ?_
  rw [e9]
  exact pw_ireturn C dX6_where_168 hq
set_option maxRecDepth 20000 in
theorem B_X6_where_169 {G : Gx} {X : Cx} {h : PH} {k n : Nat} {Q : State → Prop} {S : List PV} {a0 : Nat} {a1 : Int} {a2 : Int} {a3 : Int} {a4 : Int} {a5 : Int} {a6 : Nat} {r2 : Nat} {x8 : Int} (C : CX_X6_where G X) (t1 : ph_T h a6 = 4 := by first | assumption | rfl) (e3 : ph_R h a6 2 = r2 := by first | assumption | rfl) (t4 : ph_T h r2 = 9 := by first | assumption | rfl) (q5 : (0 : Int) ≤ a3 := by first | assumption | omega) (q6 : a3 < (ph_L h r2 : Int) := by first | assumption | omega) (q7 : pR a3 := by first | assumption | (unfold pR; omega)) (e9 : ph_I h r2 (Int.toNat a3) = x8 := by first | assumption | rfl) (q10 : pR x8 := by first | assumption | (unfold pR; omega)) (kt : x8 = 0 → PW G X 7 Q k n 183 [some (.inr a0), some (.inl a1), some (.inl a2), some (.inl a3), some (.inl a4), some (.inl a5), some (.inr a6)] (S) h) (kf : ¬ x8 = 0 → PW G X 7 Q k n 179 [some (.inr a0), some (.inl a1), some (.inl a2), some (.inl a3), some (.inl a4), some (.inl a5), some (.inr a6)] (S) h) : PW G X 7 Q k n 169 [some (.inr a0), some (.inl a1), some (.inl a2), some (.inl a3), some (.inl a4), some (.inl a5), some (.inr a6)] (S) h := by
  refine pw_aload C dX6_where_169 rfl ?_
  refine pw_getR C (t := 4) (f := 2) rfl inF4 rfl (by decide) (by decide) rfl kw220 dX6_where_171 t1 ?_
  rw [e3]
  refine pw_iload_n C dX6_where_174 rfl ?_
  refine pw_zald C dX6_where_175 t4 q5 q6 q7 ?_
  rw [e9]
  exact pw_if_eq C 183 dX6_where_176 (by decide) q10 kt kf
set_option maxRecDepth 20000 in
theorem B_X6_where_179 {G : Gx} {X : Cx} {h : PH} {k n : Nat} {Q : State → Prop} {S : List PV} {a0 : Nat} {a1 : Int} {a2 : Int} {a3 : Int} {a4 : Int} {a5 : Int} {a6 : Nat} (C : CX_X6_where G X) (kk : PW G X 7 Q k n 184 [some (.inr a0), some (.inl a1), some (.inl a2), some (.inl a3), some (.inl a4), some (.inl a5), some (.inr a6)] (.inl 1 :: S) h) : PW G X 7 Q k n 179 [some (.inr a0), some (.inl a1), some (.inl a2), some (.inl a3), some (.inl a4), some (.inl a5), some (.inr a6)] (S) h := by
  refine pw_iconst C dX6_where_179 ?_
  refine pw_goto C 184 dX6_where_180 (by decide) ?_
  exact kk
set_option maxRecDepth 20000 in
theorem B_X6_where_183 {G : Gx} {X : Cx} {h : PH} {k n : Nat} {Q : State → Prop} {S : List PV} {a0 : Nat} {a1 : Int} {a2 : Int} {a3 : Int} {a4 : Int} {a5 : Int} {a6 : Nat} (C : CX_X6_where G X) (kk : PW G X 7 Q k n 184 [some (.inr a0), some (.inl a1), some (.inl a2), some (.inl a3), some (.inl a4), some (.inl a5), some (.inr a6)] (.inl 0 :: S) h) : PW G X 7 Q k n 183 [some (.inr a0), some (.inl a1), some (.inl a2), some (.inl a3), some (.inl a4), some (.inl a5), some (.inr a6)] (S) h := by
  refine pw_iconst C dX6_where_183 ?_
  exact kk
set_option maxRecDepth 20000 in
theorem B_X6_where_184 {G : Gx} {X : Cx} {h : PH} {k n : Nat} {a0 : Nat} {a1 : Int} {a2 : Int} {a3 : Int} {a4 : Int} {a5 : Int} {a6 : Nat} {s0 : Int} {PQ : Option PV → PH → Prop} (C : CX_X6_where G X) (hq : PQ (some (.inl s0)) h) : PW G X 7 (pw_E G X PQ k n) k n 184 [some (.inr a0), some (.inl a1), some (.inl a2), some (.inl a3), some (.inl a4), some (.inl a5), some (.inr a6)] [.inl s0] h := by
  exact pw_ireturn C dX6_where_184 hq
theorem dX6_offer_0 : decode cX6_offer 0 = .ok (.aload_n 0, 1) := by decide +kernel
theorem dX6_offer_1 : decode cX6_offer 1 = .ok (.getfield 12, 3) := by decide +kernel
theorem dX6_offer_4 : decode cX6_offer 4 = .ok (.iload_n 1, 1) := by decide +kernel
theorem dX6_offer_5 : decode cX6_offer 5 = .ok (.invokevirtual 37, 3) := by decide +kernel
theorem dX6_offer_8 : decode cX6_offer 8 = .ok (.istore_n 3, 1) := by decide +kernel
theorem dX6_offer_9 : decode cX6_offer 9 = .ok (.iload_n 3, 1) := by decide +kernel
theorem dX6_offer_10 : decode cX6_offer 10 = .ok (.ifCond .ge 5, 3) := by decide +kernel
theorem dX6_offer_13 : decode cX6_offer 13 = .ok (.iconst (-1), 1) := by decide +kernel
theorem dX6_offer_14 : decode cX6_offer 14 = .ok (.ireturn, 1) := by decide +kernel
theorem dX6_offer_15 : decode cX6_offer 15 = .ok (.iload_n 2, 1) := by decide +kernel
theorem dX6_offer_16 : decode cX6_offer 16 = .ok (.iconst 0, 1) := by decide +kernel
theorem dX6_offer_17 : decode cX6_offer 17 = .ok (.iconst 1, 1) := by decide +kernel
theorem dX6_offer_18 : decode cX6_offer 18 = .ok (.invokestatic 33, 3) := by decide +kernel
theorem dX6_offer_21 : decode cX6_offer 21 = .ok (.ifCond .ne 6, 3) := by decide +kernel
theorem dX6_offer_24 : decode cX6_offer 24 = .ok (.bipush (-2), 2) := by decide +kernel
theorem dX6_offer_26 : decode cX6_offer 26 = .ok (.ireturn, 1) := by decide +kernel
theorem dX6_offer_27 : decode cX6_offer 27 = .ok (.aload_n 0, 1) := by decide +kernel
theorem dX6_offer_28 : decode cX6_offer 28 = .ok (.getfield 12, 3) := by decide +kernel
theorem dX6_offer_31 : decode cX6_offer 31 = .ok (.getfield 45, 3) := by decide +kernel
theorem dX6_offer_34 : decode cX6_offer 34 = .ok (.iload_n 3, 1) := by decide +kernel
theorem dX6_offer_35 : decode cX6_offer 35 = .ok (.aaload, 1) := by decide +kernel
theorem dX6_offer_36 : decode cX6_offer 36 = .ok (.invokevirtual 154, 3) := by decide +kernel
theorem dX6_offer_39 : decode cX6_offer 39 = .ok (.ifCond .ne 6, 3) := by decide +kernel
theorem dX6_offer_42 : decode cX6_offer 42 = .ok (.bipush (-3), 2) := by decide +kernel
theorem dX6_offer_44 : decode cX6_offer 44 = .ok (.ireturn, 1) := by decide +kernel
theorem dX6_offer_45 : decode cX6_offer 45 = .ok (.aload_n 0, 1) := by decide +kernel
theorem dX6_offer_46 : decode cX6_offer 46 = .ok (.aload_n 0, 1) := by decide +kernel
theorem dX6_offer_47 : decode cX6_offer 47 = .ok (.getfield 12, 3) := by decide +kernel
theorem dX6_offer_50 : decode cX6_offer 50 = .ok (.getfield 45, 3) := by decide +kernel
theorem dX6_offer_53 : decode cX6_offer 53 = .ok (.iload_n 3, 1) := by decide +kernel
theorem dX6_offer_54 : decode cX6_offer 54 = .ok (.aaload, 1) := by decide +kernel
theorem dX6_offer_55 : decode cX6_offer 55 = .ok (.invokevirtual 193, 3) := by decide +kernel
theorem dX6_offer_58 : decode cX6_offer 58 = .ok (.istore 4, 2) := by decide +kernel
theorem dX6_offer_60 : decode cX6_offer 60 = .ok (.iload 4, 2) := by decide +kernel
theorem dX6_offer_62 : decode cX6_offer 62 = .ok (.invokestatic 76, 3) := by decide +kernel
theorem dX6_offer_65 : decode cX6_offer 65 = .ok (.ifCond .ne 6, 3) := by decide +kernel
theorem dX6_offer_68 : decode cX6_offer 68 = .ok (.bipush (-6), 2) := by decide +kernel
theorem dX6_offer_70 : decode cX6_offer 70 = .ok (.ireturn, 1) := by decide +kernel
theorem dX6_offer_71 : decode cX6_offer 71 = .ok (.iload_n 2, 1) := by decide +kernel
theorem dX6_offer_72 : decode cX6_offer 72 = .ok (.ifCond .ne 8, 3) := by decide +kernel
theorem dX6_offer_75 : decode cX6_offer 75 = .ok (.iload 4, 2) := by decide +kernel
theorem dX6_offer_77 : decode cX6_offer 77 = .ok (.goto 24, 3) := by decide +kernel
theorem dX6_offer_80 : decode cX6_offer 80 = .ok (.aload_n 0, 1) := by decide +kernel
theorem dX6_offer_81 : decode cX6_offer 81 = .ok (.getfield 29, 3) := by decide +kernel
theorem dX6_offer_84 : decode cX6_offer 84 = .ok (.iload 4, 2) := by decide +kernel
theorem dX6_offer_86 : decode cX6_offer 86 = .ok (.aload_n 0, 1) := by decide +kernel
theorem dX6_offer_87 : decode cX6_offer 87 = .ok (.getfield 12, 3) := by decide +kernel
theorem dX6_offer_90 : decode cX6_offer 90 = .ok (.getfield 45, 3) := by decide +kernel
theorem dX6_offer_93 : decode cX6_offer 93 = .ok (.iload_n 3, 1) := by decide +kernel
theorem dX6_offer_94 : decode cX6_offer 94 = .ok (.aaload, 1) := by decide +kernel
theorem dX6_offer_95 : decode cX6_offer 95 = .ok (.invokevirtual 157, 3) := by decide +kernel
theorem dX6_offer_98 : decode cX6_offer 98 = .ok (.getfield 167, 3) := by decide +kernel
theorem dX6_offer_101 : decode cX6_offer 101 = .ok (.ireturn, 1) := by decide +kernel
set_option maxRecDepth 20000 in
theorem B_X6_offer_0 {G : Gx} {X : Cx} {h : PH} {k n : Nat} {Q : State → Prop} {S : List PV} {a0 : Nat} {a1 : Int} {a2 : Int} {r2 : Nat} {PQ : Option PV → PH → Prop} (C : CX_X6_offer G X) (hk0 : k ≤ 0 := by decide) (hn0 : n ≤ 0 := by decide) (t1 : ph_T h a0 = 6 := by first | assumption | rfl) (e3 : ph_R h a0 0 = r2 := by first | assumption | rfl) (t4 : ph_T h r2 = 5 := by first | assumption | rfl) (hM : CT_X5_indexOf G X.2.1 [.inr r2, .inl a1] h PQ) (hS : S.length ≤ 8 := by decide) (kk : ∀ r h', PQ r h' → PW G X 5 Q k n 8 [some (.inr a0), some (.inl a1), some (.inl a2), none, none] (r.toList ++ S) h') : PW G X 5 Q k n 0 [some (.inr a0), some (.inl a1), some (.inl a2), none, none] (S) h := by
  refine pw_aload_n C dX6_offer_0 rfl ?_
  refine pw_getR C (t := 6) (f := 0) rfl inF6 rfl (by decide) (by decide) rfl kw310 dX6_offer_1 t1 ?_
  rw [e3]
  refine pw_iload_n C dX6_offer_4 rfl ?_
  exact pw_callV C (na := 1) (As := [.inl a1]) (S := S) hM t4 (by decide) (hcl := by rfl) kw330 kw331 kw332 kw39 kw333 (by decide +kernel) rfl dX6_offer_5 (by decide) (by decide) hk0 hn0 (by first | exact hS | (simp only [List.length_cons]; omega)) kk
set_option maxRecDepth 20000 in
theorem B_X6_offer_8 {G : Gx} {X : Cx} {h : PH} {k n : Nat} {Q : State → Prop} {S : List PV} {a0 : Nat} {a1 : Int} {a2 : Int} {s0 : Int} (C : CX_X6_offer G X) (q1 : pR s0 := by first | assumption | (unfold pR; omega)) (kt : 0 ≤ s0 → PW G X 5 Q k n 15 [some (.inr a0), some (.inl a1), some (.inl a2), some (.inl s0), none] (S) h) (kf : ¬ 0 ≤ s0 → PW G X 5 Q k n 13 [some (.inr a0), some (.inl a1), some (.inl a2), some (.inl s0), none] (S) h) : PW G X 5 Q k n 8 [some (.inr a0), some (.inl a1), some (.inl a2), none, none] (.inl s0 :: S) h := by
  refine pw_istore_n C dX6_offer_8 (by decide) ?_
  refine pw_iload_n C dX6_offer_9 rfl ?_
  exact pw_if_ge C 15 dX6_offer_10 (by decide) q1 kt kf
set_option maxRecDepth 20000 in
theorem B_X6_offer_13 {G : Gx} {X : Cx} {h : PH} {k n : Nat} {a0 : Nat} {a1 : Int} {a2 : Int} {a3 : Int} {PQ : Option PV → PH → Prop} (C : CX_X6_offer G X) (hq : PQ (some (.inl (-1))) h) : PW G X 5 (pw_E G X PQ k n) k n 13 [some (.inr a0), some (.inl a1), some (.inl a2), some (.inl a3), none] [] h := by
  refine pw_iconst C dX6_offer_13 ?_
  exact pw_ireturn C dX6_offer_14 hq
set_option maxRecDepth 20000 in
theorem B_X6_offer_15 {G : Gx} {X : Cx} {h : PH} {k n : Nat} {Q : State → Prop} {S : List PV} {a0 : Nat} {a1 : Int} {a2 : Int} {a3 : Int} {PQ : Option PV → PH → Prop} (C : CX_X6_offer G X) (hk0 : k ≤ 0 := by decide) (hn0 : n ≤ 0 := by decide) (hM : CT_X6_isIn G X.2.1 [.inl a2, .inl 0, .inl 1] h PQ) (hS : S.length ≤ 8 := by decide) (kk : ∀ r h', PQ r h' → PW G X 5 Q k n 21 [some (.inr a0), some (.inl a1), some (.inl a2), some (.inl a3), none] (r.toList ++ S) h') : PW G X 5 Q k n 15 [some (.inr a0), some (.inl a1), some (.inl a2), some (.inl a3), none] (S) h := by
  refine pw_iload_n C dX6_offer_15 rfl ?_
  refine pw_iconst C dX6_offer_16 ?_
  refine pw_iconst C dX6_offer_17 ?_
  exact pw_callS C (na := 3) (As := [.inl a2, .inl 0, .inl 1]) (S := S) hM kw327 kw328 kw38 kw329 (by decide +kernel) rfl dX6_offer_18 (by decide) (by decide) hk0 hn0 (by first | exact hS | (simp only [List.length_cons]; omega)) kk
set_option maxRecDepth 20000 in
theorem B_X6_offer_21 {G : Gx} {X : Cx} {h : PH} {k n : Nat} {Q : State → Prop} {S : List PV} {a0 : Nat} {a1 : Int} {a2 : Int} {a3 : Int} {s0 : Int} (C : CX_X6_offer G X) (q1 : pR s0 := by first | assumption | (unfold pR; omega)) (kt : ¬ s0 = 0 → PW G X 5 Q k n 27 [some (.inr a0), some (.inl a1), some (.inl a2), some (.inl a3), none] (S) h) (kf : s0 = 0 → PW G X 5 Q k n 24 [some (.inr a0), some (.inl a1), some (.inl a2), some (.inl a3), none] (S) h) : PW G X 5 Q k n 21 [some (.inr a0), some (.inl a1), some (.inl a2), some (.inl a3), none] (.inl s0 :: S) h := by
  exact pw_if_ne C 27 dX6_offer_21 (by decide) q1 kt kf
set_option maxRecDepth 20000 in
theorem B_X6_offer_24 {G : Gx} {X : Cx} {h : PH} {k n : Nat} {a0 : Nat} {a1 : Int} {a2 : Int} {a3 : Int} {PQ : Option PV → PH → Prop} (C : CX_X6_offer G X) (hq : PQ (some (.inl (-2))) h) : PW G X 5 (pw_E G X PQ k n) k n 24 [some (.inr a0), some (.inl a1), some (.inl a2), some (.inl a3), none] [] h := by
  refine pw_bipush C dX6_offer_24 rfl ?_
  exact pw_ireturn C dX6_offer_26 hq
set_option maxRecDepth 20000 in
theorem B_X6_offer_27 {G : Gx} {X : Cx} {h : PH} {k n : Nat} {Q : State → Prop} {S : List PV} {a0 : Nat} {a1 : Int} {a2 : Int} {a3 : Int} {r2 : Nat} {r5 : Nat} {m11 : Nat} {m11E : String} {r12 : Nat} {PQ : Option PV → PH → Prop} (C : CX_X6_offer G X) (hk0 : k ≤ 0 := by decide) (hn0 : n ≤ 0 := by decide) (t1 : ph_T h a0 = 6 := by first | assumption | rfl) (e3 : ph_R h a0 0 = r2 := by first | assumption | rfl) (t4 : ph_T h r2 = 5 := by first | assumption | rfl) (e6 : ph_R h r2 0 = r5 := by first | assumption | rfl) (m11a : ¬ m11 < 10 := by decide) (m11b : m11 < 14 := by decide) (t7 : ph_T h r5 = m11 := by first | assumption | rfl) (m11c : (pw_tys G)[m11 - 8]? = some (G.2.2.2.2 m11, .object m11E) := by rfl) (q8 : (0 : Int) ≤ a3 := by first | assumption | omega) (q9 : a3 < (ph_L h r5 : Int) := by first | assumption | omega) (q10 : pR a3 := by first | assumption | (unfold pR; omega)) (e13 : ph_R h r5 (Int.toNat a3) = r12 := by first | assumption | rfl) (t14 : ph_T h r12 = 0 := by first | assumption | rfl) (hM : CT_X0_isOpen G X.2.1 [.inr r12] h PQ) (hS : S.length ≤ 8 := by decide) (kk : ∀ r h', PQ r h' → PW G X 5 Q k n 39 [some (.inr a0), some (.inl a1), some (.inl a2), some (.inl a3), none] (r.toList ++ S) h') : PW G X 5 Q k n 27 [some (.inr a0), some (.inl a1), some (.inl a2), some (.inl a3), none] (S) h := by
  refine pw_aload_n C dX6_offer_27 rfl ?_
  refine pw_getR C (t := 6) (f := 0) rfl inF6 rfl (by decide) (by decide) rfl kw310 dX6_offer_28 t1 ?_
  rw [e3]
  refine pw_getR C (t := 5) (f := 0) rfl inF5 rfl (by decide) (by decide) rfl kw178 dX6_offer_31 t4 ?_
  rw [e6]
  refine pw_iload_n C dX6_offer_34 rfl ?_
  refine pw_aald C (t := m11) dX6_offer_35 t7 m11a m11b m11c q8 q9 q10 ?_
  rw [e13]
  exact pw_callV C (na := 0) (As := []) (S := S) hM t14 (by decide) (hcl := by rfl) kw449 kw450 kw451 kw41 kw452 (by decide +kernel) rfl dX6_offer_36 (by decide) (by decide) hk0 hn0 (by first | exact hS | (simp only [List.length_cons]; omega)) kk
set_option maxRecDepth 20000 in
theorem B_X6_offer_39 {G : Gx} {X : Cx} {h : PH} {k n : Nat} {Q : State → Prop} {S : List PV} {a0 : Nat} {a1 : Int} {a2 : Int} {a3 : Int} {s0 : Int} (C : CX_X6_offer G X) (q1 : pR s0 := by first | assumption | (unfold pR; omega)) (kt : ¬ s0 = 0 → PW G X 5 Q k n 45 [some (.inr a0), some (.inl a1), some (.inl a2), some (.inl a3), none] (S) h) (kf : s0 = 0 → PW G X 5 Q k n 42 [some (.inr a0), some (.inl a1), some (.inl a2), some (.inl a3), none] (S) h) : PW G X 5 Q k n 39 [some (.inr a0), some (.inl a1), some (.inl a2), some (.inl a3), none] (.inl s0 :: S) h := by
  exact pw_if_ne C 45 dX6_offer_39 (by decide) q1 kt kf
set_option maxRecDepth 20000 in
theorem B_X6_offer_42 {G : Gx} {X : Cx} {h : PH} {k n : Nat} {a0 : Nat} {a1 : Int} {a2 : Int} {a3 : Int} {PQ : Option PV → PH → Prop} (C : CX_X6_offer G X) (hq : PQ (some (.inl (-3))) h) : PW G X 5 (pw_E G X PQ k n) k n 42 [some (.inr a0), some (.inl a1), some (.inl a2), some (.inl a3), none] [] h := by
  refine pw_bipush C dX6_offer_42 rfl ?_
  exact pw_ireturn C dX6_offer_44 hq
set_option maxRecDepth 20000 in
theorem B_X6_offer_45 {G : Gx} {X : Cx} {h : PH} {k n : Nat} {Q : State → Prop} {S : List PV} {a0 : Nat} {a1 : Int} {a2 : Int} {a3 : Int} {r2 : Nat} {r5 : Nat} {m11 : Nat} {m11E : String} {r12 : Nat} {PQ : Option PV → PH → Prop} (C : CX_X6_offer G X) (hk0 : k ≤ 0 := by decide) (hn0 : n ≤ 0 := by decide) (t1 : ph_T h a0 = 6 := by first | assumption | rfl) (e3 : ph_R h a0 0 = r2 := by first | assumption | rfl) (t4 : ph_T h r2 = 5 := by first | assumption | rfl) (e6 : ph_R h r2 0 = r5 := by first | assumption | rfl) (m11a : ¬ m11 < 10 := by decide) (m11b : m11 < 14 := by decide) (t7 : ph_T h r5 = m11 := by first | assumption | rfl) (m11c : (pw_tys G)[m11 - 8]? = some (G.2.2.2.2 m11, .object m11E) := by rfl) (q8 : (0 : Int) ≤ a3 := by first | assumption | omega) (q9 : a3 < (ph_L h r5 : Int) := by first | assumption | omega) (q10 : pR a3 := by first | assumption | (unfold pR; omega)) (e13 : ph_R h r5 (Int.toNat a3) = r12 := by first | assumption | rfl) (t14 : ph_T h a0 = 6 := by first | assumption | rfl) (hM : CT_X6_bestDish G X.2.1 [.inr a0, .inr r12] h PQ) (hS : S.length ≤ 8 := by decide) (kk : ∀ r h', PQ r h' → PW G X 5 Q k n 58 [some (.inr a0), some (.inl a1), some (.inl a2), some (.inl a3), none] (r.toList ++ S) h') : PW G X 5 Q k n 45 [some (.inr a0), some (.inl a1), some (.inl a2), some (.inl a3), none] (S) h := by
  refine pw_aload_n C dX6_offer_45 rfl ?_
  refine pw_aload_n C dX6_offer_46 rfl ?_
  refine pw_getR C (t := 6) (f := 0) rfl inF6 rfl (by decide) (by decide) rfl kw310 dX6_offer_47 t1 ?_
  rw [e3]
  refine pw_getR C (t := 5) (f := 0) rfl inF5 rfl (by decide) (by decide) rfl kw178 dX6_offer_50 t4 ?_
  rw [e6]
  refine pw_iload_n C dX6_offer_53 rfl ?_
  refine pw_aald C (t := m11) dX6_offer_54 t7 m11a m11b m11c q8 q9 q10 ?_
  rw [e13]
  exact pw_callV C (na := 1) (As := [.inr r12]) (S := S) hM t14 (by decide) (hcl := by rfl) kw567 kw569 kw13 kw38 kw570 (by decide +kernel) rfl dX6_offer_55 (by decide) (by decide) hk0 hn0 (by first | exact hS | (simp only [List.length_cons]; omega)) kk
set_option maxRecDepth 20000 in
theorem B_X6_offer_58 {G : Gx} {X : Cx} {h : PH} {k n : Nat} {Q : State → Prop} {S : List PV} {a0 : Nat} {a1 : Int} {a2 : Int} {a3 : Int} {s0 : Int} {PQ : Option PV → PH → Prop} (C : CX_X6_offer G X) (hk0 : k ≤ 0 := by decide) (hn0 : n ≤ 0 := by decide) (hM : CT_X6_isDish G X.2.1 [.inl s0] h PQ) (hS : S.length ≤ 8 := by decide) (kk : ∀ r h', PQ r h' → PW G X 5 Q k n 65 [some (.inr a0), some (.inl a1), some (.inl a2), some (.inl a3), some (.inl s0)] (r.toList ++ S) h') : PW G X 5 Q k n 58 [some (.inr a0), some (.inl a1), some (.inl a2), some (.inl a3), none] (.inl s0 :: S) h := by
  refine pw_istore C dX6_offer_58 (by decide) ?_
  refine pw_iload C dX6_offer_60 rfl ?_
  exact pw_callS C (na := 1) (As := [.inl s0]) (S := S) hM kw375 kw376 kw38 kw377 (by decide +kernel) rfl dX6_offer_62 (by decide) (by decide) hk0 hn0 (by first | exact hS | (simp only [List.length_cons]; omega)) kk
set_option maxRecDepth 20000 in
theorem B_X6_offer_65 {G : Gx} {X : Cx} {h : PH} {k n : Nat} {Q : State → Prop} {S : List PV} {a0 : Nat} {a1 : Int} {a2 : Int} {a3 : Int} {a4 : Int} {s0 : Int} (C : CX_X6_offer G X) (q1 : pR s0 := by first | assumption | (unfold pR; omega)) (kt : ¬ s0 = 0 → PW G X 5 Q k n 71 [some (.inr a0), some (.inl a1), some (.inl a2), some (.inl a3), some (.inl a4)] (S) h) (kf : s0 = 0 → PW G X 5 Q k n 68 [some (.inr a0), some (.inl a1), some (.inl a2), some (.inl a3), some (.inl a4)] (S) h) : PW G X 5 Q k n 65 [some (.inr a0), some (.inl a1), some (.inl a2), some (.inl a3), some (.inl a4)] (.inl s0 :: S) h := by
  exact pw_if_ne C 71 dX6_offer_65 (by decide) q1 kt kf
set_option maxRecDepth 20000 in
theorem B_X6_offer_68 {G : Gx} {X : Cx} {h : PH} {k n : Nat} {a0 : Nat} {a1 : Int} {a2 : Int} {a3 : Int} {a4 : Int} {PQ : Option PV → PH → Prop} (C : CX_X6_offer G X) (hq : PQ (some (.inl (-6))) h) : PW G X 5 (pw_E G X PQ k n) k n 68 [some (.inr a0), some (.inl a1), some (.inl a2), some (.inl a3), some (.inl a4)] [] h := by
  refine pw_bipush C dX6_offer_68 rfl ?_
  exact pw_ireturn C dX6_offer_70 hq
set_option maxRecDepth 20000 in
theorem B_X6_offer_71 {G : Gx} {X : Cx} {h : PH} {k n : Nat} {Q : State → Prop} {S : List PV} {a0 : Nat} {a1 : Int} {a2 : Int} {a3 : Int} {a4 : Int} (C : CX_X6_offer G X) (q1 : pR a2 := by first | assumption | (unfold pR; omega)) (kt : ¬ a2 = 0 → PW G X 5 Q k n 80 [some (.inr a0), some (.inl a1), some (.inl a2), some (.inl a3), some (.inl a4)] (S) h) (kf : a2 = 0 → PW G X 5 Q k n 75 [some (.inr a0), some (.inl a1), some (.inl a2), some (.inl a3), some (.inl a4)] (S) h) : PW G X 5 Q k n 71 [some (.inr a0), some (.inl a1), some (.inl a2), some (.inl a3), some (.inl a4)] (S) h := by
  refine pw_iload_n C dX6_offer_71 rfl ?_
  exact pw_if_ne C 80 dX6_offer_72 (by decide) q1 kt kf
set_option maxRecDepth 20000 in
theorem B_X6_offer_75 {G : Gx} {X : Cx} {h : PH} {k n : Nat} {Q : State → Prop} {S : List PV} {a0 : Nat} {a1 : Int} {a2 : Int} {a3 : Int} {a4 : Int} (C : CX_X6_offer G X) (kk : PW G X 5 Q k n 101 [some (.inr a0), some (.inl a1), some (.inl a2), some (.inl a3), some (.inl a4)] (.inl a4 :: S) h) : PW G X 5 Q k n 75 [some (.inr a0), some (.inl a1), some (.inl a2), some (.inl a3), some (.inl a4)] (S) h := by
  refine pw_iload C dX6_offer_75 rfl ?_
  refine pw_goto C 101 dX6_offer_77 (by decide) ?_
  exact kk
set_option maxRecDepth 20000 in
theorem B_X6_offer_80 {G : Gx} {X : Cx} {h : PH} {k n : Nat} {Q : State → Prop} {S : List PV} {a0 : Nat} {a1 : Int} {a2 : Int} {a3 : Int} {a4 : Int} {r2 : Nat} {r5 : Nat} {r8 : Nat} {m14 : Nat} {m14E : String} {r15 : Nat} {PQ : Option PV → PH → Prop} (C : CX_X6_offer G X) (hk0 : k ≤ 0 := by decide) (hn0 : n ≤ 0 := by decide) (t1 : ph_T h a0 = 6 := by first | assumption | rfl) (e3 : ph_R h a0 3 = r2 := by first | assumption | rfl) (t4 : ph_T h a0 = 6 := by first | assumption | rfl) (e6 : ph_R h a0 0 = r5 := by first | assumption | rfl) (t7 : ph_T h r5 = 5 := by first | assumption | rfl) (e9 : ph_R h r5 0 = r8 := by first | assumption | rfl) (m14a : ¬ m14 < 10 := by decide) (m14b : m14 < 14 := by decide) (t10 : ph_T h r8 = m14 := by first | assumption | rfl) (m14c : (pw_tys G)[m14 - 8]? = some (G.2.2.2.2 m14, .object m14E) := by rfl) (q11 : (0 : Int) ≤ a3 := by first | assumption | omega) (q12 : a3 < (ph_L h r8 : Int) := by first | assumption | omega) (q13 : pR a3 := by first | assumption | (unfold pR; omega)) (e16 : ph_R h r8 (Int.toNat a3) = r15 := by first | assumption | rfl) (t17 : ph_T h r2 = 2 := by first | assumption | rfl) (hM : CT_X2_bestWay G X.2.1 [.inr r2, .inl a4, .inr r15] h PQ) (hS : S.length ≤ 8 := by decide) (kk : ∀ r h', PQ r h' → PW G X 5 Q k n 98 [some (.inr a0), some (.inl a1), some (.inl a2), some (.inl a3), some (.inl a4)] (r.toList ++ S) h') : PW G X 5 Q k n 80 [some (.inr a0), some (.inl a1), some (.inl a2), some (.inl a3), some (.inl a4)] (S) h := by
  refine pw_aload_n C dX6_offer_80 rfl ?_
  refine pw_getR C (t := 6) (f := 3) rfl inF6 rfl (by decide) (by decide) rfl kw313 dX6_offer_81 t1 ?_
  rw [e3]
  refine pw_iload C dX6_offer_84 rfl ?_
  refine pw_aload_n C dX6_offer_86 rfl ?_
  refine pw_getR C (t := 6) (f := 0) rfl inF6 rfl (by decide) (by decide) rfl kw310 dX6_offer_87 t4 ?_
  rw [e6]
  refine pw_getR C (t := 5) (f := 0) rfl inF5 rfl (by decide) (by decide) rfl kw178 dX6_offer_90 t7 ?_
  rw [e9]
  refine pw_iload_n C dX6_offer_93 rfl ?_
  refine pw_aald C (t := m14) dX6_offer_94 t10 m14a m14b m14c q11 q12 q13 ?_
  rw [e16]
  exact pw_callV C (na := 2) (As := [.inl a4, .inr r15]) (S := S) hM t17 (by decide) (hcl := by rfl) kw454 kw455 kw456 kw43 kw457 (by decide +kernel) rfl dX6_offer_95 (by decide) (by decide) hk0 hn0 (by first | exact hS | (simp only [List.length_cons]; omega)) kk
set_option maxRecDepth 20000 in
theorem B_X6_offer_98 {G : Gx} {X : Cx} {h : PH} {k n : Nat} {Q : State → Prop} {S : List PV} {a0 : Nat} {a1 : Int} {a2 : Int} {a3 : Int} {a4 : Int} {s0 : Nat} {x2 : Int} (C : CX_X6_offer G X) (t1 : ph_T h s0 = 4 := by first | assumption | rfl) (e3 : ph_I h s0 10 = x2 := by first | assumption | rfl) (kk : PW G X 5 Q k n 101 [some (.inr a0), some (.inl a1), some (.inl a2), some (.inl a3), some (.inl a4)] (.inl x2 :: S) h) : PW G X 5 Q k n 98 [some (.inr a0), some (.inl a1), some (.inl a2), some (.inl a3), some (.inl a4)] (.inr s0 :: S) h := by
  refine pw_getI C (t := 4) (f := 10) rfl inF4 rfl (by decide) (by decide) rfl kw239 dX6_offer_98 t1 ?_
  rw [e3]
  exact kk
set_option maxRecDepth 20000 in
theorem B_X6_offer_101 {G : Gx} {X : Cx} {h : PH} {k n : Nat} {a0 : Nat} {a1 : Int} {a2 : Int} {a3 : Int} {a4 : Int} {s0 : Int} {PQ : Option PV → PH → Prop} (C : CX_X6_offer G X) (hq : PQ (some (.inl s0)) h) : PW G X 5 (pw_E G X PQ k n) k n 101 [some (.inr a0), some (.inl a1), some (.inl a2), some (.inl a3), some (.inl a4)] [.inl s0] h := by
  exact pw_ireturn C dX6_offer_101 hq
theorem dX6_share_0 : decode cX6_share 0 = .ok (.aload_n 0, 1) := by decide +kernel
theorem dX6_share_1 : decode cX6_share 1 = .ok (.getfield 12, 3) := by decide +kernel
theorem dX6_share_4 : decode cX6_share 4 = .ok (.iload_n 1, 1) := by decide +kernel
theorem dX6_share_5 : decode cX6_share 5 = .ok (.invokevirtual 37, 3) := by decide +kernel
theorem dX6_share_8 : decode cX6_share 8 = .ok (.istore 5, 2) := by decide +kernel
theorem dX6_share_10 : decode cX6_share 10 = .ok (.iload 5, 2) := by decide +kernel
theorem dX6_share_12 : decode cX6_share 12 = .ok (.ifCond .lt 17, 3) := by decide +kernel
theorem dX6_share_15 : decode cX6_share 15 = .ok (.iload_n 2, 1) := by decide +kernel
theorem dX6_share_16 : decode cX6_share 16 = .ok (.invokestatic 76, 3) := by decide +kernel
theorem dX6_share_19 : decode cX6_share 19 = .ok (.ifCond .eq 10, 3) := by decide +kernel
theorem dX6_share_22 : decode cX6_share 22 = .ok (.iload_n 3, 1) := by decide +kernel
theorem dX6_share_23 : decode cX6_share 23 = .ok (.invokestatic 76, 3) := by decide +kernel
theorem dX6_share_26 : decode cX6_share 26 = .ok (.ifCond .ne 5, 3) := by decide +kernel
theorem dX6_share_29 : decode cX6_share 29 = .ok (.iconst (-1), 1) := by decide +kernel
theorem dX6_share_30 : decode cX6_share 30 = .ok (.ireturn, 1) := by decide +kernel
theorem dX6_share_31 : decode cX6_share 31 = .ok (.iload 4, 2) := by decide +kernel
theorem dX6_share_33 : decode cX6_share 33 = .ok (.iconst 0, 1) := by decide +kernel
theorem dX6_share_34 : decode cX6_share 34 = .ok (.iconst 1, 1) := by decide +kernel
theorem dX6_share_35 : decode cX6_share 35 = .ok (.invokestatic 33, 3) := by decide +kernel
theorem dX6_share_38 : decode cX6_share 38 = .ok (.ifCond .eq 8, 3) := by decide +kernel
theorem dX6_share_41 : decode cX6_share 41 = .ok (.iload_n 2, 1) := by decide +kernel
theorem dX6_share_42 : decode cX6_share 42 = .ok (.iload_n 3, 1) := by decide +kernel
theorem dX6_share_43 : decode cX6_share 43 = .ok (.if_icmp .ne 6, 3) := by decide +kernel
theorem dX6_share_46 : decode cX6_share 46 = .ok (.bipush (-2), 2) := by decide +kernel
theorem dX6_share_48 : decode cX6_share 48 = .ok (.ireturn, 1) := by decide +kernel
theorem dX6_share_49 : decode cX6_share 49 = .ok (.aload_n 0, 1) := by decide +kernel
theorem dX6_share_50 : decode cX6_share 50 = .ok (.getfield 12, 3) := by decide +kernel
theorem dX6_share_53 : decode cX6_share 53 = .ok (.getfield 45, 3) := by decide +kernel
theorem dX6_share_56 : decode cX6_share 56 = .ok (.iload 5, 2) := by decide +kernel
theorem dX6_share_58 : decode cX6_share 58 = .ok (.aaload, 1) := by decide +kernel
theorem dX6_share_59 : decode cX6_share 59 = .ok (.invokevirtual 154, 3) := by decide +kernel
theorem dX6_share_62 : decode cX6_share 62 = .ok (.ifCond .ne 6, 3) := by decide +kernel
theorem dX6_share_65 : decode cX6_share 65 = .ok (.bipush (-3), 2) := by decide +kernel
theorem dX6_share_67 : decode cX6_share 67 = .ok (.ireturn, 1) := by decide +kernel
theorem dX6_share_68 : decode cX6_share 68 = .ok (.aload_n 0, 1) := by decide +kernel
theorem dX6_share_69 : decode cX6_share 69 = .ok (.getfield 29, 3) := by decide +kernel
theorem dX6_share_72 : decode cX6_share 72 = .ok (.iload_n 2, 1) := by decide +kernel
theorem dX6_share_73 : decode cX6_share 73 = .ok (.aload_n 0, 1) := by decide +kernel
theorem dX6_share_74 : decode cX6_share 74 = .ok (.getfield 12, 3) := by decide +kernel
theorem dX6_share_77 : decode cX6_share 77 = .ok (.getfield 45, 3) := by decide +kernel
theorem dX6_share_80 : decode cX6_share 80 = .ok (.iload 5, 2) := by decide +kernel
theorem dX6_share_82 : decode cX6_share 82 = .ok (.aaload, 1) := by decide +kernel
theorem dX6_share_83 : decode cX6_share 83 = .ok (.invokevirtual 197, 3) := by decide +kernel
theorem dX6_share_86 : decode cX6_share 86 = .ok (.astore 6, 2) := by decide +kernel
theorem dX6_share_88 : decode cX6_share 88 = .ok (.aload_n 0, 1) := by decide +kernel
theorem dX6_share_89 : decode cX6_share 89 = .ok (.getfield 29, 3) := by decide +kernel
theorem dX6_share_92 : decode cX6_share 92 = .ok (.iload_n 3, 1) := by decide +kernel
theorem dX6_share_93 : decode cX6_share 93 = .ok (.aload_n 0, 1) := by decide +kernel
theorem dX6_share_94 : decode cX6_share 94 = .ok (.getfield 12, 3) := by decide +kernel
theorem dX6_share_97 : decode cX6_share 97 = .ok (.getfield 45, 3) := by decide +kernel
theorem dX6_share_100 : decode cX6_share 100 = .ok (.iload 5, 2) := by decide +kernel
theorem dX6_share_102 : decode cX6_share 102 = .ok (.aaload, 1) := by decide +kernel
theorem dX6_share_103 : decode cX6_share 103 = .ok (.invokevirtual 197, 3) := by decide +kernel
theorem dX6_share_106 : decode cX6_share 106 = .ok (.astore 7, 2) := by decide +kernel
theorem dX6_share_108 : decode cX6_share 108 = .ok (.aload 6, 2) := by decide +kernel
theorem dX6_share_110 : decode cX6_share 110 = .ok (.aload 7, 2) := by decide +kernel
theorem dX6_share_112 : decode cX6_share 112 = .ok (.aload_n 0, 1) := by decide +kernel
theorem dX6_share_113 : decode cX6_share 113 = .ok (.getfield 12, 3) := by decide +kernel
theorem dX6_share_116 : decode cX6_share 116 = .ok (.getfield 45, 3) := by decide +kernel
theorem dX6_share_119 : decode cX6_share 119 = .ok (.iload 5, 2) := by decide +kernel
theorem dX6_share_121 : decode cX6_share 121 = .ok (.aaload, 1) := by decide +kernel
theorem dX6_share_122 : decode cX6_share 122 = .ok (.getfield 66, 3) := by decide +kernel
theorem dX6_share_125 : decode cX6_share 125 = .ok (.invokestatic 200, 3) := by decide +kernel
theorem dX6_share_128 : decode cX6_share 128 = .ok (.istore 8, 2) := by decide +kernel
theorem dX6_share_130 : decode cX6_share 130 = .ok (.iload 4, 2) := by decide +kernel
theorem dX6_share_132 : decode cX6_share 132 = .ok (.ifCond .ne 8, 3) := by decide +kernel
theorem dX6_share_135 : decode cX6_share 135 = .ok (.iload 8, 2) := by decide +kernel
theorem dX6_share_137 : decode cX6_share 137 = .ok (.goto 20, 3) := by decide +kernel
theorem dX6_share_140 : decode cX6_share 140 = .ok (.aload 6, 2) := by decide +kernel
theorem dX6_share_142 : decode cX6_share 142 = .ok (.getfield 204, 3) := by decide +kernel
theorem dX6_share_145 : decode cX6_share 145 = .ok (.iload 8, 2) := by decide +kernel
theorem dX6_share_147 : decode cX6_share 147 = .ok (.iaload, 1) := by decide +kernel
theorem dX6_share_148 : decode cX6_share 148 = .ok (.aload 7, 2) := by decide +kernel
theorem dX6_share_150 : decode cX6_share 150 = .ok (.getfield 207, 3) := by decide +kernel
theorem dX6_share_153 : decode cX6_share 153 = .ok (.iload 8, 2) := by decide +kernel
theorem dX6_share_155 : decode cX6_share 155 = .ok (.iaload, 1) := by decide +kernel
theorem dX6_share_156 : decode cX6_share 156 = .ok (.iadd, 1) := by decide +kernel
theorem dX6_share_157 : decode cX6_share 157 = .ok (.ireturn, 1) := by decide +kernel
set_option maxRecDepth 20000 in
theorem B_X6_share_0 {G : Gx} {X : Cx} {h : PH} {k n : Nat} {Q : State → Prop} {S : List PV} {a0 : Nat} {a1 : Int} {a2 : Int} {a3 : Int} {a4 : Int} {r2 : Nat} {PQ : Option PV → PH → Prop} (C : CX_X6_share G X) (hk0 : k ≤ 0 := by decide) (hn0 : n ≤ 0 := by decide) (t1 : ph_T h a0 = 6 := by first | assumption | rfl) (e3 : ph_R h a0 0 = r2 := by first | assumption | rfl) (t4 : ph_T h r2 = 5 := by first | assumption | rfl) (hM : CT_X5_indexOf G X.2.1 [.inr r2, .inl a1] h PQ) (hS : S.length ≤ 8 := by decide) (kk : ∀ r h', PQ r h' → PW G X 9 Q k n 8 [some (.inr a0), some (.inl a1), some (.inl a2), some (.inl a3), some (.inl a4), none, none, none, none] (r.toList ++ S) h') : PW G X 9 Q k n 0 [some (.inr a0), some (.inl a1), some (.inl a2), some (.inl a3), some (.inl a4), none, none, none, none] (S) h := by
  refine pw_aload_n C dX6_share_0 rfl ?_
  refine pw_getR C (t := 6) (f := 0) rfl inF6 rfl (by decide) (by decide) rfl kw310 dX6_share_1 t1 ?_
  rw [e3]
  refine pw_iload_n C dX6_share_4 rfl ?_
  exact pw_callV C (na := 1) (As := [.inl a1]) (S := S) hM t4 (by decide) (hcl := by rfl) kw330 kw331 kw332 kw39 kw333 (by decide +kernel) rfl dX6_share_5 (by decide) (by decide) hk0 hn0 (by first | exact hS | (simp only [List.length_cons]; omega)) kk
set_option maxRecDepth 20000 in
theorem B_X6_share_8 {G : Gx} {X : Cx} {h : PH} {k n : Nat} {Q : State → Prop} {S : List PV} {a0 : Nat} {a1 : Int} {a2 : Int} {a3 : Int} {a4 : Int} {s0 : Int} (C : CX_X6_share G X) (q1 : pR s0 := by first | assumption | (unfold pR; omega)) (kt : s0 < 0 → PW G X 9 Q k n 29 [some (.inr a0), some (.inl a1), some (.inl a2), some (.inl a3), some (.inl a4), some (.inl s0), none, none, none] (S) h) (kf : ¬ s0 < 0 → PW G X 9 Q k n 15 [some (.inr a0), some (.inl a1), some (.inl a2), some (.inl a3), some (.inl a4), some (.inl s0), none, none, none] (S) h) : PW G X 9 Q k n 8 [some (.inr a0), some (.inl a1), some (.inl a2), some (.inl a3), some (.inl a4), none, none, none, none] (.inl s0 :: S) h := by
  refine pw_istore C dX6_share_8 (by decide) ?_
  refine pw_iload C dX6_share_10 rfl ?_
  exact pw_if_lt C 29 dX6_share_12 (by decide) q1 kt kf
set_option maxRecDepth 20000 in
theorem B_X6_share_15 {G : Gx} {X : Cx} {h : PH} {k n : Nat} {Q : State → Prop} {S : List PV} {a0 : Nat} {a1 : Int} {a2 : Int} {a3 : Int} {a4 : Int} {a5 : Int} {PQ : Option PV → PH → Prop} (C : CX_X6_share G X) (hk0 : k ≤ 0 := by decide) (hn0 : n ≤ 0 := by decide) (hM : CT_X6_isDish G X.2.1 [.inl a2] h PQ) (hS : S.length ≤ 8 := by decide) (kk : ∀ r h', PQ r h' → PW G X 9 Q k n 19 [some (.inr a0), some (.inl a1), some (.inl a2), some (.inl a3), some (.inl a4), some (.inl a5), none, none, none] (r.toList ++ S) h') : PW G X 9 Q k n 15 [some (.inr a0), some (.inl a1), some (.inl a2), some (.inl a3), some (.inl a4), some (.inl a5), none, none, none] (S) h := by
  refine pw_iload_n C dX6_share_15 rfl ?_
  exact pw_callS C (na := 1) (As := [.inl a2]) (S := S) hM kw375 kw376 kw38 kw377 (by decide +kernel) rfl dX6_share_16 (by decide) (by decide) hk0 hn0 (by first | exact hS | (simp only [List.length_cons]; omega)) kk
set_option maxRecDepth 20000 in
theorem B_X6_share_19 {G : Gx} {X : Cx} {h : PH} {k n : Nat} {Q : State → Prop} {S : List PV} {a0 : Nat} {a1 : Int} {a2 : Int} {a3 : Int} {a4 : Int} {a5 : Int} {s0 : Int} (C : CX_X6_share G X) (q1 : pR s0 := by first | assumption | (unfold pR; omega)) (kt : s0 = 0 → PW G X 9 Q k n 29 [some (.inr a0), some (.inl a1), some (.inl a2), some (.inl a3), some (.inl a4), some (.inl a5), none, none, none] (S) h) (kf : ¬ s0 = 0 → PW G X 9 Q k n 22 [some (.inr a0), some (.inl a1), some (.inl a2), some (.inl a3), some (.inl a4), some (.inl a5), none, none, none] (S) h) : PW G X 9 Q k n 19 [some (.inr a0), some (.inl a1), some (.inl a2), some (.inl a3), some (.inl a4), some (.inl a5), none, none, none] (.inl s0 :: S) h := by
  exact pw_if_eq C 29 dX6_share_19 (by decide) q1 kt kf
set_option maxRecDepth 20000 in
theorem B_X6_share_22 {G : Gx} {X : Cx} {h : PH} {k n : Nat} {Q : State → Prop} {S : List PV} {a0 : Nat} {a1 : Int} {a2 : Int} {a3 : Int} {a4 : Int} {a5 : Int} {PQ : Option PV → PH → Prop} (C : CX_X6_share G X) (hk0 : k ≤ 0 := by decide) (hn0 : n ≤ 0 := by decide) (hM : CT_X6_isDish G X.2.1 [.inl a3] h PQ) (hS : S.length ≤ 8 := by decide) (kk : ∀ r h', PQ r h' → PW G X 9 Q k n 26 [some (.inr a0), some (.inl a1), some (.inl a2), some (.inl a3), some (.inl a4), some (.inl a5), none, none, none] (r.toList ++ S) h') : PW G X 9 Q k n 22 [some (.inr a0), some (.inl a1), some (.inl a2), some (.inl a3), some (.inl a4), some (.inl a5), none, none, none] (S) h := by
  refine pw_iload_n C dX6_share_22 rfl ?_
  exact pw_callS C (na := 1) (As := [.inl a3]) (S := S) hM kw375 kw376 kw38 kw377 (by decide +kernel) rfl dX6_share_23 (by decide) (by decide) hk0 hn0 (by first | exact hS | (simp only [List.length_cons]; omega)) kk
set_option maxRecDepth 20000 in
theorem B_X6_share_26 {G : Gx} {X : Cx} {h : PH} {k n : Nat} {Q : State → Prop} {S : List PV} {a0 : Nat} {a1 : Int} {a2 : Int} {a3 : Int} {a4 : Int} {a5 : Int} {s0 : Int} (C : CX_X6_share G X) (q1 : pR s0 := by first | assumption | (unfold pR; omega)) (kt : ¬ s0 = 0 → PW G X 9 Q k n 31 [some (.inr a0), some (.inl a1), some (.inl a2), some (.inl a3), some (.inl a4), some (.inl a5), none, none, none] (S) h) (kf : s0 = 0 → PW G X 9 Q k n 29 [some (.inr a0), some (.inl a1), some (.inl a2), some (.inl a3), some (.inl a4), some (.inl a5), none, none, none] (S) h) : PW G X 9 Q k n 26 [some (.inr a0), some (.inl a1), some (.inl a2), some (.inl a3), some (.inl a4), some (.inl a5), none, none, none] (.inl s0 :: S) h := by
  exact pw_if_ne C 31 dX6_share_26 (by decide) q1 kt kf
set_option maxRecDepth 20000 in
theorem B_X6_share_29 {G : Gx} {X : Cx} {h : PH} {k n : Nat} {a0 : Nat} {a1 : Int} {a2 : Int} {a3 : Int} {a4 : Int} {a5 : Int} {PQ : Option PV → PH → Prop} (C : CX_X6_share G X) (hq : PQ (some (.inl (-1))) h) : PW G X 9 (pw_E G X PQ k n) k n 29 [some (.inr a0), some (.inl a1), some (.inl a2), some (.inl a3), some (.inl a4), some (.inl a5), none, none, none] [] h := by
  refine pw_iconst C dX6_share_29 ?_
  exact pw_ireturn C dX6_share_30 hq
set_option maxRecDepth 20000 in
theorem B_X6_share_31 {G : Gx} {X : Cx} {h : PH} {k n : Nat} {Q : State → Prop} {S : List PV} {a0 : Nat} {a1 : Int} {a2 : Int} {a3 : Int} {a4 : Int} {a5 : Int} {PQ : Option PV → PH → Prop} (C : CX_X6_share G X) (hk0 : k ≤ 0 := by decide) (hn0 : n ≤ 0 := by decide) (hM : CT_X6_isIn G X.2.1 [.inl a4, .inl 0, .inl 1] h PQ) (hS : S.length ≤ 8 := by decide) (kk : ∀ r h', PQ r h' → PW G X 9 Q k n 38 [some (.inr a0), some (.inl a1), some (.inl a2), some (.inl a3), some (.inl a4), some (.inl a5), none, none, none] (r.toList ++ S) h') : PW G X 9 Q k n 31 [some (.inr a0), some (.inl a1), some (.inl a2), some (.inl a3), some (.inl a4), some (.inl a5), none, none, none] (S) h := by
  refine pw_iload C dX6_share_31 rfl ?_
  refine pw_iconst C dX6_share_33 ?_
  refine pw_iconst C dX6_share_34 ?_
  exact pw_callS C (na := 3) (As := [.inl a4, .inl 0, .inl 1]) (S := S) hM kw327 kw328 kw38 kw329 (by decide +kernel) rfl dX6_share_35 (by decide) (by decide) hk0 hn0 (by first | exact hS | (simp only [List.length_cons]; omega)) kk
set_option maxRecDepth 20000 in
theorem B_X6_share_38 {G : Gx} {X : Cx} {h : PH} {k n : Nat} {Q : State → Prop} {S : List PV} {a0 : Nat} {a1 : Int} {a2 : Int} {a3 : Int} {a4 : Int} {a5 : Int} {s0 : Int} (C : CX_X6_share G X) (q1 : pR s0 := by first | assumption | (unfold pR; omega)) (kt : s0 = 0 → PW G X 9 Q k n 46 [some (.inr a0), some (.inl a1), some (.inl a2), some (.inl a3), some (.inl a4), some (.inl a5), none, none, none] (S) h) (kf : ¬ s0 = 0 → PW G X 9 Q k n 41 [some (.inr a0), some (.inl a1), some (.inl a2), some (.inl a3), some (.inl a4), some (.inl a5), none, none, none] (S) h) : PW G X 9 Q k n 38 [some (.inr a0), some (.inl a1), some (.inl a2), some (.inl a3), some (.inl a4), some (.inl a5), none, none, none] (.inl s0 :: S) h := by
  exact pw_if_eq C 46 dX6_share_38 (by decide) q1 kt kf
set_option maxRecDepth 20000 in
theorem B_X6_share_41 {G : Gx} {X : Cx} {h : PH} {k n : Nat} {Q : State → Prop} {S : List PV} {a0 : Nat} {a1 : Int} {a2 : Int} {a3 : Int} {a4 : Int} {a5 : Int} (C : CX_X6_share G X) (q1 : pR a2 := by first | assumption | (unfold pR; omega)) (q2 : pR a3 := by first | assumption | (unfold pR; omega)) (kt : ¬ a2 = a3 → PW G X 9 Q k n 49 [some (.inr a0), some (.inl a1), some (.inl a2), some (.inl a3), some (.inl a4), some (.inl a5), none, none, none] (S) h) (kf : a2 = a3 → PW G X 9 Q k n 46 [some (.inr a0), some (.inl a1), some (.inl a2), some (.inl a3), some (.inl a4), some (.inl a5), none, none, none] (S) h) : PW G X 9 Q k n 41 [some (.inr a0), some (.inl a1), some (.inl a2), some (.inl a3), some (.inl a4), some (.inl a5), none, none, none] (S) h := by
  refine pw_iload_n C dX6_share_41 rfl ?_
  refine pw_iload_n C dX6_share_42 rfl ?_
  exact pw_icmp_ne C 49 dX6_share_43 (by decide) q1 q2 kt kf
set_option maxRecDepth 20000 in
theorem B_X6_share_46 {G : Gx} {X : Cx} {h : PH} {k n : Nat} {a0 : Nat} {a1 : Int} {a2 : Int} {a3 : Int} {a4 : Int} {a5 : Int} {PQ : Option PV → PH → Prop} (C : CX_X6_share G X) (hq : PQ (some (.inl (-2))) h) : PW G X 9 (pw_E G X PQ k n) k n 46 [some (.inr a0), some (.inl a1), some (.inl a2), some (.inl a3), some (.inl a4), some (.inl a5), none, none, none] [] h := by
  refine pw_bipush C dX6_share_46 rfl ?_
  exact pw_ireturn C dX6_share_48 hq
set_option maxRecDepth 20000 in
theorem B_X6_share_49 {G : Gx} {X : Cx} {h : PH} {k n : Nat} {Q : State → Prop} {S : List PV} {a0 : Nat} {a1 : Int} {a2 : Int} {a3 : Int} {a4 : Int} {a5 : Int} {r2 : Nat} {r5 : Nat} {m11 : Nat} {m11E : String} {r12 : Nat} {PQ : Option PV → PH → Prop} (C : CX_X6_share G X) (hk0 : k ≤ 0 := by decide) (hn0 : n ≤ 0 := by decide) (t1 : ph_T h a0 = 6 := by first | assumption | rfl) (e3 : ph_R h a0 0 = r2 := by first | assumption | rfl) (t4 : ph_T h r2 = 5 := by first | assumption | rfl) (e6 : ph_R h r2 0 = r5 := by first | assumption | rfl) (m11a : ¬ m11 < 10 := by decide) (m11b : m11 < 14 := by decide) (t7 : ph_T h r5 = m11 := by first | assumption | rfl) (m11c : (pw_tys G)[m11 - 8]? = some (G.2.2.2.2 m11, .object m11E) := by rfl) (q8 : (0 : Int) ≤ a5 := by first | assumption | omega) (q9 : a5 < (ph_L h r5 : Int) := by first | assumption | omega) (q10 : pR a5 := by first | assumption | (unfold pR; omega)) (e13 : ph_R h r5 (Int.toNat a5) = r12 := by first | assumption | rfl) (t14 : ph_T h r12 = 0 := by first | assumption | rfl) (hM : CT_X0_isOpen G X.2.1 [.inr r12] h PQ) (hS : S.length ≤ 8 := by decide) (kk : ∀ r h', PQ r h' → PW G X 9 Q k n 62 [some (.inr a0), some (.inl a1), some (.inl a2), some (.inl a3), some (.inl a4), some (.inl a5), none, none, none] (r.toList ++ S) h') : PW G X 9 Q k n 49 [some (.inr a0), some (.inl a1), some (.inl a2), some (.inl a3), some (.inl a4), some (.inl a5), none, none, none] (S) h := by
  refine pw_aload_n C dX6_share_49 rfl ?_
  refine pw_getR C (t := 6) (f := 0) rfl inF6 rfl (by decide) (by decide) rfl kw310 dX6_share_50 t1 ?_
  rw [e3]
  refine pw_getR C (t := 5) (f := 0) rfl inF5 rfl (by decide) (by decide) rfl kw178 dX6_share_53 t4 ?_
  rw [e6]
  refine pw_iload C dX6_share_56 rfl ?_
  refine pw_aald C (t := m11) dX6_share_58 t7 m11a m11b m11c q8 q9 q10 ?_
  rw [e13]
  exact pw_callV C (na := 0) (As := []) (S := S) hM t14 (by decide) (hcl := by rfl) kw449 kw450 kw451 kw41 kw452 (by decide +kernel) rfl dX6_share_59 (by decide) (by decide) hk0 hn0 (by first | exact hS | (simp only [List.length_cons]; omega)) kk
set_option maxRecDepth 20000 in
theorem B_X6_share_62 {G : Gx} {X : Cx} {h : PH} {k n : Nat} {Q : State → Prop} {S : List PV} {a0 : Nat} {a1 : Int} {a2 : Int} {a3 : Int} {a4 : Int} {a5 : Int} {s0 : Int} (C : CX_X6_share G X) (q1 : pR s0 := by first | assumption | (unfold pR; omega)) (kt : ¬ s0 = 0 → PW G X 9 Q k n 68 [some (.inr a0), some (.inl a1), some (.inl a2), some (.inl a3), some (.inl a4), some (.inl a5), none, none, none] (S) h) (kf : s0 = 0 → PW G X 9 Q k n 65 [some (.inr a0), some (.inl a1), some (.inl a2), some (.inl a3), some (.inl a4), some (.inl a5), none, none, none] (S) h) : PW G X 9 Q k n 62 [some (.inr a0), some (.inl a1), some (.inl a2), some (.inl a3), some (.inl a4), some (.inl a5), none, none, none] (.inl s0 :: S) h := by
  exact pw_if_ne C 68 dX6_share_62 (by decide) q1 kt kf
set_option maxRecDepth 20000 in
theorem B_X6_share_65 {G : Gx} {X : Cx} {h : PH} {k n : Nat} {a0 : Nat} {a1 : Int} {a2 : Int} {a3 : Int} {a4 : Int} {a5 : Int} {PQ : Option PV → PH → Prop} (C : CX_X6_share G X) (hq : PQ (some (.inl (-3))) h) : PW G X 9 (pw_E G X PQ k n) k n 65 [some (.inr a0), some (.inl a1), some (.inl a2), some (.inl a3), some (.inl a4), some (.inl a5), none, none, none] [] h := by
  refine pw_bipush C dX6_share_65 rfl ?_
  exact pw_ireturn C dX6_share_67 hq
set_option maxRecDepth 20000 in
theorem B_X6_share_68 {G : Gx} {X : Cx} {h : PH} {k n : Nat} {Q : State → Prop} {S : List PV} {a0 : Nat} {a1 : Int} {a2 : Int} {a3 : Int} {a4 : Int} {a5 : Int} {r2 : Nat} {r5 : Nat} {r8 : Nat} {m14 : Nat} {m14E : String} {r15 : Nat} {PQ : Option PV → PH → Prop} (C : CX_X6_share G X) (hk0 : k ≤ 0 := by decide) (hn0 : n ≤ 0 := by decide) (t1 : ph_T h a0 = 6 := by first | assumption | rfl) (e3 : ph_R h a0 3 = r2 := by first | assumption | rfl) (t4 : ph_T h a0 = 6 := by first | assumption | rfl) (e6 : ph_R h a0 0 = r5 := by first | assumption | rfl) (t7 : ph_T h r5 = 5 := by first | assumption | rfl) (e9 : ph_R h r5 0 = r8 := by first | assumption | rfl) (m14a : ¬ m14 < 10 := by decide) (m14b : m14 < 14 := by decide) (t10 : ph_T h r8 = m14 := by first | assumption | rfl) (m14c : (pw_tys G)[m14 - 8]? = some (G.2.2.2.2 m14, .object m14E) := by rfl) (q11 : (0 : Int) ≤ a5 := by first | assumption | omega) (q12 : a5 < (ph_L h r8 : Int) := by first | assumption | omega) (q13 : pR a5 := by first | assumption | (unfold pR; omega)) (e16 : ph_R h r8 (Int.toNat a5) = r15 := by first | assumption | rfl) (t17 : ph_T h r2 = 2 := by first | assumption | rfl) (hM : CT_X2_sharedWay G X.2.1 [.inr r2, .inl a2, .inr r15] h PQ) (hS : S.length ≤ 8 := by decide) (kk : ∀ r h', PQ r h' → PW G X 9 Q k n 86 [some (.inr a0), some (.inl a1), some (.inl a2), some (.inl a3), some (.inl a4), some (.inl a5), none, none, none] (r.toList ++ S) h') : PW G X 9 Q k n 68 [some (.inr a0), some (.inl a1), some (.inl a2), some (.inl a3), some (.inl a4), some (.inl a5), none, none, none] (S) h := by
  refine pw_aload_n C dX6_share_68 rfl ?_
  refine pw_getR C (t := 6) (f := 3) rfl inF6 rfl (by decide) (by decide) rfl kw313 dX6_share_69 t1 ?_
  rw [e3]
  refine pw_iload_n C dX6_share_72 rfl ?_
  refine pw_aload_n C dX6_share_73 rfl ?_
  refine pw_getR C (t := 6) (f := 0) rfl inF6 rfl (by decide) (by decide) rfl kw310 dX6_share_74 t4 ?_
  rw [e6]
  refine pw_getR C (t := 5) (f := 0) rfl inF5 rfl (by decide) (by decide) rfl kw178 dX6_share_77 t7 ?_
  rw [e9]
  refine pw_iload C dX6_share_80 rfl ?_
  refine pw_aald C (t := m14) dX6_share_82 t10 m14a m14b m14c q11 q12 q13 ?_
  rw [e16]
  exact pw_callV C (na := 2) (As := [.inl a2, .inr r15]) (S := S) hM t17 (by decide) (hcl := by rfl) kw579 kw580 kw581 kw43 kw582 (by decide +kernel) rfl dX6_share_83 (by decide) (by decide) hk0 hn0 (by first | exact hS | (simp only [List.length_cons]; omega)) kk
set_option maxRecDepth 20000 in
theorem B_X6_share_86 {G : Gx} {X : Cx} {h : PH} {k n : Nat} {Q : State → Prop} {S : List PV} {a0 : Nat} {a1 : Int} {a2 : Int} {a3 : Int} {a4 : Int} {a5 : Int} {s0 : Nat} {r3 : Nat} {r6 : Nat} {r9 : Nat} {m15 : Nat} {m15E : String} {r16 : Nat} {PQ : Option PV → PH → Prop} (C : CX_X6_share G X) (hk0 : k ≤ 0 := by decide) (hn0 : n ≤ 0 := by decide) (q1 : 2 ≤ s0 := by first | assumption | omega) (t2 : ph_T h a0 = 6 := by first | assumption | rfl) (e4 : ph_R h a0 3 = r3 := by first | assumption | rfl) (t5 : ph_T h a0 = 6 := by first | assumption | rfl) (e7 : ph_R h a0 0 = r6 := by first | assumption | rfl) (t8 : ph_T h r6 = 5 := by first | assumption | rfl) (e10 : ph_R h r6 0 = r9 := by first | assumption | rfl) (m15a : ¬ m15 < 10 := by decide) (m15b : m15 < 14 := by decide) (t11 : ph_T h r9 = m15 := by first | assumption | rfl) (m15c : (pw_tys G)[m15 - 8]? = some (G.2.2.2.2 m15, .object m15E) := by rfl) (q12 : (0 : Int) ≤ a5 := by first | assumption | omega) (q13 : a5 < (ph_L h r9 : Int) := by first | assumption | omega) (q14 : pR a5 := by first | assumption | (unfold pR; omega)) (e17 : ph_R h r9 (Int.toNat a5) = r16 := by first | assumption | rfl) (t18 : ph_T h r3 = 2 := by first | assumption | rfl) (hM : CT_X2_sharedWay G X.2.1 [.inr r3, .inl a3, .inr r16] h PQ) (hS : S.length ≤ 8 := by decide) (kk : ∀ r h', PQ r h' → PW G X 9 Q k n 106 [some (.inr a0), some (.inl a1), some (.inl a2), some (.inl a3), some (.inl a4), some (.inl a5), some (.inr s0), none, none] (r.toList ++ S) h') : PW G X 9 Q k n 86 [some (.inr a0), some (.inl a1), some (.inl a2), some (.inl a3), some (.inl a4), some (.inl a5), none, none, none] (.inr s0 :: S) h := by
  refine pw_astore C dX6_share_86 (by decide) q1 ?_
  refine pw_aload_n C dX6_share_88 rfl ?_
  refine pw_getR C (t := 6) (f := 3) rfl inF6 rfl (by decide) (by decide) rfl kw313 dX6_share_89 t2 ?_
  rw [e4]
  refine pw_iload_n C dX6_share_92 rfl ?_
  refine pw_aload_n C dX6_share_93 rfl ?_
  refine pw_getR C (t := 6) (f := 0) rfl inF6 rfl (by decide) (by decide) rfl kw310 dX6_share_94 t5 ?_
  rw [e7]
  refine pw_getR C (t := 5) (f := 0) rfl inF5 rfl (by decide) (by decide) rfl kw178 dX6_share_97 t8 ?_
  rw [e10]
  refine pw_iload C dX6_share_100 rfl ?_
  refine pw_aald C (t := m15) dX6_share_102 t11 m15a m15b m15c q12 q13 q14 ?_
  rw [e17]
  exact pw_callV C (na := 2) (As := [.inl a3, .inr r16]) (S := S) hM t18 (by decide) (hcl := by rfl) kw579 kw580 kw581 kw43 kw582 (by decide +kernel) rfl dX6_share_103 (by decide) (by decide) hk0 hn0 (by first | exact hS | (simp only [List.length_cons]; omega)) kk
set_option maxRecDepth 20000 in
theorem B_X6_share_106 {G : Gx} {X : Cx} {h : PH} {k n : Nat} {Q : State → Prop} {S : List PV} {a0 : Nat} {a1 : Int} {a2 : Int} {a3 : Int} {a4 : Int} {a5 : Int} {a6 : Nat} {s0 : Nat} {r3 : Nat} {r6 : Nat} {m12 : Nat} {m12E : String} {r13 : Nat} {x16 : Int} {PQ : Option PV → PH → Prop} (C : CX_X6_share G X) (hk0 : k ≤ 0 := by decide) (hn0 : n ≤ 0 := by decide) (q1 : 2 ≤ s0 := by first | assumption | omega) (t2 : ph_T h a0 = 6 := by first | assumption | rfl) (e4 : ph_R h a0 0 = r3 := by first | assumption | rfl) (t5 : ph_T h r3 = 5 := by first | assumption | rfl) (e7 : ph_R h r3 0 = r6 := by first | assumption | rfl) (m12a : ¬ m12 < 10 := by decide) (m12b : m12 < 14 := by decide) (t8 : ph_T h r6 = m12 := by first | assumption | rfl) (m12c : (pw_tys G)[m12 - 8]? = some (G.2.2.2.2 m12, .object m12E) := by rfl) (q9 : (0 : Int) ≤ a5 := by first | assumption | omega) (q10 : a5 < (ph_L h r6 : Int) := by first | assumption | omega) (q11 : pR a5 := by first | assumption | (unfold pR; omega)) (e14 : ph_R h r6 (Int.toNat a5) = r13 := by first | assumption | rfl) (t15 : ph_T h r13 = 0 := by first | assumption | rfl) (e17 : ph_I h r13 4 = x16 := by first | assumption | rfl) (hM : CT_X6_bestHandOver G X.2.1 [.inr a6, .inr s0, .inl x16] h PQ) (hS : S.length ≤ 8 := by decide) (kk : ∀ r h', PQ r h' → PW G X 9 Q k n 128 [some (.inr a0), some (.inl a1), some (.inl a2), some (.inl a3), some (.inl a4), some (.inl a5), some (.inr a6), some (.inr s0), none] (r.toList ++ S) h') : PW G X 9 Q k n 106 [some (.inr a0), some (.inl a1), some (.inl a2), some (.inl a3), some (.inl a4), some (.inl a5), some (.inr a6), none, none] (.inr s0 :: S) h := by
  refine pw_astore C dX6_share_106 (by decide) q1 ?_
  refine pw_aload C dX6_share_108 rfl ?_
  refine pw_aload C dX6_share_110 rfl ?_
  refine pw_aload_n C dX6_share_112 rfl ?_
  refine pw_getR C (t := 6) (f := 0) rfl inF6 rfl (by decide) (by decide) rfl kw310 dX6_share_113 t2 ?_
  rw [e4]
  refine pw_getR C (t := 5) (f := 0) rfl inF5 rfl (by decide) (by decide) rfl kw178 dX6_share_116 t5 ?_
  rw [e7]
  refine pw_iload C dX6_share_119 rfl ?_
  refine pw_aald C (t := m12) dX6_share_121 t8 m12a m12b m12c q9 q10 q11 ?_
  rw [e14]
  refine pw_getI C (t := 0) (f := 4) rfl inF0 rfl (by decide) (by decide) rfl kw122 dX6_share_122 t15 ?_
  rw [e17]
  exact pw_callS C (na := 3) (As := [.inr a6, .inr s0, .inl x16]) (S := S) hM kw592 kw593 kw38 kw594 (by decide +kernel) rfl dX6_share_125 (by decide) (by decide) hk0 hn0 (by first | exact hS | (simp only [List.length_cons]; omega)) kk
set_option maxRecDepth 20000 in
theorem B_X6_share_128 {G : Gx} {X : Cx} {h : PH} {k n : Nat} {Q : State → Prop} {S : List PV} {a0 : Nat} {a1 : Int} {a2 : Int} {a3 : Int} {a4 : Int} {a5 : Int} {a6 : Nat} {a7 : Nat} {s0 : Int} (C : CX_X6_share G X) (q1 : pR a4 := by first | assumption | (unfold pR; omega)) (kt : ¬ a4 = 0 → PW G X 9 Q k n 140 [some (.inr a0), some (.inl a1), some (.inl a2), some (.inl a3), some (.inl a4), some (.inl a5), some (.inr a6), some (.inr a7), some (.inl s0)] (S) h) (kf : a4 = 0 → PW G X 9 Q k n 135 [some (.inr a0), some (.inl a1), some (.inl a2), some (.inl a3), some (.inl a4), some (.inl a5), some (.inr a6), some (.inr a7), some (.inl s0)] (S) h) : PW G X 9 Q k n 128 [some (.inr a0), some (.inl a1), some (.inl a2), some (.inl a3), some (.inl a4), some (.inl a5), some (.inr a6), some (.inr a7), none] (.inl s0 :: S) h := by
  refine pw_istore C dX6_share_128 (by decide) ?_
  refine pw_iload C dX6_share_130 rfl ?_
  exact pw_if_ne C 140 dX6_share_132 (by decide) q1 kt kf
set_option maxRecDepth 20000 in
theorem B_X6_share_135 {G : Gx} {X : Cx} {h : PH} {k n : Nat} {Q : State → Prop} {S : List PV} {a0 : Nat} {a1 : Int} {a2 : Int} {a3 : Int} {a4 : Int} {a5 : Int} {a6 : Nat} {a7 : Nat} {a8 : Int} (C : CX_X6_share G X) (kk : PW G X 9 Q k n 157 [some (.inr a0), some (.inl a1), some (.inl a2), some (.inl a3), some (.inl a4), some (.inl a5), some (.inr a6), some (.inr a7), some (.inl a8)] (.inl a8 :: S) h) : PW G X 9 Q k n 135 [some (.inr a0), some (.inl a1), some (.inl a2), some (.inl a3), some (.inl a4), some (.inl a5), some (.inr a6), some (.inr a7), some (.inl a8)] (S) h := by
  refine pw_iload C dX6_share_135 rfl ?_
  refine pw_goto C 157 dX6_share_137 (by decide) ?_
  exact kk
set_option maxRecDepth 20000 in
theorem B_X6_share_140 {G : Gx} {X : Cx} {h : PH} {k n : Nat} {Q : State → Prop} {S : List PV} {a0 : Nat} {a1 : Int} {a2 : Int} {a3 : Int} {a4 : Int} {a5 : Int} {a6 : Nat} {a7 : Nat} {a8 : Int} {r2 : Nat} {x8 : Int} {r11 : Nat} {x17 : Int} (C : CX_X6_share G X) (t1 : ph_T h a6 = 4 := by first | assumption | rfl) (e3 : ph_R h a6 3 = r2 := by first | assumption | rfl) (t4 : ph_T h r2 = 8 := by first | assumption | rfl) (q5 : (0 : Int) ≤ a8 := by first | assumption | omega) (q6 : a8 < (ph_L h r2 : Int) := by first | assumption | omega) (q7 : pR a8 := by first | assumption | (unfold pR; omega)) (e9 : ph_I h r2 (Int.toNat a8) = x8 := by first | assumption | rfl) (t10 : ph_T h a7 = 4 := by first | assumption | rfl) (e12 : ph_R h a7 4 = r11 := by first | assumption | rfl) (t13 : ph_T h r11 = 8 := by first | assumption | rfl) (q14 : (0 : Int) ≤ a8 := by first | assumption | omega) (q15 : a8 < (ph_L h r11 : Int) := by first | assumption | omega) (q16 : pR a8 := by first | assumption | (unfold pR; omega)) (e18 : ph_I h r11 (Int.toNat a8) = x17 := by first | assumption | rfl) (kk : PW G X 9 Q k n 157 [some (.inr a0), some (.inl a1), some (.inl a2), some (.inl a3), some (.inl a4), some (.inl a5), some (.inr a6), some (.inr a7), some (.inl a8)] (.inl (x8 + x17) :: S) h) : PW G X 9 Q k n 140 [some (.inr a0), some (.inl a1), some (.inl a2), some (.inl a3), some (.inl a4), some (.inl a5), some (.inr a6), some (.inr a7), some (.inl a8)] (S) h := by
  refine pw_aload C dX6_share_140 rfl ?_
  refine pw_getR C (t := 4) (f := 3) rfl inF4 rfl (by decide) (by decide) rfl kw223 dX6_share_142 t1 ?_
  rw [e3]
  refine pw_iload C dX6_share_145 rfl ?_
  refine pw_iald C dX6_share_147 t4 q5 q6 q7 ?_
  rw [e9]
  refine pw_aload C dX6_share_148 rfl ?_
  refine pw_getR C (t := 4) (f := 4) rfl inF4 rfl (by decide) (by decide) rfl kw226 dX6_share_150 t10 ?_
  rw [e12]
  refine pw_iload C dX6_share_153 rfl ?_
  refine pw_iald C dX6_share_155 t13 q14 q15 q16 ?_
  rw [e18]
  refine pw_iadd C dX6_share_156 ?_
  exact kk
set_option maxRecDepth 20000 in
theorem B_X6_share_157 {G : Gx} {X : Cx} {h : PH} {k n : Nat} {a0 : Nat} {a1 : Int} {a2 : Int} {a3 : Int} {a4 : Int} {a5 : Int} {a6 : Nat} {a7 : Nat} {a8 : Int} {s0 : Int} {PQ : Option PV → PH → Prop} (C : CX_X6_share G X) (hq : PQ (some (.inl s0)) h) : PW G X 9 (pw_E G X PQ k n) k n 157 [some (.inr a0), some (.inl a1), some (.inl a2), some (.inl a3), some (.inl a4), some (.inl a5), some (.inr a6), some (.inr a7), some (.inl a8)] [.inl s0] h := by
  exact pw_ireturn C dX6_share_157 hq
theorem dX6_take_0 : decode cX6_take 0 = .ok (.aload_n 0, 1) := by decide +kernel
theorem dX6_take_1 : decode cX6_take 1 = .ok (.getfield 12, 3) := by decide +kernel
theorem dX6_take_4 : decode cX6_take 4 = .ok (.iload_n 2, 1) := by decide +kernel
theorem dX6_take_5 : decode cX6_take 5 = .ok (.invokevirtual 37, 3) := by decide +kernel
theorem dX6_take_8 : decode cX6_take 8 = .ok (.istore_n 3, 1) := by decide +kernel
theorem dX6_take_9 : decode cX6_take 9 = .ok (.iload_n 1, 1) := by decide +kernel
theorem dX6_take_10 : decode cX6_take 10 = .ok (.invokestatic 76, 3) := by decide +kernel
theorem dX6_take_13 : decode cX6_take 13 = .ok (.ifCond .eq 7, 3) := by decide +kernel
theorem dX6_take_16 : decode cX6_take 16 = .ok (.iload_n 3, 1) := by decide +kernel
theorem dX6_take_17 : decode cX6_take 17 = .ok (.ifCond .ge 5, 3) := by decide +kernel
theorem dX6_take_20 : decode cX6_take 20 = .ok (.iconst (-1), 1) := by decide +kernel
theorem dX6_take_21 : decode cX6_take 21 = .ok (.ireturn, 1) := by decide +kernel
theorem dX6_take_22 : decode cX6_take 22 = .ok (.aload_n 0, 1) := by decide +kernel
theorem dX6_take_23 : decode cX6_take 23 = .ok (.getfield 12, 3) := by decide +kernel
theorem dX6_take_26 : decode cX6_take 26 = .ok (.getfield 45, 3) := by decide +kernel
theorem dX6_take_29 : decode cX6_take 29 = .ok (.iload_n 3, 1) := by decide +kernel
theorem dX6_take_30 : decode cX6_take 30 = .ok (.aaload, 1) := by decide +kernel
theorem dX6_take_31 : decode cX6_take 31 = .ok (.astore 4, 2) := by decide +kernel
theorem dX6_take_33 : decode cX6_take 33 = .ok (.aload 4, 2) := by decide +kernel
theorem dX6_take_35 : decode cX6_take 35 = .ok (.invokevirtual 154, 3) := by decide +kernel
theorem dX6_take_38 : decode cX6_take 38 = .ok (.ifCond .ne 6, 3) := by decide +kernel
theorem dX6_take_41 : decode cX6_take 41 = .ok (.bipush (-3), 2) := by decide +kernel
theorem dX6_take_43 : decode cX6_take 43 = .ok (.ireturn, 1) := by decide +kernel
theorem dX6_take_44 : decode cX6_take 44 = .ok (.aload_n 0, 1) := by decide +kernel
theorem dX6_take_45 : decode cX6_take 45 = .ok (.getfield 29, 3) := by decide +kernel
theorem dX6_take_48 : decode cX6_take 48 = .ok (.iload_n 1, 1) := by decide +kernel
theorem dX6_take_49 : decode cX6_take 49 = .ok (.aload 4, 2) := by decide +kernel
theorem dX6_take_51 : decode cX6_take 51 = .ok (.invokevirtual 157, 3) := by decide +kernel
theorem dX6_take_54 : decode cX6_take 54 = .ok (.astore 5, 2) := by decide +kernel
theorem dX6_take_56 : decode cX6_take 56 = .ok (.aload 5, 2) := by decide +kernel
theorem dX6_take_58 : decode cX6_take 58 = .ok (.getfield 161, 3) := by decide +kernel
theorem dX6_take_61 : decode cX6_take 61 = .ok (.ifCond .ne 6, 3) := by decide +kernel
theorem dX6_take_64 : decode cX6_take 64 = .ok (.bipush (-5), 2) := by decide +kernel
theorem dX6_take_66 : decode cX6_take 66 = .ok (.ireturn, 1) := by decide +kernel
theorem dX6_take_67 : decode cX6_take 67 = .ok (.aload_n 0, 1) := by decide +kernel
theorem dX6_take_68 : decode cX6_take 68 = .ok (.iload_n 1, 1) := by decide +kernel
theorem dX6_take_69 : decode cX6_take 69 = .ok (.aload 4, 2) := by decide +kernel
theorem dX6_take_71 : decode cX6_take 71 = .ok (.aload 5, 2) := by decide +kernel
theorem dX6_take_73 : decode cX6_take 73 = .ok (.invokevirtual 210, 3) := by decide +kernel
theorem dX6_take_76 : decode cX6_take 76 = .ok (.aload 4, 2) := by decide +kernel
theorem dX6_take_78 : decode cX6_take 78 = .ok (.getfield 139, 3) := by decide +kernel
theorem dX6_take_81 : decode cX6_take 81 = .ok (.ireturn, 1) := by decide +kernel
set_option maxRecDepth 20000 in
theorem B_X6_take_0 {G : Gx} {X : Cx} {h : PH} {k n : Nat} {Q : State → Prop} {S : List PV} {a0 : Nat} {a1 : Int} {a2 : Int} {r2 : Nat} {PQ : Option PV → PH → Prop} (C : CX_X6_take G X) (hk0 : k ≤ 0 := by decide) (hn0 : n ≤ 0 := by decide) (t1 : ph_T h a0 = 6 := by first | assumption | rfl) (e3 : ph_R h a0 0 = r2 := by first | assumption | rfl) (t4 : ph_T h r2 = 5 := by first | assumption | rfl) (hM : CT_X5_indexOf G X.2.1 [.inr r2, .inl a2] h PQ) (hS : S.length ≤ 8 := by decide) (kk : ∀ r h', PQ r h' → PW G X 6 Q k n 8 [some (.inr a0), some (.inl a1), some (.inl a2), none, none, none] (r.toList ++ S) h') : PW G X 6 Q k n 0 [some (.inr a0), some (.inl a1), some (.inl a2), none, none, none] (S) h := by
  refine pw_aload_n C dX6_take_0 rfl ?_
  refine pw_getR C (t := 6) (f := 0) rfl inF6 rfl (by decide) (by decide) rfl kw310 dX6_take_1 t1 ?_
  rw [e3]
  refine pw_iload_n C dX6_take_4 rfl ?_
  exact pw_callV C (na := 1) (As := [.inl a2]) (S := S) hM t4 (by decide) (hcl := by rfl) kw330 kw331 kw332 kw39 kw333 (by decide +kernel) rfl dX6_take_5 (by decide) (by decide) hk0 hn0 (by first | exact hS | (simp only [List.length_cons]; omega)) kk
set_option maxRecDepth 20000 in
theorem B_X6_take_8 {G : Gx} {X : Cx} {h : PH} {k n : Nat} {Q : State → Prop} {S : List PV} {a0 : Nat} {a1 : Int} {a2 : Int} {s0 : Int} {PQ : Option PV → PH → Prop} (C : CX_X6_take G X) (hk0 : k ≤ 0 := by decide) (hn0 : n ≤ 0 := by decide) (hM : CT_X6_isDish G X.2.1 [.inl a1] h PQ) (hS : S.length ≤ 8 := by decide) (kk : ∀ r h', PQ r h' → PW G X 6 Q k n 13 [some (.inr a0), some (.inl a1), some (.inl a2), some (.inl s0), none, none] (r.toList ++ S) h') : PW G X 6 Q k n 8 [some (.inr a0), some (.inl a1), some (.inl a2), none, none, none] (.inl s0 :: S) h := by
  refine pw_istore_n C dX6_take_8 (by decide) ?_
  refine pw_iload_n C dX6_take_9 rfl ?_
  exact pw_callS C (na := 1) (As := [.inl a1]) (S := S) hM kw375 kw376 kw38 kw377 (by decide +kernel) rfl dX6_take_10 (by decide) (by decide) hk0 hn0 (by first | exact hS | (simp only [List.length_cons]; omega)) kk
set_option maxRecDepth 20000 in
theorem B_X6_take_13 {G : Gx} {X : Cx} {h : PH} {k n : Nat} {Q : State → Prop} {S : List PV} {a0 : Nat} {a1 : Int} {a2 : Int} {a3 : Int} {s0 : Int} (C : CX_X6_take G X) (q1 : pR s0 := by first | assumption | (unfold pR; omega)) (kt : s0 = 0 → PW G X 6 Q k n 20 [some (.inr a0), some (.inl a1), some (.inl a2), some (.inl a3), none, none] (S) h) (kf : ¬ s0 = 0 → PW G X 6 Q k n 16 [some (.inr a0), some (.inl a1), some (.inl a2), some (.inl a3), none, none] (S) h) : PW G X 6 Q k n 13 [some (.inr a0), some (.inl a1), some (.inl a2), some (.inl a3), none, none] (.inl s0 :: S) h := by
  exact pw_if_eq C 20 dX6_take_13 (by decide) q1 kt kf
set_option maxRecDepth 20000 in
theorem B_X6_take_16 {G : Gx} {X : Cx} {h : PH} {k n : Nat} {Q : State → Prop} {S : List PV} {a0 : Nat} {a1 : Int} {a2 : Int} {a3 : Int} (C : CX_X6_take G X) (q1 : pR a3 := by first | assumption | (unfold pR; omega)) (kt : 0 ≤ a3 → PW G X 6 Q k n 22 [some (.inr a0), some (.inl a1), some (.inl a2), some (.inl a3), none, none] (S) h) (kf : ¬ 0 ≤ a3 → PW G X 6 Q k n 20 [some (.inr a0), some (.inl a1), some (.inl a2), some (.inl a3), none, none] (S) h) : PW G X 6 Q k n 16 [some (.inr a0), some (.inl a1), some (.inl a2), some (.inl a3), none, none] (S) h := by
  refine pw_iload_n C dX6_take_16 rfl ?_
  exact pw_if_ge C 22 dX6_take_17 (by decide) q1 kt kf
set_option maxRecDepth 20000 in
theorem B_X6_take_20 {G : Gx} {X : Cx} {h : PH} {k n : Nat} {a0 : Nat} {a1 : Int} {a2 : Int} {a3 : Int} {PQ : Option PV → PH → Prop} (C : CX_X6_take G X) (hq : PQ (some (.inl (-1))) h) : PW G X 6 (pw_E G X PQ k n) k n 20 [some (.inr a0), some (.inl a1), some (.inl a2), some (.inl a3), none, none] [] h := by
  refine pw_iconst C dX6_take_20 ?_
  exact pw_ireturn C dX6_take_21 hq
set_option maxRecDepth 20000 in
theorem B_X6_take_22 {G : Gx} {X : Cx} {h : PH} {k n : Nat} {Q : State → Prop} {S : List PV} {a0 : Nat} {a1 : Int} {a2 : Int} {a3 : Int} {r2 : Nat} {r5 : Nat} {m11 : Nat} {m11E : String} {r12 : Nat} {PQ : Option PV → PH → Prop} (C : CX_X6_take G X) (hk0 : k ≤ 0 := by decide) (hn0 : n ≤ 0 := by decide) (t1 : ph_T h a0 = 6 := by first | assumption | rfl) (e3 : ph_R h a0 0 = r2 := by first | assumption | rfl) (t4 : ph_T h r2 = 5 := by first | assumption | rfl) (e6 : ph_R h r2 0 = r5 := by first | assumption | rfl) (m11a : ¬ m11 < 10 := by decide) (m11b : m11 < 14 := by decide) (t7 : ph_T h r5 = m11 := by first | assumption | rfl) (m11c : (pw_tys G)[m11 - 8]? = some (G.2.2.2.2 m11, .object m11E) := by rfl) (q8 : (0 : Int) ≤ a3 := by first | assumption | omega) (q9 : a3 < (ph_L h r5 : Int) := by first | assumption | omega) (q10 : pR a3 := by first | assumption | (unfold pR; omega)) (e13 : ph_R h r5 (Int.toNat a3) = r12 := by first | assumption | rfl) (q14 : 2 ≤ r12 := by first | assumption | omega) (t15 : ph_T h r12 = 0 := by first | assumption | rfl) (hM : CT_X0_isOpen G X.2.1 [.inr r12] h PQ) (hS : S.length ≤ 8 := by decide) (kk : ∀ r h', PQ r h' → PW G X 6 Q k n 38 [some (.inr a0), some (.inl a1), some (.inl a2), some (.inl a3), some (.inr r12), none] (r.toList ++ S) h') : PW G X 6 Q k n 22 [some (.inr a0), some (.inl a1), some (.inl a2), some (.inl a3), none, none] (S) h := by
  refine pw_aload_n C dX6_take_22 rfl ?_
  refine pw_getR C (t := 6) (f := 0) rfl inF6 rfl (by decide) (by decide) rfl kw310 dX6_take_23 t1 ?_
  rw [e3]
  refine pw_getR C (t := 5) (f := 0) rfl inF5 rfl (by decide) (by decide) rfl kw178 dX6_take_26 t4 ?_
  rw [e6]
  refine pw_iload_n C dX6_take_29 rfl ?_
  refine pw_aald C (t := m11) dX6_take_30 t7 m11a m11b m11c q8 q9 q10 ?_
  rw [e13]
  refine pw_astore C dX6_take_31 (by decide) q14 ?_
  refine pw_aload C dX6_take_33 rfl ?_
  exact pw_callV C (na := 0) (As := []) (S := S) hM t15 (by decide) (hcl := by rfl) kw449 kw450 kw451 kw41 kw452 (by decide +kernel) rfl dX6_take_35 (by decide) (by decide) hk0 hn0 (by first | exact hS | (simp only [List.length_cons]; omega)) kk
set_option maxRecDepth 20000 in
theorem B_X6_take_38 {G : Gx} {X : Cx} {h : PH} {k n : Nat} {Q : State → Prop} {S : List PV} {a0 : Nat} {a1 : Int} {a2 : Int} {a3 : Int} {a4 : Nat} {s0 : Int} (C : CX_X6_take G X) (q1 : pR s0 := by first | assumption | (unfold pR; omega)) (kt : ¬ s0 = 0 → PW G X 6 Q k n 44 [some (.inr a0), some (.inl a1), some (.inl a2), some (.inl a3), some (.inr a4), none] (S) h) (kf : s0 = 0 → PW G X 6 Q k n 41 [some (.inr a0), some (.inl a1), some (.inl a2), some (.inl a3), some (.inr a4), none] (S) h) : PW G X 6 Q k n 38 [some (.inr a0), some (.inl a1), some (.inl a2), some (.inl a3), some (.inr a4), none] (.inl s0 :: S) h := by
  exact pw_if_ne C 44 dX6_take_38 (by decide) q1 kt kf
set_option maxRecDepth 20000 in
theorem B_X6_take_41 {G : Gx} {X : Cx} {h : PH} {k n : Nat} {a0 : Nat} {a1 : Int} {a2 : Int} {a3 : Int} {a4 : Nat} {PQ : Option PV → PH → Prop} (C : CX_X6_take G X) (hq : PQ (some (.inl (-3))) h) : PW G X 6 (pw_E G X PQ k n) k n 41 [some (.inr a0), some (.inl a1), some (.inl a2), some (.inl a3), some (.inr a4), none] [] h := by
  refine pw_bipush C dX6_take_41 rfl ?_
  exact pw_ireturn C dX6_take_43 hq
set_option maxRecDepth 20000 in
theorem B_X6_take_44 {G : Gx} {X : Cx} {h : PH} {k n : Nat} {Q : State → Prop} {S : List PV} {a0 : Nat} {a1 : Int} {a2 : Int} {a3 : Int} {a4 : Nat} {r2 : Nat} {PQ : Option PV → PH → Prop} (C : CX_X6_take G X) (hk0 : k ≤ 0 := by decide) (hn0 : n ≤ 0 := by decide) (t1 : ph_T h a0 = 6 := by first | assumption | rfl) (e3 : ph_R h a0 3 = r2 := by first | assumption | rfl) (t4 : ph_T h r2 = 2 := by first | assumption | rfl) (hM : CT_X2_bestWay G X.2.1 [.inr r2, .inl a1, .inr a4] h PQ) (hS : S.length ≤ 8 := by decide) (kk : ∀ r h', PQ r h' → PW G X 6 Q k n 54 [some (.inr a0), some (.inl a1), some (.inl a2), some (.inl a3), some (.inr a4), none] (r.toList ++ S) h') : PW G X 6 Q k n 44 [some (.inr a0), some (.inl a1), some (.inl a2), some (.inl a3), some (.inr a4), none] (S) h := by
  refine pw_aload_n C dX6_take_44 rfl ?_
  refine pw_getR C (t := 6) (f := 3) rfl inF6 rfl (by decide) (by decide) rfl kw313 dX6_take_45 t1 ?_
  rw [e3]
  refine pw_iload_n C dX6_take_48 rfl ?_
  refine pw_aload C dX6_take_49 rfl ?_
  exact pw_callV C (na := 2) (As := [.inl a1, .inr a4]) (S := S) hM t4 (by decide) (hcl := by rfl) kw454 kw455 kw456 kw43 kw457 (by decide +kernel) rfl dX6_take_51 (by decide) (by decide) hk0 hn0 (by first | exact hS | (simp only [List.length_cons]; omega)) kk
set_option maxRecDepth 20000 in
theorem B_X6_take_54 {G : Gx} {X : Cx} {h : PH} {k n : Nat} {Q : State → Prop} {S : List PV} {a0 : Nat} {a1 : Int} {a2 : Int} {a3 : Int} {a4 : Nat} {s0 : Nat} {x3 : Int} (C : CX_X6_take G X) (q1 : 2 ≤ s0 := by first | assumption | omega) (t2 : ph_T h s0 = 4 := by first | assumption | rfl) (e4 : ph_I h s0 6 = x3 := by first | assumption | rfl) (q5 : pR x3 := by first | assumption | (unfold pR; omega)) (kt : ¬ x3 = 0 → PW G X 6 Q k n 67 [some (.inr a0), some (.inl a1), some (.inl a2), some (.inl a3), some (.inr a4), some (.inr s0)] (S) h) (kf : x3 = 0 → PW G X 6 Q k n 64 [some (.inr a0), some (.inl a1), some (.inl a2), some (.inl a3), some (.inr a4), some (.inr s0)] (S) h) : PW G X 6 Q k n 54 [some (.inr a0), some (.inl a1), some (.inl a2), some (.inl a3), some (.inr a4), none] (.inr s0 :: S) h := by
  refine pw_astore C dX6_take_54 (by decide) q1 ?_
  refine pw_aload C dX6_take_56 rfl ?_
  refine pw_getI C (t := 4) (f := 6) rfl inF4 rfl (by decide) (by decide) rfl kw230 dX6_take_58 t2 ?_
  rw [e4]
  exact pw_if_ne C 67 dX6_take_61 (by decide) q5 kt kf
set_option maxRecDepth 20000 in
theorem B_X6_take_64 {G : Gx} {X : Cx} {h : PH} {k n : Nat} {a0 : Nat} {a1 : Int} {a2 : Int} {a3 : Int} {a4 : Nat} {a5 : Nat} {PQ : Option PV → PH → Prop} (C : CX_X6_take G X) (hq : PQ (some (.inl (-5))) h) : PW G X 6 (pw_E G X PQ k n) k n 64 [some (.inr a0), some (.inl a1), some (.inl a2), some (.inl a3), some (.inr a4), some (.inr a5)] [] h := by
  refine pw_bipush C dX6_take_64 rfl ?_
  exact pw_ireturn C dX6_take_66 hq
set_option maxRecDepth 20000 in
theorem B_X6_take_67 {G : Gx} {X : Cx} {h : PH} {k n : Nat} {Q : State → Prop} {S : List PV} {a0 : Nat} {a1 : Int} {a2 : Int} {a3 : Int} {a4 : Nat} {a5 : Nat} {PQ : Option PV → PH → Prop} (C : CX_X6_take G X) (hk0 : k ≤ 0 := by decide) (hn0 : n ≤ 0 := by decide) (t1 : ph_T h a0 = 6 := by first | assumption | rfl) (hM : CT_X6_goAlong G X.2.1 [.inr a0, .inl a1, .inr a4, .inr a5] h PQ) (hS : S.length ≤ 8 := by decide) (kk : ∀ r h', PQ r h' → PW G X 6 Q k n 76 [some (.inr a0), some (.inl a1), some (.inl a2), some (.inl a3), some (.inr a4), some (.inr a5)] (r.toList ++ S) h') : PW G X 6 Q k n 67 [some (.inr a0), some (.inl a1), some (.inl a2), some (.inl a3), some (.inr a4), some (.inr a5)] (S) h := by
  refine pw_aload_n C dX6_take_67 rfl ?_
  refine pw_iload_n C dX6_take_68 rfl ?_
  refine pw_aload C dX6_take_69 rfl ?_
  refine pw_aload C dX6_take_71 rfl ?_
  exact pw_callV C (na := 3) (As := [.inl a1, .inr a4, .inr a5]) (S := S) hM t1 (by decide) (hcl := by rfl) kw599 kw601 kw16 kw38 kw602 (by decide +kernel) rfl dX6_take_73 (by decide) (by decide) hk0 hn0 (by first | exact hS | (simp only [List.length_cons]; omega)) kk
set_option maxRecDepth 20000 in
theorem B_X6_take_76 {G : Gx} {X : Cx} {h : PH} {k n : Nat} {a0 : Nat} {a1 : Int} {a2 : Int} {a3 : Int} {a4 : Nat} {a5 : Nat} {x2 : Int} {PQ : Option PV → PH → Prop} (C : CX_X6_take G X) (t1 : ph_T h a4 = 0 := by first | assumption | rfl) (e3 : ph_I h a4 6 = x2 := by first | assumption | rfl) (hq : PQ (some (.inl x2)) h) : PW G X 6 (pw_E G X PQ k n) k n 76 [some (.inr a0), some (.inl a1), some (.inl a2), some (.inl a3), some (.inr a4), some (.inr a5)] [] h := by
  refine pw_aload C dX6_take_76 rfl ?_
  refine pw_getI C (t := 0) (f := 6) rfl inF0 rfl (by decide) (by decide) rfl kw128 dX6_take_78 t1 ?_
  rw [e3]
  exact pw_ireturn C dX6_take_81 hq
theorem dX6_round_0 : decode cX6_round 0 = .ok (.iconst 0, 1) := by decide +kernel
theorem dX6_round_1 : decode cX6_round 1 = .ok (.istore_n 1, 1) := by decide +kernel
theorem dX6_round_2 : decode cX6_round 2 = .ok (.iconst 0, 1) := by decide +kernel
theorem dX6_round_3 : decode cX6_round 3 = .ok (.istore_n 2, 1) := by decide +kernel
theorem dX6_round_4 : decode cX6_round 4 = .ok (.iconst 0, 1) := by decide +kernel
theorem dX6_round_5 : decode cX6_round 5 = .ok (.istore_n 3, 1) := by decide +kernel
theorem dX6_round_6 : decode cX6_round 6 = .ok (.iload_n 3, 1) := by decide +kernel
theorem dX6_round_7 : decode cX6_round 7 = .ok (.bipush 8, 2) := by decide +kernel
theorem dX6_round_9 : decode cX6_round 9 = .ok (.if_icmp .ge 101, 3) := by decide +kernel
theorem dX6_round_12 : decode cX6_round 12 = .ok (.aload_n 0, 1) := by decide +kernel
theorem dX6_round_13 : decode cX6_round 13 = .ok (.getfield 12, 3) := by decide +kernel
theorem dX6_round_16 : decode cX6_round 16 = .ok (.iload_n 1, 1) := by decide +kernel
theorem dX6_round_17 : decode cX6_round 17 = .ok (.invokevirtual 214, 3) := by decide +kernel
theorem dX6_round_20 : decode cX6_round 20 = .ok (.istore 4, 2) := by decide +kernel
theorem dX6_round_22 : decode cX6_round 22 = .ok (.iload 4, 2) := by decide +kernel
theorem dX6_round_24 : decode cX6_round 24 = .ok (.ifCond .ge 6, 3) := by decide +kernel
theorem dX6_round_27 : decode cX6_round 27 = .ok (.goto 83, 3) := by decide +kernel
theorem dX6_round_30 : decode cX6_round 30 = .ok (.iload_n 1, 1) := by decide +kernel
theorem dX6_round_31 : decode cX6_round 31 = .ok (.iconst 1, 1) := by decide +kernel
theorem dX6_round_32 : decode cX6_round 32 = .ok (.iload 4, 2) := by decide +kernel
theorem dX6_round_34 : decode cX6_round 34 = .ok (.ishl, 1) := by decide +kernel
theorem dX6_round_35 : decode cX6_round 35 = .ok (.ior, 1) := by decide +kernel
theorem dX6_round_36 : decode cX6_round 36 = .ok (.istore_n 1, 1) := by decide +kernel
theorem dX6_round_37 : decode cX6_round 37 = .ok (.aload_n 0, 1) := by decide +kernel
theorem dX6_round_38 : decode cX6_round 38 = .ok (.getfield 12, 3) := by decide +kernel
theorem dX6_round_41 : decode cX6_round 41 = .ok (.getfield 45, 3) := by decide +kernel
theorem dX6_round_44 : decode cX6_round 44 = .ok (.iload 4, 2) := by decide +kernel
theorem dX6_round_46 : decode cX6_round 46 = .ok (.aaload, 1) := by decide +kernel
theorem dX6_round_47 : decode cX6_round 47 = .ok (.astore 5, 2) := by decide +kernel
theorem dX6_round_49 : decode cX6_round 49 = .ok (.aload_n 0, 1) := by decide +kernel
theorem dX6_round_50 : decode cX6_round 50 = .ok (.aload 5, 2) := by decide +kernel
theorem dX6_round_52 : decode cX6_round 52 = .ok (.invokevirtual 193, 3) := by decide +kernel
theorem dX6_round_55 : decode cX6_round 55 = .ok (.istore 6, 2) := by decide +kernel
theorem dX6_round_57 : decode cX6_round 57 = .ok (.iload 6, 2) := by decide +kernel
theorem dX6_round_59 : decode cX6_round 59 = .ok (.invokestatic 76, 3) := by decide +kernel
theorem dX6_round_62 : decode cX6_round 62 = .ok (.ifCond .eq 42, 3) := by decide +kernel
theorem dX6_round_65 : decode cX6_round 65 = .ok (.aload_n 0, 1) := by decide +kernel
theorem dX6_round_66 : decode cX6_round 66 = .ok (.getfield 29, 3) := by decide +kernel
theorem dX6_round_69 : decode cX6_round 69 = .ok (.iload 6, 2) := by decide +kernel
theorem dX6_round_71 : decode cX6_round 71 = .ok (.aload 5, 2) := by decide +kernel
theorem dX6_round_73 : decode cX6_round 73 = .ok (.invokevirtual 157, 3) := by decide +kernel
theorem dX6_round_76 : decode cX6_round 76 = .ok (.getfield 167, 3) := by decide +kernel
theorem dX6_round_79 : decode cX6_round 79 = .ok (.ifCond .le 25, 3) := by decide +kernel
theorem dX6_round_82 : decode cX6_round 82 = .ok (.aload_n 0, 1) := by decide +kernel
theorem dX6_round_83 : decode cX6_round 83 = .ok (.iload 6, 2) := by decide +kernel
theorem dX6_round_85 : decode cX6_round 85 = .ok (.aload 5, 2) := by decide +kernel
theorem dX6_round_87 : decode cX6_round 87 = .ok (.aload_n 0, 1) := by decide +kernel
theorem dX6_round_88 : decode cX6_round 88 = .ok (.getfield 29, 3) := by decide +kernel
theorem dX6_round_91 : decode cX6_round 91 = .ok (.iload 6, 2) := by decide +kernel
theorem dX6_round_93 : decode cX6_round 93 = .ok (.aload 5, 2) := by decide +kernel
theorem dX6_round_95 : decode cX6_round 95 = .ok (.invokevirtual 157, 3) := by decide +kernel
theorem dX6_round_98 : decode cX6_round 98 = .ok (.invokevirtual 210, 3) := by decide +kernel
theorem dX6_round_101 : decode cX6_round 101 = .ok (.iinc 2 1, 3) := by decide +kernel
theorem dX6_round_104 : decode cX6_round 104 = .ok (.iinc 3 1, 3) := by decide +kernel
theorem dX6_round_107 : decode cX6_round 107 = .ok (.goto (-101), 3) := by decide +kernel
theorem dX6_round_110 : decode cX6_round 110 = .ok (.iload_n 2, 1) := by decide +kernel
theorem dX6_round_111 : decode cX6_round 111 = .ok (.ireturn, 1) := by decide +kernel
set_option maxRecDepth 20000 in
theorem B_X6_round_0 {G : Gx} {X : Cx} {h : PH} {k n : Nat} {Q : State → Prop} {S : List PV} {a0 : Nat} (C : CX_X6_round G X) (kk : PW G X 7 Q k n 6 [some (.inr a0), some (.inl 0), some (.inl 0), some (.inl 0), none, none, none] (S) h) : PW G X 7 Q k n 0 [some (.inr a0), none, none, none, none, none, none] (S) h := by
  refine pw_iconst C dX6_round_0 ?_
  refine pw_istore_n C dX6_round_1 (by decide) ?_
  refine pw_iconst C dX6_round_2 ?_
  refine pw_istore_n C dX6_round_3 (by decide) ?_
  refine pw_iconst C dX6_round_4 ?_
  refine pw_istore_n C dX6_round_5 (by decide) ?_
  exact kk
set_option maxRecDepth 20000 in
theorem B_X6_round_6 {G : Gx} {X : Cx} {h : PH} {k n : Nat} {Q : State → Prop} {S : List PV} {a0 : Nat} {a1 : Int} {a2 : Int} {a3 : Int} (C : CX_X6_round G X) (q1 : pR a3 := by first | assumption | (unfold pR; omega)) (q2 : pR 8 := by first | assumption | (unfold pR; omega)) (kt : 8 ≤ a3 → PW G X 7 Q k n 110 [some (.inr a0), some (.inl a1), some (.inl a2), some (.inl a3), none, none, none] (S) h) (kf : ¬ 8 ≤ a3 → PW G X 7 Q k n 12 [some (.inr a0), some (.inl a1), some (.inl a2), some (.inl a3), none, none, none] (S) h) : PW G X 7 Q k n 6 [some (.inr a0), some (.inl a1), some (.inl a2), some (.inl a3), none, none, none] (S) h := by
  refine pw_iload_n C dX6_round_6 rfl ?_
  refine pw_bipush C dX6_round_7 rfl ?_
  exact pw_icmp_ge C 110 dX6_round_9 (by decide) q1 q2 kt kf
set_option maxRecDepth 20000 in
theorem B_X6_round_12 {G : Gx} {X : Cx} {h : PH} {k n : Nat} {Q : State → Prop} {S : List PV} {a0 : Nat} {a1 : Int} {a2 : Int} {a3 : Int} {r2 : Nat} {PQ : Option PV → PH → Prop} (C : CX_X6_round G X) (hk0 : k ≤ 0 := by decide) (hn0 : n ≤ 0 := by decide) (t1 : ph_T h a0 = 6 := by first | assumption | rfl) (e3 : ph_R h a0 0 = r2 := by first | assumption | rfl) (t4 : ph_T h r2 = 5 := by first | assumption | rfl) (hM : CT_X5_nextOpen G X.2.1 [.inr r2, .inl a1] h PQ) (hS : S.length ≤ 8 := by decide) (kk : ∀ r h', PQ r h' → PW G X 7 Q k n 20 [some (.inr a0), some (.inl a1), some (.inl a2), some (.inl a3), none, none, none] (r.toList ++ S) h') : PW G X 7 Q k n 12 [some (.inr a0), some (.inl a1), some (.inl a2), some (.inl a3), none, none, none] (S) h := by
  refine pw_aload_n C dX6_round_12 rfl ?_
  refine pw_getR C (t := 6) (f := 0) rfl inF6 rfl (by decide) (by decide) rfl kw310 dX6_round_13 t1 ?_
  rw [e3]
  refine pw_iload_n C dX6_round_16 rfl ?_
  exact pw_callV C (na := 1) (As := [.inl a1]) (S := S) hM t4 (by decide) (hcl := by rfl) kw607 kw608 kw609 kw39 kw610 (by decide +kernel) rfl dX6_round_17 (by decide) (by decide) hk0 hn0 (by first | exact hS | (simp only [List.length_cons]; omega)) kk
set_option maxRecDepth 20000 in
theorem B_X6_round_20 {G : Gx} {X : Cx} {h : PH} {k n : Nat} {Q : State → Prop} {S : List PV} {a0 : Nat} {a1 : Int} {a2 : Int} {a3 : Int} {s0 : Int} (C : CX_X6_round G X) (q1 : pR s0 := by first | assumption | (unfold pR; omega)) (kt : 0 ≤ s0 → PW G X 7 Q k n 30 [some (.inr a0), some (.inl a1), some (.inl a2), some (.inl a3), some (.inl s0), none, none] (S) h) (kf : ¬ 0 ≤ s0 → PW G X 7 Q k n 27 [some (.inr a0), some (.inl a1), some (.inl a2), some (.inl a3), some (.inl s0), none, none] (S) h) : PW G X 7 Q k n 20 [some (.inr a0), some (.inl a1), some (.inl a2), some (.inl a3), none, none, none] (.inl s0 :: S) h := by
  refine pw_istore C dX6_round_20 (by decide) ?_
  refine pw_iload C dX6_round_22 rfl ?_
  exact pw_if_ge C 30 dX6_round_24 (by decide) q1 kt kf
set_option maxRecDepth 20000 in
theorem B_X6_round_27 {G : Gx} {X : Cx} {h : PH} {k n : Nat} {Q : State → Prop} {S : List PV} {a0 : Nat} {a1 : Int} {a2 : Int} {a3 : Int} {a4 : Int} (C : CX_X6_round G X) (kk : PW G X 7 Q k n 110 [some (.inr a0), some (.inl a1), some (.inl a2), some (.inl a3), none, none, none] (S) h) : PW G X 7 Q k n 27 [some (.inr a0), some (.inl a1), some (.inl a2), some (.inl a3), some (.inl a4), none, none] (S) h := by
  refine pw_goto C 110 dX6_round_27 (by decide) ?_
  exact pw_weak [true, true, true, true, false, true, true] kk
set_option maxRecDepth 20000 in
theorem B_X6_round_30 {G : Gx} {X : Cx} {h : PH} {k n : Nat} {Q : State → Prop} {S : List PV} {a0 : Nat} {a1 : Int} {a2 : Int} {a3 : Int} {a4 : Int} {r2 : Nat} {r5 : Nat} {m11 : Nat} {m11E : String} {r12 : Nat} {PQ : Option PV → PH → Prop} (C : CX_X6_round G X) (hk0 : k ≤ 0 := by decide) (hn0 : n ≤ 0 := by decide) (t1 : ph_T h a0 = 6 := by first | assumption | rfl) (e3 : ph_R h a0 0 = r2 := by first | assumption | rfl) (t4 : ph_T h r2 = 5 := by first | assumption | rfl) (e6 : ph_R h r2 0 = r5 := by first | assumption | rfl) (m11a : ¬ m11 < 10 := by decide) (m11b : m11 < 14 := by decide) (t7 : ph_T h r5 = m11 := by first | assumption | rfl) (m11c : (pw_tys G)[m11 - 8]? = some (G.2.2.2.2 m11, .object m11E) := by rfl) (q8 : (0 : Int) ≤ a4 := by first | assumption | omega) (q9 : a4 < (ph_L h r5 : Int) := by first | assumption | omega) (q10 : pR a4 := by first | assumption | (unfold pR; omega)) (e13 : ph_R h r5 (Int.toNat a4) = r12 := by first | assumption | rfl) (q14 : 2 ≤ r12 := by first | assumption | omega) (t15 : ph_T h a0 = 6 := by first | assumption | rfl) (hM : CT_X6_bestDish G X.2.1 [.inr a0, .inr r12] h PQ) (hS : S.length ≤ 8 := by decide) (kk : ∀ r h', PQ r h' → PW G X 7 Q k n 55 [some (.inr a0), some (.inl ((zI a1 ||| zI ((zI 1 <<< (zI a4 &&& 31)).toInt)).toInt)), some (.inl a2), some (.inl a3), some (.inl a4), some (.inr r12), none] (r.toList ++ S) h') : PW G X 7 Q k n 30 [some (.inr a0), some (.inl a1), some (.inl a2), some (.inl a3), some (.inl a4), none, none] (S) h := by
  refine pw_iload_n C dX6_round_30 rfl ?_
  refine pw_iconst C dX6_round_31 ?_
  refine pw_iload C dX6_round_32 rfl ?_
  refine pw_ishl C dX6_round_34 ?_
  refine pw_ior C dX6_round_35 ?_
  refine pw_istore_n C dX6_round_36 (by decide) ?_
  refine pw_aload_n C dX6_round_37 rfl ?_
  refine pw_getR C (t := 6) (f := 0) rfl inF6 rfl (by decide) (by decide) rfl kw310 dX6_round_38 t1 ?_
  rw [e3]
  refine pw_getR C (t := 5) (f := 0) rfl inF5 rfl (by decide) (by decide) rfl kw178 dX6_round_41 t4 ?_
  rw [e6]
  refine pw_iload C dX6_round_44 rfl ?_
  refine pw_aald C (t := m11) dX6_round_46 t7 m11a m11b m11c q8 q9 q10 ?_
  rw [e13]
  refine pw_astore C dX6_round_47 (by decide) q14 ?_
  refine pw_aload_n C dX6_round_49 rfl ?_
  refine pw_aload C dX6_round_50 rfl ?_
  exact pw_callV C (na := 1) (As := [.inr r12]) (S := S) hM t15 (by decide) (hcl := by rfl) kw567 kw569 kw13 kw38 kw570 (by decide +kernel) rfl dX6_round_52 (by decide) (by decide) hk0 hn0 (by first | exact hS | (simp only [List.length_cons]; omega)) kk
set_option maxRecDepth 20000 in
theorem B_X6_round_55 {G : Gx} {X : Cx} {h : PH} {k n : Nat} {Q : State → Prop} {S : List PV} {a0 : Nat} {a1 : Int} {a2 : Int} {a3 : Int} {a4 : Int} {a5 : Nat} {s0 : Int} {PQ : Option PV → PH → Prop} (C : CX_X6_round G X) (hk0 : k ≤ 0 := by decide) (hn0 : n ≤ 0 := by decide) (hM : CT_X6_isDish G X.2.1 [.inl s0] h PQ) (hS : S.length ≤ 8 := by decide) (kk : ∀ r h', PQ r h' → PW G X 7 Q k n 62 [some (.inr a0), some (.inl a1), some (.inl a2), some (.inl a3), some (.inl a4), some (.inr a5), some (.inl s0)] (r.toList ++ S) h') : PW G X 7 Q k n 55 [some (.inr a0), some (.inl a1), some (.inl a2), some (.inl a3), some (.inl a4), some (.inr a5), none] (.inl s0 :: S) h := by
  refine pw_istore C dX6_round_55 (by decide) ?_
  refine pw_iload C dX6_round_57 rfl ?_
  exact pw_callS C (na := 1) (As := [.inl s0]) (S := S) hM kw375 kw376 kw38 kw377 (by decide +kernel) rfl dX6_round_59 (by decide) (by decide) hk0 hn0 (by first | exact hS | (simp only [List.length_cons]; omega)) kk
set_option maxRecDepth 20000 in
theorem B_X6_round_62 {G : Gx} {X : Cx} {h : PH} {k n : Nat} {Q : State → Prop} {S : List PV} {a0 : Nat} {a1 : Int} {a2 : Int} {a3 : Int} {a4 : Int} {a5 : Nat} {a6 : Int} {s0 : Int} (C : CX_X6_round G X) (q1 : pR s0 := by first | assumption | (unfold pR; omega)) (kt : s0 = 0 → PW G X 7 Q k n 104 [some (.inr a0), some (.inl a1), some (.inl a2), some (.inl a3), some (.inl a4), some (.inr a5), some (.inl a6)] (S) h) (kf : ¬ s0 = 0 → PW G X 7 Q k n 65 [some (.inr a0), some (.inl a1), some (.inl a2), some (.inl a3), some (.inl a4), some (.inr a5), some (.inl a6)] (S) h) : PW G X 7 Q k n 62 [some (.inr a0), some (.inl a1), some (.inl a2), some (.inl a3), some (.inl a4), some (.inr a5), some (.inl a6)] (.inl s0 :: S) h := by
  exact pw_if_eq C 104 dX6_round_62 (by decide) q1 kt kf
set_option maxRecDepth 20000 in
theorem B_X6_round_65 {G : Gx} {X : Cx} {h : PH} {k n : Nat} {Q : State → Prop} {S : List PV} {a0 : Nat} {a1 : Int} {a2 : Int} {a3 : Int} {a4 : Int} {a5 : Nat} {a6 : Int} {r2 : Nat} {PQ : Option PV → PH → Prop} (C : CX_X6_round G X) (hk0 : k ≤ 0 := by decide) (hn0 : n ≤ 0 := by decide) (t1 : ph_T h a0 = 6 := by first | assumption | rfl) (e3 : ph_R h a0 3 = r2 := by first | assumption | rfl) (t4 : ph_T h r2 = 2 := by first | assumption | rfl) (hM : CT_X2_bestWay G X.2.1 [.inr r2, .inl a6, .inr a5] h PQ) (hS : S.length ≤ 8 := by decide) (kk : ∀ r h', PQ r h' → PW G X 7 Q k n 76 [some (.inr a0), some (.inl a1), some (.inl a2), some (.inl a3), some (.inl a4), some (.inr a5), some (.inl a6)] (r.toList ++ S) h') : PW G X 7 Q k n 65 [some (.inr a0), some (.inl a1), some (.inl a2), some (.inl a3), some (.inl a4), some (.inr a5), some (.inl a6)] (S) h := by
  refine pw_aload_n C dX6_round_65 rfl ?_
  refine pw_getR C (t := 6) (f := 3) rfl inF6 rfl (by decide) (by decide) rfl kw313 dX6_round_66 t1 ?_
  rw [e3]
  refine pw_iload C dX6_round_69 rfl ?_
  refine pw_aload C dX6_round_71 rfl ?_
  exact pw_callV C (na := 2) (As := [.inl a6, .inr a5]) (S := S) hM t4 (by decide) (hcl := by rfl) kw454 kw455 kw456 kw43 kw457 (by decide +kernel) rfl dX6_round_73 (by decide) (by decide) hk0 hn0 (by first | exact hS | (simp only [List.length_cons]; omega)) kk
set_option maxRecDepth 20000 in
theorem B_X6_round_76 {G : Gx} {X : Cx} {h : PH} {k n : Nat} {Q : State → Prop} {S : List PV} {a0 : Nat} {a1 : Int} {a2 : Int} {a3 : Int} {a4 : Int} {a5 : Nat} {a6 : Int} {s0 : Nat} {x2 : Int} (C : CX_X6_round G X) (t1 : ph_T h s0 = 4 := by first | assumption | rfl) (e3 : ph_I h s0 10 = x2 := by first | assumption | rfl) (q4 : pR x2 := by first | assumption | (unfold pR; omega)) (kt : x2 ≤ 0 → PW G X 7 Q k n 104 [some (.inr a0), some (.inl a1), some (.inl a2), some (.inl a3), some (.inl a4), some (.inr a5), some (.inl a6)] (S) h) (kf : ¬ x2 ≤ 0 → PW G X 7 Q k n 82 [some (.inr a0), some (.inl a1), some (.inl a2), some (.inl a3), some (.inl a4), some (.inr a5), some (.inl a6)] (S) h) : PW G X 7 Q k n 76 [some (.inr a0), some (.inl a1), some (.inl a2), some (.inl a3), some (.inl a4), some (.inr a5), some (.inl a6)] (.inr s0 :: S) h := by
  refine pw_getI C (t := 4) (f := 10) rfl inF4 rfl (by decide) (by decide) rfl kw239 dX6_round_76 t1 ?_
  rw [e3]
  exact pw_if_le C 104 dX6_round_79 (by decide) q4 kt kf
set_option maxRecDepth 20000 in
theorem B_X6_round_82 {G : Gx} {X : Cx} {h : PH} {k n : Nat} {Q : State → Prop} {S : List PV} {a0 : Nat} {a1 : Int} {a2 : Int} {a3 : Int} {a4 : Int} {a5 : Nat} {a6 : Int} {r2 : Nat} {PQ : Option PV → PH → Prop} (C : CX_X6_round G X) (hk0 : k ≤ 0 := by decide) (hn0 : n ≤ 0 := by decide) (t1 : ph_T h a0 = 6 := by first | assumption | rfl) (e3 : ph_R h a0 3 = r2 := by first | assumption | rfl) (t4 : ph_T h r2 = 2 := by first | assumption | rfl) (hM : CT_X2_bestWay G X.2.1 [.inr r2, .inl a6, .inr a5] h PQ) (hS : S.length ≤ 5 := by decide) (kk : ∀ r h', PQ r h' → PW G X 7 Q k n 98 [some (.inr a0), some (.inl a1), some (.inl a2), some (.inl a3), some (.inl a4), some (.inr a5), some (.inl a6)] (r.toList ++ (.inr a5 :: .inl a6 :: .inr a0 :: S)) h') : PW G X 7 Q k n 82 [some (.inr a0), some (.inl a1), some (.inl a2), some (.inl a3), some (.inl a4), some (.inr a5), some (.inl a6)] (S) h := by
  refine pw_aload_n C dX6_round_82 rfl ?_
  refine pw_iload C dX6_round_83 rfl ?_
  refine pw_aload C dX6_round_85 rfl ?_
  refine pw_aload_n C dX6_round_87 rfl ?_
  refine pw_getR C (t := 6) (f := 3) rfl inF6 rfl (by decide) (by decide) rfl kw313 dX6_round_88 t1 ?_
  rw [e3]
  refine pw_iload C dX6_round_91 rfl ?_
  refine pw_aload C dX6_round_93 rfl ?_
  exact pw_callV C (na := 2) (As := [.inl a6, .inr a5]) (S := .inr a5 :: .inl a6 :: .inr a0 :: S) hM t4 (by decide) (hcl := by rfl) kw454 kw455 kw456 kw43 kw457 (by decide +kernel) rfl dX6_round_95 (by decide) (by decide) hk0 hn0 (by first | exact hS | (simp only [List.length_cons]; omega)) kk
set_option maxRecDepth 20000 in
theorem B_X6_round_98 {G : Gx} {X : Cx} {h : PH} {k n : Nat} {Q : State → Prop} {S : List PV} {a0 : Nat} {a1 : Int} {a2 : Int} {a3 : Int} {a4 : Int} {a5 : Nat} {a6 : Int} {s0 : Nat} {s1 : Nat} {s2 : Int} {s3 : Nat} {PQ : Option PV → PH → Prop} (C : CX_X6_round G X) (hk0 : k ≤ 0 := by decide) (hn0 : n ≤ 0 := by decide) (t1 : ph_T h s3 = 6 := by first | assumption | rfl) (hM : CT_X6_goAlong G X.2.1 [.inr s3, .inl s2, .inr s1, .inr s0] h PQ) (hS : S.length ≤ 8 := by decide) (kk : ∀ r h', PQ r h' → PW G X 7 Q k n 101 [some (.inr a0), some (.inl a1), some (.inl a2), some (.inl a3), some (.inl a4), some (.inr a5), some (.inl a6)] (r.toList ++ S) h') : PW G X 7 Q k n 98 [some (.inr a0), some (.inl a1), some (.inl a2), some (.inl a3), some (.inl a4), some (.inr a5), some (.inl a6)] (.inr s0 :: .inr s1 :: .inl s2 :: .inr s3 :: S) h := by
  exact pw_callV C (na := 3) (As := [.inl s2, .inr s1, .inr s0]) (S := S) hM t1 (by decide) (hcl := by rfl) kw599 kw601 kw16 kw38 kw602 (by decide +kernel) rfl dX6_round_98 (by decide) (by decide) hk0 hn0 (by first | exact hS | (simp only [List.length_cons]; omega)) kk
set_option maxRecDepth 20000 in
theorem B_X6_round_101 {G : Gx} {X : Cx} {h : PH} {k n : Nat} {Q : State → Prop} {S : List PV} {a0 : Nat} {a1 : Int} {a2 : Int} {a3 : Int} {a4 : Int} {a5 : Nat} {a6 : Int} (C : CX_X6_round G X) (kk : PW G X 7 Q k n 104 [some (.inr a0), some (.inl a1), some (.inl (a2 + 1)), some (.inl a3), some (.inl a4), some (.inr a5), some (.inl a6)] (S) h) : PW G X 7 Q k n 101 [some (.inr a0), some (.inl a1), some (.inl a2), some (.inl a3), some (.inl a4), some (.inr a5), some (.inl a6)] (S) h := by
  refine pw_iinc C dX6_round_101 rfl (by decide) ?_
  exact kk
set_option maxRecDepth 20000 in
theorem B_X6_round_104 {G : Gx} {X : Cx} {h : PH} {k n : Nat} {Q : State → Prop} {S : List PV} {a0 : Nat} {a1 : Int} {a2 : Int} {a3 : Int} {a4 : Int} {a5 : Nat} {a6 : Int} (C : CX_X6_round G X) (kk : PW G X 7 Q k n 6 [some (.inr a0), some (.inl a1), some (.inl a2), some (.inl (a3 + 1)), none, none, none] (S) h) : PW G X 7 Q k n 104 [some (.inr a0), some (.inl a1), some (.inl a2), some (.inl a3), some (.inl a4), some (.inr a5), some (.inl a6)] (S) h := by
  refine pw_iinc C dX6_round_104 rfl (by decide) ?_
  refine pw_goto C 6 dX6_round_107 (by decide) ?_
  exact pw_weak [true, true, true, true, false, false, false] kk
set_option maxRecDepth 20000 in
theorem B_X6_round_110 {G : Gx} {X : Cx} {h : PH} {k n : Nat} {a0 : Nat} {a1 : Int} {a2 : Int} {a3 : Int} {PQ : Option PV → PH → Prop} (C : CX_X6_round G X) (hq : PQ (some (.inl a2)) h) : PW G X 7 (pw_E G X PQ k n) k n 110 [some (.inr a0), some (.inl a1), some (.inl a2), some (.inl a3), none, none, none] [] h := by
  refine pw_iload_n C dX6_round_110 rfl ?_
  exact pw_ireturn C dX6_round_111 hq
theorem dX6_looked_0 : decode cX6_looked 0 = .ok (.iload_n 1, 1) := by decide +kernel
theorem dX6_looked_1 : decode cX6_looked 1 = .ok (.iload_n 2, 1) := by decide +kernel
theorem dX6_looked_2 : decode cX6_looked 2 = .ok (.invokestatic 58, 3) := by decide +kernel
theorem dX6_looked_5 : decode cX6_looked 5 = .ok (.ifCond .ne 6, 3) := by decide +kernel
theorem dX6_looked_8 : decode cX6_looked 8 = .ok (.bipush (-2), 2) := by decide +kernel
theorem dX6_looked_10 : decode cX6_looked 10 = .ok (.ireturn, 1) := by decide +kernel
theorem dX6_looked_11 : decode cX6_looked 11 = .ok (.aload_n 0, 1) := by decide +kernel
theorem dX6_looked_12 : decode cX6_looked 12 = .ok (.getfield 12, 3) := by decide +kernel
theorem dX6_looked_15 : decode cX6_looked 15 = .ok (.getfield 217, 3) := by decide +kernel
theorem dX6_looked_18 : decode cX6_looked 18 = .ok (.iload_n 1, 1) := by decide +kernel
theorem dX6_looked_19 : decode cX6_looked 19 = .ok (.bipush 7, 2) := by decide +kernel
theorem dX6_looked_21 : decode cX6_looked 21 = .ok (.imul, 1) := by decide +kernel
theorem dX6_looked_22 : decode cX6_looked 22 = .ok (.iload_n 2, 1) := by decide +kernel
theorem dX6_looked_23 : decode cX6_looked 23 = .ok (.iadd, 1) := by decide +kernel
theorem dX6_looked_24 : decode cX6_looked 24 = .ok (.iaload, 1) := by decide +kernel
theorem dX6_looked_25 : decode cX6_looked 25 = .ok (.ireturn, 1) := by decide +kernel
set_option maxRecDepth 20000 in
theorem B_X6_looked_0 {G : Gx} {X : Cx} {h : PH} {k n : Nat} {Q : State → Prop} {S : List PV} {a0 : Nat} {a1 : Int} {a2 : Int} {PQ : Option PV → PH → Prop} (C : CX_X6_looked G X) (hk0 : k ≤ 0 := by decide) (hn0 : n ≤ 0 := by decide) (hM : CT_X6_isDirection G X.2.1 [.inl a1, .inl a2] h PQ) (hS : S.length ≤ 8 := by decide) (kk : ∀ r h', PQ r h' → PW G X 3 Q k n 5 [some (.inr a0), some (.inl a1), some (.inl a2)] (r.toList ++ S) h') : PW G X 3 Q k n 0 [some (.inr a0), some (.inl a1), some (.inl a2)] (S) h := by
  refine pw_iload_n C dX6_looked_0 rfl ?_
  refine pw_iload_n C dX6_looked_1 rfl ?_
  exact pw_callS C (na := 2) (As := [.inl a1, .inl a2]) (S := S) hM kw346 kw347 kw38 kw348 (by decide +kernel) rfl dX6_looked_2 (by decide) (by decide) hk0 hn0 (by first | exact hS | (simp only [List.length_cons]; omega)) kk
set_option maxRecDepth 20000 in
theorem B_X6_looked_5 {G : Gx} {X : Cx} {h : PH} {k n : Nat} {Q : State → Prop} {S : List PV} {a0 : Nat} {a1 : Int} {a2 : Int} {s0 : Int} (C : CX_X6_looked G X) (q1 : pR s0 := by first | assumption | (unfold pR; omega)) (kt : ¬ s0 = 0 → PW G X 3 Q k n 11 [some (.inr a0), some (.inl a1), some (.inl a2)] (S) h) (kf : s0 = 0 → PW G X 3 Q k n 8 [some (.inr a0), some (.inl a1), some (.inl a2)] (S) h) : PW G X 3 Q k n 5 [some (.inr a0), some (.inl a1), some (.inl a2)] (.inl s0 :: S) h := by
  exact pw_if_ne C 11 dX6_looked_5 (by decide) q1 kt kf
set_option maxRecDepth 20000 in
theorem B_X6_looked_8 {G : Gx} {X : Cx} {h : PH} {k n : Nat} {a0 : Nat} {a1 : Int} {a2 : Int} {PQ : Option PV → PH → Prop} (C : CX_X6_looked G X) (hq : PQ (some (.inl (-2))) h) : PW G X 3 (pw_E G X PQ k n) k n 8 [some (.inr a0), some (.inl a1), some (.inl a2)] [] h := by
  refine pw_bipush C dX6_looked_8 rfl ?_
  exact pw_ireturn C dX6_looked_10 hq
set_option maxRecDepth 20000 in
theorem B_X6_looked_11 {G : Gx} {X : Cx} {h : PH} {k n : Nat} {a0 : Nat} {a1 : Int} {a2 : Int} {r2 : Nat} {r5 : Nat} {x11 : Int} {PQ : Option PV → PH → Prop} (C : CX_X6_looked G X) (t1 : ph_T h a0 = 6 := by first | assumption | rfl) (e3 : ph_R h a0 0 = r2 := by first | assumption | rfl) (t4 : ph_T h r2 = 5 := by first | assumption | rfl) (e6 : ph_R h r2 3 = r5 := by first | assumption | rfl) (t7 : ph_T h r5 = 8 := by first | assumption | rfl) (q8 : (0 : Int) ≤ (a1 * 7) + a2 := by first | assumption | omega) (q9 : (a1 * 7) + a2 < (ph_L h r5 : Int) := by first | assumption | omega) (q10 : pR ((a1 * 7) + a2) := by first | assumption | (unfold pR; omega)) (e12 : ph_I h r5 (Int.toNat ((a1 * 7) + a2)) = x11 := by first | assumption | rfl) (hq : PQ (some (.inl x11)) h) : PW G X 3 (pw_E G X PQ k n) k n 11 [some (.inr a0), some (.inl a1), some (.inl a2)] [] h := by
  refine pw_aload_n C dX6_looked_11 rfl ?_
  refine pw_getR C (t := 6) (f := 0) rfl inF6 rfl (by decide) (by decide) rfl kw310 dX6_looked_12 t1 ?_
  rw [e3]
  refine pw_getR C (t := 5) (f := 3) rfl inF5 rfl (by decide) (by decide) rfl kw186 dX6_looked_15 t4 ?_
  rw [e6]
  refine pw_iload_n C dX6_looked_18 rfl ?_
  refine pw_bipush C dX6_looked_19 rfl ?_
  refine pw_imul C dX6_looked_21 ?_
  refine pw_iload_n C dX6_looked_22 rfl ?_
  refine pw_iadd C dX6_looked_23 ?_
  refine pw_iald C dX6_looked_24 t7 q8 q9 q10 ?_
  rw [e12]
  exact pw_ireturn C dX6_looked_25 hq
theorem dX6_count_0 : decode cX6_count 0 = .ok (.aload_n 0, 1) := by decide +kernel
theorem dX6_count_1 : decode cX6_count 1 = .ok (.getfield 12, 3) := by decide +kernel
theorem dX6_count_4 : decode cX6_count 4 = .ok (.getfield 111, 3) := by decide +kernel
theorem dX6_count_7 : decode cX6_count 7 = .ok (.astore_n 2, 1) := by decide +kernel
theorem dX6_count_8 : decode cX6_count 8 = .ok (.iload_n 1, 1) := by decide +kernel
theorem dX6_count_9 : decode cX6_count 9 = .ok (.tableswitch 189 0 11 #[63, 71, 79, 87, 95, 103, 108, 113, 118, 125, 142, 159], 63) := by decide +kernel
theorem dX6_count_72 : decode cX6_count 72 = .ok (.aload_n 0, 1) := by decide +kernel
theorem dX6_count_73 : decode cX6_count 73 = .ok (.getfield 12, 3) := by decide +kernel
theorem dX6_count_76 : decode cX6_count 76 = .ok (.getfield 41, 3) := by decide +kernel
theorem dX6_count_79 : decode cX6_count 79 = .ok (.ireturn, 1) := by decide +kernel
theorem dX6_count_80 : decode cX6_count 80 = .ok (.aload_n 0, 1) := by decide +kernel
theorem dX6_count_81 : decode cX6_count 81 = .ok (.getfield 12, 3) := by decide +kernel
theorem dX6_count_84 : decode cX6_count 84 = .ok (.invokevirtual 220, 3) := by decide +kernel
theorem dX6_count_87 : decode cX6_count 87 = .ok (.ireturn, 1) := by decide +kernel
theorem dX6_count_88 : decode cX6_count 88 = .ok (.aload_n 0, 1) := by decide +kernel
theorem dX6_count_89 : decode cX6_count 89 = .ok (.getfield 12, 3) := by decide +kernel
theorem dX6_count_92 : decode cX6_count 92 = .ok (.invokevirtual 224, 3) := by decide +kernel
theorem dX6_count_95 : decode cX6_count 95 = .ok (.ireturn, 1) := by decide +kernel
theorem dX6_count_96 : decode cX6_count 96 = .ok (.aload_n 0, 1) := by decide +kernel
theorem dX6_count_97 : decode cX6_count 97 = .ok (.getfield 12, 3) := by decide +kernel
theorem dX6_count_100 : decode cX6_count 100 = .ok (.invokevirtual 227, 3) := by decide +kernel
theorem dX6_count_103 : decode cX6_count 103 = .ok (.ireturn, 1) := by decide +kernel
theorem dX6_count_104 : decode cX6_count 104 = .ok (.aload_n 0, 1) := by decide +kernel
theorem dX6_count_105 : decode cX6_count 105 = .ok (.getfield 12, 3) := by decide +kernel
theorem dX6_count_108 : decode cX6_count 108 = .ok (.invokevirtual 230, 3) := by decide +kernel
theorem dX6_count_111 : decode cX6_count 111 = .ok (.ireturn, 1) := by decide +kernel
theorem dX6_count_112 : decode cX6_count 112 = .ok (.aload_n 2, 1) := by decide +kernel
theorem dX6_count_113 : decode cX6_count 113 = .ok (.getfield 127, 3) := by decide +kernel
theorem dX6_count_116 : decode cX6_count 116 = .ok (.ireturn, 1) := by decide +kernel
theorem dX6_count_117 : decode cX6_count 117 = .ok (.aload_n 2, 1) := by decide +kernel
theorem dX6_count_118 : decode cX6_count 118 = .ok (.getfield 233, 3) := by decide +kernel
theorem dX6_count_121 : decode cX6_count 121 = .ok (.ireturn, 1) := by decide +kernel
theorem dX6_count_122 : decode cX6_count 122 = .ok (.aload_n 2, 1) := by decide +kernel
theorem dX6_count_123 : decode cX6_count 123 = .ok (.getfield 236, 3) := by decide +kernel
theorem dX6_count_126 : decode cX6_count 126 = .ok (.ireturn, 1) := by decide +kernel
theorem dX6_count_127 : decode cX6_count 127 = .ok (.aload_n 2, 1) := by decide +kernel
theorem dX6_count_128 : decode cX6_count 128 = .ok (.getfield 239, 3) := by decide +kernel
theorem dX6_count_131 : decode cX6_count 131 = .ok (.iconst 1, 1) := by decide +kernel
theorem dX6_count_132 : decode cX6_count 132 = .ok (.iadd, 1) := by decide +kernel
theorem dX6_count_133 : decode cX6_count 133 = .ok (.ireturn, 1) := by decide +kernel
theorem dX6_count_134 : decode cX6_count 134 = .ok (.aload_n 2, 1) := by decide +kernel
theorem dX6_count_135 : decode cX6_count 135 = .ok (.invokevirtual 242, 3) := by decide +kernel
theorem dX6_count_138 : decode cX6_count 138 = .ok (.ifCond .eq 10, 3) := by decide +kernel
theorem dX6_count_141 : decode cX6_count 141 = .ok (.aload_n 2, 1) := by decide +kernel
theorem dX6_count_142 : decode cX6_count 142 = .ok (.getfield 121, 3) := by decide +kernel
theorem dX6_count_145 : decode cX6_count 145 = .ok (.goto 5, 3) := by decide +kernel
theorem dX6_count_148 : decode cX6_count 148 = .ok (.bipush (-6), 2) := by decide +kernel
theorem dX6_count_150 : decode cX6_count 150 = .ok (.ireturn, 1) := by decide +kernel
theorem dX6_count_151 : decode cX6_count 151 = .ok (.aload_n 2, 1) := by decide +kernel
theorem dX6_count_152 : decode cX6_count 152 = .ok (.invokevirtual 242, 3) := by decide +kernel
theorem dX6_count_155 : decode cX6_count 155 = .ok (.ifCond .eq 10, 3) := by decide +kernel
theorem dX6_count_158 : decode cX6_count 158 = .ok (.aload_n 2, 1) := by decide +kernel
theorem dX6_count_159 : decode cX6_count 159 = .ok (.getfield 124, 3) := by decide +kernel
theorem dX6_count_162 : decode cX6_count 162 = .ok (.goto 5, 3) := by decide +kernel
theorem dX6_count_165 : decode cX6_count 165 = .ok (.bipush (-6), 2) := by decide +kernel
theorem dX6_count_167 : decode cX6_count 167 = .ok (.ireturn, 1) := by decide +kernel
theorem dX6_count_168 : decode cX6_count 168 = .ok (.aload_n 0, 1) := by decide +kernel
theorem dX6_count_169 : decode cX6_count 169 = .ok (.getfield 20, 3) := by decide +kernel
theorem dX6_count_172 : decode cX6_count 172 = .ok (.iconst 0, 1) := by decide +kernel
theorem dX6_count_173 : decode cX6_count 173 = .ok (.baload, 1) := by decide +kernel
theorem dX6_count_174 : decode cX6_count 174 = .ok (.ifCond .eq 7, 3) := by decide +kernel
theorem dX6_count_177 : decode cX6_count 177 = .ok (.iconst 1, 1) := by decide +kernel
theorem dX6_count_178 : decode cX6_count 178 = .ok (.goto 4, 3) := by decide +kernel
theorem dX6_count_181 : decode cX6_count 181 = .ok (.iconst 0, 1) := by decide +kernel
theorem dX6_count_182 : decode cX6_count 182 = .ok (.aload_n 0, 1) := by decide +kernel
theorem dX6_count_183 : decode cX6_count 183 = .ok (.getfield 20, 3) := by decide +kernel
theorem dX6_count_186 : decode cX6_count 186 = .ok (.iconst 1, 1) := by decide +kernel
theorem dX6_count_187 : decode cX6_count 187 = .ok (.baload, 1) := by decide +kernel
theorem dX6_count_188 : decode cX6_count 188 = .ok (.ifCond .eq 7, 3) := by decide +kernel
theorem dX6_count_191 : decode cX6_count 191 = .ok (.iconst 2, 1) := by decide +kernel
theorem dX6_count_192 : decode cX6_count 192 = .ok (.goto 4, 3) := by decide +kernel
theorem dX6_count_195 : decode cX6_count 195 = .ok (.iconst 0, 1) := by decide +kernel
theorem dX6_count_196 : decode cX6_count 196 = .ok (.iadd, 1) := by decide +kernel
theorem dX6_count_197 : decode cX6_count 197 = .ok (.ireturn, 1) := by decide +kernel
theorem dX6_count_198 : decode cX6_count 198 = .ok (.bipush (-2), 2) := by decide +kernel
theorem dX6_count_200 : decode cX6_count 200 = .ok (.ireturn, 1) := by decide +kernel
set_option maxRecDepth 20000 in
theorem B_X6_count_0 {G : Gx} {X : Cx} {h : PH} {k n : Nat} {Q : State → Prop} {S : List PV} {a0 : Nat} {a1 : Int} {r2 : Nat} {r5 : Nat} (C : CX_X6_count G X) (t1 : ph_T h a0 = 6 := by first | assumption | rfl) (e3 : ph_R h a0 0 = r2 := by first | assumption | rfl) (t4 : ph_T h r2 = 5 := by first | assumption | rfl) (e6 : ph_R h r2 2 = r5 := by first | assumption | rfl) (q7 : 2 ≤ r5 := by first | assumption | omega) (kk : PW G X 3 Q k n 9 [some (.inr a0), some (.inl a1), some (.inr r5)] (.inl a1 :: S) h) : PW G X 3 Q k n 0 [some (.inr a0), some (.inl a1), none] (S) h := by
  refine pw_aload_n C dX6_count_0 rfl ?_
  refine pw_getR C (t := 6) (f := 0) rfl inF6 rfl (by decide) (by decide) rfl kw310 dX6_count_1 t1 ?_
  rw [e3]
  refine pw_getR C (t := 5) (f := 2) rfl inF5 rfl (by decide) (by decide) rfl kw183 dX6_count_4 t4 ?_
  rw [e6]
  refine pw_astore_n C dX6_count_7 (by decide) q7 ?_
  refine pw_iload_n C dX6_count_8 rfl ?_
  exact kk
set_option maxRecDepth 20000 in
theorem B_X6_count_9 {G : Gx} {X : Cx} {h : PH} {k n : Nat} {Q : State → Prop} {S : List PV} {a0 : Nat} {a1 : Int} {a2 : Nat} {s0 : Int} (C : CX_X6_count G X) (q1 : pR s0 := by first | assumption | (unfold pR; omega)) (k0 : s0 = 0 → PW G X 3 Q k n 72 [some (.inr a0), some (.inl a1), some (.inr a2)] (S) h) (k1 : s0 = 1 → PW G X 3 Q k n 80 [some (.inr a0), some (.inl a1), some (.inr a2)] (S) h) (k2 : s0 = 2 → PW G X 3 Q k n 88 [some (.inr a0), some (.inl a1), some (.inr a2)] (S) h) (k3 : s0 = 3 → PW G X 3 Q k n 96 [some (.inr a0), some (.inl a1), some (.inr a2)] (S) h) (k4 : s0 = 4 → PW G X 3 Q k n 104 [some (.inr a0), some (.inl a1), some (.inr a2)] (S) h) (k5 : s0 = 5 → PW G X 3 Q k n 112 [some (.inr a0), some (.inl a1), some (.inr a2)] (S) h) (k6 : s0 = 6 → PW G X 3 Q k n 117 [some (.inr a0), some (.inl a1), some (.inr a2)] (S) h) (k7 : s0 = 7 → PW G X 3 Q k n 122 [some (.inr a0), some (.inl a1), some (.inr a2)] (S) h) (k8 : s0 = 8 → PW G X 3 Q k n 127 [some (.inr a0), some (.inl a1), some (.inr a2)] (S) h) (k9 : s0 = 9 → PW G X 3 Q k n 134 [some (.inr a0), some (.inl a1), some (.inr a2)] (S) h) (k10 : s0 = 10 → PW G X 3 Q k n 151 [some (.inr a0), some (.inl a1), some (.inr a2)] (S) h) (k11 : s0 = 11 → PW G X 3 Q k n 168 [some (.inr a0), some (.inl a1), some (.inr a2)] (S) h) (kd : s0 < 0 ∨ 11 < s0 → PW G X 3 Q k n 198 [some (.inr a0), some (.inl a1), some (.inr a2)] (S) h) : PW G X 3 Q k n 9 [some (.inr a0), some (.inl a1), some (.inr a2)] (.inl s0 :: S) h := by
  by_cases zz : s0 < 0 ∨ 11 < s0
  · exact pw_tableOut C 198 dX6_count_9 q1 zz (by decide) (kd zz)
  · have zz2 : s0 = 0 ∨ s0 = 1 ∨ s0 = 2 ∨ s0 = 3 ∨ s0 = 4 ∨ s0 = 5 ∨ s0 = 6 ∨ s0 = 7 ∨ s0 = 8 ∨ s0 = 9 ∨ s0 = 10 ∨ s0 = 11 := by omega
    rcases zz2 with z0 | z1 | z2 | z3 | z4 | z5 | z6 | z7 | z8 | z9 | z10 | z11
    · have kj := k0 z0
      subst z0
      exact pw_tableIn C 72 dX6_count_9 q1 (by decide) (by decide) rfl (by decide) kj
    · have kj := k1 z1
      subst z1
      exact pw_tableIn C 80 dX6_count_9 q1 (by decide) (by decide) rfl (by decide) kj
    · have kj := k2 z2
      subst z2
      exact pw_tableIn C 88 dX6_count_9 q1 (by decide) (by decide) rfl (by decide) kj
    · have kj := k3 z3
      subst z3
      exact pw_tableIn C 96 dX6_count_9 q1 (by decide) (by decide) rfl (by decide) kj
    · have kj := k4 z4
      subst z4
      exact pw_tableIn C 104 dX6_count_9 q1 (by decide) (by decide) rfl (by decide) kj
    · have kj := k5 z5
      subst z5
      exact pw_tableIn C 112 dX6_count_9 q1 (by decide) (by decide) rfl (by decide) kj
    · have kj := k6 z6
      subst z6
      exact pw_tableIn C 117 dX6_count_9 q1 (by decide) (by decide) rfl (by decide) kj
    · have kj := k7 z7
      subst z7
      exact pw_tableIn C 122 dX6_count_9 q1 (by decide) (by decide) rfl (by decide) kj
    · have kj := k8 z8
      subst z8
      exact pw_tableIn C 127 dX6_count_9 q1 (by decide) (by decide) rfl (by decide) kj
    · have kj := k9 z9
      subst z9
      exact pw_tableIn C 134 dX6_count_9 q1 (by decide) (by decide) rfl (by decide) kj
    · have kj := k10 z10
      subst z10
      exact pw_tableIn C 151 dX6_count_9 q1 (by decide) (by decide) rfl (by decide) kj
    · have kj := k11 z11
      subst z11
      exact pw_tableIn C 168 dX6_count_9 q1 (by decide) (by decide) rfl (by decide) kj
set_option maxRecDepth 20000 in
theorem B_X6_count_72 {G : Gx} {X : Cx} {h : PH} {k n : Nat} {a0 : Nat} {a1 : Int} {a2 : Nat} {r2 : Nat} {x5 : Int} {PQ : Option PV → PH → Prop} (C : CX_X6_count G X) (t1 : ph_T h a0 = 6 := by first | assumption | rfl) (e3 : ph_R h a0 0 = r2 := by first | assumption | rfl) (t4 : ph_T h r2 = 5 := by first | assumption | rfl) (e6 : ph_I h r2 4 = x5 := by first | assumption | rfl) (hq : PQ (some (.inl x5)) h) : PW G X 3 (pw_E G X PQ k n) k n 72 [some (.inr a0), some (.inl a1), some (.inr a2)] [] h := by
  refine pw_aload_n C dX6_count_72 rfl ?_
  refine pw_getR C (t := 6) (f := 0) rfl inF6 rfl (by decide) (by decide) rfl kw310 dX6_count_73 t1 ?_
  rw [e3]
  refine pw_getI C (t := 5) (f := 4) rfl inF5 rfl (by decide) (by decide) rfl kw188 dX6_count_76 t4 ?_
  rw [e6]
  exact pw_ireturn C dX6_count_79 hq
set_option maxRecDepth 20000 in
theorem B_X6_count_80 {G : Gx} {X : Cx} {h : PH} {k n : Nat} {Q : State → Prop} {S : List PV} {a0 : Nat} {a1 : Int} {a2 : Nat} {r2 : Nat} {PQ : Option PV → PH → Prop} (C : CX_X6_count G X) (hk0 : k ≤ 0 := by decide) (hn0 : n ≤ 0 := by decide) (t1 : ph_T h a0 = 6 := by first | assumption | rfl) (e3 : ph_R h a0 0 = r2 := by first | assumption | rfl) (t4 : ph_T h r2 = 5 := by first | assumption | rfl) (hM : CT_X5_takenFlights G X.2.1 [.inr r2] h PQ) (hS : S.length ≤ 8 := by decide) (kk : ∀ r h', PQ r h' → PW G X 3 Q k n 87 [some (.inr a0), some (.inl a1), some (.inr a2)] (r.toList ++ S) h') : PW G X 3 Q k n 80 [some (.inr a0), some (.inl a1), some (.inr a2)] (S) h := by
  refine pw_aload_n C dX6_count_80 rfl ?_
  refine pw_getR C (t := 6) (f := 0) rfl inF6 rfl (by decide) (by decide) rfl kw310 dX6_count_81 t1 ?_
  rw [e3]
  exact pw_callV C (na := 0) (As := []) (S := S) hM t4 (by decide) (hcl := by rfl) kw620 kw621 kw622 kw39 kw623 (by decide +kernel) rfl dX6_count_84 (by decide) (by decide) hk0 hn0 (by first | exact hS | (simp only [List.length_cons]; omega)) kk
set_option maxRecDepth 20000 in
theorem B_X6_count_87 {G : Gx} {X : Cx} {h : PH} {k n : Nat} {a0 : Nat} {a1 : Int} {a2 : Nat} {s0 : Int} {PQ : Option PV → PH → Prop} (C : CX_X6_count G X) (hq : PQ (some (.inl s0)) h) : PW G X 3 (pw_E G X PQ k n) k n 87 [some (.inr a0), some (.inl a1), some (.inr a2)] [.inl s0] h := by
  exact pw_ireturn C dX6_count_87 hq
set_option maxRecDepth 20000 in
theorem B_X6_count_88 {G : Gx} {X : Cx} {h : PH} {k n : Nat} {Q : State → Prop} {S : List PV} {a0 : Nat} {a1 : Int} {a2 : Nat} {r2 : Nat} {PQ : Option PV → PH → Prop} (C : CX_X6_count G X) (hk0 : k ≤ 0 := by decide) (hn0 : n ≤ 0 := by decide) (t1 : ph_T h a0 = 6 := by first | assumption | rfl) (e3 : ph_R h a0 0 = r2 := by first | assumption | rfl) (t4 : ph_T h r2 = 5 := by first | assumption | rfl) (hM : CT_X5_allPoints G X.2.1 [.inr r2] h PQ) (hS : S.length ≤ 8 := by decide) (kk : ∀ r h', PQ r h' → PW G X 3 Q k n 95 [some (.inr a0), some (.inl a1), some (.inr a2)] (r.toList ++ S) h') : PW G X 3 Q k n 88 [some (.inr a0), some (.inl a1), some (.inr a2)] (S) h := by
  refine pw_aload_n C dX6_count_88 rfl ?_
  refine pw_getR C (t := 6) (f := 0) rfl inF6 rfl (by decide) (by decide) rfl kw310 dX6_count_89 t1 ?_
  rw [e3]
  exact pw_callV C (na := 0) (As := []) (S := S) hM t4 (by decide) (hcl := by rfl) kw625 kw626 kw627 kw39 kw628 (by decide +kernel) rfl dX6_count_92 (by decide) (by decide) hk0 hn0 (by first | exact hS | (simp only [List.length_cons]; omega)) kk
set_option maxRecDepth 20000 in
theorem B_X6_count_95 {G : Gx} {X : Cx} {h : PH} {k n : Nat} {a0 : Nat} {a1 : Int} {a2 : Nat} {s0 : Int} {PQ : Option PV → PH → Prop} (C : CX_X6_count G X) (hq : PQ (some (.inl s0)) h) : PW G X 3 (pw_E G X PQ k n) k n 95 [some (.inr a0), some (.inl a1), some (.inr a2)] [.inl s0] h := by
  exact pw_ireturn C dX6_count_95 hq
set_option maxRecDepth 20000 in
theorem B_X6_count_96 {G : Gx} {X : Cx} {h : PH} {k n : Nat} {Q : State → Prop} {S : List PV} {a0 : Nat} {a1 : Int} {a2 : Nat} {r2 : Nat} {PQ : Option PV → PH → Prop} (C : CX_X6_count G X) (hk0 : k ≤ 0 := by decide) (hn0 : n ≤ 0 := by decide) (t1 : ph_T h a0 = 6 := by first | assumption | rfl) (e3 : ph_R h a0 0 = r2 := by first | assumption | rfl) (t4 : ph_T h r2 = 5 := by first | assumption | rfl) (hM : CT_X5_allLooks G X.2.1 [.inr r2] h PQ) (hS : S.length ≤ 8 := by decide) (kk : ∀ r h', PQ r h' → PW G X 3 Q k n 103 [some (.inr a0), some (.inl a1), some (.inr a2)] (r.toList ++ S) h') : PW G X 3 Q k n 96 [some (.inr a0), some (.inl a1), some (.inr a2)] (S) h := by
  refine pw_aload_n C dX6_count_96 rfl ?_
  refine pw_getR C (t := 6) (f := 0) rfl inF6 rfl (by decide) (by decide) rfl kw310 dX6_count_97 t1 ?_
  rw [e3]
  exact pw_callV C (na := 0) (As := []) (S := S) hM t4 (by decide) (hcl := by rfl) kw629 kw630 kw631 kw39 kw632 (by decide +kernel) rfl dX6_count_100 (by decide) (by decide) hk0 hn0 (by first | exact hS | (simp only [List.length_cons]; omega)) kk
set_option maxRecDepth 20000 in
theorem B_X6_count_103 {G : Gx} {X : Cx} {h : PH} {k n : Nat} {a0 : Nat} {a1 : Int} {a2 : Nat} {s0 : Int} {PQ : Option PV → PH → Prop} (C : CX_X6_count G X) (hq : PQ (some (.inl s0)) h) : PW G X 3 (pw_E G X PQ k n) k n 103 [some (.inr a0), some (.inl a1), some (.inr a2)] [.inl s0] h := by
  exact pw_ireturn C dX6_count_103 hq
set_option maxRecDepth 20000 in
theorem B_X6_count_104 {G : Gx} {X : Cx} {h : PH} {k n : Nat} {Q : State → Prop} {S : List PV} {a0 : Nat} {a1 : Int} {a2 : Nat} {r2 : Nat} {PQ : Option PV → PH → Prop} (C : CX_X6_count G X) (hk0 : k ≤ 0 := by decide) (hn0 : n ≤ 0 := by decide) (t1 : ph_T h a0 = 6 := by first | assumption | rfl) (e3 : ph_R h a0 0 = r2 := by first | assumption | rfl) (t4 : ph_T h r2 = 5 := by first | assumption | rfl) (hM : CT_X5_unlikeLooks G X.2.1 [.inr r2] h PQ) (hS : S.length ≤ 8 := by decide) (kk : ∀ r h', PQ r h' → PW G X 3 Q k n 111 [some (.inr a0), some (.inl a1), some (.inr a2)] (r.toList ++ S) h') : PW G X 3 Q k n 104 [some (.inr a0), some (.inl a1), some (.inr a2)] (S) h := by
  refine pw_aload_n C dX6_count_104 rfl ?_
  refine pw_getR C (t := 6) (f := 0) rfl inF6 rfl (by decide) (by decide) rfl kw310 dX6_count_105 t1 ?_
  rw [e3]
  exact pw_callV C (na := 0) (As := []) (S := S) hM t4 (by decide) (hcl := by rfl) kw633 kw634 kw635 kw39 kw636 (by decide +kernel) rfl dX6_count_108 (by decide) (by decide) hk0 hn0 (by first | exact hS | (simp only [List.length_cons]; omega)) kk
set_option maxRecDepth 20000 in
theorem B_X6_count_111 {G : Gx} {X : Cx} {h : PH} {k n : Nat} {a0 : Nat} {a1 : Int} {a2 : Nat} {s0 : Int} {PQ : Option PV → PH → Prop} (C : CX_X6_count G X) (hq : PQ (some (.inl s0)) h) : PW G X 3 (pw_E G X PQ k n) k n 111 [some (.inr a0), some (.inl a1), some (.inr a2)] [.inl s0] h := by
  exact pw_ireturn C dX6_count_111 hq
set_option maxRecDepth 20000 in
theorem B_X6_count_112 {G : Gx} {X : Cx} {h : PH} {k n : Nat} {a0 : Nat} {a1 : Int} {a2 : Nat} {x2 : Int} {PQ : Option PV → PH → Prop} (C : CX_X6_count G X) (t1 : ph_T h a2 = 3 := by first | assumption | rfl) (e3 : ph_I h a2 6 = x2 := by first | assumption | rfl) (hq : PQ (some (.inl x2)) h) : PW G X 3 (pw_E G X PQ k n) k n 112 [some (.inr a0), some (.inl a1), some (.inr a2)] [] h := by
  refine pw_aload_n C dX6_count_112 rfl ?_
  refine pw_getI C (t := 3) (f := 6) rfl inF3 rfl (by decide) (by decide) rfl kw85 dX6_count_113 t1 ?_
  rw [e3]
  exact pw_ireturn C dX6_count_116 hq
set_option maxRecDepth 20000 in
theorem B_X6_count_117 {G : Gx} {X : Cx} {h : PH} {k n : Nat} {a0 : Nat} {a1 : Int} {a2 : Nat} {x2 : Int} {PQ : Option PV → PH → Prop} (C : CX_X6_count G X) (t1 : ph_T h a2 = 3 := by first | assumption | rfl) (e3 : ph_I h a2 0 = x2 := by first | assumption | rfl) (hq : PQ (some (.inl x2)) h) : PW G X 3 (pw_E G X PQ k n) k n 117 [some (.inr a0), some (.inl a1), some (.inr a2)] [] h := by
  refine pw_aload_n C dX6_count_117 rfl ?_
  refine pw_getI C (t := 3) (f := 0) rfl inF3 rfl (by decide) (by decide) rfl kw74 dX6_count_118 t1 ?_
  rw [e3]
  exact pw_ireturn C dX6_count_121 hq
set_option maxRecDepth 20000 in
theorem B_X6_count_122 {G : Gx} {X : Cx} {h : PH} {k n : Nat} {a0 : Nat} {a1 : Int} {a2 : Nat} {x2 : Int} {PQ : Option PV → PH → Prop} (C : CX_X6_count G X) (t1 : ph_T h a2 = 3 := by first | assumption | rfl) (e3 : ph_I h a2 2 = x2 := by first | assumption | rfl) (hq : PQ (some (.inl x2)) h) : PW G X 3 (pw_E G X PQ k n) k n 122 [some (.inr a0), some (.inl a1), some (.inr a2)] [] h := by
  refine pw_aload_n C dX6_count_122 rfl ?_
  refine pw_getI C (t := 3) (f := 2) rfl inF3 rfl (by decide) (by decide) rfl kw77 dX6_count_123 t1 ?_
  rw [e3]
  exact pw_ireturn C dX6_count_126 hq
set_option maxRecDepth 20000 in
theorem B_X6_count_127 {G : Gx} {X : Cx} {h : PH} {k n : Nat} {a0 : Nat} {a1 : Int} {a2 : Nat} {x2 : Int} {PQ : Option PV → PH → Prop} (C : CX_X6_count G X) (t1 : ph_T h a2 = 3 := by first | assumption | rfl) (e3 : ph_I h a2 3 = x2 := by first | assumption | rfl) (hq : PQ (some (.inl (x2 + 1))) h) : PW G X 3 (pw_E G X PQ k n) k n 127 [some (.inr a0), some (.inl a1), some (.inr a2)] [] h := by
  refine pw_aload_n C dX6_count_127 rfl ?_
  refine pw_getI C (t := 3) (f := 3) rfl inF3 rfl (by decide) (by decide) rfl kw79 dX6_count_128 t1 ?_
  rw [e3]
  refine pw_iconst C dX6_count_131 ?_
  refine pw_iadd C dX6_count_132 ?_
  exact pw_ireturn C dX6_count_133 hq
set_option maxRecDepth 20000 in
theorem B_X6_count_134 {G : Gx} {X : Cx} {h : PH} {k n : Nat} {Q : State → Prop} {S : List PV} {a0 : Nat} {a1 : Int} {a2 : Nat} {PQ : Option PV → PH → Prop} (C : CX_X6_count G X) (hk0 : k ≤ 0 := by decide) (hn0 : n ≤ 0 := by decide) (t1 : ph_T h a2 = 3 := by first | assumption | rfl) (hM : CT_X3_hasStorm G X.2.1 [.inr a2] h PQ) (hS : S.length ≤ 8 := by decide) (kk : ∀ r h', PQ r h' → PW G X 3 Q k n 138 [some (.inr a0), some (.inl a1), some (.inr a2)] (r.toList ++ S) h') : PW G X 3 Q k n 134 [some (.inr a0), some (.inl a1), some (.inr a2)] (S) h := by
  refine pw_aload_n C dX6_count_134 rfl ?_
  exact pw_callV C (na := 0) (As := []) (S := S) hM t1 (by decide) (hcl := by rfl) kw637 kw638 kw639 kw40 kw640 (by decide +kernel) rfl dX6_count_135 (by decide) (by decide) hk0 hn0 (by first | exact hS | (simp only [List.length_cons]; omega)) kk
set_option maxRecDepth 20000 in
theorem B_X6_count_138 {G : Gx} {X : Cx} {h : PH} {k n : Nat} {Q : State → Prop} {S : List PV} {a0 : Nat} {a1 : Int} {a2 : Nat} {s0 : Int} (C : CX_X6_count G X) (q1 : pR s0 := by first | assumption | (unfold pR; omega)) (kt : s0 = 0 → PW G X 3 Q k n 148 [some (.inr a0), some (.inl a1), some (.inr a2)] (S) h) (kf : ¬ s0 = 0 → PW G X 3 Q k n 141 [some (.inr a0), some (.inl a1), some (.inr a2)] (S) h) : PW G X 3 Q k n 138 [some (.inr a0), some (.inl a1), some (.inr a2)] (.inl s0 :: S) h := by
  exact pw_if_eq C 148 dX6_count_138 (by decide) q1 kt kf
set_option maxRecDepth 20000 in
theorem B_X6_count_141 {G : Gx} {X : Cx} {h : PH} {k n : Nat} {Q : State → Prop} {S : List PV} {a0 : Nat} {a1 : Int} {a2 : Nat} {x2 : Int} (C : CX_X6_count G X) (t1 : ph_T h a2 = 3 := by first | assumption | rfl) (e3 : ph_I h a2 4 = x2 := by first | assumption | rfl) (kk : PW G X 3 Q k n 150 [some (.inr a0), some (.inl a1), some (.inr a2)] (.inl x2 :: S) h) : PW G X 3 Q k n 141 [some (.inr a0), some (.inl a1), some (.inr a2)] (S) h := by
  refine pw_aload_n C dX6_count_141 rfl ?_
  refine pw_getI C (t := 3) (f := 4) rfl inF3 rfl (by decide) (by decide) rfl kw81 dX6_count_142 t1 ?_
  rw [e3]
  refine pw_goto C 150 dX6_count_145 (by decide) ?_
  exact kk
set_option maxRecDepth 20000 in
theorem B_X6_count_148 {G : Gx} {X : Cx} {h : PH} {k n : Nat} {Q : State → Prop} {S : List PV} {a0 : Nat} {a1 : Int} {a2 : Nat} (C : CX_X6_count G X) (kk : PW G X 3 Q k n 150 [some (.inr a0), some (.inl a1), some (.inr a2)] (.inl (-6) :: S) h) : PW G X 3 Q k n 148 [some (.inr a0), some (.inl a1), some (.inr a2)] (S) h := by
  refine pw_bipush C dX6_count_148 rfl ?_
  exact kk
set_option maxRecDepth 20000 in
theorem B_X6_count_150 {G : Gx} {X : Cx} {h : PH} {k n : Nat} {a0 : Nat} {a1 : Int} {a2 : Nat} {s0 : Int} {PQ : Option PV → PH → Prop} (C : CX_X6_count G X) (hq : PQ (some (.inl s0)) h) : PW G X 3 (pw_E G X PQ k n) k n 150 [some (.inr a0), some (.inl a1), some (.inr a2)] [.inl s0] h := by
  exact pw_ireturn C dX6_count_150 hq
set_option maxRecDepth 20000 in
theorem B_X6_count_151 {G : Gx} {X : Cx} {h : PH} {k n : Nat} {Q : State → Prop} {S : List PV} {a0 : Nat} {a1 : Int} {a2 : Nat} {PQ : Option PV → PH → Prop} (C : CX_X6_count G X) (hk0 : k ≤ 0 := by decide) (hn0 : n ≤ 0 := by decide) (t1 : ph_T h a2 = 3 := by first | assumption | rfl) (hM : CT_X3_hasStorm G X.2.1 [.inr a2] h PQ) (hS : S.length ≤ 8 := by decide) (kk : ∀ r h', PQ r h' → PW G X 3 Q k n 155 [some (.inr a0), some (.inl a1), some (.inr a2)] (r.toList ++ S) h') : PW G X 3 Q k n 151 [some (.inr a0), some (.inl a1), some (.inr a2)] (S) h := by
  refine pw_aload_n C dX6_count_151 rfl ?_
  exact pw_callV C (na := 0) (As := []) (S := S) hM t1 (by decide) (hcl := by rfl) kw637 kw638 kw639 kw40 kw640 (by decide +kernel) rfl dX6_count_152 (by decide) (by decide) hk0 hn0 (by first | exact hS | (simp only [List.length_cons]; omega)) kk
set_option maxRecDepth 20000 in
theorem B_X6_count_155 {G : Gx} {X : Cx} {h : PH} {k n : Nat} {Q : State → Prop} {S : List PV} {a0 : Nat} {a1 : Int} {a2 : Nat} {s0 : Int} (C : CX_X6_count G X) (q1 : pR s0 := by first | assumption | (unfold pR; omega)) (kt : s0 = 0 → PW G X 3 Q k n 165 [some (.inr a0), some (.inl a1), some (.inr a2)] (S) h) (kf : ¬ s0 = 0 → PW G X 3 Q k n 158 [some (.inr a0), some (.inl a1), some (.inr a2)] (S) h) : PW G X 3 Q k n 155 [some (.inr a0), some (.inl a1), some (.inr a2)] (.inl s0 :: S) h := by
  exact pw_if_eq C 165 dX6_count_155 (by decide) q1 kt kf
set_option maxRecDepth 20000 in
theorem B_X6_count_158 {G : Gx} {X : Cx} {h : PH} {k n : Nat} {Q : State → Prop} {S : List PV} {a0 : Nat} {a1 : Int} {a2 : Nat} {x2 : Int} (C : CX_X6_count G X) (t1 : ph_T h a2 = 3 := by first | assumption | rfl) (e3 : ph_I h a2 5 = x2 := by first | assumption | rfl) (kk : PW G X 3 Q k n 167 [some (.inr a0), some (.inl a1), some (.inr a2)] (.inl x2 :: S) h) : PW G X 3 Q k n 158 [some (.inr a0), some (.inl a1), some (.inr a2)] (S) h := by
  refine pw_aload_n C dX6_count_158 rfl ?_
  refine pw_getI C (t := 3) (f := 5) rfl inF3 rfl (by decide) (by decide) rfl kw83 dX6_count_159 t1 ?_
  rw [e3]
  refine pw_goto C 167 dX6_count_162 (by decide) ?_
  exact kk
set_option maxRecDepth 20000 in
theorem B_X6_count_165 {G : Gx} {X : Cx} {h : PH} {k n : Nat} {Q : State → Prop} {S : List PV} {a0 : Nat} {a1 : Int} {a2 : Nat} (C : CX_X6_count G X) (kk : PW G X 3 Q k n 167 [some (.inr a0), some (.inl a1), some (.inr a2)] (.inl (-6) :: S) h) : PW G X 3 Q k n 165 [some (.inr a0), some (.inl a1), some (.inr a2)] (S) h := by
  refine pw_bipush C dX6_count_165 rfl ?_
  exact kk
set_option maxRecDepth 20000 in
theorem B_X6_count_167 {G : Gx} {X : Cx} {h : PH} {k n : Nat} {a0 : Nat} {a1 : Int} {a2 : Nat} {s0 : Int} {PQ : Option PV → PH → Prop} (C : CX_X6_count G X) (hq : PQ (some (.inl s0)) h) : PW G X 3 (pw_E G X PQ k n) k n 167 [some (.inr a0), some (.inl a1), some (.inr a2)] [.inl s0] h := by
  exact pw_ireturn C dX6_count_167 hq
set_option maxRecDepth 20000 in
theorem B_X6_count_168 {G : Gx} {X : Cx} {h : PH} {k n : Nat} {Q : State → Prop} {S : List PV} {a0 : Nat} {a1 : Int} {a2 : Nat} {r2 : Nat} {x8 : Int} (C : CX_X6_count G X) (t1 : ph_T h a0 = 6 := by first | assumption | rfl) (e3 : ph_R h a0 2 = r2 := by first | assumption | rfl) (t4 : ph_T h r2 = 9 := by first | assumption | rfl) (q5 : (0 : Int) ≤ 0 := by first | assumption | omega) (q6 : 0 < (ph_L h r2 : Int) := by first | assumption | omega) (q7 : pR 0 := by first | assumption | (unfold pR; omega)) (e9 : ph_I h r2 0 = x8 := by first | assumption | rfl) (q10 : pR x8 := by first | assumption | (unfold pR; omega)) (kt : x8 = 0 → PW G X 3 Q k n 181 [some (.inr a0), some (.inl a1), some (.inr a2)] (S) h) (kf : ¬ x8 = 0 → PW G X 3 Q k n 177 [some (.inr a0), some (.inl a1), some (.inr a2)] (S) h) : PW G X 3 Q k n 168 [some (.inr a0), some (.inl a1), some (.inr a2)] (S) h := by
  refine pw_aload_n C dX6_count_168 rfl ?_
  refine pw_getR C (t := 6) (f := 2) rfl inF6 rfl (by decide) (by decide) rfl kw312 dX6_count_169 t1 ?_
  rw [e3]
  refine pw_iconst C dX6_count_172 ?_
  refine pw_zald C dX6_count_173 t4 q5 q6 q7 ?_
  rw [show ph_I h r2 (Int.toNat 0) = x8 from e9]
  exact pw_if_eq C 181 dX6_count_174 (by decide) q10 kt kf
set_option maxRecDepth 20000 in
theorem B_X6_count_177 {G : Gx} {X : Cx} {h : PH} {k n : Nat} {Q : State → Prop} {S : List PV} {a0 : Nat} {a1 : Int} {a2 : Nat} (C : CX_X6_count G X) (kk : PW G X 3 Q k n 182 [some (.inr a0), some (.inl a1), some (.inr a2)] (.inl 1 :: S) h) : PW G X 3 Q k n 177 [some (.inr a0), some (.inl a1), some (.inr a2)] (S) h := by
  refine pw_iconst C dX6_count_177 ?_
  refine pw_goto C 182 dX6_count_178 (by decide) ?_
  exact kk
set_option maxRecDepth 20000 in
theorem B_X6_count_181 {G : Gx} {X : Cx} {h : PH} {k n : Nat} {Q : State → Prop} {S : List PV} {a0 : Nat} {a1 : Int} {a2 : Nat} (C : CX_X6_count G X) (kk : PW G X 3 Q k n 182 [some (.inr a0), some (.inl a1), some (.inr a2)] (.inl 0 :: S) h) : PW G X 3 Q k n 181 [some (.inr a0), some (.inl a1), some (.inr a2)] (S) h := by
  refine pw_iconst C dX6_count_181 ?_
  exact kk
set_option maxRecDepth 20000 in
theorem B_X6_count_182 {G : Gx} {X : Cx} {h : PH} {k n : Nat} {Q : State → Prop} {S : List PV} {a0 : Nat} {a1 : Int} {a2 : Nat} {s0 : Int} {r2 : Nat} {x8 : Int} (C : CX_X6_count G X) (t1 : ph_T h a0 = 6 := by first | assumption | rfl) (e3 : ph_R h a0 2 = r2 := by first | assumption | rfl) (t4 : ph_T h r2 = 9 := by first | assumption | rfl) (q5 : (0 : Int) ≤ 1 := by first | assumption | omega) (q6 : 1 < (ph_L h r2 : Int) := by first | assumption | omega) (q7 : pR 1 := by first | assumption | (unfold pR; omega)) (e9 : ph_I h r2 1 = x8 := by first | assumption | rfl) (q10 : pR x8 := by first | assumption | (unfold pR; omega)) (kt : x8 = 0 → PW G X 3 Q k n 195 [some (.inr a0), some (.inl a1), some (.inr a2)] (.inl s0 :: S) h) (kf : ¬ x8 = 0 → PW G X 3 Q k n 191 [some (.inr a0), some (.inl a1), some (.inr a2)] (.inl s0 :: S) h) : PW G X 3 Q k n 182 [some (.inr a0), some (.inl a1), some (.inr a2)] (.inl s0 :: S) h := by
  refine pw_aload_n C dX6_count_182 rfl ?_
  refine pw_getR C (t := 6) (f := 2) rfl inF6 rfl (by decide) (by decide) rfl kw312 dX6_count_183 t1 ?_
  rw [e3]
  refine pw_iconst C dX6_count_186 ?_
  refine pw_zald C dX6_count_187 t4 q5 q6 q7 ?_
  rw [show ph_I h r2 (Int.toNat 1) = x8 from e9]
  exact pw_if_eq C 195 dX6_count_188 (by decide) q10 kt kf
set_option maxRecDepth 20000 in
theorem B_X6_count_191 {G : Gx} {X : Cx} {h : PH} {k n : Nat} {Q : State → Prop} {S : List PV} {a0 : Nat} {a1 : Int} {a2 : Nat} {s0 : Int} (C : CX_X6_count G X) (kk : PW G X 3 Q k n 196 [some (.inr a0), some (.inl a1), some (.inr a2)] (.inl 2 :: .inl s0 :: S) h) : PW G X 3 Q k n 191 [some (.inr a0), some (.inl a1), some (.inr a2)] (.inl s0 :: S) h := by
  refine pw_iconst C dX6_count_191 ?_
  refine pw_goto C 196 dX6_count_192 (by decide) ?_
  exact kk
set_option maxRecDepth 20000 in
theorem B_X6_count_195 {G : Gx} {X : Cx} {h : PH} {k n : Nat} {Q : State → Prop} {S : List PV} {a0 : Nat} {a1 : Int} {a2 : Nat} {s0 : Int} (C : CX_X6_count G X) (kk : PW G X 3 Q k n 196 [some (.inr a0), some (.inl a1), some (.inr a2)] (.inl 0 :: .inl s0 :: S) h) : PW G X 3 Q k n 195 [some (.inr a0), some (.inl a1), some (.inr a2)] (.inl s0 :: S) h := by
  refine pw_iconst C dX6_count_195 ?_
  exact kk
set_option maxRecDepth 20000 in
theorem B_X6_count_196 {G : Gx} {X : Cx} {h : PH} {k n : Nat} {a0 : Nat} {a1 : Int} {a2 : Nat} {s0 : Int} {s1 : Int} {PQ : Option PV → PH → Prop} (C : CX_X6_count G X) (hq : PQ (some (.inl (s1 + s0))) h) : PW G X 3 (pw_E G X PQ k n) k n 196 [some (.inr a0), some (.inl a1), some (.inr a2)] [.inl s0, .inl s1] h := by
  refine pw_iadd C dX6_count_196 ?_
  exact pw_ireturn C dX6_count_197 hq
set_option maxRecDepth 20000 in
theorem B_X6_count_198 {G : Gx} {X : Cx} {h : PH} {k n : Nat} {a0 : Nat} {a1 : Int} {a2 : Nat} {PQ : Option PV → PH → Prop} (C : CX_X6_count G X) (hq : PQ (some (.inl (-2))) h) : PW G X 3 (pw_E G X PQ k n) k n 198 [some (.inr a0), some (.inl a1), some (.inr a2)] [] h := by
  refine pw_bipush C dX6_count_198 rfl ?_
  exact pw_ireturn C dX6_count_200 hq
theorem dX6_image_0 : decode cX6_image 0 = .ok (.iload_n 1, 1) := by decide +kernel
theorem dX6_image_1 : decode cX6_image 1 = .ok (.iconst 0, 1) := by decide +kernel
theorem dX6_image_2 : decode cX6_image 2 = .ok (.iconst 1, 1) := by decide +kernel
theorem dX6_image_3 : decode cX6_image 3 = .ok (.invokestatic 33, 3) := by decide +kernel
theorem dX6_image_6 : decode cX6_image 6 = .ok (.ifCond .ne 6, 3) := by decide +kernel
theorem dX6_image_9 : decode cX6_image 9 = .ok (.bipush (-2), 2) := by decide +kernel
theorem dX6_image_11 : decode cX6_image 11 = .ok (.ireturn, 1) := by decide +kernel
theorem dX6_image_12 : decode cX6_image 12 = .ok (.aload_n 0, 1) := by decide +kernel
theorem dX6_image_13 : decode cX6_image 13 = .ok (.getfield 16, 3) := by decide +kernel
theorem dX6_image_16 : decode cX6_image 16 = .ok (.iload_n 1, 1) := by decide +kernel
theorem dX6_image_17 : decode cX6_image 17 = .ok (.aaload, 1) := by decide +kernel
theorem dX6_image_18 : decode cX6_image 18 = .ok (.aload_n 0, 1) := by decide +kernel
theorem dX6_image_19 : decode cX6_image 19 = .ok (.getfield 12, 3) := by decide +kernel
theorem dX6_image_22 : decode cX6_image 22 = .ok (.invokevirtual 245, 3) := by decide +kernel
theorem dX6_image_25 : decode cX6_image 25 = .ok (.aload_n 0, 1) := by decide +kernel
theorem dX6_image_26 : decode cX6_image 26 = .ok (.getfield 20, 3) := by decide +kernel
theorem dX6_image_29 : decode cX6_image 29 = .ok (.iload_n 1, 1) := by decide +kernel
theorem dX6_image_30 : decode cX6_image 30 = .ok (.iconst 1, 1) := by decide +kernel
theorem dX6_image_31 : decode cX6_image 31 = .ok (.bastore, 1) := by decide +kernel
theorem dX6_image_32 : decode cX6_image 32 = .ok (.iconst 1, 1) := by decide +kernel
theorem dX6_image_33 : decode cX6_image 33 = .ok (.ireturn, 1) := by decide +kernel
set_option maxRecDepth 20000 in
theorem B_X6_image_0 {G : Gx} {X : Cx} {h : PH} {k n : Nat} {Q : State → Prop} {S : List PV} {a0 : Nat} {a1 : Int} {PQ : Option PV → PH → Prop} (C : CX_X6_image G X) (hk0 : k ≤ 0 := by decide) (hn0 : n ≤ 0 := by decide) (hM : CT_X6_isIn G X.2.1 [.inl a1, .inl 0, .inl 1] h PQ) (hS : S.length ≤ 8 := by decide) (kk : ∀ r h', PQ r h' → PW G X 2 Q k n 6 [some (.inr a0), some (.inl a1)] (r.toList ++ S) h') : PW G X 2 Q k n 0 [some (.inr a0), some (.inl a1)] (S) h := by
  refine pw_iload_n C dX6_image_0 rfl ?_
  refine pw_iconst C dX6_image_1 ?_
  refine pw_iconst C dX6_image_2 ?_
  exact pw_callS C (na := 3) (As := [.inl a1, .inl 0, .inl 1]) (S := S) hM kw327 kw328 kw38 kw329 (by decide +kernel) rfl dX6_image_3 (by decide) (by decide) hk0 hn0 (by first | exact hS | (simp only [List.length_cons]; omega)) kk
set_option maxRecDepth 20000 in
theorem B_X6_image_6 {G : Gx} {X : Cx} {h : PH} {k n : Nat} {Q : State → Prop} {S : List PV} {a0 : Nat} {a1 : Int} {s0 : Int} (C : CX_X6_image G X) (q1 : pR s0 := by first | assumption | (unfold pR; omega)) (kt : ¬ s0 = 0 → PW G X 2 Q k n 12 [some (.inr a0), some (.inl a1)] (S) h) (kf : s0 = 0 → PW G X 2 Q k n 9 [some (.inr a0), some (.inl a1)] (S) h) : PW G X 2 Q k n 6 [some (.inr a0), some (.inl a1)] (.inl s0 :: S) h := by
  exact pw_if_ne C 12 dX6_image_6 (by decide) q1 kt kf
set_option maxRecDepth 20000 in
theorem B_X6_image_9 {G : Gx} {X : Cx} {h : PH} {k n : Nat} {a0 : Nat} {a1 : Int} {PQ : Option PV → PH → Prop} (C : CX_X6_image G X) (hq : PQ (some (.inl (-2))) h) : PW G X 2 (pw_E G X PQ k n) k n 9 [some (.inr a0), some (.inl a1)] [] h := by
  refine pw_bipush C dX6_image_9 rfl ?_
  exact pw_ireturn C dX6_image_11 hq
set_option maxRecDepth 20000 in
theorem B_X6_image_12 {G : Gx} {X : Cx} {h : PH} {k n : Nat} {Q : State → Prop} {S : List PV} {a0 : Nat} {a1 : Int} {r2 : Nat} {m8 : Nat} {m8E : String} {r9 : Nat} {r12 : Nat} {PQ : Option PV → PH → Prop} (C : CX_X6_image G X) (hk0 : k ≤ 0 := by decide) (hn0 : n ≤ 0 := by decide) (t1 : ph_T h a0 = 6 := by first | assumption | rfl) (e3 : ph_R h a0 1 = r2 := by first | assumption | rfl) (m8a : ¬ m8 < 10 := by decide) (m8b : m8 < 14 := by decide) (t4 : ph_T h r2 = m8 := by first | assumption | rfl) (m8c : (pw_tys G)[m8 - 8]? = some (G.2.2.2.2 m8, .object m8E) := by rfl) (q5 : (0 : Int) ≤ a1 := by first | assumption | omega) (q6 : a1 < (ph_L h r2 : Int) := by first | assumption | omega) (q7 : pR a1 := by first | assumption | (unfold pR; omega)) (e10 : ph_R h r2 (Int.toNat a1) = r9 := by first | assumption | rfl) (t11 : ph_T h a0 = 6 := by first | assumption | rfl) (e13 : ph_R h a0 0 = r12 := by first | assumption | rfl) (t14 : ph_T h r9 = 5 := by first | assumption | rfl) (hM : CT_X5_copyFrom G X.2.1 [.inr r9, .inr r12] h PQ) (hS : S.length ≤ 8 := by decide) (kk : ∀ r h', PQ r h' → PW G X 2 Q k n 25 [some (.inr a0), some (.inl a1)] (r.toList ++ S) h') : PW G X 2 Q k n 12 [some (.inr a0), some (.inl a1)] (S) h := by
  refine pw_aload_n C dX6_image_12 rfl ?_
  refine pw_getR C (t := 6) (f := 1) rfl inF6 rfl (by decide) (by decide) rfl kw311 dX6_image_13 t1 ?_
  rw [e3]
  refine pw_iload_n C dX6_image_16 rfl ?_
  refine pw_aald C (t := m8) dX6_image_17 t4 m8a m8b m8c q5 q6 q7 ?_
  rw [e10]
  refine pw_aload_n C dX6_image_18 rfl ?_
  refine pw_getR C (t := 6) (f := 0) rfl inF6 rfl (by decide) (by decide) rfl kw310 dX6_image_19 t11 ?_
  rw [e13]
  exact pw_callV C (na := 1) (As := [.inr r12]) (S := S) hM t14 (by decide) (hcl := by rfl) kw645 kw646 kw647 kw39 kw648 (by decide +kernel) rfl dX6_image_22 (by decide) (by decide) hk0 hn0 (by first | exact hS | (simp only [List.length_cons]; omega)) kk
set_option maxRecDepth 20000 in
theorem B_X6_image_25 {G : Gx} {X : Cx} {h : PH} {k n : Nat} {a0 : Nat} {a1 : Int} {r2 : Nat} {PQ : Option PV → PH → Prop} (C : CX_X6_image G X) (t1 : ph_T h a0 = 6 := by first | assumption | rfl) (e3 : ph_R h a0 2 = r2 := by first | assumption | rfl) (t4 : ph_T h r2 = 9 := by first | assumption | rfl) (q5 : (0 : Int) ≤ a1 := by first | assumption | omega) (q6 : a1 < (ph_L h r2 : Int) := by first | assumption | omega) (q7 : pR a1 := by first | assumption | (unfold pR; omega)) (q8 : (1 : Int) = 0 ∨ (1 : Int) = 1 := by omega) (hq : PQ (some (.inl 1)) (ph_setI h r2 (Int.toNat a1) 1)) : PW G X 2 (pw_E G X PQ k n) k n 25 [some (.inr a0), some (.inl a1)] [] h := by
  refine pw_aload_n C dX6_image_25 rfl ?_
  refine pw_getR C (t := 6) (f := 2) rfl inF6 rfl (by decide) (by decide) rfl kw312 dX6_image_26 t1 ?_
  rw [e3]
  refine pw_iload_n C dX6_image_29 rfl ?_
  refine pw_iconst C dX6_image_30 ?_
  refine pw_zast C dX6_image_31 t4 q5 q6 q7 q8 ?_
  refine pw_iconst C dX6_image_32 ?_
  exact pw_ireturn C dX6_image_33 hq
theorem dX6_restore_0 : decode cX6_restore 0 = .ok (.iload_n 1, 1) := by decide +kernel
theorem dX6_restore_1 : decode cX6_restore 1 = .ok (.iconst 0, 1) := by decide +kernel
theorem dX6_restore_2 : decode cX6_restore 2 = .ok (.iconst 1, 1) := by decide +kernel
theorem dX6_restore_3 : decode cX6_restore 3 = .ok (.invokestatic 33, 3) := by decide +kernel
theorem dX6_restore_6 : decode cX6_restore 6 = .ok (.ifCond .ne 6, 3) := by decide +kernel
theorem dX6_restore_9 : decode cX6_restore 9 = .ok (.bipush (-2), 2) := by decide +kernel
theorem dX6_restore_11 : decode cX6_restore 11 = .ok (.ireturn, 1) := by decide +kernel
theorem dX6_restore_12 : decode cX6_restore 12 = .ok (.aload_n 0, 1) := by decide +kernel
theorem dX6_restore_13 : decode cX6_restore 13 = .ok (.getfield 20, 3) := by decide +kernel
theorem dX6_restore_16 : decode cX6_restore 16 = .ok (.iload_n 1, 1) := by decide +kernel
theorem dX6_restore_17 : decode cX6_restore 17 = .ok (.baload, 1) := by decide +kernel
theorem dX6_restore_18 : decode cX6_restore 18 = .ok (.ifCond .ne 6, 3) := by decide +kernel
theorem dX6_restore_21 : decode cX6_restore 21 = .ok (.bipush (-3), 2) := by decide +kernel
theorem dX6_restore_23 : decode cX6_restore 23 = .ok (.ireturn, 1) := by decide +kernel
theorem dX6_restore_24 : decode cX6_restore 24 = .ok (.aload_n 0, 1) := by decide +kernel
theorem dX6_restore_25 : decode cX6_restore 25 = .ok (.getfield 12, 3) := by decide +kernel
theorem dX6_restore_28 : decode cX6_restore 28 = .ok (.aload_n 0, 1) := by decide +kernel
theorem dX6_restore_29 : decode cX6_restore 29 = .ok (.getfield 16, 3) := by decide +kernel
theorem dX6_restore_32 : decode cX6_restore 32 = .ok (.iload_n 1, 1) := by decide +kernel
theorem dX6_restore_33 : decode cX6_restore 33 = .ok (.aaload, 1) := by decide +kernel
theorem dX6_restore_34 : decode cX6_restore 34 = .ok (.invokevirtual 245, 3) := by decide +kernel
theorem dX6_restore_37 : decode cX6_restore 37 = .ok (.aload_n 0, 1) := by decide +kernel
theorem dX6_restore_38 : decode cX6_restore 38 = .ok (.getfield 29, 3) := by decide +kernel
theorem dX6_restore_41 : decode cX6_restore 41 = .ok (.invokevirtual 55, 3) := by decide +kernel
theorem dX6_restore_44 : decode cX6_restore 44 = .ok (.iconst 1, 1) := by decide +kernel
theorem dX6_restore_45 : decode cX6_restore 45 = .ok (.ireturn, 1) := by decide +kernel
set_option maxRecDepth 20000 in
theorem B_X6_restore_0 {G : Gx} {X : Cx} {h : PH} {k n : Nat} {Q : State → Prop} {S : List PV} {a0 : Nat} {a1 : Int} {PQ : Option PV → PH → Prop} (C : CX_X6_restore G X) (hk0 : k ≤ 0 := by decide) (hn0 : n ≤ 0 := by decide) (hM : CT_X6_isIn G X.2.1 [.inl a1, .inl 0, .inl 1] h PQ) (hS : S.length ≤ 8 := by decide) (kk : ∀ r h', PQ r h' → PW G X 2 Q k n 6 [some (.inr a0), some (.inl a1)] (r.toList ++ S) h') : PW G X 2 Q k n 0 [some (.inr a0), some (.inl a1)] (S) h := by
  refine pw_iload_n C dX6_restore_0 rfl ?_
  refine pw_iconst C dX6_restore_1 ?_
  refine pw_iconst C dX6_restore_2 ?_
  exact pw_callS C (na := 3) (As := [.inl a1, .inl 0, .inl 1]) (S := S) hM kw327 kw328 kw38 kw329 (by decide +kernel) rfl dX6_restore_3 (by decide) (by decide) hk0 hn0 (by first | exact hS | (simp only [List.length_cons]; omega)) kk
set_option maxRecDepth 20000 in
theorem B_X6_restore_6 {G : Gx} {X : Cx} {h : PH} {k n : Nat} {Q : State → Prop} {S : List PV} {a0 : Nat} {a1 : Int} {s0 : Int} (C : CX_X6_restore G X) (q1 : pR s0 := by first | assumption | (unfold pR; omega)) (kt : ¬ s0 = 0 → PW G X 2 Q k n 12 [some (.inr a0), some (.inl a1)] (S) h) (kf : s0 = 0 → PW G X 2 Q k n 9 [some (.inr a0), some (.inl a1)] (S) h) : PW G X 2 Q k n 6 [some (.inr a0), some (.inl a1)] (.inl s0 :: S) h := by
  exact pw_if_ne C 12 dX6_restore_6 (by decide) q1 kt kf
set_option maxRecDepth 20000 in
theorem B_X6_restore_9 {G : Gx} {X : Cx} {h : PH} {k n : Nat} {a0 : Nat} {a1 : Int} {PQ : Option PV → PH → Prop} (C : CX_X6_restore G X) (hq : PQ (some (.inl (-2))) h) : PW G X 2 (pw_E G X PQ k n) k n 9 [some (.inr a0), some (.inl a1)] [] h := by
  refine pw_bipush C dX6_restore_9 rfl ?_
  exact pw_ireturn C dX6_restore_11 hq
set_option maxRecDepth 20000 in
theorem B_X6_restore_12 {G : Gx} {X : Cx} {h : PH} {k n : Nat} {Q : State → Prop} {S : List PV} {a0 : Nat} {a1 : Int} {r2 : Nat} {x8 : Int} (C : CX_X6_restore G X) (t1 : ph_T h a0 = 6 := by first | assumption | rfl) (e3 : ph_R h a0 2 = r2 := by first | assumption | rfl) (t4 : ph_T h r2 = 9 := by first | assumption | rfl) (q5 : (0 : Int) ≤ a1 := by first | assumption | omega) (q6 : a1 < (ph_L h r2 : Int) := by first | assumption | omega) (q7 : pR a1 := by first | assumption | (unfold pR; omega)) (e9 : ph_I h r2 (Int.toNat a1) = x8 := by first | assumption | rfl) (q10 : pR x8 := by first | assumption | (unfold pR; omega)) (kt : ¬ x8 = 0 → PW G X 2 Q k n 24 [some (.inr a0), some (.inl a1)] (S) h) (kf : x8 = 0 → PW G X 2 Q k n 21 [some (.inr a0), some (.inl a1)] (S) h) : PW G X 2 Q k n 12 [some (.inr a0), some (.inl a1)] (S) h := by
  refine pw_aload_n C dX6_restore_12 rfl ?_
  refine pw_getR C (t := 6) (f := 2) rfl inF6 rfl (by decide) (by decide) rfl kw312 dX6_restore_13 t1 ?_
  rw [e3]
  refine pw_iload_n C dX6_restore_16 rfl ?_
  refine pw_zald C dX6_restore_17 t4 q5 q6 q7 ?_
  rw [e9]
  exact pw_if_ne C 24 dX6_restore_18 (by decide) q10 kt kf
set_option maxRecDepth 20000 in
theorem B_X6_restore_21 {G : Gx} {X : Cx} {h : PH} {k n : Nat} {a0 : Nat} {a1 : Int} {PQ : Option PV → PH → Prop} (C : CX_X6_restore G X) (hq : PQ (some (.inl (-3))) h) : PW G X 2 (pw_E G X PQ k n) k n 21 [some (.inr a0), some (.inl a1)] [] h := by
  refine pw_bipush C dX6_restore_21 rfl ?_
  exact pw_ireturn C dX6_restore_23 hq
set_option maxRecDepth 20000 in
theorem B_X6_restore_24 {G : Gx} {X : Cx} {h : PH} {k n : Nat} {Q : State → Prop} {S : List PV} {a0 : Nat} {a1 : Int} {r2 : Nat} {r5 : Nat} {m11 : Nat} {m11E : String} {r12 : Nat} {PQ : Option PV → PH → Prop} (C : CX_X6_restore G X) (hk0 : k ≤ 0 := by decide) (hn0 : n ≤ 0 := by decide) (t1 : ph_T h a0 = 6 := by first | assumption | rfl) (e3 : ph_R h a0 0 = r2 := by first | assumption | rfl) (t4 : ph_T h a0 = 6 := by first | assumption | rfl) (e6 : ph_R h a0 1 = r5 := by first | assumption | rfl) (m11a : ¬ m11 < 10 := by decide) (m11b : m11 < 14 := by decide) (t7 : ph_T h r5 = m11 := by first | assumption | rfl) (m11c : (pw_tys G)[m11 - 8]? = some (G.2.2.2.2 m11, .object m11E) := by rfl) (q8 : (0 : Int) ≤ a1 := by first | assumption | omega) (q9 : a1 < (ph_L h r5 : Int) := by first | assumption | omega) (q10 : pR a1 := by first | assumption | (unfold pR; omega)) (e13 : ph_R h r5 (Int.toNat a1) = r12 := by first | assumption | rfl) (t14 : ph_T h r2 = 5 := by first | assumption | rfl) (hM : CT_X5_copyFrom G X.2.1 [.inr r2, .inr r12] h PQ) (hS : S.length ≤ 8 := by decide) (kk : ∀ r h', PQ r h' → PW G X 2 Q k n 37 [some (.inr a0), some (.inl a1)] (r.toList ++ S) h') : PW G X 2 Q k n 24 [some (.inr a0), some (.inl a1)] (S) h := by
  refine pw_aload_n C dX6_restore_24 rfl ?_
  refine pw_getR C (t := 6) (f := 0) rfl inF6 rfl (by decide) (by decide) rfl kw310 dX6_restore_25 t1 ?_
  rw [e3]
  refine pw_aload_n C dX6_restore_28 rfl ?_
  refine pw_getR C (t := 6) (f := 1) rfl inF6 rfl (by decide) (by decide) rfl kw311 dX6_restore_29 t4 ?_
  rw [e6]
  refine pw_iload_n C dX6_restore_32 rfl ?_
  refine pw_aald C (t := m11) dX6_restore_33 t7 m11a m11b m11c q8 q9 q10 ?_
  rw [e13]
  exact pw_callV C (na := 1) (As := [.inr r12]) (S := S) hM t14 (by decide) (hcl := by rfl) kw645 kw646 kw647 kw39 kw648 (by decide +kernel) rfl dX6_restore_34 (by decide) (by decide) hk0 hn0 (by first | exact hS | (simp only [List.length_cons]; omega)) kk
set_option maxRecDepth 20000 in
theorem B_X6_restore_37 {G : Gx} {X : Cx} {h : PH} {k n : Nat} {Q : State → Prop} {S : List PV} {a0 : Nat} {a1 : Int} {r2 : Nat} {PQ : Option PV → PH → Prop} (C : CX_X6_restore G X) (hk0 : k ≤ 0 := by decide) (hn0 : n ≤ 0 := by decide) (t1 : ph_T h a0 = 6 := by first | assumption | rfl) (e3 : ph_R h a0 3 = r2 := by first | assumption | rfl) (t4 : ph_T h r2 = 2 := by first | assumption | rfl) (hM : CT_X2_forgetWays G X.2.1 [.inr r2] h PQ) (hS : S.length ≤ 8 := by decide) (kk : ∀ r h', PQ r h' → PW G X 2 Q k n 44 [some (.inr a0), some (.inl a1)] (r.toList ++ S) h') : PW G X 2 Q k n 37 [some (.inr a0), some (.inl a1)] (S) h := by
  refine pw_aload_n C dX6_restore_37 rfl ?_
  refine pw_getR C (t := 6) (f := 3) rfl inF6 rfl (by decide) (by decide) rfl kw313 dX6_restore_38 t1 ?_
  rw [e3]
  exact pw_callV C (na := 0) (As := []) (S := S) hM t4 (by decide) (hcl := by rfl) kw338 kw339 kw340 kw43 kw341 (by decide +kernel) rfl dX6_restore_41 (by decide) (by decide) hk0 hn0 (by first | exact hS | (simp only [List.length_cons]; omega)) kk
set_option maxRecDepth 20000 in
theorem B_X6_restore_44 {G : Gx} {X : Cx} {h : PH} {k n : Nat} {a0 : Nat} {a1 : Int} {PQ : Option PV → PH → Prop} (C : CX_X6_restore G X) (hq : PQ (some (.inl 1)) h) : PW G X 2 (pw_E G X PQ k n) k n 44 [some (.inr a0), some (.inl a1)] [] h := by
  refine pw_iconst C dX6_restore_44 ?_
  exact pw_ireturn C dX6_restore_45 hq
theorem dX6_isIn_0 : decode cX6_isIn 0 = .ok (.iload_n 1, 1) := by decide +kernel
theorem dX6_isIn_1 : decode cX6_isIn 1 = .ok (.iload_n 0, 1) := by decide +kernel
theorem dX6_isIn_2 : decode cX6_isIn 2 = .ok (.if_icmp .gt 12, 3) := by decide +kernel
theorem dX6_isIn_5 : decode cX6_isIn 5 = .ok (.iload_n 0, 1) := by decide +kernel
theorem dX6_isIn_6 : decode cX6_isIn 6 = .ok (.iload_n 2, 1) := by decide +kernel
theorem dX6_isIn_7 : decode cX6_isIn 7 = .ok (.if_icmp .gt 7, 3) := by decide +kernel
theorem dX6_isIn_10 : decode cX6_isIn 10 = .ok (.iconst 1, 1) := by decide +kernel
theorem dX6_isIn_11 : decode cX6_isIn 11 = .ok (.goto 4, 3) := by decide +kernel
theorem dX6_isIn_14 : decode cX6_isIn 14 = .ok (.iconst 0, 1) := by decide +kernel
theorem dX6_isIn_15 : decode cX6_isIn 15 = .ok (.ireturn, 1) := by decide +kernel
set_option maxRecDepth 20000 in
theorem B_X6_isIn_0 {G : Gx} {X : Cx} {h : PH} {k n : Nat} {Q : State → Prop} {S : List PV} {a0 : Int} {a1 : Int} {a2 : Int} (C : CX_X6_isIn G X) (q1 : pR a1 := by first | assumption | (unfold pR; omega)) (q2 : pR a0 := by first | assumption | (unfold pR; omega)) (kt : a0 < a1 → PW G X 3 Q k n 14 [some (.inl a0), some (.inl a1), some (.inl a2)] (S) h) (kf : ¬ a0 < a1 → PW G X 3 Q k n 5 [some (.inl a0), some (.inl a1), some (.inl a2)] (S) h) : PW G X 3 Q k n 0 [some (.inl a0), some (.inl a1), some (.inl a2)] (S) h := by
  refine pw_iload_n C dX6_isIn_0 rfl ?_
  refine pw_iload_n C dX6_isIn_1 rfl ?_
  exact pw_icmp_gt C 14 dX6_isIn_2 (by decide) q1 q2 kt kf
set_option maxRecDepth 20000 in
theorem B_X6_isIn_5 {G : Gx} {X : Cx} {h : PH} {k n : Nat} {Q : State → Prop} {S : List PV} {a0 : Int} {a1 : Int} {a2 : Int} (C : CX_X6_isIn G X) (q1 : pR a0 := by first | assumption | (unfold pR; omega)) (q2 : pR a2 := by first | assumption | (unfold pR; omega)) (kt : a2 < a0 → PW G X 3 Q k n 14 [some (.inl a0), some (.inl a1), some (.inl a2)] (S) h) (kf : ¬ a2 < a0 → PW G X 3 Q k n 10 [some (.inl a0), some (.inl a1), some (.inl a2)] (S) h) : PW G X 3 Q k n 5 [some (.inl a0), some (.inl a1), some (.inl a2)] (S) h := by
  refine pw_iload_n C dX6_isIn_5 rfl ?_
  refine pw_iload_n C dX6_isIn_6 rfl ?_
  exact pw_icmp_gt C 14 dX6_isIn_7 (by decide) q1 q2 kt kf
set_option maxRecDepth 20000 in
theorem B_X6_isIn_10 {G : Gx} {X : Cx} {h : PH} {k n : Nat} {Q : State → Prop} {S : List PV} {a0 : Int} {a1 : Int} {a2 : Int} (C : CX_X6_isIn G X) (kk : PW G X 3 Q k n 15 [some (.inl a0), some (.inl a1), some (.inl a2)] (.inl 1 :: S) h) : PW G X 3 Q k n 10 [some (.inl a0), some (.inl a1), some (.inl a2)] (S) h := by
  refine pw_iconst C dX6_isIn_10 ?_
  refine pw_goto C 15 dX6_isIn_11 (by decide) ?_
  exact kk
set_option maxRecDepth 20000 in
theorem B_X6_isIn_14 {G : Gx} {X : Cx} {h : PH} {k n : Nat} {Q : State → Prop} {S : List PV} {a0 : Int} {a1 : Int} {a2 : Int} (C : CX_X6_isIn G X) (kk : PW G X 3 Q k n 15 [some (.inl a0), some (.inl a1), some (.inl a2)] (.inl 0 :: S) h) : PW G X 3 Q k n 14 [some (.inl a0), some (.inl a1), some (.inl a2)] (S) h := by
  refine pw_iconst C dX6_isIn_14 ?_
  exact kk
set_option maxRecDepth 20000 in
theorem B_X6_isIn_15 {G : Gx} {X : Cx} {h : PH} {k n : Nat} {a0 : Int} {a1 : Int} {a2 : Int} {s0 : Int} {PQ : Option PV → PH → Prop} (C : CX_X6_isIn G X) (q1 : (s0 : Int) = 0 ∨ (s0 : Int) = 1 := by omega) (hq : PQ (some (.inl s0)) h) : PW G X 3 (pw_E G X PQ k n) k n 15 [some (.inl a0), some (.inl a1), some (.inl a2)] [.inl s0] h := by
  exact pw_zreturn C dX6_isIn_15 q1 hq
theorem dX6_isDish_0 : decode cX6_isDish 0 = .ok (.iload_n 0, 1) := by decide +kernel
theorem dX6_isDish_1 : decode cX6_isDish 1 = .ok (.iconst 0, 1) := by decide +kernel
theorem dX6_isDish_2 : decode cX6_isDish 2 = .ok (.iconst 3, 1) := by decide +kernel
theorem dX6_isDish_3 : decode cX6_isDish 3 = .ok (.invokestatic 33, 3) := by decide +kernel
theorem dX6_isDish_6 : decode cX6_isDish 6 = .ok (.ireturn, 1) := by decide +kernel
set_option maxRecDepth 20000 in
theorem B_X6_isDish_0 {G : Gx} {X : Cx} {h : PH} {k n : Nat} {Q : State → Prop} {S : List PV} {a0 : Int} {PQ : Option PV → PH → Prop} (C : CX_X6_isDish G X) (hk0 : k ≤ 0 := by decide) (hn0 : n ≤ 0 := by decide) (hM : CT_X6_isIn G X.2.1 [.inl a0, .inl 0, .inl 3] h PQ) (hS : S.length ≤ 8 := by decide) (kk : ∀ r h', PQ r h' → PW G X 1 Q k n 6 [some (.inl a0)] (r.toList ++ S) h') : PW G X 1 Q k n 0 [some (.inl a0)] (S) h := by
  refine pw_iload_n C dX6_isDish_0 rfl ?_
  refine pw_iconst C dX6_isDish_1 ?_
  refine pw_iconst C dX6_isDish_2 ?_
  exact pw_callS C (na := 3) (As := [.inl a0, .inl 0, .inl 3]) (S := S) hM kw327 kw328 kw38 kw329 (by decide +kernel) rfl dX6_isDish_3 (by decide) (by decide) hk0 hn0 (by first | exact hS | (simp only [List.length_cons]; omega)) kk
set_option maxRecDepth 20000 in
theorem B_X6_isDish_6 {G : Gx} {X : Cx} {h : PH} {k n : Nat} {a0 : Int} {s0 : Int} {PQ : Option PV → PH → Prop} (C : CX_X6_isDish G X) (q1 : (s0 : Int) = 0 ∨ (s0 : Int) = 1 := by omega) (hq : PQ (some (.inl s0)) h) : PW G X 1 (pw_E G X PQ k n) k n 6 [some (.inl a0)] [.inl s0] h := by
  exact pw_zreturn C dX6_isDish_6 q1 hq
theorem dX6_isSide_0 : decode cX6_isSide 0 = .ok (.iload_n 0, 1) := by decide +kernel
theorem dX6_isSide_1 : decode cX6_isSide 1 = .ok (.iconst 0, 1) := by decide +kernel
theorem dX6_isSide_2 : decode cX6_isSide 2 = .ok (.bipush 23, 2) := by decide +kernel
theorem dX6_isSide_4 : decode cX6_isSide 4 = .ok (.invokestatic 33, 3) := by decide +kernel
theorem dX6_isSide_7 : decode cX6_isSide 7 = .ok (.ireturn, 1) := by decide +kernel
set_option maxRecDepth 20000 in
theorem B_X6_isSide_0 {G : Gx} {X : Cx} {h : PH} {k n : Nat} {Q : State → Prop} {S : List PV} {a0 : Int} {PQ : Option PV → PH → Prop} (C : CX_X6_isSide G X) (hk0 : k ≤ 0 := by decide) (hn0 : n ≤ 0 := by decide) (hM : CT_X6_isIn G X.2.1 [.inl a0, .inl 0, .inl 23] h PQ) (hS : S.length ≤ 8 := by decide) (kk : ∀ r h', PQ r h' → PW G X 1 Q k n 7 [some (.inl a0)] (r.toList ++ S) h') : PW G X 1 Q k n 0 [some (.inl a0)] (S) h := by
  refine pw_iload_n C dX6_isSide_0 rfl ?_
  refine pw_iconst C dX6_isSide_1 ?_
  refine pw_bipush C dX6_isSide_2 rfl ?_
  exact pw_callS C (na := 3) (As := [.inl a0, .inl 0, .inl 23]) (S := S) hM kw327 kw328 kw38 kw329 (by decide +kernel) rfl dX6_isSide_4 (by decide) (by decide) hk0 hn0 (by first | exact hS | (simp only [List.length_cons]; omega)) kk
set_option maxRecDepth 20000 in
theorem B_X6_isSide_7 {G : Gx} {X : Cx} {h : PH} {k n : Nat} {a0 : Int} {s0 : Int} {PQ : Option PV → PH → Prop} (C : CX_X6_isSide G X) (q1 : (s0 : Int) = 0 ∨ (s0 : Int) = 1 := by omega) (hq : PQ (some (.inl s0)) h) : PW G X 1 (pw_E G X PQ k n) k n 7 [some (.inl a0)] [.inl s0] h := by
  exact pw_zreturn C dX6_isSide_7 q1 hq
theorem dX6_isHeight_0 : decode cX6_isHeight 0 = .ok (.iload_n 0, 1) := by decide +kernel
theorem dX6_isHeight_1 : decode cX6_isHeight 1 = .ok (.iconst 0, 1) := by decide +kernel
theorem dX6_isHeight_2 : decode cX6_isHeight 2 = .ok (.bipush 6, 2) := by decide +kernel
theorem dX6_isHeight_4 : decode cX6_isHeight 4 = .ok (.invokestatic 33, 3) := by decide +kernel
theorem dX6_isHeight_7 : decode cX6_isHeight 7 = .ok (.ireturn, 1) := by decide +kernel
set_option maxRecDepth 20000 in
theorem B_X6_isHeight_0 {G : Gx} {X : Cx} {h : PH} {k n : Nat} {Q : State → Prop} {S : List PV} {a0 : Int} {PQ : Option PV → PH → Prop} (C : CX_X6_isHeight G X) (hk0 : k ≤ 0 := by decide) (hn0 : n ≤ 0 := by decide) (hM : CT_X6_isIn G X.2.1 [.inl a0, .inl 0, .inl 6] h PQ) (hS : S.length ≤ 8 := by decide) (kk : ∀ r h', PQ r h' → PW G X 1 Q k n 7 [some (.inl a0)] (r.toList ++ S) h') : PW G X 1 Q k n 0 [some (.inl a0)] (S) h := by
  refine pw_iload_n C dX6_isHeight_0 rfl ?_
  refine pw_iconst C dX6_isHeight_1 ?_
  refine pw_bipush C dX6_isHeight_2 rfl ?_
  exact pw_callS C (na := 3) (As := [.inl a0, .inl 0, .inl 6]) (S := S) hM kw327 kw328 kw38 kw329 (by decide +kernel) rfl dX6_isHeight_4 (by decide) (by decide) hk0 hn0 (by first | exact hS | (simp only [List.length_cons]; omega)) kk
set_option maxRecDepth 20000 in
theorem B_X6_isHeight_7 {G : Gx} {X : Cx} {h : PH} {k n : Nat} {a0 : Int} {s0 : Int} {PQ : Option PV → PH → Prop} (C : CX_X6_isHeight G X) (q1 : (s0 : Int) = 0 ∨ (s0 : Int) = 1 := by omega) (hq : PQ (some (.inl s0)) h) : PW G X 1 (pw_E G X PQ k n) k n 7 [some (.inl a0)] [.inl s0] h := by
  exact pw_zreturn C dX6_isHeight_7 q1 hq
theorem dX6_isDirection_0 : decode cX6_isDirection 0 = .ok (.iload_n 0, 1) := by decide +kernel
theorem dX6_isDirection_1 : decode cX6_isDirection 1 = .ok (.invokestatic 108, 3) := by decide +kernel
theorem dX6_isDirection_4 : decode cX6_isDirection 4 = .ok (.ifCond .eq 14, 3) := by decide +kernel
theorem dX6_isDirection_7 : decode cX6_isDirection 7 = .ok (.iload_n 1, 1) := by decide +kernel
theorem dX6_isDirection_8 : decode cX6_isDirection 8 = .ok (.invokestatic 89, 3) := by decide +kernel
theorem dX6_isDirection_11 : decode cX6_isDirection 11 = .ok (.ifCond .eq 7, 3) := by decide +kernel
theorem dX6_isDirection_14 : decode cX6_isDirection 14 = .ok (.iconst 1, 1) := by decide +kernel
theorem dX6_isDirection_15 : decode cX6_isDirection 15 = .ok (.goto 4, 3) := by decide +kernel
theorem dX6_isDirection_18 : decode cX6_isDirection 18 = .ok (.iconst 0, 1) := by decide +kernel
theorem dX6_isDirection_19 : decode cX6_isDirection 19 = .ok (.ireturn, 1) := by decide +kernel
set_option maxRecDepth 20000 in
theorem B_X6_isDirection_0 {G : Gx} {X : Cx} {h : PH} {k n : Nat} {Q : State → Prop} {S : List PV} {a0 : Int} {a1 : Int} {PQ : Option PV → PH → Prop} (C : CX_X6_isDirection G X) (hk0 : k ≤ 0 := by decide) (hn0 : n ≤ 0 := by decide) (hM : CT_X6_isSide G X.2.1 [.inl a0] h PQ) (hS : S.length ≤ 8 := by decide) (kk : ∀ r h', PQ r h' → PW G X 2 Q k n 4 [some (.inl a0), some (.inl a1)] (r.toList ++ S) h') : PW G X 2 Q k n 0 [some (.inl a0), some (.inl a1)] (S) h := by
  refine pw_iload_n C dX6_isDirection_0 rfl ?_
  exact pw_callS C (na := 1) (As := [.inl a0]) (S := S) hM kw349 kw350 kw38 kw351 (by decide +kernel) rfl dX6_isDirection_1 (by decide) (by decide) hk0 hn0 (by first | exact hS | (simp only [List.length_cons]; omega)) kk
set_option maxRecDepth 20000 in
theorem B_X6_isDirection_4 {G : Gx} {X : Cx} {h : PH} {k n : Nat} {Q : State → Prop} {S : List PV} {a0 : Int} {a1 : Int} {s0 : Int} (C : CX_X6_isDirection G X) (q1 : pR s0 := by first | assumption | (unfold pR; omega)) (kt : s0 = 0 → PW G X 2 Q k n 18 [some (.inl a0), some (.inl a1)] (S) h) (kf : ¬ s0 = 0 → PW G X 2 Q k n 7 [some (.inl a0), some (.inl a1)] (S) h) : PW G X 2 Q k n 4 [some (.inl a0), some (.inl a1)] (.inl s0 :: S) h := by
  exact pw_if_eq C 18 dX6_isDirection_4 (by decide) q1 kt kf
set_option maxRecDepth 20000 in
theorem B_X6_isDirection_7 {G : Gx} {X : Cx} {h : PH} {k n : Nat} {Q : State → Prop} {S : List PV} {a0 : Int} {a1 : Int} {PQ : Option PV → PH → Prop} (C : CX_X6_isDirection G X) (hk0 : k ≤ 0 := by decide) (hn0 : n ≤ 0 := by decide) (hM : CT_X6_isHeight G X.2.1 [.inl a1] h PQ) (hS : S.length ≤ 8 := by decide) (kk : ∀ r h', PQ r h' → PW G X 2 Q k n 11 [some (.inl a0), some (.inl a1)] (r.toList ++ S) h') : PW G X 2 Q k n 7 [some (.inl a0), some (.inl a1)] (S) h := by
  refine pw_iload_n C dX6_isDirection_7 rfl ?_
  exact pw_callS C (na := 1) (As := [.inl a1]) (S := S) hM kw352 kw353 kw38 kw354 (by decide +kernel) rfl dX6_isDirection_8 (by decide) (by decide) hk0 hn0 (by first | exact hS | (simp only [List.length_cons]; omega)) kk
set_option maxRecDepth 20000 in
theorem B_X6_isDirection_11 {G : Gx} {X : Cx} {h : PH} {k n : Nat} {Q : State → Prop} {S : List PV} {a0 : Int} {a1 : Int} {s0 : Int} (C : CX_X6_isDirection G X) (q1 : pR s0 := by first | assumption | (unfold pR; omega)) (kt : s0 = 0 → PW G X 2 Q k n 18 [some (.inl a0), some (.inl a1)] (S) h) (kf : ¬ s0 = 0 → PW G X 2 Q k n 14 [some (.inl a0), some (.inl a1)] (S) h) : PW G X 2 Q k n 11 [some (.inl a0), some (.inl a1)] (.inl s0 :: S) h := by
  exact pw_if_eq C 18 dX6_isDirection_11 (by decide) q1 kt kf
set_option maxRecDepth 20000 in
theorem B_X6_isDirection_14 {G : Gx} {X : Cx} {h : PH} {k n : Nat} {Q : State → Prop} {S : List PV} {a0 : Int} {a1 : Int} (C : CX_X6_isDirection G X) (kk : PW G X 2 Q k n 19 [some (.inl a0), some (.inl a1)] (.inl 1 :: S) h) : PW G X 2 Q k n 14 [some (.inl a0), some (.inl a1)] (S) h := by
  refine pw_iconst C dX6_isDirection_14 ?_
  refine pw_goto C 19 dX6_isDirection_15 (by decide) ?_
  exact kk
set_option maxRecDepth 20000 in
theorem B_X6_isDirection_18 {G : Gx} {X : Cx} {h : PH} {k n : Nat} {Q : State → Prop} {S : List PV} {a0 : Int} {a1 : Int} (C : CX_X6_isDirection G X) (kk : PW G X 2 Q k n 19 [some (.inl a0), some (.inl a1)] (.inl 0 :: S) h) : PW G X 2 Q k n 18 [some (.inl a0), some (.inl a1)] (S) h := by
  refine pw_iconst C dX6_isDirection_18 ?_
  exact kk
set_option maxRecDepth 20000 in
theorem B_X6_isDirection_19 {G : Gx} {X : Cx} {h : PH} {k n : Nat} {a0 : Int} {a1 : Int} {s0 : Int} {PQ : Option PV → PH → Prop} (C : CX_X6_isDirection G X) (q1 : (s0 : Int) = 0 ∨ (s0 : Int) = 1 := by omega) (hq : PQ (some (.inl s0)) h) : PW G X 2 (pw_E G X PQ k n) k n 19 [some (.inl a0), some (.inl a1)] [.inl s0] h := by
  exact pw_zreturn C dX6_isDirection_19 q1 hq
theorem dX6_isTick_0 : decode cX6_isTick 0 = .ok (.iload_n 0, 1) := by decide +kernel
theorem dX6_isTick_1 : decode cX6_isTick 1 = .ok (.iconst 0, 1) := by decide +kernel
theorem dX6_isTick_2 : decode cX6_isTick 2 = .ok (.bipush 79, 2) := by decide +kernel
theorem dX6_isTick_4 : decode cX6_isTick 4 = .ok (.invokestatic 33, 3) := by decide +kernel
theorem dX6_isTick_7 : decode cX6_isTick 7 = .ok (.ireturn, 1) := by decide +kernel
set_option maxRecDepth 20000 in
theorem B_X6_isTick_0 {G : Gx} {X : Cx} {h : PH} {k n : Nat} {Q : State → Prop} {S : List PV} {a0 : Int} {PQ : Option PV → PH → Prop} (C : CX_X6_isTick G X) (hk0 : k ≤ 0 := by decide) (hn0 : n ≤ 0 := by decide) (hM : CT_X6_isIn G X.2.1 [.inl a0, .inl 0, .inl 79] h PQ) (hS : S.length ≤ 8 := by decide) (kk : ∀ r h', PQ r h' → PW G X 1 Q k n 7 [some (.inl a0)] (r.toList ++ S) h') : PW G X 1 Q k n 0 [some (.inl a0)] (S) h := by
  refine pw_iload_n C dX6_isTick_0 rfl ?_
  refine pw_iconst C dX6_isTick_1 ?_
  refine pw_bipush C dX6_isTick_2 rfl ?_
  exact pw_callS C (na := 3) (As := [.inl a0, .inl 0, .inl 79]) (S := S) hM kw327 kw328 kw38 kw329 (by decide +kernel) rfl dX6_isTick_4 (by decide) (by decide) hk0 hn0 (by first | exact hS | (simp only [List.length_cons]; omega)) kk
set_option maxRecDepth 20000 in
theorem B_X6_isTick_7 {G : Gx} {X : Cx} {h : PH} {k n : Nat} {a0 : Int} {s0 : Int} {PQ : Option PV → PH → Prop} (C : CX_X6_isTick G X) (q1 : (s0 : Int) = 0 ∨ (s0 : Int) = 1 := by omega) (hq : PQ (some (.inl s0)) h) : PW G X 1 (pw_E G X PQ k n) k n 7 [some (.inl a0)] [.inl s0] h := by
  exact pw_zreturn C dX6_isTick_7 q1 hq
theorem dX6_isSetting_0 : decode cX6_isSetting 0 = .ok (.iload_n 0, 1) := by decide +kernel
theorem dX6_isSetting_1 : decode cX6_isSetting 1 = .ok (.ifCond .ne 14, 3) := by decide +kernel
theorem dX6_isSetting_4 : decode cX6_isSetting 4 = .ok (.iload_n 1, 1) := by decide +kernel
theorem dX6_isSetting_5 : decode cX6_isSetting 5 = .ok (.bipush 12, 2) := by decide +kernel
theorem dX6_isSetting_7 : decode cX6_isSetting 7 = .ok (.bipush 36, 2) := by decide +kernel
theorem dX6_isSetting_9 : decode cX6_isSetting 9 = .ok (.invokestatic 33, 3) := by decide +kernel
theorem dX6_isSetting_12 : decode cX6_isSetting 12 = .ok (.ifCond .ne 17, 3) := by decide +kernel
theorem dX6_isSetting_15 : decode cX6_isSetting 15 = .ok (.iload_n 0, 1) := by decide +kernel
theorem dX6_isSetting_16 : decode cX6_isSetting 16 = .ok (.iconst 1, 1) := by decide +kernel
theorem dX6_isSetting_17 : decode cX6_isSetting 17 = .ok (.if_icmp .ne 16, 3) := by decide +kernel
theorem dX6_isSetting_20 : decode cX6_isSetting 20 = .ok (.iload_n 1, 1) := by decide +kernel
theorem dX6_isSetting_21 : decode cX6_isSetting 21 = .ok (.iconst 1, 1) := by decide +kernel
theorem dX6_isSetting_22 : decode cX6_isSetting 22 = .ok (.iconst 3, 1) := by decide +kernel
theorem dX6_isSetting_23 : decode cX6_isSetting 23 = .ok (.invokestatic 33, 3) := by decide +kernel
theorem dX6_isSetting_26 : decode cX6_isSetting 26 = .ok (.ifCond .eq 7, 3) := by decide +kernel
theorem dX6_isSetting_29 : decode cX6_isSetting 29 = .ok (.iconst 1, 1) := by decide +kernel
theorem dX6_isSetting_30 : decode cX6_isSetting 30 = .ok (.goto 4, 3) := by decide +kernel
theorem dX6_isSetting_33 : decode cX6_isSetting 33 = .ok (.iconst 0, 1) := by decide +kernel
theorem dX6_isSetting_34 : decode cX6_isSetting 34 = .ok (.ireturn, 1) := by decide +kernel
set_option maxRecDepth 20000 in
theorem B_X6_isSetting_0 {G : Gx} {X : Cx} {h : PH} {k n : Nat} {Q : State → Prop} {S : List PV} {a0 : Int} {a1 : Int} (C : CX_X6_isSetting G X) (q1 : pR a0 := by first | assumption | (unfold pR; omega)) (kt : ¬ a0 = 0 → PW G X 2 Q k n 15 [some (.inl a0), some (.inl a1)] (S) h) (kf : a0 = 0 → PW G X 2 Q k n 4 [some (.inl a0), some (.inl a1)] (S) h) : PW G X 2 Q k n 0 [some (.inl a0), some (.inl a1)] (S) h := by
  refine pw_iload_n C dX6_isSetting_0 rfl ?_
  exact pw_if_ne C 15 dX6_isSetting_1 (by decide) q1 kt kf
set_option maxRecDepth 20000 in
theorem B_X6_isSetting_4 {G : Gx} {X : Cx} {h : PH} {k n : Nat} {Q : State → Prop} {S : List PV} {a0 : Int} {a1 : Int} {PQ : Option PV → PH → Prop} (C : CX_X6_isSetting G X) (hk0 : k ≤ 0 := by decide) (hn0 : n ≤ 0 := by decide) (hM : CT_X6_isIn G X.2.1 [.inl a1, .inl 12, .inl 36] h PQ) (hS : S.length ≤ 8 := by decide) (kk : ∀ r h', PQ r h' → PW G X 2 Q k n 12 [some (.inl a0), some (.inl a1)] (r.toList ++ S) h') : PW G X 2 Q k n 4 [some (.inl a0), some (.inl a1)] (S) h := by
  refine pw_iload_n C dX6_isSetting_4 rfl ?_
  refine pw_bipush C dX6_isSetting_5 rfl ?_
  refine pw_bipush C dX6_isSetting_7 rfl ?_
  exact pw_callS C (na := 3) (As := [.inl a1, .inl 12, .inl 36]) (S := S) hM kw327 kw328 kw38 kw329 (by decide +kernel) rfl dX6_isSetting_9 (by decide) (by decide) hk0 hn0 (by first | exact hS | (simp only [List.length_cons]; omega)) kk
set_option maxRecDepth 20000 in
theorem B_X6_isSetting_12 {G : Gx} {X : Cx} {h : PH} {k n : Nat} {Q : State → Prop} {S : List PV} {a0 : Int} {a1 : Int} {s0 : Int} (C : CX_X6_isSetting G X) (q1 : pR s0 := by first | assumption | (unfold pR; omega)) (kt : ¬ s0 = 0 → PW G X 2 Q k n 29 [some (.inl a0), some (.inl a1)] (S) h) (kf : s0 = 0 → PW G X 2 Q k n 15 [some (.inl a0), some (.inl a1)] (S) h) : PW G X 2 Q k n 12 [some (.inl a0), some (.inl a1)] (.inl s0 :: S) h := by
  exact pw_if_ne C 29 dX6_isSetting_12 (by decide) q1 kt kf
set_option maxRecDepth 20000 in
theorem B_X6_isSetting_15 {G : Gx} {X : Cx} {h : PH} {k n : Nat} {Q : State → Prop} {S : List PV} {a0 : Int} {a1 : Int} (C : CX_X6_isSetting G X) (q1 : pR a0 := by first | assumption | (unfold pR; omega)) (q2 : pR 1 := by first | assumption | (unfold pR; omega)) (kt : ¬ a0 = 1 → PW G X 2 Q k n 33 [some (.inl a0), some (.inl a1)] (S) h) (kf : a0 = 1 → PW G X 2 Q k n 20 [some (.inl a0), some (.inl a1)] (S) h) : PW G X 2 Q k n 15 [some (.inl a0), some (.inl a1)] (S) h := by
  refine pw_iload_n C dX6_isSetting_15 rfl ?_
  refine pw_iconst C dX6_isSetting_16 ?_
  exact pw_icmp_ne C 33 dX6_isSetting_17 (by decide) q1 q2 kt kf
set_option maxRecDepth 20000 in
theorem B_X6_isSetting_20 {G : Gx} {X : Cx} {h : PH} {k n : Nat} {Q : State → Prop} {S : List PV} {a0 : Int} {a1 : Int} {PQ : Option PV → PH → Prop} (C : CX_X6_isSetting G X) (hk0 : k ≤ 0 := by decide) (hn0 : n ≤ 0 := by decide) (hM : CT_X6_isIn G X.2.1 [.inl a1, .inl 1, .inl 3] h PQ) (hS : S.length ≤ 8 := by decide) (kk : ∀ r h', PQ r h' → PW G X 2 Q k n 26 [some (.inl a0), some (.inl a1)] (r.toList ++ S) h') : PW G X 2 Q k n 20 [some (.inl a0), some (.inl a1)] (S) h := by
  refine pw_iload_n C dX6_isSetting_20 rfl ?_
  refine pw_iconst C dX6_isSetting_21 ?_
  refine pw_iconst C dX6_isSetting_22 ?_
  exact pw_callS C (na := 3) (As := [.inl a1, .inl 1, .inl 3]) (S := S) hM kw327 kw328 kw38 kw329 (by decide +kernel) rfl dX6_isSetting_23 (by decide) (by decide) hk0 hn0 (by first | exact hS | (simp only [List.length_cons]; omega)) kk
set_option maxRecDepth 20000 in
theorem B_X6_isSetting_26 {G : Gx} {X : Cx} {h : PH} {k n : Nat} {Q : State → Prop} {S : List PV} {a0 : Int} {a1 : Int} {s0 : Int} (C : CX_X6_isSetting G X) (q1 : pR s0 := by first | assumption | (unfold pR; omega)) (kt : s0 = 0 → PW G X 2 Q k n 33 [some (.inl a0), some (.inl a1)] (S) h) (kf : ¬ s0 = 0 → PW G X 2 Q k n 29 [some (.inl a0), some (.inl a1)] (S) h) : PW G X 2 Q k n 26 [some (.inl a0), some (.inl a1)] (.inl s0 :: S) h := by
  exact pw_if_eq C 33 dX6_isSetting_26 (by decide) q1 kt kf
set_option maxRecDepth 20000 in
theorem B_X6_isSetting_29 {G : Gx} {X : Cx} {h : PH} {k n : Nat} {Q : State → Prop} {S : List PV} {a0 : Int} {a1 : Int} (C : CX_X6_isSetting G X) (kk : PW G X 2 Q k n 34 [some (.inl a0), some (.inl a1)] (.inl 1 :: S) h) : PW G X 2 Q k n 29 [some (.inl a0), some (.inl a1)] (S) h := by
  refine pw_iconst C dX6_isSetting_29 ?_
  refine pw_goto C 34 dX6_isSetting_30 (by decide) ?_
  exact kk
set_option maxRecDepth 20000 in
theorem B_X6_isSetting_33 {G : Gx} {X : Cx} {h : PH} {k n : Nat} {Q : State → Prop} {S : List PV} {a0 : Int} {a1 : Int} (C : CX_X6_isSetting G X) (kk : PW G X 2 Q k n 34 [some (.inl a0), some (.inl a1)] (.inl 0 :: S) h) : PW G X 2 Q k n 33 [some (.inl a0), some (.inl a1)] (S) h := by
  refine pw_iconst C dX6_isSetting_33 ?_
  exact kk
set_option maxRecDepth 20000 in
theorem B_X6_isSetting_34 {G : Gx} {X : Cx} {h : PH} {k n : Nat} {a0 : Int} {a1 : Int} {s0 : Int} {PQ : Option PV → PH → Prop} (C : CX_X6_isSetting G X) (q1 : (s0 : Int) = 0 ∨ (s0 : Int) = 1 := by omega) (hq : PQ (some (.inl s0)) h) : PW G X 2 (pw_E G X PQ k n) k n 34 [some (.inl a0), some (.inl a1)] [.inl s0] h := by
  exact pw_zreturn C dX6_isSetting_34 q1 hq
theorem dX6_sideOf_0 : decode cX6_sideOf 0 = .ok (.iload_n 0, 1) := by decide +kernel
theorem dX6_sideOf_1 : decode cX6_sideOf 1 = .ok (.bipush 48, 2) := by decide +kernel
theorem dX6_sideOf_3 : decode cX6_sideOf 3 = .ok (.iadd, 1) := by decide +kernel
theorem dX6_sideOf_4 : decode cX6_sideOf 4 = .ok (.bipush 24, 2) := by decide +kernel
theorem dX6_sideOf_6 : decode cX6_sideOf 6 = .ok (.irem, 1) := by decide +kernel
theorem dX6_sideOf_7 : decode cX6_sideOf 7 = .ok (.ireturn, 1) := by decide +kernel
set_option maxRecDepth 20000 in
theorem B_X6_sideOf_0 {G : Gx} {X : Cx} {h : PH} {k n : Nat} {a0 : Int} {PQ : Option PV → PH → Prop} (C : CX_X6_sideOf G X) (q1 : pR (a0 + 48) := by first | assumption | (unfold pR; omega)) (q2 : pR 24 := by first | assumption | (unfold pR; omega)) (q3 : (0 : Int) ≤ a0 + 48 := by first | assumption | omega) (q4 : (0 : Int) < 24 := by first | assumption | omega) (hq : PQ (some (.inl ((a0 + 48) % 24))) h) : PW G X 1 (pw_E G X PQ k n) k n 0 [some (.inl a0)] [] h := by
  refine pw_iload_n C dX6_sideOf_0 rfl ?_
  refine pw_bipush C dX6_sideOf_1 rfl ?_
  refine pw_iadd C dX6_sideOf_3 ?_
  refine pw_bipush C dX6_sideOf_4 rfl ?_
  refine pw_irem C dX6_sideOf_6 q1 q2 q3 q4 ?_
  exact pw_ireturn C dX6_sideOf_7 hq
theorem dX6_bestDish_0 : decode cX6_bestDish 0 = .ok (.bipush (-6), 2) := by decide +kernel
theorem dX6_bestDish_2 : decode cX6_bestDish 2 = .ok (.istore_n 2, 1) := by decide +kernel
theorem dX6_bestDish_3 : decode cX6_bestDish 3 = .ok (.iconst 0, 1) := by decide +kernel
theorem dX6_bestDish_4 : decode cX6_bestDish 4 = .ok (.istore_n 3, 1) := by decide +kernel
theorem dX6_bestDish_5 : decode cX6_bestDish 5 = .ok (.iload_n 3, 1) := by decide +kernel
theorem dX6_bestDish_6 : decode cX6_bestDish 6 = .ok (.iconst 4, 1) := by decide +kernel
theorem dX6_bestDish_7 : decode cX6_bestDish 7 = .ok (.if_icmp .ge 54, 3) := by decide +kernel
theorem dX6_bestDish_10 : decode cX6_bestDish 10 = .ok (.aload_n 0, 1) := by decide +kernel
theorem dX6_bestDish_11 : decode cX6_bestDish 11 = .ok (.getfield 29, 3) := by decide +kernel
theorem dX6_bestDish_14 : decode cX6_bestDish 14 = .ok (.iload_n 3, 1) := by decide +kernel
theorem dX6_bestDish_15 : decode cX6_bestDish 15 = .ok (.aload_n 1, 1) := by decide +kernel
theorem dX6_bestDish_16 : decode cX6_bestDish 16 = .ok (.invokevirtual 157, 3) := by decide +kernel
theorem dX6_bestDish_19 : decode cX6_bestDish 19 = .ok (.astore 4, 2) := by decide +kernel
theorem dX6_bestDish_21 : decode cX6_bestDish 21 = .ok (.aload 4, 2) := by decide +kernel
theorem dX6_bestDish_23 : decode cX6_bestDish 23 = .ok (.getfield 161, 3) := by decide +kernel
theorem dX6_bestDish_26 : decode cX6_bestDish 26 = .ok (.ifCond .eq 29, 3) := by decide +kernel
theorem dX6_bestDish_29 : decode cX6_bestDish 29 = .ok (.iload_n 2, 1) := by decide +kernel
theorem dX6_bestDish_30 : decode cX6_bestDish 30 = .ok (.invokestatic 76, 3) := by decide +kernel
theorem dX6_bestDish_33 : decode cX6_bestDish 33 = .ok (.ifCond .eq 20, 3) := by decide +kernel
theorem dX6_bestDish_36 : decode cX6_bestDish 36 = .ok (.aload 4, 2) := by decide +kernel
theorem dX6_bestDish_38 : decode cX6_bestDish 38 = .ok (.aload_n 0, 1) := by decide +kernel
theorem dX6_bestDish_39 : decode cX6_bestDish 39 = .ok (.getfield 29, 3) := by decide +kernel
theorem dX6_bestDish_42 : decode cX6_bestDish 42 = .ok (.iload_n 2, 1) := by decide +kernel
theorem dX6_bestDish_43 : decode cX6_bestDish 43 = .ok (.aload_n 1, 1) := by decide +kernel
theorem dX6_bestDish_44 : decode cX6_bestDish 44 = .ok (.invokevirtual 157, 3) := by decide +kernel
theorem dX6_bestDish_47 : decode cX6_bestDish 47 = .ok (.invokevirtual 248, 3) := by decide +kernel
theorem dX6_bestDish_50 : decode cX6_bestDish 50 = .ok (.ifCond .eq 5, 3) := by decide +kernel
theorem dX6_bestDish_53 : decode cX6_bestDish 53 = .ok (.iload_n 3, 1) := by decide +kernel
theorem dX6_bestDish_54 : decode cX6_bestDish 54 = .ok (.istore_n 2, 1) := by decide +kernel
theorem dX6_bestDish_55 : decode cX6_bestDish 55 = .ok (.iinc 3 1, 3) := by decide +kernel
theorem dX6_bestDish_58 : decode cX6_bestDish 58 = .ok (.goto (-53), 3) := by decide +kernel
theorem dX6_bestDish_61 : decode cX6_bestDish 61 = .ok (.iload_n 2, 1) := by decide +kernel
theorem dX6_bestDish_62 : decode cX6_bestDish 62 = .ok (.ireturn, 1) := by decide +kernel
set_option maxRecDepth 20000 in
theorem B_X6_bestDish_0 {G : Gx} {X : Cx} {h : PH} {k n : Nat} {Q : State → Prop} {S : List PV} {a0 : Nat} {a1 : Nat} (C : CX_X6_bestDish G X) (kk : PW G X 5 Q k n 5 [some (.inr a0), some (.inr a1), some (.inl (-6)), some (.inl 0), none] (S) h) : PW G X 5 Q k n 0 [some (.inr a0), some (.inr a1), none, none, none] (S) h := by
  refine pw_bipush C dX6_bestDish_0 rfl ?_
  refine pw_istore_n C dX6_bestDish_2 (by decide) ?_
  refine pw_iconst C dX6_bestDish_3 ?_
  refine pw_istore_n C dX6_bestDish_4 (by decide) ?_
  exact kk
set_option maxRecDepth 20000 in
theorem B_X6_bestDish_5 {G : Gx} {X : Cx} {h : PH} {k n : Nat} {Q : State → Prop} {S : List PV} {a0 : Nat} {a1 : Nat} {a2 : Int} {a3 : Int} (C : CX_X6_bestDish G X) (q1 : pR a3 := by first | assumption | (unfold pR; omega)) (q2 : pR 4 := by first | assumption | (unfold pR; omega)) (kt : 4 ≤ a3 → PW G X 5 Q k n 61 [some (.inr a0), some (.inr a1), some (.inl a2), some (.inl a3), none] (S) h) (kf : ¬ 4 ≤ a3 → PW G X 5 Q k n 10 [some (.inr a0), some (.inr a1), some (.inl a2), some (.inl a3), none] (S) h) : PW G X 5 Q k n 5 [some (.inr a0), some (.inr a1), some (.inl a2), some (.inl a3), none] (S) h := by
  refine pw_iload_n C dX6_bestDish_5 rfl ?_
  refine pw_iconst C dX6_bestDish_6 ?_
  exact pw_icmp_ge C 61 dX6_bestDish_7 (by decide) q1 q2 kt kf
set_option maxRecDepth 20000 in
theorem B_X6_bestDish_10 {G : Gx} {X : Cx} {h : PH} {k n : Nat} {Q : State → Prop} {S : List PV} {a0 : Nat} {a1 : Nat} {a2 : Int} {a3 : Int} {r2 : Nat} {PQ : Option PV → PH → Prop} (C : CX_X6_bestDish G X) (hk0 : k ≤ 0 := by decide) (hn0 : n ≤ 0 := by decide) (t1 : ph_T h a0 = 6 := by first | assumption | rfl) (e3 : ph_R h a0 3 = r2 := by first | assumption | rfl) (t4 : ph_T h r2 = 2 := by first | assumption | rfl) (hM : CT_X2_bestWay G X.2.1 [.inr r2, .inl a3, .inr a1] h PQ) (hS : S.length ≤ 8 := by decide) (kk : ∀ r h', PQ r h' → PW G X 5 Q k n 19 [some (.inr a0), some (.inr a1), some (.inl a2), some (.inl a3), none] (r.toList ++ S) h') : PW G X 5 Q k n 10 [some (.inr a0), some (.inr a1), some (.inl a2), some (.inl a3), none] (S) h := by
  refine pw_aload_n C dX6_bestDish_10 rfl ?_
  refine pw_getR C (t := 6) (f := 3) rfl inF6 rfl (by decide) (by decide) rfl kw313 dX6_bestDish_11 t1 ?_
  rw [e3]
  refine pw_iload_n C dX6_bestDish_14 rfl ?_
  refine pw_aload_n C dX6_bestDish_15 rfl ?_
  exact pw_callV C (na := 2) (As := [.inl a3, .inr a1]) (S := S) hM t4 (by decide) (hcl := by rfl) kw454 kw455 kw456 kw43 kw457 (by decide +kernel) rfl dX6_bestDish_16 (by decide) (by decide) hk0 hn0 (by first | exact hS | (simp only [List.length_cons]; omega)) kk
set_option maxRecDepth 20000 in
theorem B_X6_bestDish_19 {G : Gx} {X : Cx} {h : PH} {k n : Nat} {Q : State → Prop} {S : List PV} {a0 : Nat} {a1 : Nat} {a2 : Int} {a3 : Int} {s0 : Nat} {x3 : Int} (C : CX_X6_bestDish G X) (q1 : 2 ≤ s0 := by first | assumption | omega) (t2 : ph_T h s0 = 4 := by first | assumption | rfl) (e4 : ph_I h s0 6 = x3 := by first | assumption | rfl) (q5 : pR x3 := by first | assumption | (unfold pR; omega)) (kt : x3 = 0 → PW G X 5 Q k n 55 [some (.inr a0), some (.inr a1), some (.inl a2), some (.inl a3), some (.inr s0)] (S) h) (kf : ¬ x3 = 0 → PW G X 5 Q k n 29 [some (.inr a0), some (.inr a1), some (.inl a2), some (.inl a3), some (.inr s0)] (S) h) : PW G X 5 Q k n 19 [some (.inr a0), some (.inr a1), some (.inl a2), some (.inl a3), none] (.inr s0 :: S) h := by
  refine pw_astore C dX6_bestDish_19 (by decide) q1 ?_
  refine pw_aload C dX6_bestDish_21 rfl ?_
  refine pw_getI C (t := 4) (f := 6) rfl inF4 rfl (by decide) (by decide) rfl kw230 dX6_bestDish_23 t2 ?_
  rw [e4]
  exact pw_if_eq C 55 dX6_bestDish_26 (by decide) q5 kt kf
set_option maxRecDepth 20000 in
theorem B_X6_bestDish_29 {G : Gx} {X : Cx} {h : PH} {k n : Nat} {Q : State → Prop} {S : List PV} {a0 : Nat} {a1 : Nat} {a2 : Int} {a3 : Int} {a4 : Nat} {PQ : Option PV → PH → Prop} (C : CX_X6_bestDish G X) (hk0 : k ≤ 0 := by decide) (hn0 : n ≤ 0 := by decide) (hM : CT_X6_isDish G X.2.1 [.inl a2] h PQ) (hS : S.length ≤ 8 := by decide) (kk : ∀ r h', PQ r h' → PW G X 5 Q k n 33 [some (.inr a0), some (.inr a1), some (.inl a2), some (.inl a3), some (.inr a4)] (r.toList ++ S) h') : PW G X 5 Q k n 29 [some (.inr a0), some (.inr a1), some (.inl a2), some (.inl a3), some (.inr a4)] (S) h := by
  refine pw_iload_n C dX6_bestDish_29 rfl ?_
  exact pw_callS C (na := 1) (As := [.inl a2]) (S := S) hM kw375 kw376 kw38 kw377 (by decide +kernel) rfl dX6_bestDish_30 (by decide) (by decide) hk0 hn0 (by first | exact hS | (simp only [List.length_cons]; omega)) kk
set_option maxRecDepth 20000 in
theorem B_X6_bestDish_33 {G : Gx} {X : Cx} {h : PH} {k n : Nat} {Q : State → Prop} {S : List PV} {a0 : Nat} {a1 : Nat} {a2 : Int} {a3 : Int} {a4 : Nat} {s0 : Int} (C : CX_X6_bestDish G X) (q1 : pR s0 := by first | assumption | (unfold pR; omega)) (kt : s0 = 0 → PW G X 5 Q k n 53 [some (.inr a0), some (.inr a1), some (.inl a2), some (.inl a3), some (.inr a4)] (S) h) (kf : ¬ s0 = 0 → PW G X 5 Q k n 36 [some (.inr a0), some (.inr a1), some (.inl a2), some (.inl a3), some (.inr a4)] (S) h) : PW G X 5 Q k n 33 [some (.inr a0), some (.inr a1), some (.inl a2), some (.inl a3), some (.inr a4)] (.inl s0 :: S) h := by
  exact pw_if_eq C 53 dX6_bestDish_33 (by decide) q1 kt kf
set_option maxRecDepth 20000 in
theorem B_X6_bestDish_36 {G : Gx} {X : Cx} {h : PH} {k n : Nat} {Q : State → Prop} {S : List PV} {a0 : Nat} {a1 : Nat} {a2 : Int} {a3 : Int} {a4 : Nat} {r2 : Nat} {PQ : Option PV → PH → Prop} (C : CX_X6_bestDish G X) (hk0 : k ≤ 0 := by decide) (hn0 : n ≤ 0 := by decide) (t1 : ph_T h a0 = 6 := by first | assumption | rfl) (e3 : ph_R h a0 3 = r2 := by first | assumption | rfl) (t4 : ph_T h r2 = 2 := by first | assumption | rfl) (hM : CT_X2_bestWay G X.2.1 [.inr r2, .inl a2, .inr a1] h PQ) (hS : S.length ≤ 7 := by decide) (kk : ∀ r h', PQ r h' → PW G X 5 Q k n 47 [some (.inr a0), some (.inr a1), some (.inl a2), some (.inl a3), some (.inr a4)] (r.toList ++ (.inr a4 :: S)) h') : PW G X 5 Q k n 36 [some (.inr a0), some (.inr a1), some (.inl a2), some (.inl a3), some (.inr a4)] (S) h := by
  refine pw_aload C dX6_bestDish_36 rfl ?_
  refine pw_aload_n C dX6_bestDish_38 rfl ?_
  refine pw_getR C (t := 6) (f := 3) rfl inF6 rfl (by decide) (by decide) rfl kw313 dX6_bestDish_39 t1 ?_
  rw [e3]
  refine pw_iload_n C dX6_bestDish_42 rfl ?_
  refine pw_aload_n C dX6_bestDish_43 rfl ?_
  exact pw_callV C (na := 2) (As := [.inl a2, .inr a1]) (S := .inr a4 :: S) hM t4 (by decide) (hcl := by rfl) kw454 kw455 kw456 kw43 kw457 (by decide +kernel) rfl dX6_bestDish_44 (by decide) (by decide) hk0 hn0 (by first | exact hS | (simp only [List.length_cons]; omega)) kk
set_option maxRecDepth 20000 in
theorem B_X6_bestDish_47 {G : Gx} {X : Cx} {h : PH} {k n : Nat} {Q : State → Prop} {S : List PV} {a0 : Nat} {a1 : Nat} {a2 : Int} {a3 : Int} {a4 : Nat} {s0 : Nat} {s1 : Nat} {PQ : Option PV → PH → Prop} (C : CX_X6_bestDish G X) (hk0 : k ≤ 0 := by decide) (hn0 : n ≤ 0 := by decide) (t1 : ph_T h s1 = 4 := by first | assumption | rfl) (hM : CT_X4_isBetterThan G X.2.1 [.inr s1, .inr s0] h PQ) (hS : S.length ≤ 8 := by decide) (kk : ∀ r h', PQ r h' → PW G X 5 Q k n 50 [some (.inr a0), some (.inr a1), some (.inl a2), some (.inl a3), some (.inr a4)] (r.toList ++ S) h') : PW G X 5 Q k n 47 [some (.inr a0), some (.inr a1), some (.inl a2), some (.inl a3), some (.inr a4)] (.inr s0 :: .inr s1 :: S) h := by
  exact pw_callV C (na := 1) (As := [.inr s0]) (S := S) hM t1 (by decide) (hcl := by rfl) kw571 kw572 kw573 kw44 kw574 (by decide +kernel) rfl dX6_bestDish_47 (by decide) (by decide) hk0 hn0 (by first | exact hS | (simp only [List.length_cons]; omega)) kk
set_option maxRecDepth 20000 in
theorem B_X6_bestDish_50 {G : Gx} {X : Cx} {h : PH} {k n : Nat} {Q : State → Prop} {S : List PV} {a0 : Nat} {a1 : Nat} {a2 : Int} {a3 : Int} {a4 : Nat} {s0 : Int} (C : CX_X6_bestDish G X) (q1 : pR s0 := by first | assumption | (unfold pR; omega)) (kt : s0 = 0 → PW G X 5 Q k n 55 [some (.inr a0), some (.inr a1), some (.inl a2), some (.inl a3), some (.inr a4)] (S) h) (kf : ¬ s0 = 0 → PW G X 5 Q k n 53 [some (.inr a0), some (.inr a1), some (.inl a2), some (.inl a3), some (.inr a4)] (S) h) : PW G X 5 Q k n 50 [some (.inr a0), some (.inr a1), some (.inl a2), some (.inl a3), some (.inr a4)] (.inl s0 :: S) h := by
  exact pw_if_eq C 55 dX6_bestDish_50 (by decide) q1 kt kf
set_option maxRecDepth 20000 in
theorem B_X6_bestDish_53 {G : Gx} {X : Cx} {h : PH} {k n : Nat} {Q : State → Prop} {S : List PV} {a0 : Nat} {a1 : Nat} {a2 : Int} {a3 : Int} {a4 : Nat} (C : CX_X6_bestDish G X) (kk : PW G X 5 Q k n 55 [some (.inr a0), some (.inr a1), some (.inl a3), some (.inl a3), some (.inr a4)] (S) h) : PW G X 5 Q k n 53 [some (.inr a0), some (.inr a1), some (.inl a2), some (.inl a3), some (.inr a4)] (S) h := by
  refine pw_iload_n C dX6_bestDish_53 rfl ?_
  refine pw_istore_n C dX6_bestDish_54 (by decide) ?_
  exact kk
set_option maxRecDepth 20000 in
theorem B_X6_bestDish_55 {G : Gx} {X : Cx} {h : PH} {k n : Nat} {Q : State → Prop} {S : List PV} {a0 : Nat} {a1 : Nat} {a2 : Int} {a3 : Int} {a4 : Nat} (C : CX_X6_bestDish G X) (kk : PW G X 5 Q k n 5 [some (.inr a0), some (.inr a1), some (.inl a2), some (.inl (a3 + 1)), none] (S) h) : PW G X 5 Q k n 55 [some (.inr a0), some (.inr a1), some (.inl a2), some (.inl a3), some (.inr a4)] (S) h := by
  refine pw_iinc C dX6_bestDish_55 rfl (by decide) ?_
  refine pw_goto C 5 dX6_bestDish_58 (by decide) ?_
  exact pw_weak [true, true, true, true, false] kk
set_option maxRecDepth 20000 in
theorem B_X6_bestDish_61 {G : Gx} {X : Cx} {h : PH} {k n : Nat} {a0 : Nat} {a1 : Nat} {a2 : Int} {a3 : Int} {PQ : Option PV → PH → Prop} (C : CX_X6_bestDish G X) (hq : PQ (some (.inl a2)) h) : PW G X 5 (pw_E G X PQ k n) k n 61 [some (.inr a0), some (.inr a1), some (.inl a2), some (.inl a3), none] [] h := by
  refine pw_iload_n C dX6_bestDish_61 rfl ?_
  exact pw_ireturn C dX6_bestDish_62 hq
theorem dX6_bestHandOver_0 : decode cX6_bestHandOver 0 = .ok (.iconst 0, 1) := by decide +kernel
theorem dX6_bestHandOver_1 : decode cX6_bestHandOver 1 = .ok (.istore_n 3, 1) := by decide +kernel
theorem dX6_bestHandOver_2 : decode cX6_bestHandOver 2 = .ok (.iconst 1, 1) := by decide +kernel
theorem dX6_bestHandOver_3 : decode cX6_bestHandOver 3 = .ok (.istore 4, 2) := by decide +kernel
theorem dX6_bestHandOver_5 : decode cX6_bestHandOver 5 = .ok (.iload 4, 2) := by decide +kernel
theorem dX6_bestHandOver_7 : decode cX6_bestHandOver 7 = .ok (.iload_n 2, 1) := by decide +kernel
theorem dX6_bestHandOver_8 : decode cX6_bestHandOver 8 = .ok (.if_icmp .gt 43, 3) := by decide +kernel
theorem dX6_bestHandOver_11 : decode cX6_bestHandOver 11 = .ok (.aload_n 0, 1) := by decide +kernel
theorem dX6_bestHandOver_12 : decode cX6_bestHandOver 12 = .ok (.getfield 204, 3) := by decide +kernel
theorem dX6_bestHandOver_15 : decode cX6_bestHandOver 15 = .ok (.iload 4, 2) := by decide +kernel
theorem dX6_bestHandOver_17 : decode cX6_bestHandOver 17 = .ok (.iaload, 1) := by decide +kernel
theorem dX6_bestHandOver_18 : decode cX6_bestHandOver 18 = .ok (.aload_n 1, 1) := by decide +kernel
theorem dX6_bestHandOver_19 : decode cX6_bestHandOver 19 = .ok (.getfield 207, 3) := by decide +kernel
theorem dX6_bestHandOver_22 : decode cX6_bestHandOver 22 = .ok (.iload 4, 2) := by decide +kernel
theorem dX6_bestHandOver_24 : decode cX6_bestHandOver 24 = .ok (.iaload, 1) := by decide +kernel
theorem dX6_bestHandOver_25 : decode cX6_bestHandOver 25 = .ok (.iadd, 1) := by decide +kernel
theorem dX6_bestHandOver_26 : decode cX6_bestHandOver 26 = .ok (.aload_n 0, 1) := by decide +kernel
theorem dX6_bestHandOver_27 : decode cX6_bestHandOver 27 = .ok (.getfield 204, 3) := by decide +kernel
theorem dX6_bestHandOver_30 : decode cX6_bestHandOver 30 = .ok (.iload_n 3, 1) := by decide +kernel
theorem dX6_bestHandOver_31 : decode cX6_bestHandOver 31 = .ok (.iaload, 1) := by decide +kernel
theorem dX6_bestHandOver_32 : decode cX6_bestHandOver 32 = .ok (.aload_n 1, 1) := by decide +kernel
theorem dX6_bestHandOver_33 : decode cX6_bestHandOver 33 = .ok (.getfield 207, 3) := by decide +kernel
theorem dX6_bestHandOver_36 : decode cX6_bestHandOver 36 = .ok (.iload_n 3, 1) := by decide +kernel
theorem dX6_bestHandOver_37 : decode cX6_bestHandOver 37 = .ok (.iaload, 1) := by decide +kernel
theorem dX6_bestHandOver_38 : decode cX6_bestHandOver 38 = .ok (.iadd, 1) := by decide +kernel
theorem dX6_bestHandOver_39 : decode cX6_bestHandOver 39 = .ok (.if_icmp .le 6, 3) := by decide +kernel
theorem dX6_bestHandOver_42 : decode cX6_bestHandOver 42 = .ok (.iload 4, 2) := by decide +kernel
theorem dX6_bestHandOver_44 : decode cX6_bestHandOver 44 = .ok (.istore_n 3, 1) := by decide +kernel
theorem dX6_bestHandOver_45 : decode cX6_bestHandOver 45 = .ok (.iinc 4 1, 3) := by decide +kernel
theorem dX6_bestHandOver_48 : decode cX6_bestHandOver 48 = .ok (.goto (-43), 3) := by decide +kernel
theorem dX6_bestHandOver_51 : decode cX6_bestHandOver 51 = .ok (.iload_n 3, 1) := by decide +kernel
theorem dX6_bestHandOver_52 : decode cX6_bestHandOver 52 = .ok (.ireturn, 1) := by decide +kernel
set_option maxRecDepth 20000 in
theorem B_X6_bestHandOver_0 {G : Gx} {X : Cx} {h : PH} {k n : Nat} {Q : State → Prop} {S : List PV} {a0 : Nat} {a1 : Nat} {a2 : Int} (C : CX_X6_bestHandOver G X) (kk : PW G X 5 Q k n 5 [some (.inr a0), some (.inr a1), some (.inl a2), some (.inl 0), some (.inl 1)] (S) h) : PW G X 5 Q k n 0 [some (.inr a0), some (.inr a1), some (.inl a2), none, none] (S) h := by
  refine pw_iconst C dX6_bestHandOver_0 ?_
  refine pw_istore_n C dX6_bestHandOver_1 (by decide) ?_
  refine pw_iconst C dX6_bestHandOver_2 ?_
  refine pw_istore C dX6_bestHandOver_3 (by decide) ?_
  exact kk
set_option maxRecDepth 20000 in
theorem B_X6_bestHandOver_5 {G : Gx} {X : Cx} {h : PH} {k n : Nat} {Q : State → Prop} {S : List PV} {a0 : Nat} {a1 : Nat} {a2 : Int} {a3 : Int} {a4 : Int} (C : CX_X6_bestHandOver G X) (q1 : pR a4 := by first | assumption | (unfold pR; omega)) (q2 : pR a2 := by first | assumption | (unfold pR; omega)) (kt : a2 < a4 → PW G X 5 Q k n 51 [some (.inr a0), some (.inr a1), some (.inl a2), some (.inl a3), some (.inl a4)] (S) h) (kf : ¬ a2 < a4 → PW G X 5 Q k n 11 [some (.inr a0), some (.inr a1), some (.inl a2), some (.inl a3), some (.inl a4)] (S) h) : PW G X 5 Q k n 5 [some (.inr a0), some (.inr a1), some (.inl a2), some (.inl a3), some (.inl a4)] (S) h := by
  refine pw_iload C dX6_bestHandOver_5 rfl ?_
  refine pw_iload_n C dX6_bestHandOver_7 rfl ?_
  exact pw_icmp_gt C 51 dX6_bestHandOver_8 (by decide) q1 q2 kt kf
set_option maxRecDepth 20000 in
theorem B_X6_bestHandOver_11 {G : Gx} {X : Cx} {h : PH} {k n : Nat} {Q : State → Prop} {S : List PV} {a0 : Nat} {a1 : Nat} {a2 : Int} {a3 : Int} {a4 : Int} {r2 : Nat} {x8 : Int} {r11 : Nat} {x17 : Int} {r20 : Nat} {x26 : Int} {r29 : Nat} {x35 : Int} (C : CX_X6_bestHandOver G X) (t1 : ph_T h a0 = 4 := by first | assumption | rfl) (e3 : ph_R h a0 3 = r2 := by first | assumption | rfl) (t4 : ph_T h r2 = 8 := by first | assumption | rfl) (q5 : (0 : Int) ≤ a4 := by first | assumption | omega) (q6 : a4 < (ph_L h r2 : Int) := by first | assumption | omega) (q7 : pR a4 := by first | assumption | (unfold pR; omega)) (e9 : ph_I h r2 (Int.toNat a4) = x8 := by first | assumption | rfl) (t10 : ph_T h a1 = 4 := by first | assumption | rfl) (e12 : ph_R h a1 4 = r11 := by first | assumption | rfl) (t13 : ph_T h r11 = 8 := by first | assumption | rfl) (q14 : (0 : Int) ≤ a4 := by first | assumption | omega) (q15 : a4 < (ph_L h r11 : Int) := by first | assumption | omega) (q16 : pR a4 := by first | assumption | (unfold pR; omega)) (e18 : ph_I h r11 (Int.toNat a4) = x17 := by first | assumption | rfl) (t19 : ph_T h a0 = 4 := by first | assumption | rfl) (e21 : ph_R h a0 3 = r20 := by first | assumption | rfl) (t22 : ph_T h r20 = 8 := by first | assumption | rfl) (q23 : (0 : Int) ≤ a3 := by first | assumption | omega) (q24 : a3 < (ph_L h r20 : Int) := by first | assumption | omega) (q25 : pR a3 := by first | assumption | (unfold pR; omega)) (e27 : ph_I h r20 (Int.toNat a3) = x26 := by first | assumption | rfl) (t28 : ph_T h a1 = 4 := by first | assumption | rfl) (e30 : ph_R h a1 4 = r29 := by first | assumption | rfl) (t31 : ph_T h r29 = 8 := by first | assumption | rfl) (q32 : (0 : Int) ≤ a3 := by first | assumption | omega) (q33 : a3 < (ph_L h r29 : Int) := by first | assumption | omega) (q34 : pR a3 := by first | assumption | (unfold pR; omega)) (e36 : ph_I h r29 (Int.toNat a3) = x35 := by first | assumption | rfl) (q37 : pR (x8 + x17) := by first | assumption | (unfold pR; omega)) (q38 : pR (x26 + x35) := by first | assumption | (unfold pR; omega)) (kt : x8 + x17 ≤ x26 + x35 → PW G X 5 Q k n 45 [some (.inr a0), some (.inr a1), some (.inl a2), some (.inl a3), some (.inl a4)] (S) h) (kf : ¬ x8 + x17 ≤ x26 + x35 → PW G X 5 Q k n 42 [some (.inr a0), some (.inr a1), some (.inl a2), some (.inl a3), some (.inl a4)] (S) h) : PW G X 5 Q k n 11 [some (.inr a0), some (.inr a1), some (.inl a2), some (.inl a3), some (.inl a4)] (S) h := by
  refine pw_aload_n C dX6_bestHandOver_11 rfl ?_
  refine pw_getR C (t := 4) (f := 3) rfl inF4 rfl (by decide) (by decide) rfl kw223 dX6_bestHandOver_12 t1 ?_
  rw [e3]
  refine pw_iload C dX6_bestHandOver_15 rfl ?_
  refine pw_iald C dX6_bestHandOver_17 t4 q5 q6 q7 ?_
  rw [e9]
  refine pw_aload_n C dX6_bestHandOver_18 rfl ?_
  refine pw_getR C (t := 4) (f := 4) rfl inF4 rfl (by decide) (by decide) rfl kw226 dX6_bestHandOver_19 t10 ?_
  rw [e12]
  refine pw_iload C dX6_bestHandOver_22 rfl ?_
  refine pw_iald C dX6_bestHandOver_24 t13 q14 q15 q16 ?_
  rw [e18]
  refine pw_iadd C dX6_bestHandOver_25 ?_
  refine pw_aload_n C dX6_bestHandOver_26 rfl ?_
  refine pw_getR C (t := 4) (f := 3) rfl inF4 rfl (by decide) (by decide) rfl kw223 dX6_bestHandOver_27 t19 ?_
  rw [e21]
  refine pw_iload_n C dX6_bestHandOver_30 rfl ?_
  refine pw_iald C dX6_bestHandOver_31 t22 q23 q24 q25 ?_
  rw [e27]
  refine pw_aload_n C dX6_bestHandOver_32 rfl ?_
  refine pw_getR C (t := 4) (f := 4) rfl inF4 rfl (by decide) (by decide) rfl kw226 dX6_bestHandOver_33 t28 ?_
  rw [e30]
  refine pw_iload_n C dX6_bestHandOver_36 rfl ?_
  refine pw_iald C dX6_bestHandOver_37 t31 q32 q33 q34 ?_
  rw [e36]
  refine pw_iadd C dX6_bestHandOver_38 ?_
  exact pw_icmp_le C 45 dX6_bestHandOver_39 (by decide) q37 q38 kt kf
set_option maxRecDepth 20000 in
theorem B_X6_bestHandOver_42 {G : Gx} {X : Cx} {h : PH} {k n : Nat} {Q : State → Prop} {S : List PV} {a0 : Nat} {a1 : Nat} {a2 : Int} {a3 : Int} {a4 : Int} (C : CX_X6_bestHandOver G X) (kk : PW G X 5 Q k n 45 [some (.inr a0), some (.inr a1), some (.inl a2), some (.inl a4), some (.inl a4)] (S) h) : PW G X 5 Q k n 42 [some (.inr a0), some (.inr a1), some (.inl a2), some (.inl a3), some (.inl a4)] (S) h := by
  refine pw_iload C dX6_bestHandOver_42 rfl ?_
  refine pw_istore_n C dX6_bestHandOver_44 (by decide) ?_
  exact kk
set_option maxRecDepth 20000 in
theorem B_X6_bestHandOver_45 {G : Gx} {X : Cx} {h : PH} {k n : Nat} {Q : State → Prop} {S : List PV} {a0 : Nat} {a1 : Nat} {a2 : Int} {a3 : Int} {a4 : Int} (C : CX_X6_bestHandOver G X) (kk : PW G X 5 Q k n 5 [some (.inr a0), some (.inr a1), some (.inl a2), some (.inl a3), some (.inl (a4 + 1))] (S) h) : PW G X 5 Q k n 45 [some (.inr a0), some (.inr a1), some (.inl a2), some (.inl a3), some (.inl a4)] (S) h := by
  refine pw_iinc C dX6_bestHandOver_45 rfl (by decide) ?_
  refine pw_goto C 5 dX6_bestHandOver_48 (by decide) ?_
  exact kk
set_option maxRecDepth 20000 in
theorem B_X6_bestHandOver_51 {G : Gx} {X : Cx} {h : PH} {k n : Nat} {a0 : Nat} {a1 : Nat} {a2 : Int} {a3 : Int} {a4 : Int} {PQ : Option PV → PH → Prop} (C : CX_X6_bestHandOver G X) (hq : PQ (some (.inl a3)) h) : PW G X 5 (pw_E G X PQ k n) k n 51 [some (.inr a0), some (.inr a1), some (.inl a2), some (.inl a3), some (.inl a4)] [] h := by
  refine pw_iload_n C dX6_bestHandOver_51 rfl ?_
  exact pw_ireturn C dX6_bestHandOver_52 hq
theorem dX6_goAlong_0 : decode cX6_goAlong 0 = .ok (.iconst 0, 1) := by decide +kernel
theorem dX6_goAlong_1 : decode cX6_goAlong 1 = .ok (.istore 4, 2) := by decide +kernel
theorem dX6_goAlong_3 : decode cX6_goAlong 3 = .ok (.iload 4, 2) := by decide +kernel
theorem dX6_goAlong_5 : decode cX6_goAlong 5 = .ok (.aload_n 2, 1) := by decide +kernel
theorem dX6_goAlong_6 : decode cX6_goAlong 6 = .ok (.getfield 66, 3) := by decide +kernel
theorem dX6_goAlong_9 : decode cX6_goAlong 9 = .ok (.if_icmp .ge 54, 3) := by decide +kernel
theorem dX6_goAlong_12 : decode cX6_goAlong 12 = .ok (.aload_n 3, 1) := by decide +kernel
theorem dX6_goAlong_13 : decode cX6_goAlong 13 = .ok (.getfield 190, 3) := by decide +kernel
theorem dX6_goAlong_16 : decode cX6_goAlong 16 = .ok (.aload_n 2, 1) := by decide +kernel
theorem dX6_goAlong_17 : decode cX6_goAlong 17 = .ok (.getfield 133, 3) := by decide +kernel
theorem dX6_goAlong_20 : decode cX6_goAlong 20 = .ok (.iload 4, 2) := by decide +kernel
theorem dX6_goAlong_22 : decode cX6_goAlong 22 = .ok (.iadd, 1) := by decide +kernel
theorem dX6_goAlong_23 : decode cX6_goAlong 23 = .ok (.baload, 1) := by decide +kernel
theorem dX6_goAlong_24 : decode cX6_goAlong 24 = .ok (.ifCond .eq 33, 3) := by decide +kernel
theorem dX6_goAlong_27 : decode cX6_goAlong 27 = .ok (.aload_n 0, 1) := by decide +kernel
theorem dX6_goAlong_28 : decode cX6_goAlong 28 = .ok (.getfield 12, 3) := by decide +kernel
theorem dX6_goAlong_31 : decode cX6_goAlong 31 = .ok (.getfield 217, 3) := by decide +kernel
theorem dX6_goAlong_34 : decode cX6_goAlong 34 = .ok (.aload_n 2, 1) := by decide +kernel
theorem dX6_goAlong_35 : decode cX6_goAlong 35 = .ok (.getfield 252, 3) := by decide +kernel
theorem dX6_goAlong_38 : decode cX6_goAlong 38 = .ok (.iload 4, 2) := by decide +kernel
theorem dX6_goAlong_40 : decode cX6_goAlong 40 = .ok (.iaload, 1) := by decide +kernel
theorem dX6_goAlong_41 : decode cX6_goAlong 41 = .ok (.bipush 7, 2) := by decide +kernel
theorem dX6_goAlong_43 : decode cX6_goAlong 43 = .ok (.imul, 1) := by decide +kernel
theorem dX6_goAlong_44 : decode cX6_goAlong 44 = .ok (.aload_n 2, 1) := by decide +kernel
theorem dX6_goAlong_45 : decode cX6_goAlong 45 = .ok (.getfield 255, 3) := by decide +kernel
theorem dX6_goAlong_48 : decode cX6_goAlong 48 = .ok (.iload 4, 2) := by decide +kernel
theorem dX6_goAlong_50 : decode cX6_goAlong 50 = .ok (.iaload, 1) := by decide +kernel
theorem dX6_goAlong_51 : decode cX6_goAlong 51 = .ok (.iadd, 1) := by decide +kernel
theorem dX6_goAlong_52 : decode cX6_goAlong 52 = .ok (.dup2, 1) := by decide +kernel
theorem dX6_goAlong_53 : decode cX6_goAlong 53 = .ok (.iaload, 1) := by decide +kernel
theorem dX6_goAlong_54 : decode cX6_goAlong 54 = .ok (.iconst 1, 1) := by decide +kernel
theorem dX6_goAlong_55 : decode cX6_goAlong 55 = .ok (.iadd, 1) := by decide +kernel
theorem dX6_goAlong_56 : decode cX6_goAlong 56 = .ok (.iastore, 1) := by decide +kernel
theorem dX6_goAlong_57 : decode cX6_goAlong 57 = .ok (.iinc 4 1, 3) := by decide +kernel
theorem dX6_goAlong_60 : decode cX6_goAlong 60 = .ok (.goto (-57), 3) := by decide +kernel
theorem dX6_goAlong_63 : decode cX6_goAlong 63 = .ok (.aload_n 0, 1) := by decide +kernel
theorem dX6_goAlong_64 : decode cX6_goAlong 64 = .ok (.getfield 12, 3) := by decide +kernel
theorem dX6_goAlong_67 : decode cX6_goAlong 67 = .ok (.getfield 80, 3) := by decide +kernel
theorem dX6_goAlong_70 : decode cX6_goAlong 70 = .ok (.iload_n 1, 1) := by decide +kernel
theorem dX6_goAlong_71 : decode cX6_goAlong 71 = .ok (.aaload, 1) := by decide +kernel
theorem dX6_goAlong_72 : decode cX6_goAlong 72 = .ok (.aload_n 3, 1) := by decide +kernel
theorem dX6_goAlong_73 : decode cX6_goAlong 73 = .ok (.getfield 179, 3) := by decide +kernel
theorem dX6_goAlong_76 : decode cX6_goAlong 76 = .ok (.aload_n 3, 1) := by decide +kernel
theorem dX6_goAlong_77 : decode cX6_goAlong 77 = .ok (.getfield 183, 3) := by decide +kernel
theorem dX6_goAlong_80 : decode cX6_goAlong 80 = .ok (.iaload, 1) := by decide +kernel
theorem dX6_goAlong_81 : decode cX6_goAlong 81 = .ok (.aload_n 3, 1) := by decide +kernel
theorem dX6_goAlong_82 : decode cX6_goAlong 82 = .ok (.getfield 186, 3) := by decide +kernel
theorem dX6_goAlong_85 : decode cX6_goAlong 85 = .ok (.aload_n 3, 1) := by decide +kernel
theorem dX6_goAlong_86 : decode cX6_goAlong 86 = .ok (.getfield 183, 3) := by decide +kernel
theorem dX6_goAlong_89 : decode cX6_goAlong 89 = .ok (.iaload, 1) := by decide +kernel
theorem dX6_goAlong_90 : decode cX6_goAlong 90 = .ok (.aload_n 3, 1) := by decide +kernel
theorem dX6_goAlong_91 : decode cX6_goAlong 91 = .ok (.getfield 183, 3) := by decide +kernel
theorem dX6_goAlong_94 : decode cX6_goAlong 94 = .ok (.iconst 1, 1) := by decide +kernel
theorem dX6_goAlong_95 : decode cX6_goAlong 95 = .ok (.iadd, 1) := by decide +kernel
theorem dX6_goAlong_96 : decode cX6_goAlong 96 = .ok (.invokevirtual 95, 3) := by decide +kernel
theorem dX6_goAlong_99 : decode cX6_goAlong 99 = .ok (.aload_n 2, 1) := by decide +kernel
theorem dX6_goAlong_100 : decode cX6_goAlong 100 = .ok (.iload_n 1, 1) := by decide +kernel
theorem dX6_goAlong_101 : decode cX6_goAlong 101 = .ok (.putfield 136, 3) := by decide +kernel
theorem dX6_goAlong_104 : decode cX6_goAlong 104 = .ok (.aload_n 2, 1) := by decide +kernel
theorem dX6_goAlong_105 : decode cX6_goAlong 105 = .ok (.aload_n 3, 1) := by decide +kernel
theorem dX6_goAlong_106 : decode cX6_goAlong 106 = .ok (.getfield 167, 3) := by decide +kernel
theorem dX6_goAlong_109 : decode cX6_goAlong 109 = .ok (.putfield 139, 3) := by decide +kernel
theorem dX6_goAlong_112 : decode cX6_goAlong 112 = .ok (.aload_n 0, 1) := by decide +kernel
theorem dX6_goAlong_113 : decode cX6_goAlong 113 = .ok (.getfield 29, 3) := by decide +kernel
theorem dX6_goAlong_116 : decode cX6_goAlong 116 = .ok (.invokevirtual 55, 3) := by decide +kernel
theorem dX6_goAlong_119 : decode cX6_goAlong 119 = .ok (.return_, 1) := by decide +kernel
set_option maxRecDepth 20000 in
theorem B_X6_goAlong_0 {G : Gx} {X : Cx} {h : PH} {k n : Nat} {Q : State → Prop} {S : List PV} {a0 : Nat} {a1 : Int} {a2 : Nat} {a3 : Nat} (C : CX_X6_goAlong G X) (kk : PW G X 5 Q k n 3 [some (.inr a0), some (.inl a1), some (.inr a2), some (.inr a3), some (.inl 0)] (S) h) : PW G X 5 Q k n 0 [some (.inr a0), some (.inl a1), some (.inr a2), some (.inr a3), none] (S) h := by
  refine pw_iconst C dX6_goAlong_0 ?_
  refine pw_istore C dX6_goAlong_1 (by decide) ?_
  exact kk
set_option maxRecDepth 20000 in
theorem B_X6_goAlong_3 {G : Gx} {X : Cx} {h : PH} {k n : Nat} {Q : State → Prop} {S : List PV} {a0 : Nat} {a1 : Int} {a2 : Nat} {a3 : Nat} {a4 : Int} {x2 : Int} (C : CX_X6_goAlong G X) (t1 : ph_T h a2 = 0 := by first | assumption | rfl) (e3 : ph_I h a2 4 = x2 := by first | assumption | rfl) (q4 : pR a4 := by first | assumption | (unfold pR; omega)) (q5 : pR x2 := by first | assumption | (unfold pR; omega)) (kt : x2 ≤ a4 → PW G X 5 Q k n 63 [some (.inr a0), some (.inl a1), some (.inr a2), some (.inr a3), some (.inl a4)] (S) h) (kf : ¬ x2 ≤ a4 → PW G X 5 Q k n 12 [some (.inr a0), some (.inl a1), some (.inr a2), some (.inr a3), some (.inl a4)] (S) h) : PW G X 5 Q k n 3 [some (.inr a0), some (.inl a1), some (.inr a2), some (.inr a3), some (.inl a4)] (S) h := by
  refine pw_iload C dX6_goAlong_3 rfl ?_
  refine pw_aload_n C dX6_goAlong_5 rfl ?_
  refine pw_getI C (t := 0) (f := 4) rfl inF0 rfl (by decide) (by decide) rfl kw122 dX6_goAlong_6 t1 ?_
  rw [e3]
  exact pw_icmp_ge C 63 dX6_goAlong_9 (by decide) q4 q5 kt kf
set_option maxRecDepth 20000 in
theorem B_X6_goAlong_12 {G : Gx} {X : Cx} {h : PH} {k n : Nat} {Q : State → Prop} {S : List PV} {a0 : Nat} {a1 : Int} {a2 : Nat} {a3 : Nat} {a4 : Int} {r2 : Nat} {x5 : Int} {x11 : Int} (C : CX_X6_goAlong G X) (t1 : ph_T h a3 = 4 := by first | assumption | rfl) (e3 : ph_R h a3 2 = r2 := by first | assumption | rfl) (t4 : ph_T h a2 = 0 := by first | assumption | rfl) (e6 : ph_I h a2 3 = x5 := by first | assumption | rfl) (t7 : ph_T h r2 = 9 := by first | assumption | rfl) (q8 : (0 : Int) ≤ x5 + a4 := by first | assumption | omega) (q9 : x5 + a4 < (ph_L h r2 : Int) := by first | assumption | omega) (q10 : pR (x5 + a4) := by first | assumption | (unfold pR; omega)) (e12 : ph_I h r2 (Int.toNat (x5 + a4)) = x11 := by first | assumption | rfl) (q13 : pR x11 := by first | assumption | (unfold pR; omega)) (kt : x11 = 0 → PW G X 5 Q k n 57 [some (.inr a0), some (.inl a1), some (.inr a2), some (.inr a3), some (.inl a4)] (S) h) (kf : ¬ x11 = 0 → PW G X 5 Q k n 27 [some (.inr a0), some (.inl a1), some (.inr a2), some (.inr a3), some (.inl a4)] (S) h) : PW G X 5 Q k n 12 [some (.inr a0), some (.inl a1), some (.inr a2), some (.inr a3), some (.inl a4)] (S) h := by
  refine pw_aload_n C dX6_goAlong_12 rfl ?_
  refine pw_getR C (t := 4) (f := 2) rfl inF4 rfl (by decide) (by decide) rfl kw220 dX6_goAlong_13 t1 ?_
  rw [e3]
  refine pw_aload_n C dX6_goAlong_16 rfl ?_
  refine pw_getI C (t := 0) (f := 3) rfl inF0 rfl (by decide) (by decide) rfl kw120 dX6_goAlong_17 t4 ?_
  rw [e6]
  refine pw_iload C dX6_goAlong_20 rfl ?_
  refine pw_iadd C dX6_goAlong_22 ?_
  refine pw_zald C dX6_goAlong_23 t7 q8 q9 q10 ?_
  rw [e12]
  exact pw_if_eq C 57 dX6_goAlong_24 (by decide) q13 kt kf
set_option maxRecDepth 20000 in
theorem B_X6_goAlong_27 {G : Gx} {X : Cx} {h : PH} {k n : Nat} {Q : State → Prop} {S : List PV} {a0 : Nat} {a1 : Int} {a2 : Nat} {a3 : Nat} {a4 : Int} {r2 : Nat} {r5 : Nat} {r8 : Nat} {x14 : Int} {r17 : Nat} {x23 : Int} {x29 : Int} (C : CX_X6_goAlong G X) (t1 : ph_T h a0 = 6 := by first | assumption | rfl) (e3 : ph_R h a0 0 = r2 := by first | assumption | rfl) (t4 : ph_T h r2 = 5 := by first | assumption | rfl) (e6 : ph_R h r2 3 = r5 := by first | assumption | rfl) (t7 : ph_T h a2 = 0 := by first | assumption | rfl) (e9 : ph_R h a2 0 = r8 := by first | assumption | rfl) (t10 : ph_T h r8 = 8 := by first | assumption | rfl) (q11 : (0 : Int) ≤ a4 := by first | assumption | omega) (q12 : a4 < (ph_L h r8 : Int) := by first | assumption | omega) (q13 : pR a4 := by first | assumption | (unfold pR; omega)) (e15 : ph_I h r8 (Int.toNat a4) = x14 := by first | assumption | rfl) (t16 : ph_T h a2 = 0 := by first | assumption | rfl) (e18 : ph_R h a2 1 = r17 := by first | assumption | rfl) (t19 : ph_T h r17 = 8 := by first | assumption | rfl) (q20 : (0 : Int) ≤ a4 := by first | assumption | omega) (q21 : a4 < (ph_L h r17 : Int) := by first | assumption | omega) (q22 : pR a4 := by first | assumption | (unfold pR; omega)) (e24 : ph_I h r17 (Int.toNat a4) = x23 := by first | assumption | rfl) (t25 : ph_T h r5 = 8 := by first | assumption | rfl) (q26 : (0 : Int) ≤ (x14 * 7) + x23 := by first | assumption | omega) (q27 : (x14 * 7) + x23 < (ph_L h r5 : Int) := by first | assumption | omega) (q28 : pR ((x14 * 7) + x23) := by first | assumption | (unfold pR; omega)) (e30 : ph_I h r5 (Int.toNat ((x14 * 7) + x23)) = x29 := by first | assumption | rfl) (t31 : ph_T h r5 = 8 := by first | assumption | rfl) (q32 : (0 : Int) ≤ (x14 * 7) + x23 := by first | assumption | omega) (q33 : (x14 * 7) + x23 < (ph_L h r5 : Int) := by first | assumption | omega) (q34 : pR ((x14 * 7) + x23) := by first | assumption | (unfold pR; omega)) (kk : PW G X 5 Q k n 57 [some (.inr a0), some (.inl a1), some (.inr a2), some (.inr a3), some (.inl a4)] (S) (ph_setI h r5 (Int.toNat ((x14 * 7) + x23)) (x29 + 1))) : PW G X 5 Q k n 27 [some (.inr a0), some (.inl a1), some (.inr a2), some (.inr a3), some (.inl a4)] (S) h := by
  refine pw_aload_n C dX6_goAlong_27 rfl ?_
  refine pw_getR C (t := 6) (f := 0) rfl inF6 rfl (by decide) (by decide) rfl kw310 dX6_goAlong_28 t1 ?_
  rw [e3]
  refine pw_getR C (t := 5) (f := 3) rfl inF5 rfl (by decide) (by decide) rfl kw186 dX6_goAlong_31 t4 ?_
  rw [e6]
  refine pw_aload_n C dX6_goAlong_34 rfl ?_
  refine pw_getR C (t := 0) (f := 0) rfl inF0 rfl (by decide) (by decide) rfl kw109 dX6_goAlong_35 t7 ?_
  rw [e9]
  refine pw_iload C dX6_goAlong_38 rfl ?_
  refine pw_iald C dX6_goAlong_40 t10 q11 q12 q13 ?_
  rw [e15]
  refine pw_bipush C dX6_goAlong_41 rfl ?_
  refine pw_imul C dX6_goAlong_43 ?_
  refine pw_aload_n C dX6_goAlong_44 rfl ?_
  refine pw_getR C (t := 0) (f := 1) rfl inF0 rfl (by decide) (by decide) rfl kw112 dX6_goAlong_45 t16 ?_
  rw [e18]
  refine pw_iload C dX6_goAlong_48 rfl ?_
  refine pw_iald C dX6_goAlong_50 t19 q20 q21 q22 ?_
  rw [e24]
  refine pw_iadd C dX6_goAlong_51 ?_
  refine pw_dup2 C dX6_goAlong_52 ?_
  refine pw_iald C dX6_goAlong_53 t25 q26 q27 q28 ?_
  rw [e30]
  refine pw_iconst C dX6_goAlong_54 ?_
  refine pw_iadd C dX6_goAlong_55 ?_
  refine pw_iast C dX6_goAlong_56 t31 q32 q33 q34 ?_
  exact kk
set_option maxRecDepth 20000 in
theorem B_X6_goAlong_57 {G : Gx} {X : Cx} {h : PH} {k n : Nat} {Q : State → Prop} {S : List PV} {a0 : Nat} {a1 : Int} {a2 : Nat} {a3 : Nat} {a4 : Int} (C : CX_X6_goAlong G X) (kk : PW G X 5 Q k n 3 [some (.inr a0), some (.inl a1), some (.inr a2), some (.inr a3), some (.inl (a4 + 1))] (S) h) : PW G X 5 Q k n 57 [some (.inr a0), some (.inl a1), some (.inr a2), some (.inr a3), some (.inl a4)] (S) h := by
  refine pw_iinc C dX6_goAlong_57 rfl (by decide) ?_
  refine pw_goto C 3 dX6_goAlong_60 (by decide) ?_
  exact kk
set_option maxRecDepth 20000 in
theorem B_X6_goAlong_63 {G : Gx} {X : Cx} {h : PH} {k n : Nat} {Q : State → Prop} {S : List PV} {a0 : Nat} {a1 : Int} {a2 : Nat} {a3 : Nat} {a4 : Int} {r2 : Nat} {r5 : Nat} {m11 : Nat} {m11E : String} {r12 : Nat} {r15 : Nat} {x18 : Int} {x24 : Int} {r27 : Nat} {x30 : Int} {x36 : Int} {x39 : Int} {PQ : Option PV → PH → Prop} (C : CX_X6_goAlong G X) (hk0 : k ≤ 0 := by decide) (hn0 : n ≤ 0 := by decide) (t1 : ph_T h a0 = 6 := by first | assumption | rfl) (e3 : ph_R h a0 0 = r2 := by first | assumption | rfl) (t4 : ph_T h r2 = 5 := by first | assumption | rfl) (e6 : ph_R h r2 1 = r5 := by first | assumption | rfl) (m11a : ¬ m11 < 10 := by decide) (m11b : m11 < 14 := by decide) (t7 : ph_T h r5 = m11 := by first | assumption | rfl) (m11c : (pw_tys G)[m11 - 8]? = some (G.2.2.2.2 m11, .object m11E) := by rfl) (q8 : (0 : Int) ≤ a1 := by first | assumption | omega) (q9 : a1 < (ph_L h r5 : Int) := by first | assumption | omega) (q10 : pR a1 := by first | assumption | (unfold pR; omega)) (e13 : ph_R h r5 (Int.toNat a1) = r12 := by first | assumption | rfl) (t14 : ph_T h a3 = 4 := by first | assumption | rfl) (e16 : ph_R h a3 0 = r15 := by first | assumption | rfl) (t17 : ph_T h a3 = 4 := by first | assumption | rfl) (e19 : ph_I h a3 9 = x18 := by first | assumption | rfl) (t20 : ph_T h r15 = 8 := by first | assumption | rfl) (q21 : (0 : Int) ≤ x18 := by first | assumption | omega) (q22 : x18 < (ph_L h r15 : Int) := by first | assumption | omega) (q23 : pR x18 := by first | assumption | (unfold pR; omega)) (e25 : ph_I h r15 (Int.toNat x18) = x24 := by first | assumption | rfl) (t26 : ph_T h a3 = 4 := by first | assumption | rfl) (e28 : ph_R h a3 1 = r27 := by first | assumption | rfl) (t29 : ph_T h a3 = 4 := by first | assumption | rfl) (e31 : ph_I h a3 9 = x30 := by first | assumption | rfl) (t32 : ph_T h r27 = 8 := by first | assumption | rfl) (q33 : (0 : Int) ≤ x30 := by first | assumption | omega) (q34 : x30 < (ph_L h r27 : Int) := by first | assumption | omega) (q35 : pR x30 := by first | assumption | (unfold pR; omega)) (e37 : ph_I h r27 (Int.toNat x30) = x36 := by first | assumption | rfl) (t38 : ph_T h a3 = 4 := by first | assumption | rfl) (e40 : ph_I h a3 9 = x39 := by first | assumption | rfl) (t41 : ph_T h r12 = 1 := by first | assumption | rfl) (hM : CT_X1_turnTo G X.2.1 [.inr r12, .inl x24, .inl x36, .inl (x39 + 1)] h PQ) (hS : S.length ≤ 8 := by decide) (kk : ∀ r h', PQ r h' → PW G X 5 Q k n 99 [some (.inr a0), some (.inl a1), some (.inr a2), some (.inr a3), some (.inl a4)] (r.toList ++ S) h') : PW G X 5 Q k n 63 [some (.inr a0), some (.inl a1), some (.inr a2), some (.inr a3), some (.inl a4)] (S) h := by
  refine pw_aload_n C dX6_goAlong_63 rfl ?_
  refine pw_getR C (t := 6) (f := 0) rfl inF6 rfl (by decide) (by decide) rfl kw310 dX6_goAlong_64 t1 ?_
  rw [e3]
  refine pw_getR C (t := 5) (f := 1) rfl inF5 rfl (by decide) (by decide) rfl kw181 dX6_goAlong_67 t4 ?_
  rw [e6]
  refine pw_iload_n C dX6_goAlong_70 rfl ?_
  refine pw_aald C (t := m11) dX6_goAlong_71 t7 m11a m11b m11c q8 q9 q10 ?_
  rw [e13]
  refine pw_aload_n C dX6_goAlong_72 rfl ?_
  refine pw_getR C (t := 4) (f := 0) rfl inF4 rfl (by decide) (by decide) rfl kw216 dX6_goAlong_73 t14 ?_
  rw [e16]
  refine pw_aload_n C dX6_goAlong_76 rfl ?_
  refine pw_getI C (t := 4) (f := 9) rfl inF4 rfl (by decide) (by decide) rfl kw236 dX6_goAlong_77 t17 ?_
  rw [e19]
  refine pw_iald C dX6_goAlong_80 t20 q21 q22 q23 ?_
  rw [e25]
  refine pw_aload_n C dX6_goAlong_81 rfl ?_
  refine pw_getR C (t := 4) (f := 1) rfl inF4 rfl (by decide) (by decide) rfl kw218 dX6_goAlong_82 t26 ?_
  rw [e28]
  refine pw_aload_n C dX6_goAlong_85 rfl ?_
  refine pw_getI C (t := 4) (f := 9) rfl inF4 rfl (by decide) (by decide) rfl kw236 dX6_goAlong_86 t29 ?_
  rw [e31]
  refine pw_iald C dX6_goAlong_89 t32 q33 q34 q35 ?_
  rw [e37]
  refine pw_aload_n C dX6_goAlong_90 rfl ?_
  refine pw_getI C (t := 4) (f := 9) rfl inF4 rfl (by decide) (by decide) rfl kw236 dX6_goAlong_91 t38 ?_
  rw [e40]
  refine pw_iconst C dX6_goAlong_94 ?_
  refine pw_iadd C dX6_goAlong_95 ?_
  exact pw_callV C (na := 3) (As := [.inl x24, .inl x36, .inl (x39 + 1)]) (S := S) hM t41 (by decide) (hcl := by rfl) kw381 kw382 kw383 kw42 kw384 (by decide +kernel) rfl dX6_goAlong_96 (by decide) (by decide) hk0 hn0 (by first | exact hS | (simp only [List.length_cons]; omega)) kk
set_option maxRecDepth 20000 in
theorem B_X6_goAlong_99 {G : Gx} {X : Cx} {h : PH} {k n : Nat} {Q : State → Prop} {S : List PV} {a0 : Nat} {a1 : Int} {a2 : Nat} {a3 : Nat} {a4 : Int} {x3 : Int} {r7 : Nat} {PQ : Option PV → PH → Prop} (C : CX_X6_goAlong G X) (hk0 : k ≤ 0 := by decide) (hn0 : n ≤ 0 := by decide) (t1 : ph_T h a2 = 0 := by first | assumption | rfl) (t2 : ph_T h a3 = 4 := by first | assumption | rfl) (e4 : ph_I (ph_setI h a2 5 a1) a3 10 = x3 := by first | assumption | rfl) (t5 : ph_T h a2 = 0 := by first | assumption | rfl) (t6 : ph_T h a0 = 6 := by first | assumption | rfl) (e8 : ph_R h a0 3 = r7 := by first | assumption | rfl) (t9 : ph_T h r7 = 2 := by first | assumption | rfl) (hM : CT_X2_forgetWays G X.2.1 [.inr r7] (ph_setI (ph_setI h a2 5 a1) a2 6 x3) PQ) (hS : S.length ≤ 8 := by decide) (kk : ∀ r h', PQ r h' → PW G X 5 Q k n 119 [some (.inr a0), some (.inl a1), some (.inr a2), some (.inr a3), some (.inl a4)] (r.toList ++ S) h') : PW G X 5 Q k n 99 [some (.inr a0), some (.inl a1), some (.inr a2), some (.inr a3), some (.inl a4)] (S) h := by
  refine pw_aload_n C dX6_goAlong_99 rfl ?_
  refine pw_iload_n C dX6_goAlong_100 rfl ?_
  refine pw_putI C (t := 0) (f := 5) rfl inF0 tyX0_ok nmX0 rfl (by decide) (by decide) rfl (Or.inl rfl) (Or.inl rfl) kw126 dX6_goAlong_101 t1 ?_
  refine pw_aload_n C dX6_goAlong_104 rfl ?_
  refine pw_aload_n C dX6_goAlong_105 rfl ?_
  refine pw_getI C (t := 4) (f := 10) rfl inF4 rfl (by decide) (by decide) rfl kw239 dX6_goAlong_106 t2 ?_
  rw [show ph_I (ph_setI h a2 5 a1) a3 10 = x3 from e4]
  refine pw_putI C (t := 0) (f := 6) rfl inF0 tyX0_ok nmX0 rfl (by decide) (by decide) rfl (Or.inl rfl) (Or.inl rfl) kw128 dX6_goAlong_109 t5 ?_
  refine pw_aload_n C dX6_goAlong_112 rfl ?_
  refine pw_getR C (t := 6) (f := 3) rfl inF6 rfl (by decide) (by decide) rfl kw313 dX6_goAlong_113 t6 ?_
  rw [show ph_R (ph_setI (ph_setI h a2 5 a1) a2 6 x3) a0 3 = r7 from e8]
  exact pw_callV C (na := 0) (As := []) (S := S) hM t9 (by decide) (hcl := by rfl) kw338 kw339 kw340 kw43 kw341 (by decide +kernel) rfl dX6_goAlong_116 (by decide) (by decide) hk0 hn0 (by first | exact hS | (simp only [List.length_cons]; omega)) kk
set_option maxRecDepth 20000 in
theorem B_X6_goAlong_119 {G : Gx} {X : Cx} {h : PH} {k n : Nat} {a0 : Nat} {a1 : Int} {a2 : Nat} {a3 : Nat} {a4 : Int} {PQ : Option PV → PH → Prop} (C : CX_X6_goAlong G X) (hq : PQ none h) : PW G X 5 (pw_E G X PQ k n) k n 119 [some (.inr a0), some (.inl a1), some (.inr a2), some (.inr a3), some (.inl a4)] [] h := by
  exact pw_vreturn C dX6_goAlong_119 hq
