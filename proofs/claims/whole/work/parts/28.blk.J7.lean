theorem dJ7_fill_53178_0 : decode cJ7_fill_53178 0 = .ok (.iconst 0, 1) := by decide +kernel
theorem dJ7_fill_53178_1 : decode cJ7_fill_53178 1 = .ok (.istore_n 2, 1) := by decide +kernel
theorem dJ7_fill_53178_2 : decode cJ7_fill_53178 2 = .ok (.aload_n 0, 1) := by decide +kernel
theorem dJ7_fill_53178_3 : decode cJ7_fill_53178 3 = .ok (.arraylength, 1) := by decide +kernel
theorem dJ7_fill_53178_4 : decode cJ7_fill_53178 4 = .ok (.istore_n 3, 1) := by decide +kernel
theorem dJ7_fill_53178_5 : decode cJ7_fill_53178 5 = .ok (.iload_n 2, 1) := by decide +kernel
theorem dJ7_fill_53178_6 : decode cJ7_fill_53178 6 = .ok (.iload_n 3, 1) := by decide +kernel
theorem dJ7_fill_53178_7 : decode cJ7_fill_53178 7 = .ok (.if_icmp .ge 13, 3) := by decide +kernel
theorem dJ7_fill_53178_10 : decode cJ7_fill_53178 10 = .ok (.aload_n 0, 1) := by decide +kernel
theorem dJ7_fill_53178_11 : decode cJ7_fill_53178 11 = .ok (.iload_n 2, 1) := by decide +kernel
theorem dJ7_fill_53178_12 : decode cJ7_fill_53178 12 = .ok (.iload_n 1, 1) := by decide +kernel
theorem dJ7_fill_53178_13 : decode cJ7_fill_53178 13 = .ok (.iastore, 1) := by decide +kernel
theorem dJ7_fill_53178_14 : decode cJ7_fill_53178 14 = .ok (.iinc 2 1, 3) := by decide +kernel
theorem dJ7_fill_53178_17 : decode cJ7_fill_53178 17 = .ok (.goto (-12), 3) := by decide +kernel
theorem dJ7_fill_53178_20 : decode cJ7_fill_53178 20 = .ok (.return_, 1) := by decide +kernel
set_option maxRecDepth 20000 in
theorem B_J7_fill_53178_0 {G : Gx} {X : Cx} {h : PH} {k n : Nat} {Q : State → Prop} {S : List PV} {a0 : Nat} {a1 : Int} {x2 : Int} (C : CX_J7_fill_53178 G X) (t1 : ph_T h a0 = 8 := by first | assumption | rfl) (e3 : (ph_L h a0 : Int) = x2 := by first | assumption | rfl) (kk : PW G X 4 Q k n 5 [some (.inr a0), some (.inl a1), some (.inl 0), some (.inl x2)] (S) h) : PW G X 4 Q k n 0 [some (.inr a0), some (.inl a1), none, none] (S) h := by
  refine pw_iconst C dJ7_fill_53178_0 ?_
  refine pw_istore_n C dJ7_fill_53178_1 (by decide) ?_
  refine pw_aload_n C dJ7_fill_53178_2 rfl ?_
  refine pw_alen C dJ7_fill_53178_3 t1 ?_
  show PW G X _ _ _ _ _ _ (.inl (ph_L h a0 : Int) :: _) _
  rw [e3]
  refine pw_istore_n C dJ7_fill_53178_4 (by decide) ?_
  exact kk
set_option maxRecDepth 20000 in
theorem B_J7_fill_53178_5 {G : Gx} {X : Cx} {h : PH} {k n : Nat} {Q : State → Prop} {S : List PV} {a0 : Nat} {a1 : Int} {a2 : Int} {a3 : Int} (C : CX_J7_fill_53178 G X) (q1 : pR a2 := by first | assumption | (unfold pR; omega)) (q2 : pR a3 := by first | assumption | (unfold pR; omega)) (kt : a3 ≤ a2 → PW G X 4 Q k n 20 [some (.inr a0), some (.inl a1), some (.inl a2), some (.inl a3)] (S) h) (kf : ¬ a3 ≤ a2 → PW G X 4 Q k n 10 [some (.inr a0), some (.inl a1), some (.inl a2), some (.inl a3)] (S) h) : PW G X 4 Q k n 5 [some (.inr a0), some (.inl a1), some (.inl a2), some (.inl a3)] (S) h := by
  refine pw_iload_n C dJ7_fill_53178_5 rfl ?_
  refine pw_iload_n C dJ7_fill_53178_6 rfl ?_
  exact pw_icmp_ge C 20 dJ7_fill_53178_7 (by decide) q1 q2 kt kf
set_option maxRecDepth 20000 in
theorem B_J7_fill_53178_10 {G : Gx} {X : Cx} {h : PH} {k n : Nat} {Q : State → Prop} {S : List PV} {a0 : Nat} {a1 : Int} {a2 : Int} {a3 : Int} (C : CX_J7_fill_53178 G X) (t1 : ph_T h a0 = 8 := by first | assumption | rfl) (q2 : (0 : Int) ≤ a2 := by first | assumption | omega) (q3 : a2 < (ph_L h a0 : Int) := by first | assumption | omega) (q4 : pR a2 := by first | assumption | (unfold pR; omega)) (kk : PW G X 4 Q k n 5 [some (.inr a0), some (.inl a1), some (.inl (a2 + 1)), some (.inl a3)] (S) (ph_setI h a0 (Int.toNat a2) a1)) : PW G X 4 Q k n 10 [some (.inr a0), some (.inl a1), some (.inl a2), some (.inl a3)] (S) h := by
  refine pw_aload_n C dJ7_fill_53178_10 rfl ?_
  refine pw_iload_n C dJ7_fill_53178_11 rfl ?_
  refine pw_iload_n C dJ7_fill_53178_12 rfl ?_
  refine pw_iast C dJ7_fill_53178_13 t1 q2 q3 q4 ?_
  refine pw_iinc C dJ7_fill_53178_14 rfl (by decide) ?_
  refine pw_goto C 5 dJ7_fill_53178_17 (by decide) ?_
  exact kk
set_option maxRecDepth 20000 in
theorem B_J7_fill_53178_20 {G : Gx} {X : Cx} {h : PH} {k n : Nat} {a0 : Nat} {a1 : Int} {a2 : Int} {a3 : Int} {PQ : Option PV → PH → Prop} (C : CX_J7_fill_53178 G X) (hq : PQ none h) : PW G X 4 (pw_E G X PQ k n) k n 20 [some (.inr a0), some (.inl a1), some (.inl a2), some (.inl a3)] [] h := by
  exact pw_vreturn C dJ7_fill_53178_20 hq
