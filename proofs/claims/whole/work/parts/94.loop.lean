theorem law_end {p : Program} {l : Launch} {e : Env} {s : State} {m : MethodId} {below : List Frame} {meth : Method} {c : Code} {b Ln : Nat} {xs : Nat → Int32} {G : Gx} {nm : String} (C : pw_Ctx G (p, l, e, room_1, s, m, #[Value.ref b], below, meth, c) cL_law 4 RL nm ret room_1) (x : ScX G (p, l, e, room_1, s, m, #[Value.ref b], below, meth, c) Ln xs) {L : List (Option PV)} {h : PH} : PW G (p, l, e, room_1, s, m, #[Value.ref b], below, meth, c) 4 (lw_Z below #[Value.ref b] s) 140 85706 908 L [] h := by
  refine pw_iconst C dL_law_908 ?_
  intro H locs ls hR hS hl
  have hG : G.1 = s.heap.size := x.2.2.1
  refine va_forget (fun q hq => by rw [← hG]; exact hS.2.2 q hq) ?_
  refine W.widen (k := 600000) (n := 7302250) (by decide) (by decide) ?_
  obtain ⟨hx, hb, -, -, -, -, -, -, -, hlk, hrt, -⟩ := C
  exact lw_ret hx hb hrt hlk dL_law_909
theorem law_loop {p : Program} {l : Launch} {e : Env} {s : State} {m : MethodId} {below : List Frame} {meth : Method} {c : Code} {b Ln : Nat} {xs : Nat → Int32} {G : Gx} {nm : String} (C : pw_Ctx G (p, l, e, room_1, s, m, #[Value.ref b], below, meth, c) cL_law 4 RL nm ret room_1) (x : ScX G (p, l, e, room_1, s, m, #[Value.ref b], below, meth, c) Ln xs) : ∀ (r : Nat) (i : Int) (h : PH), 0 ≤ i → i ≤ Ln → (Ln : Int) ≤ i + 5 * r → Sim h (128 * i) → PW G (p, l, e, room_1, s, m, #[Value.ref b], below, meth, c) 4 (lw_Z below #[Value.ref b] s) 140 85706 18 (lawL i) [] h := by
  intro r
  induction r with
  | zero =>
    intro i h i0 i2 i1 sm
    have hLn : Ln ≤ 2560 := x.2.2.2
    refine pw_iload_n C dL_law_18 (x := i) rfl ?_
    refine pw_aload_n C dL_law_19 (r := 1) rfl ?_
    refine pw_slen C x dL_law_20 ?_
    refine pw_iconst C dL_law_21 ?_
    refine pw_isub C dL_law_22 ?_
    exact pw_icmp_gt C 908 dL_law_23 (by decide) (by unfold pR; omega) (by unfold pR; omega) (fun _ => law_end C x) (fun z => by omega)
  | succ r ih =>
    intro i h i0 i2 i1 sm
    have hLn : Ln ≤ 2560 := x.2.2.2
    refine pw_iload_n C dL_law_18 (x := i) rfl ?_
    refine pw_aload_n C dL_law_19 (r := 1) rfl ?_
    refine pw_slen C x dL_law_20 ?_
    refine pw_iconst C dL_law_21 ?_
    refine pw_isub C dL_law_22 ?_
    refine pw_icmp_gt C 908 dL_law_23 (by decide) (by unfold pR; omega) (by unfold pR; omega) (fun _ => law_end C x) (fun z => ?_)
    have i5 : i + 5 ≤ Ln := by omega
    have nx : ∀ h2, Sim h2 (128 * i + 640) → PW G (p, l, e, room_1, s, m, #[Value.ref b], below, meth, c) 4 (lw_Z below #[Value.ref b] s) 140 85706 902 (lawL i) [] h2 := fun h2 s2 => by
      refine pw_iinc C dL_law_902 (x := i) rfl (by decide) ?_
      refine pw_goto C 18 dL_law_905 (by decide) ?_
      exact ih (i + 5) h2 (by omega) i5 (by omega) (by rw [show 128 * (i + 5) = 128 * i + 640 by omega]; exact s2)
    refine pw_aload_n C dL_law_26 (r := 1) rfl ?_
    refine pw_iload_n C dL_law_27 (x := i) rfl ?_
    refine pw_sld C x dL_law_28 i0 (by omega) ?_
    refine pw_bipush C dL_law_29 rfl ?_
    refine pw_iand C dL_law_31 ?_
    have gs : pR (zI (xs i.toNat).toInt &&& zI 31).toInt := pR_of _
    generalize (zI (xs i.toNat).toInt &&& zI 31).toInt = sv at gs ⊢
    have B0 : 128 * i ≤ 800000000 := by omega
    by_cases zz : sv < 0 ∨ 21 < sv
    · exact pw_tableOut C 902 dL_law_32 gs zz (by decide) (nx h (sm.mono (by omega)))
    · have zc : sv = 0 ∨ sv = 1 ∨ sv = 2 ∨ sv = 3 ∨ sv = 4 ∨ sv = 5 ∨ sv = 6 ∨ sv = 7 ∨ sv = 8 ∨ sv = 9 ∨ sv = 10 ∨ sv = 11 ∨ sv = 12 ∨ sv = 13 ∨ sv = 14 ∨ sv = 15 ∨ sv = 16 ∨ sv = 17 ∨ sv = 18 ∨ sv = 19 ∨ sv = 20 ∨ sv = 21 := by omega
      rcases zc with rfl | rfl | rfl | rfl | rfl | rfl | rfl | rfl | rfl | rfl | rfl | rfl | rfl | rfl | rfl | rfl | rfl | rfl | rfl | rfl | rfl | rfl
      · exact pw_tableIn C 136 dL_law_32 gs (by decide) (by decide) rfl (by decide) (law_0 C x sm B0 i0 i5 nx)
      · exact pw_tableIn C 169 dL_law_32 gs (by decide) (by decide) rfl (by decide) (law_1 C x sm B0 i0 i5 nx)
      · exact pw_tableIn C 212 dL_law_32 gs (by decide) (by decide) rfl (by decide) (law_2 C x sm B0 i0 i5 nx)
      · exact pw_tableIn C 235 dL_law_32 gs (by decide) (by decide) rfl (by decide) (law_3 C x sm B0 i0 i5 nx)
      · exact pw_tableIn C 288 dL_law_32 gs (by decide) (by decide) rfl (by decide) (law_4 C x sm B0 i0 i5 nx)
      · exact pw_tableIn C 331 dL_law_32 gs (by decide) (by decide) rfl (by decide) (law_5 C x sm B0 i0 i5 nx)
      · exact pw_tableIn C 384 dL_law_32 gs (by decide) (by decide) rfl (by decide) (law_6 C x sm B0 i0 i5 nx)
      · exact pw_tableIn C 417 dL_law_32 gs (by decide) (by decide) rfl (by decide) (law_7 C x sm B0 i0 i5 nx)
      · exact pw_tableIn C 440 dL_law_32 gs (by decide) (by decide) rfl (by decide) (law_8 C x sm B0 i0 i5 nx)
      · exact pw_tableIn C 483 dL_law_32 gs (by decide) (by decide) rfl (by decide) (law_9 C x sm B0 i0 i5 nx)
      · exact pw_tableIn C 516 dL_law_32 gs (by decide) (by decide) rfl (by decide) (law_10 C x sm B0 i0 i5 nx)
      · exact pw_tableIn C 539 dL_law_32 gs (by decide) (by decide) rfl (by decide) (law_11 C x sm B0 i0 i5 nx)
      · exact pw_tableIn C 572 dL_law_32 gs (by decide) (by decide) rfl (by decide) (law_12 C x sm B0 i0 i5 nx)
      · exact pw_tableIn C 615 dL_law_32 gs (by decide) (by decide) rfl (by decide) (law_13 C x sm B0 i0 i5 nx)
      · exact pw_tableIn C 668 dL_law_32 gs (by decide) (by decide) rfl (by decide) (law_14 C x sm B0 i0 i5 nx)
      · exact pw_tableIn C 701 dL_law_32 gs (by decide) (by decide) rfl (by decide) (law_15 C x sm B0 i0 i5 nx)
      · exact pw_tableIn C 754 dL_law_32 gs (by decide) (by decide) rfl (by decide) (law_16 C x sm B0 i0 i5 nx)
      · exact pw_tableIn C 787 dL_law_32 gs (by decide) (by decide) rfl (by decide) (law_17 C x sm B0 i0 i5 nx)
      · exact pw_tableIn C 800 dL_law_32 gs (by decide) (by decide) rfl (by decide) (law_18 C x sm B0 i0 i5 nx)
      · exact pw_tableIn C 833 dL_law_32 gs (by decide) (by decide) rfl (by decide) (law_19 C x sm B0 i0 i5 nx)
      · exact pw_tableIn C 856 dL_law_32 gs (by decide) (by decide) rfl (by decide) (law_20 C x sm B0 i0 i5 nx)
      · exact pw_tableIn C 879 dL_law_32 gs (by decide) (by decide) rfl (by decide) (law_21 C x sm B0 i0 i5 nx)
def h00 : PH := (0, fun _ => 14, fun _ => 0, fun _ _ => 0, fun _ _ => 0)
theorem law_go {p : Program} {l : Launch} {e : Env} {s : State} {m : MethodId} {below : List Frame} {meth : Method} {c : Code} {b Ln : Nat} {xs : Nat → Int32} {G : Gx} {nm : String} (C : pw_Ctx G (p, l, e, room_1, s, m, #[Value.ref b], below, meth, c) cL_law 4 RL nm ret room_1) (x : ScX G (p, l, e, room_1, s, m, #[Value.ref b], below, meth, c) Ln xs) : PW G (p, l, e, room_1, s, m, #[Value.ref b], below, meth, c) 4 (lw_Z below #[Value.ref b] s) 0 0 0 [some (.inr 1), none, none, none] [] h00 := by
  refine pw_new C (t := 6) rfl inF6 tyX6_ok rfl (by decide) (by decide +kernel) kw49 kw50 kw38 dL_law_0 (by decide) (by decide) ?_
  generalize hA : ph_new h00 6 4 = h1
  have s1 : h1.1 = 1 := by rw [← hA]; rfl
  have t1 : ph_T h1 2 = 6 := by rw [← hA]; rfl
  clear hA
  show PW _ _ 4 _ 1 4 3 _ [.inr 2] h1
  refine pw_dup C dL_law_3 ?_
  refine pw_callI C (na := 0) (As := []) (S := [.inr 2]) (c := 2) (ct_X6_init G _ h1 s1 t1) (by decide) kw51 kw52 kw38 kw53 rfl (by decide +kernel) rfl dL_law_4 (by decide) (by decide) (by decide) (by decide) (by decide) (fun rr h2 q => ?_)
  obtain ⟨rfl, s2, x2, w2, z2, y2⟩ := q
  show PW _ _ 4 _ 132 43096 7 _ [.inr 2] h2
  refine pw_astore_n C dL_law_7 (by decide) (by decide) ?_
  refine pw_new C (t := 7) rfl inF7 tyX7_ok rfl (by decide) (by decide +kernel) kw671 kw672 kw45 dL_law_8 (by decide) (by decide) ?_
  have e2 : ph_S h2 + 2 = 134 := by show h2.1 + 2 = 134; omega
  rw [e2]
  have b2 : h2.1 + 2 = 134 := e2
  have T3 : ∀ e, e < 134 → ph_T (ph_new h2 7 12) e = ph_T h2 e ∧ ph_L (ph_new h2 7 12) e = ph_L h2 e := fun e he => ⟨nT_o (by omega), nL_o (by omega)⟩
  have I3 : ∀ e, e < 134 → ∀ k, ph_I (ph_new h2 7 12) e k = ph_I h2 e k := fun e he k => nI_o (by omega)
  have R3 : ∀ e, e < 134 → ∀ k, ph_R (ph_new h2 7 12) e k = ph_R h2 e k := fun e he k => nR_o (by omega)
  have s3 : (ph_new h2 7 12).1 = 133 := by show h2.1 + 1 = 133; omega
  have t3 : ph_T (ph_new h2 7 12) 134 = 7 := by rw [← b2]; simp [ph_T, ph_new]
  generalize ph_new h2 7 12 = h3 at T3 I3 R3 s3 t3 ⊢
  have x3 : XS h3 := XS_kp T3 R3 x2
  have w3 : WR h3 3 iniS := WR_congr x2.2.2.1.1 (by decide) (fun k => R3 4 (by decide) k) (fun e a b k => I3 e (by omega) k) w2
  show PW _ _ 4 _ 133 43108 11 _ [.inr 134] h3
  refine pw_dup C dL_law_11 ?_
  refine pw_callI C (na := 0) (As := []) (S := [.inr 134]) (c := 134) (ct_X7_init G _ h3 s3 t3) (by decide) kw673 kw674 kw45 kw675 rfl (by decide +kernel) rfl dL_law_12 (by decide) (by decide) (by decide) (by decide) (by decide) (fun rr h4 q => ?_)
  obtain ⟨rfl, g4, m4, i5, i6, i7⟩ := q
  show PW _ _ 4 _ 140 85706 15 _ [.inr 134] h4
  have sm : Sim h4 0 := sim0 s3 x3 w3 (fun k => by rw [I3 37 (by decide)]; exact z2 k) (fun d hd => by rw [I3 _ (by omega), I3 _ (by omega)]; exact y2 d hd) g4 m4 i5 i7
  refine pw_astore_n C dL_law_15 (by decide) (by decide) ?_
  refine pw_iconst C dL_law_16 ?_
  refine pw_istore_n C dL_law_17 (by decide) ?_
  exact law_loop C x 512 0 h4 (by decide) (by omega) (by have := x.2.2.2; omega) sm
theorem law_rep {G : Gx} {H : Heap} (hH : H.size = G.1) : pw_Rep G h00 H := by
  refine ⟨hH, fun c hc => ?_, fun i q hq => ?_⟩
  · have : (14 : Nat) < 14 := hc
    omega
  · have : ([] : va_W)[i]? = some q := hq
    simp at this
/-- from the entry, for every script of at most 2560 ints, the law comes to its end with true -/
theorem whole_start {p : Program} {e : Env} {s : State} {m : MethodId} {below : List Frame} {meth : Method} {c : Code} (l : Launch) (hflags : l.flags = flags0) {b L : Nat} {xs : Nat → Int32} (hL : L ≤ 2560) (C0 : lw_At p s m meth c b L xs) : W p l e room_1 s m #[Value.ref b] below meth c s.heap [] 0 0 (lw_Z below #[Value.ref b] s) (entryFrame m ([Value.ref b] : List Value).toArray 4) := by
  obtain ⟨dC, dI, tyC, C, x⟩ := law_ctx (e := e) (below := below) l hL C0
  have hh := law_go C x
  have en := pw_entry (s.heap.size, b, dC, dI, tyC) [.inr 1] 4 (by decide)
  rw [lg_entry_eq]
  exact hh s.heap [] _ (law_rep rfl) va_S.rf en
