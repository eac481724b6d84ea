/-! THE CLAIM OUT OF ONE WALK OF THE LAW'S BODY. Your part is whole_start (and what it stands on); all else here is the same for every law, but numbers. -/
def R_law : String := "DishRoundsLaw"
def lw_P (b : Addr) (xs : List Int32) (args : Array Value) (s : State) : Prop := args = #[.ref b] ∧ s.IntsAt b xs ∧ xs.length ≤ 2560 ∧ (Jvm.Cond.and given_1 narrow_1).before args s = true
def lw_Q (_ : Array Value) (s : State) (o : Outcome) (t : State) : Prop := o = .returned (some (.int 1)) ∧ Framed s o t [] 600000 7302250
def lw_Z (below : List Frame) (a : Array Value) (s : State) : State → Prop := fun t => ∃ o, t.status = .running ∧ Ended t below o ∧ lw_Q a s o t
/-- the law's own end, with 1 on the stack, nothing written that was there before, its room as the claim has it -/
theorem lw_ret {p : Program} {l : Launch} {e : Env} {s : State} {m : MethodId} {below : List Frame} {meth : Method} {c : Code} {b : Nat} (hx : p.tables.exec = Jvm.exec) (hb : c.code = code) (hr : meth.sig.returnType = ret) (hlocks : meth.locks = false) {pc : Nat} {H : Heap} {ls : Array Slot} (hdg : decode code pc = .ok (.ireturn, 1)) : W p l e room_1 s m #[Value.ref b] below meth c H [] 600000 7302250 (lw_Z below #[Value.ref b] s) (F0 m pc ls [.int 1]) := by
  intro T hT X
  obtain ⟨fs, hret, hrun, hended, hW, hframe⟩ := X.leave (v := some (.int 1)) (hlocks := hlocks) (fun h => by rw [hr] at h; cases h)
  have hmeth' : T.vm.method? m = some meth := X.method'
  refine ⟨T.setFrames fs, ?_, .returned (some (.int 1)), hrun, hended, rfl, ⟨_, rfl⟩, hW, hframe⟩
  jvm_step X.here [X.here.top, hx, hb, hdg, hmeth', hr, ret, narrow_b1]
  (try refine ⟨rfl, ?_⟩); (try refine ⟨rfl, ?_⟩)
  first | (intro acts; rw [hret _ acts rfl rfl rfl]) | rw [hret _ _ rfl rfl rfl]
  exact Steps.refl _
/-- what holds at the law's entry: the machine, the code, the tables' words (any of lw_tbl by 'hts w (by decide +kernel)'), the script of L ints xs at the cell b, what the Statement gives of the start (any of its parts by flat_of_before) -/
def lw_At (p : Program) (s : State) (m : MethodId) (meth : Method) (c : Code) (b L : Nat) (xs : Nat → Int32) : Prop :=
  p.tables.exec = Jvm.exec ∧ c.code = code ∧ meth.sig.returnType = ret ∧ c.maxLocals = 4 ∧ s.vm.findClass R_law = some m.cls ∧ (∀ w ∈ lw_tbl, w.before #[Value.ref b] s = true) ∧ va_X b L xs s s.heap ∧ b < s.heap.size ∧ meth.locks = false ∧ (Jvm.Cond.and given_1 narrow_1).before #[Value.ref b] s = true
section LAWR
variable {G : Gx} {X : Cx} {cc : ByteArray} {nL : Nat} {own nm : String} {rt : Option FieldType} {rm : Room} {Q : State → Prop} {k n pc : Nat} {L : List (Option PV)} {S : List PV} {h : PH}
/-- the script stands -/
def ScX (G : Gx) (X : Cx) (Ln : Nat) (xs : Nat → Int32) : Prop := va_X G.2.1 Ln xs X.2.2.2.2.1 X.2.2.2.2.1.heap ∧ G.2.1 < G.1 ∧ G.1 = X.2.2.2.2.1.heap.size ∧ Ln ≤ 2560
theorem pw_sld (C : pw_Ctx G X cc nL own nm rt rm) {Ln : Nat} {xs : Nat → Int32} (x : ScX G X Ln xs) {i : Int} (hd : decode cc pc = .ok (.iaload, 1)) (h0 : 0 ≤ i) (h1 : i < Ln) (kk : PW G X nL Q k n (pc + 1) L (.inl (xs i.toNat).toInt :: S) h) : PW G X nL Q k n pc L (.inl i :: .inr 1 :: S) h := by
  intro H locs ls hR hS hl
  obtain ⟨x1, x2, x3, x4⟩ := x
  have hi : pR i := by unfold pR; omega
  have e1 : pw_rv G (.inr 1) = .ref G.2.1 := rfl
  have e2 : pw_rv G (.inl i) = .int (zI i) := rfl
  rw [List.map_cons, List.map_cons, e1, e2]
  refine va_sld (A := fun q => G.1 ≤ q) C.1 C.2.1 x1 (by omega) (Nat.not_le.mpr x2) hS (zI_in h0 h1 (by omega)) hd ?_
  have := kk H locs ls hR hS hl
  rw [List.map_cons, show pw_rv G (.inl (xs i.toNat).toInt) = .int (xs i.toNat) from by show Value.int (zI _) = _; rw [zI_of]] at this
  rw [zI_clamp hi]
  exact this
theorem pw_slen (C : pw_Ctx G X cc nL own nm rt rm) {Ln : Nat} {xs : Nat → Int32} (x : ScX G X Ln xs) (hd : decode cc pc = .ok (.arraylength, 1)) (kk : PW G X nL Q k n (pc + 1) L (.inl (Ln : Int) :: S) h) : PW G X nL Q k n pc L (.inr 1 :: S) h := by
  intro H locs ls hR hS hl
  obtain ⟨x1, x2, x3, x4⟩ := x
  have e1 : pw_rv G (.inr 1) = .ref G.2.1 := rfl
  rw [List.map_cons, e1]
  refine va_slen (A := fun q => G.1 ≤ q) C.1 C.2.1 x1 (by omega) (Nat.not_le.mpr x2) hS hd ?_
  exact kk H locs ls hR hS hl
theorem pw_icmp_same (C : pw_Ctx G X cc nL own nm rt rm) {x : Int} {off : Int} (tgt : Nat) (hd : decode cc pc = .ok (.if_icmp .eq off, 3)) (ht : (pc : Int) + off = (tgt : Int)) (kk : PW G X nL Q k n tgt L S h) : PW G X nL Q k n pc L (.inl x :: .inl x :: S) h :=
  fun H locs ls hR hS hl => lv_icmp_eq C.1 C.2.1 hd ht (fun _ => kk H locs ls hR hS hl) (fun q => absurd rfl q)
def scv (xs : Nat → Int32) (i j : Int) : Int := (xs (Int.toNat (i + j))).toInt
theorem scv_r (xs : Nat → Int32) (i j : Int) : pR (scv xs i j) := pR_of _
def lawL (i : Int) : List (Option PV) := [some (.inr 1), some (.inr 2), some (.inr 134), some (.inl i)]
theorem pw_arg (C : pw_Ctx G X cL_law 4 own nm rt rm) {Ln : Nat} {xs : Nat → Int32} (x : ScX G X Ln xs) {i j : Int} (D0 : decode cL_law pc = .ok (.aload_n 0, 1)) (D1 : decode cL_law (pc + 1) = .ok (.iload_n 3, 1)) (D2 : decode cL_law (pc + 1 + 1) = .ok (.iconst j, 1)) (D3 : decode cL_law (pc + 1 + 1 + 1) = .ok (.iadd, 1)) (D4 : decode cL_law (pc + 1 + 1 + 1 + 1) = .ok (.iaload, 1)) (h0 : 0 ≤ i + j) (h1 : i + j < Ln) (kk : PW G X 4 Q k n (pc + 1 + 1 + 1 + 1 + 1) (lawL i) (.inl (scv xs i j) :: S) h) : PW G X 4 Q k n pc (lawL i) S h := by
  refine pw_aload_n C D0 (r := 1) rfl ?_
  refine pw_iload_n C D1 (x := i) rfl ?_
  refine pw_iconst C D2 ?_
  refine pw_iadd C D3 ?_
  exact pw_sld C x D4 h0 h1 kk
end LAWR
theorem XS_kp {h h' : PH} (T : ∀ e, e < 134 → ph_T h' e = ph_T h e ∧ ph_L h' e = ph_L h e) (R : ∀ e, e < 134 → ∀ k, ph_R h' e k = ph_R h e k) (f : XS h) : XS h' := by
  obtain ⟨⟨a1, a2, a3, a4, a5⟩, ⟨b1, b2, b3, b4, b5, b6⟩, ⟨c1, c2, c3⟩, ⟨e1, e2, e3, e4, e5, e6⟩, ⟨f1, f2, f3, f4, f5, f6, f7, f8, f9, f10⟩, g7⟩ := f
  have q : ∀ b, b + 33 ≤ 134 → WS h b → WS h' b := fun b hb w => WS_loc (fun e e0 e1 => ⟨T e (by omega), R e (by omega)⟩) w
  refine ⟨?_, ?_, ⟨q 3 (by omega) c1, q 38 (by omega) c2, q 71 (by omega) c3⟩, ?_, ?_, fun d hd => ?_⟩
  · rw [(T 2 (by decide)).1]; simp only [R 2 (by decide)]; exact ⟨a1, a2, a3, a4, a5⟩
  · rw [(T 36 (by decide)).1, (T 36 (by decide)).2, (T 37 (by decide)).1, (T 37 (by decide)).2]; simp only [R 36 (by decide)]; exact ⟨b1, b2, b3, b4, b5, b6⟩
  · rw [(T 104 (by decide)).1]; simp only [R 104 (by decide)]; exact ⟨e1, e2, e3, e4, e5, e6⟩
  · rw [(T 105 (by decide)).1, (T 105 (by decide)).2, (T 106 (by decide)).1, (T 106 (by decide)).2, (T 107 (by decide)).1, (T 107 (by decide)).2, (T 108 (by decide)).1, (T 108 (by decide)).2, (T 109 (by decide)).1, (T 109 (by decide)).2]; exact ⟨f1, f2, f3, f4, f5, f6, f7, f8, f9, f10⟩
  · rw [R 105 (by decide)]; exact ⟨(g7 d hd).1, YS_loc (fun e a b => ⟨T e (by omega), R e (by omega)⟩) (g7 d hd).2⟩
theorem ini_r (j : Nat) : pR (iniS j) := by
  unfold iniS pR
  repeat' split
  all_goals omega
theorem ini_ok : OkS iniS := by
  refine ⟨by unfold okSky; decide, ini_r, by decide, fun d d0 d1 => ?_, fun p p0 p1 => ?_⟩
  · have hd : d = 0 ∨ d = 1 ∨ d = 2 ∨ d = 3 := by omega
    rcases hd with rfl | rfl | rfl | rfl <;> (unfold OkD zabs; decide)
  · have e : iniS 484 = 0 := rfl
    rw [e] at p1
    omega
theorem ini_ok2 : Ok2 iniS := by
  have e : iniS 484 = 0 := rfl
  refine ⟨fun p p0 p1 => ?_, fun p q p0 p1 p2 => ?_, Or.inl ⟨rfl, rfl⟩⟩
  · rw [e] at p1; omega
  · rw [e] at p2; omega
theorem ini_lk : LkB iniS 0 := fun j a b => by
  unfold iniS
  repeat rw [if_neg (by omega)]
  omega
theorem sim0 {h h1 : PH} (s1 : h.1 = 133) (x : XS h) (w : WR h 3 iniS) (z : ∀ k, ph_I h 37 k = 0) (y : ∀ d : Nat, d < 4 → ph_I h (110 + 6 * d) 5 = -6 ∧ ph_I h (110 + 6 * d) 7 = 0) (g : GrE 134 h h1 7) (m : MF h1) (i5 : ∀ j, ph_I h1 135 j = iniS j) (i7 : ∀ j, ph_I h1 137 j = 0) : Sim h1 0 := by
  have e5 : ph_I h1 135 = iniS := funext i5
  have T : ∀ e, e < 134 → ph_T h1 e = ph_T h e ∧ ph_L h1 e = ph_L h e := fun e he => g.2.1 e (by omega)
  have I : ∀ e, e < 134 → ∀ k, ph_I h1 e k = ph_I h e k := fun e he => (g.2.2 e (by omega) (by omega)).1
  have R : ∀ e, e < 134 → ∀ k, ph_R h1 e k = ph_R h e k := fun e he => (g.2.2 e (by omega) (by omega)).2
  refine ⟨m, ?_, ?_, fun j => by rw [i7]; unfold pR; omega, fun k hk => ?_⟩
  · rw [e5]
    exact ⟨XS_kp T R x, WR_congr x.2.2.1.1 (by decide) (fun k => R 4 (by decide) k) (fun e a b k => I e (by omega) k) w, ini_ok, ini_ok2, fun d hd => ⟨Or.inl (by rw [I _ (by omega)]; exact (y d hd).2), Or.inl (by rw [I _ (by omega)]; exact (y d hd).1)⟩⟩
  · rw [e5]; exact ini_lk
  · rw [i7, I 37 (by decide), z]; exact ⟨rfl, Or.inl rfl⟩
theorem Sim.mono {h : PH} {B B' : Int} (s : Sim h B) (hB : B ≤ B') : Sim h B' := by
  obtain ⟨a, b, c, d, e⟩ := s
  refine ⟨a, b, c.mono hB, d, fun k hk => ⟨(e k hk).1, ?_⟩⟩
  rcases (e k hk).2 with z | ⟨z1, z2, z3, z4, z5⟩
  · exact Or.inl z
  · exact Or.inr ⟨z1, z2, z3, z4, z5.mono hB⟩
theorem lnt1 {w : Cond} (i : Nat) (h : tables_1_1[i]? = some w) : w ∈ lw_tbl := List.mem_append_right _ (List.mem_append_left _ (List.mem_of_getElem? h))
theorem lnt2 {w : Cond} (i : Nat) (h : tables_1_2[i]? = some w) : w ∈ lw_tbl := List.mem_append_right _ (List.mem_append_right _ (List.mem_append_left _ (List.mem_of_getElem? h)))
theorem lnt3 {w : Cond} (i : Nat) (h : tables_1_3[i]? = some w) : w ∈ lw_tbl := List.mem_append_right _ (List.mem_append_right _ (List.mem_append_right _ (List.mem_append_left _ (List.mem_of_getElem? h))))
theorem lnt4 {w : Cond} (i : Nat) (h : tables_1_4[i]? = some w) : w ∈ lw_tbl := List.mem_append_right _ (List.mem_append_right _ (List.mem_append_right _ (List.mem_append_right _ (List.mem_of_getElem? h))))
theorem law_ctx {p : Program} {e : Env} {s : State} {m : MethodId} {below : List Frame} {meth : Method} {c : Code} (l : Launch) {b L : Nat} {xs : Nat → Int32} (hL : L ≤ 2560) (C0 : lw_At p s m meth c b L xs) : ∃ (dC : Nat → ClassId) (dI : Nat → Nat → Nat) (tyC : Nat → ClassId), pw_Ctx (s.heap.size, b, dC, dI, tyC) (p, l, e, room_1, s, m, #[Value.ref b], below, meth, c) cL_law 4 RL meth.name ret room_1 ∧ ScX (s.heap.size, b, dC, dI, tyC) (p, l, e, room_1, s, m, #[Value.ref b], below, meth, c) L xs := by
  obtain ⟨hx, hc, hr, hml, hown, hts, hX, hbl, hlk, -⟩ := C0
  have hl := lw_LW hts
  obtain ⟨c0, i0, k0⟩ := u_known hl inF0 (hl _ kw102)
  obtain ⟨c1, i1, k1⟩ := u_known hl inF1 (hl _ kw145)
  obtain ⟨c2, i2, k2⟩ := u_known hl inF2 (hl _ kw202)
  obtain ⟨c3, i3, k3⟩ := u_known hl inF3 (hl _ kw68)
  obtain ⟨c4, i4, k4⟩ := u_known hl inF4 (hl _ kw210)
  obtain ⟨c5, i5, k5⟩ := u_known hl inF5 (hl _ kw58)
  obtain ⟨c6, i6, k6⟩ := u_known hl inF6 (hl _ kw50)
  obtain ⟨c7, i7, k7⟩ := u_known hl inF7 (hl _ kw672)
  obtain ⟨a8, ka8, cp8, f8, g8, j8⟩ := Cond.arrayClass_spec (hl _ kw144)
  obtain ⟨a9, ka9, cp9, f9, g9, j9⟩ := Cond.arrayClass_spec (hl _ kw275)
  have ao10 : (Cond.arrayOver (.object RX0)).before #[Value.ref b] s = true := hts _ (lnt1 27 rfl)
  obtain ⟨cp10, a10, ka10, f10, -, g10, j10, n10⟩ := Cond.arrayOver_spec ao10
  have ao11 : (Cond.arrayOver (.object RX1)).before #[Value.ref b] s = true := hts _ (lnt1 29 rfl)
  obtain ⟨cp11, a11, ka11, f11, -, g11, j11, n11⟩ := Cond.arrayOver_spec ao11
  have ao12 : (Cond.arrayOver (.object RX4)).before #[Value.ref b] s = true := hts _ (lnt1 171 rfl)
  obtain ⟨cp12, a12, ka12, f12, -, g12, j12, n12⟩ := Cond.arrayOver_spec ao12
  have ao13 : (Cond.arrayOver (.object RX5)).before #[Value.ref b] s = true := hts _ (lnt1 163 rfl)
  obtain ⟨cp13, a13, ka13, f13, -, g13, j13, n13⟩ := Cond.arrayOver_spec ao13
  have w0 : va_Nw (.methodLinkNest RX5 25 yX3_init RX6) s := va_Nw.of rfl (hts _ (lnt1 32 rfl))
  have w1 : va_Nw (.methodLinkNest RX5 38 yX0_init RX6) s := va_Nw.of rfl (hts _ (lnt1 66 rfl))
  have w2 : va_Nw (.methodLinkNest RX5 39 yX1_init RX6) s := va_Nw.of rfl (hts _ (lnt1 109 rfl))
  have w3 : va_Nw (.methodLinkNest RX2 63 yX4_init RX6) s := va_Nw.of rfl (hts _ (lnt1 174 rfl))
  have w4 : va_Nw (.methodLinkNest RX3 51 yX6_isIn RX6) s := va_Nw.of rfl (hts _ (lnt2 230 rfl))
  have w5 : va_Nw (.methodLinkNest RX2 215 yX6_sideOf RX6) s := va_Nw.of rfl (hts _ (lnt2 231 rfl))
  have w6 : va_Nw (.methodLinkNest RX2 241 yX6_isIn RX6) s := va_Nw.of rfl (hts _ (lnt3 2 rfl))
  have w7 : va_Nw (.methodLinkNest RX2 238 yX6_isHeight RX6) s := va_Nw.of rfl (hts _ (lnt3 8 rfl))
  refine ⟨fun t => [c0, c1, c2, c3, c4, c5, c6, c7].getD t c0, fun t => [i0, i1, i2, i3, i4, i5, i6, i7].getD t i0, fun t => [a8, a9, a10, a11, a12, a13].getD (t - 8) a8, ⟨hx, hc, hml, hown, hl, ⟨fun c q hq => ?_, fun k q hq => ?_⟩, Nat.le_refl _, rfl, ⟨⟨w0, w1, w2, w3, w4, w5, w6, w7⟩, ao10, ao11, ao12, ao13⟩, hlk, hr, rfl⟩, hX, hbl, rfl, hL⟩
  · have h1 := (List.getElem?_eq_some_iff.mp hq).1
    have h2 : vwCl.length = 8 := rfl
    have h8 : c = 0 ∨ c = 1 ∨ c = 2 ∨ c = 3 ∨ c = 4 ∨ c = 5 ∨ c = 6 ∨ c = 7 := by omega
    rcases h8 with rfl | rfl | rfl | rfl | rfl | rfl | rfl | rfl
    · cases hq; exact k0
    · cases hq; exact k1
    · cases hq; exact k2
    · cases hq; exact k3
    · cases hq; exact k4
    · cases hq; exact k5
    · cases hq; exact k6
    · cases hq; exact k7
  · have h1 := (List.getElem?_eq_some_iff.mp hq).1
    have h8 : k = 0 ∨ k = 1 ∨ k = 2 ∨ k = 3 ∨ k = 4 ∨ k = 5 := by have h2 : k < 6 := h1; omega
    rcases h8 with rfl | rfl | rfl | rfl | rfl | rfl
    · cases hq; exact ⟨fun n z => ⟨fun k h => (by cases h), ka8, g8, cp8, j8⟩, f8⟩
    · cases hq; exact ⟨fun n z => ⟨fun k h => (by cases h), ka9, g9, cp9, j9⟩, f9⟩
    · cases hq; exact ⟨fun n z => ⟨fun k h => (by cases h), ka10, g10, cp10, j10⟩, ⟨ka10, cp10, g10, j10, f10, n10⟩⟩
    · cases hq; exact ⟨fun n z => ⟨fun k h => (by cases h), ka11, g11, cp11, j11⟩, ⟨ka11, cp11, g11, j11, f11, n11⟩⟩
    · cases hq; exact ⟨fun n z => ⟨fun k h => (by cases h), ka12, g12, cp12, j12⟩, ⟨ka12, cp12, g12, j12, f12, n12⟩⟩
    · cases hq; exact ⟨fun n z => ⟨fun k h => (by cases h), ka13, g13, cp13, j13⟩, ⟨ka13, cp13, g13, j13, f13, n13⟩⟩
