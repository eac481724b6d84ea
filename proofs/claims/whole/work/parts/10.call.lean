/-! ROWS: calls, and a contract out of a walk -/
section PWK
variable {G : Gx} {X : Cx} {cc : ByteArray} {nL : Nat} {own nm : String} {ret : Option FieldType} {rm : Room} {Q : State → Prop} {k n pc : Nat} {L : List (Option PV)} {S : List PV} {h : PH}
theorem pw_back {As : List PV} {p : Program} {l : Launch} {e : Env} {R : Room} {s : State} {m : MethodId} {args : Array Value} {below : List Frame} {meth : Method} {c : Code} {H : Heap} {locs : List Loc} {mc ms : Nat} {ls : Array Slot} {st0 rest : List Value} {a : Array Value} {PQ : Option PV → PH → Prop}
    (hr : va_Run p l e R s m args below meth c H locs k n mc ms (F0 m pc ls st0) rest (pw_Qc G PQ a) (fun q => G.1 ≤ q)) (hS : va_S (fun q => G.1 ≤ q) s.heap H locs)
    (kk : ∀ (r : Option PV) (h' : PH) (H1 : Heap) (locs1 : List Loc), PQ r h' → pw_Rep G h' H1 → va_S (fun q => G.1 ≤ q) s.heap H1 locs1 → W p l e R s m args below meth c H1 locs1 (k + mc) (n + ms) Q (F0 m (pc + 3) ls ((r.map (pw_rv G)).toList ++ rest))) :
    W p l e R s m args below meth c H locs k n Q (F0 m pc ls st0) := by
  intro T hT X
  obtain ⟨v, st₀, t, T', Lc, h0, X', hL, e1, e2, ⟨⟨r, h', hv, hp, hb⟩, hz, hk⟩, st⟩ := hr T hT X
  cases hv
  rw [h0] at hz hk
  obtain ⟨t2, a1, b1⟩ := kk r h' T'.heap (locs ++ Lc) hp (by rw [e1]; exact hb)
    ⟨Nat.le_trans hS.1 (by rw [e1]; exact hz), fun q h1 h2 => by rw [e1, hk q (Nat.lt_of_lt_of_le h1 hS.1) h2]; exact hS.2.1 q h1 h2, fun q hq => by
      rcases List.mem_append.mp hq with h | h
      · exact hS.2.2 q h
      · exact hL q h⟩ T' rfl X'
  exact ⟨t2, st t2 a1, b1⟩
theorem pw_blind {As : List PV} : FrameBlind (fun a U => a = (As.map (pw_rv G)).toArray ∧ pw_Rep G h U.heap ∧ va_K (G.2.2.1, G.2.2.2.1) vwCl (pw_tys G) U ∧ pw_NW U) := by
  intro a U g mk q
  obtain ⟨q0, q1, q2, q3⟩ := q
  refine ⟨q0, q1, va_K.moved (u := U) (U := U.calling g mk a) (Vm.Alike.refl U.vm) q2, ?_⟩
  obtain ⟨⟨h1, h2, h3, h4, h5, h6, h7, h8⟩, a1, a2, a3, a4⟩ := q3
  exact ⟨⟨h1.same rfl rfl, h2.same rfl rfl, h3.same rfl rfl, h4.same rfl rfl, h5.same rfl rfl, h6.same rfl rfl, h7.same rfl rfl, h8.same rfl rfl⟩, a1.moved (Vm.Alike.refl U.vm), a2.moved (Vm.Alike.refl U.vm), a3.moved (Vm.Alike.refl U.vm), a4.moved (Vm.Alike.refl U.vm)⟩
theorem pw_map_rev {As : List PV} {v : PV} : (As.reverse ++ v :: S).map (pw_rv G) = (As.map (pw_rv G)).reverse ++ pw_rv G v :: S.map (pw_rv G) := by simp
theorem pw_map_rev0 {As : List PV} : (As.reverse ++ S).map (pw_rv G) = (As.map (pw_rv G)).reverse ++ S.map (pw_rv G) := by simp
theorem pw_toL {r : Option PV} : (r.map (pw_rv G)).toList ++ S.map (pw_rv G) = (r.toList ++ S).map (pw_rv G) := by
  cases r <;> simp
theorem pw_callV (C : pw_Ctx G X cc nL own nm ret rm) {y : MethodName} {cy : ByteArray} {ny fr lo mc ms idx c t N na : Nat} {ry : Option FieldType} {Cn : String} {T : u_T} {As : List PV} {PQ : Option PV → PH → Prop} (hM : CT G X.2.1 y cy ny ry fr lo mc ms (.inr c :: As) h PQ)
    (ht : ph_T h c = t) (h8 : t < 8) (hcl : vwCl[t]? = some (Cn, T, N)) (hl : Cond.methodLink own idx y ∈ LW) (hi : Cond.instanceMethod y ∈ LW) (hse : Cond.selects Cn y y ∈ LW) (hini : Cond.initialized Cn ∈ LW) (hco : Cond.code y cy ny ry ∈ LW)
    (hdy : y.cls = Cn ∧ y.cls ≠ "java/lang/invoke/MethodHandle" ∧ y.cls ≠ "java/lang/invoke/VarHandle" ∧ (parseMethodDescriptor y.desc).map (fun d => d.parameters.length) = some na) (hna : As.length = na)
    (hd : decode cc pc = .ok (.invokevirtual idx, 3)) (hfr : fr + 1 ≤ rm.frames) (hlo : 8 + (ny + 11) + lo ≤ rm.locals) (hk : k + mc ≤ rm.cells) (hs : n + ms ≤ rm.slots) (hS8 : S.length ≤ 8)
    (kk : ∀ r h', PQ r h' → PW G X nL Q (k + mc) (n + ms) (pc + 3) L (r.toList ++ S) h') : PW G X nL Q k n pc L (As.reverse ++ .inr c :: S) h := by
  intro H locs ls hR hS hL
  obtain ⟨hexec, hb, hml, hown, hts, hK, hB, hrm, hNW, hlk, hrt, hnme⟩ := C
  have hbd := hR.in ht (by omega)
  have he := pw_at (G := G) hbd.1 hbd.2
  rw [pw_ce_o ht h8] at he
  rw [pw_map_rev, pw_ref G hbd.1]
  have hG : GoodIn LW (wsV own idx Cn y (.code y cy ny ry :: LW)) := by
    intro w hw
    unfold wsV at hw
    rcases List.mem_append.mp hw with h1 | h1
    · simp only [List.mem_cons, List.not_mem_nil, or_false] at h1
      rcases h1 with rfl | rfl | rfl | rfl
      · exact ⟨hl, good_of_word (List.mem_filter.mp hl).2⟩
      · exact ⟨hi, good_of_word (List.mem_filter.mp hi).2⟩
      · exact ⟨hse, good_of_word (List.mem_filter.mp hse).2⟩
      · exact ⟨hini, good_of_word (List.mem_filter.mp hini).2⟩
    · exact lw_good0 hco w h1
  have run := va_runV (S := ⟨hexec, hb, hml, hown, hts⟩) (hM := hM) (R := X.2.2.2.1) (e := X.2.2.1) (below := X.2.2.2.2.2.2.2.1) (meth := X.2.2.2.2.2.2.2.2.1) (H := H) (locs := locs) (cells := k) (slots := n) (b := G.1 + (c - 2)) (As := As.map (pw_rv G)) (rest := S.map (pw_rv G)) (g := F0 X.2.2.2.2.2.1 pc ls ((As.map (pw_rv G)).reverse ++ .ref (G.1 + (c - 2)) :: S.map (pw_rv G)))
    (cwV na hts hG rfl rfl rfl hdy (by rw [hrm]; exact ⟨hfr, hlo⟩))
    ⟨pw_blind, va_recv hK hR.2.2 hcl he, fun U hU hW => ⟨by rw [List.map_cons, pw_ref G hbd.1], by rw [hU]; exact hR, va_K.moved hW.alike hK, hNW.warm hW⟩⟩ rfl (by rw [List.length_map]; exact hna) hL.1 rfl (lv_room (by rw [pw_sum]; exact hS8)) hd (by rw [hrm]; exact ⟨hk, hs⟩)
  refine pw_back (As := As) run hS fun r h' H1 locs1 hq hR1 hS1 => ?_
  rw [pw_toL]
  exact kk r h' hq H1 locs1 ls hR1 hS1 hL
theorem pw_callS (C : pw_Ctx G X cc nL own nm ret rm) {y : MethodName} {cy : ByteArray} {ny fr lo mc ms idx na : Nat} {ry : Option FieldType} {As : List PV} {PQ : Option PV → PH → Prop} (hM : CT G X.2.1 y cy ny ry fr lo mc ms As h PQ)
    (hl : Cond.methodLink own idx y ∈ LW) (hi : Cond.static y ∈ LW) (hini : Cond.initialized y.cls ∈ LW) (hco : Cond.code y cy ny ry ∈ LW)
    (hdy : y.cls ≠ "java/lang/invoke/MethodHandle" ∧ y.cls ≠ "java/lang/invoke/VarHandle" ∧ (parseMethodDescriptor y.desc).map (fun d => d.parameters.length) = some na) (hna : As.length = na)
    (hd : decode cc pc = .ok (.invokestatic idx, 3)) (hfr : fr + 1 ≤ rm.frames) (hlo : 8 + (ny + 11) + lo ≤ rm.locals) (hk : k + mc ≤ rm.cells) (hs : n + ms ≤ rm.slots) (hS8 : S.length ≤ 8)
    (kk : ∀ r h', PQ r h' → PW G X nL Q (k + mc) (n + ms) (pc + 3) L (r.toList ++ S) h') : PW G X nL Q k n pc L (As.reverse ++ S) h := by
  intro H locs ls hR hS hL
  obtain ⟨hexec, hb, hml, hown, hts, hK, hB, hrm, hNW, hlk, hrt, hnme⟩ := C
  rw [pw_map_rev0]
  have hG : GoodIn LW (va_wsS own idx y (.code y cy ny ry :: LW)) := by
    intro w hw
    unfold va_wsS at hw
    rcases List.mem_append.mp hw with h1 | h1
    · simp only [List.mem_cons, List.not_mem_nil, or_false] at h1
      rcases h1 with rfl | rfl | rfl
      · exact ⟨hl, good_of_word (List.mem_filter.mp hl).2⟩
      · exact ⟨hi, good_of_word (List.mem_filter.mp hi).2⟩
      · exact ⟨hini, good_of_word (List.mem_filter.mp hini).2⟩
    · exact lw_good0 hco w h1
  have run := va_runS (S := ⟨hexec, hb, hml, hown, hts⟩) (hM := hM) (R := X.2.2.2.1) (e := X.2.2.1) (below := X.2.2.2.2.2.2.2.1) (meth := X.2.2.2.2.2.2.2.2.1) (H := H) (locs := locs) (cells := k) (slots := n) (As := As.map (pw_rv G)) (rest := S.map (pw_rv G)) (g := F0 X.2.2.2.2.2.1 pc ls ((As.map (pw_rv G)).reverse ++ S.map (pw_rv G)))
    (va_cwS na hts hG rfl rfl rfl hdy (by rw [hrm]; exact ⟨hfr, hlo⟩))
    ⟨pw_blind, fun U hU hW => ⟨rfl, by rw [hU]; exact hR, va_K.moved hW.alike hK, hNW.warm hW⟩⟩ rfl (by rw [List.length_map]; exact hna) hL.1 rfl (lv_room (by rw [pw_sum]; exact hS8)) hd (by rw [hrm]; exact ⟨hk, hs⟩)
  refine pw_back (As := As) run hS fun r h' H1 locs1 hq hR1 hS1 => ?_
  rw [pw_toL]
  exact kk r h' hq H1 locs1 ls hR1 hS1 hL
theorem pw_callSN (C : pw_Ctx G X cc nL own nm ret rm) {y : MethodName} {cy : ByteArray} {ny fr lo mc ms idx na : Nat} {ry : Option FieldType} {host : String} {As : List PV} {PQ : Option PV → PH → Prop} (hM : CT G X.2.1 y cy ny ry fr lo mc ms As h PQ)
    (hl : va_Nw (.methodLinkNest own idx y host) X.2.2.2.2.1) (hi : Cond.static y ∈ LW) (hini : Cond.initialized y.cls ∈ LW) (hco : Cond.code y cy ny ry ∈ LW)
    (hdy : y.cls ≠ "java/lang/invoke/MethodHandle" ∧ y.cls ≠ "java/lang/invoke/VarHandle" ∧ (parseMethodDescriptor y.desc).map (fun d => d.parameters.length) = some na) (hna : As.length = na)
    (hd : decode cc pc = .ok (.invokestatic idx, 3)) (hfr : fr + 1 ≤ rm.frames) (hlo : 8 + (ny + 11) + lo ≤ rm.locals) (hk : k + mc ≤ rm.cells) (hs : n + ms ≤ rm.slots) (hS8 : S.length ≤ 8)
    (kk : ∀ r h', PQ r h' → PW G X nL Q (k + mc) (n + ms) (pc + 3) L (r.toList ++ S) h') : PW G X nL Q k n pc L (As.reverse ++ S) h := by
  intro H locs ls hR hS hL
  obtain ⟨hexec, hb, hml, hown, hts, hK, hB, hrm, hNW, hlk, hrt, hnme⟩ := C
  rw [pw_map_rev0]
  have run := va_runSN (S := ⟨hexec, hb, hml, hown, hts⟩) (hM := hM) (R := X.2.2.2.1) (e := X.2.2.1) (below := X.2.2.2.2.2.2.2.1) (meth := X.2.2.2.2.2.2.2.2.1) (H := H) (locs := locs) (cells := k) (slots := n) (As := As.map (pw_rv G)) (rest := S.map (pw_rv G)) (g := F0 X.2.2.2.2.2.1 pc ls ((As.map (pw_rv G)).reverse ++ S.map (pw_rv G)))
    ⟨va_cnB na hts (lw_good0 hco) rfl rfl rfl hl (hts _ hini) hdy (by rw [hrm]; exact ⟨hfr, hlo⟩), hts _ hi, trivial⟩
    ⟨pw_blind, fun U hU hW => ⟨rfl, by rw [hU]; exact hR, va_K.moved hW.alike hK, hNW.warm hW⟩⟩ rfl (by rw [List.length_map]; exact hna) hL.1 rfl (lv_room (by rw [pw_sum]; exact hS8)) hd (by rw [hrm]; exact ⟨hk, hs⟩)
  refine pw_back (As := As) run hS fun r h' H1 locs1 hq hR1 hS1 => ?_
  rw [pw_toL]
  exact kk r h' hq H1 locs1 ls hR1 hS1 hL
theorem pw_callI (C : pw_Ctx G X cc nL own nm ret rm) {y : MethodName} {cy : ByteArray} {ny fr lo mc ms idx c na : Nat} {As : List PV} {PQ : Option PV → PH → Prop} (hM : CT G X.2.1 y cy ny none fr lo mc ms (.inr c :: As) h PQ)
    (hc : 2 ≤ c) (hl : Cond.methodLink own idx y ∈ LW) (hi : Cond.instanceMethod y ∈ LW) (hini : Cond.initialized y.cls ∈ LW) (hco : Cond.code y cy ny none ∈ LW) (hyn : y.name = "<init>")
    (hdy : y.cls ≠ "java/lang/invoke/MethodHandle" ∧ y.cls ≠ "java/lang/invoke/VarHandle" ∧ (parseMethodDescriptor y.desc).map (fun d => d.parameters.length) = some na) (hna : As.length = na)
    (hd : decode cc pc = .ok (.invokespecial idx, 3)) (hfr : fr + 1 ≤ rm.frames) (hlo : 8 + (ny + 11) + lo ≤ rm.locals) (hk : k + mc ≤ rm.cells) (hs : n + ms ≤ rm.slots) (hS8 : S.length ≤ 8)
    (kk : ∀ r h', PQ r h' → PW G X nL Q (k + mc) (n + ms) (pc + 3) L (r.toList ++ S) h') : PW G X nL Q k n pc L (As.reverse ++ .inr c :: S) h := by
  intro H locs ls hR hS hL
  obtain ⟨hexec, hb, hml, hown, hts, hK, hB, hrm, hNW, hlk, hrt, hnme⟩ := C
  rw [pw_map_rev, pw_ref G hc]
  have run := va_runI (S := ⟨hexec, hb, hml, hown, hts⟩) (hM := hM) (R := X.2.2.2.1) (e := X.2.2.1) (below := X.2.2.2.2.2.2.2.1) (meth := X.2.2.2.2.2.2.2.2.1) (H := H) (locs := locs) (cells := k) (slots := n) (b := G.1 + (c - 2)) (As := As.map (pw_rv G)) (rest := S.map (pw_rv G)) (g := F0 X.2.2.2.2.2.1 pc ls ((As.map (pw_rv G)).reverse ++ .ref (G.1 + (c - 2)) :: S.map (pw_rv G)))
    (cwI na hts (lw_good0 hco) rfl rfl rfl (hts _ hini) (hts _ hl) (hts _ hi) hyn hdy (by rw [hrm]; exact ⟨hfr, hlo⟩))
    ⟨pw_blind, fun U hU hW => ⟨by rw [List.map_cons, pw_ref G hc], by rw [hU]; exact hR, va_K.moved hW.alike hK, hNW.warm hW⟩⟩ rfl (by rw [List.length_map]; exact hna) hL.1 rfl (lv_room (by rw [pw_sum]; exact hS8)) hd (by rw [hrm]; exact ⟨hk, hs⟩)
  refine pw_back (As := As) (a := (Value.ref (G.1 + (c - 2)) :: As.map (pw_rv G)).toArray) run hS fun r h' H1 locs1 hq hR1 hS1 => ?_
  rw [pw_toL]
  exact kk r h' hq H1 locs1 ls hR1 hS1 hL
theorem pw_callIN (C : pw_Ctx G X cc nL own nm ret rm) {y : MethodName} {cy : ByteArray} {ny fr lo mc ms idx c na : Nat} {host : String} {As : List PV} {PQ : Option PV → PH → Prop} (hM : CT G X.2.1 y cy ny none fr lo mc ms (.inr c :: As) h PQ)
    (hc : 2 ≤ c) (hl : va_Nw (.methodLinkNest own idx y host) X.2.2.2.2.1) (hi : Cond.instanceMethod y ∈ LW) (hini : Cond.initialized y.cls ∈ LW) (hco : Cond.code y cy ny none ∈ LW) (hyn : y.name = "<init>")
    (hdy : y.cls ≠ "java/lang/invoke/MethodHandle" ∧ y.cls ≠ "java/lang/invoke/VarHandle" ∧ (parseMethodDescriptor y.desc).map (fun d => d.parameters.length) = some na) (hna : As.length = na)
    (hd : decode cc pc = .ok (.invokespecial idx, 3)) (hfr : fr + 1 ≤ rm.frames) (hlo : 8 + (ny + 11) + lo ≤ rm.locals) (hk : k + mc ≤ rm.cells) (hs : n + ms ≤ rm.slots) (hS8 : S.length ≤ 8)
    (kk : ∀ r h', PQ r h' → PW G X nL Q (k + mc) (n + ms) (pc + 3) L (r.toList ++ S) h') : PW G X nL Q k n pc L (As.reverse ++ .inr c :: S) h := by
  intro H locs ls hR hS hL
  obtain ⟨hexec, hb, hml, hown, hts, hK, hB, hrm, hNW, hlk, hrt, hnme⟩ := C
  rw [pw_map_rev, pw_ref G hc]
  have run := va_runIN (S := ⟨hexec, hb, hml, hown, hts⟩) (hM := hM) (R := X.2.2.2.1) (e := X.2.2.1) (below := X.2.2.2.2.2.2.2.1) (meth := X.2.2.2.2.2.2.2.2.1) (H := H) (locs := locs) (cells := k) (slots := n) (b := G.1 + (c - 2)) (As := As.map (pw_rv G)) (rest := S.map (pw_rv G)) (g := F0 X.2.2.2.2.2.1 pc ls ((As.map (pw_rv G)).reverse ++ .ref (G.1 + (c - 2)) :: S.map (pw_rv G)))
    ⟨va_cnB na hts (lw_good0 hco) rfl rfl rfl hl (hts _ hini) hdy (by rw [hrm]; exact ⟨hfr, hlo⟩), hyn, hts _ hi⟩
    ⟨pw_blind, fun U hU hW => ⟨by rw [List.map_cons, pw_ref G hc], by rw [hU]; exact hR, va_K.moved hW.alike hK, hNW.warm hW⟩⟩ rfl (by rw [List.length_map]; exact hna) hL.1 rfl (lv_room (by rw [pw_sum]; exact hS8)) hd (by rw [hrm]; exact ⟨hk, hs⟩)
  refine pw_back (As := As) (a := (Value.ref (G.1 + (c - 2)) :: As.map (pw_rv G)).toArray) run hS fun r h' H1 locs1 hq hR1 hS1 => ?_
  rw [pw_toL]
  exact kk r h' hq H1 locs1 ls hR1 hS1 hL
/-- a contract out of a walk -/
theorem pw_entry (G : Gx) (As : List PV) (nL : Nat) (hn : As.length ≤ nL) : pw_LR G ((lg_sl (As.map (pw_rv G)) ++ List.replicate (nL - (lg_sl (As.map (pw_rv G))).length) Slot.unset).toArray) nL (As.map some ++ List.replicate (nL - As.length) none) := by
  have e : lg_sl (As.map (pw_rv G)) = (As.map (fun v => Slot.val (pw_rv G v))) := by
    unfold lg_sl
    rw [List.flatMap_map]
    induction As with
    | nil => rfl
    | cons v As ih =>
      rw [List.flatMap_cons, List.map_cons, pw_cat]
      have := ih (by simp at hn; omega)
      rw [this]
      rfl
  have hl : (lg_sl (As.map (pw_rv G))).length ≤ nL := by rw [e]; simpa using hn
  have hL := lv_entry (As.map (pw_rv G)) (n := nL) hl
  refine ⟨hL.1, hL.2.1, fun i v hi => ?_⟩
  by_cases hlt : i < As.length
  · rw [List.getElem?_append_left (by simpa using hlt)] at hi
    simp only [List.getElem?_map] at hi
    rw [e]
    simp only [List.getElem?_toArray]
    rw [List.getElem?_append_left (by simpa using hlt), List.getElem?_map]
    cases hA : As[i]? with
    | none => rw [hA] at hi; cases hi
    | some w =>
      rw [hA] at hi
      simp only [Option.map_some, Option.some.injEq] at hi
      subst hi
      rfl
  · rw [List.getElem?_append_right (by simpa using Nat.not_lt.mp hlt)] at hi
    have := List.mem_of_getElem? hi
    have := (List.mem_replicate.mp this).2
    cases this
theorem ct_intro {l : Launch} {y : MethodName} {cy : ByteArray} {ny fr lo mc ms : Nat} {ry : Option FieldType} {As : List PV} {PQ : Option PV → PH → Prop} (hp : plainName y.cls = true) (hn : As.length ≤ ny)
    (body : ∀ X : Cx, X.2.1 = l → pw_Ctx G X cy ny y.cls y.name ry { frames := fr, cells := mc, slots := ms, locals := lo } → PW G X ny (pw_E G X PQ mc ms) 0 0 0 (As.map some ++ List.replicate (ny - As.length) none) [] h) : CT G l y cy ny ry fr lo mc ms As h PQ := by
  refine Met.ofW (cc := cy) (maxL := ny) (ret := ry) hp rfl ?_
  intro p e s m args below meth c s₁ B hml hv
  obtain ⟨rfl, hR, hK, hNW⟩ := hv
  have hts := atoms_spec (ws := .code y cy ny ry :: LW) B.pre
  have hh := body (p, l, e, { frames := fr, cells := mc, slots := ms, locals := lo }, s, m, (As.map (pw_rv G)).toArray, below, meth, c) rfl ⟨B.exec, B.bytes, hml, findClass_of_methodNamed B.named, fun w hw => hts w (List.mem_cons_of_mem _ hw), hK, by have := hR.1; show G.1 ≤ s.heap.size; omega, rfl, hNW, B.notSynchronized, B.returns, (name_of_methodNamed B.named B.method).1⟩
  rw [lg_entry_eq]
  exact hh s.heap [] _ hR va_S.rf (pw_entry G As ny hn)
end PWK
