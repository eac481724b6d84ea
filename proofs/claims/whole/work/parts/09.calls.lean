/-! ROWS: fields written, cells made, the JDK's own, returns, calls -/
section PWC
variable {G : Gx} {X : Cx} {cc : ByteArray} {nL : Nat} {own nm : String} {ret : Option FieldType} {rm : Room} {Q : State → Prop} {k n pc : Nat} {L : List (Option PV)} {S : List PV} {h : PH}
theorem pw_putI (C : pw_Ctx G X cc nL own nm ret rm) {t c f idx N : Nat} {Rn : String} {T : u_T} {ty0 : Nat → FieldType} {x : Int} (hc : vwCl[t]? = some (Rn, T, N)) (hin : ∀ w ∈ u_ws Rn T N, w ∈ LW) (hty : ∀ k, k < N → parseFieldDescriptor (T k).2.2.1 = some (ty0 k)) (hnm : ∀ a, a < N → ∀ b, b < N → a ≠ b → (T a).2.1 ≠ (T b).2.1) (hN : pw_nf t = N) (h8 : t < 8) (hf : f < N) (hr : pw_isR t f = false)
    (hfin : (T f).2.2.2 = false ∨ ((T f).2.2.2 = true ∧ nm = "<init>" ∧ (T f).1 = own)) (hi : ty0 f = .int ∨ (ty0 f = .boolean ∧ (x = 0 ∨ x = 1)))
    (hw : Cond.fieldLink own idx (T f).1 (T f).2.1 (T f).2.2.1 ∈ LW) (hd : decode cc pc = .ok (.putfield idx, 3)) (ht : ph_T h c = t) (kk : PW G X nL Q k n (pc + 3) L S (ph_setI h c f x)) : PW G X nL Q k n pc L (.inl x :: .inr c :: S) h := by
  intro H locs ls hR hS hl
  have hn : narrow (ty0 f) (.int (zI x)) = .int (zI x) ∧ fits (ty0 f) (.int (zI x)) = true := by
    rcases hi with e | ⟨e, rfl | rfl⟩ <;> rw [e] <;> exact ⟨rfl, rfl⟩
  exact pw_putX C hc hin hty hnm hN h8 hf hfin hw hd ht (.int (zI x)) hn.1 hn.2 (h' := ph_setI h c f x) rfl (fun _ => rfl) pw_ce_setI (pw_fv_I (by omega) hr) H locs ls hR hS (fun H1 locs1 hR1 hS1 => kk H1 locs1 ls hR1 hS1 hl)
theorem pw_putR (C : pw_Ctx G X cc nL own nm ret rm) {t c f idx N r : Nat} {Rn : String} {T : u_T} {ty0 : Nat → FieldType} (hc : vwCl[t]? = some (Rn, T, N)) (hin : ∀ w ∈ u_ws Rn T N, w ∈ LW) (hty : ∀ k, k < N → parseFieldDescriptor (T k).2.2.1 = some (ty0 k)) (hnm : ∀ a, a < N → ∀ b, b < N → a ≠ b → (T a).2.1 ≠ (T b).2.1) (hN : pw_nf t = N) (h8 : t < 8) (hf : f < N) (hr : pw_isR t f = true)
    (hfin : (T f).2.2.2 = false ∨ ((T f).2.2.2 = true ∧ nm = "<init>" ∧ (T f).1 = own)) (hi : (∃ s, ty0 f = .object s) ∨ ∃ s, ty0 f = .array s)
    (hw : Cond.fieldLink own idx (T f).1 (T f).2.1 (T f).2.2.1 ∈ LW) (hd : decode cc pc = .ok (.putfield idx, 3)) (ht : ph_T h c = t) (kk : PW G X nL Q k n (pc + 3) L S (ph_setR h c f r)) : PW G X nL Q k n pc L (.inr r :: .inr c :: S) h := by
  intro H locs ls hR hS hl
  have hn : narrow (ty0 f) (va_rf (pw_ro G r)) = va_rf (pw_ro G r) ∧ fits (ty0 f) (va_rf (pw_ro G r)) = true := by
    rcases hi with ⟨s, e⟩ | ⟨s, e⟩ <;> rw [e] <;> cases pw_ro G r <;> exact ⟨rfl, rfl⟩
  exact pw_putX C hc hin hty hnm hN h8 hf hfin hw hd ht (va_rf (pw_ro G r)) hn.1 hn.2 (h' := ph_setR h c f r) rfl (fun _ => rfl) pw_ce_setR (pw_fv_R (by omega) hr) H locs ls hR hS (fun H1 locs1 hR1 hS1 => kk H1 locs1 ls hR1 hS1 hl)
theorem pw_Rep_new {H H1 : Heap} {t N : Nat} (hR : pw_Rep G h H) (z : H1.size = H.size + 1) (o : ∀ q, q < H.size → H1[q]? = H[q]?) (hc : va_at (G.2.2.1, G.2.2.2.1) vwCl (G.1 + ph_S h, pw_ce G (ph_new h t N) (ph_S h + 2)) H1) : pw_Rep G (ph_new h t N) H1 := by
  have hold : ∀ d, d ≠ ph_S h + 2 → pw_ce G (ph_new h t N) d = pw_ce G h d := by
    intro d hd
    have hd' : ¬ d = h.1 + 2 := hd
    refine pw_ce_congr ?_ ?_ (fun j => ?_) (fun j => ?_) <;> simp [ph_T, ph_L, ph_I, ph_R, ph_new, hd']
  refine ⟨by rw [z, hR.1]; show _ = G.1 + (h.1 + 1); unfold ph_S; omega, fun c hc => ?_, fun i q hq => ?_⟩
  · by_cases e : c = h.1 + 2
    · subst e
      show 2 ≤ h.1 + 2 ∧ h.1 + 2 < (h.1 + 1) + 2
      omega
    · have hc' : ph_T h c < 14 := by
        have e2 : ph_T (ph_new h t N) c = ph_T h c := by simp [ph_T, ph_new, e]
        rw [← e2]
        exact hc
      have := hR.2.1 c hc'
      show 2 ≤ c ∧ c < (h.1 + 1) + 2
      unfold ph_S at this
      omega
  · have hs : ph_S (ph_new h t N) = ph_S h + 1 := rfl
    simp only [pw_ws, hs, List.getElem?_map] at hq
    by_cases hl : i < ph_S h + 1
    · rw [List.getElem?_range hl] at hq
      cases hq
      by_cases e : i = ph_S h
      · subst e
        exact hc
      · show va_at _ _ (G.1 + i, pw_ce G (ph_new h t N) (i + 2)) _
        rw [hold (i + 2) (by omega)]
        have hi : i < ph_S h := by omega
        have hw : (pw_ws G h)[i]? = some (G.1 + i, pw_ce G h (i + 2)) := by simp [pw_ws, List.getElem?_map, List.getElem?_range hi]
        have := hR.2.2 i _ hw
        exact this.kept (o _ this.lt)
    · rw [List.getElem?_eq_none (by simpa using Nat.not_lt.mp hl)] at hq
      cases hq
theorem pw_new (C : pw_Ctx G X cc nL own nm ret rm) {t idx N : Nat} {Rn : String} {T : u_T} {ty0 : Nat → FieldType} (hc : vwCl[t]? = some (Rn, T, N)) (hin : ∀ w ∈ u_ws Rn T N, w ∈ LW) (hty : ∀ k, k < N → parseFieldDescriptor (T k).2.2.1 = some (ty0 k)) (hN : pw_nf t = N) (h8 : t < 8) (hdef : ∀ j, j < N → defaultValue (ty0 j) = if pw_isR t j = true then .null else .int 0)
    (hcl : Cond.classLink own idx Rn ∈ LW) (hinst : Cond.instantiable Rn N ∈ LW) (hini : Cond.initialized Rn ∈ LW) (hd : decode cc pc = .ok (.new idx, 3)) (hk : k + 1 ≤ rm.cells) (hs : n + N ≤ rm.slots) (kk : PW G X nL Q (k + 1) (n + N) (pc + 3) L (.inr (ph_S h + 2) :: S) (ph_new h t N)) : PW G X nL Q k n pc L S h := by
  intro H locs ls hR hS hl
  obtain ⟨hexec, hb, hml, hown, hts, hK, hB, hrm, hNW, hlk, hrt, hnme⟩ := C
  have hKn := hK.1 t _ hc
  refine W.newcK hexec hb hown (hts _ hcl) (hts _ hinst) (hts _ hini) rfl hd (by rw [hrm]; exact hk) (by rw [hrm]; exact hs) hKn.2.1 hR.1 fun H1 kC hkC e1 z1 o1 => ?_
  have hT2 : ph_T (ph_new h t N) (ph_S h + 2) = t := by simp [ph_T, ph_new, ph_S]
  have hR1 : pw_Rep G (ph_new h t N) H1 := by
    refine pw_Rep_new hR (by rw [z1, hR.1]) (fun q hq => o1 q (by rw [← hR.1]; exact hq)) ?_
    rw [pw_ce_o hT2 h8]
    refine ⟨_, hc, (u_born ty0 hts hin hKn hkC e1 hty).to fun j hj => ?_⟩
    have hj' : j < pw_nf t := by rw [hN]; exact hj
    have e := pw_fv_get (G := G) (h := ph_new h t N) (t := t) (c := ph_S h + 2) (f := j) hj'
    rw [hdef j hj]
    unfold vp_V
    rw [List.getD_eq_getElem?_getD, e]
    have eI : ph_I (ph_new h t N) (ph_S h + 2) j = 0 := by simp [ph_I, ph_new, ph_S]
    have eR : ph_R (ph_new h t N) (ph_S h + 2) j = 0 := by simp [ph_R, ph_new, ph_S]
    rw [eI, eR]
    simp [pw_ro, va_rf]
    rfl
  have hS1 : va_S (fun q => G.1 ≤ q) X.2.2.2.2.1.heap H1 locs := ⟨by have := hS.1; have := hR.1; omega, fun q h1 h2 => (o1 q (by have := hS.1; have := hR.1; omega)).trans (hS.2.1 q h1 h2), hS.2.2⟩
  have := kk H1 locs ls hR1 hS1 hl
  rw [List.map_cons, pw_ref G (by omega), show ph_S h + 2 - 2 = ph_S h by omega] at this
  exact this
theorem pw_newarr (C : pw_Ctx G X cc nL own nm ret rm) {t : Nat} {i : Int} {atype : ArrayType} (h8 : ¬ t < 8) (h10 : t < 10) (hty : (pw_tys G)[t - 8]? = some (G.2.2.2.2 t, newarray.typeOf atype)) (hw : Cond.arrayClass (newarray.typeOf atype) ∈ LW) (hdef : defaultValue (newarray.typeOf atype) = .int 0) (hnm : ∀ U cA, va_RA U cA (newarray.typeOf atype) → U.vm.findClass ("[" ++ (newarray.typeOf atype).toString) = some cA) (hd : decode cc pc = .ok (.newarray atype, 2)) (hi : pR i) (h0 : 0 ≤ i) (hbytes : i.toNat * componentBytes (newarray.typeOf atype) ≤ 536870912) (hk : k + 1 ≤ rm.cells) (hs : n + i.toNat ≤ rm.slots) (kk : PW G X nL Q (k + 1) (n + i.toNat) (pc + 2) L (.inr (ph_S h + 2) :: S) (ph_new h t i.toNat)) : PW G X nL Q k n pc L (.inl i :: S) h := by
  intro H locs ls hR hS hl
  obtain ⟨hexec, hb, hml, hown, hts, hK, hB, hrm, hNW, hlk, hrt, hnme⟩ := C
  refine va_newaK hexec hb (hts _ hw) rfl hd rfl (by show ¬ zI i < 0; rw [show (0 : Int32) = zI 0 from rfl, zI_lt hi (by unfold pR; omega)]; omega) (zI_clamp hi) hbytes (by rw [hrm]; exact hk) (by rw [hrm]; exact hs) hR.1 fun H1 cA e1 z1 o1 hAr hNm => ?_
  have hT2 : ph_T (ph_new h t i.toNat) (ph_S h + 2) = t := by simp [ph_T, ph_new, ph_S]
  have hcA : cA = G.2.2.2.2 t := Option.some.inj (hNm.symm.trans (hnm _ _ (hK.2 _ _ hty).2))
  have hR1 : pw_Rep G (ph_new h t i.toNat) H1 := by
    refine pw_Rep_new hR (by rw [z1, hR.1]) (fun q hq => o1 q (by rw [← hR.1]; exact hq)) ?_
    rw [pw_ce_i hT2 h8 h10]
    show H1[_]? = some (vp_cell _ _)
    rw [e1, hdef, vp_cell_i, hcA]
    have eL : ph_L (ph_new h t i.toNat) (ph_S h + 2) = i.toNat := by simp [ph_L, ph_new, ph_S]
    have eI : ∀ j, ph_I (ph_new h t i.toNat) (ph_S h + 2) j = 0 := fun j => by simp [ph_I, ph_new, ph_S]
    rw [eL]
    simp only [eI]
    rfl
  have hS1 : va_S (fun q => G.1 ≤ q) X.2.2.2.2.1.heap H1 locs := ⟨by have := hS.1; have := hR.1; omega, fun q h1 h2 => (o1 q (by have := hS.1; have := hR.1; omega)).trans (hS.2.1 q h1 h2), hS.2.2⟩
  have := kk H1 locs ls hR1 hS1 hl
  rw [List.map_cons, pw_ref G (by omega), show ph_S h + 2 - 2 = ph_S h by omega] at this
  exact this
theorem pw_anew (C : pw_Ctx G X cc nL own nm ret rm) {t idx : Nat} {i : Int} {En : String} (h10 : ¬ t < 10) (hty : (pw_tys G)[t - 8]? = some (G.2.2.2.2 t, .object En)) (hw : Cond.classLink own idx En ∈ LW) (hAO : va_AO En X.2.2.2.2.1) (hd : decode cc pc = .ok (.anewarray idx, 3)) (hi : pR i) (h0 : 0 ≤ i) (hbytes : i.toNat * 4 ≤ 536870912) (hk : k + 1 ≤ rm.cells) (hs : n + i.toNat ≤ rm.slots) (kk : PW G X nL Q (k + 1) (n + i.toNat) (pc + 3) L (.inr (ph_S h + 2) :: S) (ph_new h t i.toNat)) : PW G X nL Q k n pc L (.inl i :: S) h := by
  intro H locs ls hR hS hl
  obtain ⟨hexec, hb, hml, hown, hts, hK, hB, hrm, hNW, hlk, hrt, hnme⟩ := C
  refine W.anew hexec hb hown (hts _ hw) (va_AO.use hAO) rfl hd rfl (by show ¬ zI i < 0; rw [show (0 : Int32) = zI 0 from rfl, zI_lt hi (by unfold pR; omega)]; omega) (by rw [zI_clamp hi]; exact hbytes) (by rw [hrm]; exact hk) (by rw [hrm, zI_clamp hi]; exact hs) fun cA kA comp f1 f2 f3 f4 => ?_
  rw [zI_clamp hi]
  generalize hH1 : H.push ({ cls := cA, slots := Array.replicate i.toNat .null, vm := .none } : Cell) = H1
  have z1 : H1.size = H.size + 1 := by rw [← hH1, Array.size_push]
  have e1 : H1[H.size]? = some (arrV cA i.toNat (fun _ => .null)) := by rw [← hH1, Array.getElem?_push_size, ← arrV_new]
  have o1 : ∀ q : Nat, q < H.size → H1[q]? = H[q]? := fun q hq => by rw [← hH1, Array.getElem?_push, if_neg (Nat.ne_of_lt hq)]
  have hT2 : ph_T (ph_new h t i.toNat) (ph_S h + 2) = t := by simp [ph_T, ph_new, ph_S]
  obtain ⟨kA', comp', k1, k2, k3, k4⟩ := (hK.2 _ _ hty).2
  have hcA : cA = G.2.2.2.2 t := Option.some.inj (f1.symm.trans k4)
  have hR1 : pw_Rep G (ph_new h t i.toNat) H1 := by
    refine pw_Rep_new hR z1 o1 ?_
    rw [pw_ce_q hT2 h10]
    show H1[_]? = some (vp_cell _ _)
    rw [← hR.1, e1, vp_cell_q, hcA]
    have eL : ph_L (ph_new h t i.toNat) (ph_S h + 2) = i.toNat := by simp [ph_L, ph_new, ph_S]
    have eI : ∀ j, ph_R (ph_new h t i.toNat) (ph_S h + 2) j = 0 := fun j => by simp [ph_R, ph_new, ph_S]
    rw [eL]
    simp only [eI]
    rfl
  have hS1 : va_S (fun q => G.1 ≤ q) X.2.2.2.2.1.heap H1 locs := ⟨by have := hS.1; omega, fun q h1 h2 => (o1 q (by have := hS.1; omega)).trans (hS.2.1 q h1 h2), hS.2.2⟩
  have := kk H1 locs ls hR1 hS1 hl
  rw [List.map_cons, pw_ref G (by omega), show ph_S h + 2 - 2 = ph_S h by omega, ← hR.1] at this
  exact this
theorem pw_sum (S : List PV) : ((S.map (pw_rv G)).map fun v => v.category).sum = S.length := by
  induction S with
  | nil => rfl
  | cons v S ih => rw [List.map_cons, List.map_cons, List.sum_cons, ih, pw_cat, List.length_cons]; omega
theorem pw_abs (C : pw_Ctx G X cc nL own nm ret rm) {idx : Nat} {x : Int} (hw : Cond.methodLink own idx Lib.Math.abs.name ∈ LW) (h1 : Cond.static Lib.Math.abs.name ∈ LW) (h2 : Cond.initialized "java/lang/Math" ∈ LW) (h3 : Cond.code Lib.Math.abs.name Lib.Math.abs.code 1 (some .int) ∈ LW) (hd : decode cc pc = .ok (.invokestatic idx, 3)) (hr : 1 ≤ rm.frames) (hr2 : S.length + 13 ≤ rm.locals) (hk : k ≤ rm.cells) (hs : n ≤ rm.slots) (hx : pR x) (kk : PW G X nL Q k n (pc + 3) L (.inl (if 0 ≤ x then x else -x) :: S) h) : PW G X nL Q k n pc L (.inl x :: S) h := by
  intro H locs ls hR hS hl
  obtain ⟨hexec, hb, hml, hown, hts, hK, hB, hrm, hNW, hlk, hrt, hnme⟩ := C
  refine va_mabs hexec hb (by rw [hml, hl.1]) hown (hts _ hw) (hts _ h1) (hts _ h2) (hts _ h3) (by rw [hrm]; exact hr) (by rw [hrm, pw_sum]; exact hr2) (by rw [hrm]; exact hk) (by rw [hrm]; exact hs) hd ?_
  have e : (if 0 ≤ zI x then zI x else 0 - zI x) = zI (if 0 ≤ x then x else -x) := by
    have h00 : pR 0 := by unfold pR; omega
    by_cases q : 0 ≤ x
    · rw [if_pos (show (0 : Int32) ≤ zI x from (zI_le h00 hx).mpr q), if_pos q]
    · rw [if_neg (show ¬ (0 : Int32) ≤ zI x from fun z => q ((zI_le h00 hx).mp z)), if_neg q, show (0 : Int32) = zI 0 from rfl, zI_sub, Int.zero_sub]
  rw [e]
  exact kk H locs ls hR hS hl
theorem pw_max (C : pw_Ctx G X cc nL own nm ret rm) {idx : Nat} {x y : Int} (hw : Cond.methodLink own idx Lib.Math.max.name ∈ LW) (h1 : Cond.static Lib.Math.max.name ∈ LW) (h2 : Cond.initialized "java/lang/Math" ∈ LW) (h3 : Cond.code Lib.Math.max.name Lib.Math.max.code 2 (some .int) ∈ LW) (hd : decode cc pc = .ok (.invokestatic idx, 3)) (hr : 1 ≤ rm.frames) (hr2 : S.length + 13 ≤ rm.locals) (hk : k ≤ rm.cells) (hs : n ≤ rm.slots) (hx : pR x) (hy : pR y) (kk : PW G X nL Q k n (pc + 3) L (.inl (if x < y then y else x) :: S) h) : PW G X nL Q k n pc L (.inl y :: .inl x :: S) h := by
  intro H locs ls hR hS hl
  obtain ⟨hexec, hb, hml, hown, hts, hK, hB, hrm, hNW, hlk, hrt, hnme⟩ := C
  refine va_mmax hexec hb (by rw [hml, hl.1]) hown (hts _ hw) (hts _ h1) (hts _ h2) (hts _ h3) (by rw [hrm]; exact hr) (by rw [hrm, pw_sum]; exact hr2) (by rw [hrm]; exact hk) (by rw [hrm]; exact hs) hd ?_
  have e : (if zI x < zI y then zI y else zI x) = zI (if x < y then y else x) := by
    by_cases q : x < y
    · rw [if_pos ((zI_lt hx hy).mpr q), if_pos q]
    · rw [if_neg (fun z => q ((zI_lt hx hy).mp z)), if_neg q]
  rw [e]
  exact kk H locs ls hR hS hl
theorem pw_min (C : pw_Ctx G X cc nL own nm ret rm) {idx : Nat} {x y : Int} (hw : Cond.methodLink own idx Lib.Math.min.name ∈ LW) (h1 : Cond.static Lib.Math.min.name ∈ LW) (h2 : Cond.initialized "java/lang/Math" ∈ LW) (h3 : Cond.code Lib.Math.min.name Lib.Math.min.code 2 (some .int) ∈ LW) (hd : decode cc pc = .ok (.invokestatic idx, 3)) (hr : 1 ≤ rm.frames) (hr2 : S.length + 13 ≤ rm.locals) (hk : k ≤ rm.cells) (hs : n ≤ rm.slots) (hx : pR x) (hy : pR y) (kk : PW G X nL Q k n (pc + 3) L (.inl (if y < x then y else x) :: S) h) : PW G X nL Q k n pc L (.inl y :: .inl x :: S) h := by
  intro H locs ls hR hS hl
  obtain ⟨hexec, hb, hml, hown, hts, hK, hB, hrm, hNW, hlk, hrt, hnme⟩ := C
  refine va_mmin hexec hb (by rw [hml, hl.1]) hown (hts _ hw) (hts _ h1) (hts _ h2) (hts _ h3) (by rw [hrm]; exact hr) (by rw [hrm, pw_sum]; exact hr2) (by rw [hrm]; exact hk) (by rw [hrm]; exact hs) hd ?_
  have e : (if zI y < zI x then zI y else zI x) = zI (if y < x then y else x) := by
    by_cases q : y < x
    · rw [if_pos ((zI_lt hy hx).mpr q), if_pos q]
    · rw [if_neg (fun z => q ((zI_lt hy hx).mp z)), if_neg q]
  rw [e]
  exact kk H locs ls hR hS hl
theorem pw_objInit (C : pw_Ctx G X cc nL own nm ret rm) {idx c : Nat} (hc : 2 ≤ c) (hw : Cond.methodLink own idx Lib.objectInit ∈ LW) (h1 : Cond.instanceMethod Lib.objectInit ∈ LW) (h2 : Cond.code Lib.objectInit ⟨#[0xb1]⟩ 1 none ∈ LW) (hd : decode cc pc = .ok (.invokespecial idx, 3)) (hr : 1 ≤ rm.frames) (hr2 : S.length + 12 ≤ rm.locals) (kk : PW G X nL Q k n (pc + 3) L S h) : PW G X nL Q k n pc L (.inr c :: S) h := by
  intro H locs ls hR hS hl
  obtain ⟨hexec, hb, hml, hown, hts, hK, hB, hrm, hNW, hlk, hrt, hnme⟩ := C
  rw [List.map_cons, pw_ref G hc]
  exact W.objInit hexec hb hown (hts _ hw) (hts _ h1) (hts _ h2) rfl (by rw [hml]; exact hl.1) rfl hd (by rw [hrm]; exact hr) (by rw [hrm, pw_sum]; show 2 * 0 + S.length + 12 ≤ _; omega) (kk H locs ls hR hS hl)
theorem pw_ireturn {PQ : Option PV → PH → Prop} {x : Int} (C : pw_Ctx G X cc nL own nm (some .int) rm) (hd : decode cc pc = .ok (.ireturn, 1)) (hq : PQ (some (.inl x)) h) : PW G X nL (pw_E G X PQ k n) k n pc L [.inl x] h := by
  intro H locs ls hR hS hl
  obtain ⟨hexec, hb, hml, hown, hts, hK, hB, hrm, hNW, hlk, hrt, hnme⟩ := C
  exact W.iret hexec hb hrt (fun t ht hW => ⟨⟨some (.inl x), h, rfl, hq, by rw [ht]; exact hR⟩, hS.F ht⟩) hS.2.2 hd hlk
theorem pw_zreturn {PQ : Option PV → PH → Prop} {x : Int} (C : pw_Ctx G X cc nL own nm (some .boolean) rm) (hd : decode cc pc = .ok (.ireturn, 1)) (hx : x = 0 ∨ x = 1) (hq : PQ (some (.inl x)) h) : PW G X nL (pw_E G X PQ k n) k n pc L [.inl x] h := by
  intro H locs ls hR hS hl
  obtain ⟨hexec, hb, hml, hown, hts, hK, hB, hrm, hNW, hlk, hrt, hnme⟩ := C
  exact W.zret hexec hb hrt (by rcases hx with rfl | rfl <;> rfl) (fun t ht hW => ⟨⟨some (.inl x), h, rfl, hq, by rw [ht]; exact hR⟩, hS.F ht⟩) hS.2.2 hd hlk
theorem pw_vreturn {PQ : Option PV → PH → Prop} (C : pw_Ctx G X cc nL own nm none rm) (hd : decode cc pc = .ok (.return_, 1)) (hq : PQ none h) : PW G X nL (pw_E G X PQ k n) k n pc L [] h := by
  intro H locs ls hR hS hl
  obtain ⟨hexec, hb, hml, hown, hts, hK, hB, hrm, hNW, hlk, hrt, hnme⟩ := C
  exact W.vret hexec hb hrt (fun t ht hW => ⟨⟨none, h, rfl, hq, by rw [ht]; exact hR⟩, hS.F ht⟩) hS.2.2 hd hlk
theorem pw_areturn {PQ : Option PV → PH → Prop} {c : Nat} {On : String} (C : pw_Ctx G X cc nL own nm (some (.object On)) rm) (hd : decode cc pc = .ok (.areturn, 1)) (hc : 2 ≤ c) (hq : PQ (some (.inr c)) h) : PW G X nL (pw_E G X PQ k n) k n pc L [.inr c] h := by
  intro H locs ls hR hS hl
  obtain ⟨hexec, hb, hml, hown, hts, hK, hB, hrm, hNW, hlk, hrt, hnme⟩ := C
  exact W.aret hexec hb hrt (Or.inl ⟨_, rfl⟩) (Or.inr ⟨_, pw_ref G hc⟩) (fun t ht hW => ⟨⟨some (.inr c), h, rfl, hq, by rw [ht]; exact hR⟩, hS.F ht⟩) hS.2.2 hd hlk
end PWC
