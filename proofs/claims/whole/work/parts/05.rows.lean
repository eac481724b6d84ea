/-! ROWS: an instruction, a row, over PW -/
section PWR
variable {G : Gx} {X : Cx} {cc : ByteArray} {nL : Nat} {own nm : String} {ret : Option FieldType} {rm : Room} {Q : State → Prop} {k n pc : Nat} {L : List (Option PV)} {S : List PV} {h : PH}
theorem pw_iconst (C : pw_Ctx G X cc nL own nm ret rm) {z : Int} (hd : decode cc pc = .ok (.iconst z, 1)) (kk : PW G X nL Q k n (pc + 1) L (.inl z :: S) h) : PW G X nL Q k n pc L S h :=
  fun H locs ls hR hS hl => lv_iconst C.1 C.2.1 hd rfl (kk H locs ls hR hS hl)
theorem pw_bipush (C : pw_Ctx G X cc nL own nm ret rm) {z : Int} (hd : decode cc pc = .ok (.bipush z, 2)) (hv : (Int8.ofInt z).toInt32 = zI z) (kk : PW G X nL Q k n (pc + 2) L (.inl z :: S) h) : PW G X nL Q k n pc L S h :=
  fun H locs ls hR hS hl => lv_bipush C.1 C.2.1 hd hv (kk H locs ls hR hS hl)
theorem pw_sipush (C : pw_Ctx G X cc nL own nm ret rm) {z : Int} (hd : decode cc pc = .ok (.sipush z, 3)) (hv : (Int16.ofInt z).toInt32 = zI z) (kk : PW G X nL Q k n (pc + 3) L (.inl z :: S) h) : PW G X nL Q k n pc L S h :=
  fun H locs ls hR hS hl => lv_sipush C.1 C.2.1 hd hv (kk H locs ls hR hS hl)
theorem pw_ldc (C : pw_Ctx G X cc nL own nm ret rm) {i : Nat} {v : Int32} {z : Int} (hw : Cond.constant own i v ∈ LW) (hv : v = zI z) (hd : decode cc pc = .ok (.ldc i, 2)) (kk : PW G X nL Q k n (pc + 2) L (.inl z :: S) h) : PW G X nL Q k n pc L S h := by
  subst hv
  exact fun H locs ls hR hS hl => lv_ldc C.1 C.2.1 C.2.2.2.1 (C.2.2.2.2.1 _ hw) hd (kk H locs ls hR hS hl)
theorem pw_iload_n (C : pw_Ctx G X cc nL own nm ret rm) {i : Fin 4} {x : Int} (hd : decode cc pc = .ok (.iload_n i, 1)) (hL : L[(i : Nat)]? = some (some (.inl x))) (kk : PW G X nL Q k n (pc + 1) L (.inl x :: S) h) : PW G X nL Q k n pc L S h :=
  fun H locs ls hR hS hl => lv_iload_n C.1 C.2.1 hd rfl (hl.2.2 _ _ hL) (kk H locs ls hR hS hl)
theorem pw_iload (C : pw_Ctx G X cc nL own nm ret rm) {i : Nat} {x : Int} (hd : decode cc pc = .ok (.iload i, 2)) (hL : L[i]? = some (some (.inl x))) (kk : PW G X nL Q k n (pc + 2) L (.inl x :: S) h) : PW G X nL Q k n pc L S h :=
  fun H locs ls hR hS hl => lv_iload C.1 C.2.1 hd (hl.2.2 _ _ hL) (kk H locs ls hR hS hl)
theorem pw_aload_n (C : pw_Ctx G X cc nL own nm ret rm) {i : Fin 4} {r : Nat} (hd : decode cc pc = .ok (.aload_n i, 1)) (hL : L[(i : Nat)]? = some (some (.inr r))) (kk : PW G X nL Q k n (pc + 1) L (.inr r :: S) h) : PW G X nL Q k n pc L S h := by
  intro H locs ls hR hS hl
  have h1 := hl.2.2 _ _ hL
  have h2 := kk H locs ls hR hS hl
  cases hr : pw_ro G r with
  | none =>
    have e : pw_rv G (.inr r) = .null := by show va_rf (pw_ro G r) = _; rw [hr]; rfl
    rw [e] at h1
    rw [List.map_cons, e] at h2
    exact lv_aload_nN C.1 C.2.1 hd rfl h1 h2
  | some a =>
    have e : pw_rv G (.inr r) = .ref a := by show va_rf (pw_ro G r) = _; rw [hr]; rfl
    rw [e] at h1
    rw [List.map_cons, e] at h2
    exact lv_aload_n C.1 C.2.1 hd rfl h1 h2
theorem pw_aload (C : pw_Ctx G X cc nL own nm ret rm) {i : Nat} {r : Nat} (hd : decode cc pc = .ok (.aload i, 2)) (hL : L[i]? = some (some (.inr r))) (kk : PW G X nL Q k n (pc + 2) L (.inr r :: S) h) : PW G X nL Q k n pc L S h := by
  intro H locs ls hR hS hl
  have h1 := hl.2.2 _ _ hL
  have h2 := kk H locs ls hR hS hl
  cases hr : pw_ro G r with
  | none =>
    have e : pw_rv G (.inr r) = .null := by show va_rf (pw_ro G r) = _; rw [hr]; rfl
    rw [e] at h1
    rw [List.map_cons, e] at h2
    exact lv_aloadN C.1 C.2.1 hd h1 h2
  | some a =>
    have e : pw_rv G (.inr r) = .ref a := by show va_rf (pw_ro G r) = _; rw [hr]; rfl
    rw [e] at h1
    rw [List.map_cons, e] at h2
    exact lv_aload C.1 C.2.1 hd h1 h2
/-- the listed locals of the kit, of ours -/
def pw_lv (G : Gx) (L : List (Option PV)) : List (Nat × Value) := (List.range L.length).filterMap (fun i => match L[i]? with
  | some (some v) => some (i, pw_rv G v)
  | _ => none)
theorem pw_lv_in {G : Gx} {L : List (Option PV)} {i : Nat} {v : PV} (h : L[i]? = some (some v)) : (i, pw_rv G v) ∈ pw_lv G L := by
  have hi : i < L.length := (List.getElem?_eq_some_iff.mp h).1
  refine List.mem_filterMap.mpr ⟨i, List.mem_range.mpr hi, ?_⟩
  rw [h]
theorem pw_lv_has {G : Gx} {ls : Array Slot} {nL : Nat} {L : List (Option PV)} (h : pw_LR G ls nL L) : lv_has ls nL (pw_lv G L) := by
  refine ⟨h.1, h.2.1, fun q hq => ?_⟩
  obtain ⟨i, -, hi⟩ := List.mem_filterMap.mp hq
  split at hi
  · next v hv =>
    cases hi
    exact h.2.2 i v hv
  · cases hi
theorem pw_stored {G : Gx} {ls : Array Slot} {nL i : Nat} {L : List (Option PV)} {v : PV} (h : lv_has ls nL ((i, pw_rv G v) :: (pw_lv G L).filter (fun q => !(q.1 == i) && !(q.1 + 1 == i && q.2.category == 2)))) : pw_LR G ls nL (L.set i (some v)) := by
  refine ⟨h.1, h.2.1, fun j w hj => ?_⟩
  by_cases hji : i = j
  · subst hji
    have hlt : i < L.length := by
      have := (List.getElem?_eq_some_iff.mp hj).1
      simpa using this
    rw [List.getElem?_set_self hlt] at hj
    cases hj
    exact h.2.2 (i, pw_rv G v) List.mem_cons_self
  · rw [List.getElem?_set_ne hji] at hj
    refine h.2.2 (j, pw_rv G w) (List.mem_cons_of_mem _ (List.mem_filter.mpr ⟨pw_lv_in hj, ?_⟩))
    have hc := pw_cat G w
    simp [hc, Ne.symm hji]
theorem pw_istore_n (C : pw_Ctx G X cc nL own nm ret rm) {i : Fin 4} {x : Int} (hd : decode cc pc = .ok (.istore_n i, 1)) (hi : (i : Nat) < nL) (kk : PW G X nL Q k n (pc + 1) (L.set i (some (.inl x))) S h) : PW G X nL Q k n pc L (.inl x :: S) h :=
  fun H locs ls hR hS hl => lv_istore_n C.1 C.2.1 hd rfl (pw_lv_has hl) hi rfl (fun ls' hl' => kk H locs ls' hR hS (pw_stored (v := .inl x) hl'))
theorem pw_istore (C : pw_Ctx G X cc nL own nm ret rm) {i : Nat} {x : Int} (hd : decode cc pc = .ok (.istore i, 2)) (hi : i < nL) (kk : PW G X nL Q k n (pc + 2) (L.set i (some (.inl x))) S h) : PW G X nL Q k n pc L (.inl x :: S) h :=
  fun H locs ls hR hS hl => lv_istore C.1 C.2.1 hd (pw_lv_has hl) hi rfl (fun ls' hl' => kk H locs ls' hR hS (pw_stored (v := .inl x) hl'))
theorem pw_astore_n (C : pw_Ctx G X cc nL own nm ret rm) {i : Fin 4} {r : Nat} (hd : decode cc pc = .ok (.astore_n i, 1)) (hi : (i : Nat) < nL) (h2 : 2 ≤ r) (kk : PW G X nL Q k n (pc + 1) (L.set i (some (.inr r))) S h) : PW G X nL Q k n pc L (.inr r :: S) h := by
  intro H locs ls hR hS hl
  have e := pw_ref G h2
  rw [List.map_cons, e]
  refine lv_astore_n C.1 C.2.1 hd rfl (pw_lv_has hl) hi rfl (fun ls' hl' => kk H locs ls' hR hS (pw_stored (v := .inr r) ?_))
  rw [e]
  exact hl'
theorem pw_astore (C : pw_Ctx G X cc nL own nm ret rm) {i : Nat} {r : Nat} (hd : decode cc pc = .ok (.astore i, 2)) (hi : i < nL) (h2 : 2 ≤ r) (kk : PW G X nL Q k n (pc + 2) (L.set i (some (.inr r))) S h) : PW G X nL Q k n pc L (.inr r :: S) h := by
  intro H locs ls hR hS hl
  have e := pw_ref G h2
  rw [List.map_cons, e]
  refine lv_astore C.1 C.2.1 hd (pw_lv_has hl) hi rfl (fun ls' hl' => kk H locs ls' hR hS (pw_stored (v := .inr r) ?_))
  rw [e]
  exact hl'
theorem pw_iinc (C : pw_Ctx G X cc nL own nm ret rm) {i : Nat} {z x : Int} (hd : decode cc pc = .ok (.iinc i z, 3)) (hL : L[i]? = some (some (.inl x))) (hi : i < nL) (kk : PW G X nL Q k n (pc + 3) (L.set i (some (.inl (x + z)))) S h) : PW G X nL Q k n pc L S h := by
  intro H locs ls hR hS hl
  obtain ⟨j, hj⟩ := List.getElem?_of_mem (pw_lv_in (G := G) hL)
  exact lv_iinc C.1 C.2.1 hd (pw_lv_has hl) hj (zI_add x z) hi rfl (fun ls' hl' => kk H locs ls' hR hS (pw_stored (v := .inl (x + z)) hl'))
theorem pw_iadd (C : pw_Ctx G X cc nL own nm ret rm) {x y : Int} (hd : decode cc pc = .ok (.iadd, 1)) (kk : PW G X nL Q k n (pc + 1) L (.inl (x + y) :: S) h) : PW G X nL Q k n pc L (.inl y :: .inl x :: S) h :=
  fun H locs ls hR hS hl => lv_iadd C.1 C.2.1 hd (by rw [zI_add]; exact kk H locs ls hR hS hl)
theorem pw_isub (C : pw_Ctx G X cc nL own nm ret rm) {x y : Int} (hd : decode cc pc = .ok (.isub, 1)) (kk : PW G X nL Q k n (pc + 1) L (.inl (x - y) :: S) h) : PW G X nL Q k n pc L (.inl y :: .inl x :: S) h :=
  fun H locs ls hR hS hl => lv_isub C.1 C.2.1 hd (by rw [zI_sub]; exact kk H locs ls hR hS hl)
theorem pw_imul (C : pw_Ctx G X cc nL own nm ret rm) {x y : Int} (hd : decode cc pc = .ok (.imul, 1)) (kk : PW G X nL Q k n (pc + 1) L (.inl (x * y) :: S) h) : PW G X nL Q k n pc L (.inl y :: .inl x :: S) h :=
  fun H locs ls hR hS hl => lv_imul C.1 C.2.1 hd (by rw [zI_mul]; exact kk H locs ls hR hS hl)
theorem pw_ineg (C : pw_Ctx G X cc nL own nm ret rm) {x : Int} (hd : decode cc pc = .ok (.ineg, 1)) (kk : PW G X nL Q k n (pc + 1) L (.inl (-x) :: S) h) : PW G X nL Q k n pc L (.inl x :: S) h :=
  fun H locs ls hR hS hl => lv_ineg C.1 C.2.1 hd (by rw [zI_neg]; exact kk H locs ls hR hS hl)
theorem pw_idiv (C : pw_Ctx G X cc nL own nm ret rm) {x y : Int} (hd : decode cc pc = .ok (.idiv, 1)) (hx : pR x) (hy : pR y) (h0 : 0 ≤ x) (h1 : 0 < y) (kk : PW G X nL Q k n (pc + 1) L (.inl (x / y) :: S) h) : PW G X nL Q k n pc L (.inl y :: .inl x :: S) h :=
  fun H locs ls hR hS hl => lv_idiv C.1 C.2.1 hd (fun q => by have := (zI_eq hy (by unfold pR; omega : pR 0)).mp q; omega) (by rw [zI_div hx hy h0 h1]; exact kk H locs ls hR hS hl)
theorem pw_irem (C : pw_Ctx G X cc nL own nm ret rm) {x y : Int} (hd : decode cc pc = .ok (.irem, 1)) (hx : pR x) (hy : pR y) (h0 : 0 ≤ x) (h1 : 0 < y) (kk : PW G X nL Q k n (pc + 1) L (.inl (x % y) :: S) h) : PW G X nL Q k n pc L (.inl y :: .inl x :: S) h :=
  fun H locs ls hR hS hl => lv_irem C.1 C.2.1 hd (fun q => by have := (zI_eq hy (by unfold pR; omega : pR 0)).mp q; omega) (by rw [zI_rem hx hy h0 h1]; exact kk H locs ls hR hS hl)
theorem pw_iand (C : pw_Ctx G X cc nL own nm ret rm) {x y : Int} (hd : decode cc pc = .ok (.iand, 1)) (kk : PW G X nL Q k n (pc + 1) L (.inl (zI x &&& zI y).toInt :: S) h) : PW G X nL Q k n pc L (.inl y :: .inl x :: S) h :=
  fun H locs ls hR hS hl => lv_iand C.1 C.2.1 hd (by rw [← zI_of (zI x &&& zI y)]; exact kk H locs ls hR hS hl)
theorem pw_ior (C : pw_Ctx G X cc nL own nm ret rm) {x y : Int} (hd : decode cc pc = .ok (.ior, 1)) (kk : PW G X nL Q k n (pc + 1) L (.inl (zI x ||| zI y).toInt :: S) h) : PW G X nL Q k n pc L (.inl y :: .inl x :: S) h :=
  fun H locs ls hR hS hl => lv_ior C.1 C.2.1 hd (by rw [← zI_of (zI x ||| zI y)]; exact kk H locs ls hR hS hl)
theorem pw_ishl (C : pw_Ctx G X cc nL own nm ret rm) {x y : Int} (hd : decode cc pc = .ok (.ishl, 1)) (kk : PW G X nL Q k n (pc + 1) L (.inl (zI x <<< (zI y &&& 31)).toInt :: S) h) : PW G X nL Q k n pc L (.inl y :: .inl x :: S) h :=
  fun H locs ls hR hS hl => lv_ishl C.1 C.2.1 hd (by rw [← zI_of (zI x <<< (zI y &&& 31))]; exact kk H locs ls hR hS hl)
theorem pw_ishr (C : pw_Ctx G X cc nL own nm ret rm) {x y : Int} (hd : decode cc pc = .ok (.ishr, 1)) (kk : PW G X nL Q k n (pc + 1) L (.inl (zI x >>> (zI y &&& 31)).toInt :: S) h) : PW G X nL Q k n pc L (.inl y :: .inl x :: S) h :=
  fun H locs ls hR hS hl => lv_ishr C.1 C.2.1 hd (by rw [← zI_of (zI x >>> (zI y &&& 31))]; exact kk H locs ls hR hS hl)
theorem pw_dup (C : pw_Ctx G X cc nL own nm ret rm) {v : PV} (hd : decode cc pc = .ok (.dup, 1)) (kk : PW G X nL Q k n (pc + 1) L (v :: v :: S) h) : PW G X nL Q k n pc L (v :: S) h :=
  fun H locs ls hR hS hl => lv_dup C.1 C.2.1 hd (pw_cat G v) (kk H locs ls hR hS hl)
theorem pw_dup2 (C : pw_Ctx G X cc nL own nm ret rm) {v w : PV} (hd : decode cc pc = .ok (.dup2, 1)) (kk : PW G X nL Q k n (pc + 1) L (v :: w :: v :: w :: S) h) : PW G X nL Q k n pc L (v :: w :: S) h :=
  fun H locs ls hR hS hl => lv_dup2_11 C.1 C.2.1 hd (pw_cat G v) (pw_cat G w) (kk H locs ls hR hS hl)
theorem pw_pop (C : pw_Ctx G X cc nL own nm ret rm) {v : PV} (hd : decode cc pc = .ok (.pop, 1)) (kk : PW G X nL Q k n (pc + 1) L S h) : PW G X nL Q k n pc L (v :: S) h :=
  fun H locs ls hR hS hl => lv_pop C.1 C.2.1 hd (pw_cat G v) (kk H locs ls hR hS hl)
theorem pw_goto (C : pw_Ctx G X cc nL own nm ret rm) {off : Int} (tgt : Nat) (hd : decode cc pc = .ok (.goto off, 3)) (ht : (pc : Int) + off = (tgt : Int)) (kk : PW G X nL Q k n tgt L S h) : PW G X nL Q k n pc L S h :=
  fun H locs ls hR hS hl => lv_goto C.1 C.2.1 hd ht (kk H locs ls hR hS hl)
end PWR
