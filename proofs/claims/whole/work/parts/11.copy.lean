/-! System.arraycopy of a whole row, and the JDK's words by the kit's names -/
theorem kwAbs : Cond.code Lib.Math.abs.name Lib.Math.abs.code 1 (some .int) ∈ LW := kw422
theorem kwMin : Cond.code Lib.Math.min.name Lib.Math.min.code 2 (some .int) ∈ LW := kw425
theorem kwMax : Cond.code Lib.Math.max.name Lib.Math.max.code 2 (some .int) ∈ LW := kw486
theorem kwObj : Cond.code Lib.objectInit ⟨#[0xb1]⟩ 1 none ∈ LW := kw56
section PWY
variable {G : Gx} {X : Cx} {cc : ByteArray} {nL : Nat} {own nm : String} {ret : Option FieldType} {rm : Room} {Q : State → Prop} {k n pc : Nat} {L : List (Option PV)} {S : List PV} {h : PH}
theorem pw_copy (C : pw_Ctx G X cc nL own nm ret rm) {idx c0 c1 : Nat} {z : Int} (hw : Cond.methodLink own idx arraycopyName ∈ LW) (hd : decode cc pc = .ok (.invokestatic idx, 3)) (ht0 : ph_T h c0 = 8) (ht1 : ph_T h c1 = 8) (hz : pR z) (hz0 : 0 ≤ z) (hn0 : z ≤ ph_L h c0) (hn1 : z ≤ ph_L h c1) (hr : 1 ≤ rm.frames) (hr2 : S.length + (nativeFrameWords "java/lang/System" "arraycopy" 5 + 11) ≤ rm.locals)
    (kk : PW G X nL Q k n (pc + 3) L S (ph_rowI h c1 (fun j => if (j : Int) < z then ph_I h c0 j else ph_I h c1 j))) : PW G X nL Q k n pc L (.inl z :: .inl 0 :: .inr c1 :: .inl 0 :: .inr c0 :: S) h := by
  intro H locs ls hR hS hl
  obtain ⟨hexec, hb, hml, hown, hts, hK, hB, hrm, hNW, hlk, hrt, hnme⟩ := C
  have hb0 := hR.in ht0 (by omega)
  have hb1 := hR.in ht1 (by omega)
  have h00 : pR 0 := by unfold pR; omega
  simp only [List.map_cons, pw_ref G hb0.1, pw_ref G hb1.1]
  have he0 := pw_at (G := G) hb0.1 hb0.2
  rw [pw_ce_i ht0 (by omega) (by omega)] at he0
  have he1 := pw_at (G := G) hb1.1 hb1.2
  rw [pw_ce_i ht1 (by omega) (by omega)] at he1
  intro T hT XX
  have hc0 := hR.2.2 _ _ he0
  have hc1 := hR.2.2 _ _ he1
  obtain ⟨-, k0, hk0, cm0, hkk0⟩ := (hK.2 0 _ rfl).1 (ph_L h c0) (fun j => .int (zI (ph_I h c0 j)))
  obtain ⟨-, k1, hk1, cm1, hkk1⟩ := (hK.2 0 _ rfl).1 (ph_L h c1) (fun j => .int (zI (ph_I h c1 j)))
  have nz : ¬ zI 0 < 0 := by rw [show (0 : Int32) = zI 0 from rfl, zI_lt h00 h00]; omega
  have nn : ¬ zI z < 0 := by rw [show (0 : Int32) = zI 0 from rfl, zI_lt hz h00]; omega
  have cz : (zI 0).toNatClampNeg = 0 := by rw [zI_clamp h00]; rfl
  have cn : (zI z).toNatClampNeg = z.toNat := zI_clamp hz
  have tz : (zI 0).toInt = 0 := zI_toInt h00
  have tn : (zI z).toInt = z := zI_toInt hz
  obtain ⟨vm', X', step⟩ := XX.arraycopy hexec hown (hts _ hw) (hts _ kw655) (hts _ kw654) (hts _ kw48) (src := G.1 + (c0 - 2)) (dst := G.1 + (c1 - 2)) (cs := vp_cell (G.2.2.2.2 8) (ph_L h c0, .inl (fun j => zI (ph_I h c0 j)))) (cd := vp_cell (G.2.2.2.2 8) (ph_L h c1, .inl (fun j => zI (ph_I h c1 j)))) (srcPos := zI 0) (destPos := zI 0) (n := zI z) (by rw [hT]; exact hc0) (by rw [hT]; exact hc1)
    (fun _ h => by cases h) (fun _ h => by cases h) (fun h => by cases h) (fun h => by cases h) hk0 hk1 hkk0 hkk1 (by simp [refKind]) nz nz nn
    (by rw [tz, tn]; show ¬ _ > ((arrV _ (ph_L h c0) (fun j => .int (zI (ph_I h c0 j)))).slots.size : Int); rw [arrV_size]; omega)
    (by rw [tz, tn]; show ¬ _ > ((arrV _ (ph_L h c1) (fun j => .int (zI (ph_I h c1 j)))).slots.size : Int); rw [arrV_size]; omega)
    (fun vm₁ _ i hi => by
      have e : (vp_cell (G.2.2.2.2 8) (ph_L h c0, .inl (fun j => zI (ph_I h c0 j)))).slots.getD ((zI 0).toNatClampNeg + i) .null = .int (zI (ph_I h c0 ((zI 0).toNatClampNeg + i))) := by
        show (arrV _ (ph_L h c0) (fun j => .int (zI (ph_I h c0 j)))).slots.getD _ _ = _
        rw [Array.getD_eq_getD_getElem?, arrV_read _ _ (by rw [cz]; rw [cn] at hi; omega)]
        rfl
      exact ⟨by rw [e]; rfl, by rw [e]; exact trivial⟩)
    (g := F0 X.2.2.2.2.2.1 pc ls (.int (zI z) :: .int (zI 0) :: .ref (G.1 + (c1 - 2)) :: .int (zI 0) :: .ref (G.1 + (c0 - 2)) :: S.map (pw_rv G))) rfl (by rw [hml]; exact hl.1) (rest := S.map (pw_rv G)) rfl (by rw [hb]; exact hd) (by rw [hrm]; exact hr) (by rw [hrm]; have := pw_sum (G := G) S; show 2 * 0 + _ + _ ≤ _; omega)
  have e1 : copied (vp_cell (G.2.2.2.2 8) (ph_L h c0, .inl (fun j => zI (ph_I h c0 j)))) (vp_cell (G.2.2.2.2 8) (ph_L h c1, .inl (fun j => zI (ph_I h c1 j)))) (zI 0) (zI 0) (zI z) = vp_cell (G.2.2.2.2 8) (ph_L h c1, .inl (va_cpy (fun j => zI (ph_I h c0 j)) (fun j => zI (ph_I h c1 j)) (zI 0).toNatClampNeg (zI 0).toNatClampNeg (zI z).toNatClampNeg)) := va_copied (fun z => .int z) _ _ (fun j => zI (ph_I h c0 j)) (fun j => zI (ph_I h c1 j)) (by rw [cz, cn]; omega)
  rw [e1] at X' step
  have hlt : G.1 + (c1 - 2) < H.size := (Array.getElem?_eq_some_iff.mp hc1).1
  have ecell : va_cpy (fun j => zI (ph_I h c0 j)) (fun j => zI (ph_I h c1 j)) (zI 0).toNatClampNeg (zI 0).toNatClampNeg (zI z).toNatClampNeg = fun (j : Nat) => zI (if (j : Int) < z then ph_I h c0 j else ph_I h c1 j) := by
    funext j
    unfold va_cpy
    rw [cz, cn]
    by_cases hj : (j : Int) < z
    · rw [if_pos (by omega), if_pos hj]
      simp
    · rw [if_neg (by omega), if_neg hj]
  rw [ecell] at X' step
  have hheap : ((T.setVm vm').setCell (G.1 + (c1 - 2)) (vp_cell (G.2.2.2.2 8) (ph_L h c1, .inl (fun (j : Nat) => zI (if (j : Int) < z then ph_I h c0 j else ph_I h c1 j))))).heap = H.setIfInBounds (G.1 + (c1 - 2)) (vp_cell (G.2.2.2.2 8) (ph_L h c1, .inl (fun (j : Nat) => zI (if (j : Int) < z then ph_I h c0 j else ph_I h c1 j)))) := by rw [← hT]; rfl
  have oq : ∀ q : Nat, q ≠ G.1 + (c1 - 2) → (H.setIfInBounds (G.1 + (c1 - 2)) (vp_cell (G.2.2.2.2 8) (ph_L h c1, .inl (fun (j : Nat) => zI (if (j : Int) < z then ph_I h c0 j else ph_I h c1 j)))))[q]? = H[q]? := fun q hq => by simp [Array.getElem?_setIfInBounds, Ne.symm hq]
  have hR1 : pw_Rep G (ph_rowI h c1 (fun j => if (j : Int) < z then ph_I h c0 j else ph_I h c1 j)) (H.setIfInBounds (G.1 + (c1 - 2)) (vp_cell (G.2.2.2.2 8) (ph_L h c1, .inl (fun (j : Nat) => zI (if (j : Int) < z then ph_I h c0 j else ph_I h c1 j))))) := by
    refine pw_keepRow hR ht1 (by omega) (by simp) (hR.2.2.set (pw_D G h) he1 ?_ oq)
    rw [pw_ce_i (h := ph_rowI h c1 _) ht1 (by omega) (by omega)]
    show (H.setIfInBounds _ _)[_]? = some (vp_cell _ _)
    have eI : ∀ j, ph_I (ph_rowI h c1 (fun j => if (j : Int) < z then ph_I h c0 j else ph_I h c1 j)) c1 j = if (j : Int) < z then ph_I h c0 j else ph_I h c1 j := fun j => by simp [ph_I, ph_rowI]
    simp only [eI]
    simp only [Array.getElem?_setIfInBounds, hlt]
    rfl
  obtain ⟨t, a1, b1⟩ := kk _ _ ls hR1 ⟨by simp; exact hS.1, fun q g1 g2 => by
      rw [oq q (fun e => g2 (by rw [e]; show G.1 ≤ _; omega))]
      exact hS.2.1 q g1 g2, fun q hq => by
      rcases List.mem_append.mp hq with h | h
      · exact hS.2.2 q h
      · obtain ⟨z, -, hz⟩ := List.mem_map.mp h
        rw [← hz]
        exact Nat.le_add_right _ _⟩ hl _ hheap X'
  exact ⟨t, step t a1, b1⟩
end PWY
/-- fewer locals known is asked more -/
def pw_msk : List Bool → List (Option PV) → List (Option PV)
  | b :: bs, v :: L => cond b v none :: pw_msk bs L
  | _, _ => []
theorem pw_msk_get : ∀ (bs : List Bool) (L : List (Option PV)) (i : Nat) (v : PV), (pw_msk bs L)[i]? = some (some v) → L[i]? = some (some v)
  | [], _, i, v, h => by simp [pw_msk] at h
  | _ :: _, [], i, v, h => by simp [pw_msk] at h
  | b :: bs, w :: L, 0, v, h => by
    cases b
    · simp [pw_msk] at h
    · simpa [pw_msk] using h
  | b :: bs, w :: L, i + 1, v, h => by
    have := pw_msk_get bs L i v (by simpa [pw_msk] using h)
    simpa using this
theorem pw_weak {G : Gx} {X : Cx} {nL : Nat} {Q : State → Prop} {k n pc : Nat} {L : List (Option PV)} {S : List PV} {h : PH} (bs : List Bool) (kk : PW G X nL Q k n pc (pw_msk bs L) S h) : PW G X nL Q k n pc L S h :=
  fun H locs ls hR hS hl => kk H locs ls hR hS ⟨hl.1, hl.2.1, fun i v hv => hl.2.2 i v (pw_msk_get bs L i v hv)⟩
