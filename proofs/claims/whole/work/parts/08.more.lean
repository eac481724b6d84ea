/-! ROWS: fields written, cells made, the JDK's own, returns -/
section PWP
variable {G : Gx} {X : Cx} {cc : ByteArray} {nL : Nat} {own nm : String} {ret : Option FieldType} {rm : Room} {Q : State → Prop} {k n pc : Nat} {L : List (Option PV)} {S : List PV} {h : PH}
/-- a field is written: the cell behind it, by what is written there -/
theorem pw_putX (C : pw_Ctx G X cc nL own nm ret rm) {t c f idx N : Nat} {Rn : String} {T : u_T} {ty0 : Nat → FieldType} (hc : vwCl[t]? = some (Rn, T, N)) (hin : ∀ w ∈ u_ws Rn T N, w ∈ LW) (hty : ∀ k, k < N → parseFieldDescriptor (T k).2.2.1 = some (ty0 k)) (hnm : ∀ a, a < N → ∀ b, b < N → a ≠ b → (T a).2.1 ≠ (T b).2.1) (hN : pw_nf t = N) (h8 : t < 8) (hf : f < N)
    (hfin : (T f).2.2.2 = false ∨ ((T f).2.2.2 = true ∧ nm = "<init>" ∧ (T f).1 = own))
    (hw : Cond.fieldLink own idx (T f).1 (T f).2.1 (T f).2.2.1 ∈ LW) (hd : decode cc pc = .ok (.putfield idx, 3)) (ht : ph_T h c = t) (v : Value) (hn : narrow (ty0 f) v = v) (hfit : fits (ty0 f) v = true) {h' : PH} (hS' : ph_S h' = ph_S h) (hT' : ∀ d, ph_T h' d = ph_T h d) (ho : ∀ d, d ≠ c → pw_ce G h' d = pw_ce G h d) (hv : pw_fv G h' t c = (pw_fv G h t c).set f v)
    {st : List Value} (H : Heap) (locs : List Loc) (ls : Array Slot) (hR : pw_Rep G h H) (hS : va_S (fun q => G.1 ≤ q) X.2.2.2.2.1.heap H locs)
    (kk : ∀ (H1 : Heap) (locs1 : List Loc), pw_Rep G h' H1 → va_S (fun q => G.1 ≤ q) X.2.2.2.2.1.heap H1 locs1 → W X.1 X.2.1 X.2.2.1 X.2.2.2.1 X.2.2.2.2.1 X.2.2.2.2.2.1 X.2.2.2.2.2.2.1 X.2.2.2.2.2.2.2.1 X.2.2.2.2.2.2.2.2.1 X.2.2.2.2.2.2.2.2.2 H1 locs1 k n Q (F0 X.2.2.2.2.2.1 (pc + 3) ls st)) :
    W X.1 X.2.1 X.2.2.1 X.2.2.2.1 X.2.2.2.2.1 X.2.2.2.2.2.1 X.2.2.2.2.2.2.1 X.2.2.2.2.2.2.2.1 X.2.2.2.2.2.2.2.2.1 X.2.2.2.2.2.2.2.2.2 H locs k n Q (F0 X.2.2.2.2.2.1 pc ls (v :: pw_rv G (.inr c) :: st)) := by
  obtain ⟨hexec, hb, hml, hown, hts, hK, hB, hrm, hNW, hlk, hrt, hnme⟩ := C
  have hbd := hR.in ht (by omega)
  rw [pw_ref G hbd.1]
  have he := pw_at (G := G) hbd.1 hbd.2
  rw [pw_ce_o ht h8] at he
  have hap := va_apart (own := own) hts hin ty0 hty hnm hK hc
  obtain ⟨r, h1, cell, q1, q2, q3, q4⟩ := hR.2.2 _ _ he
  have hr : r = (Rn, T, N) := Option.some.inj (h1.symm.trans hc)
  subst hr
  obtain ⟨hSl, hfc, kC, hkC, hkind⟩ := hK.1 t _ hc
  obtain ⟨cf, kf, fi, fd, hi, hsl⟩ := hSl f hf
  have hst := (u_facts hfc hkC (u_lays hts hin hf) hi).1
  have hlay := hts _ (hin _ (u_in_lay hf))
  unfold u_lay at hlay
  have fin : ∀ (H' : Heap), H'[G.1 + (c - 2)]? = some (cell.setSlot fd.slot v) → H'.size = H.size → (∀ q : Nat, q ≠ G.1 + (c - 2) → H'[q]? = H[q]?) → pw_Rep G h' H' := by
    intro H' e1 e2 e3
    refine ⟨by rw [e2, hR.1, hS'], fun d hd => by rw [hS']; exact hR.2.1 d (by rw [← hT' d]; exact hd), ?_⟩
    rw [pw_set hS' hbd.1 hbd.2 ho]
    rw [pw_ce_o (h := h') (t := t) (by rw [hT' c]; exact ht) h8, hv]
    rw [hsl] at e1
    exact hR.2.2.set (pw_D G h) he ⟨_, hc, t_OB.to (V := updV (vp_V (pw_fv G h t c)) f v) ⟨_, e1, q2, q3, t_set q4 hap hf v⟩ (fun j _ => vp_updV_set (by rw [pw_fv_len]; omega) v j)⟩ e3
  rcases hfin with hfin | ⟨hfin, hini, hdecl⟩
  · rw [if_neg (by rw [hfin]; decide)] at hlay
    have h6 := u_store hfc hkC hkind hlay hi (hty f hf) hn hfit
    refine W.putK hexec hb (f := fd) ⟨hown, hts _ hw, ⟨_, _, _, hi⟩, hst⟩ (by rw [q2]; exact h6) q1 q3 (by rw [hsl]; exact k2_hasslot (q4 f hf)) rfl rfl hd fun H' e1 e2 e3 => ?_
    exact kk H' _ (fin H' e1 e2 e3) (hS.put e2 e3 (show G.1 ≤ _ by omega))
  · rw [if_pos hfin] at hlay
    have hcf : X.2.2.2.2.2.1.cls = cf := by
      obtain ⟨_, _, c', _, _, _, -, -, hf', -, -, -, hown2, -⟩ := Cond.laysFinal_spec hlay
      have e1 : c' = cf := by have := hi.symm.trans hf'; simp at this; exact this.1.symm
      rw [hdecl] at hown2
      rw [← e1]; exact Option.some.inj (hown.symm.trans hown2)
    have h6 := u_fits hfc hkC hkind (Or.inr hlay) hi (hty f hf) hn hfit
    refine W.putFinK hexec hb hown (hts _ hw) hi hst hcf (hnme.trans hini) (by rw [q2]; exact h6) q1 q3 (by rw [hsl]; exact k2_hasslot (q4 f hf)) rfl rfl hd fun H' e1 e2 e3 => ?_
    exact kk H' _ (fin H' e1 e2 e3) (hS.put e2 e3 (show G.1 ≤ _ by omega))
end PWP
