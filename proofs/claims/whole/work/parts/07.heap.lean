/-! ROWS over cells -/
theorem zI_inR {i : Int} {n : Nat} (h0 : 0 ≤ i) (h1 : i < n) (hr : pR i) : vp_in (zI i) n := by
  rw [vp_in_iff, zI_toInt hr]
  exact ⟨h0, h1⟩
theorem pw_ce_congr {G : Gx} {h h' : PH} {d : Nat} (hT : ph_T h' d = ph_T h d) (hL : ph_L h' d = ph_L h d) (hI : ∀ j, ph_I h' d j = ph_I h d j) (hR : ∀ j, ph_R h' d j = ph_R h d j) : pw_ce G h' d = pw_ce G h d := by
  unfold pw_ce pw_fv
  rw [hT, hL]
  simp only [hI, hR]
theorem pw_ce_setI {G : Gx} {h : PH} {c f : Nat} {x : Int} : ∀ d, d ≠ c → pw_ce G (ph_setI h c f x) d = pw_ce G h d := fun d hd => pw_ce_congr rfl rfl (fun j => by simp [ph_I, ph_setI, hd]) (fun j => rfl)
theorem pw_ce_setR {G : Gx} {h : PH} {c f r : Nat} : ∀ d, d ≠ c → pw_ce G (ph_setR h c f r) d = pw_ce G h d := fun d hd => pw_ce_congr rfl rfl (fun j => rfl) (fun j => by simp [ph_R, ph_setR, hd])
theorem pw_ce_rowI {G : Gx} {h : PH} {c : Nat} {f : Nat → Int} : ∀ d, d ≠ c → pw_ce G (ph_rowI h c f) d = pw_ce G h d := fun d hd => pw_ce_congr rfl rfl (fun j => by simp [ph_I, ph_rowI, hd]) (fun j => rfl)
theorem pw_fv_get {G : Gx} {h : PH} {t c f : Nat} (hf : f < pw_nf t) : (pw_fv G h t c)[f]? = some (if pw_isR t f = true then va_rf (pw_ro G (ph_R h c f)) else .int (zI (ph_I h c f))) := by
  simp [pw_fv, List.getElem?_map, List.getElem?_range hf]
theorem pw_fv_len {G : Gx} {h : PH} {t c : Nat} : (pw_fv G h t c).length = pw_nf t := by simp [pw_fv]
theorem pw_fv_I {G : Gx} {h : PH} {t c f : Nat} {x : Int} (hf : f < pw_nf t) (hr : pw_isR t f = false) : pw_fv G (ph_setI h c f x) t c = (pw_fv G h t c).set f (.int (zI x)) := by
  apply List.ext_getElem?
  intro i
  rw [List.getElem?_set]
  by_cases hi : i < pw_nf t
  · rw [pw_fv_get hi, pw_fv_get hi, pw_fv_len]
    by_cases e : f = i
    · subst e
      simp [hr, hf, ph_setI, ph_I]
    · simp [e, ph_setI, ph_I, ph_R, Ne.symm e]
  · rw [List.getElem?_eq_none (by rw [pw_fv_len]; omega), List.getElem?_eq_none (by rw [pw_fv_len]; omega)]
    simp [pw_fv_len]
    intro e
    omega
theorem pw_fv_R {G : Gx} {h : PH} {t c f r : Nat} (hf : f < pw_nf t) (hr : pw_isR t f = true) : pw_fv G (ph_setR h c f r) t c = (pw_fv G h t c).set f (va_rf (pw_ro G r)) := by
  apply List.ext_getElem?
  intro i
  rw [List.getElem?_set]
  by_cases hi : i < pw_nf t
  · rw [pw_fv_get hi, pw_fv_get hi, pw_fv_len]
    by_cases e : f = i
    · subst e
      simp [hr, hf, ph_setR, ph_R]
    · simp [e, ph_setR, ph_I, ph_R, Ne.symm e]
  · rw [List.getElem?_eq_none (by rw [pw_fv_len]; omega), List.getElem?_eq_none (by rw [pw_fv_len]; omega)]
    simp [pw_fv_len]
    intro e
    omega
theorem pw_ce_o {G : Gx} {h : PH} {c t : Nat} (ht : ph_T h c = t) (h8 : t < 8) : pw_ce G h c = .inr (t, pw_fv G h t c) := by
  subst ht
  simp [pw_ce, h8]
theorem pw_ce_i {G : Gx} {h : PH} {c t : Nat} (ht : ph_T h c = t) (h8 : ¬ t < 8) (h10 : t < 10) : pw_ce G h c = .inl (G.2.2.2.2 t, ph_L h c, .inl (fun j => zI (ph_I h c j))) := by
  subst ht
  simp [pw_ce, h8, h10]
theorem pw_ce_q {G : Gx} {h : PH} {c t : Nat} (ht : ph_T h c = t) (h10 : ¬ t < 10) : pw_ce G h c = .inl (G.2.2.2.2 t, ph_L h c, .inr (.inr (.inr (.inr (fun j => pw_ro G (ph_R h c j)))))) := by
  subst ht
  have h8 : ¬ ph_T h c < 8 := by omega
  simp [pw_ce, h8, h10]
theorem pw_Rep.in {G : Gx} {h : PH} {H : Heap} (hR : pw_Rep G h H) {c t : Nat} (ht : ph_T h c = t) (h14 : t < 14) : 2 ≤ c ∧ c < ph_S h + 2 := hR.2.1 c (by omega)
section PWH
variable {G : Gx} {X : Cx} {cc : ByteArray} {nL : Nat} {own nm : String} {ret : Option FieldType} {rm : Room} {Q : State → Prop} {k n pc : Nat} {L : List (Option PV)} {S : List PV} {h : PH}
theorem pw_getI (C : pw_Ctx G X cc nL own nm ret rm) {t c f idx N : Nat} {Rn : String} {T : u_T} (hc : vwCl[t]? = some (Rn, T, N)) (hin : ∀ w ∈ u_ws Rn T N, w ∈ LW) (hN : pw_nf t = N) (h8 : t < 8) (hf : f < N) (hr : pw_isR t f = false) (hw : Cond.fieldLink own idx (T f).1 (T f).2.1 (T f).2.2.1 ∈ LW) (hd : decode cc pc = .ok (.getfield idx, 3)) (ht : ph_T h c = t) (kk : PW G X nL Q k n (pc + 3) L (.inl (ph_I h c f) :: S) h) : PW G X nL Q k n pc L (.inr c :: S) h := by
  intro H locs ls hR hS hl
  have hb := hR.in ht (by omega)
  rw [List.map_cons, pw_ref G hb.1]
  have he := pw_at (G := G) hb.1 hb.2
  rw [pw_ce_o ht h8] at he
  exact va_get (D := (G.2.2.1, G.2.2.2.1)) C.1 C.2.1 C.2.2.2.2.1 hin C.2.2.2.1 C.2.2.2.2.2.1 hR.2.2 (c - 2) he hc f hf (C.2.2.2.2.1 _ hw) (fun _ z => z) (v := .int (zI (ph_I h c f))) (by rw [pw_fv_get (by omega), if_neg (by rw [hr]; decide)]) hd (kk H locs ls hR hS hl)
theorem pw_getR (C : pw_Ctx G X cc nL own nm ret rm) {t c f idx N : Nat} {Rn : String} {T : u_T} (hc : vwCl[t]? = some (Rn, T, N)) (hin : ∀ w ∈ u_ws Rn T N, w ∈ LW) (hN : pw_nf t = N) (h8 : t < 8) (hf : f < N) (hr : pw_isR t f = true) (hw : Cond.fieldLink own idx (T f).1 (T f).2.1 (T f).2.2.1 ∈ LW) (hd : decode cc pc = .ok (.getfield idx, 3)) (ht : ph_T h c = t) (kk : PW G X nL Q k n (pc + 3) L (.inr (ph_R h c f) :: S) h) : PW G X nL Q k n pc L (.inr c :: S) h := by
  intro H locs ls hR hS hl
  have hb := hR.in ht (by omega)
  rw [List.map_cons, pw_ref G hb.1]
  have he := pw_at (G := G) hb.1 hb.2
  rw [pw_ce_o ht h8] at he
  exact va_get (D := (G.2.2.1, G.2.2.2.1)) C.1 C.2.1 C.2.2.2.2.1 hin C.2.2.2.1 C.2.2.2.2.2.1 hR.2.2 (c - 2) he hc f hf (C.2.2.2.2.1 _ hw) (fun _ z => z) (v := va_rf (pw_ro G (ph_R h c f))) (by rw [pw_fv_get (by omega), if_pos hr]) hd (kk H locs ls hR hS hl)
theorem pw_keepI {c f : Nat} {x : Int} {H H1 : Heap} {t : Nat} (hR : pw_Rep G h H) (ht : ph_T h c = t) (h14 : t < 14) (hz : H1.size = H.size) (hP : va_P (G.2.2.1, G.2.2.2.1) vwCl ((pw_ws G h).set (c - 2) (G.1 + (c - 2), pw_ce G (ph_setI h c f x) c)) H1) : pw_Rep G (ph_setI h c f x) H1 := by
  have hb := hR.in ht h14
  refine ⟨by rw [hz, hR.1]; rfl, hR.2.1, ?_⟩
  rw [pw_set (h := h) (h' := ph_setI h c f x) rfl hb.1 hb.2 pw_ce_setI]
  exact hP
theorem pw_keepR {c f r : Nat} {H H1 : Heap} {t : Nat} (hR : pw_Rep G h H) (ht : ph_T h c = t) (h14 : t < 14) (hz : H1.size = H.size) (hP : va_P (G.2.2.1, G.2.2.2.1) vwCl ((pw_ws G h).set (c - 2) (G.1 + (c - 2), pw_ce G (ph_setR h c f r) c)) H1) : pw_Rep G (ph_setR h c f r) H1 := by
  have hb := hR.in ht h14
  refine ⟨by rw [hz, hR.1]; rfl, hR.2.1, ?_⟩
  rw [pw_set (h := h) (h' := ph_setR h c f r) rfl hb.1 hb.2 pw_ce_setR]
  exact hP
theorem pw_keepRow {c : Nat} {f : Nat → Int} {H H1 : Heap} {t : Nat} (hR : pw_Rep G h H) (ht : ph_T h c = t) (h14 : t < 14) (hz : H1.size = H.size) (hP : va_P (G.2.2.1, G.2.2.2.1) vwCl ((pw_ws G h).set (c - 2) (G.1 + (c - 2), pw_ce G (ph_rowI h c f) c)) H1) : pw_Rep G (ph_rowI h c f) H1 := by
  have hb := hR.in ht h14
  refine ⟨by rw [hz, hR.1]; rfl, hR.2.1, ?_⟩
  rw [pw_set (h := h) (h' := ph_rowI h c f) rfl hb.1 hb.2 pw_ce_rowI]
  exact hP
theorem pw_iald (C : pw_Ctx G X cc nL own nm ret rm) {c : Nat} {i : Int} (hd : decode cc pc = .ok (.iaload, 1)) (ht : ph_T h c = 8) (h0 : 0 ≤ i) (h1 : i < ph_L h c) (hi : pR i) (kk : PW G X nL Q k n (pc + 1) L (.inl (ph_I h c i.toNat) :: S) h) : PW G X nL Q k n pc L (.inl i :: .inr c :: S) h := by
  intro H locs ls hR hS hl
  have hb := hR.in ht (by omega)
  rw [List.map_cons, List.map_cons, pw_ref G hb.1]
  have he := pw_at (G := G) hb.1 hb.2
  rw [pw_ce_i ht (by omega) (by omega)] at he
  refine va_iald C.1 C.2.1 C.2.2.2.2.2.1 hR.2.2 (c - 2) 0 he rfl (zI_inR h0 h1 hi) hd ?_
  rw [zI_clamp hi]
  exact kk H locs ls hR hS hl
theorem pw_zald (C : pw_Ctx G X cc nL own nm ret rm) {c : Nat} {i : Int} (hd : decode cc pc = .ok (.baload, 1)) (ht : ph_T h c = 9) (h0 : 0 ≤ i) (h1 : i < ph_L h c) (hi : pR i) (kk : PW G X nL Q k n (pc + 1) L (.inl (ph_I h c i.toNat) :: S) h) : PW G X nL Q k n pc L (.inl i :: .inr c :: S) h := by
  intro H locs ls hR hS hl
  have hb := hR.in ht (by omega)
  rw [List.map_cons, List.map_cons, pw_ref G hb.1]
  have he := pw_at (G := G) hb.1 hb.2
  rw [pw_ce_i ht (by omega) (by omega)] at he
  refine va_zald C.1 C.2.1 C.2.2.2.2.2.1 hR.2.2 (c - 2) 1 he rfl (zI_inR h0 h1 hi) hd ?_
  rw [zI_clamp hi]
  exact kk H locs ls hR hS hl
theorem pw_aald (C : pw_Ctx G X cc nL own nm ret rm) {c t : Nat} {i : Int} {En : String} (hd : decode cc pc = .ok (.aaload, 1)) (ht : ph_T h c = t) (h10 : ¬ t < 10) (h14 : t < 14) (hty : (pw_tys G)[t - 8]? = some (G.2.2.2.2 t, .object En)) (h0 : 0 ≤ i) (h1 : i < ph_L h c) (hi : pR i) (kk : PW G X nL Q k n (pc + 1) L (.inr (ph_R h c i.toNat) :: S) h) : PW G X nL Q k n pc L (.inl i :: .inr c :: S) h := by
  intro H locs ls hR hS hl
  have hb := hR.in ht (by omega)
  rw [List.map_cons, List.map_cons, pw_ref G hb.1]
  have he := pw_at (G := G) hb.1 hb.2
  rw [pw_ce_q ht h10] at he
  refine va_aldq C.1 C.2.1 C.2.2.2.2.2.1 hR.2.2 (c - 2) (t - 8) he hty (zI_inR h0 h1 hi) hd ?_
  rw [zI_clamp hi]
  exact kk H locs ls hR hS hl
theorem pw_alen (C : pw_Ctx G X cc nL own nm ret rm) {c : Nat} (hd : decode cc pc = .ok (.arraylength, 1)) (ht : ph_T h c = 8) (kk : PW G X nL Q k n (pc + 1) L (.inl (ph_L h c : Int) :: S) h) : PW G X nL Q k n pc L (.inr c :: S) h := by
  intro H locs ls hR hS hl
  have hb := hR.in ht (by omega)
  rw [List.map_cons, pw_ref G hb.1]
  have he := pw_at (G := G) hb.1 hb.2
  rw [pw_ce_i ht (by omega) (by omega)] at he
  exact va_alen C.1 C.2.1 C.2.2.2.2.2.1 hR.2.2 (c - 2) 0 he (ty := .int) rfl (v := zI (ph_L h c : Int)) rfl hd (kk H locs ls hR hS hl)
/-- the size of the heap is in va_P's cells -/
theorem pw_iast (C : pw_Ctx G X cc nL own nm ret rm) {c : Nat} {i x : Int} (hd : decode cc pc = .ok (.iastore, 1)) (ht : ph_T h c = 8) (h0 : 0 ≤ i) (h1 : i < ph_L h c) (hi : pR i) (kk : PW G X nL Q k n (pc + 1) L S (ph_setI h c i.toNat x)) : PW G X nL Q k n pc L (.inl x :: .inl i :: .inr c :: S) h := by
  intro H locs ls hR hS hl
  have hb := hR.in ht (by omega)
  rw [List.map_cons, List.map_cons, List.map_cons, pw_ref G hb.1]
  have he := pw_at (G := G) hb.1 hb.2
  rw [pw_ce_i ht (by omega) (by omega)] at he
  refine W.iast C.1 C.2.1 (hR.2.2 _ _ he) ((C.2.2.2.2.2.1.2 0 _ rfl).1 _ (fun j => .int (zI (ph_I h c j)))) (fun q => by cases q) (by show ¬ (zI i < 0 ∨ (arrV _ _ _).slots.size ≤ _); rw [arrV_size]; exact zI_inR h0 h1 hi) rfl rfl hd fun H1 e z oq => ?_
  refine kk H1 _ ls (pw_keepI hR ht (by omega) z (hR.2.2.set (pw_D G h) he ?_ oq)) (hS.put z oq (show G.1 ≤ _ by omega)) hl
  rw [pw_ce_i (h := ph_setI h c i.toNat x) ht (by omega) (by omega)]
  show H1[_]? = some (vp_cell _ _)
  rw [e]
  rw [vp_cell_i, vp_cell_i, arrV_store, zI_clamp hi]
  congr 2
  funext q
  by_cases hq : q = i.toNat
  · subst hq
    simp [updV, ph_setI, ph_I]
  · simp [updV, ph_setI, ph_I, hq]
theorem pw_zast (C : pw_Ctx G X cc nL own nm ret rm) {c : Nat} {i x : Int} (hd : decode cc pc = .ok (.bastore, 1)) (ht : ph_T h c = 9) (h0 : 0 ≤ i) (h1 : i < ph_L h c) (hi : pR i) (hx : x = 0 ∨ x = 1) (kk : PW G X nL Q k n (pc + 1) L S (ph_setI h c i.toNat x)) : PW G X nL Q k n pc L (.inl x :: .inl i :: .inr c :: S) h := by
  intro H locs ls hR hS hl
  have hb := hR.in ht (by omega)
  rw [List.map_cons, List.map_cons, List.map_cons, pw_ref G hb.1]
  have he := pw_at (G := G) hb.1 hb.2
  rw [pw_ce_i ht (by omega) (by omega)] at he
  refine W.zast C.1 C.2.1 (hR.2.2 _ _ he) ((C.2.2.2.2.2.1.2 1 _ rfl).1 _ (fun j => .int (zI (ph_I h c j)))) (fun q => by cases q) (by show ¬ (zI i < 0 ∨ (arrV _ _ _).slots.size ≤ _); rw [arrV_size]; exact zI_inR h0 h1 hi) rfl rfl hd fun H1 e z oq => ?_
  refine kk H1 _ ls (pw_keepI hR ht (by omega) z (hR.2.2.set (pw_D G h) he ?_ oq)) (hS.put z oq (show G.1 ≤ _ by omega)) hl
  rw [pw_ce_i (h := ph_setI h c i.toNat x) ht (by omega) (by omega)]
  show H1[_]? = some (vp_cell _ _)
  rw [e]
  rw [vp_cell_i, vp_cell_i, arrV_store, zI_clamp hi]
  congr 2
  funext q
  by_cases hq : q = i.toNat
  · subst hq
    rcases hx with rfl | rfl <;> simp [updV, ph_setI, ph_I] <;> rfl
  · simp [updV, ph_setI, ph_I, hq]
theorem pw_aast (C : pw_Ctx G X cc nL own nm ret rm) {c v t te : Nat} {i : Int} {r : vw_C} (hd : decode cc pc = .ok (.aastore, 1)) (ht : ph_T h c = t) (h10 : ¬ t < 10) (h14 : t < 14) (hty : (pw_tys G)[t - 8]? = some (G.2.2.2.2 t, .object r.1)) (hv : ph_T h v = te) (h8 : te < 8) (hcl : vwCl[te]? = some r) (h0 : 0 ≤ i) (h1 : i < ph_L h c) (hi : pR i) (kk : PW G X nL Q k n (pc + 1) L S (ph_setR h c i.toNat v)) : PW G X nL Q k n pc L (.inr v :: .inl i :: .inr c :: S) h := by
  intro H locs ls hR hS hl
  have hb := hR.in ht (by omega)
  have hbv := hR.in hv (by omega)
  rw [List.map_cons, List.map_cons, List.map_cons, pw_ref G hb.1, pw_ref G hbv.1]
  have he := pw_at (G := G) hb.1 hb.2
  rw [pw_ce_q ht h10] at he
  have hev := pw_at (G := G) hbv.1 hbv.2
  rw [pw_ce_o hv h8] at hev
  have hK := C.2.2.2.2.2.1
  obtain ⟨r', hr', cellV, g1, g2, g3, -⟩ := hR.2.2 _ _ hev
  have hcls := (hK.1 te r hcl).2
  obtain ⟨kA, comp, k1, k2, k3, -⟩ := (hK.2 _ _ hty).2
  have hcomp : comp = G.2.2.1 te := Option.some.inj (k3.symm.trans hcls.1)
  subst hcomp
  obtain ⟨kC, hkC, -⟩ := hcls.2
  refine W.aast C.1 C.2.1 (hR.2.2 _ _ he) (fun q h => by cases h) (fun h => by cases h) k1 k2 rfl hkC ⟨fun q => zI_inR h0 h1 hi (Or.inl q), by show _ < (arrV _ _ _).slots.size; rw [arrV_size]; exact Nat.not_le.mp fun q => zI_inR h0 h1 hi (Or.inr q)⟩ g1 (fun q h => by rw [g3] at h; cases h) (by rw [g2]; exact hkC) (by rw [g2]; exact va_assign hcls) rfl rfl hd fun H1 e z oq => ?_
  refine kk H1 _ ls (pw_keepR hR ht (by omega) z (hR.2.2.set (pw_D G h) he ?_ oq)) (hS.put z oq (show G.1 ≤ _ by omega)) hl
  rw [pw_ce_q (h := ph_setR h c i.toNat v) ht h10]
  show H1[_]? = some (vp_cell _ _)
  rw [e]
  rw [vp_cell_q, vp_cell_q, arrV_store, zI_clamp hi]
  congr 2
  funext q
  by_cases hq : q = i.toNat
  · subst hq
    simp [updV, ph_setR, ph_R, pw_ro2 G hbv.1, va_rf]
  · simp [updV, ph_setR, ph_R, hq]
end PWH
