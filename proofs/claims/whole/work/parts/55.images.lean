/-! the reference: images -/
def imgF (im st : Nat → Int) (k : Int) (m : Nat) (j : Nat) : Int := if 492 * k ≤ (j : Int) ∧ (j : Int) < 492 * k + m then st (Int.toNat ((j : Int) - 492 * k)) else im j
def resF (im st : Nat → Int) (k : Int) (m : Nat) (j : Nat) : Int := if j < m then im (Int.toNat ((492 * k) + (j : Int))) else st j
theorem imgF_0 (im st : Nat → Int) (k : Int) : imgF im st k 0 = im := funext fun j => if_neg (by omega)
theorem imgF_s (im st : Nat → Int) (k : Int) (m : Nat) (hk : 0 ≤ k) : up (imgF im st k m) (Int.toNat ((492 * k) + (m : Int))) (st m) = imgF im st k (m + 1) := by
  funext j
  unfold up imgF
  by_cases q : j = Int.toNat ((492 * k) + (m : Int))
  · rw [if_pos q, if_pos (by omega)]
    have e : Int.toNat ((j : Int) - 492 * k) = m := by omega
    rw [e]
  · rw [if_neg q]
    by_cases q2 : 492 * k ≤ (j : Int) ∧ (j : Int) < 492 * k + m
    · rw [if_pos q2, if_pos (by omega)]
    · rw [if_neg q2, if_neg (by omega)]
theorem resF_0 (im st : Nat → Int) (k : Int) : resF im st k 0 = st := funext fun j => if_neg (by omega)
theorem resF_s (im st : Nat → Int) (k : Int) (m : Nat) : up (resF im st k m) m (im (Int.toNat ((492 * k) + (m : Int)))) = resF im st k (m + 1) := by
  funext j
  unfold up resF
  by_cases q : j = m
  · rw [if_pos q, if_pos (by omega), q]
  · rw [if_neg q]
    by_cases q2 : j < m
    · rw [if_pos q2, if_pos (by omega)]
    · rw [if_neg q2, if_neg (by omega)]
def pqImg (h : PH) (k : Int) : Option PV → PH → Prop := fun r h' => (¬ (0 ≤ k ∧ k ≤ 1) ∧ r = some (.inl (-2)) ∧ h' = h) ∨ ((0 ≤ k ∧ k ≤ 1) ∧ r = some (.inl 1) ∧ h' = ph_rowI (ph_rowI h 136 (imgF (ph_I h 136) (ph_I h 135) k 492)) 137 (up (ph_I h 137) (Int.toNat k) 1))
theorem ct_X7_image (G : Gx) (l : Launch) (h : PH) {k : Int} (gk : pR k) (hm : MF h) : CT_X7_image G l [.inr 134, .inl k] h (pqImg h k) := by
  obtain ⟨⟨mt0, mr0, mr1, mr2, mr3, mr8, mr9, mr10⟩, ⟨mt1, mt2, mt3, mt4, mt5, mt6, mt7⟩, ⟨ml1, ml2, ml3, ml4, ml5, ml6, ml7⟩⟩ := id hm
  refine ct_intro rfl (Nat.le_of_ble_eq_true rfl) (fun X hX C => ?_)
  refine B_X7_image_0 C (hM := ct_X7_in _ _ _) (kk := fun rr h' hq => ?_)
  obtain ⟨rfl, ⟨rfl, c1⟩ | ⟨rfl, c1⟩⟩ := hq
  · refine B_X7_image_6 C (kt := fun c => ?_) (kf := fun c => absurd c (by decide))
    refine B_X7_image_12 C (kk := ?_)
    have key : ∀ (m i : Nat), i + m = 492 → PW G X 3 (pw_E G X (pqImg h k) 0 0) 0 0 14 [some (.inr 134), some (.inl k), some (.inl i)] [] (ph_rowI h 136 (imgF (ph_I h 136) (ph_I h 135) k i)) := by
      intro m
      induction m with
      | zero =>
        intro i hi
        have e : i = 492 := by omega
        subst e
        obtain ⟨⟨xt0, xr0, xr1, xr2, xr3, xr8, xr9, xr10⟩, ⟨xt1, xt2, xt3, xt4, xt5, xt6, xt7⟩, ⟨xl1, xl2, xl3, xl4, xl5, xl6, xl7⟩⟩ := (show MF (ph_rowI h 136 (imgF (ph_I h 136) (ph_I h 135) k 492)) from hm)
        refine B_X7_image_14 C (kt := fun c2 => ?_) (kf := fun c2 => by omega)
        refine B_X7_image_45 C (r2 := 137) (hq := Or.inr ⟨c1, rfl, ?_⟩)
        rw [set_row]
        rfl
      | succ m ih =>
        intro i hi
        obtain ⟨⟨xt0, xr0, xr1, xr2, xr3, xr8, xr9, xr10⟩, ⟨xt1, xt2, xt3, xt4, xt5, xt6, xt7⟩, ⟨xl1, xl2, xl3, xl4, xl5, xl6, xl7⟩⟩ := (show MF (ph_rowI h 136 (imgF (ph_I h 136) (ph_I h 135) k i)) from hm)
        have nx := ih (i + 1) (by omega)
        have e1 : ((i + 1 : Nat) : Int) = (i : Int) + 1 := by omega
        rw [e1, ← imgF_s _ _ _ _ c1.1, ← set_up] at nx
        refine B_X7_image_14 C (kt := fun c2 => by omega) (kf := fun c2 => ?_)
        refine B_X7_image_21 C (r2 := 136) (r5 := 135) (x11 := ph_I h 135 i) (e12 := by rw [show Int.toNat (i : Int) = i by omega]; rfl) (kk := ?_)
        exact nx
    have := key 492 0 (by omega)
    rw [imgF_0, ph_row_id] at this
    exact this
  · refine B_X7_image_6 C (kt := fun c => absurd rfl c) (kf := fun c => ?_)
    exact B_X7_image_9 C (hq := Or.inl ⟨c1, rfl, rfl⟩)
def pqRes (h : PH) (k : Int) : Option PV → PH → Prop := fun r h' => (¬ (0 ≤ k ∧ k ≤ 1) ∧ r = some (.inl (-2)) ∧ h' = h) ∨ ((0 ≤ k ∧ k ≤ 1) ∧ ph_I h 137 (Int.toNat k) = 0 ∧ r = some (.inl (-3)) ∧ h' = h) ∨ ((0 ≤ k ∧ k ≤ 1) ∧ ph_I h 137 (Int.toNat k) ≠ 0 ∧ r = some (.inl 1) ∧ h' = ph_rowI h 135 (resF (ph_I h 136) (ph_I h 135) k 492))
theorem ct_X7_restore (G : Gx) (l : Launch) (h : PH) {k : Int} (gk : pR k) (hm : MF h) (hk : ∀ j, pR (ph_I h 137 j)) : CT_X7_restore G l [.inr 134, .inl k] h (pqRes h k) := by
  obtain ⟨⟨mt0, mr0, mr1, mr2, mr3, mr8, mr9, mr10⟩, ⟨mt1, mt2, mt3, mt4, mt5, mt6, mt7⟩, ⟨ml1, ml2, ml3, ml4, ml5, ml6, ml7⟩⟩ := id hm
  refine ct_intro rfl (Nat.le_of_ble_eq_true rfl) (fun X hX C => ?_)
  refine B_X7_restore_0 C (hM := ct_X7_in _ _ _) (kk := fun rr h' hq => ?_)
  obtain ⟨rfl, ⟨rfl, c1⟩ | ⟨rfl, c1⟩⟩ := hq
  · refine B_X7_restore_6 C (kt := fun c => ?_) (kf := fun c => absurd c (by decide))
    refine B_X7_restore_12 C (q10 := hk _) (kt := fun c0 => ?_) (kf := fun c0 => ?_)
    · refine B_X7_restore_24 C (kk := ?_)
      have key : ∀ (m i : Nat), i + m = 492 → PW G X 3 (pw_E G X (pqRes h k) 0 0) 0 0 26 [some (.inr 134), some (.inl k), some (.inl i)] [] (ph_rowI h 135 (resF (ph_I h 136) (ph_I h 135) k i)) := by
        intro m
        induction m with
        | zero =>
          intro i hi
          have e : i = 492 := by omega
          subst e
          refine B_X7_restore_26 C (kt := fun c2 => ?_) (kf := fun c2 => by omega)
          exact B_X7_restore_57 C (hq := Or.inr (Or.inr ⟨c1, c0, rfl, rfl⟩))
        | succ m ih =>
          intro i hi
          obtain ⟨⟨xt0, xr0, xr1, xr2, xr3, xr8, xr9, xr10⟩, ⟨xt1, xt2, xt3, xt4, xt5, xt6, xt7⟩, ⟨xl1, xl2, xl3, xl4, xl5, xl6, xl7⟩⟩ := (show MF (ph_rowI h 135 (resF (ph_I h 136) (ph_I h 135) k i)) from hm)
          have nx := ih (i + 1) (by omega)
          have e1 : ((i + 1 : Nat) : Int) = (i : Int) + 1 := by omega
          rw [e1, ← resF_s, ← set_up] at nx
          refine B_X7_restore_26 C (kt := fun c2 => by omega) (kf := fun c2 => ?_)
          refine B_X7_restore_33 C (r2 := 135) (r5 := 136) (x11 := ph_I h 136 (Int.toNat ((492 * k) + (i : Int)))) (e12 := rfl) (kk := ?_)
          rw [show Int.toNat (i : Int) = i by omega]
          exact nx
      have := key 492 0 (by omega)
      rw [resF_0, ph_row_id] at this
      exact this
    · exact B_X7_restore_21 C (hq := Or.inr (Or.inl ⟨c1, c0, rfl, rfl⟩))
  · refine B_X7_restore_6 C (kt := fun c => absurd rfl c) (kf := fun c => ?_)
    exact B_X7_restore_9 C (hq := Or.inl ⟨c1, rfl, rfl⟩)
