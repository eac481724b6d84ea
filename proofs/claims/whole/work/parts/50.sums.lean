/-! the reference: sums, the next pass of a round -/
def sSum (g : Nat → Int) : Nat → Int
  | 0 => 0
  | n + 1 => sSum g n + g n
def gTak (st : ST) (i : Nat) : Int := if st (Int.toNat (24 + (i : Int))) < 0 then 0 else 1
def gPts (st : ST) (i : Nat) : Int := st (Int.toNat (16 + (i : Int)))
def gLks (st : ST) (i : Nat) : Int := st (Int.toNat (316 + (i : Int)))
def gUnl (st : ST) (i : Nat) : Int := if st (Int.toNat (316 + (i : Int))) ≤ 0 then 0 else 1
theorem ct_X7_takenOnes (G : Gx) (l : Launch) (h : PH) (hm : MF h) (hb : ∀ j, pR (ph_I h 135 j)) (h0 : 0 ≤ ph_I h 135 484) (h8 : ph_I h 135 484 ≤ 8) : CT_X7_takenOnes G l [.inr 134] h (pqI (sSum (gTak (ph_I h 135)) (Int.toNat (ph_I h 135 484))) h) := by
  obtain ⟨⟨mt0, mr0, mr1, mr2, mr3, mr8, mr9, mr10⟩, ⟨mt1, mt2, mt3, mt4, mt5, mt6, mt7⟩, ⟨ml1, ml2, ml3, ml4, ml5, ml6, ml7⟩⟩ := id hm
  refine ct_intro rfl (Nat.le_of_ble_eq_true rfl) (fun X hX C => ?_)
  refine B_X7_takenOnes_0 C (kk := ?_)
  have key : ∀ (m k : Nat), (k : Int) + m = ph_I h 135 484 → PW G X 3 (pw_E G X (pqI (sSum (gTak (ph_I h 135)) (Int.toNat (ph_I h 135 484))) h) 0 0) 0 0 4 [some (.inr 134), some (.inl (sSum (gTak (ph_I h 135)) k)), some (.inl k)] [] h := by
    intro m
    induction m with
    | zero =>
      intro k hk
      refine B_X7_takenOnes_4 C (kt := fun c1 => ?_) (kf := fun c1 => by omega)
      have e : k = Int.toNat (ph_I h 135 484) := by omega
      rw [e]
      exact B_X7_takenOnes_42 C (hq := ⟨rfl, rfl⟩)
    | succ m ih =>
      intro k hk
      have nx := ih (k + 1) (by omega)
      have e1 : ((k + 1 : Nat) : Int) = (k : Int) + 1 := by omega
      rw [e1] at nx
      refine B_X7_takenOnes_4 C (kt := fun c1 => by omega) (kf := fun c1 => ?_)
      refine B_X7_takenOnes_16 C (q10 := hb _) (kt := fun c2 => ?_) (kf := fun c2 => ?_)
      · refine B_X7_takenOnes_33 C (kk := ?_)
        refine B_X7_takenOnes_34 C (kk := ?_)
        rw [sSum, gTak, if_pos c2] at nx
        exact nx
      · refine B_X7_takenOnes_29 C (kk := ?_)
        refine B_X7_takenOnes_34 C (kk := ?_)
        rw [sSum, gTak, if_neg c2] at nx
        exact nx
  exact key (Int.toNat (ph_I h 135 484)) 0 (by omega)
theorem ct_X7_pointsOfAll (G : Gx) (l : Launch) (h : PH) (hm : MF h) (hb : ∀ j, pR (ph_I h 135 j)) (h0 : 0 ≤ ph_I h 135 484) (h8 : ph_I h 135 484 ≤ 8) : CT_X7_pointsOfAll G l [.inr 134] h (pqI (sSum (gPts (ph_I h 135)) (Int.toNat (ph_I h 135 484))) h) := by
  obtain ⟨⟨mt0, mr0, mr1, mr2, mr3, mr8, mr9, mr10⟩, ⟨mt1, mt2, mt3, mt4, mt5, mt6, mt7⟩, ⟨ml1, ml2, ml3, ml4, ml5, ml6, ml7⟩⟩ := id hm
  refine ct_intro rfl (Nat.le_of_ble_eq_true rfl) (fun X hX C => ?_)
  refine B_X7_pointsOfAll_0 C (kk := ?_)
  have key : ∀ (m k : Nat), (k : Int) + m = ph_I h 135 484 → PW G X 3 (pw_E G X (pqI (sSum (gPts (ph_I h 135)) (Int.toNat (ph_I h 135 484))) h) 0 0) 0 0 4 [some (.inr 134), some (.inl (sSum (gPts (ph_I h 135)) k)), some (.inl k)] [] h := by
    intro m
    induction m with
    | zero =>
      intro k hk
      refine B_X7_pointsOfAll_4 C (kt := fun c1 => ?_) (kf := fun c1 => by omega)
      have e : k = Int.toNat (ph_I h 135 484) := by omega
      rw [e]
      exact B_X7_pointsOfAll_34 C (hq := ⟨rfl, rfl⟩)
    | succ m ih =>
      intro k hk
      have nx := ih (k + 1) (by omega)
      have e1 : ((k + 1 : Nat) : Int) = (k : Int) + 1 := by omega
      rw [e1] at nx
      refine B_X7_pointsOfAll_4 C (kt := fun c1 => by omega) (kf := fun c1 => ?_)
      exact B_X7_pointsOfAll_16 C (kk := nx)
  exact key (Int.toNat (ph_I h 135 484)) 0 (by omega)
theorem ct_X7_looks (G : Gx) (l : Launch) (h : PH) {fl : Int} (hm : MF h) (hb : ∀ j, pR (ph_I h 135 j)) (f0 : fl = 0 ∨ fl = 1) : CT_X7_looks G l [.inr 134, .inl fl] h (pqI (sSum (if fl = 0 then gLks (ph_I h 135) else gUnl (ph_I h 135)) 168) h) := by
  obtain ⟨⟨mt0, mr0, mr1, mr2, mr3, mr8, mr9, mr10⟩, ⟨mt1, mt2, mt3, mt4, mt5, mt6, mt7⟩, ⟨ml1, ml2, ml3, ml4, ml5, ml6, ml7⟩⟩ := id hm
  refine ct_intro rfl (Nat.le_of_ble_eq_true rfl) (fun X hX C => ?_)
  refine B_X7_looks_0 C (kk := ?_)
  have key : ∀ (m k : Nat), k + m = 168 → PW G X 4 (pw_E G X (pqI (sSum (if fl = 0 then gLks (ph_I h 135) else gUnl (ph_I h 135)) 168) h) 0 0) 0 0 4 [some (.inr 134), some (.inl fl), some (.inl (sSum (if fl = 0 then gLks (ph_I h 135) else gUnl (ph_I h 135)) k)), some (.inl k)] [] h := by
    intro m
    induction m with
    | zero =>
      intro k hk
      have e : k = 168 := by omega
      subst e
      refine B_X7_looks_4 C (kt := fun c1 => ?_) (kf := fun c1 => by omega)
      exact B_X7_looks_55 C (hq := ⟨rfl, rfl⟩)
    | succ m ih =>
      intro k hk
      have nx := ih (k + 1) (by omega)
      have e1 : ((k + 1 : Nat) : Int) = (k : Int) + 1 := by omega
      have e2 : sSum (if fl = 0 then gLks (ph_I h 135) else gUnl (ph_I h 135)) (k + 1) = sSum (if fl = 0 then gLks (ph_I h 135) else gUnl (ph_I h 135)) k + (if fl = 0 then gLks (ph_I h 135) else gUnl (ph_I h 135)) k := rfl
      rw [e1, e2] at nx
      refine B_X7_looks_4 C (kt := fun c1 => by omega) (kf := fun c1 => ?_)
      refine B_X7_looks_11 C (kt := fun c2 => ?_) (kf := fun c2 => ?_)
      · refine B_X7_looks_37 C (kk := ?_)
        refine B_X7_looks_47 C (kk := ?_)
        have e3 : (if fl = 0 then gLks (ph_I h 135) else gUnl (ph_I h 135)) k = ph_I h 135 (Int.toNat (316 + (k : Int))) := by rw [if_pos c2]; rfl
        rw [e3] at nx
        exact nx
      · refine B_X7_looks_16 C (q10 := hb _) (kt := fun c3 => ?_) (kf := fun c3 => ?_)
        · refine B_X7_looks_33 C (kk := ?_)
          refine B_X7_looks_47 C (kk := ?_)
          have e3 : (if fl = 0 then gLks (ph_I h 135) else gUnl (ph_I h 135)) k = 0 := by rw [if_neg c2, gUnl, if_pos c3]
          rw [e3] at nx
          exact nx
        · refine B_X7_looks_29 C (kk := ?_)
          refine B_X7_looks_47 C (kk := ?_)
          have e3 : (if fl = 0 then gLks (ph_I h 135) else gUnl (ph_I h 135)) k = 1 := by rw [if_neg c2, gUnl, if_neg c3]
          rw [e3] at nx
          exact nx
  exact key 168 0 (by omega)
def sNxC (st : ST) (beg beh fd : Int) (i : Nat) : Prop := (0 < st (Int.toNat (16 + (i : Int))) ∧ st (Int.toNat (24 + (i : Int))) < 0) ∧ (beg < st (Int.toNat (8 + (i : Int))) ∨ (st (Int.toNat (8 + (i : Int))) = beg ∧ beh < i)) ∧ (fd < 0 ∨ st (Int.toNat (8 + (i : Int))) < st (Int.toNat (8 + fd)))
noncomputable def sNx (st : ST) (beg beh : Int) : Nat → Int
  | 0 => -6
  | i + 1 => @ite _ (sNxC st beg beh (sNx st beg beh i) i) (Classical.propDecidable _) (i : Int) (sNx st beg beh i)
theorem sNx_p {st : ST} {beg beh : Int} {i : Nat} (h : sNxC st beg beh (sNx st beg beh i) i) : sNx st beg beh (i + 1) = i := if_pos h
theorem sNx_n {st : ST} {beg beh : Int} {i : Nat} (h : ¬ sNxC st beg beh (sNx st beg beh i) i) : sNx st beg beh (i + 1) = sNx st beg beh i := if_neg h
theorem sNx_b {st : ST} {beg beh : Int} : ∀ i : Nat, sNx st beg beh i = -6 ∨ (0 ≤ sNx st beg beh i ∧ sNx st beg beh i < i)
  | 0 => Or.inl rfl
  | i + 1 => by
    by_cases q : sNxC st beg beh (sNx st beg beh i) i
    · rw [sNx_p q]; omega
    · rw [sNx_n q]; have := sNx_b (st := st) (beg := beg) (beh := beh) i; omega
theorem ct_X7_nextPass (G : Gx) (l : Launch) (h : PH) {beg beh : Int} (hm : MF h) (hb : ∀ j, pR (ph_I h 135 j)) (h0 : 0 ≤ ph_I h 135 484) (h8 : ph_I h 135 484 ≤ 8) (g1 : pR beg) (g2 : pR beh) : CT_X7_nextPass G l [.inr 134, .inl beg, .inl beh] h (pqI (sNx (ph_I h 135) beg beh (Int.toNat (ph_I h 135 484))) h) := by
  obtain ⟨⟨mt0, mr0, mr1, mr2, mr3, mr8, mr9, mr10⟩, ⟨mt1, mt2, mt3, mt4, mt5, mt6, mt7⟩, ⟨ml1, ml2, ml3, ml4, ml5, ml6, ml7⟩⟩ := id hm
  refine ct_intro rfl (Nat.le_of_ble_eq_true rfl) (fun X hX C => ?_)
  refine B_X7_nextPass_0 C (kk := ?_)
  have key : ∀ (m k : Nat), (k : Int) + m = ph_I h 135 484 → PW G X 7 (pw_E G X (pqI (sNx (ph_I h 135) beg beh (Int.toNat (ph_I h 135 484))) h) 0 0) 0 0 6 [some (.inr 134), some (.inl beg), some (.inl beh), some (.inl (sNx (ph_I h 135) beg beh k)), some (.inl k), none, none] [] h := by
    intro m
    induction m with
    | zero =>
      intro k hk
      have sb := sNx_b (st := ph_I h 135) (beg := beg) (beh := beh) k
      refine B_X7_nextPass_6 C (kt := fun c1 => ?_) (kf := fun c1 => by omega)
      have e : k = Int.toNat (ph_I h 135 484) := by omega
      rw [e]
      exact B_X7_nextPass_101 C (hq := ⟨rfl, rfl⟩)
    | succ m ih =>
      intro k hk
      have sb := sNx_b (st := ph_I h 135) (beg := beg) (beh := beh) k
      have nx := ih (k + 1) (by omega)
      have e1 : ((k + 1 : Nat) : Int) = (k : Int) + 1 := by omega
      rw [e1] at nx
      refine B_X7_nextPass_6 C (kt := fun c1 => by omega) (kf := fun c1 => ?_)
      have no : ¬ sNxC (ph_I h 135) beg beh (sNx (ph_I h 135) beg beh k) k → ∀ a5 a6 : Int, PW G X 7 (pw_E G X (pqI (sNx (ph_I h 135) beg beh (Int.toNat (ph_I h 135 484))) h) 0 0) 0 0 93 [some (.inr 134), some (.inl beg), some (.inl beh), some (.inl (sNx (ph_I h 135) beg beh k)), some (.inl k), some (.inl a5), some (.inl a6)] [] h := by
        intro q a5 a6
        refine B_X7_nextPass_93 C (kk := ?_)
        refine B_X7_nextPass_94 C (kk := ?_)
        rw [sNx_n q] at nx
        exact nx
      have yes : sNxC (ph_I h 135) beg beh (sNx (ph_I h 135) beg beh k) k → ∀ a5 a6 : Int, PW G X 7 (pw_E G X (pqI (sNx (ph_I h 135) beg beh (Int.toNat (ph_I h 135 484))) h) 0 0) 0 0 88 [some (.inr 134), some (.inl beg), some (.inl beh), some (.inl (sNx (ph_I h 135) beg beh k)), some (.inl k), some (.inl a5), some (.inl a6)] [] h := by
        intro q a5 a6
        refine B_X7_nextPass_88 C (kk := ?_)
        refine B_X7_nextPass_94 C (kk := ?_)
        rw [sNx_p q] at nx
        exact nx
      have lat : ∀ b : Int, (b = 1 ∧ (beg < ph_I h 135 (Int.toNat (8 + (k : Int))) ∨ (ph_I h 135 (Int.toNat (8 + (k : Int))) = beg ∧ beh < k))) ∨ (b = 0 ∧ ¬ (beg < ph_I h 135 (Int.toNat (8 + (k : Int))) ∨ (ph_I h 135 (Int.toNat (8 + (k : Int))) = beg ∧ beh < k))) → PW G X 7 (pw_E G X (pqI (sNx (ph_I h 135) beg beh (Int.toNat (ph_I h 135 484))) h) 0 0) 0 0 54 [some (.inr 134), some (.inl beg), some (.inl beh), some (.inl (sNx (ph_I h 135) beg beh k)), some (.inl k), some (.inl (ph_I h 135 (Int.toNat (8 + (k : Int))))), none] [.inl b] h := by
        intro b hbb
        refine B_X7_nextPass_54 C (hM := ct_X7_isOpen _ _ _ hm hb) (kk := fun rr h' hq => ?_)
        obtain ⟨rfl, ⟨rfl, c2⟩ | ⟨rfl, c2⟩⟩ := hq
        · refine B_X7_nextPass_62 C (kt := fun c3 => absurd c3 (by decide)) (kf := fun c3 => ?_)
          refine B_X7_nextPass_65 C (kt := fun c4 => ?_) (kf := fun c4 => ?_)
          · exact no (fun z => by have := z.2.1; omega) _ _
          · have hl : beg < ph_I h 135 (Int.toNat (8 + (k : Int))) ∨ (ph_I h 135 (Int.toNat (8 + (k : Int))) = beg ∧ beh < k) := by
              rcases hbb with ⟨-, z⟩ | ⟨z, -⟩
              · exact z
              · exact absurd z c4
            refine B_X7_nextPass_70 C (kt := fun c5 => ?_) (kf := fun c5 => ?_)
            · exact yes ⟨c2, hl, Or.inl c5⟩ _ _
            · refine B_X7_nextPass_74 C (q10 := hb _) (q11 := hb _) (kt := fun c6 => ?_) (kf := fun c6 => ?_)
              · exact no (fun z => by have := z.2.2; omega) _ _
              · exact yes ⟨c2, hl, Or.inr (by omega)⟩ _ _
        · refine B_X7_nextPass_62 C (kt := fun c3 => ?_) (kf := fun c3 => absurd c3 (by decide))
          exact no (fun z => c2 z.1) _ _
      refine B_X7_nextPass_19 C (q10 := hb _) (kt := fun c2 => ?_) (kf := fun c2 => ?_)
      · refine B_X7_nextPass_49 C (kk := ?_)
        exact lat 1 (Or.inl ⟨rfl, Or.inl c2⟩)
      · refine B_X7_nextPass_37 C (q1 := hb _) (kt := fun c3 => ?_) (kf := fun c3 => ?_)
        · refine B_X7_nextPass_53 C (kk := ?_)
          exact lat 0 (Or.inr ⟨rfl, by omega⟩)
        · refine B_X7_nextPass_43 C (kt := fun c4 => ?_) (kf := fun c4 => ?_)
          · refine B_X7_nextPass_53 C (kk := ?_)
            exact lat 0 (Or.inr ⟨rfl, by omega⟩)
          · refine B_X7_nextPass_49 C (kk := ?_)
            exact lat 1 (Or.inl ⟨rfl, Or.inr ⟨c3, by omega⟩⟩)
  exact key (Int.toNat (ph_I h 135 484)) 0 (by omega)
