/-! the reference: drop -/
def drA (s : Nat → Int) (p k m1 m2 : Nat) (j : Nat) : Int :=
  if j < 40 then (if (p ≤ j % 8 ∧ j % 8 < k) ∨ (j % 8 = k ∧ j / 8 < m1) then s (j + 1) else s j)
  else if j < 168 then (if (p ≤ (j - 40) / 16 ∧ (j - 40) / 16 < k) ∨ ((j - 40) / 16 = k ∧ (j - 40) % 16 < m2) then s (j + 16) else s j)
  else if j < 296 then (if (p ≤ (j - 168) / 16 ∧ (j - 168) / 16 < k) ∨ ((j - 168) / 16 = k ∧ (j - 168) % 16 < m2) then s (j + 16) else s j)
  else s j
theorem drA_1 {s : Nat → Int} {p k m : Nat} (hk : k ≤ 6) (hm : m < 5) : up (drA s p k m 0) (8 * m + k) (s (8 * m + k + 1)) = drA s p k (m + 1) 0 := by
  funext j
  unfold up
  by_cases q : j = 8 * m + k
  · subst q
    rw [if_pos rfl]
    unfold drA
    rw [if_pos (by omega), if_pos (by omega)]
  · rw [if_neg q]
    unfold drA
    by_cases a : j < 40
    · rw [if_pos a, if_pos a]
      by_cases b : (p ≤ j % 8 ∧ j % 8 < k) ∨ (j % 8 = k ∧ j / 8 < m)
      · rw [if_pos b, if_pos (by omega)]
      · rw [if_neg b, if_neg (by omega)]
    · rw [if_neg a, if_neg a]
theorem drA_2 {s : Nat → Int} {p k m : Nat} (hk : k ≤ 6) (hm : m < 16) : up (up (drA s p k 5 m) (40 + 16 * k + m) (s (40 + 16 * k + m + 16))) (168 + 16 * k + m) (s (168 + 16 * k + m + 16)) = drA s p k 5 (m + 1) := by
  funext j
  unfold up
  by_cases q : j = 168 + 16 * k + m
  · subst q
    rw [if_pos rfl]
    unfold drA
    rw [if_neg (by omega), if_neg (by omega), if_pos (by omega), if_pos (by omega)]
  · rw [if_neg q]
    by_cases q2 : j = 40 + 16 * k + m
    · subst q2
      rw [if_pos rfl]
      unfold drA
      rw [if_neg (by omega), if_pos (by omega), if_pos (by omega)]
    · rw [if_neg q2]
      unfold drA
      by_cases a : j < 40
      · rw [if_pos a, if_pos a]
      · rw [if_neg a, if_neg a]
        by_cases a2 : j < 168
        · rw [if_pos a2, if_pos a2]
          by_cases b : (p ≤ (j - 40) / 16 ∧ (j - 40) / 16 < k) ∨ ((j - 40) / 16 = k ∧ (j - 40) % 16 < m)
          · rw [if_pos b, if_pos (by omega)]
          · rw [if_neg b, if_neg (by omega)]
        · rw [if_neg a2, if_neg a2]
          by_cases a3 : j < 296
          · rw [if_pos a3, if_pos a3]
            by_cases b : (p ≤ (j - 168) / 16 ∧ (j - 168) / 16 < k) ∨ ((j - 168) / 16 = k ∧ (j - 168) % 16 < m)
            · rw [if_pos b, if_pos (by omega)]
            · rw [if_neg b, if_neg (by omega)]
          · rw [if_neg a3, if_neg a3]
theorem drA_3 {s : Nat → Int} {p k : Nat} (hk : k ≤ 6) (hp : p ≤ k) : drA s p k 5 16 = drA s p (k + 1) 0 0 := by
  funext j
  unfold drA
  by_cases a : j < 40
  · rw [if_pos a, if_pos a]
    by_cases b : (p ≤ j % 8 ∧ j % 8 < k) ∨ (j % 8 = k ∧ j / 8 < 5)
    · rw [if_pos b, if_pos (by omega)]
    · rw [if_neg b, if_neg (by omega)]
  · rw [if_neg a, if_neg a]
    by_cases a2 : j < 168
    · rw [if_pos a2, if_pos a2]
      by_cases b : (p ≤ (j - 40) / 16 ∧ (j - 40) / 16 < k) ∨ ((j - 40) / 16 = k ∧ (j - 40) % 16 < 16)
      · rw [if_pos b, if_pos (by omega)]
      · rw [if_neg b, if_neg (by omega)]
    · rw [if_neg a2, if_neg a2]
      by_cases a3 : j < 296
      · rw [if_pos a3, if_pos a3]
        by_cases b : (p ≤ (j - 168) / 16 ∧ (j - 168) / 16 < k) ∨ ((j - 168) / 16 = k ∧ (j - 168) % 16 < 16)
        · rw [if_pos b, if_pos (by omega)]
        · rw [if_neg b, if_neg (by omega)]
      · rw [if_neg a3, if_neg a3]
theorem drA_0 {s : Nat → Int} {p : Nat} : drA s p p 0 0 = s := by
  funext j
  unfold drA
  split
  · rw [if_neg (by omega)]
  · split
    · rw [if_neg (by omega)]
    · split
      · rw [if_neg (by omega)]
      · rfl
theorem drA_hi {s : Nat → Int} {p k m1 m2 j : Nat} (h : 296 ≤ j) : drA s p k m1 m2 j = s j := by
  unfold drA
  rw [if_neg (by omega), if_neg (by omega), if_neg (by omega)]
theorem drA_r1 {s : Nat → Int} {p k m : Nat} (hk : k ≤ 6) (hm : m < 5) : drA s p k m 0 (8 * m + k + 1) = s (8 * m + k + 1) := by
  unfold drA
  rw [if_pos (by omega), if_neg (by omega)]
theorem drA_r2 {s : Nat → Int} {p k m : Nat} (hk : k ≤ 6) (hm : m < 16) : drA s p k 5 m (40 + 16 * k + m + 16) = s (40 + 16 * k + m + 16) := by
  unfold drA
  rw [if_neg (by omega), if_pos (by omega), if_neg (by omega)]
theorem drA_r3 {s : Nat → Int} {p k m : Nat} (hk : k ≤ 6) (hm : m < 16) : drA s p k 5 m (168 + 16 * k + m + 16) = s (168 + 16 * k + m + 16) := by
  unfold drA
  rw [if_neg (by omega), if_neg (by omega), if_pos (by omega), if_neg (by omega)]
def mDrop (st : ST) (nm : Int) : RS := if pOf st nm < 0 then (-1, st) else (st 484 - 1, drA (up st 484 (st 484 - 1)) (Int.toNat (pOf st nm)) (Int.toNat (st 484 - 1)) 0 0)
theorem lp_X7_drop {G : Gx} {X : Cx} {Q : State → Prop} {h : PH} {nm mm : Int} {s : Nat → Int} {p : Nat} (C : CX_X7_drop G X) (hm : MF h) (h484 : s 484 = mm) (m0 : 0 ≤ mm ∧ mm ≤ 7)
    (K : PW G X 5 Q 0 0 164 [some (.inr 134), some (.inl nm), some (.inl p), some (.inl mm), none] [] (ph_rowI h 135 (drA s p (Int.toNat mm) 0 0))) :
    ∀ (q k : Nat), (k : Int) + q = mm → p ≤ k → PW G X 5 Q 0 0 26 [some (.inr 134), some (.inl nm), some (.inl p), some (.inl k), none] [] (ph_rowI h 135 (drA s p k 0 0)) := by
  intro q
  induction q with
  | zero =>
    intro k hk hp
    obtain ⟨⟨xt0, xr0, xr1, xr2, xr3, xr8, xr9, xr10⟩, ⟨xt1, xt2, xt3, xt4, xt5, xt6, xt7⟩, ⟨xl1, xl2, xl3, xl4, xl5, xl6, xl7⟩⟩ := (show MF (ph_rowI h 135 (drA s p k 0 0)) from hm)
    refine B_X7_drop_26 C (r2 := 135) (x8 := mm) (e9 := (drA_hi (p := p) (k := k) (m1 := 0) (m2 := 0) (by omega)).trans h484) (kt := fun c1 => ?_) (kf := fun c1 => by omega)
    have e : k = Int.toNat mm := by omega
    have e2 : (k : Int) = mm := by omega
    rw [e2, e]
    exact K
  | succ q ih =>
    intro k hk hp
    obtain ⟨⟨xt0, xr0, xr1, xr2, xr3, xr8, xr9, xr10⟩, ⟨xt1, xt2, xt3, xt4, xt5, xt6, xt7⟩, ⟨xl1, xl2, xl3, xl4, xl5, xl6, xl7⟩⟩ := (show MF (ph_rowI h 135 (drA s p k 0 0)) from hm)
    have nx := ih (k + 1) (by omega) (by omega)
    have e1 : ((k + 1 : Nat) : Int) = (k : Int) + 1 := by omega
    rw [e1] at nx
    refine B_X7_drop_26 C (r2 := 135) (x8 := mm) (e9 := (drA_hi (p := p) (k := k) (m1 := 0) (m2 := 0) (by omega)).trans h484) (kt := fun c1 => by omega) (kf := fun c1 => ?_)
    refine B_X7_drop_38 C (kk := ?_)
    have lp2 : ∀ (u m : Nat), m + u = 16 → PW G X 5 Q 0 0 77 [some (.inr 134), some (.inl nm), some (.inl p), some (.inl k), some (.inl m)] [] (ph_rowI h 135 (drA s p k 5 m)) := by
      intro u
      induction u with
      | zero =>
        intro m hu
        have e : m = 16 := by omega
        subst e
        refine B_X7_drop_77 C (kt := fun c2 => ?_) (kf := fun c2 => by omega)
        refine B_X7_drop_158 C (kk := ?_)
        rw [drA_3 (by omega) hp]
        exact nx
      | succ u ihu =>
        intro m hu
        obtain ⟨⟨xt0, xr0, xr1, xr2, xr3, xr8, xr9, xr10⟩, ⟨xt1, xt2, xt3, xt4, xt5, xt6, xt7⟩, ⟨xl1, xl2, xl3, xl4, xl5, xl6, xl7⟩⟩ := (show MF (ph_rowI h 135 (drA s p k 5 m)) from hm)
        have n2 := ihu (m + 1) (by omega)
        have e2 : ((m + 1 : Nat) : Int) = (m : Int) + 1 := by omega
        rw [e2, ← drA_2 (by omega) (by omega), ← set_up, ← set_up] at n2
        have i1 : Int.toNat ((40 + (16 * (k : Int))) + m) = 40 + 16 * k + m := by omega
        have i2 : Int.toNat ((168 + (16 * (k : Int))) + m) = 168 + 16 * k + m := by omega
        have i3 : Int.toNat (((40 + (16 * (k : Int))) + 16) + m) = 40 + 16 * k + m + 16 := by omega
        have i4 : Int.toNat (((168 + (16 * (k : Int))) + 16) + m) = 168 + 16 * k + m + 16 := by omega
        refine B_X7_drop_77 C (kt := fun c2 => by omega) (kf := fun c2 => ?_)
        refine B_X7_drop_84 C (r2 := 135) (r5 := 135) (r19 := 135) (r22 := 135) (x11 := s (40 + 16 * k + m + 16)) (e12 := by rw [i3]; exact drA_r2 (by omega) (by omega)) (x28 := s (168 + 16 * k + m + 16)) (e29 := by rw [i1, i4, gI_ne (by omega)]; exact drA_r3 (by omega) (by omega)) (kk := ?_)
        rw [i1, i2]
        exact n2
    have lp1 : ∀ (u m : Nat), m + u = 5 → PW G X 5 Q 0 0 41 [some (.inr 134), some (.inl nm), some (.inl p), some (.inl k), some (.inl (8 * (m : Int)))] [] (ph_rowI h 135 (drA s p k m 0)) := by
      intro u
      induction u with
      | zero =>
        intro m hu
        have e : m = 5 := by omega
        subst e
        refine B_X7_drop_41 C (kt := fun c2 => ?_) (kf := fun c2 => by omega)
        refine B_X7_drop_74 C (kk := ?_)
        exact lp2 16 0 (by omega)
      | succ u ihu =>
        intro m hu
        obtain ⟨⟨xt0, xr0, xr1, xr2, xr3, xr8, xr9, xr10⟩, ⟨xt1, xt2, xt3, xt4, xt5, xt6, xt7⟩, ⟨xl1, xl2, xl3, xl4, xl5, xl6, xl7⟩⟩ := (show MF (ph_rowI h 135 (drA s p k m 0)) from hm)
        have n2 := ihu (m + 1) (by omega)
        have e2 : 8 * ((m + 1 : Nat) : Int) = 8 * (m : Int) + 8 := by omega
        rw [e2, ← drA_1 (by omega) (by omega), ← set_up] at n2
        have i1 : Int.toNat ((8 * (m : Int)) + k) = 8 * m + k := by omega
        have i3 : Int.toNat (((8 * (m : Int)) + k) + 1) = 8 * m + k + 1 := by omega
        refine B_X7_drop_41 C (kt := fun c2 => by omega) (kf := fun c2 => ?_)
        refine B_X7_drop_48 C (r2 := 135) (r5 := 135) (x11 := s (8 * m + k + 1)) (e12 := by rw [i3]; exact drA_r1 (by omega) (by omega)) (kk := ?_)
        rw [i1]
        exact n2
    exact lp1 5 0 (by omega)
theorem ct_X7_drop (G : Gx) (l : Launch) (h : PH) {nm : Int} (gnm : pR nm) (hm : MF h) (hS : OkS (ph_I h 135)) : CT_X7_drop G l [.inr 134, .inl nm] h (pqM (mDrop (ph_I h 135) nm) h) := by
  obtain ⟨⟨mt0, mr0, mr1, mr2, mr3, mr8, mr9, mr10⟩, ⟨mt1, mt2, mt3, mt4, mt5, mt6, mt7⟩, ⟨ml1, ml2, ml3, ml4, ml5, ml6, ml7⟩⟩ := id hm
  obtain ⟨hs, hb, hmany, hD, hPp⟩ := id hS
  have hpb := pOf_b (st := ph_I h 135) nm hmany.1
  refine ct_intro rfl (Nat.le_of_ble_eq_true rfl) (fun X hX C => ?_)
  refine B_X7_drop_0 C (hM := (show CT_X7_passOf G X.2.1 [.inr 134, .inl nm] h (pqI (pOf (ph_I h 135) nm) h) from ct_X7_passOf _ _ _ hm gnm hb hmany.1 hmany.2)) (kk := fun rr h' hq => ?_)
  obtain ⟨rfl, rfl⟩ := hq
  refine B_X7_drop_5 C (kt := fun c1 => ?_) (kf := fun c1 => ?_)
  · refine B_X7_drop_12 C (kk := ?_)
    have ep : ((Int.toNat (pOf (ph_I h 135) nm) : Nat) : Int) = (pOf (ph_I h 135) nm) := by omega
    have key := lp_X7_drop (X := X) (Q := pw_E G X (pqM (mDrop (ph_I h 135) nm) h) 0 0) (nm := nm) (mm := ph_I h 135 484 - 1) (s := up (ph_I h 135) 484 (ph_I h 135 484 - 1)) (p := Int.toNat (pOf (ph_I h 135) nm)) C hm (if_pos rfl) (by omega) ?_ (Int.toNat (ph_I h 135 484 - 1 - (pOf (ph_I h 135) nm))) (Int.toNat (pOf (ph_I h 135) nm)) (by omega) (by omega)
    · rw [drA_0, ep, ← set_row] at key
      exact key
    · rw [ep]
      obtain ⟨⟨xt0, xr0, xr1, xr2, xr3, xr8, xr9, xr10⟩, ⟨xt1, xt2, xt3, xt4, xt5, xt6, xt7⟩, ⟨xl1, xl2, xl3, xl4, xl5, xl6, xl7⟩⟩ := (show MF (ph_rowI h 135 (drA (up (ph_I h 135) 484 (ph_I h 135 484 - 1)) (Int.toNat (pOf (ph_I h 135) nm)) (Int.toNat (ph_I h 135 484 - 1)) 0 0)) from hm)
      refine B_X7_drop_164 C (r2 := 135) (x8 := ph_I h 135 484 - 1) (e9 := (drA_hi (s := up (ph_I h 135) 484 (ph_I h 135 484 - 1)) (p := Int.toNat (pOf (ph_I h 135) nm)) (k := Int.toNat (ph_I h 135 484 - 1)) (m1 := 0) (m2 := 0) (by omega)).trans (if_pos rfl)) (hq := pqM_wr (by unfold mDrop; rw [if_neg (by omega)]) rfl)
  · exact B_X7_drop_10 C (hq := pqM_same (by unfold mDrop; rw [if_pos (by omega)]))
