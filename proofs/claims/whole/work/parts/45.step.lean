/-! contracts of the reference: stepFrom -/
def NoB (g : Nat → Nat → Int) (due : Int) (i j : Nat) : Prop := ∀ i' j' : Nat, j' < 3 → (i' < i ∨ (i' = i ∧ j' < j)) → g i' j' ≠ due
/-- the first move, by wind, then by height, that comes to what is due -/
def Fst (g : Nat → Nat → Int) (sp due : Int) (i j : Nat) : Prop := (i : Int) ≤ 2 * sp ∧ j < 3 ∧ g i j = due ∧ NoB g due i j
theorem Fst.uniq {g : Nat → Nat → Int} {sp due : Int} {i j i' j' : Nat} (a : Fst g sp due i j) (b : Fst g sp due i' j') : i = i' ∧ j = j' := by
  obtain ⟨a1, a2, a3, a4⟩ := a
  obtain ⟨b1, b2, b3, b4⟩ := b
  have h1 : ¬ (i < i' ∨ (i = i' ∧ j < j')) := fun q => b4 i j a2 q a3
  have h2 : ¬ (i' < i ∨ (i' = i ∧ j' < j)) := fun q => a4 i' j' b2 q b3
  omega
theorem mx_att (f : Nat → Int) : ∀ (n : Nat) (m : Int), mx f n m = m ∨ ∃ i, i < n ∧ f i = mx f n m
  | 0, m => Or.inl rfl
  | n + 1, m => by
    unfold mx
    split
    · exact Or.inr ⟨n, by omega, rfl⟩
    · rcases mx_att f n m with h | ⟨i, h1, h2⟩
      · exact Or.inl h
      · exact Or.inr ⟨i, by omega, h2⟩
theorem sMo_att (g : Nat → Nat → Int) : ∀ n : Nat, sMo g n = -1000000 ∨ ∃ i j, i < n ∧ j < 3 ∧ g i j = sMo g n
  | 0 => Or.inl rfl
  | n + 1 => by
    show mx (g n) 3 (sMo g n) = _ ∨ ∃ i j, i < n + 1 ∧ j < 3 ∧ g i j = mx (g n) 3 (sMo g n)
    rcases mx_att (g n) 3 (sMo g n) with h | ⟨j, h1, h2⟩
    · rw [h]
      rcases sMo_att g n with h | ⟨i, j, h1, h2, h3⟩
      · exact Or.inl h
      · exact Or.inr ⟨i, j, by omega, h2, h3⟩
    · exact Or.inr ⟨n, j, by omega, h1, h2⟩
theorem mx_ge (f : Nat → Int) : ∀ (n : Nat) (m : Int), m ≤ mx f n m ∧ ∀ i, i < n → f i ≤ mx f n m
  | 0, m => ⟨Int.le_refl _, fun i h => by omega⟩
  | n + 1, m => by
    have ih := mx_ge f n m
    unfold mx
    split
    · refine ⟨by omega, fun i h => ?_⟩
      by_cases q : i = n
      · subst q; omega
      · have := ih.2 i (by omega); omega
    · refine ⟨ih.1, fun i h => ?_⟩
      by_cases q : i = n
      · subst q; omega
      · exact ih.2 i (by omega)
theorem sMo_ge (g : Nat → Nat → Int) : ∀ n : Nat, -1000000 ≤ sMo g n ∧ ∀ i j, i < n → j < 3 → g i j ≤ sMo g n
  | 0 => ⟨Int.le_refl _, fun i j h => by omega⟩
  | n + 1 => by
    have ih := sMo_ge g n
    have h := mx_ge (g n) 3 (sMo g n)
    refine ⟨Int.le_trans ih.1 h.1, fun i j h1 h2 => ?_⟩
    by_cases q : i = n
    · subst q; exact h.2 j h2
    · exact Int.le_trans (ih.2 i j (by omega) h2) h.1
def pqStep (h : PH) (t w hh sp due : Int) (g : Nat → Nat → Int) : Option PV → PH → Prop := fun r h' => r = none ∧ ∃ i j : Nat, Fst g sp due i j ∧ h' = ph_setI (ph_setI h 139 (Int.toNat (t + 1)) (w - sp + i)) 140 (Int.toNat (t + 1)) (hh - 1 + j)
theorem lp_X7_step_end {G : Gx} {X : Cx} {h2 : PH} {PQ : Option PV → PH → Prop} {t due w hh sp a7 a8 : Int} (C : CX_X7_stepFrom G X) (h7 : -100 ≤ a7 ∧ a7 ≤ 100) (h8 : -100 ≤ a8 ∧ a8 ≤ 100) (hw : -100 ≤ w ∧ w ≤ 100) (hs : 0 ≤ sp ∧ sp ≤ 3) (h0 : -100 ≤ hh ∧ hh ≤ 100) (hq : PQ none h2) :
    PW G X 9 (pw_E G X PQ 0 0) 0 0 112 [some (.inr 134), some (.inl t), some (.inl due), some (.inl w), some (.inl hh), some (.inl sp), some (.inl 1), some (.inl a7), some (.inl a8)] [] h2 := by
  have e2 : PW G X 9 (pw_E G X PQ 0 0) 0 0 39 [some (.inr 134), some (.inl t), some (.inl due), some (.inl w), some (.inl hh), some (.inl sp), some (.inl 1), some (.inl (a7 + 1)), none] [] h2 := by
    refine B_X7_stepFrom_39 C (kt := fun c1 => ?_) (kf := fun c1 => ?_)
    · exact B_X7_stepFrom_124 C (hq := hq)
    · refine B_X7_stepFrom_48 C (kt := fun c2 => ?_) (kf := fun c2 => absurd c2 (by decide))
      exact B_X7_stepFrom_124 C (hq := hq)
  refine B_X7_stepFrom_112 C (kk := ?_)
  refine B_X7_stepFrom_59 C (kt := fun c1 => ?_) (kf := fun c1 => ?_)
  · exact B_X7_stepFrom_118 C (kk := e2)
  · refine B_X7_stepFrom_68 C (kt := fun c2 => ?_) (kf := fun c2 => absurd c2 (by decide))
    exact B_X7_stepFrom_118 C (kk := e2)
theorem lp_X7_step_in {G : Gx} {X : Cx} {h : PH} {d p f n t w hh due : Int} {i : Nat} {bst : Int → Int → Int} (C : CX_X7_stepFrom G X) (hm : MF h) (hs : okSky (ph_I h 135)) (hb : ∀ j, pR (ph_I h 135 j)) (hd : ph_I h 134 4 = d) (hp : ph_I h 134 5 = p) (hn : ph_I h 134 6 = n) (hf : ph_I h 134 7 = f) (d0 : 0 ≤ d ∧ d ≤ 3) (l0 : 12 ≤ ph_I h 135 (Int.toNat (308 + d)) ∧ ph_I h 135 (Int.toNat (308 + d)) ≤ 36) (sp0 : 1 ≤ ph_I h 135 (Int.toNat (312 + d)) ∧ ph_I h 135 (Int.toNat (312 + d)) ≤ 3) (p0 : 0 ≤ p ∧ p ≤ 7) (f0 : 0 ≤ f ∧ f ≤ 16) (n0 : 0 ≤ n ∧ n ≤ 16) (b0 : 0 ≤ ph_I h 135 (Int.toNat (8 + p)) ∧ ph_I h 135 (Int.toNat (8 + p)) ≤ 60) (t0 : 0 ≤ t ∧ t ≤ 78) (w0 : -36 ≤ w ∧ w ≤ 36) (h0 : 0 ≤ hh ∧ hh ≤ 6) (hbs : ∀ a b, -1100000 ≤ bst a b ∧ bst a b ≤ 1000000) (hrow : ∀ a b : Int, zabs a ≤ ph_I h 135 (Int.toNat (308 + d)) → 0 ≤ b → b ≤ 6 → ph_I h 138 (Int.toNat (511 * (t + 1) + (7 * (a + 36) + b))) = bst a b) (du : pR due) (hi : (i : Int) ≤ 2 * ph_I h 135 (Int.toNat (312 + d)))
    (K : NoB (sG (ph_I h 135) d bst w hh) due (i + 1) 0 → PW G X 9 (pw_E G X (pqStep h t w hh (ph_I h 135 (Int.toNat (312 + d))) due (sG (ph_I h 135) d bst w hh)) 0 0) 0 0 118 [some (.inr 134), some (.inl t), some (.inl due), some (.inl w), some (.inl hh), some (.inl (ph_I h 135 (Int.toNat (312 + d)))), some (.inl 0), some (.inl (w - ph_I h 135 (Int.toNat (312 + d)) + i)), some (.inl (hh + 2))] [] h) :
    ∀ (m j : Nat), j + m = 3 → NoB (sG (ph_I h 135) d bst w hh) due i j → PW G X 9 (pw_E G X (pqStep h t w hh (ph_I h 135 (Int.toNat (312 + d))) due (sG (ph_I h 135) d bst w hh)) 0 0) 0 0 59 [some (.inr 134), some (.inl t), some (.inl due), some (.inl w), some (.inl hh), some (.inl (ph_I h 135 (Int.toNat (312 + d)))), some (.inl 0), some (.inl (w - ph_I h 135 (Int.toNat (312 + d)) + i)), some (.inl (hh - 1 + j))] [] h := by
  obtain ⟨⟨tt0, r0, r1, r2, r3, r8, r9, r10⟩, ⟨t1, t2, t3, t4, t5, t6, t7⟩, ⟨l1, l2, l3, l4, l5, l6, l7⟩⟩ := id hm
  intro m
  induction m with
  | zero =>
    intro j hj hN
    have e : j = 3 := by omega
    subst e
    refine B_X7_stepFrom_59 C (kt := fun c1 => ?_) (kf := fun c1 => by omega)
    have e : hh - 1 + ((3 : Nat) : Int) = hh + 2 := by omega
    rw [e]
    exact K (fun i' j' a b => hN i' j' a (by omega))
  | succ m ih =>
    intro j hj hN
    refine B_X7_stepFrom_59 C (kt := fun c1 => by omega) (kf := fun c1 => ?_)
    refine B_X7_stepFrom_68 C (kt := fun c2 => absurd rfl c2) (kf := fun c2 => ?_)
    refine B_X7_stepFrom_73 C (hM := ct_X7_goTo _ _ _ hm hd (hbs := hbs) (hrow := hrow)) (kk := fun r1 h1 hq1 => ?_)
    obtain ⟨rfl, rfl⟩ := hq1
    have v0 : ∀ j, -1100088 ≤ sG (ph_I h 135) d bst w hh i j ∧ sG (ph_I h 135) d bst w hh i j ≤ 1000000 := fun j => sGo_b hbs (by omega) (by omega) (by omega) w0 h0
    have v1 := v0 j
    refine B_X7_stepFrom_85 C (s0 := sG (ph_I h 135) d bst w hh i j) (kt := fun c3 => ?_) (kf := fun c3 => ?_)
    · refine B_X7_stepFrom_112 C (kk := ?_)
      have := ih (j + 1) (by omega) (fun i' j' a b => by
        by_cases q : i' = i ∧ j' = j
        · rw [q.1, q.2]; exact c3
        · exact hN i' j' a (by omega))
      have e : hh - 1 + ((j + 1 : Nat) : Int) = hh - 1 + (j : Int) + 1 := by omega
      rw [e] at this
      exact this
    · refine B_X7_stepFrom_89 C (kk := ?_)
      exact lp_X7_step_end C (by omega) (by omega) (by omega) (by omega) (by omega) ⟨rfl, i, j, ⟨hi, by omega, c3, hN⟩, rfl⟩
theorem lp_X7_step_out {G : Gx} {X : Cx} {h : PH} {d p f n t w hh due : Int} {bst : Int → Int → Int} (C : CX_X7_stepFrom G X) (hm : MF h) (hs : okSky (ph_I h 135)) (hb : ∀ j, pR (ph_I h 135 j)) (hd : ph_I h 134 4 = d) (hp : ph_I h 134 5 = p) (hn : ph_I h 134 6 = n) (hf : ph_I h 134 7 = f) (d0 : 0 ≤ d ∧ d ≤ 3) (l0 : 12 ≤ ph_I h 135 (Int.toNat (308 + d)) ∧ ph_I h 135 (Int.toNat (308 + d)) ≤ 36) (sp0 : 1 ≤ ph_I h 135 (Int.toNat (312 + d)) ∧ ph_I h 135 (Int.toNat (312 + d)) ≤ 3) (p0 : 0 ≤ p ∧ p ≤ 7) (f0 : 0 ≤ f ∧ f ≤ 16) (n0 : 0 ≤ n ∧ n ≤ 16) (b0 : 0 ≤ ph_I h 135 (Int.toNat (8 + p)) ∧ ph_I h 135 (Int.toNat (8 + p)) ≤ 60) (t0 : 0 ≤ t ∧ t ≤ 78) (w0 : -36 ≤ w ∧ w ≤ 36) (h0 : 0 ≤ hh ∧ hh ≤ 6) (hbs : ∀ a b, -1100000 ≤ bst a b ∧ bst a b ≤ 1000000) (hrow : ∀ a b : Int, zabs a ≤ ph_I h 135 (Int.toNat (308 + d)) → 0 ≤ b → b ≤ 6 → ph_I h 138 (Int.toNat (511 * (t + 1) + (7 * (a + 36) + b))) = bst a b) (du : pR due) (hex : ∃ i j : Nat, (i : Int) ≤ 2 * ph_I h 135 (Int.toNat (312 + d)) ∧ j < 3 ∧ sG (ph_I h 135) d bst w hh i j = due) :
    ∀ (m i : Nat), (i : Int) + m = 2 * ph_I h 135 (Int.toNat (312 + d)) + 1 → NoB (sG (ph_I h 135) d bst w hh) due i 0 → PW G X 9 (pw_E G X (pqStep h t w hh (ph_I h 135 (Int.toNat (312 + d))) due (sG (ph_I h 135) d bst w hh)) 0 0) 0 0 39 [some (.inr 134), some (.inl t), some (.inl due), some (.inl w), some (.inl hh), some (.inl (ph_I h 135 (Int.toNat (312 + d)))), some (.inl 0), some (.inl (w - ph_I h 135 (Int.toNat (312 + d)) + i)), none] [] h := by
  intro m
  induction m with
  | zero =>
    intro i hi hN
    obtain ⟨a, b, h1, h2, h3⟩ := hex
    exact absurd h3 (hN a b h2 (by omega))
  | succ m ih =>
    intro i hi hN
    refine B_X7_stepFrom_39 C (kt := fun c1 => by omega) (kf := fun c1 => ?_)
    refine B_X7_stepFrom_48 C (kt := fun c2 => absurd rfl c2) (kf := fun c2 => ?_)
    refine B_X7_stepFrom_53 C (kk := ?_)
    have e0 : hh - 1 = hh - 1 + ((0 : Nat) : Int) := by omega
    rw [e0]
    refine lp_X7_step_in C hm hs hb hd hp hn hf d0 l0 sp0 p0 f0 n0 b0 t0 w0 h0 hbs hrow du (by omega) (fun hN' => ?_) 3 0 (by omega) hN
    refine B_X7_stepFrom_118 C (kk := ?_)
    have := ih (i + 1) (by omega) hN'
    have e : w - ph_I h 135 (Int.toNat (312 + d)) + ((i + 1 : Nat) : Int) = w - ph_I h 135 (Int.toNat (312 + d)) + (i : Int) + 1 := by omega
    rw [e] at this
    exact this
theorem ct_X7_stepFrom (G : Gx) (l : Launch) (h : PH) {d p f n t w hh due : Int} {bst : Int → Int → Int} (hm : MF h) (hs : okSky (ph_I h 135)) (hb : ∀ j, pR (ph_I h 135 j)) (hd : ph_I h 134 4 = d) (hp : ph_I h 134 5 = p) (hn : ph_I h 134 6 = n) (hf : ph_I h 134 7 = f) (d0 : 0 ≤ d ∧ d ≤ 3) (l0 : 12 ≤ ph_I h 135 (Int.toNat (308 + d)) ∧ ph_I h 135 (Int.toNat (308 + d)) ≤ 36) (sp0 : 1 ≤ ph_I h 135 (Int.toNat (312 + d)) ∧ ph_I h 135 (Int.toNat (312 + d)) ≤ 3) (p0 : 0 ≤ p ∧ p ≤ 7) (f0 : 0 ≤ f ∧ f ≤ 16) (n0 : 0 ≤ n ∧ n ≤ 16) (b0 : 0 ≤ ph_I h 135 (Int.toNat (8 + p)) ∧ ph_I h 135 (Int.toNat (8 + p)) ≤ 60) (t0 : 0 ≤ t ∧ t ≤ 78) (w0 : -36 ≤ w ∧ w ≤ 36) (h0 : 0 ≤ hh ∧ hh ≤ 6) (hbs : ∀ a b, -1100000 ≤ bst a b ∧ bst a b ≤ 1000000) (hrow : ∀ a b : Int, zabs a ≤ ph_I h 135 (Int.toNat (308 + d)) → 0 ≤ b → b ≤ 6 → ph_I h 138 (Int.toNat (511 * (t + 1) + (7 * (a + 36) + b))) = bst a b) (du : pR due) (hw : ph_I h 139 (Int.toNat t) = w) (hh' : ph_I h 140 (Int.toNat t) = hh) (hex : ∃ i j : Nat, (i : Int) ≤ 2 * ph_I h 135 (Int.toNat (312 + d)) ∧ j < 3 ∧ sG (ph_I h 135) d bst w hh i j = due) : CT_X7_stepFrom G l [.inr 134, .inl t, .inl due] h (pqStep h t w hh (ph_I h 135 (Int.toNat (312 + d))) due (sG (ph_I h 135) d bst w hh)) := by
  obtain ⟨⟨tt0, r0, r1, r2, r3, r8, r9, r10⟩, ⟨t1, t2, t3, t4, t5, t6, t7⟩, ⟨l1, l2, l3, l4, l5, l6, l7⟩⟩ := id hm
  refine ct_intro rfl (Nat.le_of_ble_eq_true rfl) (fun X hX C => ?_)
  refine B_X7_stepFrom_0 C (kk := ?_)
  have := lp_X7_step_out C hm hs hb hd hp hn hf d0 l0 sp0 p0 f0 n0 b0 t0 w0 h0 hbs hrow du hex (Int.toNat (2 * ph_I h 135 (Int.toNat (312 + d)) + 1)) 0 (by omega) (fun i' j' a b => by omega)
  have e0 : w - ph_I h 135 (Int.toNat (312 + d)) + ((0 : Nat) : Int) = w - ph_I h 135 (Int.toNat (312 + d)) := by omega
  rw [e0] at this
  exact this
