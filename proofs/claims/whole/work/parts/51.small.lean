/-! the reference: its small public calls -/
abbrev RS : Type := Int × ST
def pqM (res : RS) (h : PH) : Option PV → PH → Prop := fun r h' => r = some (.inl res.1) ∧ ∃ hw, Scr h hw ∧ h' = ph_rowI hw 135 res.2
theorem pqM_same {res : RS} {v : Int} {h : PH} (e : res = (v, ph_I h 135)) : pqM res h (some (.inl v)) h := by
  subst e
  exact ⟨rfl, h, Scr.rf h, (ph_row_id h 135).symm⟩
theorem pqM_wr {res : RS} {v : Int} {st' : ST} {h h' : PH} (e : res = (v, st')) (hh : h' = ph_rowI h 135 st') : pqM res h (some (.inl v)) h' := by
  subst e
  exact ⟨rfl, h, Scr.rf h, hh⟩
theorem set_row (h : PH) (c k : Nat) (v : Int) : ph_setI h c k v = ph_rowI h c (up (ph_I h c) k v) := by
  have := ph_row_set h c k (ph_I h c) v
  rw [ph_row_id] at this
  exact this
theorem set_up (h : PH) (c k : Nat) (s : Nat → Int) (v : Int) : ph_setI (ph_rowI h c s) c k v = ph_rowI h c (up s k v) := ph_row_set h c k s v
theorem pOfN_b {st : ST} {name : Int} : ∀ k : Nat, (pOfN st name k = -6 ∧ ∀ i : Nat, i < k → st i ≠ name) ∨ (0 ≤ pOfN st name k ∧ pOfN st name k < k ∧ st (Int.toNat (pOfN st name k)) = name)
  | 0 => Or.inl ⟨rfl, fun i h => by omega⟩
  | k + 1 => by
    unfold pOfN
    split
    · next q => exact Or.inr ⟨by omega, by omega, by simpa using q⟩
    · next q =>
      rcases pOfN_b (st := st) (name := name) k with ⟨a, b⟩ | ⟨a, b, c⟩
      · exact Or.inl ⟨a, fun i h => by
          by_cases z : i = k
          · subst z; exact q
          · exact b i (by omega)⟩
      · exact Or.inr ⟨a, by omega, c⟩
theorem gI_ne {h : PH} {c k k' : Nat} {v : Int} (hk : k' ≠ k) : ph_I (ph_setI h c k v) c k' = ph_I h c k' := by simp [ph_I, ph_setI, hk]
theorem gI_eq {h : PH} {c k : Nat} {v : Int} : ph_I (ph_setI h c k v) c k = v := by simp [ph_I, ph_setI]
def pOf (st : ST) (name : Int) : Int := pOfN st name (Int.toNat (st 484))
theorem pOf_b {st : ST} (name : Int) (h : 0 ≤ st 484) : pOf st name = -6 ∨ (0 ≤ pOf st name ∧ pOf st name < st 484) := by
  rcases pOfN_b (st := st) (name := name) (Int.toNat (st 484)) with ⟨a, -⟩ | ⟨a, b, -⟩
  · exact Or.inl a
  · exact Or.inr ⟨a, by unfold pOf; omega⟩
def mSun (st : ST) (a b c e : Int) : RS := if ((0 ≤ a ∧ a ≤ 23) ∧ (0 ≤ c ∧ c ≤ 6)) ∧ (1 ≤ b ∧ b ≤ 40) ∧ (-1 ≤ e ∧ e ≤ 3) then (1, up (up (up (up st 485 a) 486 b) 487 c) 488 e) else (-2, st)
def mStorm (st : ST) (a b : Int) : RS := if (0 ≤ a ∧ a ≤ 79) ∧ (0 ≤ b ∧ b ≤ 79) then (1, up (up st 489 (if a ≤ b then a else -6)) 490 (if a ≤ b then b else -6)) else (-2, st)
def mKey (st : ST) (a : Int) : RS := if 0 ≤ a ∧ a ≤ 6 then (st 491, up st 491 a) else (-2, st)
def mStand (st : ST) (d w hh f : Int) : RS := if ¬ (0 ≤ d ∧ d ≤ 3) then (-1, st) else if (-st (Int.toNat (308 + d)) ≤ w ∧ w ≤ st (Int.toNat (308 + d))) ∧ (0 ≤ hh ∧ hh ≤ 6) ∧ (0 ≤ f ∧ f ≤ 79) then (1, up (up (up st (Int.toNat (296 + d)) w) (Int.toNat (300 + d)) hh) (Int.toNat (304 + d)) f) else (-2, st)
def mSet (st : ST) (d what n : Int) : RS := if ¬ (0 ≤ d ∧ d ≤ 3) then (-1, st) else if ¬ ((what = 0 ∧ 12 ≤ n ∧ n ≤ 36) ∨ (what = 1 ∧ 1 ≤ n ∧ n ≤ 3)) then (-2, st) else if what = 0 ∧ n < zabs (st (Int.toNat (296 + d))) then (-5, st) else (st (Int.toNat (if what = 0 then 308 + d else 312 + d)), up st (Int.toNat (if what = 0 then 308 + d else 312 + d)) n)
def mBurnt (st : ST) (a b t : Int) : Int := if ((0 ≤ a ∧ a ≤ 23) ∧ (0 ≤ b ∧ b ≤ 6)) ∧ (0 ≤ t ∧ t ≤ 79) then (if sB st a b t = true then 1 else 0) else -2
def mLooked (st : ST) (a b : Int) : Int := if (0 ≤ a ∧ a ≤ 23) ∧ (0 ≤ b ∧ b ≤ 6) then st (Int.toNat ((316 + (7 * a)) + b)) else -2
def mOrder (st : ST) (i : Int) : Int := if i = -1 then st 484 else if 0 ≤ i ∧ i ≤ st 484 - 1 then st (Int.toNat i) else -6
def mDish (st : ST) (d what : Int) : Int := if ¬ (0 ≤ d ∧ d ≤ 3) then -1 else if what = 0 then st (Int.toNat (296 + d)) + st (Int.toNat (308 + d)) else if 1 ≤ what ∧ what ≤ 4 then st (Int.toNat ((296 + (4 * what)) + d)) else if what = 5 then (st (Int.toNat (296 + d)) + 48) % 24 else -2
def mTold (st : ST) (name what : Int) : Int := if pOf st name < 0 then -1 else if what = 0 then st (Int.toNat (8 + pOf st name)) else if what = 1 then st (Int.toNat (16 + pOf st name)) else if what = 2 then pOf st name else if what = 3 then st (Int.toNat (24 + pOf st name)) else if what = 4 then st (Int.toNat (32 + pOf st name)) else -2
def mPass (st : ST) (name beg : Int) : RS := if ¬ ((0 ≤ name ∧ name ≤ 99) ∧ (0 ≤ beg ∧ beg ≤ 60)) then (-2, st) else if 0 ≤ pOf st name then (-5, st) else if st 484 = 8 then (-4, st) else (st 484 + 1, up (up (up (up (up (up st (Int.toNat (0 + st 484)) name) (Int.toNat (8 + st 484)) beg) (Int.toNat (16 + st 484)) 0) (Int.toNat (24 + st 484)) (-6)) (Int.toNat (32 + st 484)) (-6)) 484 (st 484 + 1))
def mPoint (st : ST) (name side hh : Int) : RS := if pOf st name < 0 then (-1, st) else if ¬ ((0 ≤ side ∧ side ≤ 23) ∧ (0 ≤ hh ∧ hh ≤ 6)) then (-2, st) else if 0 ≤ st (Int.toNat (24 + pOf st name)) then (-3, st) else if st (Int.toNat (16 + pOf st name)) = 16 then (-4, st) else (st (Int.toNat (16 + pOf st name)) + 1, up (up (up st (Int.toNat ((40 + (16 * pOf st name)) + st (Int.toNat (16 + pOf st name)))) side) (Int.toNat ((168 + (16 * pOf st name)) + st (Int.toNat (16 + pOf st name)))) hh) (Int.toNat (16 + pOf st name)) (st (Int.toNat (16 + pOf st name)) + 1))
theorem ct_X7_sun (G : Gx) (l : Launch) (h : PH) {a : Int} (ga : pR a) {b : Int} (gb : pR b) {c : Int} (gc : pR c) {e : Int} (ge : pR e) (hm : MF h) (hS : OkS (ph_I h 135)) : CT_X7_sun G l [.inr 134, .inl a, .inl b, .inl c, .inl e] h (pqM (mSun (ph_I h 135) a b c e) h) := by
  obtain ⟨⟨mt0, mr0, mr1, mr2, mr3, mr8, mr9, mr10⟩, ⟨mt1, mt2, mt3, mt4, mt5, mt6, mt7⟩, ⟨ml1, ml2, ml3, ml4, ml5, ml6, ml7⟩⟩ := id hm
  obtain ⟨hs, hb, hmany, hD, hPp⟩ := id hS
  refine ct_intro rfl (Nat.le_of_ble_eq_true rfl) (fun X hX C => ?_)
  refine B_X7_sun_0 C (hM := ct_X7_isDirection _ _ _) (kk := fun r1 h1 hq1 => ?_)
  obtain ⟨rfl, ⟨rfl, c1⟩ | ⟨rfl, c1⟩⟩ := hq1
  · refine B_X7_sun_5 C (kt := fun c2 => absurd c2 (by decide)) (kf := fun c2 => ?_)
    refine B_X7_sun_8 C (hM := ct_X7_in _ _ _) (kk := fun r3 h3 hq3 => ?_)
    obtain ⟨rfl, ⟨rfl, c3⟩ | ⟨rfl, c3⟩⟩ := hq3
    · refine B_X7_sun_15 C (kt := fun c4 => absurd c4 (by decide)) (kf := fun c4 => ?_)
      refine B_X7_sun_18 C (hM := ct_X7_in _ _ _) (kk := fun r5 h5 hq5 => ?_)
      obtain ⟨rfl, ⟨rfl, c5⟩ | ⟨rfl, c5⟩⟩ := hq5
      · refine B_X7_sun_25 C (kt := fun c6 => ?_) (kf := fun c6 => absurd c6 (by decide))
        exact B_X7_sun_31 C (hq := by exact pqM_wr (by unfold mSun; rw [if_pos (by omega)]) (by rw [set_row h, set_up, set_up, set_up]; rfl))
      · refine B_X7_sun_25 C (kt := fun c7 => absurd c7 (by decide)) (kf := fun c7 => ?_)
        exact B_X7_sun_28 C (hq := by exact pqM_same (by unfold mSun; rw [if_neg (by omega)]))
    · refine B_X7_sun_15 C (kt := fun c8 => ?_) (kf := fun c8 => absurd c8 (by decide))
      exact B_X7_sun_28 C (hq := by exact pqM_same (by unfold mSun; rw [if_neg (by omega)]))
  · refine B_X7_sun_5 C (kt := fun c9 => ?_) (kf := fun c9 => absurd c9 (by decide))
    exact B_X7_sun_28 C (hq := by exact pqM_same (by unfold mSun; rw [if_neg (by omega)]))
theorem ct_X7_key (G : Gx) (l : Launch) (h : PH) {a : Int} (ga : pR a) (hm : MF h) (hS : OkS (ph_I h 135)) : CT_X7_key G l [.inr 134, .inl a] h (pqM (mKey (ph_I h 135) a) h) := by
  obtain ⟨⟨mt0, mr0, mr1, mr2, mr3, mr8, mr9, mr10⟩, ⟨mt1, mt2, mt3, mt4, mt5, mt6, mt7⟩, ⟨ml1, ml2, ml3, ml4, ml5, ml6, ml7⟩⟩ := id hm
  obtain ⟨hs, hb, hmany, hD, hPp⟩ := id hS
  refine ct_intro rfl (Nat.le_of_ble_eq_true rfl) (fun X hX C => ?_)
  refine B_X7_key_0 C (hM := ct_X7_in _ _ _) (kk := fun r1 h1 hq1 => ?_)
  obtain ⟨rfl, ⟨rfl, c1⟩ | ⟨rfl, c1⟩⟩ := hq1
  · refine B_X7_key_7 C (kt := fun c2 => ?_) (kf := fun c2 => absurd c2 (by decide))
    exact B_X7_key_13 C (hq := by exact pqM_wr (by unfold mKey; rw [if_pos (by omega)]) (by rw [set_row h]; rfl))
  · refine B_X7_key_7 C (kt := fun c3 => absurd c3 (by decide)) (kf := fun c3 => ?_)
    exact B_X7_key_10 C (hq := by exact pqM_same (by unfold mKey; rw [if_neg (by omega)]))
theorem ct_X7_stand (G : Gx) (l : Launch) (h : PH) {d : Int} (gd : pR d) {w : Int} (gw : pR w) {hh : Int} (ghh : pR hh) {f : Int} (gf : pR f) (hm : MF h) (hS : OkS (ph_I h 135)) : CT_X7_stand G l [.inr 134, .inl d, .inl w, .inl hh, .inl f] h (pqM (mStand (ph_I h 135) d w hh f) h) := by
  obtain ⟨⟨mt0, mr0, mr1, mr2, mr3, mr8, mr9, mr10⟩, ⟨mt1, mt2, mt3, mt4, mt5, mt6, mt7⟩, ⟨ml1, ml2, ml3, ml4, ml5, ml6, ml7⟩⟩ := id hm
  obtain ⟨hs, hb, hmany, hD, hPp⟩ := id hS
  have hDd : 0 ≤ d ∧ d ≤ 3 → 12 ≤ ph_I h 135 (Int.toNat (308 + d)) ∧ ph_I h 135 (Int.toNat (308 + d)) ≤ 36 := fun z => (hD d z.1 z.2).1
  refine ct_intro rfl (Nat.le_of_ble_eq_true rfl) (fun X hX C => ?_)
  refine B_X7_stand_0 C (hM := ct_X7_isDish _ _ _) (kk := fun r1 h1 hq1 => ?_)
  obtain ⟨rfl, ⟨rfl, c1⟩ | ⟨rfl, c1⟩⟩ := hq1
  · refine B_X7_stand_4 C (kt := fun c2 => ?_) (kf := fun c2 => absurd c2 (by decide))
    refine B_X7_stand_9 C (hM := ct_X7_in _ _ _) (kk := fun r3 h3 hq3 => ?_)
    obtain ⟨rfl, ⟨rfl, c3⟩ | ⟨rfl, c3⟩⟩ := hq3
    · refine B_X7_stand_34 C (kt := fun c4 => absurd c4 (by decide)) (kf := fun c4 => ?_)
      refine B_X7_stand_37 C (hM := ct_X7_in _ _ _) (kk := fun r5 h5 hq5 => ?_)
      obtain ⟨rfl, ⟨rfl, c5⟩ | ⟨rfl, c5⟩⟩ := hq5
      · refine B_X7_stand_44 C (kt := fun c6 => absurd c6 (by decide)) (kf := fun c6 => ?_)
        refine B_X7_stand_47 C (hM := ct_X7_isTick _ _ _) (kk := fun r7 h7 hq7 => ?_)
        obtain ⟨rfl, ⟨rfl, c7⟩ | ⟨rfl, c7⟩⟩ := hq7
        · refine B_X7_stand_52 C (kt := fun c8 => ?_) (kf := fun c8 => absurd c8 (by decide))
          exact B_X7_stand_58 C (hq := by exact pqM_wr (by unfold mStand; rw [if_neg (by omega), if_pos (by omega)]) (by rw [set_row h, set_up, set_up]))
        · refine B_X7_stand_52 C (kt := fun c9 => absurd c9 (by decide)) (kf := fun c9 => ?_)
          exact B_X7_stand_55 C (hq := by exact pqM_same (by unfold mStand; rw [if_neg (by omega), if_neg (by omega)]))
      · refine B_X7_stand_44 C (kt := fun c10 => ?_) (kf := fun c10 => absurd c10 (by decide))
        exact B_X7_stand_55 C (hq := by exact pqM_same (by unfold mStand; rw [if_neg (by omega), if_neg (by omega)]))
    · refine B_X7_stand_34 C (kt := fun c11 => ?_) (kf := fun c11 => absurd c11 (by decide))
      exact B_X7_stand_55 C (hq := by exact pqM_same (by unfold mStand; rw [if_neg (by omega), if_neg (by omega)]))
  · refine B_X7_stand_4 C (kt := fun c12 => absurd c12 (by decide)) (kf := fun c12 => ?_)
    exact B_X7_stand_7 C (hq := by exact pqM_same (by unfold mStand; rw [if_pos (by omega)]))
theorem ct_X7_burnt (G : Gx) (l : Launch) (h : PH) {a : Int} (ga : pR a) {b : Int} (gb : pR b) {t : Int} (gt : pR t) (hm : MF h) (hS : OkS (ph_I h 135)) : CT_X7_burnt G l [.inr 134, .inl a, .inl b, .inl t] h (pqI (mBurnt (ph_I h 135) a b t) h) := by
  obtain ⟨⟨mt0, mr0, mr1, mr2, mr3, mr8, mr9, mr10⟩, ⟨mt1, mt2, mt3, mt4, mt5, mt6, mt7⟩, ⟨ml1, ml2, ml3, ml4, ml5, ml6, ml7⟩⟩ := id hm
  obtain ⟨hs, hb, hmany, hD, hPp⟩ := id hS
  refine ct_intro rfl (Nat.le_of_ble_eq_true rfl) (fun X hX C => ?_)
  refine B_X7_burnt_0 C (hM := ct_X7_isDirection _ _ _) (kk := fun r1 h1 hq1 => ?_)
  obtain ⟨rfl, ⟨rfl, c1⟩ | ⟨rfl, c1⟩⟩ := hq1
  · refine B_X7_burnt_5 C (kt := fun c2 => absurd c2 (by decide)) (kf := fun c2 => ?_)
    refine B_X7_burnt_8 C (hM := ct_X7_isTick _ _ _) (kk := fun r3 h3 hq3 => ?_)
    obtain ⟨rfl, ⟨rfl, c3⟩ | ⟨rfl, c3⟩⟩ := hq3
    · refine B_X7_burnt_12 C (kt := fun c4 => ?_) (kf := fun c4 => absurd c4 (by decide))
      refine B_X7_burnt_18 C (hM := ct_X7_isBurnt _ _ _ hm hs) (kk := fun r5 h5 hq5 => ?_)
      obtain ⟨rfl, ⟨rfl, c5⟩ | ⟨rfl, c5⟩⟩ := hq5
      · refine B_X7_burnt_25 C (kt := fun c6 => absurd c6 (by decide)) (kf := fun c6 => ?_)
        refine B_X7_burnt_28 C (kk := ?_)
        exact B_X7_burnt_33 C (hq := by first | exact pq_i (by unfold mBurnt; rw [if_neg (by omega)]) | exact pq_i (by unfold mBurnt; rw [if_pos (by omega), if_pos (by assumption)]) | exact pq_i (by unfold mBurnt; rw [if_pos (by omega), if_neg (by assumption)]))
      · refine B_X7_burnt_25 C (kt := fun c7 => ?_) (kf := fun c7 => absurd c7 (by decide))
        refine B_X7_burnt_32 C (kk := ?_)
        exact B_X7_burnt_33 C (hq := by first | exact pq_i (by unfold mBurnt; rw [if_neg (by omega)]) | exact pq_i (by unfold mBurnt; rw [if_pos (by omega), if_pos (by assumption)]) | exact pq_i (by unfold mBurnt; rw [if_pos (by omega), if_neg (by assumption)]))
    · refine B_X7_burnt_12 C (kt := fun c8 => absurd c8 (by decide)) (kf := fun c8 => ?_)
      exact B_X7_burnt_15 C (hq := by first | exact pq_i (by unfold mBurnt; rw [if_neg (by omega)]) | exact pq_i (by unfold mBurnt; rw [if_pos (by omega), if_pos (by assumption)]) | exact pq_i (by unfold mBurnt; rw [if_pos (by omega), if_neg (by assumption)]))
  · refine B_X7_burnt_5 C (kt := fun c9 => ?_) (kf := fun c9 => absurd c9 (by decide))
    exact B_X7_burnt_15 C (hq := by first | exact pq_i (by unfold mBurnt; rw [if_neg (by omega)]) | exact pq_i (by unfold mBurnt; rw [if_pos (by omega), if_pos (by assumption)]) | exact pq_i (by unfold mBurnt; rw [if_pos (by omega), if_neg (by assumption)]))
theorem ct_X7_looked (G : Gx) (l : Launch) (h : PH) {a : Int} (ga : pR a) {b : Int} (gb : pR b) (hm : MF h) (hS : OkS (ph_I h 135)) : CT_X7_looked G l [.inr 134, .inl a, .inl b] h (pqI (mLooked (ph_I h 135) a b) h) := by
  obtain ⟨⟨mt0, mr0, mr1, mr2, mr3, mr8, mr9, mr10⟩, ⟨mt1, mt2, mt3, mt4, mt5, mt6, mt7⟩, ⟨ml1, ml2, ml3, ml4, ml5, ml6, ml7⟩⟩ := id hm
  obtain ⟨hs, hb, hmany, hD, hPp⟩ := id hS
  refine ct_intro rfl (Nat.le_of_ble_eq_true rfl) (fun X hX C => ?_)
  refine B_X7_looked_0 C (hM := ct_X7_isDirection _ _ _) (kk := fun r1 h1 hq1 => ?_)
  obtain ⟨rfl, ⟨rfl, c1⟩ | ⟨rfl, c1⟩⟩ := hq1
  · refine B_X7_looked_5 C (kt := fun c2 => absurd c2 (by decide)) (kf := fun c2 => ?_)
    refine B_X7_looked_8 C (kk := ?_)
    exact B_X7_looked_28 C (hq := by first | exact pq_i (by unfold mLooked; rw [if_pos (by omega)]) | exact pq_i (by unfold mLooked; rw [if_neg (by omega)]))
  · refine B_X7_looked_5 C (kt := fun c3 => ?_) (kf := fun c3 => absurd c3 (by decide))
    refine B_X7_looked_26 C (kk := ?_)
    exact B_X7_looked_28 C (hq := by first | exact pq_i (by unfold mLooked; rw [if_pos (by omega)]) | exact pq_i (by unfold mLooked; rw [if_neg (by omega)]))
theorem ct_X7_order (G : Gx) (l : Launch) (h : PH) {a : Int} (ga : pR a) (hm : MF h) (hS : OkS (ph_I h 135)) : CT_X7_order G l [.inr 134, .inl a] h (pqI (mOrder (ph_I h 135) a) h) := by
  obtain ⟨⟨mt0, mr0, mr1, mr2, mr3, mr8, mr9, mr10⟩, ⟨mt1, mt2, mt3, mt4, mt5, mt6, mt7⟩, ⟨ml1, ml2, ml3, ml4, ml5, ml6, ml7⟩⟩ := id hm
  obtain ⟨hs, hb, hmany, hD, hPp⟩ := id hS
  refine ct_intro rfl (Nat.le_of_ble_eq_true rfl) (fun X hX C => ?_)
  refine B_X7_order_0 C (kt := fun c1 => ?_) (kf := fun c1 => ?_)
  · refine B_X7_order_16 C (hM := ct_X7_in _ _ _) (kk := fun r2 h2 hq2 => ?_)
    obtain ⟨rfl, ⟨rfl, c2⟩ | ⟨rfl, c2⟩⟩ := hq2
    · refine B_X7_order_31 C (kt := fun c3 => absurd c3 (by decide)) (kf := fun c3 => ?_)
      refine B_X7_order_34 C (kk := ?_)
      exact B_X7_order_47 C (hq := by first | exact pq_i (by unfold mOrder; rw [if_pos (by omega)]) | exact pq_i (by unfold mOrder; rw [if_neg (by omega), if_pos (by omega), Int.zero_add]) | exact pq_i (by unfold mOrder; rw [if_neg (by omega), if_neg (by omega)]))
    · refine B_X7_order_31 C (kt := fun c4 => ?_) (kf := fun c4 => absurd c4 (by decide))
      refine B_X7_order_45 C (kk := ?_)
      exact B_X7_order_47 C (hq := by first | exact pq_i (by unfold mOrder; rw [if_pos (by omega)]) | exact pq_i (by unfold mOrder; rw [if_neg (by omega), if_pos (by omega), Int.zero_add]) | exact pq_i (by unfold mOrder; rw [if_neg (by omega), if_neg (by omega)]))
  · refine B_X7_order_5 C (kk := ?_)
    exact B_X7_order_47 C (hq := by first | exact pq_i (by unfold mOrder; rw [if_pos (by omega)]) | exact pq_i (by unfold mOrder; rw [if_neg (by omega), if_pos (by omega), Int.zero_add]) | exact pq_i (by unfold mOrder; rw [if_neg (by omega), if_neg (by omega)]))
theorem ct_X7_dish (G : Gx) (l : Launch) (h : PH) {d : Int} (gd : pR d) {wh : Int} (gwh : pR wh) (hm : MF h) (hS : OkS (ph_I h 135)) : CT_X7_dish G l [.inr 134, .inl d, .inl wh] h (pqI (mDish (ph_I h 135) d wh) h) := by
  obtain ⟨⟨mt0, mr0, mr1, mr2, mr3, mr8, mr9, mr10⟩, ⟨mt1, mt2, mt3, mt4, mt5, mt6, mt7⟩, ⟨ml1, ml2, ml3, ml4, ml5, ml6, ml7⟩⟩ := id hm
  obtain ⟨hs, hb, hmany, hD, hPp⟩ := id hS
  have hDd : 0 ≤ d ∧ d ≤ 3 → -36 ≤ ph_I h 135 (Int.toNat (296 + d)) ∧ ph_I h 135 (Int.toNat (296 + d)) ≤ 36 := fun z => by have := hD d z.1 z.2; obtain ⟨x1, x2, x3, x4, x5⟩ := this; unfold zabs at x4; omega
  refine ct_intro rfl (Nat.le_of_ble_eq_true rfl) (fun X hX C => ?_)
  refine B_X7_dish_0 C (hM := ct_X7_isDish _ _ _) (kk := fun r1 h1 hq1 => ?_)
  obtain ⟨rfl, ⟨rfl, c1⟩ | ⟨rfl, c1⟩⟩ := hq1
  · refine B_X7_dish_4 C (kt := fun c2 => ?_) (kf := fun c2 => absurd c2 (by decide))
    refine B_X7_dish_9 C (kk := ?_)
    refine B_X7_dish_10 C (k0 := fun c3 => ?_) (k1 := fun c3 => ?_) (k2 := fun c3 => ?_) (k3 := fun c3 => ?_) (k4 := fun c3 => ?_) (k5 := fun c3 => ?_) (kd := fun c3 => ?_)
    · exact B_X7_dish_48 C (hq := by exact pq_i (by unfold mDish; rw [if_neg (by omega), if_pos (by omega)]))
    · exact B_X7_dish_70 C (hq := by exact pq_i (by unfold mDish; rw [if_neg (by omega), if_neg (by omega), if_pos (by omega)]))
    · exact B_X7_dish_70 C (hq := by exact pq_i (by unfold mDish; rw [if_neg (by omega), if_neg (by omega), if_pos (by omega)]))
    · exact B_X7_dish_70 C (hq := by exact pq_i (by unfold mDish; rw [if_neg (by omega), if_neg (by omega), if_pos (by omega)]))
    · exact B_X7_dish_70 C (hq := by exact pq_i (by unfold mDish; rw [if_neg (by omega), if_neg (by omega), if_pos (by omega)]))
    · refine B_X7_dish_85 C (hM := ct_X7_sideOf _ _ _) (kk := fun r4 h4 hq4 => ?_)
      obtain ⟨rfl, rfl⟩ := hq4
      exact B_X7_dish_98 C (hq := by exact pq_i (by unfold mDish; rw [if_neg (by omega), if_neg (by omega), if_neg (by omega), if_pos (by omega)]))
    · exact B_X7_dish_99 C (hq := by exact pq_i (by unfold mDish; rw [if_neg (by omega), if_neg (by omega), if_neg (by omega), if_neg (by omega)]))
  · refine B_X7_dish_4 C (kt := fun c5 => absurd c5 (by decide)) (kf := fun c5 => ?_)
    exact B_X7_dish_7 C (hq := by exact pq_i (by unfold mDish; rw [if_pos (by omega)]))
theorem ct_X7_told (G : Gx) (l : Launch) (h : PH) {nm : Int} (gnm : pR nm) {wh : Int} (gwh : pR wh) (hm : MF h) (hS : OkS (ph_I h 135)) : CT_X7_told G l [.inr 134, .inl nm, .inl wh] h (pqI (mTold (ph_I h 135) nm wh) h) := by
  obtain ⟨⟨mt0, mr0, mr1, mr2, mr3, mr8, mr9, mr10⟩, ⟨mt1, mt2, mt3, mt4, mt5, mt6, mt7⟩, ⟨ml1, ml2, ml3, ml4, ml5, ml6, ml7⟩⟩ := id hm
  obtain ⟨hs, hb, hmany, hD, hPp⟩ := id hS
  have hpb := pOf_b (st := ph_I h 135) nm hmany.1
  refine ct_intro rfl (Nat.le_of_ble_eq_true rfl) (fun X hX C => ?_)
  refine B_X7_told_0 C (hM := (show CT_X7_passOf G X.2.1 [.inr 134, .inl nm] h (pqI (pOf (ph_I h 135) nm) h) from ct_X7_passOf _ _ _ hm gnm hb hmany.1 hmany.2)) (kk := fun r1 h1 hq1 => ?_)
  obtain ⟨rfl, rfl⟩ := hq1
  refine B_X7_told_5 C (kt := fun c2 => ?_) (kf := fun c2 => ?_)
  · refine B_X7_told_12 C (kk := ?_)
    refine B_X7_told_13 C (k0 := fun c3 => ?_) (k1 := fun c3 => ?_) (k2 := fun c3 => ?_) (k3 := fun c3 => ?_) (k4 := fun c3 => ?_) (kd := fun c3 => ?_)
    · exact B_X7_told_48 C (hq := by exact pq_i (by unfold mTold; rw [if_neg (by omega), if_pos (by omega)]))
    · exact B_X7_told_58 C (hq := by exact pq_i (by unfold mTold; rw [if_neg (by omega), if_neg (by omega), if_pos (by omega)]))
    · exact B_X7_told_68 C (hq := by exact pq_i (by unfold mTold; rw [if_neg (by omega), if_neg (by omega), if_neg (by omega), if_pos (by omega)]))
    · exact B_X7_told_70 C (hq := by exact pq_i (by unfold mTold; rw [if_neg (by omega), if_neg (by omega), if_neg (by omega), if_neg (by omega), if_pos (by omega)]))
    · exact B_X7_told_80 C (hq := by exact pq_i (by unfold mTold; rw [if_neg (by omega), if_neg (by omega), if_neg (by omega), if_neg (by omega), if_neg (by omega), if_pos (by omega)]))
    · exact B_X7_told_90 C (hq := by exact pq_i (by unfold mTold; rw [if_neg (by omega), if_neg (by omega), if_neg (by omega), if_neg (by omega), if_neg (by omega), if_neg (by omega)]))
  · exact B_X7_told_10 C (hq := by exact pq_i (by unfold mTold; rw [if_pos (by show pOf _ _ < 0; omega)]))
theorem ct_X7_pass (G : Gx) (l : Launch) (h : PH) {nm : Int} (gnm : pR nm) {bg : Int} (gbg : pR bg) (hm : MF h) (hS : OkS (ph_I h 135)) : CT_X7_pass G l [.inr 134, .inl nm, .inl bg] h (pqM (mPass (ph_I h 135) nm bg) h) := by
  obtain ⟨⟨mt0, mr0, mr1, mr2, mr3, mr8, mr9, mr10⟩, ⟨mt1, mt2, mt3, mt4, mt5, mt6, mt7⟩, ⟨ml1, ml2, ml3, ml4, ml5, ml6, ml7⟩⟩ := id hm
  obtain ⟨hs, hb, hmany, hD, hPp⟩ := id hS
  have hpb := pOf_b (st := ph_I h 135) nm hmany.1
  refine ct_intro rfl (Nat.le_of_ble_eq_true rfl) (fun X hX C => ?_)
  refine B_X7_pass_0 C (hM := ct_X7_in _ _ _) (kk := fun r1 h1 hq1 => ?_)
  obtain ⟨rfl, ⟨rfl, c1⟩ | ⟨rfl, c1⟩⟩ := hq1
  · refine B_X7_pass_7 C (kt := fun c2 => absurd c2 (by decide)) (kf := fun c2 => ?_)
    refine B_X7_pass_10 C (hM := ct_X7_in _ _ _) (kk := fun r3 h3 hq3 => ?_)
    obtain ⟨rfl, ⟨rfl, c3⟩ | ⟨rfl, c3⟩⟩ := hq3
    · refine B_X7_pass_17 C (kt := fun c4 => ?_) (kf := fun c4 => absurd c4 (by decide))
      refine B_X7_pass_23 C (hM := (show CT_X7_passOf G X.2.1 [.inr 134, .inl nm] h (pqI (pOf (ph_I h 135) nm) h) from ct_X7_passOf _ _ _ hm gnm hb hmany.1 hmany.2)) (kk := fun r5 h5 hq5 => ?_)
      obtain ⟨rfl, rfl⟩ := hq5
      refine B_X7_pass_28 C (kt := fun c6 => ?_) (kf := fun c6 => ?_)
      · refine B_X7_pass_34 C (q10 := hb _) (kt := fun c7 => ?_) (kf := fun c7 => ?_)
        · exact B_X7_pass_52 C (x48 := ph_I h 135 484) (e49 := by rw [gI_ne (by omega), gI_ne (by omega), gI_ne (by omega), gI_ne (by omega), gI_ne (by omega)]) (x62 := ph_I h 135 484 + 1) (e63 := by simp [ph_I, ph_setI]) (hq := by exact pqM_wr (by unfold mPass; rw [if_neg (by omega), if_neg (by omega), if_neg (by omega)]) (by rw [set_row h, set_up, set_up, set_up, set_up, set_up]; rfl))
        · exact B_X7_pass_49 C (hq := by exact pqM_same (by unfold mPass; rw [if_neg (by omega), if_neg (by omega), if_pos (by omega)]))
      · exact B_X7_pass_31 C (hq := by exact pqM_same (by unfold mPass; rw [if_neg (by omega), if_pos (by omega)]))
    · refine B_X7_pass_17 C (kt := fun c8 => absurd c8 (by decide)) (kf := fun c8 => ?_)
      exact B_X7_pass_20 C (hq := by exact pqM_same (by unfold mPass; rw [if_pos (by omega)]))
  · refine B_X7_pass_7 C (kt := fun c9 => ?_) (kf := fun c9 => absurd c9 (by decide))
    exact B_X7_pass_20 C (hq := by exact pqM_same (by unfold mPass; rw [if_pos (by omega)]))
theorem ct_X7_point (G : Gx) (l : Launch) (h : PH) {nm : Int} (gnm : pR nm) {sd : Int} (gsd : pR sd) {hh : Int} (ghh : pR hh) (hm : MF h) (hS : OkS (ph_I h 135)) : CT_X7_point G l [.inr 134, .inl nm, .inl sd, .inl hh] h (pqM (mPoint (ph_I h 135) nm sd hh) h) := by
  obtain ⟨⟨mt0, mr0, mr1, mr2, mr3, mr8, mr9, mr10⟩, ⟨mt1, mt2, mt3, mt4, mt5, mt6, mt7⟩, ⟨ml1, ml2, ml3, ml4, ml5, ml6, ml7⟩⟩ := id hm
  obtain ⟨hs, hb, hmany, hD, hPp⟩ := id hS
  have hpb := pOf_b (st := ph_I h 135) nm hmany.1
  have hPn : 0 ≤ pOf (ph_I h 135) nm → 0 ≤ ph_I h 135 (Int.toNat (16 + pOf (ph_I h 135) nm)) ∧ ph_I h 135 (Int.toNat (16 + pOf (ph_I h 135) nm)) ≤ 16 := fun z => (hPp _ z (by omega)).2
  refine ct_intro rfl (Nat.le_of_ble_eq_true rfl) (fun X hX C => ?_)
  refine B_X7_point_0 C (hM := (show CT_X7_passOf G X.2.1 [.inr 134, .inl nm] h (pqI (pOf (ph_I h 135) nm) h) from ct_X7_passOf _ _ _ hm gnm hb hmany.1 hmany.2)) (kk := fun r1 h1 hq1 => ?_)
  obtain ⟨rfl, rfl⟩ := hq1
  refine B_X7_point_5 C (kt := fun c2 => ?_) (kf := fun c2 => ?_)
  · refine B_X7_point_14 C (hM := ct_X7_isDirection _ _ _) (kk := fun r3 h3 hq3 => ?_)
    obtain ⟨rfl, ⟨rfl, c3⟩ | ⟨rfl, c3⟩⟩ := hq3
    · refine B_X7_point_19 C (kt := fun c4 => ?_) (kf := fun c4 => absurd c4 (by decide))
      refine B_X7_point_25 C (q10 := hb _) (kt := fun c5 => ?_) (kf := fun c5 => ?_)
      · refine B_X7_point_41 C (kt := fun c6 => ?_) (kf := fun c6 => ?_)
        · exact B_X7_point_63 C (x24 := ph_I h 135 (Int.toNat (16 + pOf (ph_I h 135) nm))) (e25 := by rw [gI_ne (by omega), gI_ne (by omega)]) (hq := by exact pqM_wr (by unfold mPoint; rw [if_neg (by omega), if_neg (by omega), if_neg (by omega), if_neg (by omega)]) (by rw [set_row h, set_up, set_up]))
        · exact B_X7_point_60 C (hq := by exact pqM_same (by unfold mPoint; rw [if_neg (by omega), if_neg (by omega), if_neg (by omega), if_pos (by omega)]))
      · exact B_X7_point_38 C (hq := by exact pqM_same (by unfold mPoint; rw [if_neg (by omega), if_neg (by omega), if_pos (by omega)]))
    · refine B_X7_point_19 C (kt := fun c7 => absurd c7 (by decide)) (kf := fun c7 => ?_)
      exact B_X7_point_22 C (hq := by exact pqM_same (by unfold mPoint; rw [if_neg (by omega), if_pos (by omega)]))
  · exact B_X7_point_12 C (hq := by exact pqM_same (by unfold mPoint; rw [if_pos (by omega)]))
theorem ct_X7_storm (G : Gx) (l : Launch) (h : PH) {a : Int} (ga : pR a) {b : Int} (gb : pR b) (hm : MF h) (hS : OkS (ph_I h 135)) : CT_X7_storm G l [.inr 134, .inl a, .inl b] h (pqM (mStorm (ph_I h 135) a b) h) := by
  obtain ⟨⟨mt0, mr0, mr1, mr2, mr3, mr8, mr9, mr10⟩, ⟨mt1, mt2, mt3, mt4, mt5, mt6, mt7⟩, ⟨ml1, ml2, ml3, ml4, ml5, ml6, ml7⟩⟩ := id hm
  obtain ⟨hs, hb, hmany, hD, hPp⟩ := id hS
  refine ct_intro rfl (Nat.le_of_ble_eq_true rfl) (fun X hX C => ?_)
  refine B_X7_storm_0 C (hM := ct_X7_isTick _ _ _) (kk := fun r1 h1 hq1 => ?_)
  obtain ⟨rfl, ⟨rfl, c1⟩ | ⟨rfl, c1⟩⟩ := hq1
  · refine B_X7_storm_4 C (kt := fun c2 => absurd c2 (by decide)) (kf := fun c2 => ?_)
    refine B_X7_storm_7 C (hM := ct_X7_isTick _ _ _) (kk := fun r3 h3 hq3 => ?_)
    obtain ⟨rfl, ⟨rfl, c3⟩ | ⟨rfl, c3⟩⟩ := hq3
    · refine B_X7_storm_11 C (kt := fun c4 => ?_) (kf := fun c4 => absurd c4 (by decide))
      refine B_X7_storm_17 C (kt := fun c5 => ?_) (kf := fun c5 => ?_)
      · refine B_X7_storm_34 C (kk := ?_)
        refine B_X7_storm_35 C (kt := fun c6 => ?_) (kf := fun c6 => ?_)
        · refine B_X7_storm_53 C (kk := ?_)
          exact B_X7_storm_54 C (q3 := by show _ < ((ph_L h 135 : Nat) : Int); omega) (hq := by first | (exfalso; omega) | exact pqM_wr (by unfold mStorm; rw [if_pos (by omega), if_pos (by omega), if_pos (by omega)]) (by rw [set_row h, set_up]; rfl) | exact pqM_wr (by unfold mStorm; rw [if_pos (by omega), if_neg (by omega), if_neg (by omega)]) (by rw [set_row h, set_up]; rfl) | (exfalso; omega))
        · refine B_X7_storm_48 C (kk := ?_)
          exact B_X7_storm_54 C (q3 := by show _ < ((ph_L h 135 : Nat) : Int); omega) (hq := by first | (exfalso; omega) | exact pqM_wr (by unfold mStorm; rw [if_pos (by omega), if_pos (by omega), if_pos (by omega)]) (by rw [set_row h, set_up]; rfl) | exact pqM_wr (by unfold mStorm; rw [if_pos (by omega), if_neg (by omega), if_neg (by omega)]) (by rw [set_row h, set_up]; rfl) | (exfalso; omega))
      · refine B_X7_storm_29 C (kk := ?_)
        refine B_X7_storm_35 C (kt := fun c7 => ?_) (kf := fun c7 => ?_)
        · refine B_X7_storm_53 C (kk := ?_)
          exact B_X7_storm_54 C (q3 := by show _ < ((ph_L h 135 : Nat) : Int); omega) (hq := by first | (exfalso; omega) | exact pqM_wr (by unfold mStorm; rw [if_pos (by omega), if_pos (by omega), if_pos (by omega)]) (by rw [set_row h, set_up]; rfl) | exact pqM_wr (by unfold mStorm; rw [if_pos (by omega), if_neg (by omega), if_neg (by omega)]) (by rw [set_row h, set_up]; rfl) | (exfalso; omega))
        · refine B_X7_storm_48 C (kk := ?_)
          exact B_X7_storm_54 C (q3 := by show _ < ((ph_L h 135 : Nat) : Int); omega) (hq := by first | (exfalso; omega) | exact pqM_wr (by unfold mStorm; rw [if_pos (by omega), if_pos (by omega), if_pos (by omega)]) (by rw [set_row h, set_up]; rfl) | exact pqM_wr (by unfold mStorm; rw [if_pos (by omega), if_neg (by omega), if_neg (by omega)]) (by rw [set_row h, set_up]; rfl) | (exfalso; omega))
    · refine B_X7_storm_11 C (kt := fun c8 => absurd c8 (by decide)) (kf := fun c8 => ?_)
      exact B_X7_storm_14 C (hq := by exact pqM_same (by unfold mStorm; rw [if_neg (by omega)]))
  · refine B_X7_storm_4 C (kt := fun c9 => ?_) (kf := fun c9 => absurd c9 (by decide))
    exact B_X7_storm_14 C (hq := by exact pqM_same (by unfold mStorm; rw [if_neg (by omega)]))
theorem ct_X7_set (G : Gx) (l : Launch) (h : PH) {d : Int} (gd : pR d) {wh : Int} (gwh : pR wh) {n : Int} (gn : pR n) (hm : MF h) (hS : OkS (ph_I h 135)) : CT_X7_set G l [.inr 134, .inl d, .inl wh, .inl n] h (pqM (mSet (ph_I h 135) d wh n) h) := by
  obtain ⟨⟨mt0, mr0, mr1, mr2, mr3, mr8, mr9, mr10⟩, ⟨mt1, mt2, mt3, mt4, mt5, mt6, mt7⟩, ⟨ml1, ml2, ml3, ml4, ml5, ml6, ml7⟩⟩ := id hm
  obtain ⟨hs, hb, hmany, hD, hPp⟩ := id hS
  have hDd : 0 ≤ d ∧ d ≤ 3 → -36 ≤ ph_I h 135 (Int.toNat (296 + d)) ∧ ph_I h 135 (Int.toNat (296 + d)) ≤ 36 ∧ 0 ≤ zabs (ph_I h 135 (Int.toNat (296 + d))) ∧ zabs (ph_I h 135 (Int.toNat (296 + d))) ≤ 36 := fun z => by have := hD d z.1 z.2; obtain ⟨x1, x2, x3, x4, x5⟩ := this; unfold zabs at *; omega
  refine ct_intro rfl (Nat.le_of_ble_eq_true rfl) (fun X hX C => ?_)
  refine B_X7_set_0 C (hM := ct_X7_isDish _ _ _) (kk := fun r1 h1 hq1 => ?_)
  obtain ⟨rfl, ⟨rfl, c1⟩ | ⟨rfl, c1⟩⟩ := hq1
  · refine B_X7_set_4 C (kt := fun c2 => ?_) (kf := fun c2 => absurd c2 (by decide))
    refine B_X7_set_9 C (hM := ct_X7_in _ _ _) (kk := fun r3 h3 hq3 => ?_)
    obtain ⟨rfl, ⟨rfl, c3⟩ | ⟨rfl, c3⟩⟩ := hq3
    · refine B_X7_set_15 C (kt := fun c4 => absurd c4 (by decide)) (kf := fun c4 => ?_)
      refine B_X7_set_18 C (kt := fun c5 => ?_) (kf := fun c5 => ?_)
      · refine B_X7_set_28 C (kk := ?_)
        refine B_X7_set_29 C (kt := fun c6 => ?_) (kf := fun c6 => ?_)
        · refine B_X7_set_38 C (kk := ?_)
          refine B_X7_set_39 C (hM := ct_X7_in _ _ _) (kk := fun r7 h7 hq7 => ?_)
          obtain ⟨rfl, ⟨rfl, c7⟩ | ⟨rfl, c7⟩⟩ := hq7
          · refine B_X7_set_42 C (kt := fun c8 => ?_) (kf := fun c8 => absurd c8 (by decide))
            refine B_X7_set_48 C (kt := fun c9 => ?_) (kf := fun c9 => ?_)
            · refine B_X7_set_72 C (kt := fun c10 => ?_) (kf := fun c10 => ?_)
              · refine B_X7_set_84 C (kk := ?_)
                exact B_X7_set_89 C (hq := by first | (exfalso; omega) | exact pqM_wr (by unfold mSet; rw [if_neg (by omega), if_neg (by omega), if_neg (by omega), if_pos (by omega)]) (by rw [set_row h]) | exact pqM_wr (by unfold mSet; rw [if_neg (by omega), if_neg (by omega), if_neg (by omega), if_neg (by omega)]) (by rw [set_row h]) | (exfalso; omega))
              · refine B_X7_set_76 C (kk := ?_)
                exact B_X7_set_89 C (hq := by first | (exfalso; omega) | exact pqM_wr (by unfold mSet; rw [if_neg (by omega), if_neg (by omega), if_neg (by omega), if_pos (by omega)]) (by rw [set_row h]) | exact pqM_wr (by unfold mSet; rw [if_neg (by omega), if_neg (by omega), if_neg (by omega), if_neg (by omega)]) (by rw [set_row h]) | (exfalso; omega))
            · refine B_X7_set_52 C (hM := ct_X7_size _ _ _) (kk := fun r11 h11 hq11 => ?_)
              obtain ⟨rfl, rfl⟩ := hq11
              refine B_X7_set_65 C (kt := fun c12 => ?_) (kf := fun c12 => ?_)
              · refine B_X7_set_72 C (kt := fun c13 => ?_) (kf := fun c13 => ?_)
                · refine B_X7_set_84 C (kk := ?_)
                  exact B_X7_set_89 C (hq := by first | (exfalso; omega) | exact pqM_wr (by unfold mSet; rw [if_neg (by omega), if_neg (by omega), if_neg (by omega), if_pos (by omega)]) (by rw [set_row h]) | exact pqM_wr (by unfold mSet; rw [if_neg (by omega), if_neg (by omega), if_neg (by omega), if_neg (by omega)]) (by rw [set_row h]) | (exfalso; omega))
                · refine B_X7_set_76 C (kk := ?_)
                  exact B_X7_set_89 C (hq := by first | (exfalso; omega) | exact pqM_wr (by unfold mSet; rw [if_neg (by omega), if_neg (by omega), if_neg (by omega), if_pos (by omega)]) (by rw [set_row h]) | exact pqM_wr (by unfold mSet; rw [if_neg (by omega), if_neg (by omega), if_neg (by omega), if_neg (by omega)]) (by rw [set_row h]) | (exfalso; omega))
              · exact B_X7_set_69 C (hq := by exact pqM_same (by unfold mSet; rw [if_neg (by omega), if_neg (by omega), if_pos (by omega)]))
          · refine B_X7_set_42 C (kt := fun c14 => absurd c14 (by decide)) (kf := fun c14 => ?_)
            exact B_X7_set_45 C (hq := by exact pqM_same (by unfold mSet; rw [if_neg (by omega), if_pos (by omega)]))
        · refine B_X7_set_33 C (kk := ?_)
          refine B_X7_set_39 C (hM := ct_X7_in _ _ _) (kk := fun r15 h15 hq15 => ?_)
          obtain ⟨rfl, ⟨rfl, c15⟩ | ⟨rfl, c15⟩⟩ := hq15
          · refine B_X7_set_42 C (kt := fun c16 => ?_) (kf := fun c16 => absurd c16 (by decide))
            refine B_X7_set_48 C (kt := fun c17 => ?_) (kf := fun c17 => ?_)
            · refine B_X7_set_72 C (kt := fun c18 => ?_) (kf := fun c18 => ?_)
              · refine B_X7_set_84 C (kk := ?_)
                exact B_X7_set_89 C (hq := by first | (exfalso; omega) | exact pqM_wr (by unfold mSet; rw [if_neg (by omega), if_neg (by omega), if_neg (by omega), if_pos (by omega)]) (by rw [set_row h]) | exact pqM_wr (by unfold mSet; rw [if_neg (by omega), if_neg (by omega), if_neg (by omega), if_neg (by omega)]) (by rw [set_row h]) | (exfalso; omega))
              · refine B_X7_set_76 C (kk := ?_)
                exact B_X7_set_89 C (hq := by first | (exfalso; omega) | exact pqM_wr (by unfold mSet; rw [if_neg (by omega), if_neg (by omega), if_neg (by omega), if_pos (by omega)]) (by rw [set_row h]) | exact pqM_wr (by unfold mSet; rw [if_neg (by omega), if_neg (by omega), if_neg (by omega), if_neg (by omega)]) (by rw [set_row h]) | (exfalso; omega))
            · refine B_X7_set_52 C (hM := ct_X7_size _ _ _) (kk := fun r19 h19 hq19 => ?_)
              obtain ⟨rfl, rfl⟩ := hq19
              refine B_X7_set_65 C (kt := fun c20 => ?_) (kf := fun c20 => ?_)
              · refine B_X7_set_72 C (kt := fun c21 => ?_) (kf := fun c21 => ?_)
                · refine B_X7_set_84 C (kk := ?_)
                  exact B_X7_set_89 C (hq := by first | (exfalso; omega) | exact pqM_wr (by unfold mSet; rw [if_neg (by omega), if_neg (by omega), if_neg (by omega), if_pos (by omega)]) (by rw [set_row h]) | exact pqM_wr (by unfold mSet; rw [if_neg (by omega), if_neg (by omega), if_neg (by omega), if_neg (by omega)]) (by rw [set_row h]) | (exfalso; omega))
                · refine B_X7_set_76 C (kk := ?_)
                  exact B_X7_set_89 C (hq := by first | (exfalso; omega) | exact pqM_wr (by unfold mSet; rw [if_neg (by omega), if_neg (by omega), if_neg (by omega), if_pos (by omega)]) (by rw [set_row h]) | exact pqM_wr (by unfold mSet; rw [if_neg (by omega), if_neg (by omega), if_neg (by omega), if_neg (by omega)]) (by rw [set_row h]) | (exfalso; omega))
              · exact B_X7_set_69 C (hq := by exact pqM_same (by unfold mSet; rw [if_neg (by omega), if_neg (by omega), if_pos (by omega)]))
          · refine B_X7_set_42 C (kt := fun c22 => absurd c22 (by decide)) (kf := fun c22 => ?_)
            exact B_X7_set_45 C (hq := by exact pqM_same (by unfold mSet; rw [if_neg (by omega), if_pos (by omega)]))
      · refine B_X7_set_23 C (kk := ?_)
        refine B_X7_set_29 C (kt := fun c23 => ?_) (kf := fun c23 => ?_)
        · refine B_X7_set_38 C (kk := ?_)
          refine B_X7_set_39 C (hM := ct_X7_in _ _ _) (kk := fun r24 h24 hq24 => ?_)
          obtain ⟨rfl, ⟨rfl, c24⟩ | ⟨rfl, c24⟩⟩ := hq24
          · refine B_X7_set_42 C (kt := fun c25 => ?_) (kf := fun c25 => absurd c25 (by decide))
            refine B_X7_set_48 C (kt := fun c26 => ?_) (kf := fun c26 => ?_)
            · refine B_X7_set_72 C (kt := fun c27 => ?_) (kf := fun c27 => ?_)
              · refine B_X7_set_84 C (kk := ?_)
                exact B_X7_set_89 C (hq := by first | (exfalso; omega) | exact pqM_wr (by unfold mSet; rw [if_neg (by omega), if_neg (by omega), if_neg (by omega), if_pos (by omega)]) (by rw [set_row h]) | exact pqM_wr (by unfold mSet; rw [if_neg (by omega), if_neg (by omega), if_neg (by omega), if_neg (by omega)]) (by rw [set_row h]) | (exfalso; omega))
              · refine B_X7_set_76 C (kk := ?_)
                exact B_X7_set_89 C (hq := by first | (exfalso; omega) | exact pqM_wr (by unfold mSet; rw [if_neg (by omega), if_neg (by omega), if_neg (by omega), if_pos (by omega)]) (by rw [set_row h]) | exact pqM_wr (by unfold mSet; rw [if_neg (by omega), if_neg (by omega), if_neg (by omega), if_neg (by omega)]) (by rw [set_row h]) | (exfalso; omega))
            · refine B_X7_set_52 C (hM := ct_X7_size _ _ _) (kk := fun r28 h28 hq28 => ?_)
              obtain ⟨rfl, rfl⟩ := hq28
              refine B_X7_set_65 C (kt := fun c29 => ?_) (kf := fun c29 => ?_)
              · refine B_X7_set_72 C (kt := fun c30 => ?_) (kf := fun c30 => ?_)
                · refine B_X7_set_84 C (kk := ?_)
                  exact B_X7_set_89 C (hq := by first | (exfalso; omega) | exact pqM_wr (by unfold mSet; rw [if_neg (by omega), if_neg (by omega), if_neg (by omega), if_pos (by omega)]) (by rw [set_row h]) | exact pqM_wr (by unfold mSet; rw [if_neg (by omega), if_neg (by omega), if_neg (by omega), if_neg (by omega)]) (by rw [set_row h]) | (exfalso; omega))
                · refine B_X7_set_76 C (kk := ?_)
                  exact B_X7_set_89 C (hq := by first | (exfalso; omega) | exact pqM_wr (by unfold mSet; rw [if_neg (by omega), if_neg (by omega), if_neg (by omega), if_pos (by omega)]) (by rw [set_row h]) | exact pqM_wr (by unfold mSet; rw [if_neg (by omega), if_neg (by omega), if_neg (by omega), if_neg (by omega)]) (by rw [set_row h]) | (exfalso; omega))
              · exact B_X7_set_69 C (hq := by exact pqM_same (by unfold mSet; rw [if_neg (by omega), if_neg (by omega), if_pos (by omega)]))
          · refine B_X7_set_42 C (kt := fun c31 => absurd c31 (by decide)) (kf := fun c31 => ?_)
            exact B_X7_set_45 C (hq := by exact pqM_same (by unfold mSet; rw [if_neg (by omega), if_pos (by omega)]))
        · refine B_X7_set_33 C (kk := ?_)
          refine B_X7_set_39 C (hM := ct_X7_in _ _ _) (kk := fun r32 h32 hq32 => ?_)
          obtain ⟨rfl, ⟨rfl, c32⟩ | ⟨rfl, c32⟩⟩ := hq32
          · refine B_X7_set_42 C (kt := fun c33 => ?_) (kf := fun c33 => absurd c33 (by decide))
            refine B_X7_set_48 C (kt := fun c34 => ?_) (kf := fun c34 => ?_)
            · refine B_X7_set_72 C (kt := fun c35 => ?_) (kf := fun c35 => ?_)
              · refine B_X7_set_84 C (kk := ?_)
                exact B_X7_set_89 C (hq := by first | (exfalso; omega) | exact pqM_wr (by unfold mSet; rw [if_neg (by omega), if_neg (by omega), if_neg (by omega), if_pos (by omega)]) (by rw [set_row h]) | exact pqM_wr (by unfold mSet; rw [if_neg (by omega), if_neg (by omega), if_neg (by omega), if_neg (by omega)]) (by rw [set_row h]) | (exfalso; omega))
              · refine B_X7_set_76 C (kk := ?_)
                exact B_X7_set_89 C (hq := by first | (exfalso; omega) | exact pqM_wr (by unfold mSet; rw [if_neg (by omega), if_neg (by omega), if_neg (by omega), if_pos (by omega)]) (by rw [set_row h]) | exact pqM_wr (by unfold mSet; rw [if_neg (by omega), if_neg (by omega), if_neg (by omega), if_neg (by omega)]) (by rw [set_row h]) | (exfalso; omega))
            · refine B_X7_set_52 C (hM := ct_X7_size _ _ _) (kk := fun r36 h36 hq36 => ?_)
              obtain ⟨rfl, rfl⟩ := hq36
              refine B_X7_set_65 C (kt := fun c37 => ?_) (kf := fun c37 => ?_)
              · refine B_X7_set_72 C (kt := fun c38 => ?_) (kf := fun c38 => ?_)
                · refine B_X7_set_84 C (kk := ?_)
                  exact B_X7_set_89 C (hq := by first | (exfalso; omega) | exact pqM_wr (by unfold mSet; rw [if_neg (by omega), if_neg (by omega), if_neg (by omega), if_pos (by omega)]) (by rw [set_row h]) | exact pqM_wr (by unfold mSet; rw [if_neg (by omega), if_neg (by omega), if_neg (by omega), if_neg (by omega)]) (by rw [set_row h]) | (exfalso; omega))
                · refine B_X7_set_76 C (kk := ?_)
                  exact B_X7_set_89 C (hq := by first | (exfalso; omega) | exact pqM_wr (by unfold mSet; rw [if_neg (by omega), if_neg (by omega), if_neg (by omega), if_pos (by omega)]) (by rw [set_row h]) | exact pqM_wr (by unfold mSet; rw [if_neg (by omega), if_neg (by omega), if_neg (by omega), if_neg (by omega)]) (by rw [set_row h]) | (exfalso; omega))
              · exact B_X7_set_69 C (hq := by exact pqM_same (by unfold mSet; rw [if_neg (by omega), if_neg (by omega), if_pos (by omega)]))
          · refine B_X7_set_42 C (kt := fun c39 => absurd c39 (by decide)) (kf := fun c39 => ?_)
            exact B_X7_set_45 C (hq := by exact pqM_same (by unfold mSet; rw [if_neg (by omega), if_pos (by omega)]))
    · refine B_X7_set_15 C (kt := fun c40 => ?_) (kf := fun c40 => absurd c40 (by decide))
      exact B_X7_set_45 C (hq := by exact pqM_same (by unfold mSet; rw [if_neg (by omega), if_pos (by omega)]))
  · refine B_X7_set_4 C (kt := fun c41 => absurd c41 (by decide)) (kf := fun c41 => ?_)
    exact B_X7_set_7 C (hq := by exact pqM_same (by unfold mSet; rw [if_pos (by omega)]))
