/-! the reference: way, where, offer, take -/
def isD (d : Int) : Prop := 0 ≤ d ∧ d ≤ 3
def opn (st : ST) (p : Int) : Prop := 0 < st (Int.toNat (16 + p)) ∧ st (Int.toNat (24 + p)) < 0
def lastT (st : ST) (p : Int) : Int := st (Int.toNat (8 + p)) + st (Int.toNat (16 + p)) - 1
def sVal (st : ST) (d p : Int) : Int := sLay st d p 0 (st (Int.toNat (16 + p)))
def bitsW (st : ST) (p : Int) (r1 r2 : Nat → Int) (j : Nat) : Int := bitS st p 0 (st (Int.toNat (16 + p))) (j : Int) (r1 j) (r2 j)
def wayV (st : ST) (d p wh : Int) (r1 r2 : Nat → Int) : Int :=
  if wh = 0 then (sVal st d p + 10000 - 1) / 10000 else if wh = 1 then 10000 * ((sVal st d p + 10000 - 1) / 10000) - sVal st d p
  else if wh = 2 then sT (bitsW st p r1 r2) 0 (st (Int.toNat (304 + d))) (Int.toNat (lastT st p + 1 - st (Int.toNat (304 + d)))) else if wh = 3 then sT (bitsW st p r1 r2) 1 (st (Int.toNat (304 + d))) (Int.toNat (lastT st p + 1 - st (Int.toNat (304 + d))))
  else if wh = 4 then r1 (Int.toNat (lastT st p)) + st (Int.toNat (308 + d)) else r2 (Int.toNat (lastT st p))
def WayAns (st : ST) (d nm wh v : Int) : Prop := (¬ (isD d ∧ 0 ≤ pOf st nm) ∧ v = -1) ∨ ((isD d ∧ 0 ≤ pOf st nm) ∧ ((¬ (0 ≤ wh ∧ wh ≤ 5) ∧ v = -2) ∨ ((0 ≤ wh ∧ wh ≤ 5) ∧ ((¬ opn st (pOf st nm) ∧ v = -3) ∨ (opn st (pOf st nm) ∧ ((sVal st d (pOf st nm) = -1000000 ∧ v = -6) ∨ (sVal st d (pOf st nm) ≠ -1000000 ∧ ∃ r1 r2, PathW st d (pOf st nm) 0 (st (Int.toNat (16 + pOf st nm))) r1 r2 ∧ v = wayV st d (pOf st nm) wh r1 r2)))))))
def WhereAns (st : ST) (d nm t wh v : Int) : Prop := (¬ (isD d ∧ 0 ≤ pOf st nm) ∧ v = -1) ∨ ((isD d ∧ 0 ≤ pOf st nm) ∧ ((¬ ((0 ≤ t ∧ t ≤ 79) ∧ (0 ≤ wh ∧ wh ≤ 2)) ∧ v = -2) ∨ (((0 ≤ t ∧ t ≤ 79) ∧ (0 ≤ wh ∧ wh ≤ 2)) ∧ ((¬ opn st (pOf st nm) ∧ v = -3) ∨ (opn st (pOf st nm) ∧ (((sVal st d (pOf st nm) = -1000000 ∨ ¬ (st (Int.toNat (304 + d)) ≤ t ∧ t ≤ lastT st (pOf st nm))) ∧ v = -6) ∨ (¬ (sVal st d (pOf st nm) = -1000000 ∨ ¬ (st (Int.toNat (304 + d)) ≤ t ∧ t ≤ lastT st (pOf st nm))) ∧ ∃ r1 r2, PathW st d (pOf st nm) 0 (st (Int.toNat (16 + pOf st nm))) r1 r2 ∧ v = if wh = 0 then r1 (Int.toNat t) + st (Int.toNat (308 + d)) else if wh = 1 then r2 (Int.toNat t) else bitsW st (pOf st nm) r1 r2 (Int.toNat t))))))))
def pqA (A : Int → Prop) (h : PH) : Option PV → PH → Prop := fun r h' => ∃ v, r = some (.inl v) ∧ A v ∧ Scr h h'
theorem sT_congr {a b : Nat → Int} {fl free : Int} : ∀ k : Nat, (∀ i : Nat, i < k → a (Int.toNat (free + i)) = b (Int.toNat (free + i))) → sT a fl free k = sT b fl free k
  | 0, _ => rfl
  | k + 1, h => by
    have ih := sT_congr (fl := fl) k (fun i hi => h i (by omega))
    unfold sT
    rw [ih, h k (by omega)]
theorem ct_X7_way (G : Gx) (l : Launch) (h : PH) {d : Int} (gd : pR d) {nm : Int} (gnm : pR nm) {wh : Int} (gwh : pR wh) (hm : MF h) (hS : OkS (ph_I h 135)) : CT_X7_way G l [.inr 134, .inl d, .inl nm, .inl wh] h (pqA (WayAns (ph_I h 135) d nm wh) h) := by
  obtain ⟨⟨mt0, mr0, mr1, mr2, mr3, mr8, mr9, mr10⟩, ⟨mt1, mt2, mt3, mt4, mt5, mt6, mt7⟩, ⟨ml1, ml2, ml3, ml4, ml5, ml6, ml7⟩⟩ := id hm
  obtain ⟨hs, hb, hmany, hD, hPp⟩ := id hS
  have hpb := pOf_b (st := ph_I h 135) nm hmany.1
  refine ct_intro rfl (Nat.le_of_ble_eq_true rfl) (fun X hX C => ?_)
  refine B_X7_way_0 C (hM := (show CT_X7_passOf G X.2.1 [.inr 134, .inl nm] h (pqI (pOf (ph_I h 135) nm) h) from ct_X7_passOf _ _ _ hm gnm hb hmany.1 hmany.2)) (kk := fun rr h' hq => ?_)
  obtain ⟨rfl, rfl⟩ := hq
  refine B_X7_way_5 C (hM := ct_X7_isDish _ _ _) (kk := fun rr h' hq => ?_)
  obtain ⟨rfl, ⟨rfl, c1⟩ | ⟨rfl, c1⟩⟩ := hq
  · refine B_X7_way_11 C (kt := fun c2 => absurd c2 (by decide)) (kf := fun c2 => ?_)
    refine B_X7_way_14 C (kt := fun c3 => ?_) (kf := fun c3 => ?_)
    · refine B_X7_way_21 C (hM := ct_X7_in _ _ _) (kk := fun rr h' hq => ?_)
      obtain ⟨rfl, ⟨rfl, c4⟩ | ⟨rfl, c4⟩⟩ := hq
      · refine B_X7_way_27 C (kt := fun c5 => ?_) (kf := fun c5 => absurd c5 (by decide))
        refine B_X7_way_33 C (hM := ct_X7_isOpen _ _ _ hm hb) (kk := fun rr h' hq => ?_)
        obtain ⟨rfl, ⟨rfl, CO⟩ | ⟨rfl, CO⟩⟩ := hq
        · refine B_X7_way_39 C (kt := fun c6 => ?_) (kf := fun c6 => absurd c6 (by decide))
          refine B_X7_way_45 C (hM := ct_X7_layAll _ _ _ hm hS c1 ⟨by omega, by omega⟩) (kk := fun rr h' hq => ?_)
          obtain ⟨rfl, row, rfl, hF⟩ := hq
          obtain ⟨g1, g2, g3, g4, g5⟩ := hD d (by omega) (by omega)
          obtain ⟨g6, g7⟩ := hPp (pOf (ph_I h 135) nm) (by omega) (by omega)
          have hfm := sLay_form (st := ph_I h 135) (d := d) (p := (pOf (ph_I h 135) nm)) (f := 0) (n := (ph_I h 135 (Int.toNat (16 + (pOf (ph_I h 135) nm))))) g2 g3.1 g6.2 g7.2
          have hbd : -1000000 ≤ sLay (ph_I h 135) d (pOf (ph_I h 135) nm) 0 (ph_I h 135 (Int.toNat (16 + (pOf (ph_I h 135) nm)))) ∧ sLay (ph_I h 135) d (pOf (ph_I h 135) nm) 0 (ph_I h 135 (Int.toNat (16 + (pOf (ph_I h 135) nm)))) ≤ 800000 := by
            rcases hfm with h | ⟨s, q, e, a1, a2, a3, a4⟩ <;> omega
          have hlv : sLay (ph_I h 135) d (pOf (ph_I h 135) nm) 0 (ph_I h 135 (Int.toNat (16 + (pOf (ph_I h 135) nm)))) ≠ -1000000 → -9999 ≤ sLay (ph_I h 135) d (pOf (ph_I h 135) nm) 0 (ph_I h 135 (Int.toNat (16 + (pOf (ph_I h 135) nm)))) := fun z => by
            rcases hfm with h | ⟨s, q, e, a1, a2, a3, a4⟩
            · exact absurd h z
            · omega
          clear hfm
          refine B_X7_way_52 C (kt := fun c9 => ?_) (kf := fun c9 => ?_)
          · have hl0 := Liv_start c9
            refine B_X7_way_64 C (t1 := hm.1.1) (hM := ct_X7_walk (d := d) (p := (pOf (ph_I h 135) nm)) (f := 0) (n := (ph_I h 135 (Int.toNat (16 + (pOf (ph_I h 135) nm))))) _ _ (ph_rowI (layH h d (pOf (ph_I h 135) nm) 0 (ph_I h 135 (Int.toNat (16 + (pOf (ph_I h 135) nm))))) 138 row) hm hs hb rfl rfl rfl rfl c1 g1 g2 g3 g4 g5 (by omega) (by omega) g7 g6 (hF hl0.1) c9) (kk := fun rr h' hq => ?_)
            obtain ⟨rfl, r1, r2, r3, rfl, w1, w2, w3, w4⟩ := hq
            have hP : PathW (ph_I h 135) d (pOf (ph_I h 135) nm) 0 (ph_I h 135 (Int.toNat (16 + (pOf (ph_I h 135) nm)))) r1 r2 := ⟨w1, w2, w3, fun t a b => (w4 t a b).2⟩
            have hsc : Scr h (WH (ph_rowI (layH h d (pOf (ph_I h 135) nm) 0 (ph_I h 135 (Int.toNat (16 + (pOf (ph_I h 135) nm))))) 138 row) r1 r2 r3) := (Scr.lay h d (pOf (ph_I h 135) nm) 0 _ row).wk r1 r2 r3
            have hr3 : ∀ t : Int, ph_I h 135 (Int.toNat (304 + d)) ≤ t → t ≤ lastT (ph_I h 135) (pOf (ph_I h 135) nm) → r3 (Int.toNat t) = bitsW (ph_I h 135) (pOf (ph_I h 135) nm) r1 r2 (Int.toNat t) := fun t a b => by
              have z := (w4 t a b).1
              rw [z]
              unfold bitsW
              rw [show ((Int.toNat t : Nat) : Int) = t by omega]
              rfl
            have hmw : MF (WH (ph_rowI (layH h d (pOf (ph_I h 135) nm) 0 (ph_I h 135 (Int.toNat (16 + (pOf (ph_I h 135) nm))))) 138 row) r1 r2 r3) := hm
            have y4 : ph_I (WH (ph_rowI (layH h d (pOf (ph_I h 135) nm) 0 (ph_I h 135 (Int.toNat (16 + (pOf (ph_I h 135) nm))))) 138 row) r1 r2 r3) 134 4 = d := rfl
            have y5 : ph_I (WH (ph_rowI (layH h d (pOf (ph_I h 135) nm) 0 (ph_I h 135 (Int.toNat (16 + (pOf (ph_I h 135) nm))))) 138 row) r1 r2 r3) 134 5 = (pOf (ph_I h 135) nm) := rfl
            have y6 : ph_I (WH (ph_rowI (layH h d (pOf (ph_I h 135) nm) 0 (ph_I h 135 (Int.toNat (16 + (pOf (ph_I h 135) nm))))) 138 row) r1 r2 r3) 134 6 = (ph_I h 135 (Int.toNat (16 + (pOf (ph_I h 135) nm)))) := rfl
            have y9 : ∀ j, ph_I (WH (ph_rowI (layH h d (pOf (ph_I h 135) nm) 0 (ph_I h 135 (Int.toNat (16 + (pOf (ph_I h 135) nm))))) 138 row) r1 r2 r3) 139 j = r1 j := fun j => rfl
            have y10 : ∀ j, ph_I (WH (ph_rowI (layH h d (pOf (ph_I h 135) nm) 0 (ph_I h 135 (Int.toNat (16 + (pOf (ph_I h 135) nm))))) 138 row) r1 r2 r3) 140 j = r2 j := fun j => rfl
            have y11 : ∀ j, ph_I (WH (ph_rowI (layH h d (pOf (ph_I h 135) nm) 0 (ph_I h 135 (Int.toNat (16 + (pOf (ph_I h 135) nm))))) 138 row) r1 r2 r3) 141 j = r3 j := fun j => rfl
            have y12 : ph_I (WH (ph_rowI (layH h d (pOf (ph_I h 135) nm) 0 (ph_I h 135 (Int.toNat (16 + (pOf (ph_I h 135) nm))))) 138 row) r1 r2 r3) 135 = ph_I h 135 := rfl
            have yb : ∀ t : Int, ph_I h 135 (Int.toNat (304 + d)) ≤ t → t ≤ lastT (ph_I h 135) (pOf (ph_I h 135) nm) → pR (ph_I (WH (ph_rowI (layH h d (pOf (ph_I h 135) nm) 0 (ph_I h 135 (Int.toNat (16 + (pOf (ph_I h 135) nm))))) 138 row) r1 r2 r3) 141 (Int.toNat t)) := fun t a b => by
              rw [y11, hr3 t a b]
              unfold bitsW bitS pR
              split <;> omega
            generalize (WH (ph_rowI (layH h d (pOf (ph_I h 135) nm) 0 (ph_I h 135 (Int.toNat (16 + (pOf (ph_I h 135) nm))))) 138 row) r1 r2 r3) = hw at hsc hmw y4 y5 y6 y9 y10 y11 y12 yb ⊢
            obtain ⟨⟨xt0, xr0, xr1, xr2, xr3, xr8, xr9, xr10⟩, ⟨xt1, xt2, xt3, xt4, xt5, xt6, xt7⟩, ⟨xl1, xl2, xl3, xl4, xl5, xl6, xl7⟩⟩ := id hmw
            have hlt : ph_I h 135 (Int.toNat (8 + (pOf (ph_I h 135) nm))) + (ph_I h 135 (Int.toNat (16 + (pOf (ph_I h 135) nm)))) - 1 = lastT (ph_I h 135) (pOf (ph_I h 135) nm) := rfl
            have hlb : ph_I h 135 (Int.toNat (304 + d)) ≤ lastT (ph_I h 135) (pOf (ph_I h 135) nm) ∧ lastT (ph_I h 135) (pOf (ph_I h 135) nm) ≤ 75 ∧ 0 ≤ lastT (ph_I h 135) (pOf (ph_I h 135) nm) := ⟨hl0.2.1, by omega, by omega⟩
            have hfin : ∀ v, v = wayV (ph_I h 135) d (pOf (ph_I h 135) nm) wh r1 r2 → pqA (WayAns (ph_I h 135) d nm wh) h (some (.inl v)) hw := fun v hv => ⟨v, rfl, Or.inr ⟨⟨c1, by omega⟩, Or.inr ⟨by omega, Or.inr ⟨CO, Or.inr ⟨c9, r1, r2, hP, hv⟩⟩⟩⟩, hsc⟩
            have hlast : CT_X7_lastTick G X.2.1 [.inr 134] hw (pqI (lastT (ph_I h 135) (pOf (ph_I h 135) nm)) hw) := by
              have := ct_X7_lastTickV (p := (pOf (ph_I h 135) nm)) (n := (ph_I h 135 (Int.toNat (16 + (pOf (ph_I h 135) nm))))) (v := ph_I h 135 (Int.toNat (8 + (pOf (ph_I h 135) nm)))) G X.2.1 hw hmw y5 y6 (by rw [y12]) (by omega)
              exact this
            have hv9 := hlv c9
            refine B_X7_way_70 C (kk := ?_)
            refine B_X7_way_71 C (k0 := fun c10 => ?_) (k1 := fun c10 => ?_) (k2 := fun c10 => ?_) (k3 := fun c10 => ?_) (k4 := fun c10 => ?_) (kd := fun c10 => ?_)
            · refine B_X7_way_104 C (hM := ct_X7_seenOf _ _ _) (kk := fun rr h' hq => ?_)
              obtain ⟨rfl, rfl⟩ := hq
              exact B_X7_way_109 C (hq := hfin _ (by unfold wayV; rw [if_pos c10]; rfl))
            · refine B_X7_way_110 C (hM := ct_X7_stepsOf _ _ _) (kk := fun rr h' hq => ?_)
              obtain ⟨rfl, rfl⟩ := hq
              exact B_X7_way_115 C (hq := hfin _ (by unfold wayV; rw [if_neg (by omega), if_pos c10]; rfl))
            · refine B_X7_way_116 C (hM := (ct_X7_seenTick (d := d) (p := (pOf (ph_I h 135) nm)) (n := (ph_I h 135 (Int.toNat (16 + (pOf (ph_I h 135) nm))))) (fl := 0) _ _ hw hmw y4 y5 y6 c1 (by omega) g7 (by omega) (by rw [y12]; exact g3) (by rw [y12]; exact g6) (by rw [y12]; exact hlb.1) (fun t a b => by rw [y12] at a b; exact yb t a b))) (kk := fun rr h' hq => ?_)
              obtain ⟨rfl, rfl⟩ := hq
              refine B_X7_way_121 C (hq := hfin _ ?_)
              unfold wayV
              rw [if_neg (by omega), if_neg (by omega), if_pos c10, y12, hlt]
              exact sT_congr _ (fun i hi => by rw [y11]; exact hr3 _ (by omega) (by omega))
            · refine B_X7_way_122 C (hM := (ct_X7_seenTick (d := d) (p := (pOf (ph_I h 135) nm)) (n := (ph_I h 135 (Int.toNat (16 + (pOf (ph_I h 135) nm))))) (fl := 1) _ _ hw hmw y4 y5 y6 c1 (by omega) g7 (by omega) (by rw [y12]; exact g3) (by rw [y12]; exact g6) (by rw [y12]; exact hlb.1) (fun t a b => by rw [y12] at a b; exact yb t a b))) (kk := fun rr h' hq => ?_)
              obtain ⟨rfl, rfl⟩ := hq
              refine B_X7_way_127 C (hq := hfin _ ?_)
              unfold wayV
              rw [if_neg (by omega), if_neg (by omega), if_neg (by omega), if_pos c10, y12, hlt]
              exact sT_congr _ (fun i hi => by rw [y11]; exact hr3 _ (by omega) (by omega))
            · refine B_X7_way_128 C (r2 := 139) (hM := hlast) (kk := fun rr h' hq => ?_)
              obtain ⟨rfl, rfl⟩ := hq
              refine B_X7_way_136 C (r8 := 135) (hq := hfin _ ?_)
              unfold wayV
              rw [if_neg (by omega), if_neg (by omega), if_neg (by omega), if_neg (by omega), if_pos c10, y9, y12]
            · refine B_X7_way_149 C (r2 := 140) (hM := hlast) (kk := fun rr h' hq => ?_)
              obtain ⟨rfl, rfl⟩ := hq
              refine B_X7_way_157 C (hq := hfin _ ?_)
              unfold wayV
              rw [if_neg (by omega), if_neg (by omega), if_neg (by omega), if_neg (by omega), if_neg (by omega), y10]
          · exact B_X7_way_61 C (hq := ⟨_, rfl, Or.inr ⟨⟨c1, by omega⟩, Or.inr ⟨by omega, Or.inr ⟨CO, Or.inl ⟨c9, rfl⟩⟩⟩⟩, Scr.lay h d (pOf (ph_I h 135) nm) 0 _ row⟩)
        · refine B_X7_way_39 C (kt := fun c6 => absurd rfl c6) (kf := fun c6 => ?_)
          exact B_X7_way_42 C (hq := ⟨_, rfl, Or.inr ⟨⟨c1, by omega⟩, Or.inr ⟨by omega, Or.inl ⟨CO, rfl⟩⟩⟩, Scr.rf h⟩)
      · refine B_X7_way_27 C (kt := fun c5 => absurd rfl c5) (kf := fun c5 => ?_)
        exact B_X7_way_30 C (hq := ⟨_, rfl, Or.inr ⟨⟨c1, by omega⟩, Or.inl ⟨by omega, rfl⟩⟩, Scr.rf h⟩)
    · exact B_X7_way_19 C (hq := ⟨_, rfl, Or.inl ⟨fun z => by have := z.2; omega, rfl⟩, Scr.rf h⟩)
  · refine B_X7_way_11 C (kt := fun c2 => ?_) (kf := fun c2 => absurd rfl c2)
    exact B_X7_way_19 C (hq := ⟨_, rfl, Or.inl ⟨fun z => c1 z.1, rfl⟩, Scr.rf h⟩)
