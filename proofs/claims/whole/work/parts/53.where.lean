/-! the reference: where, offer, take -/
theorem ct_X7_where (G : Gx) (l : Launch) (h : PH) {d : Int} (gd : pR d) {nm : Int} (gnm : pR nm) {t : Int} (gt : pR t) {wh : Int} (gwh : pR wh) (hm : MF h) (hS : OkS (ph_I h 135)) : CT_X7_where G l [.inr 134, .inl d, .inl nm, .inl t, .inl wh] h (pqA (WhereAns (ph_I h 135) d nm t wh) h) := by
  obtain ⟨⟨mt0, mr0, mr1, mr2, mr3, mr8, mr9, mr10⟩, ⟨mt1, mt2, mt3, mt4, mt5, mt6, mt7⟩, ⟨ml1, ml2, ml3, ml4, ml5, ml6, ml7⟩⟩ := id hm
  obtain ⟨hs, hb, hmany, hD, hPp⟩ := id hS
  have hpb := pOf_b (st := ph_I h 135) nm hmany.1
  refine ct_intro rfl (Nat.le_of_ble_eq_true rfl) (fun X hX C => ?_)
  refine B_X7_where_0 C (hM := (show CT_X7_passOf G X.2.1 [.inr 134, .inl nm] h (pqI (pOf (ph_I h 135) nm) h) from ct_X7_passOf _ _ _ hm gnm hb hmany.1 hmany.2)) (kk := fun rr h' hq => ?_)
  obtain ⟨rfl, rfl⟩ := hq
  refine B_X7_where_5 C (hM := ct_X7_isDish _ _ _) (kk := fun rr h' hq => ?_)
  obtain ⟨rfl, ⟨rfl, c1⟩ | ⟨rfl, c1⟩⟩ := hq
  · refine B_X7_where_11 C (kt := fun c2 => absurd c2 (by decide)) (kf := fun c2 => ?_)
    refine B_X7_where_14 C (kt := fun c3 => ?_) (kf := fun c3 => ?_)
    · refine B_X7_where_21 C (hM := ct_X7_isTick _ _ _) (kk := fun rr h' hq => ?_)
      obtain ⟨rfl, ⟨rfl, c4⟩ | ⟨rfl, c4⟩⟩ := hq
      · refine B_X7_where_25 C (kt := fun c => absurd c (by decide)) (kf := fun c => ?_)
        refine B_X7_where_28 C (hM := ct_X7_in _ _ _) (kk := fun rr h' hq => ?_)
        obtain ⟨rfl, ⟨rfl, c5⟩ | ⟨rfl, c5⟩⟩ := hq
        · refine B_X7_where_35 C (kt := fun c => ?_) (kf := fun c => absurd c (by decide))
          refine B_X7_where_41 C (hM := ct_X7_isOpen _ _ _ hm hb) (kk := fun rr h' hq => ?_)
          obtain ⟨rfl, ⟨rfl, CO⟩ | ⟨rfl, CO⟩⟩ := hq
          · refine B_X7_where_47 C (kt := fun c6 => ?_) (kf := fun c6 => absurd c6 (by decide))
            refine B_X7_where_53 C (hM := ct_X7_layAll _ _ _ hm hS c1 ⟨by omega, by omega⟩) (kk := fun rr h' hq => ?_)
            obtain ⟨rfl, row, rfl, hF⟩ := hq
            obtain ⟨g1, g2, g3, g4, g5⟩ := hD d (by omega) (by omega)
            obtain ⟨g6, g7⟩ := hPp (pOf (ph_I h 135) nm) (by omega) (by omega)
            have hfm := sLay_form (st := ph_I h 135) (d := d) (p := (pOf (ph_I h 135) nm)) (f := 0) (n := (ph_I h 135 (Int.toNat (16 + (pOf (ph_I h 135) nm))))) g2 g3.1 g6.2 g7.2
            have hbd : -1000000 ≤ sLay (ph_I h 135) d (pOf (ph_I h 135) nm) 0 (ph_I h 135 (Int.toNat (16 + (pOf (ph_I h 135) nm)))) ∧ sLay (ph_I h 135) d (pOf (ph_I h 135) nm) 0 (ph_I h 135 (Int.toNat (16 + (pOf (ph_I h 135) nm)))) ≤ 800000 := by
              rcases hfm with h | ⟨s, q, e, a1, a2, a3, a4⟩ <;> omega
            have hlv : sLay (ph_I h 135) d (pOf (ph_I h 135) nm) 0 (ph_I h 135 (Int.toNat (16 + (pOf (ph_I h 135) nm)))) ≠ -1000000 → -9999 ≤ sLay (ph_I h 135) d (pOf (ph_I h 135) nm) 0 (ph_I h 135 (Int.toNat (16 + (pOf (ph_I h 135) nm)))) := fun z => by
              rcases hfm with h | ⟨s, q, e, a1, a2, a3, a4⟩
              · exact absurd h z
              · omega
            clear hfm
            obtain ⟨⟨zt0, zr0, zr1, zr2, zr3, zr8, zr9, zr10⟩, ⟨zt1, zt2, zt3, zt4, zt5, zt6, zt7⟩, ⟨zl1, zl2, zl3, zl4, zl5, zl6, zl7⟩⟩ := (show MF (ph_rowI (layH h d (pOf (ph_I h 135) nm) 0 (ph_I h 135 (Int.toNat (16 + (pOf (ph_I h 135) nm))))) 138 row) from hm)
            refine B_X7_where_60 C (kt := fun c9 => ?_) (kf := fun c9 => ?_)
            · exact B_X7_where_90 C (hq := ⟨_, rfl, Or.inr ⟨⟨c1, by omega⟩, Or.inr ⟨⟨c4, c5⟩, Or.inr ⟨CO, Or.inl ⟨Or.inl c9, rfl⟩⟩⟩⟩, Scr.lay h d (pOf (ph_I h 135) nm) 0 _ row⟩)
            · have hl0 := Liv_start c9
              have hlb0 : ph_I h 135 (Int.toNat (304 + d)) ≤ lastT (ph_I h 135) (pOf (ph_I h 135) nm) ∧ lastT (ph_I h 135) (pOf (ph_I h 135) nm) ≤ 75 ∧ 0 ≤ lastT (ph_I h 135) (pOf (ph_I h 135) nm) := ⟨hl0.2.1, by unfold lastT; omega, by unfold lastT; omega⟩
              have hlast : CT_X7_lastTick G X.2.1 [.inr 134] (ph_rowI (layH h d (pOf (ph_I h 135) nm) 0 (ph_I h 135 (Int.toNat (16 + (pOf (ph_I h 135) nm))))) 138 row) (pqI (lastT (ph_I h 135) (pOf (ph_I h 135) nm)) (ph_rowI (layH h d (pOf (ph_I h 135) nm) 0 (ph_I h 135 (Int.toNat (16 + (pOf (ph_I h 135) nm))))) 138 row)) := by
                have := ct_X7_lastTickV (p := (pOf (ph_I h 135) nm)) (n := (ph_I h 135 (Int.toNat (16 + (pOf (ph_I h 135) nm))))) (v := ph_I h 135 (Int.toNat (8 + (pOf (ph_I h 135) nm)))) G X.2.1 (ph_rowI (layH h d (pOf (ph_I h 135) nm) 0 (ph_I h 135 (Int.toNat (16 + (pOf (ph_I h 135) nm))))) 138 row) hm rfl rfl rfl (by omega)
                exact this
              refine B_X7_where_69 C (r2 := 135) (x8 := ph_I h 135 (Int.toNat (304 + d))) (e9 := rfl) (hM := hlast) (kk := fun rr h' hq => ?_)
              obtain ⟨rfl, rfl⟩ := hq
              refine B_X7_where_84 C (hM := ct_X7_in _ _ _) (kk := fun rr h' hq => ?_)
              obtain ⟨rfl, ⟨rfl, c10⟩ | ⟨rfl, c10⟩⟩ := hq
              · refine B_X7_where_87 C (kt := fun c11 => ?_) (kf := fun c11 => absurd c11 (by decide))
                refine B_X7_where_93 C (t1 := hm.1.1) (hM := ct_X7_walk (d := d) (p := (pOf (ph_I h 135) nm)) (f := 0) (n := (ph_I h 135 (Int.toNat (16 + (pOf (ph_I h 135) nm))))) _ _ (ph_rowI (layH h d (pOf (ph_I h 135) nm) 0 (ph_I h 135 (Int.toNat (16 + (pOf (ph_I h 135) nm))))) 138 row) hm hs hb rfl rfl rfl rfl c1 g1 g2 g3 g4 g5 (by omega) (by omega) g7 g6 (hF hl0.1) c9) (kk := fun rr h' hq => ?_)
                obtain ⟨rfl, r1, r2, r3, rfl, w1, w2, w3, w4⟩ := hq
                have hP : PathW (ph_I h 135) d (pOf (ph_I h 135) nm) 0 (ph_I h 135 (Int.toNat (16 + (pOf (ph_I h 135) nm)))) r1 r2 := ⟨w1, w2, w3, fun t a b => (w4 t a b).2⟩
                have hsc : Scr h (WH (ph_rowI (layH h d (pOf (ph_I h 135) nm) 0 (ph_I h 135 (Int.toNat (16 + (pOf (ph_I h 135) nm))))) 138 row) r1 r2 r3) := (Scr.lay h d (pOf (ph_I h 135) nm) 0 _ row).wk r1 r2 r3
                have hr3 : ∀ t : Int, ph_I h 135 (Int.toNat (304 + d)) ≤ t → t ≤ lastT (ph_I h 135) (pOf (ph_I h 135) nm) → r3 (Int.toNat t) = bitsW (ph_I h 135) (pOf (ph_I h 135) nm) r1 r2 (Int.toNat t) := fun t a b => by
                  have z := (w4 t a b).1
                  rw [z]
                  unfold bitsW
                  rw [show ((Int.toNat t : Nat) : Int) = t by omega]
                  rfl
                have hmw : MF (WH (ph_rowI (layH h d (pOf (ph_I h 135) nm) 0 (ph_I h 135 (Int.toNat (16 + (pOf (ph_I h 135) nm))))) 138 row) r1 r2 r3) := hm
                have y4 : ph_I (WH (ph_rowI (layH h d (pOf (ph_I h 135) nm) 0 (ph_I h 135 (Int.toNat (16 + (pOf (ph_I h 135) nm))))) 138 row) r1 r2 r3) 134 4 = d := rfl
                have y5 : ph_I (WH (ph_rowI (layH h d (pOf (ph_I h 135) nm) 0 (ph_I h 135 (Int.toNat (16 + (pOf (ph_I h 135) nm))))) 138 row) r1 r2 r3) 134 5 = (pOf (ph_I h 135) nm) := rfl
                have y6 : ph_I (WH (ph_rowI (layH h d (pOf (ph_I h 135) nm) 0 (ph_I h 135 (Int.toNat (16 + (pOf (ph_I h 135) nm))))) 138 row) r1 r2 r3) 134 6 = (ph_I h 135 (Int.toNat (16 + (pOf (ph_I h 135) nm)))) := rfl
                have y9 : ∀ j, ph_I (WH (ph_rowI (layH h d (pOf (ph_I h 135) nm) 0 (ph_I h 135 (Int.toNat (16 + (pOf (ph_I h 135) nm))))) 138 row) r1 r2 r3) 139 j = r1 j := fun j => rfl
                have y10 : ∀ j, ph_I (WH (ph_rowI (layH h d (pOf (ph_I h 135) nm) 0 (ph_I h 135 (Int.toNat (16 + (pOf (ph_I h 135) nm))))) 138 row) r1 r2 r3) 140 j = r2 j := fun j => rfl
                have y11 : ∀ j, ph_I (WH (ph_rowI (layH h d (pOf (ph_I h 135) nm) 0 (ph_I h 135 (Int.toNat (16 + (pOf (ph_I h 135) nm))))) 138 row) r1 r2 r3) 141 j = r3 j := fun j => rfl
                have y12 : ph_I (WH (ph_rowI (layH h d (pOf (ph_I h 135) nm) 0 (ph_I h 135 (Int.toNat (16 + (pOf (ph_I h 135) nm))))) 138 row) r1 r2 r3) 135 = ph_I h 135 := rfl
                have yb : ∀ t : Int, ph_I h 135 (Int.toNat (304 + d)) ≤ t → t ≤ lastT (ph_I h 135) (pOf (ph_I h 135) nm) → pR (ph_I (WH (ph_rowI (layH h d (pOf (ph_I h 135) nm) 0 (ph_I h 135 (Int.toNat (16 + (pOf (ph_I h 135) nm))))) 138 row) r1 r2 r3) 141 (Int.toNat t)) := fun t a b => by
                  rw [y11, hr3 t a b]
                  unfold bitsW bitS pR
                  split <;> omega
                generalize (WH (ph_rowI (layH h d (pOf (ph_I h 135) nm) 0 (ph_I h 135 (Int.toNat (16 + (pOf (ph_I h 135) nm))))) 138 row) r1 r2 r3) = hw at hsc hmw y4 y5 y6 y9 y10 y11 y12 yb ⊢
                obtain ⟨⟨xt0, xr0, xr1, xr2, xr3, xr8, xr9, xr10⟩, ⟨xt1, xt2, xt3, xt4, xt5, xt6, xt7⟩, ⟨xl1, xl2, xl3, xl4, xl5, xl6, xl7⟩⟩ := id hmw
                have hlt : ph_I h 135 (Int.toNat (8 + (pOf (ph_I h 135) nm))) + (ph_I h 135 (Int.toNat (16 + (pOf (ph_I h 135) nm)))) - 1 = lastT (ph_I h 135) (pOf (ph_I h 135) nm) := rfl
                have hlb : ph_I h 135 (Int.toNat (304 + d)) ≤ lastT (ph_I h 135) (pOf (ph_I h 135) nm) ∧ lastT (ph_I h 135) (pOf (ph_I h 135) nm) ≤ 75 ∧ 0 ≤ lastT (ph_I h 135) (pOf (ph_I h 135) nm) := ⟨hl0.2.1, by omega, by omega⟩
                have hfin : ∀ v, (v = if wh = 0 then r1 (Int.toNat t) + ph_I h 135 (Int.toNat (308 + d)) else if wh = 1 then r2 (Int.toNat t) else bitsW (ph_I h 135) (pOf (ph_I h 135) nm) r1 r2 (Int.toNat t)) → pqA (WhereAns (ph_I h 135) d nm t wh) h (some (.inl v)) hw := fun v hv => ⟨v, rfl, Or.inr ⟨⟨c1, by omega⟩, Or.inr ⟨⟨c4, c5⟩, Or.inr ⟨CO, Or.inr ⟨fun z => z.elim c9 (fun q => q c10), r1, r2, hP, hv⟩⟩⟩⟩, hsc⟩
                have hbit := hr3 t c10.1 c10.2
                refine B_X7_where_99 C (kt := fun c12 => ?_) (kf := fun c12 => ?_)
                · refine B_X7_where_124 C (kt := fun c13 => ?_) (kf := fun c13 => ?_)
                  · refine B_X7_where_139 C (r2 := 141) (x8 := bitsW (ph_I h 135) (pOf (ph_I h 135) nm) r1 r2 (Int.toNat t)) (e9 := by rw [y11]; exact hbit) (q10 := by unfold bitsW bitS pR; split <;> omega) (kt := fun c14 => ?_) (kf := fun c14 => ?_)
                    · refine B_X7_where_152 C (kk := ?_)
                      exact B_X7_where_153 C (hq := hfin _ (by rw [if_neg c12, if_neg c13, c14]))
                    · refine B_X7_where_148 C (kk := ?_)
                      refine B_X7_where_153 C (hq := hfin _ ?_)
                      rw [if_neg c12, if_neg c13]
                      unfold bitsW bitS at c14 ⊢
                      split at c14
                      · next q => rw [if_pos q]
                      · exact absurd rfl c14
                  · refine B_X7_where_130 C (r2 := 140) (kk := ?_)
                    exact B_X7_where_153 C (hq := hfin _ (by rw [if_neg c12, if_pos c13, y10]))
                · refine B_X7_where_104 C (r2 := 139) (r11 := 135) (kk := ?_)
                  exact B_X7_where_153 C (hq := hfin _ (by rw [if_pos c12, y9, y12]))
              · refine B_X7_where_87 C (kt := fun c11 => absurd rfl c11) (kf := fun c11 => ?_)
                exact B_X7_where_90 C (hq := ⟨_, rfl, Or.inr ⟨⟨c1, by omega⟩, Or.inr ⟨⟨c4, c5⟩, Or.inr ⟨CO, Or.inl ⟨Or.inr c10, rfl⟩⟩⟩⟩, Scr.lay h d (pOf (ph_I h 135) nm) 0 _ row⟩)
          · refine B_X7_where_47 C (kt := fun c6 => absurd rfl c6) (kf := fun c6 => ?_)
            exact B_X7_where_50 C (hq := ⟨_, rfl, Or.inr ⟨⟨c1, by omega⟩, Or.inr ⟨⟨c4, c5⟩, Or.inl ⟨CO, rfl⟩⟩⟩, Scr.rf h⟩)
        · refine B_X7_where_35 C (kt := fun c => absurd rfl c) (kf := fun c => ?_)
          exact B_X7_where_38 C (hq := ⟨_, rfl, Or.inr ⟨⟨c1, by omega⟩, Or.inl ⟨fun z => c5 z.2, rfl⟩⟩, Scr.rf h⟩)
      · refine B_X7_where_25 C (kt := fun c => ?_) (kf := fun c => absurd rfl c)
        exact B_X7_where_38 C (hq := ⟨_, rfl, Or.inr ⟨⟨c1, by omega⟩, Or.inl ⟨fun z => c4 z.1, rfl⟩⟩, Scr.rf h⟩)
    · exact B_X7_where_19 C (hq := ⟨_, rfl, Or.inl ⟨fun z => by have := z.2; omega, rfl⟩, Scr.rf h⟩)
  · refine B_X7_where_11 C (kt := fun c2 => ?_) (kf := fun c2 => absurd rfl c2)
    exact B_X7_where_19 C (hq := ⟨_, rfl, Or.inl ⟨fun z => c1 z.1, rfl⟩, Scr.rf h⟩)
theorem sOf_b {st : ST} {p : Int} (hS : OkS st) (p0 : 0 ≤ p ∧ p < st 484) : ∀ k : Nat, k ≤ 4 → ((sOf st p k).1 = -6 ∧ (sOf st p k).2 = -1000000) ∨ (0 ≤ (sOf st p k).1 ∧ (sOf st p k).1 < k ∧ -9999 ≤ (sOf st p k).2 ∧ (sOf st p k).2 ≤ 800000 ∧ (sOf st p k).2 = sVal st (sOf st p k).1 p)
  | 0, _ => Or.inl ⟨rfl, rfl⟩
  | k + 1, hk => by
    have ih := sOf_b hS p0 k (by omega)
    obtain ⟨s1, s2, s3, s4, s5⟩ := id hS
    obtain ⟨g1, g2, g3, g4, g5⟩ := s4 k (by omega) (by omega)
    obtain ⟨g6, g7⟩ := s5 p p0.1 p0.2
    have hfm := sLay_form (st := st) (d := (k : Int)) (p := p) (f := 0) (n := st (Int.toNat (16 + p))) g2 g3.1 g6.2 g7.2
    unfold sOf
    split
    · next q =>
      refine Or.inr ⟨by show (0 : Int) ≤ k; omega, by show (k : Int) < _; omega, ?_, ?_, rfl⟩
      · show -9999 ≤ sLay st k p 0 _
        rcases hfm with z | ⟨s, q2, e, a1, a2, a3, a4⟩
        · rcases ih with ⟨i1, i2⟩ | ⟨i1, i2, i3, i4, i5⟩ <;> omega
        · omega
      · show sLay st k p 0 _ ≤ _
        rcases hfm with z | ⟨s, q2, e, a1, a2, a3, a4⟩ <;> omega
    · rcases ih with h | ⟨i1, i2, i3, i4, i5⟩
      · exact Or.inl h
      · exact Or.inr ⟨i1, by omega, i3, i4, i5⟩
def mOffer (st : ST) (nm wh : Int) : Int := if pOf st nm < 0 then -1 else if ¬ (0 ≤ wh ∧ wh ≤ 1) then -2 else if ¬ (0 < st (Int.toNat (16 + pOf st nm)) ∧ st (Int.toNat (24 + pOf st nm)) < 0) then -3 else if (sOf st (pOf st nm) 4).1 < 0 ∨ wh = 0 then (sOf st (pOf st nm) 4).1 else ((sOf st (pOf st nm) 4).2 + 10000 - 1) / 10000
theorem ct_X7_offer (G : Gx) (l : Launch) (h : PH) {nm : Int} (gnm : pR nm) {wh : Int} (gwh : pR wh) (hm : MF h) (hS : OkS (ph_I h 135)) : CT_X7_offer G l [.inr 134, .inl nm, .inl wh] h (pqS (mOffer (ph_I h 135) nm wh) h) := by
  obtain ⟨⟨mt0, mr0, mr1, mr2, mr3, mr8, mr9, mr10⟩, ⟨mt1, mt2, mt3, mt4, mt5, mt6, mt7⟩, ⟨ml1, ml2, ml3, ml4, ml5, ml6, ml7⟩⟩ := id hm
  obtain ⟨hs, hb, hmany, hD, hPp⟩ := id hS
  have hpb := pOf_b (st := ph_I h 135) nm hmany.1
  refine ct_intro rfl (Nat.le_of_ble_eq_true rfl) (fun X hX C => ?_)
  refine B_X7_offer_0 C (hM := (show CT_X7_passOf G X.2.1 [.inr 134, .inl nm] h (pqI (pOf (ph_I h 135) nm) h) from ct_X7_passOf _ _ _ hm gnm hb hmany.1 hmany.2)) (kk := fun rr h' hq => ?_)
  obtain ⟨rfl, rfl⟩ := hq
  refine B_X7_offer_5 C (kt := fun c1 => ?_) (kf := fun c1 => ?_)
  · refine B_X7_offer_12 C (hM := ct_X7_in _ _ _) (kk := fun rr h' hq => ?_)
    obtain ⟨rfl, ⟨rfl, c2⟩ | ⟨rfl, c2⟩⟩ := hq
    · refine B_X7_offer_18 C (kt := fun c => ?_) (kf := fun c => absurd c (by decide))
      refine B_X7_offer_24 C (hM := ct_X7_isOpen _ _ _ hm hb) (kk := fun rr h' hq => ?_)
      obtain ⟨rfl, ⟨rfl, CO⟩ | ⟨rfl, CO⟩⟩ := hq
      · refine B_X7_offer_29 C (kt := fun c => ?_) (kf := fun c => absurd c (by decide))
        refine B_X7_offer_35 C (hM := ct_X7_offerOf _ _ _ hm hS ⟨c1, by omega⟩) (kk := fun rr hh hq => ?_)
        obtain ⟨rfl, hsc, hv⟩ := hq
        have hob := sOf_b hS (p := (pOf (ph_I h 135) nm)) ⟨c1, by omega⟩ 4 (by omega)
        refine B_X7_offer_40 C (q1 := by unfold pR; omega) (kt := fun c3 => ?_) (kf := fun c3 => ?_)
        · refine B_X7_offer_51 C (kk := ?_)
          exact B_X7_offer_63 C (hq := ⟨by unfold mOffer; rw [if_neg (by omega), if_neg (by omega), if_neg (fun z => z CO), if_pos (Or.inl c3)], hsc⟩)
        · refine B_X7_offer_47 C (kt := fun c4 => ?_) (kf := fun c4 => ?_)
          · refine B_X7_offer_56 C (t1 := (hsc.mf hm).1.1) (x2 := (sOf (ph_I h 135) (pOf (ph_I h 135) nm) 4).2) (e3 := hv) (hM := ct_X7_seenOf _ _ _ (ga := by unfold pR; omega) (lo := by omega) (hi := by omega)) (kk := fun rr h' hq => ?_)
            obtain ⟨rfl, rfl⟩ := hq
            exact B_X7_offer_63 C (hq := ⟨by unfold mOffer; rw [if_neg (by omega), if_neg (by omega), if_neg (fun z => z CO), if_neg (by omega)], hsc⟩)
          · refine B_X7_offer_51 C (kk := ?_)
            exact B_X7_offer_63 C (hq := ⟨by unfold mOffer; rw [if_neg (by omega), if_neg (by omega), if_neg (fun z => z CO), if_pos (Or.inr c4)], hsc⟩)
      · refine B_X7_offer_29 C (kt := fun c => absurd rfl c) (kf := fun c => ?_)
        exact B_X7_offer_32 C (hq := ⟨by unfold mOffer; rw [if_neg (by omega), if_neg (by omega), if_pos CO], Scr.rf h⟩)
    · refine B_X7_offer_18 C (kt := fun c => absurd rfl c) (kf := fun c => ?_)
      exact B_X7_offer_21 C (hq := ⟨by unfold mOffer; rw [if_neg (by omega), if_pos c2], Scr.rf h⟩)
  · exact B_X7_offer_10 C (hq := ⟨by unfold mOffer; rw [if_pos (by omega)], Scr.rf h⟩)
def TakeR (st : ST) (d nm v : Int) (st' : ST) : Prop := (¬ (isD d ∧ 0 ≤ pOf st nm) ∧ v = -1 ∧ st' = st) ∨ ((isD d ∧ 0 ≤ pOf st nm) ∧ ((¬ opn st (pOf st nm) ∧ v = -3 ∧ st' = st) ∨ (opn st (pOf st nm) ∧ ((sVal st d (pOf st nm) = -1000000 ∧ v = -5 ∧ st' = st) ∨ (sVal st d (pOf st nm) ≠ -1000000 ∧ v = (sVal st d (pOf st nm) + 10000 - 1) / 10000 ∧ ∃ r1 r2, PathW st d (pOf st nm) 0 (st (Int.toNat (16 + pOf st nm))) r1 r2 ∧ st' = sTk st d (pOf st nm) r1 r2)))))
def pqT (A : Int → ST → Prop) (h : PH) : Option PV → PH → Prop := fun r h' => ∃ v st', r = some (.inl v) ∧ A v st' ∧ ∃ hw, Scr h hw ∧ h' = ph_rowI hw 135 st'
theorem pqT_same {A : Int → ST → Prop} {v : Int} {h h' : PH} (a : A v (ph_I h 135)) (s : Scr h h') : pqT A h (some (.inl v)) h' := ⟨v, _, rfl, a, h', s, by rw [← s.st]; exact (ph_row_id h' 135).symm⟩
theorem ct_X7_take (G : Gx) (l : Launch) (h : PH) {d : Int} (gd : pR d) {nm : Int} (gnm : pR nm) (hm : MF h) (hS : OkS (ph_I h 135)) : CT_X7_take G l [.inr 134, .inl d, .inl nm] h (pqT (TakeR (ph_I h 135) d nm) h) := by
  obtain ⟨⟨mt0, mr0, mr1, mr2, mr3, mr8, mr9, mr10⟩, ⟨mt1, mt2, mt3, mt4, mt5, mt6, mt7⟩, ⟨ml1, ml2, ml3, ml4, ml5, ml6, ml7⟩⟩ := id hm
  obtain ⟨hs, hb, hmany, hD, hPp⟩ := id hS
  have hpb := pOf_b (st := ph_I h 135) nm hmany.1
  refine ct_intro rfl (Nat.le_of_ble_eq_true rfl) (fun X hX C => ?_)
  refine B_X7_take_0 C (hM := (show CT_X7_passOf G X.2.1 [.inr 134, .inl nm] h (pqI (pOf (ph_I h 135) nm) h) from ct_X7_passOf _ _ _ hm gnm hb hmany.1 hmany.2)) (kk := fun rr h' hq => ?_)
  obtain ⟨rfl, rfl⟩ := hq
  refine B_X7_take_5 C (hM := ct_X7_isDish _ _ _) (kk := fun rr h' hq => ?_)
  obtain ⟨rfl, ⟨rfl, c1⟩ | ⟨rfl, c1⟩⟩ := hq
  · refine B_X7_take_10 C (kt := fun c2 => absurd c2 (by decide)) (kf := fun c2 => ?_)
    refine B_X7_take_13 C (kt := fun c3 => ?_) (kf := fun c3 => ?_)
    · refine B_X7_take_19 C (hM := ct_X7_isOpen _ _ _ hm hb) (kk := fun rr h' hq => ?_)
      obtain ⟨rfl, ⟨rfl, CO⟩ | ⟨rfl, CO⟩⟩ := hq
      · refine B_X7_take_24 C (kt := fun c => absurd c (by decide)) (kf := fun c => ?_)
        refine B_X7_take_27 C (hM := ct_X7_takeBy _ _ _ hm hS c1 ⟨c3, by omega⟩) (kk := fun rr hh hq => ?_)
        rcases hq with ⟨z1, rfl, z3⟩ | ⟨z1, rfl, r1, r2, hw, z3, z4, rfl⟩
        · refine B_X7_take_33 C (kk := ?_)
          exact B_X7_take_38 C (hq := pqT_same (Or.inr ⟨⟨c1, c3⟩, Or.inr ⟨CO, Or.inl ⟨z1, rfl, rfl⟩⟩⟩) z3)
        · refine B_X7_take_33 C (kk := ?_)
          exact B_X7_take_38 C (hq := ⟨_, _, rfl, Or.inr ⟨⟨c1, c3⟩, Or.inr ⟨CO, Or.inr ⟨z1, rfl, r1, r2, z3, rfl⟩⟩⟩, hw, z4, rfl⟩)
      · refine B_X7_take_24 C (kt := fun c => ?_) (kf := fun c => absurd rfl c)
        refine B_X7_take_36 C (kk := ?_)
        exact B_X7_take_38 C (hq := pqT_same (Or.inr ⟨⟨c1, c3⟩, Or.inl ⟨CO, rfl, rfl⟩⟩) (Scr.rf h))
    · exact B_X7_take_17 C (hq := pqT_same (Or.inl ⟨fun z => c3 z.2, rfl, rfl⟩) (Scr.rf h))
  · refine B_X7_take_10 C (kt := fun c2 => ?_) (kf := fun c2 => absurd rfl c2)
    exact B_X7_take_17 C (hq := pqT_same (Or.inl ⟨fun z => c1 z.1, rfl, rfl⟩) (Scr.rf h))
