/-! the class: way, where -/
theorem ct_X6_way (G : Gx) (l : Launch) (h : PH) {st : ST} (hW : CW h st) {d : Int} (gd : pR d) {nm : Int} (gnm : pR nm) {wh : Int} (gwh : pR wh) : CT_X6_way G l [.inr 2, .inl d, .inl nm, .inl wh] h (KQ (fun v st' => WayAns st d nm wh v ∧ st' = st) h) := by
  obtain ⟨fx, hR, hS, h2, hY⟩ := id hW
  have xt2 : ph_T h 2 = 6 := fx.1.1
  have x20 : ph_R h 2 0 = 3 := fx.1.2.1
  have x23 : ph_R h 2 3 = 104 := fx.1.2.2.2.2
  have w3 : WS h 3 := fx.2.2.1.1
  have t3 : ph_T h 3 = 5 := w3.1.1
  have t4 : ph_T h 4 = 10 := w3.1.2.1
  have t5 : ph_T h 5 = 11 := w3.1.2.2.1
  have t6 : ph_T h 6 = 3 := w3.1.2.2.2.1
  have t7 : ph_T h 7 = 8 := w3.1.2.2.2.2
  have l4 : ph_L h 4 = 8 := w3.2.1.1
  have l5 : ph_L h 5 = 4 := w3.2.1.2.1
  have l7 : ph_L h 7 = 168 := w3.2.1.2.2
  have r30 : ph_R h 3 0 = 4 := w3.2.2.1.1
  have r31 : ph_R h 3 1 = 5 := w3.2.2.1.2.1
  have r32 : ph_R h 3 2 = 6 := w3.2.2.1.2.2.1
  have r33 : ph_R h 3 3 = 7 := w3.2.2.1.2.2.2
  have t104 : ph_T h 104 = 2 := fx.2.2.2.1.1
  have f1 : ph_I h 3 4 = st 484 := hR.1
  have sr6 : SR h 6 st := hR.2.2.2.1
  have hmany := hS.2.2.1
  have hb := hS.2.1
  refine ct_intro rfl (Nat.le_of_ble_eq_true rfl) (fun X hX C => ?_)
  by_cases hp : 0 ≤ pOf st nm
  · have pb : 0 ≤ pOf st nm ∧ pOf st nm < st 484 := by have := pOf_b (st := st) nm hmany.1; omega
    obtain ⟨hfs, hfr, fb1, fb2⟩ := hW.flt pb
    have ft0 : ph_T h (ph_R h 4 (Int.toNat (pOf st nm))) = 0 := hfs.1.1
    obtain ⟨⟨fi2, fi3, fi4, fi5, fi6⟩, fpt⟩ := id hfr
    have hPp := hS.2.2.2.2 _ pb.1 pb.2
    have h2p := h2.1 _ pb.1 pb.2
    refine B_X6_way_0 C (hM := ct_idxP _ _ _ hW gnm hp) (kk := fun r1 h1 hq1 => ?_)
    obtain ⟨rfl, rfl⟩ := hq1
    refine B_X6_way_8 C (hM := ct_X6_isDish _ _ _) (kk := fun r2 h2 hq2 => ?_)
    obtain ⟨rfl, ⟨rfl, c2⟩ | ⟨rfl, c2⟩⟩ := hq2
    · refine B_X6_way_14 C (kt := fun c3 => absurd c3 (by decide)) (kf := fun c3 => ?_)
      refine B_X6_way_17 C (q1 := by unfold pR; omega) (kt := fun c4 => ?_) (kf := fun c4 => ?_)
      · refine B_X6_way_24 C (hM := ct_X6_isIn _ _ _) (kk := fun r5 h5 hq5 => ?_)
        obtain ⟨rfl, ⟨rfl, c5⟩ | ⟨rfl, c5⟩⟩ := hq5
        · refine B_X6_way_30 C (kt := fun c6 => ?_) (kf := fun c6 => absurd c6 (by decide))
          refine B_X6_way_36 C (m11 := 10) (hM := ct_X0_isOpen _ _ _ ft0 fi4 fi5 (hb _) (hb _)) (kk := fun r7 h7 hq7 => ?_)
          obtain ⟨rfl, ⟨rfl, c7⟩ | ⟨rfl, c7⟩⟩ := hq7
          · refine B_X6_way_49 C (kt := fun c8 => ?_) (kf := fun c8 => absurd c8 (by decide))
            have hop : opn st (pOf st nm) := by unfold opn; omega
            have dd : 0 ≤ d ∧ d ≤ 3 := by omega
            obtain ⟨y, hy⟩ : ∃ y : Nat, y = 110 + 6 * Int.toNat d := ⟨_, rfl⟩
            have yb : 110 ≤ y ∧ y + 5 < 134 := by omega
            refine B_X6_way_55 C (r2 := 104) (r5 := 3) (r8 := 4) (m14 := 10) (r15 := ph_R h 4 (Int.toNat (pOf st nm))) (hM := ct_X2_bestWay _ _ _ hW dd pb hop.1 hy rfl) (kk := fun r9 h1 hq9 => ?_)
            have er := hq9.1
            subst er
            obtain ⟨-, hW1, hS1, hWc, h51, -, -⟩ := hq9.cw hW dd pb hop.1 hy
            have xt2a : ph_T h1 2 = 6 := hW1.1.1.1
            have x20a : ph_R h1 2 0 = 3 := hW1.1.1.2.1
            have x23a : ph_R h1 2 3 = 104 := hW1.1.1.2.2.2.2
            have t3a : ph_T h1 3 = 5 := hW1.1.2.2.1.1.1.1
            have t4a : ph_T h1 4 = 10 := hW1.1.2.2.1.1.1.2.1
            have t5a : ph_T h1 5 = 11 := hW1.1.2.2.1.1.1.2.2.1
            have l4a : ph_L h1 4 = 8 := hW1.1.2.2.1.1.2.1.1
            have l5a : ph_L h1 5 = 4 := hW1.1.2.2.1.1.2.1.2.1
            have r30a : ph_R h1 3 0 = 4 := hW1.1.2.2.1.1.2.2.1.1
            have r31a : ph_R h1 3 1 = 5 := hW1.1.2.2.1.1.2.2.1.2.1
            have t104a : ph_T h1 104 = 2 := hW1.1.2.2.2.1.1
            have hY1 : YS h1 y := by
              have := (hW1.1.2.2.2.2.2 (Int.toNat d) (by omega)).2
              rw [← hy] at this
              exact this
            have ty1 : ph_T h1 y = 4 := hY1.1.1
            have ty11 : ph_T h1 (y + 1) = 8 := hY1.1.2.1
            have ty12 : ph_T h1 (y + 2) = 8 := hY1.1.2.2.1
            have ty13 : ph_T h1 (y + 3) = 9 := hY1.1.2.2.2.1
            have ly11 : ph_L h1 (y + 1) = 76 := hY1.2.1.1
            have ly12 : ph_L h1 (y + 2) = 76 := hY1.2.1.2.1
            have ly13 : ph_L h1 (y + 3) = 76 := hY1.2.1.2.2.1
            have ry10 : ph_R h1 y 0 = y + 1 := hY1.2.2.1
            have ry11 : ph_R h1 y 1 = y + 2 := hY1.2.2.2.1
            have ry12 : ph_R h1 y 2 = y + 3 := hY1.2.2.2.2.1
            obtain ⟨rm1, tm1, m01, m11, m21, m31, m41⟩ := hW1.mnt dd
            have gD := hS.2.2.2.1 d dd.1 dd.2
            have gl := gD.1
            have gf := gD.2.2.1
            have x6 : pR (ph_I h1 y 6) := by
              rcases hWc with ⟨w6, -⟩ | ⟨w6, -⟩ <;> (rw [w6]; unfold pR; decide)
            refine B_X6_way_73 C (x3 := ph_I h1 y 6) (e4 := rfl) (q5 := x6) (kt := fun c73 => ?_) (kf := fun c73 => ?_)
            · refine B_X6_way_86 C (kk := ?_)
              obtain ⟨w6, wz, -⟩ | ⟨w6, wal, wpt, ⟨w8, w9⟩, ⟨w10, w11, wb1, wb2, wb3, wb4⟩, ⟨w12, w13⟩, wsg⟩ := hWc
              · omega
              · have lb : 0 ≤ lastT st (pOf st nm) ∧ lastT st (pOf st nm) < 76 := by
                  have := Liv_start (st := st) (d := d) (p := pOf st nm) (f := 0) wal
                  have q1 := hPp.1
                  have q2 := hPp.2
                  unfold lastT
                  omega
                refine B_X6_way_87 C (k0 := fun c1 => ?_) (k1 := fun c1 => ?_) (k2 := fun c1 => ?_) (k3 := fun c1 => ?_) (k4 := fun c1 => ?_) (kd := fun c1 => ?_)
                · exact B_X6_way_120 C (hq := by exact KQ_s2 hW1 hS1 ⟨Or.inr ⟨⟨dd, hp⟩, Or.inr ⟨by omega, Or.inr ⟨hop, Or.inr ⟨wal, _, _, wpt, by unfold wayV; rw [if_pos (by omega)]⟩⟩⟩⟩, rfl⟩)
                · exact B_X6_way_126 C (hq := by exact KQ_s2 hW1 hS1 ⟨Or.inr ⟨⟨dd, hp⟩, Or.inr ⟨by omega, Or.inr ⟨hop, Or.inr ⟨wal, _, _, wpt, by unfold wayV; rw [if_neg (by omega), if_pos (by omega), w10]⟩⟩⟩⟩, rfl⟩)
                · exact B_X6_way_132 C (hq := by exact KQ_s2 hW1 hS1 ⟨Or.inr ⟨⟨dd, hp⟩, Or.inr ⟨by omega, Or.inr ⟨hop, Or.inr ⟨wal, _, _, wpt, by unfold wayV; rw [if_neg (by omega), if_neg (by omega), if_pos (by omega)]⟩⟩⟩⟩, rfl⟩)
                · exact B_X6_way_138 C (hq := by exact KQ_s2 hW1 hS1 ⟨Or.inr ⟨⟨dd, hp⟩, Or.inr ⟨by omega, Or.inr ⟨hop, Or.inr ⟨wal, _, _, wpt, by unfold wayV; rw [if_neg (by omega), if_neg (by omega), if_neg (by omega), if_pos (by omega)]⟩⟩⟩⟩, rfl⟩)
                · exact B_X6_way_144 C (r2 := y + 1) (x5 := lastT st (pOf st nm)) (e6 := w9) (x11 := ph_I h1 (y + 1) (Int.toNat (lastT st (pOf st nm)))) (e12 := rfl) (r14 := 3) (r17 := 5) (m23 := 11) (r24 := 32 + Int.toNat d) (x27 := st (Int.toNat (308 + d))) (q9 := by rw [ly11]; omega) (hq := by exact KQ_s2 hW1 hS1 ⟨Or.inr ⟨⟨dd, hp⟩, Or.inr ⟨by omega, Or.inr ⟨hop, Or.inr ⟨wal, _, _, wpt, by unfold wayV; rw [if_neg (by omega), if_neg (by omega), if_neg (by omega), if_neg (by omega), if_pos (by omega)]⟩⟩⟩⟩, rfl⟩)
                · exact B_X6_way_169 C (r2 := y + 2) (x5 := lastT st (pOf st nm)) (e6 := w9) (x11 := ph_I h1 (y + 2) (Int.toNat (lastT st (pOf st nm)))) (e12 := rfl) (q9 := by rw [ly12]; omega) (hq := by exact KQ_s2 hW1 hS1 ⟨Or.inr ⟨⟨dd, hp⟩, Or.inr ⟨by omega, Or.inr ⟨hop, Or.inr ⟨wal, _, _, wpt, by unfold wayV; rw [if_neg (by omega), if_neg (by omega), if_neg (by omega), if_neg (by omega), if_neg (by omega)]⟩⟩⟩⟩, rfl⟩)
            · refine B_X6_way_83 C (hq := KQ_s2 hW1 hS1 ⟨Or.inr ⟨⟨dd, hp⟩, Or.inr ⟨by omega, Or.inr ⟨hop, Or.inl ⟨?_, rfl⟩⟩⟩⟩, rfl⟩)
              obtain ⟨w6, wz, -⟩ | ⟨w6, -⟩ := hWc
              · exact wz
              · omega
          · refine B_X6_way_49 C (kt := fun c9 => absurd c9 (by decide)) (kf := fun c9 => ?_)
            exact B_X6_way_52 C (hq := by exact KQ_same hW ⟨Or.inr ⟨⟨by unfold isD; omega, hp⟩, Or.inr ⟨by omega, Or.inl ⟨by unfold opn; omega, rfl⟩⟩⟩, rfl⟩)
        · refine B_X6_way_30 C (kt := fun c10 => absurd c10 (by decide)) (kf := fun c10 => ?_)
          exact B_X6_way_33 C (hq := by exact KQ_same hW ⟨Or.inr ⟨⟨by unfold isD; omega, hp⟩, Or.inl ⟨by omega, rfl⟩⟩, rfl⟩)
      · exact B_X6_way_22 C (hq := by exact KQ_same hW ⟨Or.inl ⟨fun z => by have := z.1; unfold isD at this; omega, rfl⟩, rfl⟩)
    · refine B_X6_way_14 C (kt := fun c11 => ?_) (kf := fun c11 => absurd c11 (by decide))
      exact B_X6_way_22 C (hq := by exact KQ_same hW ⟨Or.inl ⟨fun z => by have := z.1; unfold isD at this; omega, rfl⟩, rfl⟩)
  · refine B_X6_way_0 C (hM := ct_idxN _ _ _ hW gnm hp) (kk := fun r1 h1 hq1 => ?_)
    obtain ⟨rfl, rfl⟩ := hq1
    refine B_X6_way_8 C (hM := ct_X6_isDish _ _ _) (kk := fun r2 h2 hq2 => ?_)
    obtain ⟨rfl, ⟨rfl, c2⟩ | ⟨rfl, c2⟩⟩ := hq2
    · refine B_X6_way_14 C (kt := fun c3 => absurd c3 (by decide)) (kf := fun c3 => ?_)
      refine B_X6_way_17 C (kt := fun c4 => ?_) (kf := fun c4 => ?_)
      · omega
      · exact B_X6_way_22 C (hq := by exact KQ_same hW ⟨Or.inl ⟨fun z => hp z.2, rfl⟩, rfl⟩)
    · refine B_X6_way_14 C (kt := fun c5 => ?_) (kf := fun c5 => absurd c5 (by decide))
      exact B_X6_way_22 C (hq := by exact KQ_same hW ⟨Or.inl ⟨fun z => hp z.2, rfl⟩, rfl⟩)
theorem ct_X6_where (G : Gx) (l : Launch) (h : PH) {st : ST} (hW : CW h st) {d : Int} (gd : pR d) {nm : Int} (gnm : pR nm) {t : Int} (gt : pR t) {wh : Int} (gwh : pR wh) : CT_X6_where G l [.inr 2, .inl d, .inl nm, .inl t, .inl wh] h (KQ (fun v st' => WhereAns st d nm t wh v ∧ st' = st) h) := by
  obtain ⟨fx, hR, hS, h2, hY⟩ := id hW
  have xt2 : ph_T h 2 = 6 := fx.1.1
  have x20 : ph_R h 2 0 = 3 := fx.1.2.1
  have x23 : ph_R h 2 3 = 104 := fx.1.2.2.2.2
  have w3 : WS h 3 := fx.2.2.1.1
  have t3 : ph_T h 3 = 5 := w3.1.1
  have t4 : ph_T h 4 = 10 := w3.1.2.1
  have t5 : ph_T h 5 = 11 := w3.1.2.2.1
  have t6 : ph_T h 6 = 3 := w3.1.2.2.2.1
  have t7 : ph_T h 7 = 8 := w3.1.2.2.2.2
  have l4 : ph_L h 4 = 8 := w3.2.1.1
  have l5 : ph_L h 5 = 4 := w3.2.1.2.1
  have l7 : ph_L h 7 = 168 := w3.2.1.2.2
  have r30 : ph_R h 3 0 = 4 := w3.2.2.1.1
  have r31 : ph_R h 3 1 = 5 := w3.2.2.1.2.1
  have r32 : ph_R h 3 2 = 6 := w3.2.2.1.2.2.1
  have r33 : ph_R h 3 3 = 7 := w3.2.2.1.2.2.2
  have t104 : ph_T h 104 = 2 := fx.2.2.2.1.1
  have f1 : ph_I h 3 4 = st 484 := hR.1
  have sr6 : SR h 6 st := hR.2.2.2.1
  have hmany := hS.2.2.1
  have hb := hS.2.1
  refine ct_intro rfl (Nat.le_of_ble_eq_true rfl) (fun X hX C => ?_)
  by_cases hp : 0 ≤ pOf st nm
  · have pb : 0 ≤ pOf st nm ∧ pOf st nm < st 484 := by have := pOf_b (st := st) nm hmany.1; omega
    obtain ⟨hfs, hfr, fb1, fb2⟩ := hW.flt pb
    have ft0 : ph_T h (ph_R h 4 (Int.toNat (pOf st nm))) = 0 := hfs.1.1
    obtain ⟨⟨fi2, fi3, fi4, fi5, fi6⟩, fpt⟩ := id hfr
    have hPp := hS.2.2.2.2 _ pb.1 pb.2
    have h2p := h2.1 _ pb.1 pb.2
    refine B_X6_where_0 C (hM := ct_idxP _ _ _ hW gnm hp) (kk := fun r1 h1 hq1 => ?_)
    obtain ⟨rfl, rfl⟩ := hq1
    refine B_X6_where_8 C (hM := ct_X6_isDish _ _ _) (kk := fun r2 h2 hq2 => ?_)
    obtain ⟨rfl, ⟨rfl, c2⟩ | ⟨rfl, c2⟩⟩ := hq2
    · refine B_X6_where_14 C (kt := fun c3 => absurd c3 (by decide)) (kf := fun c3 => ?_)
      refine B_X6_where_17 C (q1 := by unfold pR; omega) (kt := fun c4 => ?_) (kf := fun c4 => ?_)
      · refine B_X6_where_24 C (hM := ct_X6_isTick _ _ _) (kk := fun r5 h5 hq5 => ?_)
        obtain ⟨rfl, ⟨rfl, c5⟩ | ⟨rfl, c5⟩⟩ := hq5
        · refine B_X6_where_28 C (kt := fun c6 => absurd c6 (by decide)) (kf := fun c6 => ?_)
          refine B_X6_where_31 C (hM := ct_X6_isIn _ _ _) (kk := fun r7 h7 hq7 => ?_)
          obtain ⟨rfl, ⟨rfl, c7⟩ | ⟨rfl, c7⟩⟩ := hq7
          · refine B_X6_where_38 C (kt := fun c8 => ?_) (kf := fun c8 => absurd c8 (by decide))
            refine B_X6_where_44 C (m11 := 10) (hM := ct_X0_isOpen _ _ _ ft0 fi4 fi5 (hb _) (hb _)) (kk := fun r9 h9 hq9 => ?_)
            obtain ⟨rfl, ⟨rfl, c9⟩ | ⟨rfl, c9⟩⟩ := hq9
            · refine B_X6_where_57 C (kt := fun c10 => ?_) (kf := fun c10 => absurd c10 (by decide))
              have hop : opn st (pOf st nm) := by unfold opn; omega
              have dd : 0 ≤ d ∧ d ≤ 3 := by omega
              obtain ⟨y, hy⟩ : ∃ y : Nat, y = 110 + 6 * Int.toNat d := ⟨_, rfl⟩
              have yb : 110 ≤ y ∧ y + 5 < 134 := by omega
              refine B_X6_where_63 C (r2 := 104) (r5 := 3) (r8 := 4) (m14 := 10) (r15 := ph_R h 4 (Int.toNat (pOf st nm))) (hM := ct_X2_bestWay _ _ _ hW dd pb hop.1 hy rfl) (kk := fun r9 h1 hq9 => ?_)
              have er := hq9.1
              subst er
              obtain ⟨-, hW1, hS1, hWc, h51, -, -⟩ := hq9.cw hW dd pb hop.1 hy
              have xt2a : ph_T h1 2 = 6 := hW1.1.1.1
              have x20a : ph_R h1 2 0 = 3 := hW1.1.1.2.1
              have x23a : ph_R h1 2 3 = 104 := hW1.1.1.2.2.2.2
              have t3a : ph_T h1 3 = 5 := hW1.1.2.2.1.1.1.1
              have t4a : ph_T h1 4 = 10 := hW1.1.2.2.1.1.1.2.1
              have t5a : ph_T h1 5 = 11 := hW1.1.2.2.1.1.1.2.2.1
              have l4a : ph_L h1 4 = 8 := hW1.1.2.2.1.1.2.1.1
              have l5a : ph_L h1 5 = 4 := hW1.1.2.2.1.1.2.1.2.1
              have r30a : ph_R h1 3 0 = 4 := hW1.1.2.2.1.1.2.2.1.1
              have r31a : ph_R h1 3 1 = 5 := hW1.1.2.2.1.1.2.2.1.2.1
              have t104a : ph_T h1 104 = 2 := hW1.1.2.2.2.1.1
              have hY1 : YS h1 y := by
                have := (hW1.1.2.2.2.2.2 (Int.toNat d) (by omega)).2
                rw [← hy] at this
                exact this
              have ty1 : ph_T h1 y = 4 := hY1.1.1
              have ty11 : ph_T h1 (y + 1) = 8 := hY1.1.2.1
              have ty12 : ph_T h1 (y + 2) = 8 := hY1.1.2.2.1
              have ty13 : ph_T h1 (y + 3) = 9 := hY1.1.2.2.2.1
              have ly11 : ph_L h1 (y + 1) = 76 := hY1.2.1.1
              have ly12 : ph_L h1 (y + 2) = 76 := hY1.2.1.2.1
              have ly13 : ph_L h1 (y + 3) = 76 := hY1.2.1.2.2.1
              have ry10 : ph_R h1 y 0 = y + 1 := hY1.2.2.1
              have ry11 : ph_R h1 y 1 = y + 2 := hY1.2.2.2.1
              have ry12 : ph_R h1 y 2 = y + 3 := hY1.2.2.2.2.1
              obtain ⟨rm1, tm1, m01, m11, m21, m31, m41⟩ := hW1.mnt dd
              have gD := hS.2.2.2.1 d dd.1 dd.2
              have gl := gD.1
              have gf := gD.2.2.1
              obtain ⟨w6, wz, -⟩ | ⟨w6, wal, wpt, ⟨w8, w9⟩, ⟨w10, w11, wb1, wb2, wb3, wb4⟩, ⟨w12, w13⟩, wsg⟩ := hWc
              · refine B_X6_where_81 C (x3 := 0) (e4 := w6) (kt := fun c73 => ?_) (kf := fun c73 => absurd rfl c73)
                exact B_X6_where_108 C (hq := KQ_s2 hW1 hS1 ⟨Or.inr ⟨⟨dd, hp⟩, Or.inr ⟨by omega, Or.inr ⟨hop, Or.inl ⟨Or.inl wz, rfl⟩⟩⟩⟩, rfl⟩)
              · have lb : 0 ≤ lastT st (pOf st nm) ∧ lastT st (pOf st nm) < 76 := by
                  have := Liv_start (st := st) (d := d) (p := pOf st nm) (f := 0) wal
                  have q1 := hPp.1
                  have q2 := hPp.2
                  unfold lastT
                  omega
                refine B_X6_where_81 C (x3 := 1) (e4 := w6) (kt := fun c73 => absurd c73 (by decide)) (kf := fun c73 => ?_)
                refine B_X6_where_91 C (x2 := st (Int.toNat (304 + d))) (e3 := w8) (x5 := lastT st (pOf st nm)) (e6 := w9) (hM := ct_X6_isIn _ _ _) (kk := fun r8 h8 hq8 => ?_)
                obtain ⟨rfl, ⟨rfl, c8⟩ | ⟨rfl, c8⟩⟩ := hq8
                · refine B_X6_where_105 C (kt := fun c => ?_) (kf := fun c => absurd c (by decide))
                  have sgt := wsg (Int.toNat t) (by omega)
                  have etn : ((Int.toNat t : Nat) : Int) = t := by omega
                  rw [etn, if_pos c8] at sgt
                  have sb : bitsW st (pOf st nm) (ph_I h1 (y + 1)) (ph_I h1 (y + 2)) (Int.toNat t) = 0 ∨ bitsW st (pOf st nm) (ph_I h1 (y + 1)) (ph_I h1 (y + 2)) (Int.toNat t) = 1 := by unfold bitsW; exact bit_01 _ _ _ _ _ _ _
                  refine B_X6_where_111 C (kk := ?_)
                  refine B_X6_where_113 C (k0 := fun c1 => ?_) (k1 := fun c1 => ?_) (kd := fun c1 => ?_)
                  · exact B_X6_where_140 C (r2 := y + 1) (x8 := ph_I h1 (y + 1) (Int.toNat t)) (e9 := rfl) (r11 := 3) (r14 := 5) (m20 := 11) (r21 := 32 + Int.toNat d) (x24 := st (Int.toNat (308 + d))) (q6 := by rw [ly11]; omega) (hq := by exact KQ_s2 hW1 hS1 ⟨Or.inr ⟨⟨dd, hp⟩, Or.inr ⟨by omega, Or.inr ⟨hop, Or.inr ⟨fun z => z.elim (fun z => wal z) (fun z => z ⟨by omega, by omega⟩), _, _, wpt, by rw [if_pos (by omega)]⟩⟩⟩⟩, rfl⟩)
                  · exact B_X6_where_161 C (r2 := y + 2) (x8 := ph_I h1 (y + 2) (Int.toNat t)) (e9 := rfl) (q6 := by rw [ly12]; omega) (hq := by exact KQ_s2 hW1 hS1 ⟨Or.inr ⟨⟨dd, hp⟩, Or.inr ⟨by omega, Or.inr ⟨hop, Or.inr ⟨fun z => z.elim (fun z => wal z) (fun z => z ⟨by omega, by omega⟩), _, _, wpt, by rw [if_neg (by omega), if_pos (by omega)]⟩⟩⟩⟩, rfl⟩)
                  · refine B_X6_where_169 C (r2 := y + 3) (x8 := bitsW st (pOf st nm) (ph_I h1 (y + 1)) (ph_I h1 (y + 2)) (Int.toNat t)) (e9 := sgt) (q6 := by rw [ly13]; omega) (q10 := by unfold pR; omega) (kt := fun c2 => ?_) (kf := fun c2 => ?_)
                    · refine B_X6_where_183 C (kk := ?_)
                      exact B_X6_where_184 C (hq := by exact KQ_s2 hW1 hS1 ⟨Or.inr ⟨⟨dd, hp⟩, Or.inr ⟨by omega, Or.inr ⟨hop, Or.inr ⟨fun z => z.elim (fun z => wal z) (fun z => z ⟨by omega, by omega⟩), _, _, wpt, by rw [if_neg (by omega), if_neg (by omega)]; omega⟩⟩⟩⟩, rfl⟩)
                    · refine B_X6_where_179 C (kk := ?_)
                      exact B_X6_where_184 C (hq := by exact KQ_s2 hW1 hS1 ⟨Or.inr ⟨⟨dd, hp⟩, Or.inr ⟨by omega, Or.inr ⟨hop, Or.inr ⟨fun z => z.elim (fun z => wal z) (fun z => z ⟨by omega, by omega⟩), _, _, wpt, by rw [if_neg (by omega), if_neg (by omega)]; omega⟩⟩⟩⟩, rfl⟩)
                · refine B_X6_where_105 C (kt := fun c => absurd rfl c) (kf := fun c => ?_)
                  exact B_X6_where_108 C (hq := KQ_s2 hW1 hS1 ⟨Or.inr ⟨⟨dd, hp⟩, Or.inr ⟨by omega, Or.inr ⟨hop, Or.inl ⟨Or.inr c8, rfl⟩⟩⟩⟩, rfl⟩)
            · refine B_X6_where_57 C (kt := fun c11 => absurd c11 (by decide)) (kf := fun c11 => ?_)
              exact B_X6_where_60 C (hq := by exact KQ_same hW ⟨Or.inr ⟨⟨by unfold isD; omega, hp⟩, Or.inr ⟨by omega, Or.inl ⟨by unfold opn; omega, rfl⟩⟩⟩, rfl⟩)
          · refine B_X6_where_38 C (kt := fun c12 => absurd c12 (by decide)) (kf := fun c12 => ?_)
            exact B_X6_where_41 C (hq := by exact KQ_same hW ⟨Or.inr ⟨⟨by unfold isD; omega, hp⟩, Or.inl ⟨by omega, rfl⟩⟩, rfl⟩)
        · refine B_X6_where_28 C (kt := fun c13 => ?_) (kf := fun c13 => absurd c13 (by decide))
          exact B_X6_where_41 C (hq := by exact KQ_same hW ⟨Or.inr ⟨⟨by unfold isD; omega, hp⟩, Or.inl ⟨by omega, rfl⟩⟩, rfl⟩)
      · exact B_X6_where_22 C (hq := by exact KQ_same hW ⟨Or.inl ⟨fun z => by have := z.1; unfold isD at this; omega, rfl⟩, rfl⟩)
    · refine B_X6_where_14 C (kt := fun c14 => ?_) (kf := fun c14 => absurd c14 (by decide))
      exact B_X6_where_22 C (hq := by exact KQ_same hW ⟨Or.inl ⟨fun z => by have := z.1; unfold isD at this; omega, rfl⟩, rfl⟩)
  · refine B_X6_where_0 C (hM := ct_idxN _ _ _ hW gnm hp) (kk := fun r1 h1 hq1 => ?_)
    obtain ⟨rfl, rfl⟩ := hq1
    refine B_X6_where_8 C (hM := ct_X6_isDish _ _ _) (kk := fun r2 h2 hq2 => ?_)
    obtain ⟨rfl, ⟨rfl, c2⟩ | ⟨rfl, c2⟩⟩ := hq2
    · refine B_X6_where_14 C (kt := fun c3 => absurd c3 (by decide)) (kf := fun c3 => ?_)
      refine B_X6_where_17 C (kt := fun c4 => ?_) (kf := fun c4 => ?_)
      · omega
      · exact B_X6_where_22 C (hq := by exact KQ_same hW ⟨Or.inl ⟨fun z => hp z.2, rfl⟩, rfl⟩)
    · refine B_X6_where_14 C (kt := fun c5 => ?_) (kf := fun c5 => absurd c5 (by decide))
      exact B_X6_where_22 C (hq := by exact KQ_same hW ⟨Or.inl ⟨fun z => hp z.2, rfl⟩, rfl⟩)
