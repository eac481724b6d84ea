/-! the class: bestDish, offer, bestHandOver, share -/
theorem CW.wc {h : PH} {st : ST} {p : Int} {d : Nat} (hW : CW h st) (hd : d < 4) (p0 : 0 ≤ p ∧ p < st 484) (h5 : ph_I h (110 + 6 * d) 5 = st (Int.toNat p)) : WayC h (110 + 6 * d) st d p := by
  have wy := hW.2.2.2.2 d hd
  have nm := (hW.2.2.2.1.1 p p0.1 p0.2).1
  rcases wy.2 with z | ⟨p', p0', n', z, wc, -⟩
  · omega
  · have : p' = p := name_uniq hW.2.2.2.1 p0' p0 (by rw [← z, h5])
    subst this
    exact wc
theorem ct_X6_bestDish (G : Gx) (l : Launch) (h : PH) {st : ST} {p : Int} (hW : CW h st) (p0 : 0 ≤ p ∧ p < st 484) (hn : 0 < st (Int.toNat (16 + p))) {fc : Nat} (hfc : fc = ph_R h 4 (Int.toNat p)) : CT_X6_bestDish G l [.inr 2, .inr fc] h (fun rr h' => rr = some (.inl (sOf st p 4).1) ∧ CW h' st ∧ S2 h h' ∧ ∀ d : Nat, d < 4 → ph_I h' (110 + 6 * d) 5 = st (Int.toNat p)) := by
  obtain ⟨fx, hR, hS, h2, hY⟩ := id hW
  have xt2 : ph_T h 2 = 6 := fx.1.1
  have x20 : ph_R h 2 0 = 3 := fx.1.2.1
  have x23 : ph_R h 2 3 = 104 := fx.1.2.2.2.2
  have w3 : WS h 3 := fx.2.2.1.1
  have t3 : ph_T h 3 = 5 := w3.1.1
  have t4 : ph_T h 4 = 10 := w3.1.2.1
  have t5 : ph_T h 5 = 11 := w3.1.2.2.1
  have t6 : ph_T h 6 = 3 := w3.1.2.2.2.1
  have t7 : ph_T h 7 = 8 := w3.1.2.2.2.2
  have l4 : ph_L h 4 = 8 := w3.2.1.1
  have l5 : ph_L h 5 = 4 := w3.2.1.2.1
  have l7 : ph_L h 7 = 168 := w3.2.1.2.2
  have r30 : ph_R h 3 0 = 4 := w3.2.2.1.1
  have r31 : ph_R h 3 1 = 5 := w3.2.2.1.2.1
  have r32 : ph_R h 3 2 = 6 := w3.2.2.1.2.2.1
  have r33 : ph_R h 3 3 = 7 := w3.2.2.1.2.2.2
  have t104 : ph_T h 104 = 2 := fx.2.2.2.1.1
  have f1 : ph_I h 3 4 = st 484 := hR.1
  have sr6 : SR h 6 st := hR.2.2.2.1
  have hmany := hS.2.2.1
  have hb := hS.2.1
  have nm := (h2.1 p p0.1 p0.2).1
  refine ct_intro rfl (Nat.le_of_ble_eq_true rfl) (fun X hX C => ?_)
  have lp : ∀ (m k : Nat) (h1 : PH), k + m = 4 → CW h1 st → S2 h h1 → (∀ d : Nat, d < k → ph_I h1 (110 + 6 * d) 5 = st (Int.toNat p)) → PW G X 5 (pw_E G X (fun rr h' => rr = some (.inl (sOf st p 4).1) ∧ CW h' st ∧ S2 h h' ∧ ∀ d : Nat, d < 4 → ph_I h' (110 + 6 * d) 5 = st (Int.toNat p)) 0 0) 0 0 5 [some (.inr 2), some (.inr fc), some (.inl (sOf st p k).1), some (.inl (k : Int)), none] [] h1 := by
    intro m
    induction m with
    | zero =>
      intro k h1 hk hW1 hS1 hc
      have e : k = 4 := by omega
      subst e
      refine B_X6_bestDish_5 C (kt := fun c => ?_) (kf := fun c => by omega)
      exact B_X6_bestDish_61 C (hq := ⟨rfl, hW1, hS1, hc⟩)
    | succ m ih =>
      intro k h1 hk hW1 hS1 hc
      have xt2a : ph_T h1 2 = 6 := hW1.1.1.1
      have x20a : ph_R h1 2 0 = 3 := hW1.1.1.2.1
      have x23a : ph_R h1 2 3 = 104 := hW1.1.1.2.2.2.2
      have t3a : ph_T h1 3 = 5 := hW1.1.2.2.1.1.1.1
      have t4a : ph_T h1 4 = 10 := hW1.1.2.2.1.1.1.2.1
      have t5a : ph_T h1 5 = 11 := hW1.1.2.2.1.1.1.2.2.1
      have l4a : ph_L h1 4 = 8 := hW1.1.2.2.1.1.2.1.1
      have l5a : ph_L h1 5 = 4 := hW1.1.2.2.1.1.2.1.2.1
      have r30a : ph_R h1 3 0 = 4 := hW1.1.2.2.1.1.2.2.1.1
      have r31a : ph_R h1 3 1 = 5 := hW1.1.2.2.1.1.2.2.1.2.1
      have t104a : ph_T h1 104 = 2 := hW1.1.2.2.2.1.1
      
      have ek : Int.toNat (k : Int) = k := by omega
      have hfc1 : fc = ph_R h1 4 (Int.toNat p) := by rw [hS1.Rc (by decide)]; exact hfc
      have hob := sOf_b hS p0 k (by omega)
      refine B_X6_bestDish_5 C (kt := fun c => by omega) (kf := fun c => ?_)
      refine B_X6_bestDish_10 C (r2 := 104) (hM := ct_X2_bestWay _ _ _ hW1 (d := (k : Int)) (by omega) p0 hn (y := 110 + 6 * k) (by rw [ek]) hfc1) (kk := fun r9 h3 hq9 => ?_)
      have er := hq9.1
      subst er
      obtain ⟨-, hW3, hS3, hWc, h53, hI3, -⟩ := hq9.cw hW1 (by omega) p0 hn (by rw [ek])
      have hSa : S2 h h3 := hS1.tr hS3
      have hfc3 : fc = ph_R h3 4 (Int.toNat p) := by rw [hSa.Rc (by decide)]; exact hfc
      have hc3 : ∀ d : Nat, d < k + 1 → ph_I h3 (110 + 6 * d) 5 = st (Int.toNat p) := fun d hd => by
        by_cases z : d = k
        · rw [z]; exact h53
        · rw [hI3 _ (by omega) (by omega) (by omega)]; exact hc d (by omega)
      have xt2b : ph_T h3 2 = 6 := hW3.1.1.1
      have x20b : ph_R h3 2 0 = 3 := hW3.1.1.2.1
      have x23b : ph_R h3 2 3 = 104 := hW3.1.1.2.2.2.2
      have t3b : ph_T h3 3 = 5 := hW3.1.2.2.1.1.1.1
      have t4b : ph_T h3 4 = 10 := hW3.1.2.2.1.1.1.2.1
      have t5b : ph_T h3 5 = 11 := hW3.1.2.2.1.1.1.2.2.1
      have l4b : ph_L h3 4 = 8 := hW3.1.2.2.1.1.2.1.1
      have l5b : ph_L h3 5 = 4 := hW3.1.2.2.1.1.2.1.2.1
      have r30b : ph_R h3 3 0 = 4 := hW3.1.2.2.1.1.2.2.1.1
      have r31b : ph_R h3 3 1 = 5 := hW3.1.2.2.1.1.2.2.1.2.1
      have t104b : ph_T h3 104 = 2 := hW3.1.2.2.2.1.1
      
      have tyk : ph_T h3 (110 + 6 * k) = 4 := (hW3.1.2.2.2.2.2 k (by omega)).2.1.1
      have e4 : ((k + 1 : Nat) : Int) = (k : Int) + 1 := by omega
      have nx := ih (k + 1) h3 (by omega) hW3 hSa hc3
      rw [e4] at nx
      have so : sOf st p (k + 1) = if (sOf st p k).2 < sVal st k p then ((k : Int), sVal st k p) else sOf st p k := rfl
      have no : ¬ (sOf st p k).2 < sVal st k p → PW G X 5 (pw_E G X (fun rr h' => rr = some (.inl (sOf st p 4).1) ∧ CW h' st ∧ S2 h h' ∧ ∀ d : Nat, d < 4 → ph_I h' (110 + 6 * d) 5 = st (Int.toNat p)) 0 0) 0 0 55 [some (.inr 2), some (.inr fc), some (.inl (sOf st p k).1), some (.inl (k : Int)), some (.inr (110 + 6 * k))] [] h3 := by
        intro hz
        refine B_X6_bestDish_55 C (kk := ?_)
        rw [so, if_neg hz] at nx
        exact nx
      have yes : (sOf st p k).2 < sVal st k p → PW G X 5 (pw_E G X (fun rr h' => rr = some (.inl (sOf st p 4).1) ∧ CW h' st ∧ S2 h h' ∧ ∀ d : Nat, d < 4 → ph_I h' (110 + 6 * d) 5 = st (Int.toNat p)) 0 0) 0 0 53 [some (.inr 2), some (.inr fc), some (.inl (sOf st p k).1), some (.inl (k : Int)), some (.inr (110 + 6 * k))] [] h3 := by
        intro hz
        refine B_X6_bestDish_53 C (kk := ?_)
        refine B_X6_bestDish_55 C (kk := ?_)
        rw [so, if_pos hz] at nx
        exact nx
      rcases hWc with ⟨w6, wz, -⟩ | ⟨w6, wal, -, -, ⟨w10, w11, wb1, wb2, wb3, wb4⟩, -⟩
      · refine B_X6_bestDish_19 C (x3 := 0) (e4 := w6) (kt := fun c2 => ?_) (kf := fun c2 => absurd rfl c2)
        exact no (by omega)
      · refine B_X6_bestDish_19 C (x3 := 1) (e4 := w6) (kt := fun c2 => absurd c2 (by decide)) (kf := fun c2 => ?_)
        refine B_X6_bestDish_29 C (hM := ct_X6_isDish _ _ _ (by unfold pR; omega)) (kk := fun rr h4 hq4 => ?_)
        obtain ⟨rfl, ⟨rfl, c3⟩ | ⟨rfl, c3⟩⟩ := hq4
        · refine B_X6_bestDish_33 C (kt := fun c => absurd c (by decide)) (kf := fun c => ?_)
          obtain ⟨j, hj⟩ := Int.eq_ofNat_of_zero_le c3.1
          have ej : Int.toNat (sOf st p k).1 = j := by omega
          refine B_X6_bestDish_36 C (r2 := 104) (hM := ct_X2_bestWay _ _ _ hW3 (d := (sOf st p k).1) c3 p0 hn (y := 110 + 6 * j) (by rw [ej]) hfc3) (kk := fun r9 h5 hq5 => ?_)
          have er := hq5.1
          subst er
          obtain ⟨-, -, -, -, -, -, hit⟩ := hq5.cw hW3 c3 p0 hn (by rw [ej])
          have := hit (hc3 j (by omega))
          subst this
          have wcj := hW3.wc (d := j) (by omega) p0 (hc3 j (by omega))
          rw [← hj] at wcj
          have tyj : ph_T h5 (110 + 6 * j) = 4 := (hW3.1.2.2.2.2.2 j (by omega)).2.1.1
          rcases wcj with ⟨v6, vz, -⟩ | ⟨v6, val, -, -, ⟨v10, v11, vb1, vb2, vb3, vb4⟩, -⟩
          · omega
          · have hYk : YS h5 (110 + 6 * k) := (hW3.1.2.2.2.2.2 k (by omega)).2
            refine B_X6_bestDish_47 C (hM := ct_X4_isBetterThan _ _ _ hYk tyj rfl rfl rfl rfl (by unfold pR; omega) (by unfold pR; omega) (by unfold pR; omega) (by unfold pR; omega)) (kk := fun rr h4 hq4 => ?_)
            obtain ⟨rfl, ⟨rfl, c5⟩ | ⟨rfl, c5⟩⟩ := hq4
            · refine B_X6_bestDish_50 C (kt := fun c => absurd c (by decide)) (kf := fun c => ?_)
              exact yes (by omega)
            · refine B_X6_bestDish_50 C (kt := fun c => ?_) (kf := fun c => absurd rfl c)
              exact no (by omega)
        · refine B_X6_bestDish_33 C (kt := fun c => ?_) (kf := fun c => absurd rfl c)
          exact yes (by omega)
  refine B_X6_bestDish_0 C (kk := ?_)
  exact lp 4 0 h (by omega) hW (SFr.rf _ h) (fun d hd => by omega)
theorem ct_X6_offer (G : Gx) (l : Launch) (h : PH) {st : ST} (hW : CW h st) {nm : Int} (gnm : pR nm) {wh : Int} (gwh : pR wh) : CT_X6_offer G l [.inr 2, .inl nm, .inl wh] h (KQ (fun v st' => v = mOffer st nm wh ∧ st' = st) h) := by
  obtain ⟨fx, hR, hS, h2, hY⟩ := id hW
  have xt2 : ph_T h 2 = 6 := fx.1.1
  have x20 : ph_R h 2 0 = 3 := fx.1.2.1
  have x23 : ph_R h 2 3 = 104 := fx.1.2.2.2.2
  have w3 : WS h 3 := fx.2.2.1.1
  have t3 : ph_T h 3 = 5 := w3.1.1
  have t4 : ph_T h 4 = 10 := w3.1.2.1
  have t5 : ph_T h 5 = 11 := w3.1.2.2.1
  have t6 : ph_T h 6 = 3 := w3.1.2.2.2.1
  have t7 : ph_T h 7 = 8 := w3.1.2.2.2.2
  have l4 : ph_L h 4 = 8 := w3.2.1.1
  have l5 : ph_L h 5 = 4 := w3.2.1.2.1
  have l7 : ph_L h 7 = 168 := w3.2.1.2.2
  have r30 : ph_R h 3 0 = 4 := w3.2.2.1.1
  have r31 : ph_R h 3 1 = 5 := w3.2.2.1.2.1
  have r32 : ph_R h 3 2 = 6 := w3.2.2.1.2.2.1
  have r33 : ph_R h 3 3 = 7 := w3.2.2.1.2.2.2
  have t104 : ph_T h 104 = 2 := fx.2.2.2.1.1
  have f1 : ph_I h 3 4 = st 484 := hR.1
  have sr6 : SR h 6 st := hR.2.2.2.1
  have hmany := hS.2.2.1
  have hb := hS.2.1
  refine ct_intro rfl (Nat.le_of_ble_eq_true rfl) (fun X hX C => ?_)
  by_cases hp : 0 ≤ pOf st nm
  · have pb : 0 ≤ pOf st nm ∧ pOf st nm < st 484 := by have := pOf_b (st := st) nm hmany.1; omega
    obtain ⟨hfs, hfr, fb1, fb2⟩ := hW.flt pb
    have ft0 : ph_T h (ph_R h 4 (Int.toNat (pOf st nm))) = 0 := hfs.1.1
    obtain ⟨⟨fi2, fi3, fi4, fi5, fi6⟩, fpt⟩ := id hfr
    have hPp := hS.2.2.2.2 _ pb.1 pb.2
    have h2p := h2.1 _ pb.1 pb.2
    refine B_X6_offer_0 C (hM := ct_idxP _ _ _ hW gnm hp) (kk := fun r1 h1 hq1 => ?_)
    obtain ⟨rfl, rfl⟩ := hq1
    refine B_X6_offer_8 C (q1 := by unfold pR; omega) (kt := fun c2 => ?_) (kf := fun c2 => ?_)
    · refine B_X6_offer_15 C (hM := ct_X6_isIn _ _ _) (kk := fun r3 h3 hq3 => ?_)
      obtain ⟨rfl, ⟨rfl, c3⟩ | ⟨rfl, c3⟩⟩ := hq3
      · refine B_X6_offer_21 C (kt := fun c4 => ?_) (kf := fun c4 => absurd c4 (by decide))
        refine B_X6_offer_27 C (m11 := 10) (hM := ct_X0_isOpen _ _ _ ft0 fi4 fi5 (hb _) (hb _)) (kk := fun r5 h5 hq5 => ?_)
        obtain ⟨rfl, ⟨rfl, c5⟩ | ⟨rfl, c5⟩⟩ := hq5
        · refine B_X6_offer_39 C (kt := fun c6 => ?_) (kf := fun c6 => absurd c6 (by decide))
          have hop : 0 < st (Int.toNat (16 + pOf st nm)) ∧ st (Int.toNat (24 + pOf st nm)) < 0 := by omega
          have hob := sOf_b hS pb 4 (by omega)
          refine B_X6_offer_45 C (r2 := 3) (r5 := 4) (m11 := 10) (r12 := ph_R h 4 (Int.toNat (pOf st nm))) (hM := ct_X6_bestDish _ _ _ hW pb hop.1 rfl) (kk := fun r9 h1 hq9 => ?_)
          obtain ⟨rfl, hW1, hS1, hc1⟩ := hq9
          have xt2a : ph_T h1 2 = 6 := hW1.1.1.1
          have x20a : ph_R h1 2 0 = 3 := hW1.1.1.2.1
          have x23a : ph_R h1 2 3 = 104 := hW1.1.1.2.2.2.2
          have t3a : ph_T h1 3 = 5 := hW1.1.2.2.1.1.1.1
          have t4a : ph_T h1 4 = 10 := hW1.1.2.2.1.1.1.2.1
          have t5a : ph_T h1 5 = 11 := hW1.1.2.2.1.1.1.2.2.1
          have l4a : ph_L h1 4 = 8 := hW1.1.2.2.1.1.2.1.1
          have l5a : ph_L h1 5 = 4 := hW1.1.2.2.1.1.2.1.2.1
          have r30a : ph_R h1 3 0 = 4 := hW1.1.2.2.1.1.2.2.1.1
          have r31a : ph_R h1 3 1 = 5 := hW1.1.2.2.1.1.2.2.1.2.1
          have t104a : ph_T h1 104 = 2 := hW1.1.2.2.2.1.1
          refine B_X6_offer_58 C (hM := ct_X6_isDish _ _ _ (by unfold pR; omega)) (kk := fun r8 h8 hq8 => ?_)
          obtain ⟨rfl, ⟨rfl, c3⟩ | ⟨rfl, c3⟩⟩ := hq8
          · refine B_X6_offer_65 C (kt := fun c => ?_) (kf := fun c => absurd c (by decide))
            refine B_X6_offer_71 C (kt := fun c4 => ?_) (kf := fun c4 => ?_)
            · obtain ⟨j, hj⟩ := Int.eq_ofNat_of_zero_le c3.1
              have ej : Int.toNat (sOf st (pOf st nm) 4).1 = j := by omega
              refine B_X6_offer_80 C (r2 := 104) (r5 := 3) (r8 := 4) (m14 := 10) (r15 := ph_R h1 4 (Int.toNat (pOf st nm))) (e16 := rfl) (hM := ct_X2_bestWay _ _ _ hW1 c3 pb hop.1 (y := 110 + 6 * j) (by rw [ej]) rfl) (kk := fun r9 h5 hq5 => ?_)
              have er := hq5.1
              subst er
              obtain ⟨-, -, -, -, -, -, hit⟩ := hq5.cw hW1 c3 pb hop.1 (by rw [ej])
              have := hit (hc1 j (by omega))
              subst this
              have wcj := hW1.wc (d := j) (by omega) pb (hc1 j (by omega))
              rw [← hj] at wcj
              have tyj : ph_T h5 (110 + 6 * j) = 4 := (hW1.1.2.2.2.2.2 j (by omega)).2.1.1
              rcases wcj with ⟨v6, vz, -⟩ | ⟨v6, val, -, -, ⟨v10, v11, vb1, vb2, vb3, vb4⟩, -⟩
              · omega
              · refine B_X6_offer_98 C (x2 := ph_I h5 (110 + 6 * j) 10) (e3 := rfl) (kk := ?_)
                refine B_X6_offer_101 C (hq := KQ_s2 hW1 hS1 ⟨?_, rfl⟩)
                unfold mOffer
                rw [if_neg (by omega), if_neg (by omega), if_neg (fun z => z hop), if_neg (by omega), v10]
                omega
            · refine B_X6_offer_75 C (kk := ?_)
              refine B_X6_offer_101 C (hq := KQ_s2 hW1 hS1 ⟨?_, rfl⟩)
              unfold mOffer
              rw [if_neg (by omega), if_neg (by omega), if_neg (fun z => z hop), if_pos (by omega)]
          · refine B_X6_offer_65 C (kt := fun c => absurd rfl c) (kf := fun c => ?_)
            refine B_X6_offer_68 C (hq := KQ_s2 hW1 hS1 ⟨?_, rfl⟩)
            unfold mOffer
            rw [if_neg (by omega), if_neg (by omega), if_neg (fun z => z hop), if_pos (by omega)]
            omega
        · refine B_X6_offer_39 C (kt := fun c7 => absurd c7 (by decide)) (kf := fun c7 => ?_)
          exact B_X6_offer_42 C (hq := by exact KQ_same hW ⟨by unfold mOffer; rw [if_neg (by omega), if_neg (by omega), if_pos (by omega)], rfl⟩)
      · refine B_X6_offer_21 C (kt := fun c8 => absurd c8 (by decide)) (kf := fun c8 => ?_)
        exact B_X6_offer_24 C (hq := by exact KQ_same hW ⟨by unfold mOffer; rw [if_neg (by omega), if_pos (by omega)], rfl⟩)
    · omega
  · refine B_X6_offer_0 C (hM := ct_idxN _ _ _ hW gnm hp) (kk := fun r1 h1 hq1 => ?_)
    obtain ⟨rfl, rfl⟩ := hq1
    refine B_X6_offer_8 C (kt := fun c => absurd c (by decide)) (kf := fun c => ?_)
    exact B_X6_offer_13 C (hq := KQ_same hW ⟨by unfold mOffer; rw [if_pos (by omega)], rfl⟩)
theorem sSh_b {st : ST} {p one oth n : Int} (hB : 0 ≤ sBy st one p 0 0 + sBy st oth p 0 n) : ∀ k : Nat, (0 ≤ (sSh st p one oth n (k + 1)).2 ∧ (sSh st p one oth n (k + 1)).2 ≤ k) ∧ (sSh st p one oth n (k + 1)).1 = sBy st one p 0 (sSh st p one oth n (k + 1)).2 + sBy st oth p (sSh st p one oth n (k + 1)).2 n
  | 0 => by
    have h0 := hB
    have e : sSh st p one oth n (0 + 1) = if (-1 : Int) < sBy st one p 0 ((0 : Nat) : Int) + sBy st oth p ((0 : Nat) : Int) n then (sBy st one p 0 ((0 : Nat) : Int) + sBy st oth p ((0 : Nat) : Int) n, ((0 : Nat) : Int)) else (-1, 0) := rfl
    have e0 : ((0 : Nat) : Int) = 0 := rfl
    rw [e, e0, if_pos (by omega)]
    exact ⟨⟨Int.le_refl _, Int.le_refl _⟩, rfl⟩
  | k + 1 => by
    have ih := sSh_b hB k
    have e : sSh st p one oth n (k + 1 + 1) = if (sSh st p one oth n (k + 1)).1 < sBy st one p 0 ((k + 1 : Nat) : Int) + sBy st oth p ((k + 1 : Nat) : Int) n then (sBy st one p 0 ((k + 1 : Nat) : Int) + sBy st oth p ((k + 1 : Nat) : Int) n, ((k + 1 : Nat) : Int)) else sSh st p one oth n (k + 1) := rfl
    rw [e]
    split
    · exact ⟨⟨by show (0 : Int) ≤ ((k + 1 : Nat) : Int); omega, by show ((k + 1 : Nat) : Int) ≤ _; omega⟩, rfl⟩
    · exact ⟨⟨ih.1.1, by omega⟩, ih.2⟩
theorem ct_X6_bestHandOver (G : Gx) (l : Launch) (h : PH) {st : ST} {p one oth n : Int} {y1 y2 : Nat} (hY1 : YS h y1) (hY2 : YS h y2) (n0 : 0 ≤ n ∧ n ≤ 16) (s1 : ∀ k : Int, 0 ≤ k → k ≤ n → ph_I h (y1 + 4) (Int.toNat k) = sBy st one p 0 k) (s2 : ∀ k : Int, 0 ≤ k → k ≤ n → ph_I h (y2 + 5) (Int.toNat k) = sBy st oth p k n) (b1 : ∀ k : Int, 0 ≤ k → k ≤ n → 0 ≤ sBy st one p 0 k ∧ sBy st one p 0 k ≤ 80) (b2 : ∀ k : Int, 0 ≤ k → k ≤ n → 0 ≤ sBy st oth p k n ∧ sBy st oth p k n ≤ 80) (hB : 0 ≤ sBy st one p 0 0 + sBy st oth p 0 n) : CT_X6_bestHandOver G l [.inr y1, .inr y2, .inl n] h (pqI (sSh st p one oth n (Int.toNat (n + 1))).2 h) := by
  have ty1 : ph_T h y1 = 4 := hY1.1.1
  have ty2 : ph_T h y2 = 4 := hY2.1.1
  have ty14 : ph_T h (y1 + 4) = 8 := hY1.1.2.2.2.2.1
  have ty25 : ph_T h (y2 + 5) = 8 := hY2.1.2.2.2.2.2
  have ly14 : ph_L h (y1 + 4) = 17 := hY1.2.1.2.2.2.1
  have ly25 : ph_L h (y2 + 5) = 17 := hY2.2.1.2.2.2.2
  have ry13 : ph_R h y1 3 = y1 + 4 := hY1.2.2.2.2.2.1
  have ry24 : ph_R h y2 4 = y2 + 5 := hY2.2.2.2.2.2.2
  refine ct_intro rfl (Nat.le_of_ble_eq_true rfl) (fun X hX C => ?_)
  have lp : ∀ (m k : Nat), (k : Int) + 1 + m = n + 1 → PW G X 5 (pw_E G X (pqI (sSh st p one oth n (Int.toNat (n + 1))).2 h) 0 0) 0 0 5 [some (.inr y1), some (.inr y2), some (.inl n), some (.inl (sSh st p one oth n (k + 1)).2), some (.inl ((k : Int) + 1))] [] h := by
    intro m
    induction m with
    | zero =>
      intro k hk
      refine B_X6_bestHandOver_5 C (kt := fun c => ?_) (kf := fun c => by omega)
      have e : Int.toNat (n + 1) = k + 1 := by omega
      exact B_X6_bestHandOver_51 C (hq := pq_i (by rw [e]))
    | succ m ih =>
      intro k hk
      obtain ⟨q1, q2⟩ := sSh_b hB k
      have e1 : ((k + 1 : Nat) : Int) = (k : Int) + 1 := by omega
      have nx := ih (k + 1) (by omega)
      rw [e1] at nx
      have e : sSh st p one oth n (k + 1 + 1) = if (sSh st p one oth n (k + 1)).1 < sBy st one p 0 ((k : Int) + 1) + sBy st oth p ((k : Int) + 1) n then (sBy st one p 0 ((k : Int) + 1) + sBy st oth p ((k : Int) + 1) n, (k : Int) + 1) else sSh st p one oth n (k + 1) := by rw [← e1]; rfl
      have x1 := b1 ((k : Int) + 1) (by omega) (by omega)
      have x2 := b2 ((k : Int) + 1) (by omega) (by omega)
      have x3 := b1 _ q1.1 (by omega)
      have x4 := b2 _ q1.1 (by omega)
      refine B_X6_bestHandOver_5 C (kt := fun c => by omega) (kf := fun c => ?_)
      refine B_X6_bestHandOver_11 C (r2 := y1 + 4) (x8 := sBy st one p 0 ((k : Int) + 1)) (e9 := s1 _ (by omega) (by omega)) (r11 := y2 + 5) (x17 := sBy st oth p ((k : Int) + 1) n) (e18 := s2 _ (by omega) (by omega)) (r20 := y1 + 4) (x26 := sBy st one p 0 (sSh st p one oth n (k + 1)).2) (e27 := s1 _ q1.1 (by omega)) (r29 := y2 + 5) (x35 := sBy st oth p (sSh st p one oth n (k + 1)).2 n) (e36 := s2 _ q1.1 (by omega)) (q6 := by rw [ly14]; omega) (q15 := by rw [ly25]; omega) (q24 := by rw [ly14]; omega) (q33 := by rw [ly25]; omega) (kt := fun c2 => ?_) (kf := fun c2 => ?_)
      · refine B_X6_bestHandOver_45 C (kk := ?_)
        rw [e, if_neg (by omega)] at nx
        exact nx
      · refine B_X6_bestHandOver_42 C (kk := ?_)
        refine B_X6_bestHandOver_45 C (kk := ?_)
        rw [e, if_pos (by omega)] at nx
        exact nx
  refine B_X6_bestHandOver_0 C (kk := ?_)
  have z := (sSh_b hB 0).1
  have e2 : (sSh st p one oth n (0 + 1)).2 = 0 := by omega
  have := lp (Int.toNat n) 0 (by omega)
  rw [e2] at this
  exact this
theorem ct_X6_share (G : Gx) (l : Launch) (h : PH) {st : ST} (hW : CW h st) {nm : Int} (gnm : pR nm) {one : Int} (gone : pR one) {oth : Int} (goth : pR oth) {wh : Int} (gwh : pR wh) : CT_X6_share G l [.inr 2, .inl nm, .inl one, .inl oth, .inl wh] h (KQ (fun v st' => v = mShare st nm one oth wh ∧ st' = st) h) := by
  obtain ⟨fx, hR, hS, h2, hY⟩ := id hW
  have xt2 : ph_T h 2 = 6 := fx.1.1
  have x20 : ph_R h 2 0 = 3 := fx.1.2.1
  have x23 : ph_R h 2 3 = 104 := fx.1.2.2.2.2
  have w3 : WS h 3 := fx.2.2.1.1
  have t3 : ph_T h 3 = 5 := w3.1.1
  have t4 : ph_T h 4 = 10 := w3.1.2.1
  have t5 : ph_T h 5 = 11 := w3.1.2.2.1
  have t6 : ph_T h 6 = 3 := w3.1.2.2.2.1
  have t7 : ph_T h 7 = 8 := w3.1.2.2.2.2
  have l4 : ph_L h 4 = 8 := w3.2.1.1
  have l5 : ph_L h 5 = 4 := w3.2.1.2.1
  have l7 : ph_L h 7 = 168 := w3.2.1.2.2
  have r30 : ph_R h 3 0 = 4 := w3.2.2.1.1
  have r31 : ph_R h 3 1 = 5 := w3.2.2.1.2.1
  have r32 : ph_R h 3 2 = 6 := w3.2.2.1.2.2.1
  have r33 : ph_R h 3 3 = 7 := w3.2.2.1.2.2.2
  have t104 : ph_T h 104 = 2 := fx.2.2.2.1.1
  have f1 : ph_I h 3 4 = st 484 := hR.1
  have sr6 : SR h 6 st := hR.2.2.2.1
  have hmany := hS.2.2.1
  have hb := hS.2.1
  refine ct_intro rfl (Nat.le_of_ble_eq_true rfl) (fun X hX C => ?_)
  by_cases hp : 0 ≤ pOf st nm
  · have pb : 0 ≤ pOf st nm ∧ pOf st nm < st 484 := by have := pOf_b (st := st) nm hmany.1; omega
    obtain ⟨hfs, hfr, fb1, fb2⟩ := hW.flt pb
    have ft0 : ph_T h (ph_R h 4 (Int.toNat (pOf st nm))) = 0 := hfs.1.1
    obtain ⟨⟨fi2, fi3, fi4, fi5, fi6⟩, fpt⟩ := id hfr
    have hPp := hS.2.2.2.2 _ pb.1 pb.2
    have h2p := h2.1 _ pb.1 pb.2
    refine B_X6_share_0 C (hM := ct_idxP _ _ _ hW gnm hp) (kk := fun r1 h1 hq1 => ?_)
    obtain ⟨rfl, rfl⟩ := hq1
    refine B_X6_share_8 C (q1 := by unfold pR; omega) (kt := fun c2 => ?_) (kf := fun c2 => ?_)
    · exact B_X6_share_29 C (hq := by exact KQ_same hW ⟨by unfold mShare; rw [if_pos (by omega)], rfl⟩)
    · refine B_X6_share_15 C (hM := ct_X6_isDish _ _ _) (kk := fun r3 h3 hq3 => ?_)
      obtain ⟨rfl, ⟨rfl, c3⟩ | ⟨rfl, c3⟩⟩ := hq3
      · refine B_X6_share_19 C (kt := fun c4 => absurd c4 (by decide)) (kf := fun c4 => ?_)
        refine B_X6_share_22 C (hM := ct_X6_isDish _ _ _) (kk := fun r5 h5 hq5 => ?_)
        obtain ⟨rfl, ⟨rfl, c5⟩ | ⟨rfl, c5⟩⟩ := hq5
        · refine B_X6_share_26 C (kt := fun c6 => ?_) (kf := fun c6 => absurd c6 (by decide))
          refine B_X6_share_31 C (hM := ct_X6_isIn _ _ _) (kk := fun r7 h7 hq7 => ?_)
          obtain ⟨rfl, ⟨rfl, c7⟩ | ⟨rfl, c7⟩⟩ := hq7
          · refine B_X6_share_38 C (kt := fun c8 => absurd c8 (by decide)) (kf := fun c8 => ?_)
            refine B_X6_share_41 C (kt := fun c9 => ?_) (kf := fun c9 => ?_)
            · refine B_X6_share_49 C (m11 := 10) (hM := ct_X0_isOpen _ _ _ ft0 fi4 fi5 (hb _) (hb _)) (kk := fun r10 h10 hq10 => ?_)
              obtain ⟨rfl, ⟨rfl, c10⟩ | ⟨rfl, c10⟩⟩ := hq10
              · refine B_X6_share_62 C (kt := fun c11 => ?_) (kf := fun c11 => absurd c11 (by decide))
                have hop : 0 < st (Int.toNat (16 + pOf st nm)) ∧ st (Int.toNat (24 + pOf st nm)) < 0 := by omega
                have d1 : 0 ≤ one ∧ one ≤ 3 := by omega
                have d2 : 0 ≤ oth ∧ oth ≤ 3 := by omega
                have dne : one ≠ oth := by omega
                have e1 : ¬ ¬ (0 ≤ pOf st nm ∧ (0 ≤ one ∧ one ≤ 3) ∧ (0 ≤ oth ∧ oth ≤ 3)) := fun z => z ⟨hp, d1, d2⟩
                have e2 : ¬ ¬ ((0 ≤ wh ∧ wh ≤ 1) ∧ one ≠ oth) := fun z => z ⟨by omega, dne⟩
                obtain ⟨y1, hy1⟩ : ∃ y : Nat, y = 110 + 6 * Int.toNat one := ⟨_, rfl⟩
                obtain ⟨y2, hy2⟩ : ∃ y : Nat, y = 110 + 6 * Int.toNat oth := ⟨_, rfl⟩
                refine B_X6_share_68 C (r2 := 104) (r5 := 3) (r8 := 4) (m14 := 10) (r15 := ph_R h 4 (Int.toNat (pOf st nm))) (hM := ct_X2_sharedWay _ _ _ hW d1 pb hop.1 hy1 rfl) (kk := fun r9 h1 hq9 => ?_)
                obtain ⟨rfl, hW1, hS1, hsh1, hI1⟩ := hq9
                have xt2a : ph_T h1 2 = 6 := hW1.1.1.1
                have x20a : ph_R h1 2 0 = 3 := hW1.1.1.2.1
                have x23a : ph_R h1 2 3 = 104 := hW1.1.1.2.2.2.2
                have t3a : ph_T h1 3 = 5 := hW1.1.2.2.1.1.1.1
                have t4a : ph_T h1 4 = 10 := hW1.1.2.2.1.1.1.2.1
                have t5a : ph_T h1 5 = 11 := hW1.1.2.2.1.1.1.2.2.1
                have l4a : ph_L h1 4 = 8 := hW1.1.2.2.1.1.2.1.1
                have l5a : ph_L h1 5 = 4 := hW1.1.2.2.1.1.2.1.2.1
                have r30a : ph_R h1 3 0 = 4 := hW1.1.2.2.1.1.2.2.1.1
                have r31a : ph_R h1 3 1 = 5 := hW1.1.2.2.1.1.2.2.1.2.1
                have t104a : ph_T h1 104 = 2 := hW1.1.2.2.2.1.1
                refine B_X6_share_86 C (r3 := 104) (r6 := 3) (r9 := 4) (m15 := 10) (r16 := ph_R h1 4 (Int.toNat (pOf st nm))) (e17 := rfl) (hM := ct_X2_sharedWay _ _ _ hW1 d2 pb hop.1 hy2 rfl) (kk := fun r8 h3 hq8 => ?_)
                obtain ⟨rfl, hW3, hS3, hsh3, hI3⟩ := hq8
                have hSa : S2 h h3 := hS1.tr hS3
                have xt2b : ph_T h3 2 = 6 := hW3.1.1.1
                have x20b : ph_R h3 2 0 = 3 := hW3.1.1.2.1
                have x23b : ph_R h3 2 3 = 104 := hW3.1.1.2.2.2.2
                have t3b : ph_T h3 3 = 5 := hW3.1.2.2.1.1.1.1
                have t4b : ph_T h3 4 = 10 := hW3.1.2.2.1.1.1.2.1
                have t5b : ph_T h3 5 = 11 := hW3.1.2.2.1.1.1.2.2.1
                have l4b : ph_L h3 4 = 8 := hW3.1.2.2.1.1.2.1.1
                have l5b : ph_L h3 5 = 4 := hW3.1.2.2.1.1.2.1.2.1
                have r30b : ph_R h3 3 0 = 4 := hW3.1.2.2.1.1.2.2.1.1
                have r31b : ph_R h3 3 1 = 5 := hW3.1.2.2.1.1.2.2.1.2.1
                have t104b : ph_T h3 104 = 2 := hW3.1.2.2.2.1.1
                obtain ⟨hfs3, hfr3, fb13, fb23⟩ := hW3.flt pb
                have ft3 : ph_T h3 (ph_R h3 4 (Int.toNat (pOf st nm))) = 0 := hfs3.1.1
                have hY1 : YS h3 y1 := by
                  have := (hW3.1.2.2.2.2.2 (Int.toNat one) (by omega)).2
                  rw [← hy1] at this
                  exact this
                have hY2 : YS h3 y2 := by
                  have := (hW3.1.2.2.2.2.2 (Int.toNat oth) (by omega)).2
                  rw [← hy2] at this
                  exact this
                have s1 : ∀ k : Int, 0 ≤ k → k ≤ st (Int.toNat (16 + pOf st nm)) → ph_I h3 (y1 + 4) (Int.toNat k) = sBy st one (pOf st nm) 0 k := fun k a b => by rw [hI3 _ (by omega) (by omega) (by omega)]; exact (hsh1 k a b).1
                have s2 : ∀ k : Int, 0 ≤ k → k ≤ st (Int.toNat (16 + pOf st nm)) → ph_I h3 (y2 + 5) (Int.toNat k) = sBy st oth (pOf st nm) k (st (Int.toNat (16 + pOf st nm))) := fun k a b => (hsh3 k a b).2
                have q16 := hPp.2
                have q60 := hPp.1
                have D1 := hS.2.2.2.1 one d1.1 d1.2
                have D2 := hS.2.2.2.1 oth d2.1 d2.2
                have b1 : ∀ k : Int, 0 ≤ k → k ≤ st (Int.toNat (16 + pOf st nm)) → 0 ≤ sBy st one (pOf st nm) 0 k ∧ sBy st one (pOf st nm) 0 k ≤ 80 := fun k a b => sBy_b D1.2.1 D1.2.2.1.1 q60.2 (by omega)
                have b2 : ∀ k : Int, 0 ≤ k → k ≤ st (Int.toNat (16 + pOf st nm)) → 0 ≤ sBy st oth (pOf st nm) k (st (Int.toNat (16 + pOf st nm))) ∧ sBy st oth (pOf st nm) k (st (Int.toNat (16 + pOf st nm))) ≤ 80 := fun k a b => sBy_b D2.2.1 D2.2.2.1.1 q60.2 (by omega)
                have hB : 0 ≤ sBy st one (pOf st nm) 0 0 + sBy st oth (pOf st nm) 0 (st (Int.toNat (16 + pOf st nm))) := by
                  have z1 := b1 0 (Int.le_refl _) q16.1
                  have z2 := b2 0 (Int.le_refl _) q16.1
                  omega
                refine B_X6_share_106 C (r3 := 3) (r6 := 4) (m12 := 10) (r13 := ph_R h3 4 (Int.toNat (pOf st nm))) (e14 := rfl) (x16 := st (Int.toNat (16 + pOf st nm))) (e17 := hfr3.1.2.2.1) (hM := ct_X6_bestHandOver _ _ _ hY1 hY2 q16 s1 s2 b1 b2 hB) (kk := fun r7 h5 hq7 => ?_)
                obtain ⟨rfl, rfl⟩ := hq7
                have ek : Int.toNat (st (Int.toNat (16 + pOf st nm)) + 1) = Int.toNat (st (Int.toNat (16 + pOf st nm))) + 1 := by omega
                obtain ⟨v1, v2⟩ := sSh_b hB (Int.toNat (st (Int.toNat (16 + pOf st nm))))
                rw [← ek] at v1 v2
                have ty1 : ph_T h3 y1 = 4 := hY1.1.1
                have ty2 : ph_T h3 y2 = 4 := hY2.1.1
                have ty14 : ph_T h3 (y1 + 4) = 8 := hY1.1.2.2.2.2.1
                have ty25 : ph_T h3 (y2 + 5) = 8 := hY2.1.2.2.2.2.2
                have ly14 : ph_L h3 (y1 + 4) = 17 := hY1.2.1.2.2.2.1
                have ly25 : ph_L h3 (y2 + 5) = 17 := hY2.2.1.2.2.2.2
                have ry13 : ph_R h3 y1 3 = y1 + 4 := hY1.2.2.2.2.2.1
                have ry24 : ph_R h3 y2 4 = y2 + 5 := hY2.2.2.2.2.2.2
                refine B_X6_share_128 C (kt := fun c4 => ?_) (kf := fun c4 => ?_)
                · refine B_X6_share_140 C (r2 := y1 + 4) (x8 := _) (e9 := s1 _ v1.1 (by omega)) (r11 := y2 + 5) (x17 := _) (e18 := s2 _ v1.1 (by omega)) (q6 := by rw [ly14]; omega) (q15 := by rw [ly25]; omega) (kk := ?_)
                  refine B_X6_share_157 C (hq := KQ_s2 hW3 hSa ⟨?_, rfl⟩)
                  unfold mShare
                  rw [if_neg e1, if_neg e2, if_neg (fun z => z hop), if_neg c4, v2]
                · refine B_X6_share_135 C (kk := ?_)
                  refine B_X6_share_157 C (hq := KQ_s2 hW3 hSa ⟨?_, rfl⟩)
                  unfold mShare
                  rw [if_neg e1, if_neg e2, if_neg (fun z => z hop), if_pos c4]
              · refine B_X6_share_62 C (kt := fun c12 => absurd c12 (by decide)) (kf := fun c12 => ?_)
                exact B_X6_share_65 C (hq := by exact KQ_same hW ⟨by unfold mShare; rw [if_neg (by omega), if_neg (by omega), if_pos (by omega)], rfl⟩)
            · exact B_X6_share_46 C (hq := by exact KQ_same hW ⟨by unfold mShare; rw [if_neg (by omega), if_pos (by omega)], rfl⟩)
          · refine B_X6_share_38 C (kt := fun c13 => ?_) (kf := fun c13 => absurd c13 (by decide))
            exact B_X6_share_46 C (hq := by exact KQ_same hW ⟨by unfold mShare; rw [if_neg (by omega), if_pos (by omega)], rfl⟩)
        · refine B_X6_share_26 C (kt := fun c14 => absurd c14 (by decide)) (kf := fun c14 => ?_)
          exact B_X6_share_29 C (hq := by exact KQ_same hW ⟨by unfold mShare; rw [if_pos (by omega)], rfl⟩)
      · refine B_X6_share_19 C (kt := fun c15 => ?_) (kf := fun c15 => absurd c15 (by decide))
        exact B_X6_share_29 C (hq := by exact KQ_same hW ⟨by unfold mShare; rw [if_pos (by omega)], rfl⟩)
  · refine B_X6_share_0 C (hM := ct_idxN _ _ _ hW gnm hp) (kk := fun r1 h1 hq1 => ?_)
    obtain ⟨rfl, rfl⟩ := hq1
    refine B_X6_share_8 C (kt := fun c => ?_) (kf := fun c => absurd (show (-1 : Int) < 0 by decide) c)
    exact B_X6_share_29 C (hq := KQ_same hW ⟨by unfold mShare; rw [if_pos (by omega)], rfl⟩)
