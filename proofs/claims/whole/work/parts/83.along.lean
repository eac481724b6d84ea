/-! the class: goAlong, take -/
theorem up_self (r : Nat → Int) (k : Nat) : up r k (r k) = r := by
  funext j
  unfold up
  split
  · next h => rw [h]
  · rfl
theorem sLk_z {st : ST} {p n free : Int} {r1 r2 : Nat → Int} : ∀ (m : Nat), (∀ i : Nat, i < m → bitS st p 0 n (free + i) (r1 (Int.toNat (free + i))) (r2 (Int.toNat (free + i))) = 0) → sLk st p n free r1 r2 m = st
  | 0, _ => rfl
  | m + 1, h => by
    have ih := sLk_z m (fun i hi => h i (by omega))
    unfold sLk
    rw [ih, h m (by omega), Int.add_zero, up_self]
/-- one tick more is counted -/
theorem sLk_step {st : ST} {p n free k : Int} {r1 r2 : Nat → Int} (fr : 0 ≤ free) (hB : bitS st p 0 n (st (Int.toNat (8 + p)) + k) (r1 (Int.toNat (st (Int.toNat (8 + p)) + k))) (r2 (Int.toNat (st (Int.toNat (8 + p)) + k))) = 1) (hf : free ≤ st (Int.toNat (8 + p)) + k) : sLk st p n free r1 r2 (Int.toNat (st (Int.toNat (8 + p)) + (k + 1) - free)) = up (sLk st p n free r1 r2 (Int.toNat (st (Int.toNat (8 + p)) + k - free))) (Int.toNat (316 + (st (Int.toNat ((40 + (16 * p)) + k)) * 7 + st (Int.toNat ((168 + (16 * p)) + k))))) (sLk st p n free r1 r2 (Int.toNat (st (Int.toNat (8 + p)) + k - free)) (Int.toNat (316 + (st (Int.toNat ((40 + (16 * p)) + k)) * 7 + st (Int.toNat ((168 + (16 * p)) + k))))) + 1) := by
  have e : Int.toNat (st (Int.toNat (8 + p)) + (k + 1) - free) = Int.toNat (st (Int.toNat (8 + p)) + k - free) + 1 := by omega
  have e2 : free + ((Int.toNat (st (Int.toNat (8 + p)) + k - free) : Nat) : Int) = st (Int.toNat (8 + p)) + k := by omega
  rw [e]
  show up _ _ _ = _
  rw [e2, hB]
  have hs : sS st p 0 n (st (Int.toNat (8 + p)) + k) (r1 (Int.toNat (st (Int.toNat (8 + p)) + k))) (r2 (Int.toNat (st (Int.toNat (8 + p)) + k))) = true := by
    unfold bitS at hB
    split at hB
    · assumption
    · exact absurd hB (by decide)
  rw [sS_iff] at hs
  obtain ⟨-, -, -, z4, z5, -⟩ := hs
  have ek : st (Int.toNat (8 + p)) + k - st (Int.toNat (8 + p)) = k := by omega
  rw [ek] at z4 z5
  rw [← z4, ← z5]
  have ei : Int.toNat (316 + 7 * st (Int.toNat ((40 + (16 * p)) + k)) + st (Int.toNat ((168 + (16 * p)) + k))) = Int.toNat (316 + (st (Int.toNat ((40 + (16 * p)) + k)) * 7 + st (Int.toNat ((168 + (16 * p)) + k)))) := by omega
  rw [ei]
theorem sLk_stay {st : ST} {p n free k : Int} {r1 r2 : Nat → Int} (h : free ≤ st (Int.toNat (8 + p)) + k → bitS st p 0 n (st (Int.toNat (8 + p)) + k) (r1 (Int.toNat (st (Int.toNat (8 + p)) + k))) (r2 (Int.toNat (st (Int.toNat (8 + p)) + k))) = 0) : sLk st p n free r1 r2 (Int.toNat (st (Int.toNat (8 + p)) + (k + 1) - free)) = sLk st p n free r1 r2 (Int.toNat (st (Int.toNat (8 + p)) + k - free)) := by
  by_cases z : free ≤ st (Int.toNat (8 + p)) + k
  · have e : Int.toNat (st (Int.toNat (8 + p)) + (k + 1) - free) = Int.toNat (st (Int.toNat (8 + p)) + k - free) + 1 := by omega
    have e2 : free + ((Int.toNat (st (Int.toNat (8 + p)) + k - free) : Nat) : Int) = st (Int.toNat (8 + p)) + k := by omega
    rw [e]
    show up _ _ _ = _
    rw [e2, h z, Int.add_zero, up_self]
  · have e : Int.toNat (st (Int.toNat (8 + p)) + (k + 1) - free) = Int.toNat (st (Int.toNat (8 + p)) + k - free) := by omega
    rw [e]
theorem Ok2_take {st : ST} {d p : Int} {r1 r2 : Nat → Int} (hS : OkS st) (h2 : Ok2 st) (d0 : 0 ≤ d ∧ d ≤ 3) (p0 : 0 ≤ p ∧ p < st 484) (hr : ∀ i : Nat, i < Int.toNat (st (Int.toNat (8 + p)) + st (Int.toNat (16 + p)) - 1 + 1 - st (Int.toNat (304 + d))) → 0 ≤ r2 (Int.toNat (st (Int.toNat (304 + d)) + i)) ∧ r2 (Int.toNat (st (Int.toNat (304 + d)) + i)) ≤ 6) : (∀ j : Nat, (j < 296 ∨ 484 ≤ j) → j ≠ Int.toNat (24 + p) → j ≠ Int.toNat (32 + p) → sTk st d p r1 r2 j = st j) ∧ (sTk st d p r1 r2 (Int.toNat (24 + p)) = d ∧ sTk st d p r1 r2 (Int.toNat (32 + p)) = (sLay st d p 0 (st (Int.toNat (16 + p))) + 10000 - 1) / 10000) ∧ Ok2 (sTk st d p r1 r2) := by
  have m := hS.2.2.1
  have k : ∀ j : Nat, (j < 296 ∨ 484 ≤ j) → j ≠ Int.toNat (24 + p) → j ≠ Int.toNat (32 + p) → sTk st d p r1 r2 j = st j := by
    intro j hj h1 h3
    rw [sTk_j, if_neg h3, if_neg h1, if_neg (by omega), if_neg (by omega), if_neg (by omega)]
    exact (sLk_b _ hr j).1 (by omega)
  have v1 : sTk st d p r1 r2 (Int.toNat (24 + p)) = d := by rw [sTk_j, if_neg (by omega), if_pos rfl]
  have v2 : sTk st d p r1 r2 (Int.toNat (32 + p)) = (sLay st d p 0 (st (Int.toNat (16 + p))) + 10000 - 1) / 10000 := by rw [sTk_j, if_pos rfl]
  have e484 := k 484 (by omega) (by omega) (by omega)
  refine ⟨k, ⟨v1, v2⟩, fun q a b => ?_, fun q r a b c => ?_, ?_⟩
  · rw [e484] at b
    have np := (hS.2.2.2.2 q a b).2
    obtain ⟨x1, x2, x3⟩ := h2.1 q a b
    rw [k (Int.toNat q) (by omega) (by omega) (by omega), k (Int.toNat (16 + q)) (by omega) (by omega) (by omega)]
    refine ⟨x1, ?_, fun i c e => ?_⟩
    · by_cases z : q = p
      · rw [z, v1]; right; exact d0
      · rw [k (Int.toNat (24 + q)) (by omega) (by omega) (by omega)]; exact x2
    · rw [k _ (by omega) (by omega) (by omega), k _ (by omega) (by omega) (by omega)]
      exact x3 i c e
  · rw [e484] at c
    rw [k (Int.toNat q) (by omega) (by omega) (by omega), k (Int.toNat r) (by omega) (by omega) (by omega)]
    exact h2.2.1 q r a b c
  · rw [k 489 (by omega) (by omega) (by omega), k 490 (by omega) (by omega) (by omega)]
    exact h2.2.2
theorem LkB.v {st : ST} {B : Int} (h : LkB st B) {j : Nat} (a : 316 ≤ j) (b : j < 484) : 0 ≤ st j ∧ st j ≤ B := h j a b
theorem ct_X6_goAlong (G : Gx) (l : Launch) (h : PH) {st : ST} {d p B : Int} (hW : CW h st) (hB : LkB st B) (B0 : B ≤ 1000000000) (d0 : 0 ≤ d ∧ d ≤ 3) (p0 : 0 ≤ p ∧ p < st 484) {y fc : Nat} (hy : y = 110 + 6 * Int.toNat d) (hfc : fc = ph_R h 4 (Int.toNat p)) (h5 : ph_I h y 5 = st (Int.toNat p)) (hal : sVal st d p ≠ -1000000) (hWc0 : WayC h y st d p) : CT_X6_goAlong G l [.inr 2, .inl d, .inr fc, .inr y] h (fun rr h' => rr = none ∧ CW h' (sTk st d p (ph_I h (y + 1)) (ph_I h (y + 2))) ∧ CFr h h' ∧ ph_I h' fc 6 = (sVal st d p + 10000 - 1) / 10000) := by
  obtain ⟨fx, hR, hS, h2, hY⟩ := id hW
  have xt2 : ph_T h 2 = 6 := fx.1.1
  have x20 : ph_R h 2 0 = 3 := fx.1.2.1
  have x23 : ph_R h 2 3 = 104 := fx.1.2.2.2.2
  have w3 : WS h 3 := fx.2.2.1.1
  have t3 : ph_T h 3 = 5 := w3.1.1
  have t4 : ph_T h 4 = 10 := w3.1.2.1
  have t5 : ph_T h 5 = 11 := w3.1.2.2.1
  have t6 : ph_T h 6 = 3 := w3.1.2.2.2.1
  have t7 : ph_T h 7 = 8 := w3.1.2.2.2.2
  have l4 : ph_L h 4 = 8 := w3.2.1.1
  have l5 : ph_L h 5 = 4 := w3.2.1.2.1
  have l7 : ph_L h 7 = 168 := w3.2.1.2.2
  have r30 : ph_R h 3 0 = 4 := w3.2.2.1.1
  have r31 : ph_R h 3 1 = 5 := w3.2.2.1.2.1
  have r32 : ph_R h 3 2 = 6 := w3.2.2.1.2.2.1
  have r33 : ph_R h 3 3 = 7 := w3.2.2.1.2.2.2
  have t104 : ph_T h 104 = 2 := fx.2.2.2.1.1
  have f1 : ph_I h 3 4 = st 484 := hR.1
  have sr6 : SR h 6 st := hR.2.2.2.1
  have hmany := hS.2.2.1
  have hb := hS.2.1
  obtain ⟨hfs, hfr, fb1, fb2⟩ := hW.flt p0
  rw [← hfc] at hfs hfr fb1 fb2
  have yb : 110 ≤ y ∧ y + 5 < 134 := by omega
  obtain ⟨⟨ft0, ft1, ft2⟩, ⟨fl1, fl2⟩, fr0, fr1⟩ := id hfs
  obtain ⟨⟨fi2, fi3, fi4, fi5, fi6⟩, fpt⟩ := id hfr
  obtain ⟨q60, q16⟩ := hS.2.2.2.2 _ p0.1 p0.2
  have h2p := h2.1 _ p0.1 p0.2
  obtain ⟨rm, tm, m0, m1, m2, m3, m4⟩ := hW.mnt d0
  have gD := hS.2.2.2.1 d d0.1 d0.2
  have gf := gD.2.2.1
  have hY1 : YS h y := by
    have := (fx.2.2.2.2.2 (Int.toNat d) (by omega)).2
    rw [← hy] at this
    exact this
  have ty1 : ph_T h y = 4 := hY1.1.1
  have ty11 : ph_T h (y + 1) = 8 := hY1.1.2.1
  have ty12 : ph_T h (y + 2) = 8 := hY1.1.2.2.1
  have ty13 : ph_T h (y + 3) = 9 := hY1.1.2.2.2.1
  have ly11 : ph_L h (y + 1) = 76 := hY1.2.1.1
  have ly12 : ph_L h (y + 2) = 76 := hY1.2.1.2.1
  have ly13 : ph_L h (y + 3) = 76 := hY1.2.1.2.2.1
  have ry10 : ph_R h y 0 = y + 1 := hY1.2.2.1
  have ry11 : ph_R h y 1 = y + 2 := hY1.2.2.2.1
  have ry12 : ph_R h y 2 = y + 3 := hY1.2.2.2.2.1
  obtain ⟨w6, wz, -⟩ | ⟨w6, wal, wpt, ⟨w8, w9⟩, ⟨w10, w11, wb1, wb2, wb3, wb4⟩, ⟨w12, w13⟩, wsg⟩ := id hWc0
  · exact absurd wz hal
  have liv := Liv_start (st := st) (d := d) (p := p) (f := 0) wal
  have hfl : st (Int.toNat (304 + d)) ≤ st (Int.toNat (8 + p)) + st (Int.toNat (16 + p)) - 1 := liv.2.1
  clear liv
  have lT : lastT st p = st (Int.toNat (8 + p)) + st (Int.toNat (16 + p)) - 1 := rfl
  have hr2 : ∀ i : Nat, i < Int.toNat (st (Int.toNat (8 + p)) + st (Int.toNat (16 + p)) - 1 + 1 - st (Int.toNat (304 + d))) → 0 ≤ ph_I h (y + 2) (Int.toNat (st (Int.toNat (304 + d)) + i)) ∧ ph_I h (y + 2) (Int.toNat (st (Int.toNat (304 + d)) + i)) ≤ 6 := fun i hi => (wpt.2.2.2 (st (Int.toNat (304 + d)) + i) (by omega) (by omega)).2
  have hokt := OkS_take hS hB B0 d0 p0 hfl wpt
  obtain ⟨kk, ⟨vt, vs⟩, k2⟩ := Ok2_take (r1 := (ph_I h (y + 1))) (r2 := (ph_I h (y + 2))) hS h2 d0 p0 hr2
  refine ct_intro rfl (Nat.le_of_ble_eq_true rfl) (fun X hX C => ?_)
  have fin : ∀ h1 : PH, Fr (fun c => c = 7) h h1 → (∀ j : Int, 0 ≤ j → j < 168 → ph_I h1 7 (Int.toNat j) = sLk st p (st (Int.toNat (16 + p))) (st (Int.toNat (304 + d))) (ph_I h (y + 1)) (ph_I h (y + 2)) (Int.toNat (st (Int.toNat (8 + p)) + st (Int.toNat (16 + p)) - st (Int.toNat (304 + d)))) (Int.toNat (316 + j))) → ∀ a4 : Int, PW G X 5 (pw_E G X (fun rr h' => rr = none ∧ CW h' (sTk st d p (ph_I h (y + 1)) (ph_I h (y + 2))) ∧ CFr h h' ∧ ph_I h' fc 6 = (sVal st d p + 10000 - 1) / 10000) 0 0) 0 0 63 [some (.inr 2), some (.inl d), some (.inr fc), some (.inr y), some (.inl a4)] [] h1 := by
    intro h1 hF hl a4
    have i1 : ∀ c, c ≠ 7 → ∀ k, ph_I h1 c k = ph_I h c k := fun c hc k => hF.I hc k
    have xt2a : ph_T h1 2 = 6 := by rw [hF.T]; exact xt2
    have x20a : ph_R h1 2 0 = 3 := by rw [hF.R]; exact x20
    have x23a : ph_R h1 2 3 = 104 := by rw [hF.R]; exact x23
    have t3a : ph_T h1 3 = 5 := by rw [hF.T]; exact t3
    have t5a : ph_T h1 5 = 11 := by rw [hF.T]; exact t5
    have l5a : ph_L h1 5 = 4 := by rw [hF.L]; exact l5
    have r31a : ph_R h1 3 1 = 5 := by rw [hF.R]; exact r31
    have rma : ph_R h1 5 (Int.toNat d) = 32 + Int.toNat d := by rw [hF.R]; exact rm
    have tma : ph_T h1 (32 + Int.toNat d) = 1 := by rw [hF.T]; exact tm
    have tya : ph_T h1 y = 4 := by rw [hF.T]; exact ty1
    have tya1 : ph_T h1 (y + 1) = 8 := by rw [hF.T]; exact ty11
    have tya2 : ph_T h1 (y + 2) = 8 := by rw [hF.T]; exact ty12
    have lya1 : ph_L h1 (y + 1) = 76 := by rw [hF.L]; exact ly11
    have lya2 : ph_L h1 (y + 2) = 76 := by rw [hF.L]; exact ly12
    have rya0 : ph_R h1 y 0 = y + 1 := by rw [hF.R]; exact ry10
    have rya1 : ph_R h1 y 1 = y + 2 := by rw [hF.R]; exact ry11
    have w9a : ph_I h1 y 9 = lastT st p := by rw [i1 y (by omega)]; exact w9
    have t104a : ph_T h1 104 = 2 := by rw [hF.T]; exact t104
    have tfa : ph_T h1 fc = 0 := by rw [hF.T]; exact ft0
    refine B_X6_goAlong_63 C (r2 := 3) (r5 := 5) (m11 := 11) (r12 := 32 + Int.toNat d) (r15 := y + 1) (x18 := lastT st p) (x24 := ph_I h (y + 1) (Int.toNat (lastT st p))) (e25 := i1 _ (by omega) _) (r27 := y + 2) (x30 := lastT st p) (x36 := ph_I h (y + 2) (Int.toNat (lastT st p))) (e37 := i1 _ (by omega) _) (x39 := lastT st p) (q9 := by rw [l5a]; omega) (q21 := by omega) (q22 := by rw [lya1]; omega) (q23 := by unfold pR; omega) (q33 := by omega) (q34 := by rw [lya2]; omega) (q35 := by unfold pR; omega) (hM := ct_X1_turnTo _ _ _ tma) (kk := fun rr h4 hq4 => ?_)
    obtain ⟨rfl, rfl⟩ := hq4
    have hmm : ∃ hm : PH, hm = (ph_setI (ph_setI (ph_setI h1 (32 + Int.toNat d) 0 (ph_I h (y + 1) (Int.toNat (lastT st p)))) (32 + Int.toNat d) 1 (ph_I h (y + 2) (Int.toNat (lastT st p)))) (32 + Int.toNat d) 2 (lastT st p + 1)) := ⟨_, rfl⟩
    obtain ⟨hm, ehm⟩ := hmm
    have xm : Fr (fun c => c = 32 + Int.toNat d) h1 hm := by rw [ehm]; exact (((Fr.rf (fun c => c = 32 + Int.toNat d) h1).set rfl _ _).set rfl _ _).set rfl _ _
    have n0 : ph_I hm (32 + Int.toNat d) 0 = ph_I h (y + 1) (Int.toNat (lastT st p)) := by rw [ehm, sI_k (by decide), sI_k (by decide), sI_eq]
    have n1 : ph_I hm (32 + Int.toNat d) 1 = ph_I h (y + 2) (Int.toNat (lastT st p)) := by rw [ehm, sI_k (by decide), sI_eq]
    have n2 : ph_I hm (32 + Int.toNat d) 2 = lastT st p + 1 := by rw [ehm, sI_eq]
    have n3 : ph_I hm (32 + Int.toNat d) 3 = st (Int.toNat (308 + d)) := by rw [ehm, sI_k (by decide), sI_k (by decide), sI_k (by decide), i1 _ (by omega)]; exact m3
    have n4 : ph_I hm (32 + Int.toNat d) 4 = st (Int.toNat (312 + d)) := by rw [ehm, sI_k (by decide), sI_k (by decide), sI_k (by decide), i1 _ (by omega)]; exact m4
    rw [← ehm]
    clear ehm
    have x2 : Fr (fun c => c = fc) hm (ph_setI (ph_setI hm fc 5 d) fc 6 (ph_I h y 10)) := ((Fr.rf (fun c => c = fc) hm).set rfl _ _).set rfl _ _
    have xa : Fr (fun c => c = 7 ∨ c = 32 + Int.toNat d ∨ c = fc) h (ph_setI (ph_setI hm fc 5 d) fc 6 (ph_I h y 10)) := (hF.mono (fun c hc => Or.inl hc)).tr ((xm.mono (fun c hc => Or.inr (Or.inl hc))).tr (x2.mono (fun c hc => Or.inr (Or.inr hc))))
    have f5 : ph_I (ph_setI (ph_setI hm fc 5 d) fc 6 (ph_I h y 10)) fc 5 = d := by rw [sI_k (by decide), sI_eq]
    have f6 : ph_I (ph_setI (ph_setI hm fc 5 d) fc 6 (ph_I h y 10)) fc 6 = ph_I h y 10 := by rw [sI_eq]
    have fo : ∀ k, k ≠ 5 → k ≠ 6 → ph_I (ph_setI (ph_setI hm fc 5 d) fc 6 (ph_I h y 10)) fc k = ph_I h fc k := fun k a b => by rw [sI_k b, sI_k a, xm.I (by omega), i1 _ (by omega)]
    have fm : ∀ k, ph_I (ph_setI (ph_setI hm fc 5 d) fc 6 (ph_I h y 10)) (32 + Int.toNat d) k = ph_I hm (32 + Int.toNat d) k := fun k => x2.I (by omega) k
    have f7 : ∀ k, ph_I (ph_setI (ph_setI hm fc 5 d) fc 6 (ph_I h y 10)) 7 k = ph_I h1 7 k := fun k => by rw [x2.I (by omega), xm.I (by omega)]
    generalize eh2 : ph_setI (ph_setI hm fc 5 d) fc 6 (ph_I h y 10) = h2x at *
    have e484 := hokt.2.2.2
    have wr1 : WR h2x 3 (sTk st d p (ph_I h (y + 1)) (ph_I h (y + 2))) := by
      refine ⟨by rw [e484, xa.I (by omega)]; exact f1, fun q q0 q1 => ?_, fun d' d0' d1' => ?_, ?_, fun j j0 j1 => ?_⟩
      · rw [e484] at q1
        show FR h2x (ph_R h2x 4 (Int.toNat q)) _ q
        rw [xa.R]
        by_cases z : q = p
        · rw [z, ← hfc]
          unfold FR
          rw [vt, vs, kk (Int.toNat p) (by omega) (by omega) (by omega), kk (Int.toNat (8 + p)) (by omega) (by omega) (by omega), kk (Int.toNat (16 + p)) (by omega) (by omega) (by omega), fo 2 (by decide) (by decide), fo 3 (by decide) (by decide), fo 4 (by decide) (by decide), f5, f6]
          refine ⟨⟨fi2, fi3, fi4, rfl, w10⟩, fun i c e => ?_⟩
          rw [kk _ (by omega) (by omega) (by omega), kk _ (by omega) (by omega) (by omega), xa.I (by omega), xa.I (by omega)]
          exact fpt i c e
        · obtain ⟨-, fq, gb1, gb2⟩ := hW.flt (p := q) ⟨q0, q1⟩
          obtain ⟨-, jq, hjq, ejq⟩ := w3.2.2.2.1 (Int.toNat q) (by omega)
          obtain ⟨-, jp, hjp, ejp⟩ := w3.2.2.2.1 (Int.toNat p) (by omega)
          have ejq' : ph_R h 4 (Int.toNat q) = 8 + 3 * jq := ejq
          have ejp' : fc = 8 + 3 * jp := by rw [hfc]; exact ejp
          have hne : jq ≠ jp := fun u => by
            have := w3.2.2.2.2.1 (Int.toNat q) (Int.toNat p) (by omega) (by omega) (by show ph_R h 4 _ = ph_R h 4 _; rw [ejq', ← hfc, ejp', u])
            omega
          exact (Sm.of (p := q) (by omega) (fun j hj => kk j (by omega) (by omega) (by omega))).fr (hS.2.2.2.2 q q0 q1).2.2 (FR_congr (fun c c0 c1 k => xa.I (by omega) k) fq)
      · by_cases z : d' = d
        · rw [z]
          show MR h2x (32 + Int.toNat d) _ d
          unfold MR
          rw [fm, fm, fm, fm, fm, n0, n1, n2, n3, n4]
          refine ⟨?_, ?_, ?_, ?_, ?_⟩
          · rw [sTk_j, if_neg (by omega), if_neg (by omega), if_neg (by omega), if_neg (by omega), if_pos rfl, lT]
          · rw [sTk_j, if_neg (by omega), if_neg (by omega), if_neg (by omega), if_pos rfl, lT]
          · rw [sTk_j, if_neg (by omega), if_neg (by omega), if_pos rfl, lT]
          · rw [sTk_j, if_neg (by omega), if_neg (by omega), if_neg (by omega), if_neg (by omega), if_neg (by omega)]
            exact ((sLk_b _ hr2 _).1 (by omega)).symm
          · rw [sTk_j, if_neg (by omega), if_neg (by omega), if_neg (by omega), if_neg (by omega), if_neg (by omega)]
            exact ((sLk_b _ hr2 _).1 (by omega)).symm
        · have mm := hR.2.2.1 d' d0' d1'
          have ii : ∀ k, ph_I h2x (3 + 29 + Int.toNat d') k = ph_I h (3 + 29 + Int.toNat d') k := fun k => xa.I (by omega) k
          have tt : ∀ j : Nat, 296 ≤ j → j < 316 → ((j : Int) - 296) % 4 = d' → sTk st d p (ph_I h (y + 1)) (ph_I h (y + 2)) j = st j := fun j a b c => by
            rw [sTk_j, if_neg (by omega), if_neg (by omega), if_neg (by omega), if_neg (by omega), if_neg (by omega)]
            exact (sLk_b _ hr2 _).1 (by omega)
          unfold MR at *
          rw [ii, ii, ii, ii, ii, tt _ (by omega) (by omega) (by omega), tt _ (by omega) (by omega) (by omega), tt _ (by omega) (by omega) (by omega), tt _ (by omega) (by omega) (by omega), tt _ (by omega) (by omega) (by omega)]
          exact mm
      · exact SR_st (fun j a b => kk j (by omega) (by omega) (by omega)) (SR_congr (fun k => xa.I (by omega) k) sr6)
      · show ph_I h2x 7 (Int.toNat j) = _
        rw [f7, hl j j0 j1, sTk_j, if_neg (by omega), if_neg (by omega), if_neg (by omega), if_neg (by omega), if_neg (by omega)]
        have en : Int.toNat (st (Int.toNat (8 + p)) + st (Int.toNat (16 + p)) - 1 + 1 - st (Int.toNat (304 + d))) = Int.toNat (st (Int.toNat (8 + p)) + st (Int.toNat (16 + p)) - st (Int.toNat (304 + d))) := by omega
        rw [en]
    have hxx := XS_fr xa fx
    have e10 : ph_I (ph_setI hm fc 5 d) y 10 = ph_I h y 10 := by rw [sI_c (by omega), xm.I (by omega), i1 _ (by omega)]
    have tym : ph_T hm y = 4 := by rw [xm.T]; exact tya
    have tfm : ph_T hm fc = 0 := by rw [xm.T]; exact tfa
    have tm2 : ph_T hm 2 = 6 := by rw [xm.T]; exact xt2a
    have rm2 : ph_R hm 2 3 = 104 := by rw [xm.R]; exact x23a
    have tm104 : ph_T hm 104 = 2 := by rw [xm.T]; exact t104a
    refine B_X6_goAlong_99 C (x3 := ph_I h y 10) (e4 := e10) (r7 := 104) (hM := by rw [eh2]; exact ct_X2_forgetWays _ _ h2x hxx) (kk := fun rr h5 hq5 => ?_)
    obtain ⟨rfl, hF5, h55, ho5⟩ := hq5
    refine B_X6_goAlong_119 C (hq := ⟨rfl, CW_new hxx (WFl_fr xa (fun c hc => by omega) hW.fl) wr1 hokt.1 k2 hF5 h55 ho5, (xa.cfr (fun c hc => by omega)).tr (hF5.cfr (fun c hc => by omega)), ?_⟩)
    rw [hF5.I (by omega), f6]
    exact w10
  have lp : ∀ (m : Nat) (k : Int) (h1 : PH), k + m = st (Int.toNat (16 + p)) → 0 ≤ k → Fr (fun c => c = 7) h h1 → (∀ j : Int, 0 ≤ j → j < 168 → ph_I h1 7 (Int.toNat j) = sLk st p (st (Int.toNat (16 + p))) (st (Int.toNat (304 + d))) (ph_I h (y + 1)) (ph_I h (y + 2)) (Int.toNat (st (Int.toNat (8 + p)) + k - st (Int.toNat (304 + d)))) (Int.toNat (316 + j))) → PW G X 5 (pw_E G X (fun rr h' => rr = none ∧ CW h' (sTk st d p (ph_I h (y + 1)) (ph_I h (y + 2))) ∧ CFr h h' ∧ ph_I h' fc 6 = (sVal st d p + 10000 - 1) / 10000) 0 0) 0 0 3 [some (.inr 2), some (.inl d), some (.inr fc), some (.inr y), some (.inl k)] [] h1 := by
    intro m
    induction m with
    | zero =>
      intro k h1 hk k0 hF hl
      have tfa : ph_T h1 fc = 0 := by rw [hF.T]; exact ft0
      have e : k = st (Int.toNat (16 + p)) := by omega
      rw [e] at hl
      refine B_X6_goAlong_3 C (x2 := st (Int.toNat (16 + p))) (e3 := by rw [hF.I (by omega)]; exact fi4) (kt := fun c => ?_) (kf := fun c => by omega)
      exact fin h1 hF hl _
    | succ m ih =>
      intro k h1 hk k0 hF hl
      have i1 : ∀ c, c ≠ 7 → ∀ k, ph_I h1 c k = ph_I h c k := fun c hc k => hF.I hc k
      have tfa : ph_T h1 fc = 0 := by rw [hF.T]; exact ft0
      have tya : ph_T h1 y = 4 := by rw [hF.T]; exact ty1
      have rya2 : ph_R h1 y 2 = y + 3 := by rw [hF.R]; exact ry12
      have tya3 : ph_T h1 (y + 3) = 9 := by rw [hF.T]; exact ty13
      have lya3 : ph_L h1 (y + 3) = 76 := by rw [hF.L]; exact ly13
      have hk76 : 0 ≤ st (Int.toNat (8 + p)) + k ∧ st (Int.toNat (8 + p)) + k < 76 := by omega
      have sg := wsg (Int.toNat (st (Int.toNat (8 + p)) + k)) (by omega)
      have en : ((Int.toNat (st (Int.toNat (8 + p)) + k) : Nat) : Int) = st (Int.toNat (8 + p)) + k := by omega
      rw [en] at sg
      have bb := bit_01 st p 0 (st (Int.toNat (16 + p))) (st (Int.toNat (8 + p)) + k) (ph_I h (y + 1) (Int.toNat (st (Int.toNat (8 + p)) + k))) (ph_I h (y + 2) (Int.toNat (st (Int.toNat (8 + p)) + k)))
      have be : bitsW st p (ph_I h (y + 1)) (ph_I h (y + 2)) (Int.toNat (st (Int.toNat (8 + p)) + k)) = bitS st p 0 (st (Int.toNat (16 + p))) (st (Int.toNat (8 + p)) + k) (ph_I h (y + 1) (Int.toNat (st (Int.toNat (8 + p)) + k))) (ph_I h (y + 2) (Int.toNat (st (Int.toNat (8 + p)) + k))) := by unfold bitsW; rw [en]
      rw [be] at sg
      have x01 : ph_I h (y + 3) (Int.toNat (st (Int.toNat (8 + p)) + k)) = 0 ∨ ph_I h (y + 3) (Int.toNat (st (Int.toNat (8 + p)) + k)) = 1 := by
        rw [sg]
        split
        · exact bb
        · exact Or.inl rfl
      refine B_X6_goAlong_3 C (x2 := st (Int.toNat (16 + p))) (e3 := by rw [i1 _ (by omega)]; exact fi4) (kt := fun c => by omega) (kf := fun c => ?_)
      refine B_X6_goAlong_12 C (r2 := y + 3) (x5 := st (Int.toNat (8 + p))) (e6 := by rw [i1 _ (by omega)]; exact fi3) (x11 := ph_I h (y + 3) (Int.toNat (st (Int.toNat (8 + p)) + k))) (e12 := i1 _ (by omega) _) (q9 := by rw [lya3]; omega) (q13 := by unfold pR; omega) (kt := fun c2 => ?_) (kf := fun c2 => ?_)
      · refine B_X6_goAlong_57 C (kk := ?_)
        refine ih (k + 1) h1 (by omega) (by omega) hF (fun j j0 j1 => ?_)
        rw [hl j j0 j1, sLk_stay]
        intro z
        rw [if_pos ⟨z, by omega⟩] at sg
        omega
      · have hfz : st (Int.toNat (304 + d)) ≤ st (Int.toNat (8 + p)) + k := by
          apply Classical.byContradiction
          intro z
          rw [if_neg (fun u => z u.1)] at sg
          exact c2 sg
        rw [if_pos ⟨hfz, by omega⟩] at sg
        have hb1 : bitS st p 0 (st (Int.toNat (16 + p))) (st (Int.toNat (8 + p)) + k) (ph_I h (y + 1) (Int.toNat (st (Int.toNat (8 + p)) + k))) (ph_I h (y + 2) (Int.toNat (st (Int.toNat (8 + p)) + k))) = 1 := by omega
        have pt := fpt k k0 (by omega)
        have pk := h2p.2.2 k k0 (by omega)
        have xt2a : ph_T h1 2 = 6 := by rw [hF.T]; exact xt2
        have x20a : ph_R h1 2 0 = 3 := by rw [hF.R]; exact x20
        have t3a : ph_T h1 3 = 5 := by rw [hF.T]; exact t3
        have r33a : ph_R h1 3 3 = 7 := by rw [hF.R]; exact r33
        have t7a : ph_T h1 7 = 8 := by rw [hF.T]; exact t7
        have l7a : ph_L h1 7 = 168 := by rw [hF.L]; exact l7
        have fr0a : ph_R h1 fc 0 = fc + 1 := by rw [hF.R]; exact fr0
        have fr1a : ph_R h1 fc 1 = fc + 2 := by rw [hF.R]; exact fr1
        have ft1a : ph_T h1 (fc + 1) = 8 := by rw [hF.T]; exact ft1
        have ft2a : ph_T h1 (fc + 2) = 8 := by rw [hF.T]; exact ft2
        have fl1a : ph_L h1 (fc + 1) = 16 := by rw [hF.L]; exact fl1
        have fl2a : ph_L h1 (fc + 2) = 16 := by rw [hF.L]; exact fl2
        have hx := hl (st (Int.toNat ((40 + (16 * p)) + k)) * 7 + st (Int.toNat ((168 + (16 * p)) + k))) (by omega) (by omega)
        refine B_X6_goAlong_27 C (r2 := 3) (r5 := 7) (r8 := fc + 1) (x14 := st (Int.toNat ((40 + (16 * p)) + k))) (e15 := by rw [i1 _ (by omega)]; exact pt.1) (r17 := fc + 2) (x23 := st (Int.toNat ((168 + (16 * p)) + k))) (e24 := by rw [i1 _ (by omega)]; exact pt.2) (x29 := _) (e30 := hx) (q12 := by rw [fl1a]; omega) (q21 := by rw [fl2a]; omega) (q27 := by rw [l7a]; omega) (q33 := by rw [l7a]; omega) (kk := ?_)
        refine B_X6_goAlong_57 C (kk := ?_)
        refine ih (k + 1) _ (by omega) (by omega) (hF.set rfl _ _) (fun j j0 j1 => ?_)
        rw [sLk_step gf.1 hb1 hfz]
        by_cases z : j = st (Int.toNat ((40 + (16 * p)) + k)) * 7 + st (Int.toNat ((168 + (16 * p)) + k))
        · rw [z, sI_eq, up_eq]
        · rw [sI_k (by omega), up_ne (by omega)]
          exact hl j j0 j1
  refine B_X6_goAlong_0 C (kk := ?_)
  refine lp (Int.toNat (st (Int.toNat (16 + p)))) 0 h (by omega) (Int.le_refl _) (Fr.rf _ h) (fun j j0 j1 => ?_)
  have e0 : st (Int.toNat (8 + p)) + 0 - st (Int.toNat (304 + d)) = st (Int.toNat (8 + p)) - st (Int.toNat (304 + d)) := by omega
  rw [e0, sLk_z]
  · exact hR.2.2.2.2 j j0 j1
  · intro i hi
    unfold bitS
    rw [if_neg]
    rw [sS_iff]
    intro z
    have := z.1
    omega
