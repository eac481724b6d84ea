/-! goForth, sharedWay -/
def pqForth (h : PH) (st : ST) (d p : Int) (mc fc y : Nat) : Option PV → PH → Prop := fun rr h' => rr = none ∧ ∃ ra sb, SC h' st d p mc fc ra sb ∧ SFr (fun c => c = 104 ∨ c = 107 ∨ c = 108 ∨ c = 109 ∨ c = y ∨ c = y + 4 ∨ c = y + 5) h h' ∧ (∀ k, k ≠ 7 → ph_I h' y k = ph_I h y k) ∧ ph_I h' y 7 = 1 ∧ ShC h' y st d p
/-- what is noted so far, before row r -/
def ShB (h : PH) (y : Nat) (st : ST) (d p r : Int) : Prop := (∀ k : Int, 0 ≤ k → k ≤ st (Int.toNat (16 + p)) → (st (Int.toNat (8 + p)) + k - 1 < st (Int.toNat (304 + d)) + r ∨ k = 0) → ph_I h (y + 4) (Int.toNat k) = sBy st d p 0 k) ∧ ∀ k : Int, 0 ≤ k → k ≤ st (Int.toNat (16 + p)) → ((st (Int.toNat (304 + d)) ≤ st (Int.toNat (8 + p)) + k ∧ st (Int.toNat (8 + p)) + k < st (Int.toNat (304 + d)) + r) ∨ k = st (Int.toNat (16 + p))) → ph_I h (y + 5) (Int.toNat k) = sBy st d p k (st (Int.toNat (16 + p)))
def Ff (h : PH) (st : ST) (d p : Int) (q : Nat) : Prop := ∀ w hh : Int, InR st d q w hh → VV 1024 ((q : Int) + 1) (4 * (q : Int)) (cOf h 107 0 w hh) (Fw st d (bitS st p 0 (st (Int.toNat (16 + p)))) q (w - st (Int.toNat (308 + d))) hh)
theorem ct_X2_goForth (G : Gx) (l : Launch) (h : PH) {st : ST} {d p : Int} {mc fc ra sb : Nat} (hC : SC h st d p mc fc ra sb) {rw : Int} (e8 : ph_I h 104 8 = rw) (hrw : rw = st (Int.toNat (8 + p)) + st (Int.toNat (16 + p)) - 1 - st (Int.toNat (304 + d)) + 1) (hn : 0 < st (Int.toNat (16 + p))) (hT : TabF h st d p rw 0) {y : Nat} (hY : YS h y) (y0 : 110 ≤ y ∧ y + 5 < 134) (hW : WayC h y st d p) (z45 : ∀ j, j < 17 → ph_I h (y + 4) j = 0 ∧ ph_I h (y + 5) j = 0) : CT_X2_goForth G l [.inr 104, .inr y] h (pqForth h st d p mc fc y) := by
  obtain ⟨⟨t104, t3, t6, t106, t107, tra, tsb, tmc⟩, ⟨l106, l107, lra, lsb⟩, ⟨r1040, r32, r1042, r1043, r1044, r1045, r1046, r1047⟩, hra, hfs, ⟨b1, b2, b3⟩, hFR, hMR, hSR, hS, h2, d0, p0⟩ := id hC
  obtain ⟨hs, hb, hmany, hD, hPp⟩ := id hS
  obtain ⟨g1, g2, g3, g4, g5⟩ := hD d d0.1 d0.2
  obtain ⟨g6, g7⟩ := hPp p p0.1 p0.2
  obtain ⟨⟨ft0, ft1, ft2⟩, ⟨fl1, fl2⟩, fr0, fr1⟩ := id hfs
  obtain ⟨⟨f2, f3, f4, f5, f6⟩, fpt⟩ := id hFR
  obtain ⟨m0, m1, m2, m3, m4⟩ := id hMR
  have gw : -st (Int.toNat (308 + d)) ≤ st (Int.toNat (296 + d)) ∧ st (Int.toNat (296 + d)) ≤ st (Int.toNat (308 + d)) := by have := g4; unfold zabs at this; split at this <;> omega
  refine ct_intro rfl (Nat.le_of_ble_eq_true rfl) (fun X hX C => ?_)
  have hDd := hD d d0.1 d0.2
  have lpB : ∀ (m : Nat) (j : Int) (h1 : PH) (ra sb : Nat), j + m = st (Int.toNat (16 + p)) → 0 ≤ j → SC h1 st d p mc fc ra sb → SFr (fun c => c = 104 ∨ c = 107 ∨ c = 108 ∨ c = 109 ∨ c = y ∨ c = y + 4 ∨ c = y + 5) h h1 → (∀ k, k ≠ 9 → k ≠ 10 → ph_I h1 104 k = ph_I h 104 k) → (∀ k, k ≠ 7 → ph_I h1 y k = ph_I h y k) → ph_I h1 y 7 = 1 → ShB h1 y st d p rw → (∀ k : Int, 0 ≤ k → k < j → st (Int.toNat (8 + p)) + k < st (Int.toNat (304 + d)) ∧ ph_I h1 (y + 5) (Int.toNat k) = sBy st d p k (st (Int.toNat (16 + p)))) → PW G X 4 (pw_E G X (pqForth h st d p mc fc y) 0 0) 0 0 120 [some (.inr 104), some (.inr y), some (.inl j), none] [] h1 := by
    intro m
    induction m with
    | zero =>
      intro j h1 ra sb hj j0 hC1 hF hk hy7 h7 hB hD2
      obtain ⟨⟨t104, t3, t6, t106, t107, tra, tsb, tmc⟩, ⟨l106, l107, lra, lsb⟩, ⟨r1040, r32, r1042, r1043, r1044, r1045, r1046, r1047⟩, hra, hfs, ⟨b1, b2, b3⟩, hFR, hMR, hSR, -, -, -, -⟩ := id hC1
      have ft0 : ph_T h1 fc = 0 := hfs.1.1
      refine B_X2_goForth_120 C (r2 := fc) (x5 := st (Int.toNat (16 + p))) (e6 := hFR.1.2.2.1) (kt := fun c => ?_) (kf := fun c => by omega)
      refine B_X2_goForth_166 C (hq := ⟨rfl, ra, sb, hC1, hF, hy7, h7, fun k k0 k1 => ⟨hB.1 k k0 k1 (by omega), ?_⟩⟩)
      by_cases z : k < j
      · exact (hD2 k k0 z).2
      · exact hB.2 k k0 k1 (Or.inr (by omega))
    | succ m ih =>
      intro j h1 ra sb hj j0 hC1 hF hk hy7 h7 hB hD2
      obtain ⟨⟨t104, t3, t6, t106, t107, tra, tsb, tmc⟩, ⟨l106, l107, lra, lsb⟩, ⟨r1040, r32, r1042, r1043, r1044, r1045, r1046, r1047⟩, hra, hfs, ⟨b1, b2, b3⟩, hFR, hMR, hSR, -, -, -, -⟩ := id hC1
      have ft0 : ph_T h1 fc = 0 := hfs.1.1
      have hY1 : YS h1 y := YS_congr hF.T hF.L (fun k => hF.Rc (by omega) k) hY
      have ty : ph_T h1 y = 4 := hY1.1.1
      have ty5 : ph_T h1 (y + 5) = 8 := hY1.1.2.2.2.2.2
      have ly5 : ph_L h1 (y + 5) = 17 := hY1.2.1.2.2.2.2
      have ry4 : ph_R h1 y 4 = y + 5 := hY1.2.2.2.2.2.2
      have hf3 := hFR.1.2.1
      refine B_X2_goForth_120 C (r2 := fc) (x5 := st (Int.toNat (16 + p))) (e6 := hFR.1.2.2.1) (kt := fun c => by omega) (kf := fun c => ?_)
      refine B_X2_goForth_131 C (r2 := fc) (x5 := st (Int.toNat (8 + p))) (e6 := hf3) (r8 := mc) (x11 := st (Int.toNat (304 + d))) (e12 := hMR.2.2.1) (kt := fun c2 => ?_) (kf := fun c2 => ?_)
      · refine B_X2_goForth_166 C (hq := ⟨rfl, ra, sb, hC1, hF, hy7, h7, fun k k0 k1 => ⟨hB.1 k k0 k1 (by omega), ?_⟩⟩)
        by_cases z : k < j
        · exact (hD2 k k0 z).2
        · exact hB.2 k k0 k1 (by omega)
      · refine B_X2_goForth_150 C (r2 := y + 5) (x5 := ph_I h y 10) (e6 := hy7 10 (by decide)) (kk := ?_)
        have hs : ph_I h y 10 = sBy st d p j (st (Int.toNat (16 + p))) := by
          rw [sBy_from hDd (by omega) (by omega) (by omega)]
          unfold sBy
          rw [if_neg (by omega)]
          rcases hW with ⟨w1, w2, w3, w4⟩ | ⟨w1, w2, w3, w4, w5, -⟩
          · have w2' : sLay st d p 0 (st (Int.toNat (16 + p))) = -1000000 := w2
            rw [if_pos w2']; exact w3
          · have w2' : ¬ sLay st d p 0 (st (Int.toNat (16 + p))) = -1000000 := w2
            rw [if_neg w2']; exact w5.1
        have hx : Fr (fun c => c = y + 5) h1 (ph_setI h1 (y + 5) (Int.toNat j) (ph_I h y 10)) := (Fr.rf (fun c => c = y + 5) h1).set rfl _ _
        refine ih (j + 1) _ ra sb (by omega) (by omega) (hC1.fr hx (fun c hc => by omega)) (hF.tr (hx.s.mono (fun c hc => by omega))) (fun k a b => by rw [hx.I (by omega)]; exact hk k a b) (fun k a => by rw [hx.I (by omega)]; exact hy7 k a) (by rw [hx.I (by omega)]; exact h7) ⟨fun k a b c => by rw [hx.I (by omega)]; exact hB.1 k a b c, fun k a b c => ?_⟩ (fun k k0 k1 => ?_)
        · rw [sI_k (by omega)]; exact hB.2 k a b c
        · by_cases z : k = j
          · rw [z]; exact ⟨by omega, by rw [sI_eq]; exact hs⟩
          · rw [sI_k (by omega)]; exact hD2 k k0 (by omega)
  have lpA : ∀ (m q : Nat) (h1 : PH) (ra sb : Nat), (q : Int) + m = rw → SC h1 st d p mc fc ra sb → SFr (fun c => c = 104 ∨ c = 107 ∨ c = 108 ∨ c = 109 ∨ c = y ∨ c = y + 4 ∨ c = y + 5) h h1 → (∀ k, k ≠ 9 → k ≠ 10 → ph_I h1 104 k = ph_I h 104 k) → (∀ k, k ≠ 7 → ph_I h1 y k = ph_I h y k) → ph_I h1 y 7 = 1 → ShB h1 y st d p q → (q = 0 → ∀ j, j < 525 → ph_I h1 ra j = 0) → (∀ q' : Nat, q = q' + 1 → Ff h1 st d p q') → PW G X 4 (pw_E G X (pqForth h st d p mc fc y) 0 0) 0 0 15 [some (.inr 104), some (.inr y), some (.inl (q : Int)), none] [] h1 := by
    intro m
    induction m with
    | zero =>
      intro q h1 ra sb hq hC1 hF hk hy7 h7 hB hz hf
      have t1 : ph_T h1 104 = 2 := hC1.1.1
      refine B_X2_goForth_15 C (x2 := rw) (e3 := by rw [hk 8 (by decide) (by decide)]; exact e8) (kt := fun c => ?_) (kf := fun c => by omega)
      refine B_X2_goForth_118 C (kk := ?_)
      have er : (q : Int) = rw := by omega
      rw [er] at hB
      exact lpB (Int.toNat (st (Int.toNat (16 + p)))) 0 h1 ra sb (by omega) (Int.le_refl _) hC1 hF hk hy7 h7 hB (fun k a b => by omega)
    | succ m ih =>
      intro q h1 ra sb hq hC1 hF hk hy7 h7 hB hz hf
      have t1 : ph_T h1 104 = 2 := hC1.1.1
      have hlb := loW_b hDd (r := (q : Int)) (by omega)
      refine B_X2_goForth_15 C (x2 := rw) (e3 := by rw [hk 8 (by decide) (by decide)]; exact e8) (kt := fun c => by omega) (kf := fun c => ?_)
      have go : ∀ (h2 : PH) (ra sb : Nat), SC h2 st d p mc fc ra sb → SFr (fun c => c = 104 ∨ c = 107 ∨ c = 108 ∨ c = 109 ∨ c = y ∨ c = y + 4 ∨ c = y + 5) h h2 → (∀ k, k ≠ 9 → k ≠ 10 → ph_I h2 104 k = ph_I h 104 k) → (∀ k, k ≠ 7 → ph_I h2 y k = ph_I h y k) → ph_I h2 y 7 = 1 → ShB h2 y st d p q → (∀ w hh : Int, InR st d q w hh → (q = 0 → ph_I h2 ra (Int.toNat ((w + 1) * 7 + hh)) = 0) ∧ ∀ q' : Nat, q = q' + 1 → VV 1024 ((q' : Int) + 1) (4 * (q' : Int) + 4) (ph_I h2 ra (Int.toNat ((w + 1) * 7 + hh))) (fun s => ∃ w' h' : Int, (loW st d q' ≤ w' ∧ w' ≤ hiW st d q' ∧ 0 ≤ h' ∧ h' ≤ 6) ∧ zabs (w' - w) ≤ st (Int.toNat (312 + d)) ∧ zabs (h' - hh) ≤ 1 ∧ Fw st d (bitS st p 0 (st (Int.toNat (16 + p)))) q' (w' - st (Int.toNat (308 + d))) h' s)) → PW G X 4 (pw_E G X (pqForth h st d p mc fc y) 0 0) 0 0 39 [some (.inr 104), some (.inr y), some (.inl (q : Int)), none] [] h2 := by
        intro h2 ra sb hC2 hF hk hy7 h7 hB hu
        obtain ⟨⟨t104, t3, t6, t106, t107, tra, tsb, tmc⟩, ⟨l106, l107, lra, lsb⟩, ⟨r1040, r32, r1042, r1043, r1044, r1045, r1046, r1047⟩, hra, hfs, ⟨b1, b2, b3⟩, hFR, hMR, hSR, -, -, -, -⟩ := id hC2
        have hl72 : hiW st d q ≤ 72 := by omega
        refine B_X2_goForth_39 C (r2 := 107) (hM := ct_X2_enterRow _ _ _ hC2 (cc := 107) (s := 0) (r := q) (by omega) t107 (Or.inr rfl) (by omega) (by rw [l107]; omega)) (kk := fun rr h3 hq3 => ?_)
        obtain ⟨rfl, hF3, hE3, hO3⟩ := hq3
        have hC3 := hC2.fr hF3 (fun c hc => by omega)
        have t3' : ph_T h3 104 = 2 := hC3.1.1
        refine B_X2_goForth_49 C (hM := ct_X2_aimAt _ _ _ hC3 (r := q) (by omega)) (kk := fun rr h4 hq4 => ?_)
        obtain ⟨rfl, hF4, hk4, hG4⟩ := hq4
        have hC4 := hC3.fr hF4 (fun c hc => by omega)
        have t4' : ph_T h4 104 = 2 := hC4.1.1
        have t47 : ph_T h4 107 = 8 := hC4.1.2.2.2.2.1
        have l47 : ph_L h4 107 = 511 := hC4.2.1.2.1
        have r47 : ph_R h4 104 3 = 107 := hC4.2.2.1.2.2.2.1
        have u4 : ∀ j, ph_I h4 107 j = ph_I h3 107 j := fun j => hF4.I (by omega) j
        have hvv : ∀ w hh : Int, loW st d q ≤ w → w ≤ hiW st d q → 0 ≤ hh → hh ≤ 6 → -1000000 ≤ ph_I h4 107 (Int.toNat (0 + w * 7 + hh)) ∧ ph_I h4 107 (Int.toNat (0 + w * 7 + hh)) ≤ 1000000 := by
          intro w hh a b c e
          rw [u4]
          have z := hE3 w hh a b c e
          by_cases qq : shutP st d q w hh
          · rw [z.1 qq]; omega
          · rw [z.2 qq]
            have hu1 := hu w hh ⟨⟨a, b⟩, c, e⟩
            rcases Nat.eq_zero_or_pos q with q0 | q0
            · rw [hu1.1 q0]; omega
            · have := (hu1.2 (q - 1) (by omega)).ok (by omega) (by omega)
              unfold okC at this
              omega
        refine B_X2_goForth_54 C (r2 := 107) (hM := ct_X2_addGain _ _ _ hC4 (cc := 107) (s := 0) (r := q) (by omega) t47 (Or.inr rfl) (by omega) (by rw [l47]; omega) rfl rfl hG4.1 hvv) (kk := fun rr h5 hq5 => ?_)
        obtain ⟨rfl, hF5, hA5, hO5⟩ := hq5
        have hC5 := hC4.fr hF5 (fun c hc => by omega)
        have hff : Ff h5 st d p q := by
          intro w hh a
          obtain ⟨⟨a1, a2⟩, a3, a4⟩ := id a
          have hA := hA5 w hh a1 a2 a3 a4
          rw [u4] at hA
          have hu1 := hu w hh a
          exact Fw_row q hDd (by omega) hG4 ⟨a1, a2⟩ ⟨a3, a4⟩ rfl (hE3 w hh a1 a2 a3 a4) hA hu1.1 hu1.2
        have hF25 : SFr (fun c => c = 104 ∨ c = 107 ∨ c = 108 ∨ c = 109 ∨ c = y ∨ c = y + 4 ∨ c = y + 5) h2 h5 := ((hF3.mono (N := (fun c => c = 104 ∨ c = 107 ∨ c = 108 ∨ c = 109 ∨ c = y ∨ c = y + 4 ∨ c = y + 5)) (fun c hc => by omega)).tr ((hF4.mono (fun c hc => by omega)).tr (hF5.mono (fun c hc => by omega)))).s
        have hFa := hF.tr hF25
        have t5' : ph_T h5 104 = 2 := hC5.1.1
        have i25 : ∀ c, c ≠ 104 → c ≠ 107 → ∀ k, ph_I h5 c k = ph_I h2 c k := fun c c1 c2 k => by rw [hF5.I (by omega), hF4.I (by omega), hF3.I (by omega)]
        have hk5 : ∀ k, k ≠ 9 → k ≠ 10 → ph_I h5 104 k = ph_I h 104 k := fun k a b => by rw [hF5.I (by omega), hk4 k a b, hF3.I (by omega)]; exact hk k a b
        have hy75 : ∀ k, k ≠ 7 → ph_I h5 y k = ph_I h y k := fun k a => by rw [i25 y (by omega) (by omega)]; exact hy7 k a
        have h75 : ph_I h5 y 7 = 1 := by rw [i25 y (by omega) (by omega)]; exact h7
        have hB5 : ShB h5 y st d p q := ⟨fun k a b c => by rw [i25 _ (by omega) (by omega)]; exact hB.1 k a b c, fun k a b c => by rw [i25 _ (by omega) (by omega)]; exact hB.2 k a b c⟩
        refine B_X2_goForth_64 C (hM := ct_X2_pointOf _ _ _ hC5 (r := q) (by omega)) (kk := fun rr h6 hq6 => ?_)
        obtain ⟨rfl, rfl⟩ := hq6
        have e1 : ((q + 1 : Nat) : Int) = (q : Int) + 1 := by omega
        by_cases cp : 0 ≤ st (Int.toNat (304 + d)) + q - st (Int.toNat (8 + p)) ∧ st (Int.toNat (304 + d)) + q - st (Int.toNat (8 + p)) ≤ st (Int.toNat (16 + p)) - 1
        · rw [if_pos cp]
          refine B_X2_goForth_69 C (kt := fun c => by omega) (kf := fun c => ?_)
          have hY5 : YS h5 y := YS_congr hFa.T hFa.L (fun k => hFa.Rc (by omega) k) hY
          have ty : ph_T h5 y = 4 := hY5.1.1
          have ry3 : ph_R h5 y 3 = y + 4 := hY5.2.2.2.2.2.1
          have t57 : ph_T h5 107 = 8 := hC5.1.2.2.2.2.1
          have l57 : ph_L h5 107 = 511 := hC5.2.1.2.1
          have r57 : ph_R h5 104 3 = 107 := hC5.2.2.1.2.2.2.1
          have hff2 : ∀ w hh : Int, InR st d q w hh → VV 1024 81 400 (cOf h5 107 0 w hh) (Fw st d (bitS st p 0 (st (Int.toNat (16 + p)))) q (w - st (Int.toNat (308 + d))) hh) := fun w hh a => (hff w hh a).mono (by omega) (by omega)
          have ok7 : ∀ w hh : Int, InR st d q w hh → okC (cOf h5 107 0 w hh) := fun w hh a => (hff2 w hh a).ok (by omega) (by omega)
          refine B_X2_goForth_74 C (r2 := y + 4) (r5 := 107) (hM := ct_X2_mostSeen _ _ _ hC5 (cc := 107) (s := 0) (r := q) (by omega) t57 (by omega) (by rw [l57]; omega) ok7 ok7) (kk := fun rr h6 hq6 => ?_)
          obtain ⟨rfl, v1, rfl, hm1⟩ := hq6
          have ev1 := bef_v q hDd (k := st (Int.toNat (304 + d)) + q - st (Int.toNat (8 + p))) (by omega) (by omega) (by omega) hff2 hm1
          have hx : Fr (fun c => c = y + 4) h5 (ph_setI h5 (y + 4) (Int.toNat (st (Int.toNat (304 + d)) + q - st (Int.toNat (8 + p)) + 1)) v1) := (Fr.rf (fun c => c = y + 4) h5).set rfl _ _
          have hC6 := hC5.fr hx (fun c hc => by omega)
          have ty4 : ph_T h5 (y + 4) = 8 := hY5.1.2.2.2.2.1
          have ly4 : ph_L h5 (y + 4) = 17 := hY5.2.1.2.2.2.1
          have ty5 : ph_T h5 (y + 5) = 8 := hY5.1.2.2.2.2.2
          have ly5 : ph_L h5 (y + 5) = 17 := hY5.2.1.2.2.2.2
          have ry4 : ph_R h5 y 4 = y + 5 := hY5.2.2.2.2.2.2
          have r56 : ph_R h5 104 2 = 106 := hC5.2.2.1.2.2.1
          have t56 : ph_T h5 106 = 8 := hC5.1.2.2.2.1
          have l56 : ph_L h5 106 = 38836 := hC5.2.1.1
          have hT6 : ∀ w hh : Int, InR st d q w hh → RlG (rw - q) (4 * (rw - 1 - q)) (vb st d p q (w - st (Int.toNat (308 + d))) hh) (cOf (ph_setI h5 (y + 4) (Int.toNat (st (Int.toNat (304 + d)) + q - st (Int.toNat (8 + p)) + 1)) v1) 106 ((q : Int) * 511) w hh) := by
            intro w hh a
            unfold cOf
            rw [hx.I (by omega), hFa.I (by omega)]
            exact hT q w hh (by omega) (by omega) a.1.1 a.1.2 a.2.1 a.2.2
          have c7e : cOf (ph_setI h5 (y + 4) (Int.toNat (st (Int.toNat (304 + d)) + q - st (Int.toNat (8 + p)) + 1)) v1) 107 0 = cOf h5 107 0 := by
            funext w hh
            unfold cOf
            rw [hx.I (by omega)]
          refine B_X2_goForth_91 C (r7 := y + 5) (r10 := 106) (hM := ct_X2_mostSeen _ _ _ hC6 (cc := 106) (s := (q : Int) * 511) (r := q) (by omega) t56 (by omega) (by show _ < (ph_L h5 106 : Int); rw [l56]; omega) (fun w hh a => by
            have := (hT6 w hh a).b (by omega) (by omega)
            unfold okC; omega) (by rw [c7e]; exact ok7)) (kk := fun rr h6 hq6 => ?_)
          obtain ⟨rfl, v2, rfl, hm2⟩ := hq6
          rw [c7e] at hm2
          have ev2 := aft_v q hDd (k := st (Int.toNat (304 + d)) + q - st (Int.toNat (8 + p))) (by omega) (by omega) (by omega) hff2 (fun w hh a => (hT6 w hh a).mono (by omega) (by omega)) hm2
          refine B_X2_goForth_111 C (t1 := ty5) (q3 := by show _ < (ph_L h5 (y + 5) : Int); rw [ly5]; omega) (kk := ?_)
          refine B_X2_goForth_112 C (kk := ?_)
          have hx2 : Fr (fun c => c = y + 5) (ph_setI h5 (y + 4) (Int.toNat (st (Int.toNat (304 + d)) + q - st (Int.toNat (8 + p)) + 1)) v1) (ph_setI (ph_setI h5 (y + 4) (Int.toNat (st (Int.toNat (304 + d)) + q - st (Int.toNat (8 + p)) + 1)) v1) (y + 5) (Int.toNat (st (Int.toNat (304 + d)) + q - st (Int.toNat (8 + p)))) v2) := (Fr.rf (fun c => c = y + 5) _).set rfl _ _
          have nx := ih (q + 1) _ ra sb (by omega) (hC6.fr hx2 (fun c hc => by omega)) (hFa.tr ((hx.s.mono (fun c hc => by omega)).tr (hx2.s.mono (fun c hc => by omega)))) (fun k a b => by rw [hx2.I (by omega), hx.I (by omega)]; exact hk5 k a b) (fun k a => by rw [hx2.I (by omega), hx.I (by omega)]; exact hy75 k a) (by rw [hx2.I (by omega), hx.I (by omega)]; exact h75) ⟨fun k a b c => ?_, fun k a b c => ?_⟩ (fun z => by omega) (fun q' hq' w hh a => ?_)
          · rw [e1] at nx; exact nx
          · rw [hx2.I (by omega)]
            by_cases z : k = st (Int.toNat (304 + d)) + q - st (Int.toNat (8 + p)) + 1
            · rw [z, sI_eq]; exact ev1
            · rw [sI_k (by omega)]
              exact hB5.1 k a b (by omega)
          · by_cases z : k = st (Int.toNat (304 + d)) + q - st (Int.toNat (8 + p))
            · rw [z, sI_eq]; exact ev2
            · rw [sI_k (by omega), hx.I (by omega)]
              exact hB5.2 k a b (by omega)
          · have : q' = q := by omega
            subst this
            show VV _ _ _ (cOf _ 107 0 w hh) _
            unfold cOf
            rw [hx2.I (by omega), hx.I (by omega)]
            exact hff w hh a
        · rw [if_neg cp]
          refine B_X2_goForth_69 C (kt := fun c => ?_) (kf := fun c => by omega)
          refine B_X2_goForth_112 C (kk := ?_)
          have nx := ih (q + 1) h5 ra sb (by omega) hC5 hFa hk5 hy75 h75 ⟨fun k a b c => hB5.1 k a b (by omega), fun k a b c => hB5.2 k a b (by omega)⟩ (fun z => by omega) (fun q' hq' => by
            have z : q' = q := by omega
            rw [z]
            exact hff)
          rw [e1] at nx
          exact nx
      rcases Nat.eq_zero_or_pos q with q0 | q0
      · refine B_X2_goForth_23 C (kt := fun c => ?_) (kf := fun c => by omega)
        exact go h1 ra sb hC1 hF hk hy7 h7 hB (fun w hh a => ⟨fun z => hz q0 _ (by unfold InR at a; omega), fun q' z => by omega⟩)
      · obtain ⟨q', rfl⟩ : ∃ q' : Nat, q = q' + 1 := ⟨q - 1, by omega⟩
        have hf' := hf q' rfl
        have hlb' := loW_b hDd (r := (q' : Int)) (by omega)
        have t17 : ph_T h1 107 = 8 := hC1.1.2.2.2.2.1
        have l17 : ph_L h1 107 = 511 := hC1.2.1.2.1
        have r17 : ph_R h1 104 3 = 107 := hC1.2.2.1.2.2.2.1
        have e1 : ((q' + 1 : Nat) : Int) - 1 = (q' : Int) := by omega
        have ok7 : ∀ w hh : Int, InR st d q' w hh → okC (cOf h1 107 0 w hh) := fun w hh a => (hf' w hh a).ok (by omega) (by omega)
        refine B_X2_goForth_23 C (kt := fun c => by omega) (kf := fun c => ?_)
        refine B_X2_goForth_27 C (r2 := 107) (PQ := pqRch h1 st d p mc fc 107 0 q') (hM := by
          rw [e1]
          exact ct_X2_reach _ _ _ hC1 (cc := 107) (s := 0) (r := q') (by omega) t17 (Or.inr rfl) (by omega) (by rw [l17]; omega) (fun w hh a b c e => by
            have := ok7 w hh ⟨⟨a, b⟩, c, e⟩
            unfold okC cOf at this
            omega)) (kk := fun rr h2 hq2 => ?_)
        obtain ⟨rfl, ra2, sb2, hC2, hF2, hR2, hb2⟩ := hq2
        refine go h2 ra2 sb2 hC2 (hF.tr (hF2.mono (fun c hc => by omega))) (fun k a b => by rw [hF2.I (by omega)]; exact hk k a b) (fun k a => by rw [hF2.I (by omega)]; exact hy7 k a) (by rw [hF2.I (by omega)]; exact h7) ⟨fun k a b c => by rw [hF2.I (by omega)]; exact hB.1 k a b c, fun k a b c => by rw [hF2.I (by omega)]; exact hB.2 k a b c⟩ (fun w hh a => ⟨fun z => by omega, fun q'' hq'' => ?_⟩)
        have eq' : q'' = q' := by omega
        subst eq'
        have a' := a
        unfold InR at a'
        exact Rch_VV (w := w) (hh := hh) hR2 (by omega) (by omega) (by omega) (by omega) (by omega) (fun w' h' b1 b2 b3 b4 => hf' w' h' ⟨⟨b1, b2⟩, b3, b4⟩)
  have ty : ph_T h y = 4 := hY.1.1
  refine B_X2_goForth_0 C (r4 := ra) (hM := ct_J7_fill _ _ (ph_setI h y 7 1) tra (by show ph_L h ra ≤ _; omega)) (kk := fun rr h0 hq => ?_)
  obtain ⟨rfl, hF0, hf0⟩ := hq
  have hx : Fr (fun c => c = y) h (ph_setI h y 7 1) := (Fr.rf (fun c => c = y) h).set rfl _ _
  have hCx := hC.fr hx (fun c hc => by omega)
  have hC0 := hCx.fr hF0 (fun c hc => by omega)
  have lra' : ph_L (ph_setI h y 7 1) ra = 525 := lra
  rw [lra'] at hf0
  have hF00 : SFr (fun c => c = 104 ∨ c = 107 ∨ c = 108 ∨ c = 109 ∨ c = y ∨ c = y + 4 ∨ c = y + 5) h h0 := (hx.s.mono (fun c hc => by omega)).tr (hF0.s.mono (fun c hc => by omega))
  have i0 : ∀ c, c ≠ y → c ≠ ra → ∀ k, ph_I h0 c k = ph_I h c k := fun c c1 c2 k => by rw [hF0.I (by omega), hx.I (by omega)]
  have hy7 : ∀ k, k ≠ 7 → ph_I h0 y k = ph_I h y k := fun k a => by rw [hF0.I (by omega), sI_k a]
  have h7 : ph_I h0 y 7 = 1 := by rw [hF0.I (by omega), sI_eq]
  have hk0 : ∀ k, k ≠ 9 → k ≠ 10 → ph_I h0 104 k = ph_I h 104 k := fun k a b => i0 104 (by omega) (by omega) k
  have hB0 : ∀ r : Int, r ≤ 0 → ShB h0 y st d p r := fun r r0 => by
    refine ⟨fun k a b c => ?_, fun k a b c => ?_⟩
    · rw [i0 _ (by omega) (by omega), (z45 _ (by omega)).1]
      by_cases z : k = 0
      · rw [z, sBy_none (Int.le_refl _)]
      · rw [sBy_late (by omega)]
    · rw [i0 _ (by omega) (by omega), (z45 _ (by omega)).2]
      rcases c with c | c
      · omega
      · rw [c, sBy_none (Int.le_refl _)]
  refine B_X2_goForth_13 C (kk := ?_)
  by_cases q : 0 ≤ rw
  · exact lpA (Int.toNat rw) 0 h0 ra sb (by omega) hC0 hF00 hk0 hy7 h7 (hB0 _ (by omega)) (fun _ j hj => hf0 j hj) (fun q' z => by omega)
  · have t0x : ph_T h0 104 = 2 := hC0.1.1
    refine B_X2_goForth_15 C (x2 := rw) (e3 := by rw [hk0 8 (by decide) (by decide)]; exact e8) (kt := fun c => ?_) (kf := fun c => by omega)
    refine B_X2_goForth_118 C (kk := ?_)
    exact lpB (Int.toNat (st (Int.toNat (16 + p)))) 0 h0 ra sb (by omega) (Int.le_refl _) hC0 hF00 hk0 hy7 h7 (hB0 _ (by omega)) (fun k a b => by omega)
