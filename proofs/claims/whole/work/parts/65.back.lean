/-! the search: goBack -/
def TabF (h : PH) (st : ST) (d p rw r1 : Int) : Prop := ∀ r w hh : Int, r1 ≤ r → r < rw → loW st d r ≤ w → w ≤ hiW st d r → 0 ≤ hh → hh ≤ 6 → RlG (rw - r) (4 * (rw - 1 - r)) (vb st d p r (w - st (Int.toNat (308 + d))) hh) (ph_I h 106 (Int.toNat (r * 511 + w * 7 + hh)))
def pqBack (h : PH) (st : ST) (d p : Int) (mc fc : Nat) (rw : Int) : Option PV → PH → Prop := fun rr h' => rr = none ∧ ∃ ra sb, SC h' st d p mc fc ra sb ∧ SFr (fun c => c = 104 ∨ c = 106 ∨ c = 108 ∨ c = 109) h h' ∧ (∀ k, k ≠ 9 → k ≠ 10 → ph_I h' 104 k = ph_I h 104 k) ∧ TabF h' st d p rw 0
theorem loW_n {st : ST} {d r w w' : Int} (hD : OkD st d) (r0 : 0 ≤ r) (w0 : loW st d r ≤ w ∧ w ≤ hiW st d r) (a0 : 0 ≤ w' ∧ w' ≤ 2 * st (Int.toNat (308 + d))) (hz : zabs (w' - w) ≤ st (Int.toNat (312 + d))) : loW st d (r + 1) ≤ w' ∧ w' ≤ hiW st d (r + 1) := by
  obtain ⟨e1, e2⟩ := loW_s r hD
  have hlb := loW_b hD r0
  have b5 : -st (Int.toNat (312 + d)) ≤ w' - w ∧ w' - w ≤ st (Int.toNat (312 + d)) := by unfold zabs at hz; split at hz <;> omega
  rw [e1, e2]
  constructor
  · split <;> omega
  · split <;> omega
theorem ct_X2_goBack (G : Gx) (l : Launch) (h : PH) {st : ST} {d p : Int} {mc fc ra sb : Nat} (hC : SC h st d p mc fc ra sb) {rw : Int} (e8 : ph_I h 104 8 = rw) (hrw : rw = st (Int.toNat (8 + p)) + st (Int.toNat (16 + p)) - 1 - st (Int.toNat (304 + d)) + 1) (hn : 0 < st (Int.toNat (16 + p))) : CT_X2_goBack G l [.inr 104] h (pqBack h st d p mc fc rw) := by
  obtain ⟨⟨t104, t3, t6, t106, t107, tra, tsb, tmc⟩, ⟨l106, l107, lra, lsb⟩, ⟨r1040, r32, r1042, r1043, r1044, r1045, r1046, r1047⟩, hra, hfs, ⟨b1, b2, b3⟩, hFR, hMR, hSR, hS, h2, d0, p0⟩ := id hC
  obtain ⟨hs, hb, hmany, hD, hPp⟩ := id hS
  obtain ⟨g1, g2, g3, g4, g5⟩ := hD d d0.1 d0.2
  obtain ⟨g6, g7⟩ := hPp p p0.1 p0.2
  obtain ⟨⟨ft0, ft1, ft2⟩, ⟨fl1, fl2⟩, fr0, fr1⟩ := id hfs
  obtain ⟨⟨f2, f3, f4, f5, f6⟩, fpt⟩ := id hFR
  obtain ⟨m0, m1, m2, m3, m4⟩ := id hMR
  have gw : -st (Int.toNat (308 + d)) ≤ st (Int.toNat (296 + d)) ∧ st (Int.toNat (296 + d)) ≤ st (Int.toNat (308 + d)) := by have := g4; unfold zabs at this; split at this <;> omega
  refine ct_intro rfl (Nat.le_of_ble_eq_true rfl) (fun X hX C => ?_)
  have hDd := hD d d0.1 d0.2
  refine B_X2_goBack_0 C (r2 := ra) (hM := ct_J7_fill _ _ _ tra (by omega)) (kk := fun rr h0 hq => ?_)
  obtain ⟨rfl, hF0, hf0⟩ := hq
  rw [lra] at hf0
  have hC0 := hC.fr hF0 (fun c hc => by omega)
  have u8 : ph_I h0 104 8 = rw := by rw [hF0.I (by omega)]; exact e8
  have lp : ∀ (m : Nat) (r : Int) (h1 : PH) (ra sb : Nat), r + 1 = m → r ≤ rw - 1 → SC h1 st d p mc fc ra sb → SFr (fun c => c = 104 ∨ c = 106 ∨ c = 108 ∨ c = 109) h h1 → (∀ k, k ≠ 9 → k ≠ 10 → ph_I h1 104 k = ph_I h 104 k) → TabF h1 st d p rw (r + 1) → (r = rw - 1 → ∀ j, j < 525 → ph_I h1 ra j = 0) → PW G X 2 (pw_E G X (pqBack h st d p mc fc rw) 0 0) 0 0 15 [some (.inr 104), some (.inl r)] [] h1 := by
    clear u8 hC0 hf0 hF0 h0 hra tra tsb lra lsb r1044 r1045 hC ra sb
    intro m
    induction m with
    | zero =>
      intro r h1 ra sb hm hr hC1 hF hk hT hz
      have e : r = -1 := by omega
      subst e
      refine B_X2_goBack_15 C (kt := fun c => ?_) (kf := fun c => by omega)
      exact B_X2_goBack_86 C (hq := ⟨rfl, ra, sb, hC1, hF, hk, hT⟩)
    | succ m ih =>
      intro r h1 ra sb hm hr hC1 hF hk hT hz
      have hlb := loW_b hDd (r := r) (by omega)
      have r0 : 0 ≤ r ∧ r ≤ 75 := by omega
      have u8 : ph_I h1 104 8 = rw := by rw [hk 8 (by decide) (by decide)]; exact e8
      have w47 : ∀ (hp2 : PH) (ra sb : Nat), SC hp2 st d p mc fc ra sb → SFr (fun c => c = 104 ∨ c = 106 ∨ c = 108 ∨ c = 109) h hp2 → (∀ k, k ≠ 9 → k ≠ 10 → ph_I hp2 104 k = ph_I h 104 k) → TabF hp2 st d p rw (r + 1) → (∀ w hh : Int, loW st d r ≤ w → w ≤ hiW st d r → 0 ≤ hh → hh ≤ 6 → (st (Int.toNat (304 + d)) + r = st (Int.toNat (8 + p)) + st (Int.toNat (16 + p)) - 1 ∧ ph_I hp2 ra (Int.toNat ((w + 1) * 7 + hh)) = 0) ∨ (st (Int.toNat (304 + d)) + r < st (Int.toNat (8 + p)) + st (Int.toNat (16 + p)) - 1 ∧ RlG (rw - r - 1) (4 * (rw - 1 - r)) (sMost st d (bt st d p 0 (st (Int.toNat (16 + p))) (st (Int.toNat (8 + p)) + st (Int.toNat (16 + p)) - 1) (Int.toNat (st (Int.toNat (8 + p)) + st (Int.toNat (16 + p)) - 1 - (st (Int.toNat (304 + d)) + r) - 1))) (w - st (Int.toNat (308 + d))) hh) (ph_I hp2 ra (Int.toNat ((w + 1) * 7 + hh))))) → PW G X 2 (pw_E G X (pqBack h st d p mc fc rw) 0 0) 0 0 47 [some (.inr 104), some (.inl r)] [] hp2 := by
        intro hp2 ra sb hC2 hF2 hk2 hT2 hu
        have s0 : 0 ≤ r * 511 ∧ r * 511 ≤ 40000 := by omega
        obtain ⟨⟨t104, t3, t6, t106, t107, tra, tsb, tmc⟩, ⟨l106, l107, lra, lsb⟩, ⟨r1040, r32, r1042, r1043, r1044, r1045, r1046, r1047⟩, hra, hfs, ⟨b1, b2, b3⟩, hFR, hMR, hSR, hS, h2, d0, p0⟩ := id hC2
        obtain ⟨hs, hb, hmany, hD, hPp⟩ := id hS
        obtain ⟨g1, g2, g3, g4, g5⟩ := hD d d0.1 d0.2
        obtain ⟨g6, g7⟩ := hPp p p0.1 p0.2
        obtain ⟨⟨ft0, ft1, ft2⟩, ⟨fl1, fl2⟩, fr0, fr1⟩ := id hfs
        obtain ⟨⟨f2, f3, f4, f5, f6⟩, fpt⟩ := id hFR
        obtain ⟨m0, m1, m2, m3, m4⟩ := id hMR
        have gw : -st (Int.toNat (308 + d)) ≤ st (Int.toNat (296 + d)) ∧ st (Int.toNat (296 + d)) ≤ st (Int.toNat (308 + d)) := by have := g4; unfold zabs at this; split at this <;> omega
        refine B_X2_goBack_47 C (r2 := 106) (hM := ct_X2_enterRow _ _ _ hC2 (cc := 106) (s := r * 511) (r := r) (by omega) t106 (Or.inl rfl) s0 (by rw [l106]; omega)) (kk := fun rr h3 hq => ?_)
        obtain ⟨rfl, hF3, hE3, hO3⟩ := hq
        have hC3 := hC2.fr hF3 (fun c hc => by omega)
        have t3x : ph_T h3 104 = 2 := by rw [hF3.T]; exact t104
        refine B_X2_goBack_61 C (hM := ct_X2_aimAt _ _ _ hC3 (by omega)) (kk := fun rr h4 hq => ?_)
        obtain ⟨rfl, hF4, hk4, hG4⟩ := hq
        have hC4 := hC3.fr hF4 (fun c hc => by omega)
        have t4x : ph_T h4 104 = 2 := by rw [hF4.T, hF3.T]; exact t104
        have t4y : ph_T h4 106 = 8 := by rw [hF4.T, hF3.T]; exact t106
        have t4l : ph_L h4 106 = 38836 := by rw [hF4.L, hF3.L]; exact l106
        have t4r : ph_R h4 104 2 = 106 := by rw [hF4.R, hF3.R]; exact r1042
        have u4 : ∀ j, ph_I h4 106 j = ph_I h3 106 j := fun j => hF4.I (by omega) j
        have hvv : ∀ w hh : Int, loW st d r ≤ w → w ≤ hiW st d r → 0 ≤ hh → hh ≤ 6 → -1000000 ≤ ph_I h4 106 (Int.toNat (r * 511 + w * 7 + hh)) ∧ ph_I h4 106 (Int.toNat (r * 511 + w * 7 + hh)) ≤ 1000000 := by
          intro w hh a b c e
          rw [u4]
          have z := hE3 w hh a b c e
          by_cases q : shutP st d r w hh
          · rw [z.1 q]; omega
          · rw [z.2 q]
            rcases hu w hh a b c e with ⟨-, y⟩ | ⟨-, y⟩
            · rw [y]; omega
            · have := y.b (by omega) (by omega); omega
        refine B_X2_goBack_66 C (r2 := 106) (hM := ct_X2_addGain _ _ _ hC4 (cc := 106) (s := r * 511) (r := r) (by omega) t4y (Or.inl rfl) s0 (by rw [t4l]; omega) rfl rfl hG4.1 hvv) (kk := fun rr h5 hq => ?_)
        obtain ⟨rfl, hF5, hA5, hO5⟩ := hq
        have hC5 := hC4.fr hF5 (fun c hc => by omega)
        refine B_X2_goBack_80 C (kk := ?_)
        have e1 : r + (-1) = r - 1 := by omega
        have hFa : SFr (fun c => c = 104 ∨ c = 106 ∨ c = 108 ∨ c = 109) hp2 h5 := ((hF3.mono (N := fun c => c = 104 ∨ c = 106 ∨ c = 108 ∨ c = 109) (fun c hc => by omega)).tr ((hF4.mono (fun c hc => by omega)).tr (hF5.mono (fun c hc => by omega)))).s
        have hout : ∀ j : Nat, ((j : Int) < r * 511 + loW st d r * 7 ∨ r * 511 + hiW st d r * 7 + 6 < (j : Int)) → ph_I h5 106 j = ph_I hp2 106 j := fun j hj => by rw [hO5 j hj, u4, hO3 j hj]
        rw [e1]
        refine ih (r - 1) h5 ra sb (by omega) (by omega) hC5 (hF2.tr hFa) (fun k k1 k2 => by rw [hF5.I (by omega), hk4 k k1 k2, hF3.I (by omega)]; exact hk2 k k1 k2) ?_ (fun z => by omega)
        intro r' w hh a1 a2 a3 a4 a5 a6
        by_cases q : r' = r
        · subst q
          have hA := hA5 w hh a3 a4 a5 a6
          rw [u4] at hA
          have := vb_row (S := rw - r' - 1) (Q := 4 * (rw - 1 - r')) hDd hn (by omega) (by omega) ⟨a3, a4⟩ ⟨a5, a6⟩ (by omega) (by omega) hG4 (hu w hh a3 a4 a5 a6) (hE3 w hh a3 a4 a5 a6) hA
          have e2 : rw - r' - 1 + 1 = rw - r' := by omega
          rw [e2] at this
          exact this
        · have hlb2 := loW_b hDd (r := r') (by omega)
          rw [hout _ (by omega)]
          exact hT2 r' w hh (by omega) a2 a3 a4 a5 a6
      obtain ⟨⟨t104, t3, t6, t106, t107, tra, tsb, tmc⟩, ⟨l106, l107, lra, lsb⟩, ⟨r1040, r32, r1042, r1043, r1044, r1045, r1046, r1047⟩, hra, hfs, ⟨b1, b2, b3⟩, hFR, hMR, hSR, hS, h2, d0, p0⟩ := id hC1
      obtain ⟨hs, hb, hmany, hD, hPp⟩ := id hS
      obtain ⟨g1, g2, g3, g4, g5⟩ := hD d d0.1 d0.2
      obtain ⟨g6, g7⟩ := hPp p p0.1 p0.2
      obtain ⟨⟨ft0, ft1, ft2⟩, ⟨fl1, fl2⟩, fr0, fr1⟩ := id hfs
      obtain ⟨⟨f2, f3, f4, f5, f6⟩, fpt⟩ := id hFR
      obtain ⟨m0, m1, m2, m3, m4⟩ := id hMR
      have gw : -st (Int.toNat (308 + d)) ≤ st (Int.toNat (296 + d)) ∧ st (Int.toNat (296 + d)) ≤ st (Int.toNat (308 + d)) := by have := g4; unfold zabs at this; split at this <;> omega
      refine B_X2_goBack_15 C (kt := fun c => by omega) (kf := fun c => ?_)
      refine B_X2_goBack_19 C (x2 := rw) (e3 := u8) (kt := fun c2 => ?_) (kf := fun c2 => ?_)
      · refine w47 h1 ra sb hC1 hF hk hT (fun w hh a b c e => Or.inl ⟨by omega, hz (by omega) _ (by omega)⟩)
      · have hlb2 := loW_b hDd (r := r + 1) (by omega)
        refine B_X2_goBack_29 C (r2 := 106) (hM := ct_X2_reach _ _ _ hC1 (cc := 106) (s := (r + 1) * 511) (r := r + 1) (by omega) t106 (Or.inl rfl) (by omega) (by rw [l106]; omega) (fun w hh a b c e => by
          have := (hT (r + 1) w hh (by omega) (by omega) a b c e).b (by omega) (by omega)
          omega)) (kk := fun rr hp2 hq => ?_)
        obtain ⟨rfl, ra2, sb2, hC2, hF2, hR2, hb2⟩ := hq
        have u6 : ∀ j, ph_I hp2 106 j = ph_I h1 106 j := fun j => hF2.I (by omega) j
        refine w47 hp2 ra2 sb2 hC2 (hF.tr (hF2.mono (fun c hc => by omega))) (fun k k1 k2 => by rw [hF2.I (by omega)]; exact hk k k1 k2) (fun r' w hh a1 a2 a3 a4 a5 a6 => by rw [u6]; exact hT r' w hh a1 a2 a3 a4 a5 a6) (fun w hh a b c e => Or.inr ⟨by omega, ?_⟩)
        have := Rl_most (S := rw - r - 1) (Q := 4 * (rw - 2 - r)) (bst := bt st d p 0 (st (Int.toNat (16 + p))) (st (Int.toNat (8 + p)) + st (Int.toNat (16 + p)) - 1) (Int.toNat (st (Int.toNat (8 + p)) + st (Int.toNat (16 + p)) - 1 - (st (Int.toNat (304 + d)) + r) - 1))) (w := w) (hh := hh) hDd (by omega) (by omega) hR2 (by omega) ⟨c, e⟩ (fun w' b1 b2 b3 => loW_n hDd (by omega) ⟨a, b⟩ ⟨b1, b2⟩ b3) (by omega) (fun w' h' b1 b2 b3 b4 => by
          have z := hT (r + 1) w' h' (by omega) (by omega) b1 b2 b3 b4
          rw [vb_pos (by omega)] at z
          have e5 : st (Int.toNat (8 + p)) + st (Int.toNat (16 + p)) - 1 - (st (Int.toNat (304 + d)) + (r + 1)) = st (Int.toNat (8 + p)) + st (Int.toNat (16 + p)) - 1 - (st (Int.toNat (304 + d)) + r) - 1 := by omega
          rw [e5] at z
          exact z.mono (by omega) (by omega))
        exact this.mono (by omega) (by omega)
  have t0x : ph_T h0 104 = 2 := by rw [hF0.T]; exact t104
  refine B_X2_goBack_8 C (x2 := rw) (e3 := u8) (kk := ?_)
  by_cases q : 0 ≤ rw
  · exact lp (Int.toNat rw) (rw - 1) h0 ra sb (by omega) (by omega) hC0 ((hF0.mono (fun c hc => by omega)).s) (fun k k1 k2 => hF0.I (by omega) k) (fun r w hh a1 a2 => by omega) (fun _ j hj => hf0 j hj)
  · refine B_X2_goBack_15 C (kt := fun c => ?_) (kf := fun c => by omega)
    exact B_X2_goBack_86 C (hq := ⟨rfl, ra, sb, hC0, (hF0.mono (fun c hc => by omega)).s, fun k k1 k2 => hF0.I (by omega) k, fun r w hh a1 a2 => by omega⟩)
