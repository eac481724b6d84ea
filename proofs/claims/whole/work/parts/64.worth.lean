/-! the search: reach, the two worths, goBack -/
theorem ct_X2_reach (G : Gx) (l : Launch) (h : PH) {st : ST} {d p : Int} {mc fc ra sb : Nat} (hC : SC h st d p mc fc ra sb) {r s : Int} {cc : Nat} (r0 : 0 ≤ r ∧ r ≤ 80) (tcc : ph_T h cc = 8) (hcc : cc = 106 ∨ cc = 107) (s0 : 0 ≤ s ∧ s ≤ 40000) (hL : s + hiW st d r * 7 + 6 < (ph_L h cc : Int)) (hv : ∀ w hh : Int, loW st d r ≤ w → w ≤ hiW st d r → 0 ≤ hh → hh ≤ 6 → -1000000 ≤ ph_I h cc (Int.toNat (s + w * 7 + hh)) ∧ ph_I h cc (Int.toNat (s + w * 7 + hh)) ≤ 1000000) : CT_X2_reach G l [.inr 104, .inr cc, .inl s, .inl r] h (pqRch h st d p mc fc cc s r) := by
  obtain ⟨⟨t104, t3, t6, t106, t107, tra, tsb, tmc⟩, ⟨l106, l107, lra, lsb⟩, ⟨r1040, r32, r1042, r1043, r1044, r1045, r1046, r1047⟩, hra, hfs, ⟨b1, b2, b3⟩, hFR, hMR, hSR, hS, h2, d0, p0⟩ := id hC
  obtain ⟨hs, hb, hmany, hD, hPp⟩ := id hS
  obtain ⟨g1, g2, g3, g4, g5⟩ := hD d d0.1 d0.2
  obtain ⟨g6, g7⟩ := hPp p p0.1 p0.2
  obtain ⟨⟨ft0, ft1, ft2⟩, ⟨fl1, fl2⟩, fr0, fr1⟩ := id hfs
  obtain ⟨⟨f2, f3, f4, f5, f6⟩, fpt⟩ := id hFR
  obtain ⟨m0, m1, m2, m3, m4⟩ := id hMR
  have gw : -st (Int.toNat (308 + d)) ≤ st (Int.toNat (296 + d)) ∧ st (Int.toNat (296 + d)) ≤ st (Int.toNat (308 + d)) := by have := g4; unfold zabs at this; split at this <;> omega
  refine ct_intro rfl (Nat.le_of_ble_eq_true rfl) (fun X hX C => ?_)
  have hlb := loW_b (hD d d0.1 d0.2) r0.1
  refine B_X2_reach_0 C (r2 := ra) (hM := ct_J7_fill _ _ _ tra (by omega)) (kk := fun rr h1 hq => ?_)
  obtain ⟨rfl, hF1, hf1⟩ := hq
  have ut1 : ph_T h1 104 = 2 := by rw [hF1.T]; exact t104
  have ur1 : ph_R h1 104 5 = sb := by rw [hF1.R]; exact r1045
  have us1 : ph_T h1 sb = 8 := by rw [hF1.T]; exact tsb
  have ul1 : ph_L h1 sb = 525 := by rw [hF1.L]; exact lsb
  refine B_X2_reach_9 C (r2 := sb) (hM := ct_J7_fill _ _ _ us1 (by omega)) (kk := fun rr h2 hq => ?_)
  obtain ⟨rfl, hF2, hf2⟩ := hq
  rw [ul1] at hf2
  rw [lra] at hf1
  have hF12 : Fr (fun c => c = 108 ∨ c = 109) h h2 := (hF1.mono (fun c hc => by omega)).tr (hF2.mono (fun c hc => by omega))
  have hC2 := hC.fr hF12 (fun c hc => by omega)
  have ura : ∀ j, j < 525 → ph_I h2 ra j = -1000000 := fun j hj => by rw [hF2.I (by omega)]; exact hf1 j hj
  have ucc : ∀ j, ph_I h2 cc j = ph_I h cc j := fun j => hF12.I (by omega) j
  have ut2 : ph_T h2 104 = 2 := by rw [hF12.T]; exact t104
  refine B_X2_reach_18 C (hM := ct_X2_lowWind _ _ _ hC2 r0) (kk := fun rr h' hq => ?_)
  obtain ⟨rfl, rfl⟩ := hq
  refine B_X2_reach_23 C (hM := ct_X2_highWind _ _ _ hC2 r0) (kk := fun rr h' hq => ?_)
  obtain ⟨rfl, rfl⟩ := hq
  refine B_X2_reach_30 C (hM := ct_X2_tilt _ _ _ hC2 (by rw [hF12.T]; exact tcc) hcc s0 (by omega) (by rw [hF12.L]; exact hL) (fun w hh a b c e => by rw [ucc]; exact hv w hh a b c e)) (kk := fun rr h3 hq => ?_)
  obtain ⟨rfl, hF3, ht3, ho3⟩ := hq
  have hF13 : Fr (fun c => c = 108 ∨ c = 109) h h3 := hF12.tr (hF3.mono (fun c hc => by omega))
  have hC3 := hC.fr hF13 (fun c hc => by omega)
  refine B_X2_reach_42 C (kk := ?_)
  have lp : ∀ (m n : Nat) (h1 : PH) (ra sb : Nat) (lon hin : Int), (n : Int) + m = st (Int.toNat (312 + d)) → SC h1 st d p mc fc ra sb → SFr (fun c => c = 108 ∨ c = 109) h h1 → Rch (cOf h cc s) (loW st d r) (hiW st d r) (st (Int.toNat (308 + d))) n (uOf h1 ra) → (0 ≤ lon ∧ lon ≤ hin ∧ hin ≤ 2 * st (Int.toNat (308 + d))) → (lon = 0 ∨ lon ≤ loW st d r - n) → (hin = 2 * st (Int.toNat (308 + d)) ∨ hiW st d r + n ≤ hin) → (∀ j : Nat, j < 525 → ((j : Int) < (lon + 1) * 7 ∨ (hin + 2) * 7 ≤ (j : Int)) → ph_I h1 ra j = -1000000 ∧ ph_I h1 sb j = -1000000) → (∀ j : Nat, j < 525 → -1000000 ≤ ph_I h1 ra j ∧ ph_I h1 ra j ≤ 1000000) → PW G X 7 (pw_E G X (pqRch h st d p mc fc cc s r) 0 0) 0 0 45 [some (.inr 104), some (.inr cc), some (.inl s), some (.inl r), some (.inl lon), some (.inl hin), some (.inl (n : Int))] [] h1 := by
    clear ura hf1 hf2 ht3 ho3 hC3 hF13 hF3 hC2 hF12 hF1 hF2 ucc hC ut1 ur1 us1 ul1 ut2 h3 h2 h1 hra tra tsb lra lsb r1044 r1045 ra sb
    intro m
    induction m with
    | zero =>
      intro n h1 ra sb lon hin hn hC1 hF hR hlh hl1 hh1 hout hbd
      obtain ⟨⟨t104, t3, t6, t106, t107, tra, tsb, tmc⟩, ⟨l106, l107, lra, lsb⟩, ⟨r1040, r32, r1042, r1043, r1044, r1045, r1046, r1047⟩, hra, hfs, ⟨b1, b2, b3⟩, hFR, hMR, hSR, hS, h2, d0, p0⟩ := id hC1
      obtain ⟨hs, hb, hmany, hD, hPp⟩ := id hS
      obtain ⟨g1, g2, g3, g4, g5⟩ := hD d d0.1 d0.2
      obtain ⟨g6, g7⟩ := hPp p p0.1 p0.2
      obtain ⟨⟨ft0, ft1, ft2⟩, ⟨fl1, fl2⟩, fr0, fr1⟩ := id hfs
      obtain ⟨⟨f2, f3, f4, f5, f6⟩, fpt⟩ := id hFR
      obtain ⟨m0, m1, m2, m3, m4⟩ := id hMR
      have gw : -st (Int.toNat (308 + d)) ≤ st (Int.toNat (296 + d)) ∧ st (Int.toNat (296 + d)) ≤ st (Int.toNat (308 + d)) := by have := g4; unfold zabs at this; split at this <;> omega
      have e : (n : Int) = st (Int.toNat (312 + d)) := by omega
      rw [e] at hR ⊢
      refine B_X2_reach_45 C (r2 := mc) (x5 := st (Int.toNat (312 + d))) (kt := fun c => ?_) (kf := fun c => by omega)
      exact B_X2_reach_99 C (hq := ⟨rfl, ra, sb, hC1, hF, hR, hbd⟩)
    | succ m ih =>
      intro n h1 ra sb lon hin hn hC1 hF hR hlh hl1 hh1 hout hbd
      obtain ⟨⟨t104, t3, t6, t106, t107, tra, tsb, tmc⟩, ⟨l106, l107, lra, lsb⟩, ⟨r1040, r32, r1042, r1043, r1044, r1045, r1046, r1047⟩, hra, hfs, ⟨b1, b2, b3⟩, hFR, hMR, hSR, hS, h2, d0, p0⟩ := id hC1
      obtain ⟨hs, hb, hmany, hD, hPp⟩ := id hS
      obtain ⟨g1, g2, g3, g4, g5⟩ := hD d d0.1 d0.2
      obtain ⟨g6, g7⟩ := hPp p p0.1 p0.2
      obtain ⟨⟨ft0, ft1, ft2⟩, ⟨fl1, fl2⟩, fr0, fr1⟩ := id hfs
      obtain ⟨⟨f2, f3, f4, f5, f6⟩, fpt⟩ := id hFR
      obtain ⟨m0, m1, m2, m3, m4⟩ := id hMR
      have gw : -st (Int.toNat (308 + d)) ≤ st (Int.toNat (296 + d)) ∧ st (Int.toNat (296 + d)) ≤ st (Int.toNat (308 + d)) := by have := g4; unfold zabs at this; split at this <;> omega
      refine B_X2_reach_45 C (r2 := mc) (x5 := st (Int.toNat (312 + d))) (kt := fun c => by omega) (kf := fun c => ?_)
      generalize hlon : (if 0 < lon - 1 then lon - 1 else 0) = lon2
      generalize hhin : (if hin + 1 < 2 * st (Int.toNat (308 + d)) then hin + 1 else 2 * st (Int.toNat (308 + d))) = hin2
      have hlon2 : 0 ≤ lon2 ∧ lon2 ≤ lon ∧ (lon2 = 0 ∨ lon2 = lon - 1) := by omega
      have hhin2 : hin ≤ hin2 ∧ hin2 ≤ 2 * st (Int.toNat (308 + d)) ∧ (hin2 = 2 * st (Int.toNat (308 + d)) ∨ hin2 = hin + 1) := by omega
      refine B_X2_reach_57 C (x3 := lon2) (e4 := hlon) (r6 := mc) (x9 := st (Int.toNat (308 + d))) (x13 := hin2) (e14 := hhin) (hM := ct_X2_turn _ _ _ hC1 (by omega) hbd) (kk := fun rr h2 hq => ?_)
      obtain ⟨rfl, hC2, hF2, hT, hO⟩ := hq
      refine B_X2_reach_93 C (kk := ?_)
      have e1 : ((n + 1 : Nat) : Int) = (n : Int) + 1 := by omega
      have ura : ∀ j, ph_I h2 ra j = ph_I h1 ra j := fun j => hF2.I (by omega) j
      have nx := ih (n + 1) h2 sb ra lon2 hin2 (by omega) hC2 (hF.tr (hF2.mono (fun c hc => by omega))) (by
        rw [e1]
        refine Rch_s (lon := lon2) (hin := hin2) (by omega) (by omega) hR (by omega) (by omega) (fun k k0 k1 => ⟨?_, ?_⟩) (fun w k a b a1 b1 k0 k1 => ?_) (fun w k a1 b1 k0 k1 hn => ?_)
        · exact (hout _ (by omega) (by omega)).1
        · exact (hout _ (by omega) (by omega)).1
        · have := hT ((w + 1) * 7 + k) (by omega) (by omega)
          have e5 : (w + 1) * 7 + k - 7 = (w - 1 + 1) * 7 + k := by omega
          have e6 : (w + 1) * 7 + k + 7 = (w + 1 + 1) * 7 + k := by omega
          rw [e5, e6] at this
          exact this
        · show ph_I h2 sb _ = _
          rw [hO _ (by omega)]
          exact (hout _ (by omega) (by omega)).2) (by omega) (by omega) (by omega) (fun j hj hjj => ⟨by rw [hO j hjj]; exact (hout j hj (by omega)).2, by rw [ura]; exact (hout j hj (by omega)).1⟩) (fun j hj => by
          by_cases q : (j : Int) < (lon2 + 1) * 7 ∨ (hin2 + 2) * 7 ≤ (j : Int)
          · rw [hO j q, (hout j hj (by omega)).2]; omega
          · have t3 := hT j (by omega) (by omega)
            have e7 : Int.toNat (j : Int) = j := by omega
            rw [e7] at t3
            obtain ⟨y1, y2, y3, y4⟩ := t3
            have z0 := hbd j hj
            have z1 := hbd (Int.toNat ((j : Int) - 7)) (by omega)
            have z2 := hbd (Int.toNat ((j : Int) + 7)) (by omega)
            omega)
      rw [e1] at nx
      exact nx
  have hR0 : Rch (cOf h cc s) (loW st d r) (hiW st d r) (st (Int.toNat (308 + d))) 0 (uOf h3 ra) := by
    refine Rch_0 (fun w hh a b c e => (hv w hh a b c e).1) (fun w hh a b c e => ?_) (fun w hh a b c e hn => ?_)
    · have t3 := ht3 w hh a b c e
      unfold tlV at t3
      rw [ucc, ucc, ucc] at t3
      have e5 : s + w * 7 + hh - 1 = s + w * 7 + (hh - 1) := by omega
      have e6 : s + w * 7 + hh + 1 = s + w * 7 + (hh + 1) := by omega
      rw [e5, e6] at t3
      exact t3
    · show ph_I h3 ra _ = _
      rw [ho3 _ (by omega)]
      exact ura _ (by omega)
  have := lp (Int.toNat (st (Int.toNat (312 + d)))) 0 h3 ra sb (loW st d r) (hiW st d r) (by omega) hC3 hF13.s (by exact hR0) (by omega) (by omega) (by omega) (fun j hj hjj => ⟨by rw [ho3 j hjj]; exact ura j hj, by rw [hF3.I (by omega)]; exact hf2 j hj⟩) (fun j hj => by
    by_cases q : (j : Int) < (loW st d r + 1) * 7 ∨ (hiW st d r + 2) * 7 ≤ (j : Int)
    · rw [ho3 j q, ura j hj]; omega
    · have t3 := ht3 ((j : Int) / 7 - 1) ((j : Int) % 7) (by omega) (by omega) (by omega) (by omega)
      have e7 : Int.toNat (((j : Int) / 7 - 1 + 1) * 7 + (j : Int) % 7) = j := by omega
      rw [e7] at t3
      unfold tlV at t3
      rw [ucc, ucc, ucc] at t3
      obtain ⟨y1, y2, y3, y4⟩ := t3
      have z0 := hv ((j : Int) / 7 - 1) ((j : Int) % 7) (by omega) (by omega) (by omega) (by omega)
      rcases y4 with y4 | ⟨y0, y4⟩ | ⟨y0, y4⟩
      · omega
      · have z1 := hv ((j : Int) / 7 - 1) ((j : Int) % 7 - 1) (by omega) (by omega) (by omega) (by omega)
        have e5 : s + ((j : Int) / 7 - 1) * 7 + (j : Int) % 7 - 1 = s + ((j : Int) / 7 - 1) * 7 + ((j : Int) % 7 - 1) := by omega
        rw [e5] at y4
        omega
      · have z1 := hv ((j : Int) / 7 - 1) ((j : Int) % 7 + 1) (by omega) (by omega) (by omega) (by omega)
        have e5 : s + ((j : Int) / 7 - 1) * 7 + (j : Int) % 7 + 1 = s + ((j : Int) / 7 - 1) * 7 + ((j : Int) % 7 + 1) := by omega
        rw [e5] at y4
        omega)
  exact this
/-- one way's worth by the reference (10000 a point) and by the class (1024 a point) -/
def RlG (S Q x y : Int) : Prop := (x = -1000000 ∧ y = -1000000) ∨ ∃ s q : Int, x = 10000 * s - q ∧ y = 1024 * s - q ∧ 0 ≤ s ∧ s ≤ S ∧ 0 ≤ q ∧ q ≤ Q
theorem RlG.mono {S Q S' Q' x y : Int} (h : RlG S Q x y) (h1 : S ≤ S') (h2 : Q ≤ Q') : RlG S' Q' x y := by
  rcases h with h | ⟨s, q, a1, a2, a3, a4, a5, a6⟩
  · exact Or.inl h
  · exact Or.inr ⟨s, q, a1, a2, a3, by omega, a5, by omega⟩
theorem RlG.b {S Q x y : Int} (h : RlG S Q x y) (hS : S ≤ 80) (hQ : Q ≤ 320) : -1000000 ≤ y ∧ y ≤ 1000000 ∧ (y = -1000000 ∨ -320 ≤ y) := by
  rcases h with h | ⟨s, q, a1, a2, a3, a4, a5, a6⟩ <;> omega
theorem sGo_al {st : ST} {d w hh w' h' : Int} {bst : Int → Int → Int} (h1 : zabs w' ≤ st (Int.toNat (308 + d))) (h2 : 0 ≤ h' ∧ h' ≤ 6) (h3 : bst w' h' ≠ -1000000) : sGo st d bst w hh w' h' = bst w' h' - zabs (w' - w) - zabs (h' - hh) := by
  unfold sGo
  rw [if_neg (by omega), if_neg h3]
theorem zabs_nn (x : Int) : 0 ≤ zabs x := by unfold zabs; split <;> omega
theorem Rl_most {st : ST} {d w hh S Q lo hi : Int} {bst c u : Int → Int → Int} (hD : OkD st d) (hS : 0 ≤ S ∧ S ≤ 80) (hQ : 0 ≤ Q ∧ Q ≤ 310) (hR : Rch c lo hi (st (Int.toNat (308 + d))) (st (Int.toNat (312 + d))) u) (w0 : 0 ≤ w ∧ w ≤ 2 * st (Int.toNat (308 + d))) (h0 : 0 ≤ hh ∧ hh ≤ 6) (hin : ∀ w' : Int, 0 ≤ w' → w' ≤ 2 * st (Int.toNat (308 + d)) → zabs (w' - w) ≤ st (Int.toNat (312 + d)) → lo ≤ w' ∧ w' ≤ hi) (hsub : 0 ≤ lo ∧ hi ≤ 2 * st (Int.toNat (308 + d))) (hRl : ∀ w' h' : Int, lo ≤ w' → w' ≤ hi → 0 ≤ h' → h' ≤ 6 → RlG S Q (bst (w' - st (Int.toNat (308 + d))) h') (c w' h')) : RlG S (Q + 4) (sMost st d bst (w - st (Int.toNat (308 + d))) hh) (u w hh) := by
  obtain ⟨g1, g2, g3, g4, g5⟩ := hD
  obtain ⟨r1, r2, r3⟩ := hR w hh w0.1 w0.2 h0.1 h0.2
  have hatt := sMo_att (sG st d bst (w - st (Int.toNat (308 + d))) hh) (Int.toNat (2 * st (Int.toNat (312 + d)) + 1))
  have hge := (sMo_ge (sG st d bst (w - st (Int.toNat (308 + d))) hh) (Int.toNat (2 * st (Int.toNat (312 + d)) + 1))).2
  have hup : ∀ w' h' : Int, lo ≤ w' → w' ≤ hi → 0 ≤ h' → h' ≤ 6 → zabs (w' - w) ≤ st (Int.toNat (312 + d)) → zabs (h' - hh) ≤ 1 → bst (w' - st (Int.toNat (308 + d))) h' ≠ -1000000 → bst (w' - st (Int.toNat (308 + d))) h' - zabs (w' - w) - zabs (h' - hh) ≤ sMost st d bst (w - st (Int.toNat (308 + d))) hh := by
    intro w' h' a1 a2 a3 a4 a5 a6 a7
    have b5 : -st (Int.toNat (312 + d)) ≤ w' - w ∧ w' - w ≤ st (Int.toNat (312 + d)) := by unfold zabs at a5; split at a5 <;> omega
    have b6 : -1 ≤ h' - hh ∧ h' - hh ≤ 1 := by unfold zabs at a6; split at a6 <;> omega
    have := hge (Int.toNat (w' - w + st (Int.toNat (312 + d)))) (Int.toNat (h' - hh + 1)) (by omega) (by omega)
    unfold sG at this
    have e1 : w - st (Int.toNat (308 + d)) - st (Int.toNat (312 + d)) + (Int.toNat (w' - w + st (Int.toNat (312 + d))) : Int) = w' - st (Int.toNat (308 + d)) := by omega
    have e2 : hh - 1 + (Int.toNat (h' - hh + 1) : Int) = h' := by omega
    rw [e1, e2, sGo_al (by unfold zabs; split <;> omega) ⟨a3, a4⟩ a7] at this
    have e3 : w' - st (Int.toNat (308 + d)) - (w - st (Int.toNat (308 + d))) = w' - w := by omega
    rw [e3] at this
    exact this
  by_cases hM : sMost st d bst (w - st (Int.toNat (308 + d))) hh = -1000000
  · left
    refine ⟨hM, ?_⟩
    rcases r3 with r3 | ⟨w', h', a1, a2, a3, a4, a5, a6, a7⟩
    · exact r3
    · have z1 := zabs_nn (w' - w)
      have z2 := zabs_nn (h' - hh)
      rcases hRl w' h' a1 a2 a3 a4 with ⟨b1, b2⟩ | ⟨s, q, b1, b2, b3, b4, b5, b6⟩
      · omega
      · have := hup w' h' a1 a2 a3 a4 a5 a6 (by omega)
        omega
  · rcases hatt with x | ⟨i, j, i0, j0, ij⟩
    · exact absurd x hM
    · have ij2 : sG st d bst (w - st (Int.toNat (308 + d))) hh i j = sMost st d bst (w - st (Int.toNat (308 + d))) hh := ij
      unfold sG at ij2
      obtain ⟨c1, c2, c3, c4, c5⟩ := sGo_live (show sGo st d bst (w - st (Int.toNat (308 + d))) hh (w - st (Int.toNat (308 + d)) - st (Int.toNat (312 + d)) + i) (hh - 1 + j) ≠ -1000000 by rw [ij2]; exact hM)
      generalize hw' : w - st (Int.toNat (308 + d)) - st (Int.toNat (312 + d)) + (i : Int) + st (Int.toNat (308 + d)) = w' at *
      generalize hh' : hh - 1 + (j : Int) = h' at *
      have e1 : w - st (Int.toNat (308 + d)) - st (Int.toNat (312 + d)) + (i : Int) = w' - st (Int.toNat (308 + d)) := by omega
      rw [e1] at c1 c4 c5 ij2
      have e3 : w' - st (Int.toNat (308 + d)) - (w - st (Int.toNat (308 + d))) = w' - w := by omega
      rw [e3] at c5
      have zw : zabs (w' - w) ≤ st (Int.toNat (312 + d)) := by unfold zabs; split <;> omega
      have zh : zabs (h' - hh) ≤ 1 := by unfold zabs; split <;> omega
      have hww : 0 ≤ w' ∧ w' ≤ 2 * st (Int.toNat (308 + d)) := by unfold zabs at c1; split at c1 <;> omega
      obtain ⟨d1, d2⟩ := hin w' hww.1 hww.2 zw
      have z1 := zabs_nn (w' - w)
      have z2 := zabs_nn (h' - hh)
      rcases hRl w' h' d1 d2 c2 c3 with ⟨b1, b2⟩ | ⟨s, q, b1, b2, b3, b4, b5, b6⟩
      · exact absurd b1 c4
      · have f1 := r2 w' h' d1 d2 c2 c3 zw zh
        right
        refine ⟨s, q + zabs (w' - w) + zabs (h' - hh), by omega, ?_, b3, b4, by omega, by omega⟩
        rcases r3 with r3 | ⟨w2, h2, a1, a2, a3, a4, a5, a6, a7⟩
        · omega
        · have y1 := zabs_nn (w2 - w)
          have y2 := zabs_nn (h2 - hh)
          rcases hRl w2 h2 a1 a2 a3 a4 with ⟨v1, v2⟩ | ⟨s2, q2, v1, v2, v3, v4, v5, v6⟩
          · omega
          · have := hup w2 h2 a1 a2 a3 a4 a5 a6 (by omega)
            omega
/-- what a row's cell is worth by the reference -/
def vb (st : ST) (d p r w hh : Int) : Int := if r = 0 then (if hh = st (Int.toNat (300 + d)) then sLay st d p 0 (st (Int.toNat (16 + p))) else -1000000) else bt st d p 0 (st (Int.toNat (16 + p))) (st (Int.toNat (8 + p)) + st (Int.toNat (16 + p)) - 1) (Int.toNat (st (Int.toNat (8 + p)) + st (Int.toNat (16 + p)) - 1 - (st (Int.toNat (304 + d)) + r))) w hh
theorem Rl_gain {S Q x u g gs gh t w hh : Int} {st : ST} {d p : Int} (hS : 0 ≤ S ∧ S ≤ 80) (hQ : 0 ≤ Q ∧ Q ≤ 320) (hG : Goal st p t gs gh) (h0 : 0 ≤ hh) (hR : RlG S Q x u) (hg : g = if u < -500000 then u else u + (if hh = gh ∧ (w - st (Int.toNat (308 + d)) + 48) % 24 = gs then 1024 else 0)) : RlG (S + 1) Q (if x = -1000000 then -1000000 else x + sOwn st p 0 (st (Int.toNat (16 + p))) t (w - st (Int.toNat (308 + d))) hh) g := by
  have hG2 := hG.2 (w - st (Int.toNat (308 + d))) hh h0
  rcases hR with ⟨b1, b2⟩ | ⟨s, q, b1, b2, b3, b4, b5, b6⟩
  · rw [if_pos b1]
    rw [if_pos (by omega)] at hg
    exact Or.inl ⟨rfl, by omega⟩
  · rw [if_neg (by omega)]
    rw [if_neg (by omega)] at hg
    right
    unfold sOwn
    by_cases z : hh = gh ∧ (w - st (Int.toNat (308 + d)) + 48) % 24 = gs
    · rw [if_pos z] at hg
      rw [if_pos (hG2.mp z)]
      exact ⟨s + 1, q, by omega, by omega, by omega, by omega, b5, b6⟩
    · rw [if_neg z] at hg
      rw [if_neg (fun y => z (hG2.mpr y))]
      exact ⟨s, q, by omega, by omega, by omega, by omega, b5, b6⟩
theorem vb_pos {st : ST} {d p r w hh : Int} (r0 : 0 < r) : vb st d p r w hh = bt st d p 0 (st (Int.toNat (16 + p))) (st (Int.toNat (8 + p)) + st (Int.toNat (16 + p)) - 1) (Int.toNat (st (Int.toNat (8 + p)) + st (Int.toNat (16 + p)) - 1 - (st (Int.toNat (304 + d)) + r))) w hh := by
  unfold vb; rw [if_neg (by omega)]
/-- a row is made: the cell's worth, from what can follow -/
theorem vb_row {st : ST} {d p r w hh S Q u e g gs gh : Int} (hD : OkD st d) (hn : 0 < st (Int.toNat (16 + p))) (r0 : 0 ≤ r) (hl : st (Int.toNat (304 + d)) + r ≤ st (Int.toNat (8 + p)) + st (Int.toNat (16 + p)) - 1) (w0 : loW st d r ≤ w ∧ w ≤ hiW st d r) (h0 : 0 ≤ hh ∧ hh ≤ 6) (hS : 0 ≤ S ∧ S ≤ 80) (hQ : 0 ≤ Q ∧ Q ≤ 320)
    (hG : Goal st p (st (Int.toNat (304 + d)) + r) gs gh) (hu : (st (Int.toNat (304 + d)) + r = st (Int.toNat (8 + p)) + st (Int.toNat (16 + p)) - 1 ∧ u = 0) ∨ (st (Int.toNat (304 + d)) + r < st (Int.toNat (8 + p)) + st (Int.toNat (16 + p)) - 1 ∧ RlG S Q (sMost st d (bt st d p 0 (st (Int.toNat (16 + p))) (st (Int.toNat (8 + p)) + st (Int.toNat (16 + p)) - 1) (Int.toNat (st (Int.toNat (8 + p)) + st (Int.toNat (16 + p)) - 1 - (st (Int.toNat (304 + d)) + r) - 1))) (w - st (Int.toNat (308 + d))) hh) u))
    (he : (shutP st d r w hh → e = -1000000) ∧ (¬ shutP st d r w hh → e = u)) (hg : g = if e < -500000 then e else e + (if hh = gh ∧ (w - st (Int.toNat (308 + d)) + 48) % 24 = gs then 1024 else 0)) : RlG (S + 1) Q (vb st d p r (w - st (Int.toNat (308 + d))) hh) g := by
  have hlb := loW_b hD r0
  have g1 := hD.1
  by_cases sh : shutP st d r w hh
  · have e1 := he.1 sh
    rw [e1, if_pos (by decide)] at hg
    refine Or.inl ⟨?_, hg⟩
    rcases sh with ⟨z1, z2⟩ | ⟨z1, z2⟩
    · unfold vb; rw [if_pos z1, if_neg z2]
    · rw [vb_pos z1]
      by_cases k : st (Int.toNat (304 + d)) + r = st (Int.toNat (8 + p)) + st (Int.toNat (16 + p)) - 1
      · have e2 : Int.toNat (st (Int.toNat (8 + p)) + st (Int.toNat (16 + p)) - 1 - (st (Int.toNat (304 + d)) + r)) = 0 := by omega
        rw [e2, bt_z, if_neg (fun y => z2 (by rw [k]; exact y.1))]
      · have e2 : Int.toNat (st (Int.toNat (8 + p)) + st (Int.toNat (16 + p)) - 1 - (st (Int.toNat (304 + d)) + r)) = Int.toNat (st (Int.toNat (8 + p)) + st (Int.toNat (16 + p)) - 1 - (st (Int.toNat (304 + d)) + r) - 1) + 1 := by omega
        have e3 : st (Int.toNat (8 + p)) + st (Int.toNat (16 + p)) - 1 - ((Int.toNat (st (Int.toNat (8 + p)) + st (Int.toNat (16 + p)) - 1 - (st (Int.toNat (304 + d)) + r) - 1) : Int) + 1) = st (Int.toNat (304 + d)) + r := by omega
        rw [e2, bt_s, e3, if_neg (fun y => z2 y.1)]
  · have e1 := he.2 sh
    rw [e1] at hg
    by_cases rz : r = 0
    · subst rz
      have ez : st (Int.toNat (304 + d)) + 0 = st (Int.toNat (304 + d)) := by omega
      rw [ez] at hG hu hl
      have hh0 : hh = st (Int.toNat (300 + d)) := by
        by_cases z : hh = st (Int.toNat (300 + d))
        · exact z
        · exact absurd (Or.inl ⟨rfl, z⟩) sh
      have hw0 := loW_0 hD
      have ew : w - st (Int.toNat (308 + d)) = st (Int.toNat (296 + d)) := by omega
      unfold vb
      rw [if_pos rfl, if_pos hh0]
      unfold sLay
      rw [if_neg (by omega)]
      rcases hu with ⟨k, hu⟩ | ⟨k, hu⟩
      · rw [if_pos k]
        have := Rl_gain (S := S) (Q := Q) (x := 0) (u := u) (w := w) (d := d) hS hQ hG h0.1 (Or.inr ⟨0, 0, by omega, by omega, by omega, by omega, by omega, by omega⟩) hg
        rw [if_neg (by decide), Int.zero_add, ew, hh0] at this
        exact this
      · rw [if_neg (by omega)]
        have := Rl_gain (w := w) (d := d) hS hQ hG h0.1 hu hg
        unfold sFrom
        rw [ew, hh0] at this
        exact this
    · have rp : 0 < r := by omega
      have hsM : sM st (st (Int.toNat (304 + d)) + r) (w - st (Int.toNat (308 + d))) hh = true := by
        by_cases z : sM st (st (Int.toNat (304 + d)) + r) (w - st (Int.toNat (308 + d))) hh = true
        · exact z
        · exact absurd (Or.inr ⟨rp, z⟩) sh
      rw [vb_pos rp]
      rcases hu with ⟨k, hu⟩ | ⟨k, hu⟩
      · have e2 : Int.toNat (st (Int.toNat (8 + p)) + st (Int.toNat (16 + p)) - 1 - (st (Int.toNat (304 + d)) + r)) = 0 := by omega
        rw [e2, bt_z, ← k, if_pos ⟨hsM, by omega, by omega, h0.1, h0.2⟩]
        have := Rl_gain (S := S) (Q := Q) (x := 0) (u := u) (w := w) (d := d) hS hQ hG h0.1 (Or.inr ⟨0, 0, by omega, by omega, by omega, by omega, by omega, by omega⟩) hg
        rw [if_neg (by decide), Int.zero_add] at this
        exact this
      · have e2 : Int.toNat (st (Int.toNat (8 + p)) + st (Int.toNat (16 + p)) - 1 - (st (Int.toNat (304 + d)) + r)) = Int.toNat (st (Int.toNat (8 + p)) + st (Int.toNat (16 + p)) - 1 - (st (Int.toNat (304 + d)) + r) - 1) + 1 := by omega
        have e3 : st (Int.toNat (8 + p)) + st (Int.toNat (16 + p)) - 1 - ((Int.toNat (st (Int.toNat (8 + p)) + st (Int.toNat (16 + p)) - 1 - (st (Int.toNat (304 + d)) + r) - 1) : Int) + 1) = st (Int.toNat (304 + d)) + r := by omega
        rw [e2, bt_s, e3, if_pos ⟨hsM, by omega, by omega, h0.1, h0.2⟩]
        have := Rl_gain (w := w) (d := d) hS hQ hG h0.1 hu hg
        unfold sFrom
        exact this
