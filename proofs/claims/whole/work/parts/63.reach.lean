/-! the search: tilt, turn, reach -/
def tlV (h : PH) (cc : Nat) (b hh v : Int) : Prop := ph_I h cc (Int.toNat (b + hh)) ≤ v ∧ (0 < hh → ph_I h cc (Int.toNat (b + hh - 1)) - 1 ≤ v) ∧ (hh < 6 → ph_I h cc (Int.toNat (b + hh + 1)) - 1 ≤ v) ∧ (v = ph_I h cc (Int.toNat (b + hh)) ∨ (0 < hh ∧ v = ph_I h cc (Int.toNat (b + hh - 1)) - 1) ∨ (hh < 6 ∧ v = ph_I h cc (Int.toNat (b + hh + 1)) - 1))
def pqTilt (h : PH) (cc ra : Nat) (s lo hi : Int) : Option PV → PH → Prop := fun rr h' => rr = none ∧ Fr (fun c => c = ra) h h' ∧ (∀ w hh : Int, lo ≤ w → w ≤ hi → 0 ≤ hh → hh ≤ 6 → tlV h cc (s + w * 7) hh (ph_I h' ra (Int.toNat ((w + 1) * 7 + hh)))) ∧ ∀ j : Nat, ((j : Int) < (lo + 1) * 7 ∨ (hi + 2) * 7 ≤ (j : Int)) → ph_I h' ra j = ph_I h ra j
theorem ct_X2_tilt (G : Gx) (l : Launch) (h : PH) {st : ST} {d p : Int} {mc fc ra sb : Nat} (hC : SC h st d p mc fc ra sb) {s lo hi : Int} {cc : Nat} (tcc : ph_T h cc = 8) (hcc : cc = 106 ∨ cc = 107) (s0 : 0 ≤ s ∧ s ≤ 40000) (lo0 : 0 ≤ lo ∧ lo ≤ hi ∧ hi ≤ 72) (hL : s + hi * 7 + 6 < (ph_L h cc : Int)) (hv : ∀ w hh : Int, lo ≤ w → w ≤ hi → 0 ≤ hh → hh ≤ 6 → -1000000 ≤ ph_I h cc (Int.toNat (s + w * 7 + hh)) ∧ ph_I h cc (Int.toNat (s + w * 7 + hh)) ≤ 1000000) : CT_X2_tilt G l [.inr 104, .inr cc, .inl s, .inl lo, .inl hi] h (pqTilt h cc ra s lo hi) := by
  obtain ⟨⟨t104, t3, t6, t106, t107, tra, tsb, tmc⟩, ⟨l106, l107, lra, lsb⟩, ⟨r1040, r32, r1042, r1043, r1044, r1045, r1046, r1047⟩, hra, hfs, ⟨b1, b2, b3⟩, hFR, hMR, hSR, hS, h2, d0, p0⟩ := id hC
  obtain ⟨hs, hb, hmany, hD, hPp⟩ := id hS
  obtain ⟨g1, g2, g3, g4, g5⟩ := hD d d0.1 d0.2
  obtain ⟨g6, g7⟩ := hPp p p0.1 p0.2
  obtain ⟨⟨ft0, ft1, ft2⟩, ⟨fl1, fl2⟩, fr0, fr1⟩ := id hfs
  obtain ⟨⟨f2, f3, f4, f5, f6⟩, fpt⟩ := id hFR
  obtain ⟨m0, m1, m2, m3, m4⟩ := id hMR
  have gw : -st (Int.toNat (308 + d)) ≤ st (Int.toNat (296 + d)) ∧ st (Int.toNat (296 + d)) ≤ st (Int.toNat (308 + d)) := by have := g4; unfold zabs at this; split at this <;> omega
  refine ct_intro rfl (Nat.le_of_ble_eq_true rfl) (fun X hX C => ?_)
  have lp : ∀ (m : Nat) (w : Int) (h1 : PH), w + m = hi + 1 → lo ≤ w → Fr (fun c => c = ra) h h1 → (∀ w' hh : Int, lo ≤ w' → w' ≤ hi → 0 ≤ hh → hh ≤ 6 → w' < w → tlV h cc (s + w' * 7) hh (ph_I h1 ra (Int.toNat ((w' + 1) * 7 + hh)))) → (∀ j : Nat, ((j : Int) < (lo + 1) * 7 ∨ (hi + 2) * 7 ≤ (j : Int)) → ph_I h1 ra j = ph_I h ra j) → PW G X 10 (pw_E G X (pqTilt h cc ra s lo hi) 0 0) 0 0 3 [some (.inr 104), some (.inr cc), some (.inl s), some (.inl lo), some (.inl hi), some (.inl w), none, none, none, none] [] h1 := by
    intro m
    induction m with
    | zero =>
      intro w h1 hw hlw hF hin hout
      refine B_X2_tilt_3 C (kt := fun c2 => ?_) (kf := fun c2 => by omega)
      exact B_X2_tilt_141 C (hq := ⟨rfl, hF, fun w' hh a b c e => hin w' hh a b c e (by omega), hout⟩)
    | succ m ih =>
      intro w h1 hw hlw hF hin hout
      refine B_X2_tilt_3 C (kt := fun c2 => by omega) (kf := fun c2 => ?_)
      refine B_X2_tilt_10 C (kk := ?_)
      have lp2 : ∀ (u k : Nat) (h1 : PH), k + u = 7 → Fr (fun c => c = ra) h h1 → (∀ w' hh : Int, lo ≤ w' → w' ≤ hi → 0 ≤ hh → hh ≤ 6 → (w' < w ∨ (w' = w ∧ hh < k)) → tlV h cc (s + w' * 7) hh (ph_I h1 ra (Int.toNat ((w' + 1) * 7 + hh)))) → (∀ j : Nat, ((j : Int) < (lo + 1) * 7 ∨ (hi + 2) * 7 ≤ (j : Int)) → ph_I h1 ra j = ph_I h ra j) → PW G X 10 (pw_E G X (pqTilt h cc ra s lo hi) 0 0) 0 0 31 [some (.inr 104), some (.inr cc), some (.inl s), some (.inl lo), some (.inl hi), some (.inl w), some (.inl (s + w * 7)), some (.inl ((w + 1) * 7)), some (.inl (k : Int)), none] [] h1 := by
        intro u
        induction u with
        | zero =>
          intro k h1 hk hF hin hout
          refine B_X2_tilt_31 C (kt := fun c => ?_) (kf := fun c => by omega)
          refine B_X2_tilt_135 C (kk := ?_)
          exact ih (w + 1) h1 (by omega) (by omega) hF (fun w' hh a b c e z => hin w' hh a b c e (by omega)) hout
        | succ u ihu =>
          intro k h1 hk hF hin hout
          have ut : ph_T h1 cc = 8 := by rw [hF.T]; exact tcc
          have ul : (ph_L h1 cc : Int) = ph_L h cc := by rw [hF.L]
          have ut2 : ph_T h1 104 = 2 := by rw [hF.T]; exact t104
          have ut3 : ph_T h1 ra = 8 := by rw [hF.T]; exact tra
          have ul3 : ph_L h1 ra = 525 := by rw [hF.L]; exact lra
          have ur : ph_R h1 104 4 = ra := by rw [hF.R]; exact r1044
          have ucc : ∀ j, ph_I h1 cc j = ph_I h cc j := fun j => hF.I (by omega) j
          have hvk := hv w k hlw (by omega) (by omega) (by omega)
          have hvm : 0 < k → -1000000 ≤ ph_I h cc (Int.toNat (s + w * 7 + k - 1)) ∧ ph_I h cc (Int.toNat (s + w * 7 + k - 1)) ≤ 1000000 := fun z => by
            have e : s + w * 7 + (k : Int) - 1 = s + w * 7 + ((k : Int) - 1) := by omega
            rw [e]; exact hv w (k - 1) hlw (by omega) (by omega) (by omega)
          have hvp : k < 6 → -1000000 ≤ ph_I h cc (Int.toNat (s + w * 7 + k + 1)) ∧ ph_I h cc (Int.toNat (s + w * 7 + k + 1)) ≤ 1000000 := fun z => by
            have e : s + w * 7 + (k : Int) + 1 = s + w * 7 + ((k : Int) + 1) := by omega
            rw [e]; exact hv w (k + 1) hlw (by omega) (by omega) (by omega)
          have w117 : ∀ v : Int, tlV h cc (s + w * 7) k v → PW G X 10 (pw_E G X (pqTilt h cc ra s lo hi) 0 0) 0 0 117 [some (.inr 104), some (.inr cc), some (.inl s), some (.inl lo), some (.inl hi), some (.inl w), some (.inl (s + w * 7)), some (.inl ((w + 1) * 7)), some (.inl (k : Int)), some (.inl v)] [] h1 := by
            intro v hx
            refine B_X2_tilt_117 C (r2 := ra) (kk := ?_)
            have e1 : ((k + 1 : Nat) : Int) = (k : Int) + 1 := by omega
            have nx := ihu (k + 1) (ph_setI h1 ra (Int.toNat ((w + 1) * 7 + k)) v) (by omega) (hF.set rfl _ _) (fun w' hh a b c e z => by
              by_cases q : w' = w ∧ hh = k
              · rw [q.1, q.2, sI_eq]; exact hx
              · rw [sI_k (by omega)]; exact hin w' hh a b c e (by omega)) (fun j hj => by rw [sI_k (by omega)]; exact hout j hj)
            rw [e1] at nx
            exact nx
          have w81 : ∀ v : Int, ph_I h cc (Int.toNat (s + w * 7 + k)) ≤ v → (0 < (k : Int) → ph_I h cc (Int.toNat (s + w * 7 + k - 1)) - 1 ≤ v) → (v = ph_I h cc (Int.toNat (s + w * 7 + k)) ∨ (0 < (k : Int) ∧ v = ph_I h cc (Int.toNat (s + w * 7 + k - 1)) - 1)) → PW G X 10 (pw_E G X (pqTilt h cc ra s lo hi) 0 0) 0 0 81 [some (.inr 104), some (.inr cc), some (.inl s), some (.inl lo), some (.inl hi), some (.inl w), some (.inl (s + w * 7)), some (.inl ((w + 1) * 7)), some (.inl (k : Int)), some (.inl v)] [] h1 := by
            intro v v1 v2 v3
            refine B_X2_tilt_81 C (kt := fun c => ?_) (kf := fun c => ?_)
            · exact w117 v ⟨v1, v2, fun z => by omega, by omega⟩
            · have hp := hvp (by omega)
              refine B_X2_tilt_88 C (x5 := ph_I h cc (Int.toNat (s + w * 7 + k + 1))) (e6 := ucc _) (q8 := by unfold pR; omega) (kt := fun c3 => ?_) (kf := fun c3 => ?_)
              · exact w117 v ⟨v1, v2, fun z => c3, by omega⟩
              · refine B_X2_tilt_104 C (x5 := ph_I h cc (Int.toNat (s + w * 7 + k + 1))) (e6 := ucc _) (kk := ?_)
                exact w117 _ ⟨by omega, fun z => by have := v2 z; omega, fun z => by omega, by omega⟩
          refine B_X2_tilt_31 C (kt := fun c => by omega) (kf := fun c => ?_)
          refine B_X2_tilt_38 C (x5 := ph_I h cc (Int.toNat (s + w * 7 + k))) (e6 := ucc _) (kt := fun c3 => ?_) (kf := fun c3 => ?_)
          · exact w81 _ (Int.le_refl _) (fun z => by omega) (Or.inl rfl)
          · have hm := hvm (by omega)
            refine B_X2_tilt_52 C (x5 := ph_I h cc (Int.toNat (s + w * 7 + k - 1))) (e6 := ucc _) (kt := fun c4 => ?_) (kf := fun c4 => ?_)
            · exact w81 _ (Int.le_refl _) (fun z => c4) (Or.inl rfl)
            · refine B_X2_tilt_68 C (x5 := ph_I h cc (Int.toNat (s + w * 7 + k - 1))) (e6 := ucc _) (kk := ?_)
              exact w81 _ (by omega) (fun z => Int.le_refl _) (Or.inr ⟨by omega, rfl⟩)
      exact lp2 7 0 h1 (by omega) hF (fun w' hh a b c e z => hin w' hh a b c e (by omega)) hout
  refine B_X2_tilt_0 C (kk := ?_)
  exact lp (Int.toNat (hi + 1 - lo)) lo h (by omega) (Int.le_refl _) (Fr.rf _ h) (fun w' hh a b c e z => by omega) (fun j hj => rfl)
/-- like Fr, but what the search points to may change -/
def SFr (M : Nat → Prop) (h h' : PH) : Prop := h'.1 = h.1 ∧ h'.2.1 = h.2.1 ∧ h'.2.2.1 = h.2.2.1 ∧ (∀ c k, ¬ (c = 104 ∧ 4 ≤ k ∧ k ≤ 7) → ph_R h' c k = ph_R h c k) ∧ ∀ c, ¬ M c → ∀ k, ph_I h' c k = ph_I h c k
theorem SFr.rf (M : Nat → Prop) (h : PH) : SFr M h h := ⟨rfl, rfl, rfl, fun _ _ _ => rfl, fun _ _ _ => rfl⟩
theorem SFr.tr {M : Nat → Prop} {a b c : PH} (x : SFr M a b) (y : SFr M b c) : SFr M a c := ⟨y.1.trans x.1, y.2.1.trans x.2.1, y.2.2.1.trans x.2.2.1, fun e k he => (y.2.2.2.1 e k he).trans (x.2.2.2.1 e k he), fun e he k => (y.2.2.2.2 e he k).trans (x.2.2.2.2 e he k)⟩
theorem SFr.mono {M N : Nat → Prop} {a b : PH} (x : SFr M a b) (hh : ∀ c, M c → N c) : SFr N a b := ⟨x.1, x.2.1, x.2.2.1, x.2.2.2.1, fun e he k => x.2.2.2.2 e (fun z => he (hh e z)) k⟩
theorem SFr.T {M : Nat → Prop} {h h' : PH} (x : SFr M h h') (c : Nat) : ph_T h' c = ph_T h c := by unfold ph_T; rw [x.2.1]
theorem SFr.L {M : Nat → Prop} {h h' : PH} (x : SFr M h h') (c : Nat) : ph_L h' c = ph_L h c := by unfold ph_L; rw [x.2.2.1]
theorem SFr.I {M : Nat → Prop} {h h' : PH} (x : SFr M h h') {c : Nat} (hc : ¬ M c) (k : Nat) : ph_I h' c k = ph_I h c k := x.2.2.2.2 c hc k
theorem Fr.s {M : Nat → Prop} {h h' : PH} (x : Fr M h h') : SFr M h h' := ⟨x.1, x.2.1, x.2.2.1, fun c k _ => x.R c k, x.2.2.2.2⟩
def T3 (x y z v : Int) : Prop := x ≤ v ∧ y - 1 ≤ v ∧ z - 1 ≤ v ∧ (v = x ∨ v = y - 1 ∨ v = z - 1)
def pqTurn (h : PH) (st : ST) (d p : Int) (mc fc ra sb : Nat) (lo hi : Int) : Option PV → PH → Prop := fun rr h' => rr = none ∧ SC h' st d p mc fc sb ra ∧ SFr (fun c => c = sb) h h' ∧ (∀ j : Int, (lo + 1) * 7 ≤ j → j < (hi + 2) * 7 → T3 (ph_I h ra (Int.toNat j)) (ph_I h ra (Int.toNat (j - 7))) (ph_I h ra (Int.toNat (j + 7))) (ph_I h' sb (Int.toNat j))) ∧ ∀ j : Nat, ((j : Int) < (lo + 1) * 7 ∨ (hi + 2) * 7 ≤ (j : Int)) → ph_I h' sb j = ph_I h sb j
theorem ct_X2_turn (G : Gx) (l : Launch) (h : PH) {st : ST} {d p : Int} {mc fc ra sb : Nat} (hC : SC h st d p mc fc ra sb) {lo hi : Int} (lo0 : 0 ≤ lo ∧ lo ≤ hi ∧ hi ≤ 72) (hv : ∀ j : Nat, j < 525 → -1000000 ≤ ph_I h ra j ∧ ph_I h ra j ≤ 1000000) : CT_X2_turn G l [.inr 104, .inl lo, .inl hi] h (pqTurn h st d p mc fc ra sb lo hi) := by
  obtain ⟨⟨t104, t3, t6, t106, t107, tra, tsb, tmc⟩, ⟨l106, l107, lra, lsb⟩, ⟨r1040, r32, r1042, r1043, r1044, r1045, r1046, r1047⟩, hra, hfs, ⟨b1, b2, b3⟩, hFR, hMR, hSR, hS, h2, d0, p0⟩ := id hC
  obtain ⟨hs, hb, hmany, hD, hPp⟩ := id hS
  obtain ⟨g1, g2, g3, g4, g5⟩ := hD d d0.1 d0.2
  obtain ⟨g6, g7⟩ := hPp p p0.1 p0.2
  obtain ⟨⟨ft0, ft1, ft2⟩, ⟨fl1, fl2⟩, fr0, fr1⟩ := id hfs
  obtain ⟨⟨f2, f3, f4, f5, f6⟩, fpt⟩ := id hFR
  obtain ⟨m0, m1, m2, m3, m4⟩ := id hMR
  have gw : -st (Int.toNat (308 + d)) ≤ st (Int.toNat (296 + d)) ∧ st (Int.toNat (296 + d)) ≤ st (Int.toNat (308 + d)) := by have := g4; unfold zabs at this; split at this <;> omega
  refine ct_intro rfl (Nat.le_of_ble_eq_true rfl) (fun X hX C => ?_)
  have lp : ∀ (m : Nat) (i : Int) (h1 : PH), i + m = (hi + 2) * 7 → (lo + 1) * 7 ≤ i → Fr (fun c => c = sb) h h1 → (∀ j : Int, (lo + 1) * 7 ≤ j → j < i → T3 (ph_I h ra (Int.toNat j)) (ph_I h ra (Int.toNat (j - 7))) (ph_I h ra (Int.toNat (j + 7))) (ph_I h1 sb (Int.toNat j))) → (∀ j : Nat, ((j : Int) < (lo + 1) * 7 ∨ (hi + 2) * 7 ≤ (j : Int)) → ph_I h1 sb j = ph_I h sb j) → PW G X 6 (pw_E G X (pqTurn h st d p mc fc ra sb lo hi) 0 0) 0 0 15 [some (.inr 104), some (.inl lo), some (.inl hi), some (.inl ((hi + 2) * 7)), some (.inl i), none] [] h1 := by
    intro m
    induction m with
    | zero =>
      intro i h1 hw hlw hF hin hout
      have hC1 := hC.fr hF (fun c hc => by omega)
      obtain ⟨⟨t104, t3, t6, t106, t107, tra, tsb, tmc⟩, ⟨l106, l107, lra, lsb⟩, ⟨r1040, r32, r1042, r1043, r1044, r1045, r1046, r1047⟩, hra, hfs, ⟨b1, b2, b3⟩, hFR, hMR, hSR, hS, h2, d0, p0⟩ := id hC1
      obtain ⟨hs, hb, hmany, hD, hPp⟩ := id hS
      obtain ⟨g1, g2, g3, g4, g5⟩ := hD d d0.1 d0.2
      obtain ⟨g6, g7⟩ := hPp p p0.1 p0.2
      obtain ⟨⟨ft0, ft1, ft2⟩, ⟨fl1, fl2⟩, fr0, fr1⟩ := id hfs
      obtain ⟨⟨f2, f3, f4, f5, f6⟩, fpt⟩ := id hFR
      obtain ⟨m0, m1, m2, m3, m4⟩ := id hMR
      have gw : -st (Int.toNat (308 + d)) ≤ st (Int.toNat (296 + d)) ∧ st (Int.toNat (296 + d)) ≤ st (Int.toNat (308 + d)) := by have := g4; unfold zabs at this; split at this <;> omega
      refine B_X2_turn_15 C (kt := fun c2 => ?_) (kf := fun c2 => by omega)
      refine B_X2_turn_107 C (r2 := sb) (r6 := ra) (hq := ⟨rfl, ?_, ?_, fun j a b => hin j a (by omega), hout⟩)
      · refine ⟨⟨t104, t3, t6, t106, t107, tsb, tra, tmc⟩, ⟨l106, l107, lsb, lra⟩, ⟨?_, ?_, ?_, ?_, ?_, ?_, ?_, ?_⟩, by omega, ?_, ⟨b1, b2, b3⟩, hFR, hMR, hSR, hS, h2, d0, p0⟩
        · simp [ph_R, ph_setR]; exact r1040
        · simp [ph_R, ph_setR]; exact r32
        · simp [ph_R, ph_setR]; exact r1042
        · simp [ph_R, ph_setR]; exact r1043
        · simp [ph_R, ph_setR]
        · simp [ph_R, ph_setR]
        · simp [ph_R, ph_setR]; exact r1046
        · simp [ph_R, ph_setR]; exact r1047
        · obtain ⟨y1, y2, y3, y4⟩ := hfs
          have n1 : ¬ fc = 104 := by omega
          exact ⟨y1, y2, by simp [ph_R, ph_setR, n1]; exact y3, by simp [ph_R, ph_setR, n1]; exact y4⟩
      · refine ⟨hF.1, hF.2.1, hF.2.2.1, fun c k hck => ?_, hF.2.2.2.2⟩
        have := hF.R c k
        rw [← this]
        by_cases q : c = 104
        · subst q
          have k4 : ¬ k = 4 := by omega
          have k5 : ¬ k = 5 := by omega
          simp [ph_R, ph_setR, k4, k5]
        · simp [ph_R, ph_setR, q]
    | succ m ih =>
      intro i h1 hw hlw hF hin hout
      have ut2 : ph_T h1 104 = 2 := by rw [hF.T]; exact t104
      have ut3 : ph_T h1 ra = 8 := by rw [hF.T]; exact tra
      have ul3 : ph_L h1 ra = 525 := by rw [hF.L]; exact lra
      have ut4 : ph_T h1 sb = 8 := by rw [hF.T]; exact tsb
      have ul4 : ph_L h1 sb = 525 := by rw [hF.L]; exact lsb
      have ur : ph_R h1 104 4 = ra := by rw [hF.R]; exact r1044
      have ur5 : ph_R h1 104 5 = sb := by rw [hF.R]; exact r1045
      have ucc : ∀ j, ph_I h1 ra j = ph_I h ra j := fun j => hF.I (by omega) j
      have v0 := hv (Int.toNat i) (by omega)
      have v1 := hv (Int.toNat (i - 7)) (by omega)
      have v2 := hv (Int.toNat (i + 7)) (by omega)
      have w92 : ∀ v : Int, T3 (ph_I h ra (Int.toNat i)) (ph_I h ra (Int.toNat (i - 7))) (ph_I h ra (Int.toNat (i + 7))) v → PW G X 6 (pw_E G X (pqTurn h st d p mc fc ra sb lo hi) 0 0) 0 0 92 [some (.inr 104), some (.inl lo), some (.inl hi), some (.inl ((hi + 2) * 7)), some (.inl i), some (.inl v)] [] h1 := by
        intro v hx
        refine B_X2_turn_92 C (r2 := sb) (kk := ?_)
        exact ih (i + 1) (ph_setI h1 sb (Int.toNat i) v) (by omega) (by omega) (hF.set rfl _ _) (fun j a b => by
          by_cases q : j = i
          · rw [q, sI_eq]; exact hx
          · rw [sI_k (by omega)]; exact hin j a (by omega)) (fun j hj => by rw [sI_k (by omega)]; exact hout j hj)
      have w61 : ∀ v : Int, ph_I h ra (Int.toNat i) ≤ v → ph_I h ra (Int.toNat (i - 7)) - 1 ≤ v → (v = ph_I h ra (Int.toNat i) ∨ v = ph_I h ra (Int.toNat (i - 7)) - 1) → PW G X 6 (pw_E G X (pqTurn h st d p mc fc ra sb lo hi) 0 0) 0 0 61 [some (.inr 104), some (.inl lo), some (.inl hi), some (.inl ((hi + 2) * 7)), some (.inl i), some (.inl v)] [] h1 := by
        intro v x1 x2 x3
        refine B_X2_turn_61 C (r2 := ra) (x8 := ph_I h ra (Int.toNat (i + 7))) (e9 := ucc _) (q11 := by unfold pR; omega) (kt := fun c3 => ?_) (kf := fun c3 => ?_)
        · exact w92 v ⟨x1, x2, c3, by omega⟩
        · refine B_X2_turn_78 C (r2 := ra) (x8 := ph_I h ra (Int.toNat (i + 7))) (e9 := ucc _) (kk := ?_)
          exact w92 _ ⟨by omega, by omega, by omega, by omega⟩
      refine B_X2_turn_15 C (kt := fun c2 => by omega) (kf := fun c2 => ?_)
      refine B_X2_turn_21 C (r2 := ra) (r11 := ra) (x8 := ph_I h ra (Int.toNat i)) (e9 := ucc _) (x17 := ph_I h ra (Int.toNat (i - 7))) (e18 := ucc _) (kt := fun c3 => ?_) (kf := fun c3 => ?_)
      · exact w61 _ (Int.le_refl _) c3 (Or.inl rfl)
      · refine B_X2_turn_47 C (r2 := ra) (x8 := ph_I h ra (Int.toNat (i - 7))) (e9 := ucc _) (kk := ?_)
        exact w61 _ (by omega) (Int.le_refl _) (Or.inr rfl)
  refine B_X2_turn_0 C (kk := ?_)
  exact lp (Int.toNat ((hi + 2) * 7 - (lo + 1) * 7)) ((lo + 1) * 7) h (by omega) (Int.le_refl _) (Fr.rf _ h) (fun j a b => by omega) (fun j hj => rfl)
/-- the most by one tick's move -/
def Rch (c : Int → Int → Int) (lo hi lim n : Int) (u : Int → Int → Int) : Prop := ∀ w hh : Int, 0 ≤ w → w ≤ 2 * lim → 0 ≤ hh → hh ≤ 6 → -1000000 ≤ u w hh ∧ (∀ w' h' : Int, lo ≤ w' → w' ≤ hi → 0 ≤ h' → h' ≤ 6 → zabs (w' - w) ≤ n → zabs (h' - hh) ≤ 1 → c w' h' - zabs (w' - w) - zabs (h' - hh) ≤ u w hh) ∧ (u w hh = -1000000 ∨ ∃ w' h' : Int, lo ≤ w' ∧ w' ≤ hi ∧ 0 ≤ h' ∧ h' ≤ 6 ∧ zabs (w' - w) ≤ n ∧ zabs (h' - hh) ≤ 1 ∧ u w hh = c w' h' - zabs (w' - w) - zabs (h' - hh))
theorem Rch_0 {c u : Int → Int → Int} {lo hi lim : Int} (hc : ∀ w hh : Int, lo ≤ w → w ≤ hi → 0 ≤ hh → hh ≤ 6 → -1000000 ≤ c w hh) (hin : ∀ w hh : Int, lo ≤ w → w ≤ hi → 0 ≤ hh → hh ≤ 6 → c w hh ≤ u w hh ∧ (0 < hh → c w (hh - 1) - 1 ≤ u w hh) ∧ (hh < 6 → c w (hh + 1) - 1 ≤ u w hh) ∧ (u w hh = c w hh ∨ (0 < hh ∧ u w hh = c w (hh - 1) - 1) ∨ (hh < 6 ∧ u w hh = c w (hh + 1) - 1))) (hout : ∀ w hh : Int, 0 ≤ w → w ≤ 2 * lim → 0 ≤ hh → hh ≤ 6 → ¬ (lo ≤ w ∧ w ≤ hi) → u w hh = -1000000) : Rch c lo hi lim 0 u := by
  intro w hh w0 w1 h0 h1
  by_cases q : lo ≤ w ∧ w ≤ hi
  · have hi1 := hin w hh q.1 q.2 h0 h1
    have hcc := hc w hh q.1 q.2 h0 h1
    refine ⟨by omega, fun w' h' a1 a2 a3 a4 a5 a6 => ?_, ?_⟩
    · have e : w' = w := by unfold zabs at a5; split at a5 <;> omega
      subst e
      have z0 : zabs (w' - w') = 0 := by unfold zabs; split <;> omega
      have hz : h' = hh ∨ h' = hh - 1 ∨ h' = hh + 1 := by unfold zabs at a6; split at a6 <;> omega
      rcases hz with rfl | rfl | rfl
      · have : zabs (h' - h') = 0 := by unfold zabs; split <;> omega
        omega
      · have : zabs (hh - 1 - hh) = 1 := by unfold zabs; split <;> omega
        have := hi1.2.1 (by omega)
        omega
      · have : zabs (hh + 1 - hh) = 1 := by unfold zabs; split <;> omega
        have := hi1.2.2.1 (by omega)
        omega
    · have z0 : zabs (w - w) = 0 := by unfold zabs; split <;> omega
      rcases hi1.2.2.2 with e | ⟨e0, e⟩ | ⟨e0, e⟩
      · have : zabs (hh - hh) = 0 := by unfold zabs; split <;> omega
        exact Or.inr ⟨w, hh, q.1, q.2, h0, h1, by omega, by omega, by omega⟩
      · have : zabs (hh - 1 - hh) = 1 := by unfold zabs; split <;> omega
        exact Or.inr ⟨w, hh - 1, q.1, q.2, by omega, by omega, by omega, by omega, by omega⟩
      · have : zabs (hh + 1 - hh) = 1 := by unfold zabs; split <;> omega
        exact Or.inr ⟨w, hh + 1, q.1, q.2, by omega, by omega, by omega, by omega, by omega⟩
  · have e := hout w hh w0 w1 h0 h1 q
    refine ⟨by omega, fun w' h' a1 a2 a3 a4 a5 a6 => ?_, Or.inl e⟩
    exfalso
    have : w' = w := by unfold zabs at a5; split at a5 <;> omega
    subst this
    exact q ⟨a1, a2⟩
theorem Rch_s {c u u' : Int → Int → Int} {lo hi lim n lon hin : Int} (n0 : 0 ≤ n) (hlo : 0 ≤ lo ∧ hi ≤ 2 * lim) (hR : Rch c lo hi lim n u) (hl : lon = 0 ∨ lon ≤ lo - (n + 1)) (hh : hin = 2 * lim ∨ hi + (n + 1) ≤ hin) (hb : ∀ k : Int, 0 ≤ k → k ≤ 6 → u (-1) k = -1000000 ∧ u (2 * lim + 1) k = -1000000)
    (hi1 : ∀ w k : Int, lon ≤ w → w ≤ hin → 0 ≤ w → w ≤ 2 * lim → 0 ≤ k → k ≤ 6 → T3 (u w k) (u (w - 1) k) (u (w + 1) k) (u' w k)) (ho : ∀ w k : Int, 0 ≤ w → w ≤ 2 * lim → 0 ≤ k → k ≤ 6 → ¬ (lon ≤ w ∧ w ≤ hin) → u' w k = -1000000) : Rch c lo hi lim (n + 1) u' := by
  intro w k w0 w1 k0 k1
  by_cases q : lon ≤ w ∧ w ≤ hin
  · obtain ⟨t1, t2, t3, t4⟩ := hi1 w k q.1 q.2 w0 w1 k0 k1
    obtain ⟨a1, a2, a3⟩ := hR w k w0 w1 k0 k1
    refine ⟨by omega, fun w' h' x1 x2 x3 x4 x5 x6 => ?_, ?_⟩
    · by_cases z : zabs (w' - w) ≤ n
      · have := a2 w' h' x1 x2 x3 x4 z x6
        omega
      · by_cases s : w' < w
        · have := (hR (w - 1) k (by omega) (by omega) k0 k1).2.1 w' h' x1 x2 x3 x4 (by unfold zabs at x5 z ⊢; split at x5 <;> split <;> omega) x6
          have e : zabs (w' - (w - 1)) = zabs (w' - w) - 1 := by unfold zabs; split <;> split <;> omega
          omega
        · have hne : w' ≠ w := fun e => z (by rw [e]; unfold zabs; split <;> omega)
          have := (hR (w + 1) k (by omega) (by omega) k0 k1).2.1 w' h' x1 x2 x3 x4 (by unfold zabs at x5 z ⊢; split at x5 <;> split <;> omega) x6
          have e : zabs (w' - (w + 1)) = zabs (w' - w) - 1 := by unfold zabs; split <;> split <;> omega
          omega
    · rcases t4 with e | e | e
      · rcases a3 with y | ⟨w', h', y1, y2, y3, y4, y5, y6, y7⟩
        · left; omega
        · exact Or.inr ⟨w', h', y1, y2, y3, y4, by omega, y6, by omega⟩
      · by_cases s : 0 < w
        · rcases (hR (w - 1) k (by omega) (by omega) k0 k1).2.2 with y | ⟨w', h', y1, y2, y3, y4, y5, y6, y7⟩
          · omega
          · by_cases s2 : w' < w
            · have e2 : zabs (w' - (w - 1)) = zabs (w' - w) - 1 := by unfold zabs; split <;> split <;> omega
              exact Or.inr ⟨w', h', y1, y2, y3, y4, by omega, y6, by omega⟩
            · have e2 : zabs (w' - (w - 1)) = zabs (w' - w) + 1 := by unfold zabs; split <;> split <;> omega
              have := a2 w' h' y1 y2 y3 y4 (by omega) y6
              omega
        · have e0 : w = 0 := by omega
          subst e0
          have := (hb k k0 k1).1
          have e5 : (0 : Int) - 1 = -1 := rfl
          rw [e5] at e
          omega
      · by_cases s : w < 2 * lim
        · rcases (hR (w + 1) k (by omega) (by omega) k0 k1).2.2 with y | ⟨w', h', y1, y2, y3, y4, y5, y6, y7⟩
          · omega
          · by_cases s2 : w < w'
            · have e2 : zabs (w' - (w + 1)) = zabs (w' - w) - 1 := by unfold zabs; split <;> split <;> omega
              exact Or.inr ⟨w', h', y1, y2, y3, y4, by omega, y6, by omega⟩
            · have e2 : zabs (w' - (w + 1)) = zabs (w' - w) + 1 := by unfold zabs; split <;> split <;> omega
              have := a2 w' h' y1 y2 y3 y4 (by omega) y6
              omega
        · have e0 : w = 2 * lim := by omega
          subst e0
          have := (hb k k0 k1).2
          omega
  · have e := ho w k w0 w1 k0 k1 q
    refine ⟨by omega, fun w' h' x1 x2 x3 x4 x5 x6 => ?_, Or.inl e⟩
    exfalso
    unfold zabs at x5
    split at x5 <;> omega
def uOf (h : PH) (ra : Nat) : Int → Int → Int := fun w hh => ph_I h ra (Int.toNat ((w + 1) * 7 + hh))
def cOf (h : PH) (cc : Nat) (s : Int) : Int → Int → Int := fun w hh => ph_I h cc (Int.toNat (s + w * 7 + hh))
def pqRch (h : PH) (st : ST) (d p : Int) (mc fc : Nat) (cc : Nat) (s r : Int) : Option PV → PH → Prop := fun rr h' => rr = none ∧ ∃ ra sb, SC h' st d p mc fc ra sb ∧ SFr (fun c => c = 108 ∨ c = 109) h h' ∧ Rch (cOf h cc s) (loW st d r) (hiW st d r) (st (Int.toNat (308 + d))) (st (Int.toNat (312 + d))) (uOf h' ra) ∧ ∀ j : Nat, j < 525 → -1000000 ≤ ph_I h' ra j ∧ ph_I h' ra j ≤ 1000000
