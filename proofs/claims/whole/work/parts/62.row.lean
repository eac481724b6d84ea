/-! the search: fill, gains added, a row entered, tilt, turn -/
theorem ct_J7_fill (G : Gx) (l : Launch) (h : PH) {cc : Nat} {v : Int} (t : ph_T h cc = 8) (hl : ph_L h cc ≤ 100000) : CT_J7_fill_53178 G l [.inr cc, .inl v] h (fun r h' => r = none ∧ Fr (fun c => c = cc) h h' ∧ ∀ j, j < ph_L h cc → ph_I h' cc j = v) := by
  refine ct_intro rfl (Nat.le_of_ble_eq_true rfl) (fun X hX C => ?_)
  have lp : ∀ (m k : Nat) (h1 : PH), k + m = ph_L h cc → Fr (fun c => c = cc) h h1 → (∀ j, j < k → ph_I h1 cc j = v) → PW G X 4 (pw_E G X (fun r h' => r = none ∧ Fr (fun c => c = cc) h h' ∧ ∀ j, j < ph_L h cc → ph_I h' cc j = v) 0 0) 0 0 5 [some (.inr cc), some (.inl v), some (.inl k), some (.inl (ph_L h cc : Int))] [] h1 := by
    intro m
    induction m with
    | zero =>
      intro k h1 hk hF hv
      refine B_J7_fill_53178_5 C (kt := fun c1 => ?_) (kf := fun c1 => by omega)
      exact B_J7_fill_53178_20 C (hq := ⟨rfl, hF, fun j hj => hv j (by omega)⟩)
    | succ m ih =>
      intro k h1 hk hF hv
      have t1 := hF.T cc
      have l1 := hF.L cc
      rw [t] at t1
      refine B_J7_fill_53178_5 C (kt := fun c1 => by omega) (kf := fun c1 => ?_)
      refine B_J7_fill_53178_10 C (kk := ?_)
      have nx := ih (k + 1) (ph_setI h1 cc k v) (by omega) (hF.set rfl _ _) (fun j hj => by
        by_cases q : j = k
        · rw [q, sI_eq]
        · rw [sI_k q]; exact hv j (by omega))
      have e1 : ((k + 1 : Nat) : Int) = (k : Int) + 1 := by omega
      have e2 : Int.toNat (k : Int) = k := by omega
      rw [e1] at nx
      rw [e2]
      exact nx
  refine B_J7_fill_53178_0 C (kk := ?_)
  exact lp (ph_L h cc) 0 h (by omega) (Fr.rf _ h) (fun j hj => by omega)
def pqAdd (h : PH) (st : ST) (d r : Int) (cc : Nat) (s gs gh : Int) : Option PV → PH → Prop := fun rr h' => rr = none ∧ Fr (fun c => c = cc) h h' ∧ (∀ w hh : Int, loW st d r ≤ w → w ≤ hiW st d r → 0 ≤ hh → hh ≤ 6 → ph_I h' cc (Int.toNat (s + w * 7 + hh)) = if ph_I h cc (Int.toNat (s + w * 7 + hh)) < -500000 then ph_I h cc (Int.toNat (s + w * 7 + hh)) else ph_I h cc (Int.toNat (s + w * 7 + hh)) + (if hh = gh ∧ (w - st (Int.toNat (308 + d)) + 48) % 24 = gs then 1024 else 0)) ∧ ∀ j : Nat, ((j : Int) < s + loW st d r * 7 ∨ s + hiW st d r * 7 + 6 < (j : Int)) → ph_I h' cc j = ph_I h cc j
theorem ct_X2_addGain (G : Gx) (l : Launch) (h : PH) {st : ST} {d p : Int} {mc fc ra sb : Nat} (hC : SC h st d p mc fc ra sb) {r s : Int} {cc : Nat} (r0 : 0 ≤ r ∧ r ≤ 80) (tcc : ph_T h cc = 8) (hcc : cc = 106 ∨ cc = 107) (s0 : 0 ≤ s ∧ s ≤ 40000) (hL : s + hiW st d r * 7 + 6 < (ph_L h cc : Int)) {gs gh : Int} (e9 : ph_I h 104 9 = gs) (e10 : ph_I h 104 10 = gh) (hg : (gs = -6 ∧ gh = -6) ∨ ((0 ≤ gs ∧ gs ≤ 23) ∧ (0 ≤ gh ∧ gh ≤ 6))) (hv : ∀ w hh : Int, loW st d r ≤ w → w ≤ hiW st d r → 0 ≤ hh → hh ≤ 6 → -1000000 ≤ ph_I h cc (Int.toNat (s + w * 7 + hh)) ∧ ph_I h cc (Int.toNat (s + w * 7 + hh)) ≤ 1000000) : CT_X2_addGain G l [.inr 104, .inr cc, .inl s, .inl r] h (pqAdd h st d r cc s gs gh) := by
  obtain ⟨⟨t104, t3, t6, t106, t107, tra, tsb, tmc⟩, ⟨l106, l107, lra, lsb⟩, ⟨r1040, r32, r1042, r1043, r1044, r1045, r1046, r1047⟩, hra, hfs, ⟨b1, b2, b3⟩, hFR, hMR, hSR, hS, h2, d0, p0⟩ := id hC
  obtain ⟨hs, hb, hmany, hD, hPp⟩ := id hS
  obtain ⟨g1, g2, g3, g4, g5⟩ := hD d d0.1 d0.2
  obtain ⟨g6, g7⟩ := hPp p p0.1 p0.2
  obtain ⟨⟨ft0, ft1, ft2⟩, ⟨fl1, fl2⟩, fr0, fr1⟩ := id hfs
  obtain ⟨⟨f2, f3, f4, f5, f6⟩, fpt⟩ := id hFR
  obtain ⟨m0, m1, m2, m3, m4⟩ := id hMR
  have gw : -st (Int.toNat (308 + d)) ≤ st (Int.toNat (296 + d)) ∧ st (Int.toNat (296 + d)) ≤ st (Int.toNat (308 + d)) := by have := g4; unfold zabs at this; split at this <;> omega
  refine ct_intro rfl (Nat.le_of_ble_eq_true rfl) (fun X hX C => ?_)
  have hlb := loW_b (hD d d0.1 d0.2) r0.1
  refine B_X2_addGain_0 C (hM := ct_X6_isHeight _ _ _) (kk := fun rr h' hq => ?_)
  obtain ⟨rfl, ⟨rfl, c1⟩ | ⟨rfl, c1⟩⟩ := hq
  · refine B_X2_addGain_7 C (kt := fun c => ?_) (kf := fun c => absurd c (by decide))
    refine B_X2_addGain_11 C (hM := ct_X2_highWind _ _ _ hC r0) (kk := fun rr h' hq => ?_)
    obtain ⟨rfl, rfl⟩ := hq
    refine B_X2_addGain_16 C (hM := ct_X2_lowWind _ _ _ hC r0) (kk := fun rr h' hq => ?_)
    obtain ⟨rfl, rfl⟩ := hq
    refine B_X2_addGain_23 C (kk := ?_)
    have lp : ∀ (m : Nat) (w : Int) (h1 : PH), w + m = hiW st d r + 1 → loW st d r ≤ w → Fr (fun c => c = cc) h h1 → (∀ w' hh : Int, loW st d r ≤ w' → w' ≤ hiW st d r → 0 ≤ hh → hh ≤ 6 → (w ≤ w' → ph_I h1 cc (Int.toNat (s + w' * 7 + hh)) = ph_I h cc (Int.toNat (s + w' * 7 + hh))) ∧ (w' < w → ph_I h1 cc (Int.toNat (s + w' * 7 + hh)) = if ph_I h cc (Int.toNat (s + w' * 7 + hh)) < -500000 then ph_I h cc (Int.toNat (s + w' * 7 + hh)) else ph_I h cc (Int.toNat (s + w' * 7 + hh)) + (if hh = gh ∧ (w' - st (Int.toNat (308 + d)) + 48) % 24 = gs then 1024 else 0))) → (∀ j : Nat, ((j : Int) < s + loW st d r * 7 ∨ s + hiW st d r * 7 + 6 < (j : Int)) → ph_I h1 cc j = ph_I h cc j) → PW G X 7 (pw_E G X (pqAdd h st d r cc s gs gh) 0 0) 0 0 25 [some (.inr 104), some (.inr cc), some (.inl s), some (.inl r), some (.inl (hiW st d r)), some (.inl w), none] [] h1 := by
      intro m
      induction m with
      | zero =>
        intro w h1 hw hlw hF hin hout
        refine B_X2_addGain_25 C (kt := fun c2 => ?_) (kf := fun c2 => by omega)
        exact B_X2_addGain_79 C (hq := ⟨rfl, hF, fun w' hh a b c e => (hin w' hh a b c e).2 (by omega), hout⟩)
      | succ m ih =>
        intro w h1 hw hlw hF hin hout
        have hC1 := hC.fr hF (fun c hc => by omega)
        have u9 : ph_I h1 104 9 = gs := by rw [hF.I (by omega)]; exact e9
        have u10 : ph_I h1 104 10 = gh := by rw [hF.I (by omega)]; exact e10
        have ut : ph_T h1 cc = 8 := by rw [hF.T]; exact tcc
        have u104 : ph_T h1 104 = 2 := by rw [hF.T]; exact t104
        have ul : (ph_L h1 cc : Int) = ph_L h cc := by rw [hF.L]
        have hvw := hv w gh hlw (by omega) c1.1 c1.2
        have e0 := (hin w gh hlw (by omega) c1.1 c1.2).1 (Int.le_refl _)
        refine B_X2_addGain_25 C (kt := fun c2 => by omega) (kf := fun c2 => ?_)
        refine B_X2_addGain_32 C (x2 := gh) (e3 := u10) (x8 := ph_I h cc (Int.toNat (s + w * 7 + gh))) (e9 := e0) (hM := ct_X2_isDead _ _ _) (kk := fun rr h' hq => ?_)
        have fin : ∀ v : Int, (v = if ph_I h cc (Int.toNat (s + w * 7 + gh)) < -500000 then ph_I h cc (Int.toNat (s + w * 7 + gh)) else ph_I h cc (Int.toNat (s + w * 7 + gh)) + (if gh = gh ∧ (w - st (Int.toNat (308 + d)) + 48) % 24 = gs then 1024 else 0)) → ∀ hx, Fr (fun c => c = cc) h1 hx → (ph_I hx cc (Int.toNat (s + w * 7 + gh)) = v) → (∀ j, j ≠ Int.toNat (s + w * 7 + gh) → ph_I hx cc j = ph_I h1 cc j) → PW G X 7 (pw_E G X (pqAdd h st d r cc s gs gh) 0 0) 0 0 73 [some (.inr 104), some (.inr cc), some (.inl s), some (.inl r), some (.inl (hiW st d r)), some (.inl w), some (.inl (s + w * 7 + gh))] [] hx := by
          intro v hvv hx hFx hx1 hx2
          refine B_X2_addGain_73 C (kk := ?_)
          refine ih (w + 1) hx (by omega) (by omega) (hF.tr hFx) (fun w' hh a b c e => ⟨fun z => ?_, fun z => ?_⟩) (fun j hj => ?_)
          · rw [hx2 _ (by omega)]; exact (hin w' hh a b c e).1 (by omega)
          · by_cases q : w' = w
            · subst q
              by_cases q2 : hh = gh
              · subst q2; rw [hx1, hvv]
              · rw [hx2 _ (by omega), (hin w' hh a b c e).1 (Int.le_refl _), if_neg (fun zz : hh = gh ∧ _ => q2 zz.1)]
                split <;> omega
            · rw [hx2 _ (by omega)]; exact (hin w' hh a b c e).2 (by omega)
          · rw [hx2 _ (by omega)]; exact hout j hj
        obtain ⟨rfl, ⟨rfl, c3⟩ | ⟨rfl, c3⟩⟩ := hq
        · refine B_X2_addGain_53 C (kt := fun c => ?_) (kf := fun c => absurd c (by decide))
          exact fin _ rfl h1 (Fr.rf _ h1) (by rw [e0, if_pos c3]) (fun j hj => rfl)
        · refine B_X2_addGain_53 C (kt := fun c => absurd rfl c) (kf := fun c => ?_)
          refine B_X2_addGain_56 C (x5 := ph_I h cc (Int.toNat (s + w * 7 + gh))) (e6 := e0) (x8 := gh) (e9 := u10) (hM := ct_X2_gain _ _ _ hC1 (by omega) c1 u9 u10 (by omega) (by omega)) (kk := fun rr h' hq => ?_)
          obtain ⟨rfl, rfl⟩ := hq
          refine B_X2_addGain_71 C (kk := ?_)
          exact fin _ rfl _ ((Fr.rf (fun c => c = cc) h1).set rfl _ _) (by rw [sI_eq, if_neg c3]) (fun j hj => by rw [sI_k hj])
    exact lp (Int.toNat (hiW st d r + 1 - loW st d r)) (loW st d r) h (by omega) (Int.le_refl _) (Fr.rf _ h) (fun w' hh a b c e => ⟨fun _ => rfl, fun z => by omega⟩) (fun j hj => rfl)
  · refine B_X2_addGain_7 C (kt := fun c => absurd rfl c) (kf := fun c => ?_)
    refine B_X2_addGain_10 C (hq := ⟨rfl, Fr.rf _ h, fun w hh a b c e => ?_, fun j hj => rfl⟩)
    rw [if_neg (fun zz : hh = gh ∧ _ => by omega)]
    split <;> omega
def shutP (st : ST) (d r w hh : Int) : Prop := (r = 0 ∧ hh ≠ st (Int.toNat (300 + d))) ∨ (0 < r ∧ ¬ sM st (st (Int.toNat (304 + d)) + r) (w - st (Int.toNat (308 + d))) hh = true)
theorem sM_iff (st : ST) (t w hh : Int) : sM st t w hh = true ↔ (¬ (0 ≤ st 489 ∧ (st 489 ≤ t ∧ t ≤ st 490)) ∨ hh = 6) ∧ ¬ (sSun st ((w + 48) % 24) t = true ∧ zabs (hh - st 487) ≤ st 488) := by
  unfold sM
  rw [sB_e]
  simp only [Bool.and_eq_true, Bool.or_eq_true, Bool.not_eq_true', decide_eq_true_eq, Bool.and_eq_false_iff, decide_eq_false_iff_not, Bool.not_eq_true]
  constructor
  · intro z
    obtain ⟨z1, z2⟩ := z
    refine ⟨?_, ?_⟩
    · rcases z1 with z1 | z1
      · left; omega
      · right; exact z1
    · intro q
      rcases z2 with z2 | z2
      · rw [q.1] at z2; exact absurd z2 (by decide)
      · exact z2 q.2
  · intro z
    obtain ⟨z1, z2⟩ := z
    refine ⟨?_, ?_⟩
    · rcases z1 with z1 | z1
      · left; omega
      · right; exact z1
    · by_cases q : sSun st ((w + 48) % 24) t = true
      · right; exact fun zz => z2 ⟨q, zz⟩
      · left; simpa using q
def eVP (h : PH) (st : ST) (d r : Int) (ra : Nat) (w hh x : Int) : Prop := (shutP st d r w hh → x = -1000000) ∧ (¬ shutP st d r w hh → x = ph_I h ra (Int.toNat ((w + 1) * 7 + hh)))
def pqEnt (h : PH) (st : ST) (d r : Int) (cc ra : Nat) (s : Int) : Option PV → PH → Prop := fun rr h' => rr = none ∧ Fr (fun c => c = cc) h h' ∧ (∀ w hh : Int, loW st d r ≤ w → w ≤ hiW st d r → 0 ≤ hh → hh ≤ 6 → eVP h st d r ra w hh (ph_I h' cc (Int.toNat (s + w * 7 + hh)))) ∧ ∀ j : Nat, ((j : Int) < s + loW st d r * 7 ∨ s + hiW st d r * 7 + 6 < (j : Int)) → ph_I h' cc j = ph_I h cc j
theorem ct_X2_enterRow (G : Gx) (l : Launch) (h : PH) {st : ST} {d p : Int} {mc fc ra sb : Nat} (hC : SC h st d p mc fc ra sb) {r s : Int} {cc : Nat} (r0 : 0 ≤ r ∧ r ≤ 80) (tcc : ph_T h cc = 8) (hcc : cc = 106 ∨ cc = 107) (s0 : 0 ≤ s ∧ s ≤ 40000) (hL : s + hiW st d r * 7 + 6 < (ph_L h cc : Int)) : CT_X2_enterRow G l [.inr 104, .inr cc, .inl s, .inl r] h (pqEnt h st d r cc ra s) := by
  obtain ⟨⟨t104, t3, t6, t106, t107, tra, tsb, tmc⟩, ⟨l106, l107, lra, lsb⟩, ⟨r1040, r32, r1042, r1043, r1044, r1045, r1046, r1047⟩, hra, hfs, ⟨b1, b2, b3⟩, hFR, hMR, hSR, hS, h2, d0, p0⟩ := id hC
  obtain ⟨hs, hb, hmany, hD, hPp⟩ := id hS
  obtain ⟨g1, g2, g3, g4, g5⟩ := hD d d0.1 d0.2
  obtain ⟨g6, g7⟩ := hPp p p0.1 p0.2
  obtain ⟨⟨ft0, ft1, ft2⟩, ⟨fl1, fl2⟩, fr0, fr1⟩ := id hfs
  obtain ⟨⟨f2, f3, f4, f5, f6⟩, fpt⟩ := id hFR
  obtain ⟨m0, m1, m2, m3, m4⟩ := id hMR
  have gw : -st (Int.toNat (308 + d)) ≤ st (Int.toNat (296 + d)) ∧ st (Int.toNat (296 + d)) ≤ st (Int.toNat (308 + d)) := by have := g4; unfold zabs at this; split at this <;> omega
  refine ct_intro rfl (Nat.le_of_ble_eq_true rfl) (fun X hX C => ?_)
  have hlb := loW_b (hD d d0.1 d0.2) r0.1
  have main : ∀ fstm : Int, ((fstm = 1 ∧ 0 < r ∧ (0 ≤ st 489 ∧ (st 489 ≤ st (Int.toNat (304 + d)) + r ∧ st (Int.toNat (304 + d)) + r ≤ st 490))) ∨ (fstm = 0 ∧ ¬ (0 < r ∧ (0 ≤ st 489 ∧ (st 489 ≤ st (Int.toNat (304 + d)) + r ∧ st (Int.toNat (304 + d)) + r ≤ st 490))))) → PW G X 13 (pw_E G X (pqEnt h st d r cc ra s) 0 0) 0 0 35 [some (.inr 104), some (.inr cc), some (.inl s), some (.inl r), some (.inl (st (Int.toNat (304 + d)) + r)), none, none, none, none, none, none, none, none] [.inl fstm] h := by
    intro fstm hfstm
    refine B_X2_enterRow_35 C (hM := ct_X2_highWind _ _ _ hC r0) (kk := fun rr h' hq => ?_)
    obtain ⟨rfl, rfl⟩ := hq
    refine B_X2_enterRow_42 C (hM := ct_X2_lowWind _ _ _ hC r0) (kk := fun rr h' hq => ?_)
    obtain ⟨rfl, rfl⟩ := hq
    refine B_X2_enterRow_49 C (kk := ?_)
    have lp : ∀ (m : Nat) (w : Int) (h1 : PH), w + m = hiW st d r + 1 → loW st d r ≤ w → Fr (fun c => c = cc) h h1 → (∀ w' hh : Int, loW st d r ≤ w' → w' ≤ hiW st d r → 0 ≤ hh → hh ≤ 6 → w' < w → eVP h st d r ra w' hh (ph_I h1 cc (Int.toNat (s + w' * 7 + hh)))) → (∀ j : Nat, ((j : Int) < s + loW st d r * 7 ∨ s + hiW st d r * 7 + 6 < (j : Int)) → ph_I h1 cc j = ph_I h cc j) → PW G X 13 (pw_E G X (pqEnt h st d r cc ra s) 0 0) 0 0 51 [some (.inr 104), some (.inr cc), some (.inl s), some (.inl r), some (.inl (st (Int.toNat (304 + d)) + r)), some (.inl fstm), some (.inl (hiW st d r)), some (.inl w), none, none, none, none, none] [] h1 := by
      intro m
      induction m with
      | zero =>
        intro w h1 hw hlw hF hin hout
        refine B_X2_enterRow_51 C (kt := fun c2 => ?_) (kf := fun c2 => by omega)
        exact B_X2_enterRow_219 C (hq := ⟨rfl, hF, fun w' hh a b c e => hin w' hh a b c e (by omega), hout⟩)
      | succ m ih =>
        intro w h1 hw hlw hF hin hout
        have hC1 := hC.fr hF (fun c hc => by omega)
        have in95 : ∀ fsun : Int, ((fsun = 1 ∧ 0 < r ∧ sSun st ((w - st (Int.toNat (308 + d)) + 48) % 24) (st (Int.toNat (304 + d)) + r) = true) ∨ (fsun = 0 ∧ ¬ (0 < r ∧ sSun st ((w - st (Int.toNat (308 + d)) + 48) % 24) (st (Int.toNat (304 + d)) + r) = true))) → PW G X 13 (pw_E G X (pqEnt h st d r cc ra s) 0 0) 0 0 95 [some (.inr 104), some (.inr cc), some (.inl s), some (.inl r), some (.inl (st (Int.toNat (304 + d)) + r)), some (.inl fstm), some (.inl (hiW st d r)), some (.inl w), none, none, none, none, none] [.inl fsun] h1 := by
          intro fsun hfsun
          refine B_X2_enterRow_95 C (kk := ?_)
          have lp2 : ∀ (u k : Nat) (h1 : PH), k + u = 7 → Fr (fun c => c = cc) h h1 → (∀ w' hh : Int, loW st d r ≤ w' → w' ≤ hiW st d r → 0 ≤ hh → hh ≤ 6 → (w' < w ∨ (w' = w ∧ hh < k)) → eVP h st d r ra w' hh (ph_I h1 cc (Int.toNat (s + w' * 7 + hh)))) → (∀ j : Nat, ((j : Int) < s + loW st d r * 7 ∨ s + hiW st d r * 7 + 6 < (j : Int)) → ph_I h1 cc j = ph_I h cc j) → PW G X 13 (pw_E G X (pqEnt h st d r cc ra s) 0 0) 0 0 118 [some (.inr 104), some (.inr cc), some (.inl s), some (.inl r), some (.inl (st (Int.toNat (304 + d)) + r)), some (.inl fstm), some (.inl (hiW st d r)), some (.inl w), some (.inl fsun), some (.inl ((w + 1) * 7)), some (.inl (s + w * 7)), some (.inl (k : Int)), none] [] h1 := by
            intro u
            induction u with
            | zero =>
              intro k h1 hk hF hin hout
              refine B_X2_enterRow_118 C (kt := fun c => ?_) (kf := fun c => by omega)
              refine B_X2_enterRow_213 C (kk := ?_)
              exact ih (w + 1) h1 (by omega) (by omega) hF (fun w' hh a b c e z => hin w' hh a b c e (by omega)) hout
            | succ u ihu =>
              intro k h1 hk hF hin hout
              have hC1 := hC.fr hF (fun c hc => by omega)
              obtain ⟨⟨t104, t3, t6, t106, t107, tra, tsb, tmc⟩, ⟨l106, l107, lra, lsb⟩, ⟨r1040, r32, r1042, r1043, r1044, r1045, r1046, r1047⟩, hra, hfs, ⟨b1, b2, b3⟩, hFR, hMR, hSR, hS, h2, d0, p0⟩ := id hC1
              obtain ⟨hs, hb, hmany, hD, hPp⟩ := id hS
              obtain ⟨g1, g2, g3, g4, g5⟩ := hD d d0.1 d0.2
              obtain ⟨g6, g7⟩ := hPp p p0.1 p0.2
              obtain ⟨⟨ft0, ft1, ft2⟩, ⟨fl1, fl2⟩, fr0, fr1⟩ := id hfs
              obtain ⟨⟨f2, f3, f4, f5, f6⟩, fpt⟩ := id hFR
              obtain ⟨m0, m1, m2, m3, m4⟩ := id hMR
              have gw : -st (Int.toNat (308 + d)) ≤ st (Int.toNat (296 + d)) ∧ st (Int.toNat (296 + d)) ≤ st (Int.toNat (308 + d)) := by have := g4; unfold zabs at this; split at this <;> omega
              have ut : ph_T h1 cc = 8 := by rw [hF.T]; exact tcc
              have ul : (ph_L h1 cc : Int) = ph_L h cc := by rw [hF.L]
              have ura : ∀ j, ph_I h1 ra j = ph_I h ra j := fun j => hF.I (by omega) j
              have w206 : ∀ x a12 : Int, eVP h st d r ra w k x → PW G X 13 (pw_E G X (pqEnt h st d r cc ra s) 0 0) 0 0 206 [some (.inr 104), some (.inr cc), some (.inl s), some (.inl r), some (.inl (st (Int.toNat (304 + d)) + r)), some (.inl fstm), some (.inl (hiW st d r)), some (.inl w), some (.inl fsun), some (.inl ((w + 1) * 7)), some (.inl (s + w * 7)), some (.inl (k : Int)), some (.inl a12)] [.inl x, .inl (s + w * 7 + k), .inr cc] h1 := by
                intro x a12 hx
                refine B_X2_enterRow_206 C (kk := ?_)
                have e1 : ((k + 1 : Nat) : Int) = (k : Int) + 1 := by omega
                have nx := ihu (k + 1) (ph_setI h1 cc (Int.toNat (s + w * 7 + k)) x) (by omega) (hF.set rfl _ _) (fun w' hh a b c e z => by
                  by_cases q : w' = w ∧ hh = k
                  · rw [q.1, q.2, sI_eq]; exact hx
                  · rw [sI_k (by omega)]; exact hin w' hh a b c e (by omega)) (fun j hj => by rw [sI_k (by omega)]; exact hout j hj)
                rw [e1] at nx
                exact nx
              have shutW : shutP st d r w k → PW G X 13 (pw_E G X (pqEnt h st d r cc ra s) 0 0) 0 0 173 [some (.inr 104), some (.inr cc), some (.inl s), some (.inl r), some (.inl (st (Int.toNat (304 + d)) + r)), some (.inl fstm), some (.inl (hiW st d r)), some (.inl w), some (.inl fsun), some (.inl ((w + 1) * 7)), some (.inl (s + w * 7)), some (.inl (k : Int)), none] [] h1 := by
                intro hs1
                refine B_X2_enterRow_173 C (kk := ?_)
                refine B_X2_enterRow_178 C (kt := fun c => absurd c (by decide)) (kf := fun c => ?_)
                refine B_X2_enterRow_191 C (kk := ?_)
                exact w206 _ _ ⟨fun _ => rfl, fun z => absurd hs1 z⟩
              have openW : ¬ shutP st d r w k → PW G X 13 (pw_E G X (pqEnt h st d r cc ra s) 0 0) 0 0 177 [some (.inr 104), some (.inr cc), some (.inl s), some (.inl r), some (.inl (st (Int.toNat (304 + d)) + r)), some (.inl fstm), some (.inl (hiW st d r)), some (.inl w), some (.inl fsun), some (.inl ((w + 1) * 7)), some (.inl (s + w * 7)), some (.inl (k : Int)), none] [] h1 := by
                intro hs1
                refine B_X2_enterRow_177 C (kk := ?_)
                refine B_X2_enterRow_178 C (kt := fun c => ?_) (kf := fun c => absurd rfl c)
                refine B_X2_enterRow_196 C (r2 := ra) (x8 := ph_I h ra (Int.toNat ((w + 1) * 7 + k))) (e9 := ura _) (kk := ?_)
                exact w206 _ _ ⟨fun z => absurd z hs1, fun _ => rfl⟩
              have w153 : ¬ (r = 0 ∧ (k : Int) ≠ st (Int.toNat (300 + d))) → ¬ (fstm = 1 ∧ (k : Int) ≠ 6) → PW G X 13 (pw_E G X (pqEnt h st d r cc ra s) 0 0) 0 0 153 [some (.inr 104), some (.inr cc), some (.inl s), some (.inl r), some (.inl (st (Int.toNat (304 + d)) + r)), some (.inl fstm), some (.inl (hiW st d r)), some (.inl w), some (.inl fsun), some (.inl ((w + 1) * 7)), some (.inl (s + w * 7)), some (.inl (k : Int)), none] [] h1 := by
                intro n1 n2
                refine B_X2_enterRow_153 C (q1 := by unfold pR; omega) (kt := fun c => ?_) (kf := fun c => ?_)
                · refine openW ?_
                  intro z
                  rcases z with z | ⟨z1, z2⟩
                  · exact n1 z
                  · refine z2 ((sM_iff _ _ _ _).mpr ⟨?_, fun q => ?_⟩)
                    · by_cases q : (k : Int) = 6
                      · exact Or.inr q
                      · left; intro q2; rcases hfstm with ⟨y1, y2⟩ | ⟨y1, y2⟩
                        · exact n2 ⟨y1, q⟩
                        · exact y2 ⟨z1, q2⟩
                    · rcases hfsun with ⟨y1, y2⟩ | ⟨y1, y2⟩
                      · omega
                      · exact y2 ⟨z1, q.1⟩
                · have y8 : 0 < r ∧ sSun st ((w - st (Int.toNat (308 + d)) + 48) % 24) (st (Int.toNat (304 + d)) + r) = true := by
                    rcases hfsun with ⟨y1, y2⟩ | ⟨y1, y2⟩
                    · exact y2
                    · exact absurd y1 c
                  refine B_X2_enterRow_158 C (r2 := 3) (r5 := 6) (hM := ct_X3_isSunHeight _ _ _ t6 hSR hs ⟨by omega, by omega⟩) (kk := fun rr h' hq => ?_)
                  obtain ⟨rfl, ⟨rfl, c3⟩ | ⟨rfl, c3⟩⟩ := hq
                  · refine B_X2_enterRow_170 C (kt := fun c => absurd c (by decide)) (kf := fun c => ?_)
                    exact shutW (Or.inr ⟨y8.1, fun z => ((sM_iff _ _ _ _).mp z).2 ⟨y8.2, c3⟩⟩)
                  · refine B_X2_enterRow_170 C (kt := fun c => ?_) (kf := fun c => absurd rfl c)
                    refine openW ?_
                    intro z
                    rcases z with z | ⟨z1, z2⟩
                    · exact n1 z
                    · refine z2 ((sM_iff _ _ _ _).mpr ⟨?_, fun q => c3 q.2⟩)
                      by_cases q : (k : Int) = 6
                      · exact Or.inr q
                      · left; intro q2; rcases hfstm with ⟨y1, y2⟩ | ⟨y1, y2⟩
                        · exact n2 ⟨y1, q⟩
                        · exact y2 ⟨z1, q2⟩
              have w141 : ¬ (r = 0 ∧ (k : Int) ≠ st (Int.toNat (300 + d))) → PW G X 13 (pw_E G X (pqEnt h st d r cc ra s) 0 0) 0 0 141 [some (.inr 104), some (.inr cc), some (.inl s), some (.inl r), some (.inl (st (Int.toNat (304 + d)) + r)), some (.inl fstm), some (.inl (hiW st d r)), some (.inl w), some (.inl fsun), some (.inl ((w + 1) * 7)), some (.inl (s + w * 7)), some (.inl (k : Int)), none] [] h1 := by
                intro n1
                refine B_X2_enterRow_141 C (q1 := by unfold pR; omega) (kt := fun c => ?_) (kf := fun c => ?_)
                · exact w153 n1 (fun z => by omega)
                · refine B_X2_enterRow_146 C (kt := fun c4 => ?_) (kf := fun c4 => ?_)
                  · refine shutW (Or.inr ?_)
                    rcases hfstm with ⟨y1, y2⟩ | ⟨y1, y2⟩
                    · refine ⟨y2.1, fun z => ?_⟩
                      rcases ((sM_iff _ _ _ _).mp z).1 with q | q
                      · exact q y2.2
                      · exact c4 q
                    · exact absurd y1 c
                  · exact w153 n1 (fun z => z.2 c4)
              refine B_X2_enterRow_118 C (kt := fun c => by omega) (kf := fun c => ?_)
              refine B_X2_enterRow_125 C (kt := fun c4 => ?_) (kf := fun c4 => ?_)
              · exact w141 (fun z => c4 z.1)
              · refine B_X2_enterRow_129 C (r2 := mc) (x5 := st (Int.toNat (300 + d))) (kt := fun c5 => ?_) (kf := fun c5 => ?_)
                · exact shutW (Or.inl ⟨c4, c5⟩)
                · exact w141 (fun z => z.2 c5)
          have := lp2 7 0 h1 (by omega) hF (fun w' hh a b c e z => hin w' hh a b c e (by omega)) hout
          exact this
        obtain ⟨⟨t104, t3, t6, t106, t107, tra, tsb, tmc⟩, ⟨l106, l107, lra, lsb⟩, ⟨r1040, r32, r1042, r1043, r1044, r1045, r1046, r1047⟩, hra, hfs, ⟨b1, b2, b3⟩, hFR, hMR, hSR, hS, h2, d0, p0⟩ := id hC1
        obtain ⟨hs, hb, hmany, hD, hPp⟩ := id hS
        obtain ⟨g1, g2, g3, g4, g5⟩ := hD d d0.1 d0.2
        obtain ⟨g6, g7⟩ := hPp p p0.1 p0.2
        obtain ⟨⟨ft0, ft1, ft2⟩, ⟨fl1, fl2⟩, fr0, fr1⟩ := id hfs
        obtain ⟨⟨f2, f3, f4, f5, f6⟩, fpt⟩ := id hFR
        obtain ⟨m0, m1, m2, m3, m4⟩ := id hMR
        have gw : -st (Int.toNat (308 + d)) ≤ st (Int.toNat (296 + d)) ∧ st (Int.toNat (296 + d)) ≤ st (Int.toNat (308 + d)) := by have := g4; unfold zabs at this; split at this <;> omega
        refine B_X2_enterRow_51 C (kt := fun c2 => by omega) (kf := fun c2 => ?_)
        refine B_X2_enterRow_58 C (kt := fun c3 => ?_) (kf := fun c3 => ?_)
        · refine B_X2_enterRow_94 C (kk := ?_)
          exact in95 0 (Or.inr ⟨rfl, fun z => by omega⟩)
        · refine B_X2_enterRow_62 C (r2 := 3) (r5 := 6) (r8 := mc) (x11 := st (Int.toNat (308 + d))) (hM := ct_X6_sideOf _ _ _) (kk := fun rr h' hq => ?_)
          obtain ⟨rfl, rfl⟩ := hq
          refine B_X2_enterRow_82 C (hM := ct_X3_isSunSide _ _ _ t6 hSR hs ⟨by omega, by omega⟩ ⟨by omega, by omega⟩) (kk := fun rr h' hq => ?_)
          obtain ⟨rfl, ⟨rfl, c4⟩ | ⟨rfl, c4⟩⟩ := hq
          · refine B_X2_enterRow_87 C (kt := fun c => absurd c (by decide)) (kf := fun c => ?_)
            refine B_X2_enterRow_90 C (kk := ?_)
            exact in95 1 (Or.inl ⟨rfl, by omega, c4⟩)
          · refine B_X2_enterRow_87 C (kt := fun c => ?_) (kf := fun c => absurd rfl c)
            refine B_X2_enterRow_94 C (kk := ?_)
            exact in95 0 (Or.inr ⟨rfl, fun z => c4 z.2⟩)
    exact lp (Int.toNat (hiW st d r + 1 - loW st d r)) (loW st d r) h (by omega) (Int.le_refl _) (Fr.rf _ h) (fun w' hh a b c e z => by omega) (fun j hj => rfl)
  refine B_X2_enterRow_0 C (r2 := mc) (x5 := st (Int.toNat (304 + d))) (kt := fun c1 => ?_) (kf := fun c1 => ?_)
  · refine B_X2_enterRow_34 C (kk := ?_)
    exact main 0 (Or.inr ⟨rfl, fun z => by omega⟩)
  · refine B_X2_enterRow_15 C (r2 := 3) (r5 := 6) (hM := ct_X3_isStormy _ _ _ t6 hSR hs ⟨by omega, by omega⟩) (kk := fun rr h' hq => ?_)
    obtain ⟨rfl, ⟨rfl, c2⟩ | ⟨rfl, c2⟩⟩ := hq
    · refine B_X2_enterRow_27 C (kt := fun c => absurd c (by decide)) (kf := fun c => ?_)
      refine B_X2_enterRow_30 C (kk := ?_)
      exact main 1 (Or.inl ⟨rfl, by omega, c2⟩)
    · refine B_X2_enterRow_27 C (kt := fun c => ?_) (kf := fun c => absurd rfl c)
      refine B_X2_enterRow_34 C (kk := ?_)
      exact main 0 (Or.inr ⟨rfl, fun z => c2 z.2⟩)
