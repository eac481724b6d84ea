/-! the reference: share, count, images -/
def sSh (st : ST) (p one oth n : Int) : Nat → Int × Int
  | 0 => (-1, 0)
  | k + 1 => if (sSh st p one oth n k).1 < sBy st one p 0 k + sBy st oth p k n then (sBy st one p 0 k + sBy st oth p k n, (k : Int)) else sSh st p one oth n k
theorem lp_X7_share {G : Gx} {X : Cx} {Q : State → Prop} {h0 : PH} {nm one oth wh p n : Int} (C : CX_X7_share G X) (hm0 : MF h0) (hS0 : OkS (ph_I h0 135)) (p0 : 0 ≤ p ∧ p < ph_I h0 135 484) (hn : ph_I h0 135 (Int.toNat (16 + p)) = n) (o1 : 0 ≤ one ∧ one ≤ 3) (o2 : 0 ≤ oth ∧ oth ≤ 3)
    (K : ∀ h, Scr h0 h → PW G X 10 Q 0 0 152 [some (.inr 134), some (.inl nm), some (.inl one), some (.inl oth), some (.inl wh), some (.inl p), some (.inl (sSh (ph_I h0 135) p one oth n (Int.toNat (n + 1))).1), some (.inl (sSh (ph_I h0 135) p one oth n (Int.toNat (n + 1))).2), some (.inl (n + 1)), none] [] h) :
    ∀ (m k : Nat) (h : PH), (k : Int) + m = n + 1 → Scr h0 h → PW G X 10 Q 0 0 67 [some (.inr 134), some (.inl nm), some (.inl one), some (.inl oth), some (.inl wh), some (.inl p), some (.inl (sSh (ph_I h0 135) p one oth n k).1), some (.inl (sSh (ph_I h0 135) p one oth n k).2), some (.inl k), none] [] h := by
  obtain ⟨s1, s2, s3, s4, s5⟩ := id hS0
  obtain ⟨g6, g7⟩ := s5 p p0.1 p0.2
  rw [hn] at g7
  have hby : ∀ (d f q : Int), 0 ≤ d → d ≤ 3 → q ≤ 16 → 0 ≤ sBy (ph_I h0 135) d p f q ∧ sBy (ph_I h0 135) d p f q ≤ 80 := fun d f q a b c => by
    obtain ⟨x1, x2, x3, x4, x5⟩ := s4 d a b
    exact sBy_b x2 x3.1 g6.2 c
  have hsb : ∀ k : Nat, (k : Int) ≤ n + 1 → -1 ≤ (sSh (ph_I h0 135) p one oth n k).1 ∧ (sSh (ph_I h0 135) p one oth n k).1 ≤ 160 := by
    intro k
    induction k with
    | zero => intro _; exact ⟨by show (-1 : Int) ≤ -1; omega, by show (-1 : Int) ≤ 160; omega⟩
    | succ k ih =>
      intro hk
      have a := ih (by omega)
      have b1 := hby one 0 k o1.1 o1.2 (by omega)
      have b2 := hby oth k n o2.1 o2.2 (by omega)
      unfold sSh
      split
      · exact ⟨by show -1 ≤ sBy _ _ _ _ _ + sBy _ _ _ _ _; omega, by show sBy _ _ _ _ _ + sBy _ _ _ _ _ ≤ 160; omega⟩
      · exact a
  intro m
  induction m with
  | zero =>
    intro k h hk hs
    obtain ⟨⟨mt0, mr0, mr1, mr2, mr3, mr8, mr9, mr10⟩, ⟨mt1, mt2, mt3, mt4, mt5, mt6, mt7⟩, ⟨ml1, ml2, ml3, ml4, ml5, ml6, ml7⟩⟩ := hs.mf hm0
    refine B_X7_share_67 C (x8 := n) (e9 := by rw [hs.st]; exact hn) (kt := fun c1 => ?_) (kf := fun c1 => by omega)
    have e : k = Int.toNat (n + 1) := by omega
    have e2 : (k : Int) = n + 1 := by omega
    rw [e2, e]
    exact K h hs
  | succ m ih =>
    intro k h hk hs
    obtain ⟨⟨mt0, mr0, mr1, mr2, mr3, mr8, mr9, mr10⟩, ⟨mt1, mt2, mt3, mt4, mt5, mt6, mt7⟩, ⟨ml1, ml2, ml3, ml4, ml5, ml6, ml7⟩⟩ := hs.mf hm0
    have b1 := hby one 0 k o1.1 o1.2 (by omega)
    have b2 := hby oth k n o2.1 o2.2 (by omega)
    have b3 := hsb k (by omega)
    have e1 : ((k + 1 : Nat) : Int) = (k : Int) + 1 := by omega
    refine B_X7_share_67 C (x8 := n) (e9 := by rw [hs.st]; exact hn) (kt := fun c1 => by omega) (kf := fun c1 => ?_)
    refine B_X7_share_82 C (hM := ct_X7_seenBy _ _ _ (hs.mf hm0) (by rw [hs.st]; exact hS0) o1 (by rw [hs.st]; exact p0) (by omega) (by omega)) (kk := fun rr h2 hq => ?_)
    obtain ⟨rfl, hs2⟩ := hq
    have hs2 := hs.tr hs2
    rw [hs.st]
    obtain ⟨⟨nt0, nr0, nr1, nr2, nr3, nr8, nr9, nr10⟩, ⟨nt1, nt2, nt3, nt4, nt5, nt6, nt7⟩, ⟨nl1, nl2, nl3, nl4, nl5, nl6, nl7⟩⟩ := hs2.mf hm0
    refine B_X7_share_92 C (x8 := n) (e9 := by rw [hs2.st]; exact hn) (hM := ct_X7_seenBy _ _ _ (hs2.mf hm0) (by rw [hs2.st]; exact hS0) o2 (by rw [hs2.st]; exact p0) (by omega) (by omega)) (kk := fun rr h3 hq => ?_)
    obtain ⟨rfl, hs3⟩ := hq
    have hs3 := hs2.tr hs3
    rw [hs2.st]
    have nx := ih (k + 1) h3 (by omega) hs3
    rw [e1] at nx
    refine B_X7_share_111 C (kt := fun c2 => ?_) (kf := fun c2 => ?_)
    · have es : sSh (ph_I h0 135) p one oth n (k + 1) = sSh (ph_I h0 135) p one oth n k := by rw [sSh, if_neg (by omega)]
      rw [es] at nx
      refine B_X7_share_126 C (kk := ?_)
      refine B_X7_share_128 C (kt := fun c3 => ?_) (kf := fun c3 => absurd c2 c3)
      refine B_X7_share_142 C (kk := ?_)
      exact B_X7_share_144 C (kk := nx)
    · have es : sSh (ph_I h0 135) p one oth n (k + 1) = (sBy (ph_I h0 135) one p 0 k + sBy (ph_I h0 135) oth p k n, (k : Int)) := by rw [sSh, if_pos (by omega)]
      rw [es] at nx
      refine B_X7_share_121 C (kk := ?_)
      refine B_X7_share_128 C (kt := fun c3 => absurd c3 c2) (kf := fun c3 => ?_)
      refine B_X7_share_137 C (kk := ?_)
      exact B_X7_share_144 C (kk := nx)
def mShare (st : ST) (nm one oth wh : Int) : Int := if ¬ (0 ≤ pOf st nm ∧ (0 ≤ one ∧ one ≤ 3) ∧ (0 ≤ oth ∧ oth ≤ 3)) then -1 else if ¬ ((0 ≤ wh ∧ wh ≤ 1) ∧ one ≠ oth) then -2 else if ¬ (0 < st (Int.toNat (16 + pOf st nm)) ∧ st (Int.toNat (24 + pOf st nm)) < 0) then -3
  else if wh = 0 then (sSh st (pOf st nm) one oth (st (Int.toNat (16 + pOf st nm))) (Int.toNat (st (Int.toNat (16 + pOf st nm)) + 1))).2 else (sSh st (pOf st nm) one oth (st (Int.toNat (16 + pOf st nm))) (Int.toNat (st (Int.toNat (16 + pOf st nm)) + 1))).1
theorem ct_X7_share (G : Gx) (l : Launch) (h : PH) {nm : Int} (gnm : pR nm) {one : Int} (gone : pR one) {oth : Int} (goth : pR oth) {wh : Int} (gwh : pR wh) (hm : MF h) (hS : OkS (ph_I h 135)) : CT_X7_share G l [.inr 134, .inl nm, .inl one, .inl oth, .inl wh] h (pqS (mShare (ph_I h 135) nm one oth wh) h) := by
  obtain ⟨⟨mt0, mr0, mr1, mr2, mr3, mr8, mr9, mr10⟩, ⟨mt1, mt2, mt3, mt4, mt5, mt6, mt7⟩, ⟨ml1, ml2, ml3, ml4, ml5, ml6, ml7⟩⟩ := id hm
  obtain ⟨hs, hb, hmany, hD, hPp⟩ := id hS
  have hpb := pOf_b (st := ph_I h 135) nm hmany.1
  refine ct_intro rfl (Nat.le_of_ble_eq_true rfl) (fun X hX C => ?_)
  refine B_X7_share_0 C (hM := (show CT_X7_passOf G X.2.1 [.inr 134, .inl nm] h (pqI (pOf (ph_I h 135) nm) h) from ct_X7_passOf _ _ _ hm gnm hb hmany.1 hmany.2)) (kk := fun rr h' hq => ?_)
  obtain ⟨rfl, rfl⟩ := hq
  refine B_X7_share_5 C (kt := fun c1 => ?_) (kf := fun c1 => ?_)
  · exact B_X7_share_26 C (hq := ⟨by unfold mShare; rw [if_pos (by omega)], Scr.rf h⟩)
  · refine B_X7_share_12 C (hM := ct_X7_isDish _ _ _) (kk := fun rr h' hq => ?_)
    obtain ⟨rfl, ⟨rfl, c2⟩ | ⟨rfl, c2⟩⟩ := hq
    · refine B_X7_share_16 C (kt := fun c => absurd c (by decide)) (kf := fun c => ?_)
      refine B_X7_share_19 C (hM := ct_X7_isDish _ _ _) (kk := fun rr h' hq => ?_)
      obtain ⟨rfl, ⟨rfl, c3⟩ | ⟨rfl, c3⟩⟩ := hq
      · refine B_X7_share_23 C (kt := fun c => ?_) (kf := fun c => absurd c (by decide))
        refine B_X7_share_28 C (hM := ct_X7_in _ _ _) (kk := fun rr h' hq => ?_)
        obtain ⟨rfl, ⟨rfl, c4⟩ | ⟨rfl, c4⟩⟩ := hq
        · refine B_X7_share_35 C (kt := fun c => absurd c (by decide)) (kf := fun c => ?_)
          refine B_X7_share_38 C (kt := fun c5 => ?_) (kf := fun c5 => ?_)
          · refine B_X7_share_46 C (hM := ct_X7_isOpen _ _ _ hm hb) (kk := fun rr h' hq => ?_)
            obtain ⟨rfl, ⟨rfl, CO⟩ | ⟨rfl, CO⟩⟩ := hq
            · refine B_X7_share_52 C (kt := fun c => ?_) (kf := fun c => absurd c (by decide))
              refine B_X7_share_58 C (kk := ?_)
              have hP1 := hPp (pOf (ph_I h 135) nm) (by omega) (by omega)
              refine lp_X7_share (n := (ph_I h 135 (Int.toNat (16 + (pOf (ph_I h 135) nm))))) C hm hS ⟨by omega, by omega⟩ rfl c2 c3 (fun h2 hsc => ?_) (Int.toNat ((ph_I h 135 (Int.toNat (16 + (pOf (ph_I h 135) nm)))) + 1)) 0 h (by have := hP1.2; omega) (Scr.rf h)
              refine B_X7_share_152 C (kt := fun c6 => ?_) (kf := fun c6 => ?_)
              · refine B_X7_share_162 C (kk := ?_)
                exact B_X7_share_164 C (hq := ⟨by unfold mShare; rw [if_neg (by omega), if_neg (by omega), if_neg (fun z => z CO), if_neg c6], hsc⟩)
              · refine B_X7_share_157 C (kk := ?_)
                exact B_X7_share_164 C (hq := ⟨by unfold mShare; rw [if_neg (by omega), if_neg (by omega), if_neg (fun z => z CO), if_pos c6], hsc⟩)
            · refine B_X7_share_52 C (kt := fun c => absurd rfl c) (kf := fun c => ?_)
              exact B_X7_share_55 C (hq := ⟨by unfold mShare; rw [if_neg (by omega), if_neg (by omega), if_pos CO], Scr.rf h⟩)
          · exact B_X7_share_43 C (hq := ⟨by unfold mShare; rw [if_neg (by omega), if_pos (by omega)], Scr.rf h⟩)
        · refine B_X7_share_35 C (kt := fun c => ?_) (kf := fun c => absurd rfl c)
          exact B_X7_share_43 C (hq := ⟨by unfold mShare; rw [if_neg (by omega), if_pos (by omega)], Scr.rf h⟩)
      · refine B_X7_share_23 C (kt := fun c => absurd rfl c) (kf := fun c => ?_)
        exact B_X7_share_26 C (hq := ⟨by unfold mShare; rw [if_pos (by omega)], Scr.rf h⟩)
    · refine B_X7_share_16 C (kt := fun c => ?_) (kf := fun c => absurd rfl c)
      exact B_X7_share_26 C (hq := ⟨by unfold mShare; rw [if_pos (by omega)], Scr.rf h⟩)
def mCount (st : ST) (k0 k1 wh : Int) : Int :=
  if wh = 0 then st 484 else if wh = 1 then sSum (gTak st) (Int.toNat (st 484)) else if wh = 2 then sSum (gPts st) (Int.toNat (st 484)) else if wh = 3 then sSum (gLks st) 168 else if wh = 4 then sSum (gUnl st) 168 else if wh = 5 then st 491 else if wh = 6 then st 485 else if wh = 7 then st 487 else if wh = 8 then st 488 + 1 else if wh = 9 then st 489 else if wh = 10 then st 490
  else if wh = 11 then (if k0 = 0 then 0 else 1) + (if k1 = 0 then 0 else 2) else -2
theorem ct_X7_count (G : Gx) (l : Launch) (h : PH) {wh : Int} (gwh : pR wh) (hm : MF h) (hS : OkS (ph_I h 135)) (k0 : ph_I h 137 0 = 0 ∨ ph_I h 137 0 = 1) (k1 : ph_I h 137 1 = 0 ∨ ph_I h 137 1 = 1) : CT_X7_count G l [.inr 134, .inl wh] h (pqI (mCount (ph_I h 135) (ph_I h 137 0) (ph_I h 137 1) wh) h) := by
  obtain ⟨⟨mt0, mr0, mr1, mr2, mr3, mr8, mr9, mr10⟩, ⟨mt1, mt2, mt3, mt4, mt5, mt6, mt7⟩, ⟨ml1, ml2, ml3, ml4, ml5, ml6, ml7⟩⟩ := id hm
  obtain ⟨hs, hb, hmany, hD, hPp⟩ := id hS
  refine ct_intro rfl (Nat.le_of_ble_eq_true rfl) (fun X hX C => ?_)
  refine B_X7_count_0 C (kk := ?_)
  refine B_X7_count_1 C (k0 := fun c1 => ?_) (k1 := fun c1 => ?_) (k2 := fun c1 => ?_) (k3 := fun c1 => ?_) (k4 := fun c1 => ?_) (k5 := fun c1 => ?_) (k6 := fun c1 => ?_) (k7 := fun c1 => ?_) (k8 := fun c1 => ?_) (k9 := fun c1 => ?_) (k10 := fun c1 => ?_) (k11 := fun c1 => ?_) (kd := fun c1 => ?_)
  · exact B_X7_count_64 C (hq := by exact pq_i (by unfold mCount; rw [if_pos (by omega)]))
  · refine B_X7_count_73 C (hM := ct_X7_takenOnes _ _ _ hm hb hmany.1 hmany.2) (kk := fun r2 h2 hq2 => ?_)
    obtain ⟨rfl, rfl⟩ := hq2
    exact B_X7_count_77 C (hq := by exact pq_i (by unfold mCount; rw [if_neg (by omega), if_pos (by omega)]))
  · refine B_X7_count_78 C (hM := ct_X7_pointsOfAll _ _ _ hm hb hmany.1 hmany.2) (kk := fun r3 h3 hq3 => ?_)
    obtain ⟨rfl, rfl⟩ := hq3
    exact B_X7_count_82 C (hq := by exact pq_i (by unfold mCount; rw [if_neg (by omega), if_neg (by omega), if_pos (by omega)]))
  · refine B_X7_count_83 C (hM := ct_X7_looks (fl := 0) _ _ _ hm hb (by omega)) (kk := fun r4 h4 hq4 => ?_)
    obtain ⟨rfl, rfl⟩ := hq4
    exact B_X7_count_88 C (hq := by exact pq_i (by unfold mCount; rw [if_pos rfl, if_neg (by omega), if_neg (by omega), if_neg (by omega), if_pos (by omega)]))
  · refine B_X7_count_89 C (hM := ct_X7_looks (fl := 1) _ _ _ hm hb (by omega)) (kk := fun r5 h5 hq5 => ?_)
    obtain ⟨rfl, rfl⟩ := hq5
    exact B_X7_count_94 C (hq := by exact pq_i (by unfold mCount; rw [if_neg (by decide), if_neg (by omega), if_neg (by omega), if_neg (by omega), if_neg (by omega), if_pos (by omega)]))
  · exact B_X7_count_95 C (hq := by exact pq_i (by unfold mCount; rw [if_neg (by omega), if_neg (by omega), if_neg (by omega), if_neg (by omega), if_neg (by omega), if_pos (by omega)]))
  · exact B_X7_count_104 C (hq := by exact pq_i (by unfold mCount; rw [if_neg (by omega), if_neg (by omega), if_neg (by omega), if_neg (by omega), if_neg (by omega), if_neg (by omega), if_pos (by omega)]))
  · exact B_X7_count_113 C (hq := by exact pq_i (by unfold mCount; rw [if_neg (by omega), if_neg (by omega), if_neg (by omega), if_neg (by omega), if_neg (by omega), if_neg (by omega), if_neg (by omega), if_pos (by omega)]))
  · exact B_X7_count_122 C (hq := by exact pq_i (by unfold mCount; rw [if_neg (by omega), if_neg (by omega), if_neg (by omega), if_neg (by omega), if_neg (by omega), if_neg (by omega), if_neg (by omega), if_neg (by omega), if_pos (by omega)]))
  · exact B_X7_count_133 C (hq := by exact pq_i (by unfold mCount; rw [if_neg (by omega), if_neg (by omega), if_neg (by omega), if_neg (by omega), if_neg (by omega), if_neg (by omega), if_neg (by omega), if_neg (by omega), if_neg (by omega), if_pos (by omega)]))
  · exact B_X7_count_142 C (hq := by exact pq_i (by unfold mCount; rw [if_neg (by omega), if_neg (by omega), if_neg (by omega), if_neg (by omega), if_neg (by omega), if_neg (by omega), if_neg (by omega), if_neg (by omega), if_neg (by omega), if_neg (by omega), if_pos (by omega)]))
  · refine B_X7_count_151 C (kt := fun c6 => ?_) (kf := fun c6 => ?_)
    · refine B_X7_count_164 C (kk := ?_)
      refine B_X7_count_165 C (kt := fun c7 => ?_) (kf := fun c7 => ?_)
      · refine B_X7_count_178 C (kk := ?_)
        exact B_X7_count_179 C (hq := by first | (exact pq_i (by unfold mCount; rw [if_neg (by omega), if_neg (by omega), if_neg (by omega), if_neg (by omega), if_neg (by omega), if_neg (by omega), if_neg (by omega), if_neg (by omega), if_neg (by omega), if_neg (by omega), if_neg (by omega), if_pos (by omega), if_pos (by assumption), if_pos (by assumption)])) | (exact pq_i (by unfold mCount; rw [if_neg (by omega), if_neg (by omega), if_neg (by omega), if_neg (by omega), if_neg (by omega), if_neg (by omega), if_neg (by omega), if_neg (by omega), if_neg (by omega), if_neg (by omega), if_neg (by omega), if_pos (by omega), if_pos (by assumption), if_neg (by assumption)])) | (exact pq_i (by unfold mCount; rw [if_neg (by omega), if_neg (by omega), if_neg (by omega), if_neg (by omega), if_neg (by omega), if_neg (by omega), if_neg (by omega), if_neg (by omega), if_neg (by omega), if_neg (by omega), if_neg (by omega), if_pos (by omega), if_neg (by assumption), if_pos (by assumption)])) | (exact pq_i (by unfold mCount; rw [if_neg (by omega), if_neg (by omega), if_neg (by omega), if_neg (by omega), if_neg (by omega), if_neg (by omega), if_neg (by omega), if_neg (by omega), if_neg (by omega), if_neg (by omega), if_neg (by omega), if_pos (by omega), if_neg (by assumption), if_neg (by assumption)])))
      · refine B_X7_count_174 C (kk := ?_)
        exact B_X7_count_179 C (hq := by first | (exact pq_i (by unfold mCount; rw [if_neg (by omega), if_neg (by omega), if_neg (by omega), if_neg (by omega), if_neg (by omega), if_neg (by omega), if_neg (by omega), if_neg (by omega), if_neg (by omega), if_neg (by omega), if_neg (by omega), if_pos (by omega), if_pos (by assumption), if_pos (by assumption)])) | (exact pq_i (by unfold mCount; rw [if_neg (by omega), if_neg (by omega), if_neg (by omega), if_neg (by omega), if_neg (by omega), if_neg (by omega), if_neg (by omega), if_neg (by omega), if_neg (by omega), if_neg (by omega), if_neg (by omega), if_pos (by omega), if_pos (by assumption), if_neg (by assumption)])) | (exact pq_i (by unfold mCount; rw [if_neg (by omega), if_neg (by omega), if_neg (by omega), if_neg (by omega), if_neg (by omega), if_neg (by omega), if_neg (by omega), if_neg (by omega), if_neg (by omega), if_neg (by omega), if_neg (by omega), if_pos (by omega), if_neg (by assumption), if_pos (by assumption)])) | (exact pq_i (by unfold mCount; rw [if_neg (by omega), if_neg (by omega), if_neg (by omega), if_neg (by omega), if_neg (by omega), if_neg (by omega), if_neg (by omega), if_neg (by omega), if_neg (by omega), if_neg (by omega), if_neg (by omega), if_pos (by omega), if_neg (by assumption), if_neg (by assumption)])))
    · refine B_X7_count_160 C (kk := ?_)
      refine B_X7_count_165 C (kt := fun c8 => ?_) (kf := fun c8 => ?_)
      · refine B_X7_count_178 C (kk := ?_)
        exact B_X7_count_179 C (hq := by first | (exact pq_i (by unfold mCount; rw [if_neg (by omega), if_neg (by omega), if_neg (by omega), if_neg (by omega), if_neg (by omega), if_neg (by omega), if_neg (by omega), if_neg (by omega), if_neg (by omega), if_neg (by omega), if_neg (by omega), if_pos (by omega), if_pos (by assumption), if_pos (by assumption)])) | (exact pq_i (by unfold mCount; rw [if_neg (by omega), if_neg (by omega), if_neg (by omega), if_neg (by omega), if_neg (by omega), if_neg (by omega), if_neg (by omega), if_neg (by omega), if_neg (by omega), if_neg (by omega), if_neg (by omega), if_pos (by omega), if_pos (by assumption), if_neg (by assumption)])) | (exact pq_i (by unfold mCount; rw [if_neg (by omega), if_neg (by omega), if_neg (by omega), if_neg (by omega), if_neg (by omega), if_neg (by omega), if_neg (by omega), if_neg (by omega), if_neg (by omega), if_neg (by omega), if_neg (by omega), if_pos (by omega), if_neg (by assumption), if_pos (by assumption)])) | (exact pq_i (by unfold mCount; rw [if_neg (by omega), if_neg (by omega), if_neg (by omega), if_neg (by omega), if_neg (by omega), if_neg (by omega), if_neg (by omega), if_neg (by omega), if_neg (by omega), if_neg (by omega), if_neg (by omega), if_pos (by omega), if_neg (by assumption), if_neg (by assumption)])))
      · refine B_X7_count_174 C (kk := ?_)
        exact B_X7_count_179 C (hq := by first | (exact pq_i (by unfold mCount; rw [if_neg (by omega), if_neg (by omega), if_neg (by omega), if_neg (by omega), if_neg (by omega), if_neg (by omega), if_neg (by omega), if_neg (by omega), if_neg (by omega), if_neg (by omega), if_neg (by omega), if_pos (by omega), if_pos (by assumption), if_pos (by assumption)])) | (exact pq_i (by unfold mCount; rw [if_neg (by omega), if_neg (by omega), if_neg (by omega), if_neg (by omega), if_neg (by omega), if_neg (by omega), if_neg (by omega), if_neg (by omega), if_neg (by omega), if_neg (by omega), if_neg (by omega), if_pos (by omega), if_pos (by assumption), if_neg (by assumption)])) | (exact pq_i (by unfold mCount; rw [if_neg (by omega), if_neg (by omega), if_neg (by omega), if_neg (by omega), if_neg (by omega), if_neg (by omega), if_neg (by omega), if_neg (by omega), if_neg (by omega), if_neg (by omega), if_neg (by omega), if_pos (by omega), if_neg (by assumption), if_pos (by assumption)])) | (exact pq_i (by unfold mCount; rw [if_neg (by omega), if_neg (by omega), if_neg (by omega), if_neg (by omega), if_neg (by omega), if_neg (by omega), if_neg (by omega), if_neg (by omega), if_neg (by omega), if_neg (by omega), if_neg (by omega), if_pos (by omega), if_neg (by assumption), if_neg (by assumption)])))
  · exact B_X7_count_181 C (hq := by exact pq_i (by unfold mCount; rw [if_neg (by omega), if_neg (by omega), if_neg (by omega), if_neg (by omega), if_neg (by omega), if_neg (by omega), if_neg (by omega), if_neg (by omega), if_neg (by omega), if_neg (by omega), if_neg (by omega), if_neg (by omega)]))
