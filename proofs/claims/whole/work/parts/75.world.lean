/-! the world: indexOf, sums, nextOpen, removeFlight, copyFrom -/
theorem ct_X5_indexOf (G : Gx) (l : Launch) (h : PH) {b : Nat} {st : ST} (hw : WS h b) (hR : WR h b st) (hS : OkS st) (h2 : Ok2 st) {nm : Int} (gn : pR nm) : CT_X5_indexOf G l [.inr b, .inl nm] h (pqI (if 0 ≤ pOf st nm then pOf st nm else -1) h) := by
  obtain ⟨⟨wt0, wt1, wt2, wt3, wt4⟩, ⟨wl1, wl2, wl4⟩, ⟨wr0, wr1, wr2, wr3⟩, wfl, winj, wmt⟩ := id hw
  obtain ⟨f1, f2, f3, f4, f5⟩ := id hR
  obtain ⟨hs, hb, hmany, hD, hPp⟩ := id hS
  refine ct_intro rfl (Nat.le_of_ble_eq_true rfl) (fun X hX C => ?_)
  have lp : ∀ (m i : Nat), (i : Int) + m = st 484 → (∀ j : Nat, j < i → st j ≠ nm) → PW G X 3 (pw_E G X (pqI (if 0 ≤ pOf st nm then pOf st nm else -1) h) 0 0) 0 0 2 [some (.inr b), some (.inl nm), some (.inl (i : Int))] [] h := by
    intro m
    induction m with
    | zero =>
      intro i hi hn
      refine B_X5_indexOf_2 C (x2 := st 484) (e3 := f1) (kt := fun c => ?_) (kf := fun c => by omega)
      refine B_X5_indexOf_31 C (hq := pq_i ?_)
      rw [if_neg]
      intro z
      rcases pOfN_b (st := st) (name := nm) (Int.toNat (st 484)) with ⟨e, -⟩ | ⟨y1, y2, y3⟩
      · unfold pOf at z; omega
      · exact hn _ (by omega) y3
    | succ m ih =>
      intro i hi hn
      have ei : Int.toNat (i : Int) = i := by omega
      have i8 : i < 8 := by omega
      have hF := f2 (i : Int) (by omega) (by omega)
      obtain ⟨hfs, j, hj, hjr⟩ := wfl i i8
      rw [ei] at hF
      refine B_X5_indexOf_2 C (x2 := st 484) (e3 := f1) (kt := fun c => by omega) (kf := fun c => ?_)
      refine B_X5_indexOf_10 C (r2 := b + 1) (m8 := 10) (r9 := ph_R h (b + 1) i) (e10 := by rw [ei]) (t11 := hfs.1.1) (x12 := st i) (e13 := by rw [hF.1.1, ei]) (q14 := hb _) (kt := fun c2 => ?_) (kf := fun c2 => ?_)
      · refine B_X5_indexOf_25 C (kk := ?_)
        have e4 : ((i + 1 : Nat) : Int) = (i : Int) + 1 := by omega
        have nx := ih (i + 1) (by omega) (fun j hj => by
          by_cases z : j = i
          · rw [z]; exact c2
          · exact hn j (by omega))
        rw [e4] at nx
        exact nx
      · refine B_X5_indexOf_23 C (hq := pq_i ?_)
        have key : pOf st nm = i := by
          rcases pOfN_b (st := st) (name := nm) (Int.toNat (st 484)) with ⟨e, y⟩ | ⟨y1, y2, y3⟩
          · exact absurd c2 (y i (by omega))
          · refine name_uniq h2 (p := pOf st nm) (q := i) ⟨y1, by unfold pOf; omega⟩ ⟨by omega, by omega⟩ ?_
            rw [ei, c2]; exact y3
        rw [key, if_pos (by omega)]
  refine B_X5_indexOf_0 C (kk := ?_)
  exact lp (Int.toNat (st 484)) 0 (by omega) (fun j hj => by omega)
theorem ct_X5_takenFlights (G : Gx) (l : Launch) (h : PH) {b : Nat} {st : ST} (hw : WS h b) (hR : WR h b st) (hS : OkS st) (h2 : Ok2 st) : CT_X5_takenFlights G l [.inr b] h (pqI (sSum (gTak st) (Int.toNat (st 484))) h) := by
  obtain ⟨⟨wt0, wt1, wt2, wt3, wt4⟩, ⟨wl1, wl2, wl4⟩, ⟨wr0, wr1, wr2, wr3⟩, wfl, winj, wmt⟩ := id hw
  obtain ⟨f1, f2, f3, f4, f5⟩ := id hR
  obtain ⟨hs, hb, hmany, hD, hPp⟩ := id hS
  refine ct_intro rfl (Nat.le_of_ble_eq_true rfl) (fun X hX C => ?_)
  have lp : ∀ (m i : Nat), (i : Int) + m = st 484 → PW G X 3 (pw_E G X (pqI (sSum (gTak st) (Int.toNat (st 484))) h) 0 0) 0 0 4 [some (.inr b), some (.inl (sSum (gTak st) i)), some (.inl (i : Int))] [] h := by
    intro m
    induction m with
    | zero =>
      intro i hi
      refine B_X5_takenFlights_4 C (x2 := st 484) (e3 := f1) (kt := fun c => ?_) (kf := fun c => by omega)
      have e : Int.toNat (st 484) = i := by omega
      exact B_X5_takenFlights_33 C (hq := pq_i (by rw [e]))
    | succ m ih =>
      intro i hi
      have ei : Int.toNat (i : Int) = i := by omega
      have i8 : i < 8 := by omega
      have hF := f2 (i : Int) (by omega) (by omega)
      obtain ⟨hfs, j, hj, hjr⟩ := wfl i i8
      rw [ei] at hF
      have e4 : ((i + 1 : Nat) : Int) = (i : Int) + 1 := by omega
      have nx := ih (i + 1) (by omega)
      rw [e4] at nx
      refine B_X5_takenFlights_4 C (x2 := st 484) (e3 := f1) (kt := fun c => by omega) (kf := fun c => ?_)
      have ht := (h2.1 (i : Int) (by omega) (by omega)).2.1
      refine B_X5_takenFlights_12 C (r2 := b + 1) (m8 := 10) (r9 := ph_R h (b + 1) i) (e10 := by rw [ei]) (t11 := hfs.1.1) (hM := ct_X0_isTaken _ _ _ hfs.1.1 hF.1.2.2.2.1 (hb _)) (kk := fun rr h' hq => ?_)
      have es : sSum (gTak st) (i + 1) = sSum (gTak st) i + gTak st i := rfl
      obtain ⟨rfl, ⟨rfl, c2⟩ | ⟨rfl, c2⟩⟩ := hq
      · refine B_X5_takenFlights_21 C (kt := fun c => absurd c (by decide)) (kf := fun c => ?_)
        refine B_X5_takenFlights_24 C (kk := ?_)
        refine B_X5_takenFlights_27 C (kk := ?_)
        have eg : gTak st i = 1 := by unfold gTak; rw [if_neg (by omega)]
        rw [es, eg] at nx
        exact nx
      · refine B_X5_takenFlights_21 C (kt := fun c => ?_) (kf := fun c => absurd rfl c)
        refine B_X5_takenFlights_27 C (kk := ?_)
        have eg : gTak st i = 0 := by unfold gTak; rw [if_pos (by omega)]
        rw [es, eg, Int.add_zero] at nx
        exact nx
  refine B_X5_takenFlights_0 C (kk := ?_)
  exact lp (Int.toNat (st 484)) 0 (by omega)
theorem ct_X5_allPoints (G : Gx) (l : Launch) (h : PH) {b : Nat} {st : ST} (hw : WS h b) (hR : WR h b st) (hS : OkS st) (h2 : Ok2 st) : CT_X5_allPoints G l [.inr b] h (pqI (sSum (gPts st) (Int.toNat (st 484))) h) := by
  obtain ⟨⟨wt0, wt1, wt2, wt3, wt4⟩, ⟨wl1, wl2, wl4⟩, ⟨wr0, wr1, wr2, wr3⟩, wfl, winj, wmt⟩ := id hw
  obtain ⟨f1, f2, f3, f4, f5⟩ := id hR
  obtain ⟨hs, hb, hmany, hD, hPp⟩ := id hS
  refine ct_intro rfl (Nat.le_of_ble_eq_true rfl) (fun X hX C => ?_)
  have lp : ∀ (m i : Nat), (i : Int) + m = st 484 → PW G X 3 (pw_E G X (pqI (sSum (gPts st) (Int.toNat (st 484))) h) 0 0) 0 0 4 [some (.inr b), some (.inl (sSum (gPts st) i)), some (.inl (i : Int))] [] h := by
    intro m
    induction m with
    | zero =>
      intro i hi
      refine B_X5_allPoints_4 C (x2 := st 484) (e3 := f1) (kt := fun c => ?_) (kf := fun c => by omega)
      have e : Int.toNat (st 484) = i := by omega
      exact B_X5_allPoints_30 C (hq := pq_i (by rw [e]))
    | succ m ih =>
      intro i hi
      have ei : Int.toNat (i : Int) = i := by omega
      have i8 : i < 8 := by omega
      have hF := f2 (i : Int) (by omega) (by omega)
      obtain ⟨hfs, j, hj, hjr⟩ := wfl i i8
      rw [ei] at hF
      have e4 : ((i + 1 : Nat) : Int) = (i : Int) + 1 := by omega
      have nx := ih (i + 1) (by omega)
      rw [e4] at nx
      refine B_X5_allPoints_4 C (x2 := st 484) (e3 := f1) (kt := fun c => by omega) (kf := fun c => ?_)
      refine B_X5_allPoints_12 C (r2 := b + 1) (m8 := 10) (r9 := ph_R h (b + 1) i) (e10 := by rw [ei]) (t11 := hfs.1.1) (x12 := gPts st i) (e13 := hF.1.2.2.1) (kk := ?_)
      exact nx
  refine B_X5_allPoints_0 C (kk := ?_)
  exact lp (Int.toNat (st 484)) 0 (by omega)
theorem ct_X5_allLooks (G : Gx) (l : Launch) (h : PH) {b : Nat} {st : ST} (hw : WS h b) (hR : WR h b st) (hS : OkS st) : CT_X5_allLooks G l [.inr b] h (pqI (sSum (gLks st) 168) h) := by
  obtain ⟨⟨wt0, wt1, wt2, wt3, wt4⟩, ⟨wl1, wl2, wl4⟩, ⟨wr0, wr1, wr2, wr3⟩, wfl, winj, wmt⟩ := id hw
  obtain ⟨f1, f2, f3, f4, f5⟩ := id hR
  obtain ⟨hs, hb, hmany, hD, hPp⟩ := id hS
  refine ct_intro rfl (Nat.le_of_ble_eq_true rfl) (fun X hX C => ?_)
  have lp : ∀ (m i : Nat), i + m = 168 → PW G X 3 (pw_E G X (pqI (sSum (gLks st) 168) h) 0 0) 0 0 4 [some (.inr b), some (.inl (sSum (gLks st) i)), some (.inl (i : Int))] [] h := by
    intro m
    induction m with
    | zero =>
      intro i hi
      have e : i = 168 := by omega
      subst e
      refine B_X5_allLooks_4 C (r2 := b + 4) (x5 := 168) (e6 := by rw [wl4]; rfl) (kt := fun c => ?_) (kf := fun c => by omega)
      exact B_X5_allLooks_28 C (hq := pq_i rfl)
    | succ m ih =>
      intro i hi
      have e4 : ((i + 1 : Nat) : Int) = (i : Int) + 1 := by omega
      have nx := ih (i + 1) (by omega)
      rw [e4] at nx
      have hl := f5 (i : Int) (by omega) (by omega)
      refine B_X5_allLooks_4 C (r2 := b + 4) (x5 := 168) (e6 := by rw [wl4]; rfl) (kt := fun c => by omega) (kf := fun c => ?_)
      refine B_X5_allLooks_13 C (r2 := b + 4) (x8 := gLks st i) (e9 := hl) (kk := ?_)
      exact nx
  refine B_X5_allLooks_0 C (kk := ?_)
  exact lp 168 0 (by omega)
theorem ct_X5_unlikeLooks (G : Gx) (l : Launch) (h : PH) {b : Nat} {st : ST} (hw : WS h b) (hR : WR h b st) (hS : OkS st) : CT_X5_unlikeLooks G l [.inr b] h (pqI (sSum (gUnl st) 168) h) := by
  obtain ⟨⟨wt0, wt1, wt2, wt3, wt4⟩, ⟨wl1, wl2, wl4⟩, ⟨wr0, wr1, wr2, wr3⟩, wfl, winj, wmt⟩ := id hw
  obtain ⟨f1, f2, f3, f4, f5⟩ := id hR
  obtain ⟨hs, hb, hmany, hD, hPp⟩ := id hS
  refine ct_intro rfl (Nat.le_of_ble_eq_true rfl) (fun X hX C => ?_)
  have lp : ∀ (m i : Nat), i + m = 168 → PW G X 3 (pw_E G X (pqI (sSum (gUnl st) 168) h) 0 0) 0 0 4 [some (.inr b), some (.inl (sSum (gUnl st) i)), some (.inl (i : Int))] [] h := by
    intro m
    induction m with
    | zero =>
      intro i hi
      have e : i = 168 := by omega
      subst e
      refine B_X5_unlikeLooks_4 C (r2 := b + 4) (x5 := 168) (e6 := by rw [wl4]; rfl) (kt := fun c => ?_) (kf := fun c => by omega)
      exact B_X5_unlikeLooks_31 C (hq := pq_i rfl)
    | succ m ih =>
      intro i hi
      have e4 : ((i + 1 : Nat) : Int) = (i : Int) + 1 := by omega
      have nx := ih (i + 1) (by omega)
      rw [e4] at nx
      have hl := f5 (i : Int) (by omega) (by omega)
      refine B_X5_unlikeLooks_4 C (r2 := b + 4) (x5 := 168) (e6 := by rw [wl4]; rfl) (kt := fun c => by omega) (kf := fun c => ?_)
      have es : sSum (gUnl st) (i + 1) = sSum (gUnl st) i + gUnl st i := rfl
      refine B_X5_unlikeLooks_13 C (r2 := b + 4) (x8 := st (Int.toNat (316 + (i : Int)))) (e9 := hl) (q10 := hb _) (kt := fun c2 => ?_) (kf := fun c2 => ?_)
      · refine B_X5_unlikeLooks_25 C (kk := ?_)
        have eg : gUnl st i = 0 := by unfold gUnl; rw [if_pos c2]
        rw [es, eg, Int.add_zero] at nx
        exact nx
      · refine B_X5_unlikeLooks_22 C (kk := ?_)
        refine B_X5_unlikeLooks_25 C (kk := ?_)
        have eg : gUnl st i = 1 := by unfold gUnl; rw [if_neg c2]
        rw [es, eg] at nx
        exact nx
  refine B_X5_unlikeLooks_0 C (kk := ?_)
  exact lp 168 0 (by omega)
/-- a bit isn't set -/
def bitP (a i : Int) : Prop := (zI ((zI a >>> (zI i &&& 31)).toInt) &&& zI 1).toInt = 0
def nx1 (v : Int) : Int := if v < 0 then -1 else v
theorem ct_X5_nextOpen (G : Gx) (l : Launch) (h : PH) {b : Nat} {st : ST} (hw : WS h b) (hR : WR h b st) (hS : OkS st) (h2 : Ok2 st) {tr beg beh : Int} (gt : pR tr) (hbit : ∀ i : Nat, (i : Int) < st 484 → 0 < st (Int.toNat (16 + (i : Int))) → st (Int.toNat (24 + (i : Int))) < 0 → (bitP tr i ↔ (beg < st (Int.toNat (8 + (i : Int))) ∨ (st (Int.toNat (8 + (i : Int))) = beg ∧ beh < i)))) : CT_X5_nextOpen G l [.inr b, .inl tr] h (pqI (nx1 (sNx st beg beh (Int.toNat (st 484)))) h) := by
  obtain ⟨⟨wt0, wt1, wt2, wt3, wt4⟩, ⟨wl1, wl2, wl4⟩, ⟨wr0, wr1, wr2, wr3⟩, wfl, winj, wmt⟩ := id hw
  obtain ⟨f1, f2, f3, f4, f5⟩ := id hR
  obtain ⟨hs, hb, hmany, hD, hPp⟩ := id hS
  refine ct_intro rfl (Nat.le_of_ble_eq_true rfl) (fun X hX C => ?_)
  have lp : ∀ (m i : Nat), (i : Int) + m = st 484 → PW G X 5 (pw_E G X (pqI (nx1 (sNx st beg beh (Int.toNat (st 484)))) h) 0 0) 0 0 4 [some (.inr b), some (.inl tr), some (.inl (nx1 (sNx st beg beh i))), some (.inl (i : Int)), none] [] h := by
    intro m
    induction m with
    | zero =>
      intro i hi
      refine B_X5_nextOpen_4 C (x2 := st 484) (e3 := f1) (kt := fun c => ?_) (kf := fun c => by omega)
      have e : Int.toNat (st 484) = i := by omega
      exact B_X5_nextOpen_77 C (hq := pq_i (by rw [e]))
    | succ m ih =>
      intro i hi
      have ei : Int.toNat (i : Int) = i := by omega
      have i8 : i < 8 := by omega
      have hF := f2 (i : Int) (by omega) (by omega)
      obtain ⟨hfs, j, hj, hjr⟩ := wfl i i8
      rw [ei] at hF
      have e4 : ((i + 1 : Nat) : Int) = (i : Int) + 1 := by omega
      have nx := ih (i + 1) (by omega)
      rw [e4] at nx
      have ht := (h2.1 (i : Int) (by omega) (by omega)).2.1
      have hsb := sNx_b (st := st) (beg := beg) (beh := beh) i
      have nxb : -1 ≤ nx1 (sNx st beg beh i) ∧ nx1 (sNx st beg beh i) < 8 := by unfold nx1; split <;> omega
      have no : ∀ a4 : Int, ¬ sNxC st beg beh (sNx st beg beh i) i → PW G X 5 (pw_E G X (pqI (nx1 (sNx st beg beh (Int.toNat (st 484)))) h) 0 0) 0 0 71 [some (.inr b), some (.inl tr), some (.inl (nx1 (sNx st beg beh i))), some (.inl (i : Int)), some (.inl a4)] [] h := by
        intro a4 hc
        refine B_X5_nextOpen_71 C (kk := ?_)
        rw [sNx_n hc] at nx
        exact nx
      have yes : ∀ a4 : Int, sNxC st beg beh (sNx st beg beh i) i → PW G X 5 (pw_E G X (pqI (nx1 (sNx st beg beh (Int.toNat (st 484)))) h) 0 0) 0 0 69 [some (.inr b), some (.inl tr), some (.inl (nx1 (sNx st beg beh i))), some (.inl (i : Int)), some (.inl a4)] [] h := by
        intro a4 hc
        refine B_X5_nextOpen_69 C (kk := ?_)
        refine B_X5_nextOpen_71 C (kk := ?_)
        rw [sNx_p hc] at nx
        have en : nx1 (i : Int) = i := by unfold nx1; rw [if_neg (by omega)]
        rw [en] at nx
        exact nx
      have shut : ¬ (0 < st (Int.toNat (16 + (i : Int))) ∧ st (Int.toNat (24 + (i : Int))) < 0) ∨ ¬ bitP tr i → PW G X 5 (pw_E G X (pqI (nx1 (sNx st beg beh (Int.toNat (st 484)))) h) 0 0) 0 0 36 [some (.inr b), some (.inl tr), some (.inl (nx1 (sNx st beg beh i))), some (.inl (i : Int)), none] [] h := by
        intro hz
        refine B_X5_nextOpen_36 C (kk := ?_)
        refine B_X5_nextOpen_37 C (kt := fun c => ?_) (kf := fun c => absurd rfl c)
        refine no 0 (fun hc => ?_)
        rcases hz with hz | hz
        · exact hz hc.1
        · exact hz ((hbit i (by omega) hc.1.1 hc.1.2).mpr hc.2.1)
      refine B_X5_nextOpen_4 C (x2 := st 484) (e3 := f1) (kt := fun c => by omega) (kf := fun c => ?_)
      refine B_X5_nextOpen_12 C (r2 := b + 1) (m8 := 10) (r9 := ph_R h (b + 1) i) (e10 := by rw [ei]) (t11 := hfs.1.1) (hM := ct_X0_isOpen _ _ _ hfs.1.1 hF.1.2.2.1 hF.1.2.2.2.1 (hb _) (hb _)) (kk := fun rr h' hq => ?_)
      obtain ⟨rfl, ⟨rfl, c2⟩ | ⟨rfl, c2⟩⟩ := hq
      · refine B_X5_nextOpen_21 C (kt := fun c => absurd c (by decide)) (kf := fun c => ?_)
        have op : 0 < st (Int.toNat (16 + (i : Int))) ∧ st (Int.toNat (24 + (i : Int))) < 0 := by omega
        refine B_X5_nextOpen_24 C (q1 := pR_of _) (kt := fun c3 => ?_) (kf := fun c3 => ?_)
        · exact shut (Or.inr c3)
        · have lat := (hbit i (by omega) op.1 op.2).mp c3
          refine B_X5_nextOpen_32 C (kk := ?_)
          refine B_X5_nextOpen_37 C (kt := fun c => absurd c (by decide)) (kf := fun c => ?_)
          by_cases z : sNx st beg beh i < 0
          · refine B_X5_nextOpen_44 C (kt := fun c4 => ?_) (kf := fun c4 => absurd (show nx1 (sNx st beg beh i) < 0 by unfold nx1; rw [if_pos z]; decide) c4)
            exact yes 1 ⟨op, lat, Or.inl z⟩
          · have en : nx1 (sNx st beg beh i) = sNx st beg beh i := by unfold nx1; rw [if_neg z]
            have hF2 := f2 (sNx st beg beh i) (by omega) (by omega)
            obtain ⟨hfs2, -⟩ := wfl (Int.toNat (sNx st beg beh i)) (by omega)
            refine B_X5_nextOpen_44 C (kt := fun c4 => by omega) (kf := fun c4 => ?_)
            refine B_X5_nextOpen_48 C (r2 := b + 1) (m8 := 10) (r9 := ph_R h (b + 1) i) (e10 := by rw [ei]) (t11 := hfs.1.1) (x12 := st (Int.toNat (8 + (i : Int)))) (e13 := hF.1.2.1) (r15 := b + 1) (m21 := 10) (q18 := by omega) (q19 := by rw [wl1]; omega) (q20 := by unfold pR; omega) (r22 := ph_R h (b + 1) (Int.toNat (sNx st beg beh i))) (e23 := by rw [en]) (t24 := hfs2.1.1) (x25 := st (Int.toNat (8 + sNx st beg beh i))) (e26 := hF2.1.2.1) (q27 := hb _) (q28 := hb _) (kt := fun c5 => ?_) (kf := fun c5 => ?_)
            · exact no 1 (fun hc => by rcases hc.2.2 with y | y <;> omega)
            · exact yes 1 ⟨op, lat, Or.inr (by omega)⟩
      · refine B_X5_nextOpen_21 C (kt := fun c => ?_) (kf := fun c => absurd rfl c)
        exact shut (Or.inl (by omega))
  refine B_X5_nextOpen_0 C (kk := ?_)
  exact lp (Int.toNat (st 484)) 0 (by omega)
