/-! the class: take, round -/
theorem sNx_open {st : ST} {b q : Int} : ∀ n : Nat, 0 ≤ sNx st b q n → 0 < st (Int.toNat (16 + sNx st b q n)) ∧ st (Int.toNat (24 + sNx st b q n)) < 0
  | 0, h => by
    have : sNx st b q 0 = -6 := rfl
    omega
  | n + 1, h => by
    by_cases c : sNxC st b q (sNx st b q n) n
    · rw [sNx_p c]; exact c.1
    · rw [sNx_n c] at h ⊢
      exact sNx_open n h
theorem ct_X6_take (G : Gx) (l : Launch) (h : PH) {st : ST} (hW : CW h st) {d : Int} (gd : pR d) {nm : Int} (gnm : pR nm) {B : Int} (hB : LkB st B) (B0 : B ≤ 900000000) : CT_X6_take G l [.inr 2, .inl d, .inl nm] h (KQ (TakeR st d nm) h) := by
  obtain ⟨fx, hR, hS, h2, hY⟩ := id hW
  have xt2 : ph_T h 2 = 6 := fx.1.1
  have x20 : ph_R h 2 0 = 3 := fx.1.2.1
  have x23 : ph_R h 2 3 = 104 := fx.1.2.2.2.2
  have w3 : WS h 3 := fx.2.2.1.1
  have t3 : ph_T h 3 = 5 := w3.1.1
  have t4 : ph_T h 4 = 10 := w3.1.2.1
  have t5 : ph_T h 5 = 11 := w3.1.2.2.1
  have t6 : ph_T h 6 = 3 := w3.1.2.2.2.1
  have t7 : ph_T h 7 = 8 := w3.1.2.2.2.2
  have l4 : ph_L h 4 = 8 := w3.2.1.1
  have l5 : ph_L h 5 = 4 := w3.2.1.2.1
  have l7 : ph_L h 7 = 168 := w3.2.1.2.2
  have r30 : ph_R h 3 0 = 4 := w3.2.2.1.1
  have r31 : ph_R h 3 1 = 5 := w3.2.2.1.2.1
  have r32 : ph_R h 3 2 = 6 := w3.2.2.1.2.2.1
  have r33 : ph_R h 3 3 = 7 := w3.2.2.1.2.2.2
  have t104 : ph_T h 104 = 2 := fx.2.2.2.1.1
  have f1 : ph_I h 3 4 = st 484 := hR.1
  have sr6 : SR h 6 st := hR.2.2.2.1
  have hmany := hS.2.2.1
  have hb := hS.2.1
  refine ct_intro rfl (Nat.le_of_ble_eq_true rfl) (fun X hX C => ?_)
  by_cases hp : 0 ≤ pOf st nm
  · have pb : 0 ≤ pOf st nm ∧ pOf st nm < st 484 := by have := pOf_b (st := st) nm hmany.1; omega
    obtain ⟨hfs, hfr, fb1, fb2⟩ := hW.flt pb
    have ft0 : ph_T h (ph_R h 4 (Int.toNat (pOf st nm))) = 0 := hfs.1.1
    obtain ⟨⟨fi2, fi3, fi4, fi5, fi6⟩, fpt⟩ := id hfr
    have hPp := hS.2.2.2.2 _ pb.1 pb.2
    have h2p := h2.1 _ pb.1 pb.2
    refine B_X6_take_0 C (hM := ct_idxP _ _ _ hW gnm hp) (kk := fun r1 h1 hq1 => ?_)
    obtain ⟨rfl, rfl⟩ := hq1
    refine B_X6_take_8 C (hM := ct_X6_isDish _ _ _) (kk := fun r2 h2 hq2 => ?_)
    obtain ⟨rfl, ⟨rfl, c2⟩ | ⟨rfl, c2⟩⟩ := hq2
    · refine B_X6_take_13 C (kt := fun c3 => absurd c3 (by decide)) (kf := fun c3 => ?_)
      refine B_X6_take_16 C (q1 := by unfold pR; omega) (kt := fun c4 => ?_) (kf := fun c4 => ?_)
      · refine B_X6_take_22 C (m11 := 10) (hM := ct_X0_isOpen _ _ _ ft0 fi4 fi5 (hb _) (hb _)) (kk := fun r5 h5 hq5 => ?_)
        obtain ⟨rfl, ⟨rfl, c5⟩ | ⟨rfl, c5⟩⟩ := hq5
        · refine B_X6_take_38 C (kt := fun c6 => ?_) (kf := fun c6 => absurd c6 (by decide))
          have hop : opn st (pOf st nm) := by unfold opn; omega
          have dd : 0 ≤ d ∧ d ≤ 3 := by omega
          obtain ⟨y, hy⟩ : ∃ y : Nat, y = 110 + 6 * Int.toNat d := ⟨_, rfl⟩
          have yb : 110 ≤ y ∧ y + 5 < 134 := by omega
          refine B_X6_take_44 C (r2 := 104) (hM := ct_X2_bestWay _ _ _ hW dd pb hop.1 hy rfl) (kk := fun r9 h1 hq9 => ?_)
          have er := hq9.1
          subst er
          obtain ⟨-, hW1, hS1, hWc, h51, -, -⟩ := hq9.cw hW dd pb hop.1 hy
          have xt2a : ph_T h1 2 = 6 := hW1.1.1.1
          have x20a : ph_R h1 2 0 = 3 := hW1.1.1.2.1
          have x23a : ph_R h1 2 3 = 104 := hW1.1.1.2.2.2.2
          have t3a : ph_T h1 3 = 5 := hW1.1.2.2.1.1.1.1
          have t4a : ph_T h1 4 = 10 := hW1.1.2.2.1.1.1.2.1
          have t5a : ph_T h1 5 = 11 := hW1.1.2.2.1.1.1.2.2.1
          have l4a : ph_L h1 4 = 8 := hW1.1.2.2.1.1.2.1.1
          have l5a : ph_L h1 5 = 4 := hW1.1.2.2.1.1.2.1.2.1
          have r30a : ph_R h1 3 0 = 4 := hW1.1.2.2.1.1.2.2.1.1
          have r31a : ph_R h1 3 1 = 5 := hW1.1.2.2.1.1.2.2.1.2.1
          have t104a : ph_T h1 104 = 2 := hW1.1.2.2.2.1.1
          have hY1 : YS h1 y := by
            have := (hW1.1.2.2.2.2.2 (Int.toNat d) (by omega)).2
            rw [← hy] at this
            exact this
          have ty1 : ph_T h1 y = 4 := hY1.1.1
          have ft1a : ph_T h1 (ph_R h 4 (Int.toNat (pOf st nm))) = 0 := by rw [hS1.T]; exact ft0
          have hfc1 : ph_R h 4 (Int.toNat (pOf st nm)) = ph_R h1 4 (Int.toNat (pOf st nm)) := (hS1.Rc (by decide) _).symm
          rcases id hWc with ⟨w6, wz, -⟩ | ⟨w6, wal, wpt, -⟩
          · refine B_X6_take_54 C (x3 := 0) (e4 := w6) (kt := fun c => absurd rfl c) (kf := fun c => ?_)
            exact B_X6_take_64 C (hq := KQ_s2 hW1 hS1 (Or.inr ⟨⟨dd, hp⟩, Or.inr ⟨hop, Or.inl ⟨wz, rfl, rfl⟩⟩⟩))
          · refine B_X6_take_54 C (x3 := 1) (e4 := w6) (kt := fun c => ?_) (kf := fun c => absurd c (by decide))
            refine B_X6_take_67 C (hM := ct_X6_goAlong _ _ _ hW1 hB (by omega) dd pb hy hfc1 h51 wal hWc) (kk := fun r8 h3 hq8 => ?_)
            obtain ⟨rfl, hW3, hC3, e6⟩ := hq8
            have ft3 : ph_T h3 (ph_R h 4 (Int.toNat (pOf st nm))) = 0 := by
              have : ph_T h3 (ph_R h 4 (Int.toNat (pOf st nm))) = ph_T h1 (ph_R h 4 (Int.toNat (pOf st nm))) := by unfold ph_T; rw [hC3.2.1]
              rw [this]; exact ft1a
            exact B_X6_take_76 C (x2 := _) (e3 := e6) (hq := ⟨_, _, rfl, Or.inr ⟨⟨dd, hp⟩, Or.inr ⟨hop, Or.inr ⟨wal, rfl, _, _, wpt, rfl⟩⟩⟩, hW3, (SFr.cfr hS1 (fun c hc => Or.inr hc)).tr hC3⟩)
        · refine B_X6_take_38 C (kt := fun c7 => absurd c7 (by decide)) (kf := fun c7 => ?_)
          exact B_X6_take_41 C (hq := by exact KQ_same hW (Or.inr ⟨⟨by unfold isD; omega, hp⟩, Or.inl ⟨by unfold opn; omega, rfl, rfl⟩⟩))
      · exact B_X6_take_20 C (hq := by exact KQ_same hW (Or.inl ⟨fun z => by have := z.1; unfold isD at this; omega, rfl, rfl⟩))
    · refine B_X6_take_13 C (kt := fun c8 => ?_) (kf := fun c8 => absurd c8 (by decide))
      exact B_X6_take_20 C (hq := by exact KQ_same hW (Or.inl ⟨fun z => by have := z.1; unfold isD at this; omega, rfl, rfl⟩))
  · refine B_X6_take_0 C (hM := ct_idxN _ _ _ hW gnm hp) (kk := fun r1 h1 hq1 => ?_)
    obtain ⟨rfl, rfl⟩ := hq1
    refine B_X6_take_8 C (hM := ct_X6_isDish _ _ _) (kk := fun r2 h2 hq2 => ?_)
    obtain ⟨rfl, ⟨rfl, c2⟩ | ⟨rfl, c2⟩⟩ := hq2
    · refine B_X6_take_13 C (kt := fun c3 => absurd c3 (by decide)) (kf := fun c3 => ?_)
      refine B_X6_take_16 C (kt := fun c4 => ?_) (kf := fun c4 => ?_)
      · omega
      · exact B_X6_take_20 C (hq := by exact KQ_same hW (Or.inl ⟨fun z => hp z.2, rfl, rfl⟩))
    · refine B_X6_take_13 C (kt := fun c5 => ?_) (kf := fun c5 => absurd c5 (by decide))
      exact B_X6_take_20 C (hq := by exact KQ_same hW (Or.inl ⟨fun z => hp z.2, rfl, rfl⟩))
theorem bit_tab : ∀ t : Fin 256, ∀ i : Fin 8, (((zI ((zI ((t.val : Nat) : Int) >>> (zI ((i.val : Nat) : Int) &&& 31)).toInt) &&& zI 1).toInt = 0) ↔ Nat.testBit t.val i.val = false) ∧ ((zI ((t.val : Nat) : Int) ||| zI ((zI 1 <<< (zI ((i.val : Nat) : Int) &&& 31)).toInt)).toInt = ((t.val ||| 1 <<< i.val : Nat) : Int)) ∧ (t.val ||| 1 <<< i.val) < 256 := by decide +kernel
theorem bit_get {t i : Nat} (ht : t < 256) (hi : i < 8) : bitP (t : Int) (i : Int) ↔ Nat.testBit t i = false := (bit_tab ⟨t, ht⟩ ⟨i, hi⟩).1
theorem bit_or {t i : Nat} (ht : t < 256) (hi : i < 8) : (zI (t : Int) ||| zI ((zI 1 <<< (zI (i : Int) &&& 31)).toInt)).toInt = ((t ||| 1 <<< i : Nat) : Int) ∧ (t ||| 1 <<< i) < 256 := (bit_tab ⟨t, ht⟩ ⟨i, hi⟩).2
theorem bit_set {t p i : Nat} : Nat.testBit (t ||| 1 <<< p) i = (Nat.testBit t i || decide (i = p)) := by
  rw [Nat.testBit_or, Nat.one_shiftLeft, Nat.testBit_two_pow]
  congr 1
  exact decide_eq_decide.mpr ⟨fun h => h.symm, fun h => h.symm⟩
def ltr (st : ST) (b q : Int) (i : Nat) : Prop := b < st (Int.toNat (8 + (i : Int))) ∨ (st (Int.toNat (8 + (i : Int))) = b ∧ q < i)
theorem sNx_min {st : ST} {b q : Int} : ∀ n : Nat, ∀ i : Nat, i < n → 0 < st (Int.toNat (16 + (i : Int))) → st (Int.toNat (24 + (i : Int))) < 0 → ltr st b q i → 0 ≤ sNx st b q n ∧ (st (Int.toNat (8 + sNx st b q n)) < st (Int.toNat (8 + (i : Int))) ∨ (st (Int.toNat (8 + sNx st b q n)) = st (Int.toNat (8 + (i : Int))) ∧ sNx st b q n ≤ i))
  | 0, i, hi, _, _, _ => by omega
  | n + 1, i, hi, o1, o2, lt => by
    have hb := sNx_b (st := st) (beg := b) (beh := q) n
    by_cases z : i = n
    · subst z
      by_cases c : sNxC st b q (sNx st b q i) i
      · rw [sNx_p c]
        exact ⟨by omega, Or.inr ⟨rfl, Int.le_refl _⟩⟩
      · rw [sNx_n c]
        have hz : ¬ (sNx st b q i < 0 ∨ st (Int.toNat (8 + (i : Int))) < st (Int.toNat (8 + sNx st b q i))) := fun y => c ⟨⟨o1, o2⟩, lt, y⟩
        refine ⟨by omega, ?_⟩
        by_cases y : st (Int.toNat (8 + sNx st b q i)) < st (Int.toNat (8 + (i : Int)))
        · exact Or.inl y
        · exact Or.inr ⟨by omega, by omega⟩
    · have ih := sNx_min (b := b) (q := q) n i (by omega) o1 o2 lt
      by_cases c : sNxC st b q (sNx st b q n) n
      · rw [sNx_p c]
        refine ⟨by omega, ?_⟩
        rcases c.2.2 with y | y
        · omega
        · rcases ih.2 with x | x
          · left; omega
          · left; omega
      · rw [sNx_n c]
        exact ih
/-- an open pass, tried or not -/
def BtI (st : ST) (b q : Int) (t : Nat) : Prop := ∀ i : Nat, (i : Int) < st 484 → 0 < st (Int.toNat (16 + (i : Int))) → st (Int.toNat (24 + (i : Int))) < 0 → (Nat.testBit t i = false ↔ ltr st b q i)
theorem BtI_next {st st1 : ST} {b q : Int} {t p : Nat} (m : 0 ≤ st 484 ∧ st 484 ≤ 8) (hb : BtI st b q t) (hp : sNx st b q (Int.toNat (st 484)) = p) (k : ∀ j : Nat, j < 24 → st1 j = st j) (e : st1 484 = st 484) (k24 : ∀ i : Nat, (i : Int) < st 484 → i ≠ p → st1 (Int.toNat (24 + (i : Int))) = st (Int.toNat (24 + (i : Int)))) : BtI st1 (st (Int.toNat (8 + (p : Int)))) p (t ||| 1 <<< p) := by
  intro i hi o1 o2
  rw [e] at hi
  rw [k _ (by omega)] at o1
  have e8 : st1 (Int.toNat (8 + (i : Int))) = st (Int.toNat (8 + (i : Int))) := k _ (by omega)
  rw [bit_set]
  unfold ltr
  rw [e8]
  by_cases z : i = p
  · subst z
    have : decide (i = i) = true := decide_eq_true rfl
    rw [this, Bool.or_true]
    constructor
    · intro h; exact absurd h (by decide)
    · intro h; omega
  · have dz : decide (i = p) = false := decide_eq_false z
    rw [dz, Bool.or_false]
    rw [k24 i hi z] at o2
    rw [hb i hi o1 o2]
    have lat := sNx_lat (st := st) (b := b) (q := q) (Int.toNat (st 484)) (by rw [hp]; omega)
    rw [hp] at lat
    constructor
    · intro h
      have := (sNx_min (Int.toNat (st 484)) i (by omega) o1 o2 h).2
      rw [hp] at this
      rcases this with y | ⟨y1, y2⟩
      · left; exact y
      · right; exact ⟨y1.symm, by omega⟩
    · intro h
      unfold ltr
      rcases h with y | ⟨y1, y2⟩
      · rcases lat with x | ⟨x1, x2⟩
        · left; omega
        · left; omega
      · rcases lat with x | ⟨x1, x2⟩
        · left; omega
        · right; exact ⟨by omega, by omega⟩
theorem ct_X6_round (G : Gx) (l : Launch) (h : PH) {st : ST} (hW : CW h st) {B : Int} (hB : LkB st B) (B0 : B ≤ 900000000) : CT_X6_round G l [.inr 2] h (KQ (fun v st' => RnR 8 st (-1) (-6) st' v) h) := by
  have hS0 := hW.2.2.1
  refine ct_intro rfl (Nat.le_of_ble_eq_true rfl) (fun X hX C => ?_)
  have lp : ∀ (m k : Nat) (h1 : PH) (s1 : ST) (b q a B1 : Int) (t : Nat), k + m = 8 → CW h1 s1 → CFr h h1 → LkB s1 B1 → B1 + 80 * (m : Int) ≤ 900001000 → BtI s1 b q t → t < 256 → (0 ≤ a ∧ a ≤ k) → (∀ st' a', RnR m s1 b q st' a' → RnR 8 st (-1) (-6) st' (a + a')) → PW G X 7 (pw_E G X (KQ (fun v st' => RnR 8 st (-1) (-6) st' v) h) 0 0) 0 0 6 [some (.inr 2), some (.inl (t : Int)), some (.inl a), some (.inl (k : Int)), none, none, none] [] h1 := by
    intro m
    induction m with
    | zero =>
      intro k h1 s1 b q a B1 t hk hW1 hC1 hL hB1 hT ht ha K
      refine B_X6_round_6 C (kt := fun c => ?_) (kf := fun c => by omega)
      have := K s1 0 ⟨rfl, rfl⟩
      rw [Int.add_zero] at this
      exact B_X6_round_110 C (hq := ⟨a, s1, rfl, this, hW1, hC1⟩)
    | succ m ih =>
      intro k h1 s1 b q a B1 t hk hW1 hC1 hL hB1 hT ht ha K
      have xt2a : ph_T h1 2 = 6 := hW1.1.1.1
      have x20a : ph_R h1 2 0 = 3 := hW1.1.1.2.1
      have x23a : ph_R h1 2 3 = 104 := hW1.1.1.2.2.2.2
      have t3a : ph_T h1 3 = 5 := hW1.1.2.2.1.1.1.1
      have t4a : ph_T h1 4 = 10 := hW1.1.2.2.1.1.1.2.1
      have t5a : ph_T h1 5 = 11 := hW1.1.2.2.1.1.1.2.2.1
      have l4a : ph_L h1 4 = 8 := hW1.1.2.2.1.1.2.1.1
      have l5a : ph_L h1 5 = 4 := hW1.1.2.2.1.1.2.1.2.1
      have r30a : ph_R h1 3 0 = 4 := hW1.1.2.2.1.1.2.2.1.1
      have r31a : ph_R h1 3 1 = 5 := hW1.1.2.2.1.1.2.2.1.2.1
      have t104a : ph_T h1 104 = 2 := hW1.1.2.2.2.1.1
      
      have hS := hW1.2.2.1
      have h2 := hW1.2.2.2.1
      have hmany := hS.2.2.1
      have hbx := sNx_b (st := s1) (beg := b) (beh := q) (Int.toNat (s1 484))
      refine B_X6_round_6 C (kt := fun c => by omega) (kf := fun c => ?_)
      refine B_X6_round_12 C (r2 := 3) (hM := ct_X5_nextOpen _ _ _ hW1.1.2.2.1.1 hW1.2.1 hS h2 (tr := (t : Int)) (beg := b) (beh := q) (by unfold pR; omega) (fun i hi o1 o2 => (bit_get ht (by omega)).trans (hT i hi o1 o2))) (kk := fun r9 h3 hq9 => ?_)
      obtain ⟨rfl, rfl⟩ := hq9
      by_cases hp : sNx s1 b q (Int.toNat (s1 484)) < 0
      · have en : nx1 (sNx s1 b q (Int.toNat (s1 484))) = -1 := by unfold nx1; rw [if_pos hp]
        rw [en]
        refine B_X6_round_20 C (kt := fun c2 => absurd c2 (by decide)) (kf := fun c2 => ?_)
        refine B_X6_round_27 C (kk := ?_)
        have := K s1 0 (Or.inl ⟨hp, rfl, rfl⟩)
        rw [Int.add_zero] at this
        exact B_X6_round_110 C (hq := ⟨a, s1, rfl, this, hW1, hC1⟩)
      · have en : nx1 (sNx s1 b q (Int.toNat (s1 484))) = sNx s1 b q (Int.toNat (s1 484)) := by unfold nx1; rw [if_neg hp]
        obtain ⟨p, ep⟩ := Int.eq_ofNat_of_zero_le (show 0 ≤ sNx s1 b q (Int.toNat (s1 484)) by omega)
        have ep' : sNx s1 b q (Int.toNat (s1 484)) = (p : Int) := ep
        rw [en, ep']
        have pb : 0 ≤ (p : Int) ∧ (p : Int) < s1 484 := by omega
        have p8 : p < 8 := by omega
        have epn : Int.toNat (p : Int) = p := by omega
        obtain ⟨hfs, hfr, fb1, fb2⟩ := hW1.flt pb
        have ft0 := hfs.1.1
        have hop := sNx_open (st := s1) (b := b) (q := q) (Int.toNat (s1 484)) (by omega)
        rw [ep'] at hop
        have hob := sOf_b hS pb 4 (by omega)
        obtain ⟨bo1, bo2⟩ := bit_or (i := p) ht p8
        refine B_X6_round_20 C (kt := fun c2 => ?_) (kf := fun c2 => by omega)
        refine B_X6_round_30 C (r2 := 3) (r5 := 4) (m11 := 10) (r12 := ph_R h1 4 (Int.toNat (p : Int))) (e13 := rfl) (hM := ct_X6_bestDish _ _ _ hW1 pb hop.1 rfl) (kk := fun r8 h3 hq8 => ?_)
        obtain ⟨rfl, hW3, hS3, hc3⟩ := hq8
        rw [bo1]
        have xt2b : ph_T h3 2 = 6 := hW3.1.1.1
        have x20b : ph_R h3 2 0 = 3 := hW3.1.1.2.1
        have x23b : ph_R h3 2 3 = 104 := hW3.1.1.2.2.2.2
        have t3b : ph_T h3 3 = 5 := hW3.1.2.2.1.1.1.1
        have t4b : ph_T h3 4 = 10 := hW3.1.2.2.1.1.1.2.1
        have t5b : ph_T h3 5 = 11 := hW3.1.2.2.1.1.1.2.2.1
        have l4b : ph_L h3 4 = 8 := hW3.1.2.2.1.1.2.1.1
        have l5b : ph_L h3 5 = 4 := hW3.1.2.2.1.1.2.1.2.1
        have r30b : ph_R h3 3 0 = 4 := hW3.1.2.2.1.1.2.2.1.1
        have r31b : ph_R h3 3 1 = 5 := hW3.1.2.2.1.1.2.2.1.2.1
        have t104b : ph_T h3 104 = 2 := hW3.1.2.2.2.1.1
        
        have hC3 : CFr h h3 := hC1.tr (SFr.cfr hS3 (fun c hc => Or.inr hc))
        have nxt : ∀ (h5 : PH) (s2 : ST) (a1 : Int) (a5 : Nat) (a6 : Int), Trn s1 p s2 a1 → CW h5 s2 → CFr h h5 → (∀ i : Nat, (i : Int) < s1 484 → i ≠ p → s2 (Int.toNat (24 + (i : Int))) = s1 (Int.toNat (24 + (i : Int)))) → PW G X 7 (pw_E G X (KQ (fun v st' => RnR 8 st (-1) (-6) st' v) h) 0 0) 0 0 104 [some (.inr 2), some (.inl ((t ||| 1 <<< p : Nat) : Int)), some (.inl (a + a1)), some (.inl (k : Int)), some (.inl (p : Int)), some (.inr a5), some (.inl a6)] [] h5 := by
          intro h5 s2 a1 a5 a6 htr hW5 hC5 k24
          obtain ⟨ok1, ok2, ok3, ok4, ok5⟩ := Trn.ok hS hL (by omega) pb htr
          have e1 : ((k + 1 : Nat) : Int) = (k : Int) + 1 := by omega
          refine B_X6_round_104 C (kk := ?_)
          have nx := ih (k + 1) h5 s2 (s1 (Int.toNat (8 + (p : Int)))) p (a + a1) (B1 + 80) (t ||| 1 <<< p) (by omega) hW5 hC5 ok2 (by omega) (BtI_next hmany hT ep' ok3 ok4 k24) bo2 (by omega) (fun st' a' hr => by
            have := K st' (a1 + a') (Or.inr ⟨by omega, s2, a1, a', by rw [ep']; exact htr, by rw [ep']; exact hr, rfl⟩)
            rw [← Int.add_assoc] at this
            exact this)
          rw [e1] at nx
          exact nx
        refine B_X6_round_55 C (hM := ct_X6_isDish _ _ _ (by unfold pR; omega)) (kk := fun r7 h7 hq7 => ?_)
        obtain ⟨rfl, ⟨rfl, c3⟩ | ⟨rfl, c3⟩⟩ := hq7
        · refine B_X6_round_62 C (kt := fun c => absurd c (by decide)) (kf := fun c => ?_)
          obtain ⟨j, hj⟩ := Int.eq_ofNat_of_zero_le c3.1
          have ej : Int.toNat (sOf s1 p 4).1 = j := by omega
          have hfc3 : ph_R h1 4 (Int.toNat (p : Int)) = ph_R h3 4 (Int.toNat (p : Int)) := (hS3.Rc (by decide) _).symm
          refine B_X6_round_65 C (r2 := 104) (hM := ct_X2_bestWay _ _ _ hW3 c3 pb hop.1 (y := 110 + 6 * j) (by rw [ej]) hfc3) (kk := fun r9 h5 hq5 => ?_)
          have er := hq5.1
          subst er
          obtain ⟨-, -, -, -, -, -, hit⟩ := hq5.cw hW3 c3 pb hop.1 (by rw [ej])
          have := hit (hc3 j (by omega))
          subst this
          have wcj := hW3.wc (d := j) (by omega) pb (hc3 j (by omega))
          rw [← hj] at wcj
          have tyj : ph_T h5 (110 + 6 * j) = 4 := (hW3.1.2.2.2.2.2 j (by omega)).2.1.1
          rcases id wcj with ⟨v6, vz, -⟩ | ⟨v6, val, vpt, -, ⟨v10, v11, vb1, vb2, vb3, vb4⟩, -⟩
          · omega
          · refine B_X6_round_76 C (x2 := ph_I h5 (110 + 6 * j) 10) (e3 := rfl) (q4 := by unfold pR; omega) (kt := fun c4 => ?_) (kf := fun c4 => ?_)
            · have := nxt h5 s1 0 (ph_R h1 4 (Int.toNat (p : Int))) (sOf s1 p 4).1 (Or.inl ⟨fun z => by have := z.2; omega, rfl, rfl⟩) hW3 hC3 (fun i hi hne => rfl)
              rw [Int.add_zero] at this
              exact this
            · refine B_X6_round_82 C (r2 := 104) (hM := ct_X2_bestWay _ _ _ hW3 c3 pb hop.1 (y := 110 + 6 * j) (by rw [ej]) hfc3) (kk := fun r9 h8 hq8 => ?_)
              have er := hq8.1
              subst er
              obtain ⟨-, -, -, -, -, -, hit2⟩ := hq8.cw hW3 c3 pb hop.1 (by rw [ej])
              have := hit2 (hc3 j (by omega))
              subst this
              refine B_X6_round_98 C (hM := ct_X6_goAlong _ _ _ hW3 hL (by omega) c3 pb (by rw [ej]) hfc3 (hc3 j (by omega)) val wcj) (kk := fun r6 h9 hq6 => ?_)
              obtain ⟨rfl, hW9, hC9, -⟩ := hq6
              refine B_X6_round_101 C (kk := ?_)
              have htr : Trn s1 p (sTk s1 (sOf s1 p 4).1 p (ph_I h8 (110 + 6 * j + 1)) (ph_I h8 (110 + 6 * j + 2))) 1 := Or.inr ⟨⟨c3.1, by omega⟩, rfl, _, _, vpt, rfl⟩
              have hr2 : ∀ i : Nat, i < Int.toNat (s1 (Int.toNat (8 + (p : Int))) + s1 (Int.toNat (16 + (p : Int))) - 1 + 1 - s1 (Int.toNat (304 + (sOf s1 p 4).1))) → 0 ≤ ph_I h8 (110 + 6 * j + 2) (Int.toNat (s1 (Int.toNat (304 + (sOf s1 p 4).1)) + i)) ∧ ph_I h8 (110 + 6 * j + 2) (Int.toNat (s1 (Int.toNat (304 + (sOf s1 p 4).1)) + i)) ≤ 6 := fun i hi => (vpt.2.2.2 (s1 (Int.toNat (304 + (sOf s1 p 4).1)) + i) (by omega) (by omega)).2
              have kt := (Ok2_take (r1 := ph_I h8 (110 + 6 * j + 1)) hS h2 c3 pb hr2).1
              exact nxt h9 _ 1 (ph_R h1 4 (Int.toNat (p : Int))) (sOf s1 p 4).1 htr hW9 (hC3.tr hC9) (fun i hi hne => kt _ (by omega) (by omega) (by omega))
        · refine B_X6_round_62 C (kt := fun c => ?_) (kf := fun c => absurd rfl c)
          have := nxt h3 s1 0 (ph_R h1 4 (Int.toNat (p : Int))) (sOf s1 p 4).1 (Or.inl ⟨fun z => by have := z.1; omega, rfl, rfl⟩) hW3 hC3 (fun i hi hne => rfl)
          rw [Int.add_zero] at this
          exact this
  refine B_X6_round_0 C (kk := ?_)
  refine lp 8 0 h st (-1) (-6) 0 B 0 (by omega) hW (CFr.rf h) hB (by omega) (fun i hi o1 o2 => ?_) (by omega) (by omega) (fun st' a' hr => by rw [Int.zero_add]; exact hr)
  have hbg := (hS0.2.2.2.2 (i : Int) (by omega) hi).1
  rw [Nat.zero_testBit]
  unfold ltr
  exact ⟨fun _ => by omega, fun _ => rfl⟩
