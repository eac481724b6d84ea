/-! the reference: what may be scratched, lay of a whole pass, who is open, the offer -/
def OkD (st : ST) (d : Int) : Prop := (12 ≤ st (Int.toNat (308 + d)) ∧ st (Int.toNat (308 + d)) ≤ 36) ∧ (1 ≤ st (Int.toNat (312 + d)) ∧ st (Int.toNat (312 + d)) ≤ 3) ∧ (0 ≤ st (Int.toNat (304 + d)) ∧ st (Int.toNat (304 + d)) ≤ 79) ∧ zabs (st (Int.toNat (296 + d))) ≤ st (Int.toNat (308 + d)) ∧ (0 ≤ st (Int.toNat (300 + d)) ∧ st (Int.toNat (300 + d)) ≤ 6)
def OkP (st : ST) (p : Int) : Prop := (0 ≤ st (Int.toNat (8 + p)) ∧ st (Int.toNat (8 + p)) ≤ 60) ∧ (0 ≤ st (Int.toNat (16 + p)) ∧ st (Int.toNat (16 + p)) ≤ 16)
/-- the row's numbers are as they can be -/
def OkS (st : ST) : Prop := okSky st ∧ (∀ j, pR (st j)) ∧ (0 ≤ st 484 ∧ st 484 ≤ 8) ∧ (∀ d : Int, 0 ≤ d → d ≤ 3 → OkD st d) ∧ ∀ p : Int, 0 ≤ p → p < st 484 → OkP st p
/-- only what a lay and a walk scribble on has changed -/
def Scr (h h' : PH) : Prop := h'.1 = h.1 ∧ h'.2.1 = h.2.1 ∧ h'.2.2.1 = h.2.2.1 ∧ h'.2.2.2.2 = h.2.2.2.2 ∧ ∀ c, c ≠ 134 → c ≠ 138 → c ≠ 139 → c ≠ 140 → c ≠ 141 → ∀ k, ph_I h' c k = ph_I h c k
theorem Scr.rf (h : PH) : Scr h h := ⟨rfl, rfl, rfl, rfl, fun _ _ _ _ _ _ _ => rfl⟩
theorem Scr.tr {a b c : PH} (h1 : Scr a b) (h2 : Scr b c) : Scr a c := ⟨h2.1.trans h1.1, h2.2.1.trans h1.2.1, h2.2.2.1.trans h1.2.2.1, h2.2.2.2.1.trans h1.2.2.2.1, fun c a1 a2 a3 a4 a5 k => (h2.2.2.2.2 c a1 a2 a3 a4 a5 k).trans (h1.2.2.2.2 c a1 a2 a3 a4 a5 k)⟩
theorem Scr.st {h h' : PH} (s : Scr h h') : ph_I h' 135 = ph_I h 135 := funext fun k => s.2.2.2.2 135 (by decide) (by decide) (by decide) (by decide) (by decide) k
theorem Scr.mf {h h' : PH} (s : Scr h h') (hm : MF h) : MF h' := by
  obtain ⟨s1, s2, s3, s4, -⟩ := s
  have eT : ∀ c, ph_T h' c = ph_T h c := fun c => by unfold ph_T; rw [s2]
  have eL : ∀ c, ph_L h' c = ph_L h c := fun c => by unfold ph_L; rw [s3]
  have eR : ∀ c k, ph_R h' c k = ph_R h c k := fun c k => by unfold ph_R; rw [s4]
  unfold MF at *
  simp only [eT, eL, eR]
  exact hm
theorem Scr.setI {h h' : PH} (s : Scr h h') (k : Nat) (v : Int) : Scr h (ph_setI h' 134 k v) := ⟨s.1, s.2.1, s.2.2.1, s.2.2.2.1, fun c a1 a2 a3 a4 a5 j => by
  have e : ph_I (ph_setI h' 134 k v) c j = ph_I h' c j := by simp [ph_I, ph_setI, a1]
  rw [e]; exact s.2.2.2.2 c a1 a2 a3 a4 a5 j⟩
theorem Scr.row {h h' : PH} (s : Scr h h') {c0 : Nat} (hc : c0 = 138 ∨ c0 = 139 ∨ c0 = 140 ∨ c0 = 141) (r : Nat → Int) : Scr h (ph_rowI h' c0 r) := ⟨s.1, s.2.1, s.2.2.1, s.2.2.2.1, fun c a1 a2 a3 a4 a5 j => by
  have e : ph_I (ph_rowI h' c0 r) c j = ph_I h' c j := by
    have : ¬ c = c0 := by omega
    simp [ph_I, ph_rowI, this]
  rw [e]; exact s.2.2.2.2 c a1 a2 a3 a4 a5 j⟩
theorem Scr.lay (h : PH) (d p f n : Int) (row : Nat → Int) : Scr h (ph_rowI (layH h d p f n) 138 row) := Scr.row (((((Scr.rf h).setI 4 d).setI 5 p).setI 6 n).setI 7 f) (Or.inl rfl) row
theorem Scr.wk {h h' : PH} (s : Scr h h') (r1 r2 r3 : Nat → Int) : Scr h (WH h' r1 r2 r3) := ((s.row (Or.inr (Or.inl rfl)) r1).row (Or.inr (Or.inr (Or.inl rfl))) r2).row (Or.inr (Or.inr (Or.inr rfl))) r3
theorem ct_X7_layAll (G : Gx) (l : Launch) (h : PH) {d p : Int} (hm : MF h) (hS : OkS (ph_I h 135)) (d0 : 0 ≤ d ∧ d ≤ 3) (p0 : 0 ≤ p ∧ p < ph_I h 135 484) : CT_X7_layAll G l [.inr 134, .inl d, .inl p] h (pqLay h d p 0 (ph_I h 135 (Int.toNat (16 + p)))) := by
  obtain ⟨⟨tt0, r0, r1, r2, r3, r8, r9, r10⟩, ⟨t1, t2, t3, t4, t5, t6, t7⟩, ⟨l1, l2, l3, l4, l5, l6, l7⟩⟩ := id hm
  obtain ⟨s1, s2, s3, s4, s5⟩ := hS
  obtain ⟨g1, g2, g3, g4, g5⟩ := s4 d d0.1 d0.2
  obtain ⟨g6, g7⟩ := s5 p p0.1 p0.2
  refine ct_intro rfl (Nat.le_of_ble_eq_true rfl) (fun X hX C => ?_)
  refine B_X7_layAll_0 C (hM := ct_X7_lay _ _ _ hm s1 s2 d0 g1 g2 g3 g4 g5 (by omega) (by omega) g7 g6) (kk := fun rr h' hq => ?_)
  obtain ⟨rfl, hq⟩ := hq
  exact B_X7_layAll_16 C (hq := ⟨rfl, hq⟩)
theorem ct_X7_isOpen (G : Gx) (l : Launch) (h : PH) {p : Int} (hm : MF h) (hb : ∀ j, pR (ph_I h 135 j)) (p0 : 0 ≤ p ∧ p ≤ 7 := by first | assumption | omega) : CT_X7_isOpen G l [.inr 134, .inl p] h (pqB (0 < ph_I h 135 (Int.toNat (16 + p)) ∧ ph_I h 135 (Int.toNat (24 + p)) < 0) h) := by
  obtain ⟨⟨tt0, r0, r1, r2, r3, r8, r9, r10⟩, ⟨t1, t2, t3, t4, t5, t6, t7⟩, ⟨l1, l2, l3, l4, l5, l6, l7⟩⟩ := id hm
  refine ct_intro rfl (Nat.le_of_ble_eq_true rfl) (fun X hX C => ?_)
  refine B_X7_isOpen_0 C (q10 := hb _) (kt := fun c1 => ?_) (kf := fun c1 => ?_)
  · refine B_X7_isOpen_28 C (kk := ?_)
    exact B_X7_isOpen_29 C (hq := by first | exact ⟨rfl, Or.inl ⟨rfl, by omega⟩⟩ | exact ⟨rfl, Or.inr ⟨rfl, by omega⟩⟩)
  · refine B_X7_isOpen_12 C (q10 := hb _) (kt := fun c2 => ?_) (kf := fun c2 => ?_)
    · refine B_X7_isOpen_28 C (kk := ?_)
      exact B_X7_isOpen_29 C (hq := by first | exact ⟨rfl, Or.inl ⟨rfl, by omega⟩⟩ | exact ⟨rfl, Or.inr ⟨rfl, by omega⟩⟩)
    · refine B_X7_isOpen_24 C (kk := ?_)
      exact B_X7_isOpen_29 C (hq := by first | exact ⟨rfl, Or.inl ⟨rfl, by omega⟩⟩ | exact ⟨rfl, Or.inr ⟨rfl, by omega⟩⟩)
def sT (r3 : Nat → Int) (fl free : Int) : Nat → Int
  | 0 => -6
  | k + 1 => if r3 (Int.toNat (free + k)) ≠ 0 ∧ (fl ≠ 0 ∨ sT r3 fl free k < 0) then free + k else sT r3 fl free k
theorem sT_b {r3 : Nat → Int} {fl free : Int} (hf : 0 ≤ free ∧ free ≤ 79) : ∀ k : Nat, -6 ≤ sT r3 fl free k ∧ sT r3 fl free k ≤ 79 + k
  | 0 => ⟨by unfold sT; omega, by unfold sT; omega⟩
  | k + 1 => by
    have := sT_b (r3 := r3) (fl := fl) hf k
    unfold sT
    split <;> omega
theorem lp_X7_seenTick {G : Gx} {X : Cx} {h : PH} {d p n fl : Int} (C : CX_X7_seenTick G X) (hm : MF h) (hd : ph_I h 134 4 = d) (hp : ph_I h 134 5 = p) (hn : ph_I h 134 6 = n) (d0 : 0 ≤ d ∧ d ≤ 3) (p0 : 0 ≤ p ∧ p ≤ 7) (n0 : 0 ≤ n ∧ n ≤ 16) (fl0 : fl = 0 ∨ fl = 1) (fr0 : 0 ≤ ph_I h 135 (Int.toNat (304 + d)) ∧ ph_I h 135 (Int.toNat (304 + d)) ≤ 79) (b0 : 0 ≤ ph_I h 135 (Int.toNat (8 + p)) ∧ ph_I h 135 (Int.toNat (8 + p)) ≤ 60) (hr : ∀ t : Int, (ph_I h 135 (Int.toNat (304 + d))) ≤ t → t ≤ (ph_I h 135 (Int.toNat (8 + p)) + n - 1) → pR (ph_I h 141 (Int.toNat t))) :
    ∀ (m k : Nat), (ph_I h 135 (Int.toNat (304 + d))) + k + m = (ph_I h 135 (Int.toNat (8 + p)) + n - 1) + 1 → PW G X 4 (pw_E G X (pqI (sT (ph_I h 141) fl (ph_I h 135 (Int.toNat (304 + d))) (Int.toNat ((ph_I h 135 (Int.toNat (8 + p)) + n - 1) + 1 - (ph_I h 135 (Int.toNat (304 + d)))))) h) 0 0) 0 0 17 [some (.inr 134), some (.inl fl), some (.inl (sT (ph_I h 141) fl (ph_I h 135 (Int.toNat (304 + d))) k)), some (.inl ((ph_I h 135 (Int.toNat (304 + d))) + k))] [] h := by
  obtain ⟨⟨tt0, r0, r1, r2, r3, r8, r9, r10⟩, ⟨t1, t2, t3, t4, t5, t6, t7⟩, ⟨l1, l2, l3, l4, l5, l6, l7⟩⟩ := id hm
  intro m
  induction m with
  | zero =>
    intro k hk
    refine B_X7_seenTick_17 C (hM := ct_X7_lastTick (p := p) (n := n) _ _ _ hm hp hn) (kk := fun rr h' hq => ?_)
    obtain ⟨rfl, rfl⟩ := hq
    refine B_X7_seenTick_22 C (kt := fun c1 => ?_) (kf := fun c1 => by omega)
    have e : k = Int.toNat ((ph_I h 135 (Int.toNat (8 + p)) + n - 1) + 1 - (ph_I h 135 (Int.toNat (304 + d)))) := by omega
    rw [e]
    exact B_X7_seenTick_54 C (hq := ⟨rfl, rfl⟩)
  | succ m ih =>
    intro k hk
    have sb := sT_b (r3 := ph_I h 141) (fl := fl) fr0 k
    have e1 : (ph_I h 135 (Int.toNat (304 + d))) + ((k + 1 : Nat) : Int) = (ph_I h 135 (Int.toNat (304 + d))) + (k : Int) + 1 := by omega
    have nx := ih (k + 1) (by omega)
    rw [e1] at nx
    refine B_X7_seenTick_17 C (hM := ct_X7_lastTick (p := p) (n := n) _ _ _ hm hp hn) (kk := fun rr h' hq => ?_)
    obtain ⟨rfl, rfl⟩ := hq
    refine B_X7_seenTick_22 C (kt := fun c1 => by omega) (kf := fun c1 => ?_)
    refine B_X7_seenTick_25 C (q10 := hr _ (by omega) (by omega)) (kt := fun c2 => ?_) (kf := fun c2 => ?_)
    · refine B_X7_seenTick_46 C (kk := ?_)
      refine B_X7_seenTick_47 C (kk := ?_)
      rw [sT, if_neg (fun z => z.1 c2)] at nx
      exact nx
    · refine B_X7_seenTick_34 C (kt := fun c3 => ?_) (kf := fun c3 => ?_)
      · refine B_X7_seenTick_42 C (kk := ?_)
        refine B_X7_seenTick_47 C (kk := ?_)
        rw [sT, if_pos ⟨c2, Or.inl c3⟩] at nx
        exact nx
      · refine B_X7_seenTick_38 C (kt := fun c4 => ?_) (kf := fun c4 => ?_)
        · refine B_X7_seenTick_46 C (kk := ?_)
          refine B_X7_seenTick_47 C (kk := ?_)
          rw [sT, if_neg (fun z => by omega)] at nx
          exact nx
        · refine B_X7_seenTick_42 C (kk := ?_)
          refine B_X7_seenTick_47 C (kk := ?_)
          rw [sT, if_pos ⟨c2, Or.inr (by omega)⟩] at nx
          exact nx
theorem ct_X7_seenTick (G : Gx) (l : Launch) (h : PH) {d p n fl : Int} (hm : MF h) (hd : ph_I h 134 4 = d) (hp : ph_I h 134 5 = p) (hn : ph_I h 134 6 = n) (d0 : 0 ≤ d ∧ d ≤ 3) (p0 : 0 ≤ p ∧ p ≤ 7) (n0 : 0 ≤ n ∧ n ≤ 16) (fl0 : fl = 0 ∨ fl = 1) (fr0 : 0 ≤ ph_I h 135 (Int.toNat (304 + d)) ∧ ph_I h 135 (Int.toNat (304 + d)) ≤ 79) (b0 : 0 ≤ ph_I h 135 (Int.toNat (8 + p)) ∧ ph_I h 135 (Int.toNat (8 + p)) ≤ 60) (hl : (ph_I h 135 (Int.toNat (304 + d))) ≤ (ph_I h 135 (Int.toNat (8 + p)) + n - 1)) (hr : ∀ t : Int, (ph_I h 135 (Int.toNat (304 + d))) ≤ t → t ≤ (ph_I h 135 (Int.toNat (8 + p)) + n - 1) → pR (ph_I h 141 (Int.toNat t))) : CT_X7_seenTick G l [.inr 134, .inl fl] h (pqI (sT (ph_I h 141) fl (ph_I h 135 (Int.toNat (304 + d))) (Int.toNat ((ph_I h 135 (Int.toNat (8 + p)) + n - 1) + 1 - (ph_I h 135 (Int.toNat (304 + d)))))) h) := by
  obtain ⟨⟨tt0, r0, r1, r2, r3, r8, r9, r10⟩, ⟨t1, t2, t3, t4, t5, t6, t7⟩, ⟨l1, l2, l3, l4, l5, l6, l7⟩⟩ := id hm
  refine ct_intro rfl (Nat.le_of_ble_eq_true rfl) (fun X hX C => ?_)
  refine B_X7_seenTick_0 C (x11 := (ph_I h 135 (Int.toNat (304 + d)))) (e12 := rfl) (kk := ?_)
  have := lp_X7_seenTick (fl := fl) C hm hd hp hn d0 p0 n0 fl0 fr0 b0 hr (Int.toNat ((ph_I h 135 (Int.toNat (8 + p)) + n - 1) + 1 - (ph_I h 135 (Int.toNat (304 + d))))) 0 (by omega)
  have e0 : (ph_I h 135 (Int.toNat (304 + d))) + ((0 : Nat) : Int) = (ph_I h 135 (Int.toNat (304 + d))) := by omega
  rw [e0] at this
  exact this
