/-! what a call leaves of the class; the row, part by part -/
def CFr (h h' : PH) : Prop := h'.1 = h.1 ∧ h'.2.1 = h.2.1 ∧ h'.2.2.1 = h.2.2.1 ∧ (∀ c k, c ≠ 4 → ¬ (c = 104 ∧ 4 ≤ k ∧ k ≤ 7) → ph_R h' c k = ph_R h c k) ∧ ∀ c, ¬ (3 ≤ c ∧ c < 36) → ¬ (104 ≤ c ∧ c < 134) → ∀ k, ph_I h' c k = ph_I h c k
theorem CFr.rf (h : PH) : CFr h h := ⟨rfl, rfl, rfl, fun _ _ _ _ => rfl, fun _ _ _ _ => rfl⟩
theorem CFr.tr {a b c : PH} (x : CFr a b) (y : CFr b c) : CFr a c := ⟨y.1.trans x.1, y.2.1.trans x.2.1, y.2.2.1.trans x.2.2.1, fun e k h1 h2 => (y.2.2.2.1 e k h1 h2).trans (x.2.2.2.1 e k h1 h2), fun e h1 h2 k => (y.2.2.2.2 e h1 h2 k).trans (x.2.2.2.2 e h1 h2 k)⟩
theorem SFr.cfr {M : Nat → Prop} {h h' : PH} (x : SFr M h h') (hM : ∀ c, M c → (3 ≤ c ∧ c < 36) ∨ (104 ≤ c ∧ c < 134)) : CFr h h' := ⟨x.1, x.2.1, x.2.2.1, fun c k _ h2 => x.2.2.2.1 c k h2, fun c h1 h2 k => x.I (fun z => (hM c z).elim h1 h2) k⟩
theorem Fr.cfr {M : Nat → Prop} {h h' : PH} (x : Fr M h h') (hM : ∀ c, M c → (3 ≤ c ∧ c < 36) ∨ (104 ≤ c ∧ c < 134)) : CFr h h' := x.s.cfr hM
def KQ (A : Int → ST → Prop) (h : PH) : Option PV → PH → Prop := fun rr h' => ∃ v st', rr = some (.inl v) ∧ A v st' ∧ CW h' st' ∧ CFr h h'
theorem KQ_same {A : Int → ST → Prop} {h : PH} {st : ST} {v : Int} (hW : CW h st) (a : A v st) : KQ A h (some (.inl v)) h := ⟨v, st, rfl, a, hW, CFr.rf h⟩
theorem KQ_s2 {A : Int → ST → Prop} {h h' : PH} {st : ST} {v : Int} (hW : CW h' st) (s : S2 h h') (a : A v st) : KQ A h (some (.inl v)) h' := ⟨v, st, rfl, a, hW, SFr.cfr s (fun c hc => Or.inr hc)⟩
theorem KQ_fw {A : Int → ST → Prop} {h h1 h2 : PH} {st' : ST} {v : Int} (fx : XS h1) (fw : WFl h1) (hr : WR h1 3 st') (hS : OkS st') (h2' : Ok2 st') (cf : CFr h h1) (hF : Fr (fun c => 110 ≤ c ∧ c < 134) h1 h2) (h5 : ∀ d : Nat, d < 4 → ph_I h2 (110 + 6 * d) 5 = -6) (ho : ∀ c k, k ≠ 5 → ph_I h2 c k = ph_I h1 c k) (a : A v st') : KQ A h (some (.inl v)) h2 :=
  ⟨v, st', rfl, a, CW_new fx fw hr hS h2' hF h5 ho, cf.tr (hF.cfr (fun c hc => by omega))⟩
theorem WFl_fr {M : Nat → Prop} {h h' : PH} (x : Fr M h h') (hM : ∀ c, M c → c < 110) (f : WFl h) : WFl h' := fun d hd => by
  rw [x.I (fun z => by have := hM _ z; omega)]
  exact f d hd
theorem XS_fr {M : Nat → Prop} {h h' : PH} (x : Fr M h h') (f : XS h) : XS h' := XS_sfr x.s (by rw [x.R, x.R]; exact f.2.2.2.1.2.2.2.2.2) f
def sgA (st st' : ST) : Prop := (∀ j : Nat, j < 296 → st' j = st j) ∧ st' 484 = st 484
def sgB (st st' : ST) : Prop := ∀ j : Nat, 296 ≤ j → j < 316 → st' j = st j
def sgC (st st' : ST) : Prop := ∀ j : Nat, 316 ≤ j → j < 484 → st' j = st j
def sgD (st st' : ST) : Prop := ∀ j : Nat, 485 ≤ j → j ≤ 491 → st' j = st j
theorem up_eq (r : Nat → Int) (k : Nat) (v : Int) : up r k v k = v := if_pos rfl
theorem up_ne {r : Nat → Int} {k j : Nat} {v : Int} (h : j ≠ k) : up r k v j = r j := if_neg h
theorem okSky_c {st st' : ST} (d : sgD st st') (h : okSky st) : okSky st' := by
  unfold okSky at *
  rw [d 485 (by decide) (by decide), d 486 (by decide) (by decide), d 487 (by decide) (by decide), d 488 (by decide) (by decide), d 489 (by decide) (by decide), d 490 (by decide) (by decide), d 491 (by decide) (by decide)]
  exact h
theorem OkD_c {st st' : ST} {d : Int} (b : sgB st st') (d0 : 0 ≤ d) (d1 : d ≤ 3) (h : OkD st d) : OkD st' d := by
  unfold OkD at *
  rw [b _ (by omega) (by omega), b _ (by omega) (by omega), b _ (by omega) (by omega), b _ (by omega) (by omega), b _ (by omega) (by omega)]
  exact h
theorem OkP_c {st st' : ST} {p : Int} (a : ∀ j : Nat, j < 296 → st' j = st j) (p0 : 0 ≤ p) (p1 : p ≤ 7) (h : OkP st p) : OkP st' p := by
  unfold OkP at *
  rw [a _ (by omega), a _ (by omega)]
  exact h
theorem OkS_mk {st st' : ST} (hS : OkS st) (hb : ∀ j, pR (st' j)) (a : sgA st st') (hs : okSky st') (hD : ∀ d : Int, 0 ≤ d → d ≤ 3 → OkD st' d) : OkS st' := by
  obtain ⟨-, -, m, -, p⟩ := hS
  exact ⟨hs, hb, by rw [a.2]; exact m, hD, fun q q0 q1 => by rw [a.2] at q1; exact OkP_c a.1 q0 (by omega) (p q q0 q1)⟩
theorem Ok2_c {st st' : ST} (hS : OkS st) (h2 : Ok2 st) (a : sgA st st') (s : (st' 489 = -6 ∧ st' 490 = -6) ∨ (0 ≤ st' 489 ∧ st' 489 ≤ st' 490)) : Ok2 st' := by
  obtain ⟨-, -, m, -, pp⟩ := hS
  obtain ⟨x, y, -⟩ := h2
  refine ⟨fun p p0 p1 => ?_, fun p q p0 p1 q1 => ?_, s⟩
  · rw [a.2] at p1
    have np := (pp p p0 p1).2
    obtain ⟨x1, x2, x3⟩ := x p p0 p1
    rw [a.1 _ (by omega), a.1 _ (by omega)]
    refine ⟨x1, x2, fun k k0 k1 => ?_⟩
    rw [a.1 _ (by omega)] at k1
    rw [a.1 _ (by omega), a.1 _ (by omega)]
    exact x3 k k0 k1
  · rw [a.2] at q1
    rw [a.1 _ (by omega), a.1 _ (by omega)]
    exact y p q p0 p1 q1
theorem FR_st {h : PH} {st st' : ST} {p : Int} {c : Nat} (a : ∀ j : Nat, j < 296 → st' j = st j) (p0 : 0 ≤ p) (p1 : p ≤ 7) (np : st (Int.toNat (16 + p)) ≤ 16) (f : FR h c st p) : FR h c st' p := by
  obtain ⟨⟨f1, f2, f3, f4, f5⟩, f6⟩ := f
  refine ⟨⟨?_, ?_, ?_, ?_, ?_⟩, fun k k0 k1 => ?_⟩
  · rw [a _ (by omega)]; exact f1
  · rw [a _ (by omega)]; exact f2
  · rw [a _ (by omega)]; exact f3
  · rw [a _ (by omega)]; exact f4
  · rw [a _ (by omega)]; exact f5
  · rw [a _ (by omega)] at k1
    rw [a _ (by omega), a _ (by omega)]
    exact f6 k k0 k1
theorem MR_st {h : PH} {st st' : ST} {d : Int} {c : Nat} (b : sgB st st') (d0 : 0 ≤ d) (d1 : d ≤ 3) (f : MR h c st d) : MR h c st' d := by
  unfold MR at *
  rw [b _ (by omega) (by omega), b _ (by omega) (by omega), b _ (by omega) (by omega), b _ (by omega) (by omega), b _ (by omega) (by omega)]
  exact f
theorem SR_st {h : PH} {st st' : ST} {c : Nat} (d : sgD st st') (f : SR h c st) : SR h c st' := by
  unfold SR at *
  rw [d 485 (by decide) (by decide), d 486 (by decide) (by decide), d 487 (by decide) (by decide), d 488 (by decide) (by decide), d 489 (by decide) (by decide), d 490 (by decide) (by decide), d 491 (by decide) (by decide)]
  exact f
/-- flights kept -/
theorem fl_keep {M : Nat → Prop} {h h1 : PH} {st st' : ST} (hw : WS h 3) (hS : OkS st) (hR : WR h 3 st) (x : Fr M h h1) (hM : ∀ c, M c → ¬ (c = 3 ∨ (8 ≤ c ∧ c < 32))) (a : sgA st st') : ph_I h1 3 4 = st' 484 ∧ ∀ p : Int, 0 ≤ p → p < st' 484 → FR h1 (ph_R h1 4 (Int.toNat p)) st' p := by
  refine ⟨by rw [a.2, x.I (fun z => hM 3 z (Or.inl rfl))]; exact hR.1, fun p p0 p1 => ?_⟩
  rw [a.2] at p1
  have m := hS.2.2.1
  obtain ⟨-, j, hj, e⟩ := hw.2.2.2.1 (Int.toNat p) (by omega)
  have e' : ph_R h 4 (Int.toNat p) = 8 + 3 * j := e
  have f : FR h (ph_R h 4 (Int.toNat p)) st p := hR.2.1 p p0 p1
  rw [x.R]
  exact FR_st a.1 p0 (by omega) (hS.2.2.2.2 p p0 p1).2.2 (FR_congr (fun c c0 c1 k => x.I (fun z => hM c z (by omega)) k) f)
theorem mn_keep {M : Nat → Prop} {h h1 : PH} {st st' : ST} (hR : WR h 3 st) (x : Fr M h h1) (hM : ∀ c, M c → ¬ (32 ≤ c ∧ c < 36)) (b : sgB st st') : ∀ d : Int, 0 ≤ d → d ≤ 3 → MR h1 (3 + 29 + Int.toNat d) st' d := fun d d0 d1 => MR_st b d0 d1 (MR_congr (fun k => x.I (fun z => hM _ z (by omega)) k) (hR.2.2.1 d d0 d1))
theorem sk_keep {M : Nat → Prop} {h h1 : PH} {st st' : ST} (hR : WR h 3 st) (x : Fr M h h1) (hM : ∀ c, M c → c ≠ 6) (d : sgD st st') : SR h1 (3 + 3) st' := SR_st d (SR_congr (fun k => x.I (fun z => hM _ z rfl) k) hR.2.2.2.1)
theorem lk_keep {M : Nat → Prop} {h h1 : PH} {st st' : ST} (hR : WR h 3 st) (x : Fr M h h1) (hM : ∀ c, M c → c ≠ 7) (e : sgC st st') : ∀ j : Int, 0 ≤ j → j < 168 → ph_I h1 (3 + 4) (Int.toNat j) = st' (Int.toNat (316 + j)) := fun j j0 j1 => by
  rw [x.I (fun z => hM _ z rfl), e _ (by omega) (by omega)]
  exact hR.2.2.2.2 j j0 j1
theorem sun_ok {st : ST} {a b c e : Int} (hS : OkS st) (h2 : Ok2 st) (ha : 0 ≤ a ∧ a ≤ 23) (hc : 0 ≤ c ∧ c ≤ 6) (hb' : 1 ≤ b ∧ b ≤ 40) (he : -1 ≤ e ∧ e ≤ 3) : OkS (up (up (up (up st 485 a) 486 b) 487 c) 488 e) ∧ Ok2 (up (up (up (up st 485 a) 486 b) 487 c) 488 e) ∧ sgA st (up (up (up (up st 485 a) 486 b) 487 c) 488 e) ∧ sgB st (up (up (up (up st 485 a) 486 b) 487 c) 488 e) ∧ sgC st (up (up (up (up st 485 a) 486 b) 487 c) 488 e) := by
  have k : ∀ j : Nat, (j < 485 ∨ 488 < j) → up (up (up (up st 485 a) 486 b) 487 c) 488 e j = st j := fun j hj => by rw [up_ne (by omega), up_ne (by omega), up_ne (by omega), up_ne (by omega)]
  have hA : sgA st (up (up (up (up st 485 a) 486 b) 487 c) 488 e) := ⟨fun j hj => k j (by omega), k 484 (by omega)⟩
  have hB : sgB st (up (up (up (up st 485 a) 486 b) 487 c) 488 e) := fun j h1 h2 => k j (by omega)
  have v0 : up (up (up (up st 485 a) 486 b) 487 c) 488 e 485 = a := by rw [up_ne (by decide), up_ne (by decide), up_ne (by decide), up_eq]
  have v1 : up (up (up (up st 485 a) 486 b) 487 c) 488 e 486 = b := by rw [up_ne (by decide), up_ne (by decide), up_eq]
  have v2 : up (up (up (up st 485 a) 486 b) 487 c) 488 e 487 = c := by rw [up_ne (by decide), up_eq]
  have v3 : up (up (up (up st 485 a) 486 b) 487 c) 488 e 488 = e := by rw [up_eq]
  have hsk := hS.1
  refine ⟨OkS_mk hS (fun j => ?_) hA ?_ (fun d d0 d1 => OkD_c hB d0 d1 (hS.2.2.2.1 d d0 d1)), Ok2_c hS h2 hA (by rw [k 489 (by omega), k 490 (by omega)]; exact h2.2.2), hA, hB, fun j h1 h2 => k j (by omega)⟩
  · have := hS.2.1 j
    unfold up pR at *
    (repeat' split) <;> omega
  · unfold okSky at *
    rw [v0, v1, v2, v3, k 489 (by omega), k 490 (by omega), k 491 (by omega)]
    omega
theorem storm_ok {st : ST} {a b : Int} (hS : OkS st) (h2 : Ok2 st) (ha : 0 ≤ a ∧ a ≤ 79) (hb' : 0 ≤ b ∧ b ≤ 79) : OkS (up (up st 489 (if a ≤ b then a else -6)) 490 (if a ≤ b then b else -6)) ∧ Ok2 (up (up st 489 (if a ≤ b then a else -6)) 490 (if a ≤ b then b else -6)) ∧ sgA st (up (up st 489 (if a ≤ b then a else -6)) 490 (if a ≤ b then b else -6)) ∧ sgB st (up (up st 489 (if a ≤ b then a else -6)) 490 (if a ≤ b then b else -6)) ∧ sgC st (up (up st 489 (if a ≤ b then a else -6)) 490 (if a ≤ b then b else -6)) := by
  generalize ex : (if a ≤ b then a else (-6 : Int)) = x
  generalize ey : (if a ≤ b then b else (-6 : Int)) = y
  have hxy : (x = -6 ∧ y = -6) ∨ (0 ≤ x ∧ x ≤ y ∧ y ≤ 79) := by
    by_cases z : a ≤ b
    · rw [if_pos z] at ex ey; omega
    · rw [if_neg z] at ex ey; omega
  have k : ∀ j : Nat, j ≠ 489 → j ≠ 490 → up (up st 489 x) 490 y j = st j := fun j h1 h2 => by rw [up_ne h2, up_ne h1]
  have hA : sgA st (up (up st 489 x) 490 y) := ⟨fun j hj => k j (by omega) (by omega), k 484 (by omega) (by omega)⟩
  have hB : sgB st (up (up st 489 x) 490 y) := fun j h1 h2 => k j (by omega) (by omega)
  have v0 : up (up st 489 x) 490 y 489 = x := by rw [up_ne (by decide), up_eq]
  have v1 : up (up st 489 x) 490 y 490 = y := by rw [up_eq]
  have hsk := hS.1
  refine ⟨OkS_mk hS (fun j => ?_) hA ?_ (fun d d0 d1 => OkD_c hB d0 d1 (hS.2.2.2.1 d d0 d1)), Ok2_c hS h2 hA (by rw [v0, v1]; omega), hA, hB, fun j h1 h2 => k j (by omega) (by omega)⟩
  · have := hS.2.1 j
    unfold up pR at *
    (repeat' split) <;> omega
  · unfold okSky at *
    rw [v0, v1, k 485 (by omega) (by omega), k 486 (by omega) (by omega), k 487 (by omega) (by omega), k 488 (by omega) (by omega), k 491 (by omega) (by omega)]
    omega
theorem key_ok {st : ST} {a : Int} (hS : OkS st) (h2 : Ok2 st) (ha : 0 ≤ a ∧ a ≤ 6) : OkS (up st 491 a) ∧ Ok2 (up st 491 a) ∧ sgA st (up st 491 a) ∧ sgB st (up st 491 a) ∧ sgC st (up st 491 a) := by
  have k : ∀ j : Nat, j ≠ 491 → up st 491 a j = st j := fun j h1 => up_ne h1
  have hA : sgA st (up st 491 a) := ⟨fun j hj => k j (by omega), k 484 (by omega)⟩
  have hB : sgB st (up st 491 a) := fun j h1 h2 => k j (by omega)
  have hsk := hS.1
  refine ⟨OkS_mk hS (fun j => ?_) hA ?_ (fun d d0 d1 => OkD_c hB d0 d1 (hS.2.2.2.1 d d0 d1)), Ok2_c hS h2 hA (by rw [k 489 (by omega), k 490 (by omega)]; exact h2.2.2), hA, hB, fun j h1 h2 => k j (by omega)⟩
  · have := hS.2.1 j
    unfold up pR at *
    (repeat' split) <;> omega
  · unfold okSky at *
    rw [up_eq, k 485 (by omega), k 486 (by omega), k 487 (by omega), k 488 (by omega), k 489 (by omega), k 490 (by omega)]
    omega
/-- only a dish changed -/
theorem dish_ok {st st' : ST} (hS : OkS st) (h2 : Ok2 st) (k : ∀ j : Nat, (j < 296 ∨ 316 ≤ j) → st' j = st j) (hb : ∀ j, pR (st' j)) (hD : ∀ d : Int, 0 ≤ d → d ≤ 3 → OkD st' d) : OkS st' ∧ Ok2 st' ∧ sgA st st' ∧ sgC st st' ∧ sgD st st' := by
  have hA : sgA st st' := ⟨fun j hj => k j (by omega), k 484 (by omega)⟩
  have hDd : sgD st st' := fun j h1 h2 => k j (by omega)
  exact ⟨OkS_mk hS hb hA (okSky_c hDd hS.1) hD, Ok2_c hS h2 hA (by rw [k 489 (by omega), k 490 (by omega)]; exact h2.2.2), hA, fun j h1 h2 => k j (by omega), hDd⟩
def stnd (st : ST) (d w hh f : Int) : ST := up (up (up st (Int.toNat (296 + d)) w) (Int.toNat (300 + d)) hh) (Int.toNat (304 + d)) f
theorem stnd_v {st : ST} {d w hh f : Int} (d0 : 0 ≤ d ∧ d ≤ 3) : stnd st d w hh f (Int.toNat (296 + d)) = w ∧ stnd st d w hh f (Int.toNat (300 + d)) = hh ∧ stnd st d w hh f (Int.toNat (304 + d)) = f ∧ ∀ j : Nat, j ≠ Int.toNat (296 + d) → j ≠ Int.toNat (300 + d) → j ≠ Int.toNat (304 + d) → stnd st d w hh f j = st j := by
  unfold stnd
  refine ⟨?_, ?_, ?_, fun j h1 h2 h3 => ?_⟩
  · rw [up_ne (by omega), up_ne (by omega), up_eq]
  · rw [up_ne (by omega), up_eq]
  · rw [up_eq]
  · rw [up_ne h3, up_ne h2, up_ne h1]
theorem stand_ok {st : ST} {d w hh f : Int} (hS : OkS st) (h2 : Ok2 st) (d0 : 0 ≤ d ∧ d ≤ 3) (w0 : -st (Int.toNat (308 + d)) ≤ w ∧ w ≤ st (Int.toNat (308 + d))) (h0 : 0 ≤ hh ∧ hh ≤ 6) (f0 : 0 ≤ f ∧ f ≤ 79) : OkS (stnd st d w hh f) ∧ Ok2 (stnd st d w hh f) ∧ sgA st (stnd st d w hh f) ∧ sgC st (stnd st d w hh f) ∧ sgD st (stnd st d w hh f) := by
  obtain ⟨v1, v2, v3, v4⟩ := stnd_v (st := st) (w := w) (hh := hh) (f := f) d0
  refine dish_ok hS h2 (fun j hj => v4 j (by omega) (by omega) (by omega)) (fun j => ?_) (fun d' d0' d1' => ?_)
  · have := hS.2.1 j
    have l := (hS.2.2.2.1 d d0.1 d0.2).1
    unfold stnd up pR at *
    (repeat' split) <;> omega
  · have hD := hS.2.2.2.1 d' d0' d1'
    by_cases z : d' = d
    · subst z
      unfold OkD at *
      rw [v1, v2, v3, v4 (Int.toNat (308 + d')) (by omega) (by omega) (by omega), v4 (Int.toNat (312 + d')) (by omega) (by omega) (by omega)]
      exact ⟨hD.1, hD.2.1, f0, zabs_i w0, h0⟩
    · unfold OkD at *
      rw [v4 (Int.toNat (308 + d')) (by omega) (by omega) (by omega), v4 (Int.toNat (312 + d')) (by omega) (by omega) (by omega), v4 (Int.toNat (296 + d')) (by omega) (by omega) (by omega), v4 (Int.toNat (300 + d')) (by omega) (by omega) (by omega), v4 (Int.toNat (304 + d')) (by omega) (by omega) (by omega)]
      exact hD
theorem set0_ok {st : ST} {d n : Int} (hS : OkS st) (h2 : Ok2 st) (d0 : 0 ≤ d ∧ d ≤ 3) (n0 : 12 ≤ n ∧ n ≤ 36) (hw : zabs (st (Int.toNat (296 + d))) ≤ n) : OkS (up st (Int.toNat (308 + d)) n) ∧ Ok2 (up st (Int.toNat (308 + d)) n) ∧ sgA st (up st (Int.toNat (308 + d)) n) ∧ sgC st (up st (Int.toNat (308 + d)) n) ∧ sgD st (up st (Int.toNat (308 + d)) n) := by
  have v4 : ∀ j : Nat, j ≠ Int.toNat (308 + d) → up st (Int.toNat (308 + d)) n j = st j := fun j hj => up_ne hj
  refine dish_ok hS h2 (fun j hj => v4 j (by omega)) (fun j => ?_) (fun d' d0' d1' => ?_)
  · have := hS.2.1 j
    unfold up pR at *
    split <;> omega
  · have hD := hS.2.2.2.1 d' d0' d1'
    unfold OkD at *
    by_cases z : d' = d
    · subst z
      rw [up_eq, v4 (Int.toNat (312 + d')) (by omega), v4 (Int.toNat (296 + d')) (by omega), v4 (Int.toNat (300 + d')) (by omega), v4 (Int.toNat (304 + d')) (by omega)]
      exact ⟨n0, hD.2.1, hD.2.2.1, hw, hD.2.2.2.2⟩
    · rw [v4 (Int.toNat (308 + d')) (by omega), v4 (Int.toNat (312 + d')) (by omega), v4 (Int.toNat (296 + d')) (by omega), v4 (Int.toNat (300 + d')) (by omega), v4 (Int.toNat (304 + d')) (by omega)]
      exact hD
theorem set1_ok {st : ST} {d n : Int} (hS : OkS st) (h2 : Ok2 st) (d0 : 0 ≤ d ∧ d ≤ 3) (n0 : 1 ≤ n ∧ n ≤ 3) : OkS (up st (Int.toNat (312 + d)) n) ∧ Ok2 (up st (Int.toNat (312 + d)) n) ∧ sgA st (up st (Int.toNat (312 + d)) n) ∧ sgC st (up st (Int.toNat (312 + d)) n) ∧ sgD st (up st (Int.toNat (312 + d)) n) := by
  have v4 : ∀ j : Nat, j ≠ Int.toNat (312 + d) → up st (Int.toNat (312 + d)) n j = st j := fun j hj => up_ne hj
  refine dish_ok hS h2 (fun j hj => v4 j (by omega)) (fun j => ?_) (fun d' d0' d1' => ?_)
  · have := hS.2.1 j
    unfold up pR at *
    split <;> omega
  · have hD := hS.2.2.2.1 d' d0' d1'
    unfold OkD at *
    by_cases z : d' = d
    · subst z
      rw [up_eq, v4 (Int.toNat (308 + d')) (by omega), v4 (Int.toNat (296 + d')) (by omega), v4 (Int.toNat (300 + d')) (by omega), v4 (Int.toNat (304 + d')) (by omega)]
      exact ⟨hD.1, n0, hD.2.2.1, hD.2.2.2.1, hD.2.2.2.2⟩
    · rw [v4 (Int.toNat (308 + d')) (by omega), v4 (Int.toNat (312 + d')) (by omega), v4 (Int.toNat (296 + d')) (by omega), v4 (Int.toNat (300 + d')) (by omega), v4 (Int.toNat (304 + d')) (by omega)]
      exact hD
/-- only flights changed -/
theorem flt_ok {st st' : ST} (hS : OkS st) (k : ∀ j : Nat, 296 ≤ j → j ≠ 484 → st' j = st j) (hb : ∀ j, pR (st' j)) (m : 0 ≤ st' 484 ∧ st' 484 ≤ 8) (hP : ∀ p : Int, 0 ≤ p → p < st' 484 → OkP st' p) : OkS st' ∧ sgB st st' ∧ sgC st st' ∧ sgD st st' := by
  have hB : sgB st st' := fun j h1 h2 => k j h1 (by omega)
  have hDd : sgD st st' := fun j h1 h2 => k j (by omega) (by omega)
  exact ⟨⟨okSky_c hDd hS.1, hb, m, fun d d0 d1 => OkD_c hB d0 d1 (hS.2.2.2.1 d d0 d1), hP⟩, hB, fun j h1 h2 => k j (by omega) (by omega), hDd⟩
