/-! class and reference, call by call -/
def imR (M : Nat → Int) (k : Nat) : ST := fun j => if j < 492 then M (492 * k + j) else 0
def Sim (h : PH) (B : Int) : Prop := MF h ∧ CW h (ph_I h 135) ∧ LkB (ph_I h 135) B ∧ (∀ j, pR (ph_I h 137 j)) ∧ ∀ k : Nat, k < 2 → ph_I h 37 k = ph_I h 137 k ∧ (ph_I h 137 k = 0 ∨ (ph_I h 137 k = 1 ∧ WR h (38 + 33 * k) (imR (ph_I h 136) k) ∧ OkS (imR (ph_I h 136) k) ∧ Ok2 (imR (ph_I h 136) k) ∧ LkB (imR (ph_I h 136) k) B))
theorem LkB.mono {st : ST} {B B' : Int} (h : LkB st B) (hB : B ≤ B') : LkB st B' := fun j a b => by have := h j a b; omega
theorem sgC.lk {st st' : ST} {B : Int} (c : sgC st st') (h : LkB st B) : LkB st' B := fun j a b => by rw [c j a b]; exact h j a b
theorem CFr.i {h h1 : PH} (c : CFr h h1) {e : Nat} (he : 134 ≤ e) : ph_I h1 e = ph_I h e := funext fun k => c.2.2.2.2 e (by omega) (by omega) k
theorem CFr.mf {h h1 : PH} (c : CFr h h1) (m : MF h) : MF h1 := by
  have eT : ∀ e, ph_T h1 e = ph_T h e := fun e => by unfold ph_T; rw [c.2.1]
  have eL : ∀ e, ph_L h1 e = ph_L h e := fun e => by unfold ph_L; rw [c.2.2.1]
  have eR : ∀ k, ph_R h1 134 k = ph_R h 134 k := fun k => c.2.2.2.1 134 k (by decide) (by omega)
  unfold MF at *
  simp only [eT, eL, eR]
  exact m
theorem CFr.im {h h1 : PH} {B : Int} (s : Sim h B) (c : CFr h h1) {k : Nat} (hk : k < 2) : ph_I h1 37 k = ph_I h1 137 k ∧ (ph_I h1 137 k = 0 ∨ (ph_I h1 137 k = 1 ∧ WR h1 (38 + 33 * k) (imR (ph_I h1 136) k) ∧ OkS (imR (ph_I h1 136) k) ∧ Ok2 (imR (ph_I h1 136) k) ∧ LkB (imR (ph_I h1 136) k) B)) := by
  obtain ⟨-, hW, -, -, im⟩ := s
  have := im k hk
  rw [c.i (e := 137) (by decide), c.i (e := 136) (by decide), c.2.2.2.2 37 (by omega) (by omega)]
  refine ⟨this.1, ?_⟩
  rcases this.2 with z | ⟨z1, z2, z3, z4, z5⟩
  · exact Or.inl z
  · refine Or.inr ⟨z1, ?_, z3, z4, z5⟩
    have ws : WS h (38 + 33 * k) := by
      have hk2 : k = 0 ∨ k = 1 := by omega
      rcases hk2 with rfl | rfl
      · exact hW.1.2.2.1.2.1
      · exact hW.1.2.2.1.2.2
    exact WR_congr ws z3.2.2.1.2 (fun j => c.2.2.2.1 _ j (by omega) (by omega)) (fun e a b j => c.2.2.2.2 e (by omega) (by omega) j) z2
theorem CW_hi {h h' : PH} {st : ST} (x : Fr (fun c => 134 ≤ c) h h') (f : CW h st) : CW h' st := by
  obtain ⟨f1, f2, f3, f4, f5⟩ := f
  exact ⟨XS_fr x f1, WR_congr f1.2.2.1.1 f3.2.2.1.2 (fun k => x.R _ k) (fun e a b k => x.I (by omega) k) f2, f3, f4, fun d hd => WY1_congr (fun e a b k => x.I (by omega) k) (f5 d hd)⟩
theorem Scr.fr {h h' : PH} (s : Scr h h') : Fr (fun c => 134 ≤ c) h h' := ⟨s.1, s.2.1, s.2.2.1, s.2.2.2.1, fun c hc k => s.2.2.2.2 c (by omega) (by omega) (by omega) (by omega) (by omega) k⟩
/-- the reference has done its part: only its row has changed -/
def MdE (h1 h2 : PH) (st2 : ST) : Prop := Fr (fun c => 134 ≤ c) h1 h2 ∧ ph_I h2 135 = st2 ∧ ph_I h2 136 = ph_I h1 136 ∧ ph_I h2 137 = ph_I h1 137 ∧ (MF h1 → MF h2)
theorem MdE.of {h1 hw : PH} {st2 : ST} (s : Scr h1 hw) : MdE h1 (ph_rowI hw 135 st2) st2 := by
  refine ⟨s.fr.row (by decide) _, funext fun j => rI_eq, funext fun j => ?_, funext fun j => ?_, fun m => s.mf m⟩
  · rw [rI_c (by decide)]; exact s.2.2.2.2 136 (by decide) (by decide) (by decide) (by decide) (by decide) j
  · rw [rI_c (by decide)]; exact s.2.2.2.2 137 (by decide) (by decide) (by decide) (by decide) (by decide) j
theorem MdE.scr {h1 hw : PH} (s : Scr h1 hw) : MdE h1 hw (ph_I h1 135) := ⟨s.fr, s.st, funext fun j => s.2.2.2.2 136 (by decide) (by decide) (by decide) (by decide) (by decide) j, funext fun j => s.2.2.2.2 137 (by decide) (by decide) (by decide) (by decide) (by decide) j, fun m => s.mf m⟩
theorem MdE.rf (h1 : PH) : MdE h1 h1 (ph_I h1 135) := ⟨Fr.rf _ h1, rfl, rfl, rfl, fun m => m⟩
theorem sim_end {h h1 h2 : PH} {st2 : ST} {B : Int} (s : Sim h B) (c : CFr h h1) (w : CW h1 st2) (m : MdE h1 h2 st2) (lk : LkB st2 (B + 640)) : Sim h2 (B + 640) := by
  obtain ⟨m1, m2, m3, m4, m5⟩ := m
  refine ⟨m5 (c.mf s.1), by rw [m2]; exact CW_hi m1 w, by rw [m2]; exact lk, fun j => by rw [m4, c.i (by decide)]; exact s.2.2.2.1 j, fun k hk => ?_⟩
  have := CFr.im s c hk
  rw [m3, m4, m1.I (by omega)]
  refine ⟨this.1, ?_⟩
  rcases this.2 with z | ⟨z1, z2, z3, z4, z5⟩
  · exact Or.inl z
  · refine Or.inr ⟨z1, ?_, z3, z4, z5.mono (by omega)⟩
    have ws : WS h1 (38 + 33 * k) := by
      have hk2 : k = 0 ∨ k = 1 := by omega
      rcases hk2 with rfl | rfl
      · exact w.1.2.2.1.2.1
      · exact w.1.2.2.1.2.2
    exact WR_congr ws z3.2.2.1.2 (fun j => m1.R _ j) (fun e a b j => m1.I (by omega) j) z2
/-- what both posts give -/
def Both (h : PH) (B : Int) (PQ : Option PV → PH → Prop) (MQ : PH → Option PV → PH → Prop) : Prop := ∀ rr h1, PQ rr h1 → (∃ v, rr = some (.inl v)) ∧ ∀ r2 h2, MQ h1 r2 h2 → (∃ v, rr = some (.inl v) ∧ r2 = some (.inl v)) ∧ Sim h2 (B + 640)
theorem both_M {h : PH} {B : Int} (s : Sim h B) {res : RS} (lk : LkB (ph_I h 135) B → LkB res.2 B) : Both h B (KQ (fun v st' => (v, st') = res) h) (fun h1 => pqM res h1) := by
  intro rr h1 hq
  obtain ⟨v, st', rfl, e, w, c⟩ := hq
  subst e
  refine ⟨⟨v, rfl⟩, fun r2 h2 hm => ?_⟩
  obtain ⟨rfl, hw, hs, rfl⟩ := hm
  exact ⟨⟨v, rfl, rfl⟩, sim_end s c w (MdE.of hs) ((lk s.2.2.1).mono (by omega))⟩
theorem both_I {h : PH} {B : Int} (s : Sim h B) {x : Int} : Both h B (KQ (fun v st' => v = x ∧ st' = ph_I h 135) h) (fun h1 => pqI x h1) := by
  intro rr h1 hq
  obtain ⟨v, st', rfl, ⟨e1, e2⟩, w, c⟩ := hq
  subst e1
  subst e2
  refine ⟨⟨v, rfl⟩, fun r2 h2 hm => ?_⟩
  obtain ⟨rfl, rfl⟩ := hm
  refine ⟨⟨v, rfl, rfl⟩, sim_end s c w ?_ (s.2.2.1.mono (by omega))⟩
  have := MdE.rf h1
  rw [c.i (e := 135) (by decide)] at this
  exact this
theorem both_S {h : PH} {B : Int} (s : Sim h B) {x : Int} : Both h B (KQ (fun v st' => v = x ∧ st' = ph_I h 135) h) (fun h1 => pqS x h1) := by
  intro rr h1 hq
  obtain ⟨v, st', rfl, ⟨e1, e2⟩, w, c⟩ := hq
  subst e1
  subst e2
  refine ⟨⟨v, rfl⟩, fun r2 h2 hm => ?_⟩
  obtain ⟨rfl, hs⟩ := hm
  refine ⟨⟨v, rfl, rfl⟩, sim_end s c w ?_ (s.2.2.1.mono (by omega))⟩
  have := MdE.scr hs
  rw [c.i (e := 135) (by decide)] at this
  exact this
theorem both_A {h : PH} {B : Int} (s : Sim h B) {A : Int → Prop} (hu : ∀ v w, A v → A w → v = w) : Both h B (KQ (fun v st' => A v ∧ st' = ph_I h 135) h) (fun h1 => pqA A h1) := by
  intro rr h1 hq
  obtain ⟨v, st', rfl, ⟨e1, e2⟩, w, c⟩ := hq
  subst e2
  refine ⟨⟨v, rfl⟩, fun r2 h2 hm => ?_⟩
  obtain ⟨v2, rfl, a2, hs⟩ := hm
  have := hu v v2 e1 a2
  subst this
  refine ⟨⟨v, rfl, rfl⟩, sim_end s c w ?_ (s.2.2.1.mono (by omega))⟩
  have := MdE.scr hs
  rw [c.i (e := 135) (by decide)] at this
  exact this
theorem both_T {h : PH} {B : Int} (s : Sim h B) {A : Int → ST → Prop} (hu : ∀ v t w u, A v t → A w u → v = w ∧ t = u) (lk : ∀ v t, A v t → LkB t (B + 640)) : Both h B (KQ A h) (fun h1 => pqT A h1) := by
  intro rr h1 hq
  obtain ⟨v, st', rfl, a1, w, c⟩ := hq
  refine ⟨⟨v, rfl⟩, fun r2 h2 hm => ?_⟩
  obtain ⟨v2, t2, rfl, a2, hw, hs, rfl⟩ := hm
  obtain ⟨e1, e2⟩ := hu v st' v2 t2 a1 a2
  subst e1
  subst e2
  exact ⟨⟨v, rfl, rfl⟩, sim_end s c w (MdE.of hs) (lk v st' a1)⟩
theorem bits_uniq {st : ST} {d p : Int} {r1 r2 s1 s2 : Nat → Int} (fr : 0 ≤ st (Int.toNat (304 + d))) (a : PathW st d p 0 (st (Int.toNat (16 + p))) r1 r2) (b : PathW st d p 0 (st (Int.toNat (16 + p))) s1 s2) (t : Int) (t0 : st (Int.toNat (304 + d)) ≤ t) (t1 : t ≤ lastT st p) : r1 (Int.toNat t) = s1 (Int.toNat t) ∧ r2 (Int.toNat t) = s2 (Int.toNat t) ∧ bitsW st p r1 r2 (Int.toNat t) = bitsW st p s1 s2 (Int.toNat t) := by
  have hlT : lastT st p = st (Int.toNat (8 + p)) + st (Int.toNat (16 + p)) - 1 := rfl
  have u := PathW.uniq a b (Int.toNat (t - st (Int.toNat (304 + d)))) (by omega)
  have e : st (Int.toNat (304 + d)) + ((Int.toNat (t - st (Int.toNat (304 + d))) : Nat) : Int) = t := by omega
  rw [e] at u
  refine ⟨u.1, u.2, ?_⟩
  unfold bitsW
  rw [u.1, u.2]
theorem wayV_u {st : ST} {d p wh : Int} {r1 r2 s1 s2 : Nat → Int} (fr : 0 ≤ st (Int.toNat (304 + d))) (hl : st (Int.toNat (304 + d)) ≤ lastT st p) (a : PathW st d p 0 (st (Int.toNat (16 + p))) r1 r2) (b : PathW st d p 0 (st (Int.toNat (16 + p))) s1 s2) : wayV st d p wh r1 r2 = wayV st d p wh s1 s2 := by
  have c0 : ∀ fl, sT (bitsW st p r1 r2) fl (st (Int.toNat (304 + d))) (Int.toNat (lastT st p + 1 - st (Int.toNat (304 + d)))) = sT (bitsW st p s1 s2) fl (st (Int.toNat (304 + d))) (Int.toNat (lastT st p + 1 - st (Int.toNat (304 + d)))) := fun fl => sT_congr _ (fun i hi => (bits_uniq fr a b (st (Int.toNat (304 + d)) + i) (by omega) (by omega)).2.2)
  have u := bits_uniq fr a b (lastT st p) hl (Int.le_refl _)
  unfold wayV
  rw [c0, c0, u.1, u.2.1]
theorem WayAns_u {st : ST} {d nm wh v w : Int} (hS : OkS st) (a : WayAns st d nm wh v) (b : WayAns st d nm wh w) : v = w := by
  have m := hS.2.2.1
  rcases a with ⟨a1, a2⟩ | ⟨a1, a2⟩
  · rcases b with ⟨b1, b2⟩ | ⟨b1, -⟩
    · omega
    · exact absurd b1 a1
  rcases b with ⟨b1, -⟩ | ⟨-, b2⟩
  · exact absurd a1 b1
  rcases a2 with ⟨c1, c2⟩ | ⟨c1, c2⟩
  · rcases b2 with ⟨d1, d2⟩ | ⟨d1, -⟩
    · omega
    · exact absurd d1 c1
  rcases b2 with ⟨d1, -⟩ | ⟨-, d2⟩
  · exact absurd c1 d1
  rcases c2 with ⟨e1, e2⟩ | ⟨e1, e2⟩
  · rcases d2 with ⟨f1, f2⟩ | ⟨f1, -⟩
    · omega
    · exact absurd f1 e1
  rcases d2 with ⟨f1, -⟩ | ⟨-, f2⟩
  · exact absurd e1 f1
  rcases e2 with ⟨g1, g2⟩ | ⟨g1, r1, r2, g2, g3⟩
  · rcases f2 with ⟨k1, k2⟩ | ⟨k1, -⟩
    · omega
    · exact absurd g1 k1
  rcases f2 with ⟨k1, -⟩ | ⟨-, s1, s2, k2, k3⟩
  · exact absurd k1 g1
  have p0 : 0 ≤ pOf st nm ∧ pOf st nm < st 484 := by have := pOf_b (st := st) nm m.1; have := a1.2; omega
  have hD := hS.2.2.2.1 d a1.1.1 a1.1.2
  rw [g3, k3]
  exact wayV_u hD.2.2.1.1 (Liv_start (f := 0) g1).2.1 g2 k2
theorem WhereAns_u {st : ST} {d nm t wh v w : Int} (hS : OkS st) (a : WhereAns st d nm t wh v) (b : WhereAns st d nm t wh w) : v = w := by
  have m := hS.2.2.1
  rcases a with ⟨a1, a2⟩ | ⟨a1, a2⟩
  · rcases b with ⟨b1, b2⟩ | ⟨b1, -⟩
    · omega
    · exact absurd b1 a1
  rcases b with ⟨b1, -⟩ | ⟨-, b2⟩
  · exact absurd a1 b1
  rcases a2 with ⟨c1, c2⟩ | ⟨c1, c2⟩
  · rcases b2 with ⟨d1, d2⟩ | ⟨d1, -⟩
    · omega
    · exact absurd d1 c1
  rcases b2 with ⟨d1, -⟩ | ⟨-, d2⟩
  · exact absurd c1 d1
  rcases c2 with ⟨e1, e2⟩ | ⟨e1, e2⟩
  · rcases d2 with ⟨f1, f2⟩ | ⟨f1, -⟩
    · omega
    · exact absurd f1 e1
  rcases d2 with ⟨f1, -⟩ | ⟨-, f2⟩
  · exact absurd e1 f1
  rcases e2 with ⟨g1, g2⟩ | ⟨g1, r1, r2, g2, g3⟩
  · rcases f2 with ⟨k1, k2⟩ | ⟨k1, -⟩
    · omega
    · exact absurd g1 k1
  rcases f2 with ⟨k1, -⟩ | ⟨-, s1, s2, k2, k3⟩
  · exact absurd k1 g1
  have hD := hS.2.2.2.1 d a1.1.1 a1.1.2
  have tb : st (Int.toNat (304 + d)) ≤ t ∧ t ≤ lastT st (pOf st nm) := by
    apply Classical.byContradiction
    intro z
    exact g1 (Or.inr z)
  have u := bits_uniq hD.2.2.1.1 g2 k2 t tb.1 tb.2
  rw [g3, k3, u.1, u.2.1, u.2.2]
theorem TakeR_u {st : ST} {d nm v w : Int} {t u : ST} (hS : OkS st) (a : TakeR st d nm v t) (b : TakeR st d nm w u) : v = w ∧ t = u := by
  have m := hS.2.2.1
  rcases a with ⟨a1, a2, a3⟩ | ⟨a1, a2⟩
  · rcases b with ⟨b1, b2, b3⟩ | ⟨b1, -⟩
    · exact ⟨by omega, by rw [a3, b3]⟩
    · exact absurd b1 a1
  rcases b with ⟨b1, -⟩ | ⟨-, b2⟩
  · exact absurd a1 b1
  rcases a2 with ⟨e1, e2, e3⟩ | ⟨e1, e2⟩
  · rcases b2 with ⟨f1, f2, f3⟩ | ⟨f1, -⟩
    · exact ⟨by omega, by rw [e3, f3]⟩
    · exact absurd f1 e1
  rcases b2 with ⟨f1, -⟩ | ⟨-, f2⟩
  · exact absurd e1 f1
  rcases e2 with ⟨g1, g2, g3⟩ | ⟨g1, g2, r1, r2, g3, g4⟩
  · rcases f2 with ⟨k1, k2, k3⟩ | ⟨k1, -⟩
    · exact ⟨by omega, by rw [g3, k3]⟩
    · exact absurd g1 k1
  rcases f2 with ⟨k1, -⟩ | ⟨-, k2, s1, s2, k3, k4⟩
  · exact absurd k1 g1
  exact ⟨by omega, by rw [g4, k4]; exact sTk_uniq (Liv_start (f := 0) g1).2.1 g3 k3⟩
theorem TakeR_r {st : ST} {d nm v B : Int} {t : ST} (hS : OkS st) (hB : LkB st B) (B0 : B ≤ 900000000) (a : TakeR st d nm v t) : pR v ∧ LkB t (B + 640) := by
  have m := hS.2.2.1
  have hp := pOf_b (st := st) nm m.1
  rcases a with ⟨a1, a2, a3⟩ | ⟨a1, ⟨e1, e2, e3⟩ | ⟨e1, ⟨g1, g2, g3⟩ | ⟨g1, g2, r1, r2, g3, g4⟩⟩⟩
  · rw [a2, a3]; exact ⟨by unfold pR; decide, hB.mono (by omega)⟩
  · rw [e2, e3]; exact ⟨by unfold pR; decide, hB.mono (by omega)⟩
  · rw [g2, g3]; exact ⟨by unfold pR; decide, hB.mono (by omega)⟩
  · have p0 : 0 ≤ pOf st nm ∧ pOf st nm < st 484 := ⟨a1.2, by have := a1.2; omega⟩
    have hD := hS.2.2.2.1 d a1.1.1 a1.1.2
    obtain ⟨q60, q16⟩ := hS.2.2.2.2 _ p0.1 p0.2
    rw [g2, g4]
    refine ⟨?_, (OkS_take hS hB (by omega) a1.1 p0 (Liv_start (f := 0) g1).2.1 g3).2.1.mono (by omega)⟩
    rcases sLay_form (f := 0) (n := st (Int.toNat (16 + pOf st nm))) hD.2.1 hD.2.2.1.1 q60.2 q16.2 with z | ⟨s, q, z1, z2, z3, z4, z5⟩
    · exact absurd z g1
    · have : sVal st d (pOf st nm) = 10000 * s - q := z1
      unfold pR
      omega
