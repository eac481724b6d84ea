/-! the class: pass, point, drop -/
/-- flight q of st' is flight p of st -/
def Sm (st : ST) (p : Int) (st' : ST) (q : Int) : Prop := (st' (Int.toNat q) = st (Int.toNat p) ∧ st' (Int.toNat (8 + q)) = st (Int.toNat (8 + p)) ∧ st' (Int.toNat (16 + q)) = st (Int.toNat (16 + p)) ∧ st' (Int.toNat (24 + q)) = st (Int.toNat (24 + p)) ∧ st' (Int.toNat (32 + q)) = st (Int.toNat (32 + p))) ∧ ∀ k : Int, 0 ≤ k → k < 16 → st' (Int.toNat ((40 + (16 * q)) + k)) = st (Int.toNat ((40 + (16 * p)) + k)) ∧ st' (Int.toNat ((168 + (16 * q)) + k)) = st (Int.toNat ((168 + (16 * p)) + k))
def Ok2p (st : ST) (p : Int) : Prop := (0 ≤ st (Int.toNat p) ∧ st (Int.toNat p) ≤ 99) ∧ (st (Int.toNat (24 + p)) = -6 ∨ (0 ≤ st (Int.toNat (24 + p)) ∧ st (Int.toNat (24 + p)) ≤ 3)) ∧ ∀ k : Int, 0 ≤ k → k < st (Int.toNat (16 + p)) → (0 ≤ st (Int.toNat ((40 + (16 * p)) + k)) ∧ st (Int.toNat ((40 + (16 * p)) + k)) ≤ 23) ∧ (0 ≤ st (Int.toNat ((168 + (16 * p)) + k)) ∧ st (Int.toNat ((168 + (16 * p)) + k)) ≤ 6)
theorem Sm.fr {h : PH} {st st' : ST} {p q : Int} {c : Nat} (s : Sm st p st' q) (np : st (Int.toNat (16 + p)) ≤ 16) (f : FR h c st p) : FR h c st' q := by
  obtain ⟨⟨s1, s2, s3, s4, s5⟩, s6⟩ := s
  obtain ⟨f1, f6⟩ := f
  unfold FR
  rw [s1, s2, s3, s4, s5]
  exact ⟨f1, fun k k0 k1 => by rw [(s6 k k0 (by omega)).1, (s6 k k0 (by omega)).2]; exact f6 k k0 k1⟩
theorem Sm.okp {st st' : ST} {p q : Int} (s : Sm st p st' q) (f : OkP st p) : OkP st' q := by
  obtain ⟨⟨s1, s2, s3, s4, s5⟩, s6⟩ := s
  unfold OkP at *
  rw [s2, s3]
  exact f
theorem Sm.ok2 {st st' : ST} {p q : Int} (s : Sm st p st' q) (np : st (Int.toNat (16 + p)) ≤ 16) (f : Ok2p st p) : Ok2p st' q := by
  obtain ⟨⟨s1, s2, s3, s4, s5⟩, s6⟩ := s
  obtain ⟨f1, f2, f3⟩ := f
  unfold Ok2p
  rw [s1, s3, s4]
  exact ⟨f1, f2, fun k k0 k1 => by rw [(s6 k k0 (by omega)).1, (s6 k k0 (by omega)).2]; exact f3 k k0 k1⟩
theorem Sm.of {st st' : ST} {p : Int} (p0 : 0 ≤ p ∧ p ≤ 7) (k : ∀ j : Nat, ((j < 40 ∧ (j : Int) % 8 = p) ∨ (40 ≤ j ∧ j < 168 ∧ ((j : Int) - 40) / 16 = p) ∨ (168 ≤ j ∧ j < 296 ∧ ((j : Int) - 168) / 16 = p)) → st' j = st j) : Sm st p st' p := by
  refine ⟨⟨k _ (by omega), k _ (by omega), k _ (by omega), k _ (by omega), k _ (by omega)⟩, fun i i0 i1 => ⟨k _ (by omega), k _ (by omega)⟩⟩
def psd (st : ST) (nm bg : Int) : ST := up (up (up (up (up (up st (Int.toNat (0 + st 484)) nm) (Int.toNat (8 + st 484)) bg) (Int.toNat (16 + st 484)) 0) (Int.toNat (24 + st 484)) (-6)) (Int.toNat (32 + st 484)) (-6)) 484 (st 484 + 1)
theorem psd_v {st : ST} {nm bg : Int} (m : 0 ≤ st 484 ∧ st 484 < 8) : (psd st nm bg 484 = st 484 + 1 ∧ psd st nm bg (Int.toNat (st 484)) = nm ∧ psd st nm bg (Int.toNat (8 + st 484)) = bg ∧ psd st nm bg (Int.toNat (16 + st 484)) = 0 ∧ psd st nm bg (Int.toNat (24 + st 484)) = -6 ∧ psd st nm bg (Int.toNat (32 + st 484)) = -6) ∧ ∀ j : Nat, j ≠ 484 → (40 ≤ j ∨ (j : Int) % 8 ≠ st 484) → psd st nm bg j = st j := by
  have e : Int.toNat (0 + st 484) = Int.toNat (st 484) := by omega
  unfold psd
  refine ⟨⟨?_, ?_, ?_, ?_, ?_, ?_⟩, fun j h1 h2 => ?_⟩
  · rw [up_eq]
  · rw [up_ne (by omega), up_ne (by omega), up_ne (by omega), up_ne (by omega), up_ne (by omega), e, up_eq]
  · rw [up_ne (by omega), up_ne (by omega), up_ne (by omega), up_ne (by omega), up_eq]
  · rw [up_ne (by omega), up_ne (by omega), up_ne (by omega), up_eq]
  · rw [up_ne (by omega), up_ne (by omega), up_eq]
  · rw [up_ne (by omega), up_eq]
  · rw [up_ne h1, up_ne (by omega), up_ne (by omega), up_ne (by omega), up_ne (by omega), up_ne (by omega)]
theorem pass_ok {st : ST} {nm bg : Int} (hS : OkS st) (h2 : Ok2 st) (m : st 484 < 8) (n0 : 0 ≤ nm ∧ nm ≤ 99) (b0 : 0 ≤ bg ∧ bg ≤ 60) (hp : pOf st nm < 0) : OkS (psd st nm bg) ∧ Ok2 (psd st nm bg) ∧ (sgB st (psd st nm bg) ∧ sgC st (psd st nm bg) ∧ sgD st (psd st nm bg)) ∧ ∀ p : Int, 0 ≤ p → p < st 484 → Sm st p (psd st nm bg) p := by
  have m0 := hS.2.2.1
  obtain ⟨⟨v0, v1, v2, v3, v4, v5⟩, v6⟩ := psd_v (st := st) (nm := nm) (bg := bg) ⟨m0.1, m⟩
  have sm : ∀ p : Int, 0 ≤ p → p < st 484 → Sm st p (psd st nm bg) p := fun p a b => Sm.of (by omega) (fun j hj => v6 j (by omega) (by omega))
  have hn : ∀ i : Nat, (i : Int) < st 484 → st i ≠ nm := by
    intro i hi
    rcases pOfN_b (st := st) (name := nm) (Int.toNat (st 484)) with ⟨-, y⟩ | ⟨y1, -, -⟩
    · exact y i (by omega)
    · unfold pOf at hp; omega
  obtain ⟨k1, k2, k3, k4⟩ := flt_ok (st' := psd st nm bg) hS (fun j a b => v6 j b (by omega)) (fun j => by
    have := hS.2.1 j
    unfold psd up pR at *
    (repeat' split) <;> omega) (by rw [v0]; omega) (fun p a b => by
    rw [v0] at b
    by_cases z : p = st 484
    · subst z
      unfold OkP
      rw [v2, v3]
      omega
    · exact (sm p a (by omega)).okp (hS.2.2.2.2 p a (by omega)))
  refine ⟨k1, ⟨fun p a b => ?_, fun p q a b c => ?_, ?_⟩, ⟨k2, k3, k4⟩, sm⟩
  · rw [v0] at b
    by_cases z : p = st 484
    · subst z
      rw [v1, v3, v4]
      exact ⟨n0, Or.inl rfl, fun k k0 k1 => by omega⟩
    · exact (sm p a (by omega)).ok2 (hS.2.2.2.2 p a (by omega)).2.2 (h2.1 p a (by omega))
  · rw [v0] at c
    rw [v6 (Int.toNat p) (by omega) (by omega)]
    by_cases z : q = st 484
    · subst z
      rw [v1]
      exact hn _ (by omega)
    · rw [v6 (Int.toNat q) (by omega) (by omega)]
      exact h2.2.1 p q a b (by omega)
  · rw [k4 489 (by decide) (by decide), k4 490 (by decide) (by decide)]
    exact h2.2.2
def ptd (st : ST) (p sd hh : Int) : ST := up (up (up st (Int.toNat ((40 + (16 * p)) + st (Int.toNat (16 + p)))) sd) (Int.toNat ((168 + (16 * p)) + st (Int.toNat (16 + p)))) hh) (Int.toNat (16 + p)) (st (Int.toNat (16 + p)) + 1)
theorem ptd_v {st : ST} {p sd hh : Int} (p0 : 0 ≤ p ∧ p ≤ 7) (n0 : 0 ≤ st (Int.toNat (16 + p)) ∧ st (Int.toNat (16 + p)) < 16) : (ptd st p sd hh (Int.toNat ((40 + (16 * p)) + st (Int.toNat (16 + p)))) = sd ∧ ptd st p sd hh (Int.toNat ((168 + (16 * p)) + st (Int.toNat (16 + p)))) = hh ∧ ptd st p sd hh (Int.toNat (16 + p)) = st (Int.toNat (16 + p)) + 1) ∧ ∀ j : Nat, j ≠ Int.toNat (16 + p) → j ≠ Int.toNat ((40 + (16 * p)) + st (Int.toNat (16 + p))) → j ≠ Int.toNat ((168 + (16 * p)) + st (Int.toNat (16 + p))) → ptd st p sd hh j = st j := by
  unfold ptd
  refine ⟨⟨?_, ?_, ?_⟩, fun j h1 h2 h3 => ?_⟩
  · rw [up_ne (by omega), up_ne (by omega), up_eq]
  · rw [up_ne (by omega), up_eq]
  · rw [up_eq]
  · rw [up_ne h1, up_ne h3, up_ne h2]
theorem point_ok {st : ST} {p sd hh : Int} (hS : OkS st) (h2 : Ok2 st) (p0 : 0 ≤ p ∧ p < st 484) (n1 : st (Int.toNat (16 + p)) < 16) (s0 : 0 ≤ sd ∧ sd ≤ 23) (h0 : 0 ≤ hh ∧ hh ≤ 6) : OkS (ptd st p sd hh) ∧ Ok2 (ptd st p sd hh) ∧ (sgB st (ptd st p sd hh) ∧ sgC st (ptd st p sd hh) ∧ sgD st (ptd st p sd hh)) ∧ ∀ q : Int, 0 ≤ q → q < st 484 → q ≠ p → Sm st q (ptd st p sd hh) q := by
  have m0 := hS.2.2.1
  have pp := hS.2.2.2.2 p p0.1 p0.2
  obtain ⟨q6, q7⟩ := id pp
  obtain ⟨⟨v1, v2, v3⟩, v6⟩ := ptd_v (st := st) (p := p) (sd := sd) (hh := hh) (by omega) (by omega)
  have sm : ∀ q : Int, 0 ≤ q → q < st 484 → q ≠ p → Sm st q (ptd st p sd hh) q := fun q a b c => Sm.of (by omega) (fun j hj => v6 j (by omega) (by omega) (by omega))
  have e484 : ptd st p sd hh 484 = st 484 := v6 484 (by omega) (by omega) (by omega)
  obtain ⟨k1, k2, k3, k4⟩ := flt_ok (st' := ptd st p sd hh) hS (fun j a b => v6 j (by omega) (by omega) (by omega)) (fun j => by
    have := hS.2.1 j
    unfold ptd up pR at *
    (repeat' split) <;> omega) (by rw [e484]; exact m0) (fun q a b => by
    rw [e484] at b
    by_cases z : q = p
    · subst z
      unfold OkP
      rw [v3, v6 _ (by omega) (by omega) (by omega)]
      omega
    · exact (sm q a b z).okp (hS.2.2.2.2 q a b))
  refine ⟨k1, ⟨fun q a b => ?_, fun q r a b c => ?_, ?_⟩, ⟨k2, k3, k4⟩, sm⟩
  · rw [e484] at b
    by_cases z : q = p
    · subst z
      obtain ⟨x1, x2, x3⟩ := h2.1 q a b
      rw [v6 (Int.toNat q) (by omega) (by omega) (by omega), v6 (Int.toNat (24 + q)) (by omega) (by omega) (by omega), v3]
      refine ⟨x1, x2, fun k c e => ?_⟩
      by_cases y : k = st (Int.toNat (16 + q))
      · rw [y, v1, v2]; exact ⟨s0, h0⟩
      · rw [v6 (Int.toNat ((40 + (16 * q)) + k)) (by omega) (by omega) (by omega), v6 (Int.toNat ((168 + (16 * q)) + k)) (by omega) (by omega) (by omega)]
        exact x3 k c (by omega)
    · exact (sm q a b z).ok2 (hS.2.2.2.2 q a b).2.2 (h2.1 q a b)
  · rw [e484] at c
    rw [v6 (Int.toNat q) (by omega) (by omega) (by omega), v6 (Int.toNat r) (by omega) (by omega) (by omega)]
    exact h2.2.1 q r a b c
  · rw [k4 489 (by decide) (by decide), k4 490 (by decide) (by decide)]
    exact h2.2.2
def drd (st : ST) (p : Int) : ST := drA (up st 484 (st 484 - 1)) (Int.toNat p) (Int.toNat (st 484 - 1)) 0 0
theorem drA_lo {s : Nat → Int} {p k q m : Nat} (hq : q < k) (hk : k ≤ 7) (hm : m < 5) : drA s p k 0 0 (8 * m + q) = if p ≤ q then s (8 * m + q + 1) else s (8 * m + q) := by
  unfold drA
  rw [if_pos (by omega)]
  by_cases z : p ≤ q
  · rw [if_pos (by omega), if_pos z]
  · rw [if_neg (by omega), if_neg z]
theorem drA_sd {s : Nat → Int} {p k q i : Nat} (hq : q < k) (hk : k ≤ 7) (hi : i < 16) : drA s p k 0 0 (40 + 16 * q + i) = if p ≤ q then s (40 + 16 * q + i + 16) else s (40 + 16 * q + i) := by
  unfold drA
  rw [if_neg (by omega), if_pos (by omega)]
  by_cases z : p ≤ q
  · rw [if_pos (by omega), if_pos z]
  · rw [if_neg (by omega), if_neg z]
theorem drA_hh {s : Nat → Int} {p k q i : Nat} (hq : q < k) (hk : k ≤ 7) (hi : i < 16) : drA s p k 0 0 (168 + 16 * q + i) = if p ≤ q then s (168 + 16 * q + i + 16) else s (168 + 16 * q + i) := by
  unfold drA
  rw [if_neg (by omega), if_neg (by omega), if_pos (by omega)]
  by_cases z : p ≤ q
  · rw [if_pos (by omega), if_pos z]
  · rw [if_neg (by omega), if_neg z]
def shI (p q : Int) : Int := if p ≤ q then q + 1 else q
theorem drd_sm {st : ST} {p : Int} (m : 0 ≤ st 484 ∧ st 484 ≤ 8) (p0 : 0 ≤ p ∧ p < st 484) (q : Int) (q0 : 0 ≤ q) (q1 : q < st 484 - 1) : Sm st (shI p q) (drd st p) q := by
  obtain ⟨qn, rfl⟩ := Int.eq_ofNat_of_zero_le q0
  obtain ⟨pn, rfl⟩ := Int.eq_ofNat_of_zero_le p0.1
  have lo : ∀ mm : Nat, mm < 5 → drd st pn (8 * mm + qn) = st (Int.toNat (8 * (mm : Int) + shI pn qn)) := by
    intro mm hm
    unfold drd
    have e0 : Int.toNat (pn : Int) = pn := by omega
    rw [e0, drA_lo (by omega) (by omega) hm]
    unfold shI
    by_cases z : pn ≤ qn
    · rw [if_pos z, if_pos (by omega), up_ne (by omega)]
      (congr 1 <;> omega)
    · rw [if_neg z, if_neg (by omega), up_ne (by omega)]
      (congr 1 <;> omega)
  have sd : ∀ i : Nat, i < 16 → drd st pn (40 + 16 * qn + i) = st (Int.toNat ((40 + (16 * shI pn qn)) + (i : Int))) := by
    intro i hi
    unfold drd
    have e0 : Int.toNat (pn : Int) = pn := by omega
    rw [e0, drA_sd (by omega) (by omega) hi]
    unfold shI
    by_cases z : pn ≤ qn
    · rw [if_pos z, if_pos (by omega), up_ne (by omega)]
      (congr 1 <;> omega)
    · rw [if_neg z, if_neg (by omega), up_ne (by omega)]
      (congr 1 <;> omega)
  have hh : ∀ i : Nat, i < 16 → drd st pn (168 + 16 * qn + i) = st (Int.toNat ((168 + (16 * shI pn qn)) + (i : Int))) := by
    intro i hi
    unfold drd
    have e0 : Int.toNat (pn : Int) = pn := by omega
    rw [e0, drA_hh (by omega) (by omega) hi]
    unfold shI
    by_cases z : pn ≤ qn
    · rw [if_pos z, if_pos (by omega), up_ne (by omega)]
      (congr 1 <;> omega)
    · rw [if_neg z, if_neg (by omega), up_ne (by omega)]
      (congr 1 <;> omega)
  have l0 := lo 0 (by omega)
  have l1 := lo 1 (by omega)
  have l2 := lo 2 (by omega)
  have l3 := lo 3 (by omega)
  have l4 := lo 4 (by omega)
  refine ⟨⟨?_, ?_, ?_, ?_, ?_⟩, fun k k0 k1 => ⟨?_, ?_⟩⟩
  · have e1 : Int.toNat (qn : Int) = 8 * 0 + qn := by omega
    have e2 : Int.toNat (shI pn qn) = Int.toNat (8 * ((0 : Nat) : Int) + shI pn qn) := by omega
    rw [e1, e2]; exact l0
  · have e1 : Int.toNat (8 + (qn : Int)) = 8 * 1 + qn := by omega
    have e2 : Int.toNat (8 + shI pn qn) = Int.toNat (8 * ((1 : Nat) : Int) + shI pn qn) := by omega
    rw [e1, e2]; exact l1
  · have e1 : Int.toNat (16 + (qn : Int)) = 8 * 2 + qn := by omega
    have e2 : Int.toNat (16 + shI pn qn) = Int.toNat (8 * ((2 : Nat) : Int) + shI pn qn) := by omega
    rw [e1, e2]; exact l2
  · have e1 : Int.toNat (24 + (qn : Int)) = 8 * 3 + qn := by omega
    have e2 : Int.toNat (24 + shI pn qn) = Int.toNat (8 * ((3 : Nat) : Int) + shI pn qn) := by omega
    rw [e1, e2]; exact l3
  · have e1 : Int.toNat (32 + (qn : Int)) = 8 * 4 + qn := by omega
    have e2 : Int.toNat (32 + shI pn qn) = Int.toNat (8 * ((4 : Nat) : Int) + shI pn qn) := by omega
    rw [e1, e2]; exact l4
  · have e1 : Int.toNat ((40 + (16 * (qn : Int))) + k) = 40 + 16 * qn + Int.toNat k := by omega
    have e2 : ((Int.toNat k : Nat) : Int) = k := by omega
    have := sd (Int.toNat k) (by omega)
    rw [e2] at this
    rw [e1]; exact this
  · have e1 : Int.toNat ((168 + (16 * (qn : Int))) + k) = 168 + 16 * qn + Int.toNat k := by omega
    have e2 : ((Int.toNat k : Nat) : Int) = k := by omega
    have := hh (Int.toNat k) (by omega)
    rw [e2] at this
    rw [e1]; exact this
theorem drd_hi {st : ST} {p : Int} (j : Nat) (h : 296 ≤ j) (hj : j ≠ 484) : drd st p j = st j := by
  unfold drd
  rw [drA_hi h, up_ne hj]
theorem drd_n {st : ST} {p : Int} : drd st p 484 = st 484 - 1 := by
  unfold drd
  rw [drA_hi (by decide), up_eq]
theorem drd_r {st : ST} {p : Int} (hS : OkS st) (j : Nat) : pR (drd st p j) := by
  have m := hS.2.2.1
  have hb : ∀ j, pR (up st 484 (st 484 - 1) j) := fun j => by
    have := hS.2.1 j
    unfold up pR at *
    split <;> omega
  unfold drd drA
  (repeat' split) <;> exact hb _
theorem drop_ok {st : ST} {p : Int} (hS : OkS st) (h2 : Ok2 st) (p0 : 0 ≤ p ∧ p < st 484) : OkS (drd st p) ∧ Ok2 (drd st p) ∧ (sgB st (drd st p) ∧ sgC st (drd st p) ∧ sgD st (drd st p)) := by
  have m := hS.2.2.1
  have sm := fun q a b => drd_sm (p := p) m p0 q a b
  have sb : ∀ q : Int, 0 ≤ q → q < st 484 - 1 → 0 ≤ shI p q ∧ shI p q < st 484 := fun q a b => by unfold shI; split <;> omega
  obtain ⟨k1, k2, k3, k4⟩ := flt_ok (st' := drd st p) hS (fun j a b => drd_hi j a b) (fun j => drd_r hS j) (by rw [drd_n]; omega) (fun q a b => by
    rw [drd_n] at b
    have := sb q a b
    exact (sm q a b).okp (hS.2.2.2.2 _ this.1 this.2))
  refine ⟨k1, ⟨fun q a b => ?_, fun q r a b c => ?_, ?_⟩, k2, k3, k4⟩
  · rw [drd_n] at b
    have := sb q a b
    exact (sm q a b).ok2 (hS.2.2.2.2 _ this.1 this.2).2.2 (h2.1 _ this.1 this.2)
  · rw [drd_n] at c
    rw [(sm q a (by omega)).1.1, (sm r (by omega) c).1.1]
    have x := sb q a (by omega)
    have y := sb r (by omega) c
    refine h2.2.1 _ _ x.1 ?_ y.2
    unfold shI
    split <;> split <;> omega
  · rw [k4 489 (by decide) (by decide), k4 490 (by decide) (by decide)]
    exact h2.2.2
theorem ct_X6_pass (G : Gx) (l : Launch) (h : PH) {st : ST} (hW : CW h st) {nm : Int} (gnm : pR nm) {bg : Int} (gbg : pR bg) : CT_X6_pass G l [.inr 2, .inl nm, .inl bg] h (KQ (fun v st' => (v, st') = mPass st nm bg) h) := by
  obtain ⟨fx, hR, hS, h2, hY⟩ := id hW
  have xt2 : ph_T h 2 = 6 := fx.1.1
  have x20 : ph_R h 2 0 = 3 := fx.1.2.1
  have x23 : ph_R h 2 3 = 104 := fx.1.2.2.2.2
  have w3 : WS h 3 := fx.2.2.1.1
  have t3 : ph_T h 3 = 5 := w3.1.1
  have t4 : ph_T h 4 = 10 := w3.1.2.1
  have t5 : ph_T h 5 = 11 := w3.1.2.2.1
  have t6 : ph_T h 6 = 3 := w3.1.2.2.2.1
  have t7 : ph_T h 7 = 8 := w3.1.2.2.2.2
  have l4 : ph_L h 4 = 8 := w3.2.1.1
  have l5 : ph_L h 5 = 4 := w3.2.1.2.1
  have l7 : ph_L h 7 = 168 := w3.2.1.2.2
  have r30 : ph_R h 3 0 = 4 := w3.2.2.1.1
  have r31 : ph_R h 3 1 = 5 := w3.2.2.1.2.1
  have r32 : ph_R h 3 2 = 6 := w3.2.2.1.2.2.1
  have r33 : ph_R h 3 3 = 7 := w3.2.2.1.2.2.2
  have t104 : ph_T h 104 = 2 := fx.2.2.2.1.1
  have f1 : ph_I h 3 4 = st 484 := hR.1
  have sr6 : SR h 6 st := hR.2.2.2.1
  have hmany := hS.2.2.1
  have hb := hS.2.1
  refine ct_intro rfl (Nat.le_of_ble_eq_true rfl) (fun X hX C => ?_)
  by_cases hp : 0 ≤ pOf st nm
  · refine B_X6_pass_0 C (hM := ct_X6_isIn _ _ _) (kk := fun r1 h1 hq1 => ?_)
    obtain ⟨rfl, ⟨rfl, c1⟩ | ⟨rfl, c1⟩⟩ := hq1
    · refine B_X6_pass_7 C (kt := fun c2 => absurd c2 (by decide)) (kf := fun c2 => ?_)
      refine B_X6_pass_10 C (hM := ct_X6_isIn _ _ _) (kk := fun r3 h3 hq3 => ?_)
      obtain ⟨rfl, ⟨rfl, c3⟩ | ⟨rfl, c3⟩⟩ := hq3
      · refine B_X6_pass_17 C (kt := fun c4 => ?_) (kf := fun c4 => absurd c4 (by decide))
        refine B_X6_pass_23 C (hM := ct_idxP _ _ _ hW gnm hp) (kk := fun r5 h5 hq5 => ?_)
        obtain ⟨rfl, rfl⟩ := hq5
        refine B_X6_pass_31 C (q1 := by have := pOf_b (st := st) nm hmany.1; unfold pR; omega) (kt := fun c6 => ?_) (kf := fun c6 => ?_)
        · omega
        · exact B_X6_pass_34 C (hq := by exact KQ_same hW (by unfold mPass; (repeat' split) <;> first | rfl | omega))
      · refine B_X6_pass_17 C (kt := fun c7 => absurd c7 (by decide)) (kf := fun c7 => ?_)
        exact B_X6_pass_20 C (hq := by exact KQ_same hW (by unfold mPass; (repeat' split) <;> first | rfl | omega))
    · refine B_X6_pass_7 C (kt := fun c8 => ?_) (kf := fun c8 => absurd c8 (by decide))
      exact B_X6_pass_20 C (hq := by exact KQ_same hW (by unfold mPass; (repeat' split) <;> first | rfl | omega))
  · refine B_X6_pass_0 C (hM := ct_X6_isIn _ _ _) (kk := fun r1 h1 hq1 => ?_)
    obtain ⟨rfl, ⟨rfl, c1⟩ | ⟨rfl, c1⟩⟩ := hq1
    · refine B_X6_pass_7 C (kt := fun c2 => absurd c2 (by decide)) (kf := fun c2 => ?_)
      refine B_X6_pass_10 C (hM := ct_X6_isIn _ _ _) (kk := fun r3 h3 hq3 => ?_)
      obtain ⟨rfl, ⟨rfl, c3⟩ | ⟨rfl, c3⟩⟩ := hq3
      · refine B_X6_pass_17 C (kt := fun c4 => ?_) (kf := fun c4 => absurd c4 (by decide))
        refine B_X6_pass_23 C (hM := ct_idxN _ _ _ hW gnm hp) (kk := fun r5 h5 hq5 => ?_)
        obtain ⟨rfl, rfl⟩ := hq5
        refine B_X6_pass_31 C (kt := fun c6 => ?_) (kf := fun c6 => ?_)
        · refine B_X6_pass_37 C (kt := fun c7 => ?_) (kf := fun c7 => ?_)
          · have nb : 0 ≤ st 484 ∧ st 484 < 8 := by omega
            obtain ⟨k1, k2, ⟨kB, kC, kD⟩, sm⟩ := pass_ok (nm := nm) (bg := bg) hS h2 nb.2 (by omega) (by omega) (by omega)
            obtain ⟨⟨v0, v1, v2, v3, v4, v5⟩, v6⟩ := psd_v (st := st) (nm := nm) (bg := bg) nb
            obtain ⟨fsn, jn, hjn, ejn⟩ := w3.2.2.2.1 (Int.toNat (st 484)) (by omega)
            have ejn' : (ph_R h 4 (Int.toNat (st 484))) = 8 + 3 * jn := ejn
            have tfc : ph_T h (ph_R h 4 (Int.toNat (st 484))) = 0 := fsn.1.1
            refine B_X6_pass_52 C (r2 := 3) (r5 := 4) (r8 := 3) (x11 := st 484) (m17 := 10) (r18 := (ph_R h 4 (Int.toNat (st 484)))) (q15 := by rw [l4]; omega) (hM := ct_X0_start _ _ _ tfc) (kk := fun rr h4 hq4 => ?_)
            obtain ⟨rfl, rfl⟩ := hq4
            have x1 : Fr (fun c => c = 3 ∨ c = (ph_R h 4 (Int.toNat (st 484)))) h (ph_setI (ph_setI (ph_setI (ph_setI (ph_setI (ph_setI h (ph_R h 4 (Int.toNat (st 484))) 2 nm) (ph_R h 4 (Int.toNat (st 484))) 3 bg) (ph_R h 4 (Int.toNat (st 484))) 4 0) (ph_R h 4 (Int.toNat (st 484))) 5 (-6)) (ph_R h 4 (Int.toNat (st 484))) 6 (-6)) 3 4 (st 484 + 1)) := ((((((Fr.rf (fun c => c = 3 ∨ c = (ph_R h 4 (Int.toNat (st 484)))) h).set (Or.inr rfl) _ _).set (Or.inr rfl) _ _).set (Or.inr rfl) _ _).set (Or.inr rfl) _ _).set (Or.inr rfl) _ _).set (Or.inl rfl) _ _
            have e34 : ph_I (ph_setI (ph_setI (ph_setI (ph_setI (ph_setI (ph_setI h (ph_R h 4 (Int.toNat (st 484))) 2 nm) (ph_R h 4 (Int.toNat (st 484))) 3 bg) (ph_R h 4 (Int.toNat (st 484))) 4 0) (ph_R h 4 (Int.toNat (st 484))) 5 (-6)) (ph_R h 4 (Int.toNat (st 484))) 6 (-6)) 3 4 (st 484 + 1)) 3 4 = st 484 + 1 := by rw [sI_eq]
            have wr1 : WR (ph_setI (ph_setI (ph_setI (ph_setI (ph_setI (ph_setI h (ph_R h 4 (Int.toNat (st 484))) 2 nm) (ph_R h 4 (Int.toNat (st 484))) 3 bg) (ph_R h 4 (Int.toNat (st 484))) 4 0) (ph_R h 4 (Int.toNat (st 484))) 5 (-6)) (ph_R h 4 (Int.toNat (st 484))) 6 (-6)) 3 4 (st 484 + 1)) 3 (psd st nm bg) := by
              refine ⟨by rw [e34, v0], fun p p0 p1 => ?_, mn_keep hR x1 (fun c hc => by omega) kB, sk_keep hR x1 (fun c hc => by omega) kD, lk_keep hR x1 (fun c hc => by omega) kC⟩
              rw [v0] at p1
              show FR (ph_setI (ph_setI (ph_setI (ph_setI (ph_setI (ph_setI h (ph_R h 4 (Int.toNat (st 484))) 2 nm) (ph_R h 4 (Int.toNat (st 484))) 3 bg) (ph_R h 4 (Int.toNat (st 484))) 4 0) (ph_R h 4 (Int.toNat (st 484))) 5 (-6)) (ph_R h 4 (Int.toNat (st 484))) 6 (-6)) 3 4 (st 484 + 1)) (ph_R h 4 (Int.toNat p)) (psd st nm bg) p
              by_cases z : p = st 484
              · subst z
                unfold FR
                rw [v1, v2, v3, v4, v5]
                refine ⟨⟨?_, ?_, ?_, ?_, ?_⟩, fun k a b => by omega⟩
                · rw [sI_c (by omega), sI_k (by decide), sI_k (by decide), sI_k (by decide), sI_k (by decide), sI_eq]
                · rw [sI_c (by omega), sI_k (by decide), sI_k (by decide), sI_k (by decide), sI_eq]
                · rw [sI_c (by omega), sI_k (by decide), sI_k (by decide), sI_eq]
                · rw [sI_c (by omega), sI_k (by decide), sI_eq]
                · rw [sI_c (by omega), sI_eq]
              · obtain ⟨-, j, hj, ej⟩ := w3.2.2.2.1 (Int.toNat p) (by omega)
                have ej' : ph_R h 4 (Int.toNat p) = 8 + 3 * j := ej
                have hne : j ≠ jn := fun y => by
                  have := w3.2.2.2.2.1 (Int.toNat p) (Int.toNat (st 484)) (by omega) (by omega) (by show ph_R h 4 _ = ph_R h 4 _; rw [ej', ejn', y])
                  omega
                refine (sm p p0 (by omega)).fr (hS.2.2.2.2 p p0 (by omega)).2.2 (FR_congr (fun c c0 c1 k => x1.I (by omega) k) (hR.2.1 p p0 (by omega)))
            refine B_X6_pass_72 C (r2 := 3) (x5 := st 484) (e6 := by rw [sI_c (by omega), sI_c (by omega), sI_c (by omega), sI_c (by omega), sI_c (by omega)]; exact f1) (r9 := 104) (hM := ct_X2_forgetWays _ _ (ph_setI (ph_setI (ph_setI (ph_setI (ph_setI (ph_setI h (ph_R h 4 (Int.toNat (st 484))) 2 nm) (ph_R h 4 (Int.toNat (st 484))) 3 bg) (ph_R h 4 (Int.toNat (st 484))) 4 0) (ph_R h 4 (Int.toNat (st 484))) 5 (-6)) (ph_R h 4 (Int.toNat (st 484))) 6 (-6)) 3 4 (st 484 + 1)) (XS_fr x1 fx)) (kk := fun rr h5 hq5 => ?_)
            obtain ⟨rfl, hF5, h55, ho5⟩ := hq5
            have xt5 : ph_T h5 2 = 6 := by rw [hF5.T]; exact xt2
            have x205 : ph_R h5 2 0 = 3 := by rw [hF5.R]; exact x20
            have t35 : ph_T h5 3 = 5 := by rw [hF5.T]; exact t3
            exact B_X6_pass_92 C (r2 := 3) (x5 := st 484 + 1) (e6 := by rw [hF5.I (by omega)]; exact e34) (hq := KQ_fw (XS_fr x1 fx) (WFl_fr x1 (fun c hc => by omega) hW.fl) wr1 k1 k2 (x1.cfr (fun c hc => by omega)) hF5 h55 ho5 (by unfold mPass; rw [if_neg (by omega), if_neg hp, if_neg (by omega)]; rfl))
          · exact B_X6_pass_49 C (hq := by exact KQ_same hW (by unfold mPass; (repeat' split) <;> first | rfl | omega))
        · omega
      · refine B_X6_pass_17 C (kt := fun c8 => absurd c8 (by decide)) (kf := fun c8 => ?_)
        exact B_X6_pass_20 C (hq := by exact KQ_same hW (by unfold mPass; (repeat' split) <;> first | rfl | omega))
    · refine B_X6_pass_7 C (kt := fun c9 => ?_) (kf := fun c9 => absurd c9 (by decide))
      exact B_X6_pass_20 C (hq := by exact KQ_same hW (by unfold mPass; (repeat' split) <;> first | rfl | omega))
theorem ct_X6_point (G : Gx) (l : Launch) (h : PH) {st : ST} (hW : CW h st) {nm : Int} (gnm : pR nm) {sd : Int} (gsd : pR sd) {hh : Int} (ghh : pR hh) : CT_X6_point G l [.inr 2, .inl nm, .inl sd, .inl hh] h (KQ (fun v st' => (v, st') = mPoint st nm sd hh) h) := by
  obtain ⟨fx, hR, hS, h2, hY⟩ := id hW
  have xt2 : ph_T h 2 = 6 := fx.1.1
  have x20 : ph_R h 2 0 = 3 := fx.1.2.1
  have x23 : ph_R h 2 3 = 104 := fx.1.2.2.2.2
  have w3 : WS h 3 := fx.2.2.1.1
  have t3 : ph_T h 3 = 5 := w3.1.1
  have t4 : ph_T h 4 = 10 := w3.1.2.1
  have t5 : ph_T h 5 = 11 := w3.1.2.2.1
  have t6 : ph_T h 6 = 3 := w3.1.2.2.2.1
  have t7 : ph_T h 7 = 8 := w3.1.2.2.2.2
  have l4 : ph_L h 4 = 8 := w3.2.1.1
  have l5 : ph_L h 5 = 4 := w3.2.1.2.1
  have l7 : ph_L h 7 = 168 := w3.2.1.2.2
  have r30 : ph_R h 3 0 = 4 := w3.2.2.1.1
  have r31 : ph_R h 3 1 = 5 := w3.2.2.1.2.1
  have r32 : ph_R h 3 2 = 6 := w3.2.2.1.2.2.1
  have r33 : ph_R h 3 3 = 7 := w3.2.2.1.2.2.2
  have t104 : ph_T h 104 = 2 := fx.2.2.2.1.1
  have f1 : ph_I h 3 4 = st 484 := hR.1
  have sr6 : SR h 6 st := hR.2.2.2.1
  have hmany := hS.2.2.1
  have hb := hS.2.1
  refine ct_intro rfl (Nat.le_of_ble_eq_true rfl) (fun X hX C => ?_)
  by_cases hp : 0 ≤ pOf st nm
  · have pb : 0 ≤ pOf st nm ∧ pOf st nm < st 484 := by have := pOf_b (st := st) nm hmany.1; omega
    obtain ⟨hfs, hfr, fb1, fb2⟩ := hW.flt pb
    have ft0 : ph_T h (ph_R h 4 (Int.toNat (pOf st nm))) = 0 := hfs.1.1
    obtain ⟨⟨fi2, fi3, fi4, fi5, fi6⟩, fpt⟩ := id hfr
    have hPp := hS.2.2.2.2 _ pb.1 pb.2
    have h2p := h2.1 _ pb.1 pb.2
    refine B_X6_point_0 C (hM := ct_idxP _ _ _ hW gnm hp) (kk := fun r1 h1 hq1 => ?_)
    obtain ⟨rfl, rfl⟩ := hq1
    refine B_X6_point_8 C (q1 := by unfold pR; omega) (kt := fun c2 => ?_) (kf := fun c2 => ?_)
    · refine B_X6_point_17 C (hM := ct_X6_isDirection _ _ _) (kk := fun r3 h3 hq3 => ?_)
      obtain ⟨rfl, ⟨rfl, c3⟩ | ⟨rfl, c3⟩⟩ := hq3
      · refine B_X6_point_22 C (kt := fun c4 => ?_) (kf := fun c4 => absurd c4 (by decide))
        refine B_X6_point_28 C (m11 := 10) (hM := ct_X0_isTaken _ _ _ ft0 fi5 (hb _)) (kk := fun r5 h5 hq5 => ?_)
        obtain ⟨rfl, ⟨rfl, c5⟩ | ⟨rfl, c5⟩⟩ := hq5
        · refine B_X6_point_45 C (kt := fun c6 => absurd c6 (by decide)) (kf := fun c6 => ?_)
          exact B_X6_point_48 C (hq := by exact KQ_same hW (by unfold mPoint; rw [if_neg (by omega), if_neg (by omega), if_pos (by omega)]))
        · refine B_X6_point_45 C (kt := fun c7 => ?_) (kf := fun c7 => absurd c7 (by decide))
          refine B_X6_point_51 C (q4 := hb _) (kt := fun c8 => ?_) (kf := fun c8 => ?_)
          · have np : 0 ≤ st (Int.toNat (16 + pOf st nm)) ∧ st (Int.toNat (16 + pOf st nm)) < 16 := by have := hPp.2; omega
            obtain ⟨k1, k2, ⟨kB, kC, kD⟩, sm⟩ := point_ok (p := pOf st nm) (sd := sd) (hh := hh) hS h2 pb np.2 (by omega) (by omega)
            obtain ⟨⟨v1, v2, v3⟩, v6⟩ := ptd_v (st := st) (p := pOf st nm) (sd := sd) (hh := hh) (by omega) np
            obtain ⟨-, jn, hjn, ejn⟩ := w3.2.2.2.1 (Int.toNat (pOf st nm)) (by omega)
            have ejn' : (ph_R h 4 (Int.toNat (pOf st nm))) = 8 + 3 * jn := ejn
            have e484 : (ptd st (pOf st nm) sd hh) 484 = st 484 := v6 484 (by omega) (by omega) (by omega)
            refine B_X6_point_64 C (hM := ct_X0_addPoint _ _ _ hfs fi4 np) (kk := fun rr h4 hq4 => ?_)
            obtain ⟨rfl, rfl⟩ := hq4
            have x1 : Fr (fun c => (ph_R h 4 (Int.toNat (pOf st nm))) ≤ c ∧ c ≤ (ph_R h 4 (Int.toNat (pOf st nm))) + 2) h (ph_setI (ph_setI (ph_setI h ((ph_R h 4 (Int.toNat (pOf st nm))) + 1) (Int.toNat (st (Int.toNat (16 + pOf st nm)))) sd) ((ph_R h 4 (Int.toNat (pOf st nm))) + 2) (Int.toNat (st (Int.toNat (16 + pOf st nm)))) hh) (ph_R h 4 (Int.toNat (pOf st nm))) 4 (st (Int.toNat (16 + pOf st nm)) + 1)) := (((Fr.rf (fun c => (ph_R h 4 (Int.toNat (pOf st nm))) ≤ c ∧ c ≤ (ph_R h 4 (Int.toNat (pOf st nm))) + 2) h).set (by omega) _ _).set (by omega) _ _).set (by omega) _ _
            have wr1 : WR (ph_setI (ph_setI (ph_setI h ((ph_R h 4 (Int.toNat (pOf st nm))) + 1) (Int.toNat (st (Int.toNat (16 + pOf st nm)))) sd) ((ph_R h 4 (Int.toNat (pOf st nm))) + 2) (Int.toNat (st (Int.toNat (16 + pOf st nm)))) hh) (ph_R h 4 (Int.toNat (pOf st nm))) 4 (st (Int.toNat (16 + pOf st nm)) + 1)) 3 (ptd st (pOf st nm) sd hh) := by
              refine ⟨by rw [e484, x1.I (by omega)]; exact f1, fun p p0 p1 => ?_, mn_keep hR x1 (fun c hc => by omega) kB, sk_keep hR x1 (fun c hc => by omega) kD, lk_keep hR x1 (fun c hc => by omega) kC⟩
              rw [e484] at p1
              show FR (ph_setI (ph_setI (ph_setI h ((ph_R h 4 (Int.toNat (pOf st nm))) + 1) (Int.toNat (st (Int.toNat (16 + pOf st nm)))) sd) ((ph_R h 4 (Int.toNat (pOf st nm))) + 2) (Int.toNat (st (Int.toNat (16 + pOf st nm)))) hh) (ph_R h 4 (Int.toNat (pOf st nm))) 4 (st (Int.toNat (16 + pOf st nm)) + 1)) (ph_R h 4 (Int.toNat p)) (ptd st (pOf st nm) sd hh) p
              by_cases z : p = pOf st nm
              · rw [z]
                unfold FR
                rw [v3, v6 _ (by omega) (by omega) (by omega), v6 _ (by omega) (by omega) (by omega), v6 _ (by omega) (by omega) (by omega), v6 _ (by omega) (by omega) (by omega)]
                refine ⟨⟨?_, ?_, ?_, ?_, ?_⟩, fun k a b => ?_⟩
                · rw [sI_k (by decide), sI_c (by omega), sI_c (by omega)]; exact fi2
                · rw [sI_k (by decide), sI_c (by omega), sI_c (by omega)]; exact fi3
                · rw [sI_eq]
                · rw [sI_k (by decide), sI_c (by omega), sI_c (by omega)]; exact fi5
                · rw [sI_k (by decide), sI_c (by omega), sI_c (by omega)]; exact fi6
                · by_cases y : k = st (Int.toNat (16 + pOf st nm))
                  · rw [y, v1, v2]
                    refine ⟨?_, ?_⟩
                    · rw [sI_c (by omega), sI_c (by omega), sI_eq]
                    · rw [sI_c (by omega), sI_eq]
                  · rw [v6 _ (by omega) (by omega) (by omega), v6 _ (by omega) (by omega) (by omega)]
                    refine ⟨?_, ?_⟩
                    · rw [sI_c (by omega), sI_c (by omega), sI_k (by omega)]; exact (fpt k a (by omega)).1
                    · rw [sI_c (by omega), sI_k (by omega), sI_c (by omega)]; exact (fpt k a (by omega)).2
              · obtain ⟨-, j, hj, ej⟩ := w3.2.2.2.1 (Int.toNat p) (by omega)
                have ej' : ph_R h 4 (Int.toNat p) = 8 + 3 * j := ej
                have hne : j ≠ jn := fun y => by
                  have := w3.2.2.2.2.1 (Int.toNat p) (Int.toNat (pOf st nm)) (by omega) (by omega) (by show ph_R h 4 _ = ph_R h 4 _; rw [ej', ejn', y])
                  omega
                refine (sm p p0 (by omega) z).fr (hS.2.2.2.2 p p0 (by omega)).2.2 (FR_congr (fun c c0 c1 k => x1.I (by omega) k) (hR.2.1 p p0 (by omega)))
            refine B_X6_point_71 C (r2 := 104) (hM := ct_X2_forgetWays _ _ (ph_setI (ph_setI (ph_setI h ((ph_R h 4 (Int.toNat (pOf st nm))) + 1) (Int.toNat (st (Int.toNat (16 + pOf st nm)))) sd) ((ph_R h 4 (Int.toNat (pOf st nm))) + 2) (Int.toNat (st (Int.toNat (16 + pOf st nm)))) hh) (ph_R h 4 (Int.toNat (pOf st nm))) 4 (st (Int.toNat (16 + pOf st nm)) + 1)) (XS_fr x1 fx)) (kk := fun rr h5 hq5 => ?_)
            obtain ⟨rfl, hF5, h55, ho5⟩ := hq5
            have tf5 : ph_T h5 (ph_R h 4 (Int.toNat (pOf st nm))) = 0 := by rw [hF5.T]; exact ft0
            exact B_X6_point_78 C (x2 := st (Int.toNat (16 + pOf st nm)) + 1) (e3 := by rw [hF5.I (by omega), sI_eq]) (hq := KQ_fw (XS_fr x1 fx) (WFl_fr x1 (fun c hc => by omega) hW.fl) wr1 k1 k2 (x1.cfr (fun c hc => by omega)) hF5 h55 ho5 (by unfold mPoint; rw [if_neg (by omega), if_neg (by omega), if_neg (by omega), if_neg (by omega)]; rfl))
          · exact B_X6_point_61 C (hq := by exact KQ_same hW (by unfold mPoint; rw [if_neg (by omega), if_neg (by omega), if_neg (by omega), if_pos (by have := hPp.2; omega)]))
      · refine B_X6_point_22 C (kt := fun c9 => absurd c9 (by decide)) (kf := fun c9 => ?_)
        exact B_X6_point_25 C (hq := by exact KQ_same hW (by unfold mPoint; rw [if_neg (by omega), if_pos (by omega)]))
    · omega
  · refine B_X6_point_0 C (hM := ct_idxN _ _ _ hW gnm hp) (kk := fun r1 h1 hq1 => ?_)
    obtain ⟨rfl, rfl⟩ := hq1
    refine B_X6_point_8 C (kt := fun c => absurd c (by decide)) (kf := fun c => ?_)
    exact B_X6_point_15 C (hq := KQ_same hW (by unfold mPoint; rw [if_pos (by omega)]))
theorem ct_X6_drop (G : Gx) (l : Launch) (h : PH) {st : ST} (hW : CW h st) {nm : Int} (gnm : pR nm) : CT_X6_drop G l [.inr 2, .inl nm] h (KQ (fun v st' => (v, st') = mDrop st nm) h) := by
  obtain ⟨fx, hR, hS, h2, hY⟩ := id hW
  have xt2 : ph_T h 2 = 6 := fx.1.1
  have x20 : ph_R h 2 0 = 3 := fx.1.2.1
  have x23 : ph_R h 2 3 = 104 := fx.1.2.2.2.2
  have w3 : WS h 3 := fx.2.2.1.1
  have t3 : ph_T h 3 = 5 := w3.1.1
  have t4 : ph_T h 4 = 10 := w3.1.2.1
  have t5 : ph_T h 5 = 11 := w3.1.2.2.1
  have t6 : ph_T h 6 = 3 := w3.1.2.2.2.1
  have t7 : ph_T h 7 = 8 := w3.1.2.2.2.2
  have l4 : ph_L h 4 = 8 := w3.2.1.1
  have l5 : ph_L h 5 = 4 := w3.2.1.2.1
  have l7 : ph_L h 7 = 168 := w3.2.1.2.2
  have r30 : ph_R h 3 0 = 4 := w3.2.2.1.1
  have r31 : ph_R h 3 1 = 5 := w3.2.2.1.2.1
  have r32 : ph_R h 3 2 = 6 := w3.2.2.1.2.2.1
  have r33 : ph_R h 3 3 = 7 := w3.2.2.1.2.2.2
  have t104 : ph_T h 104 = 2 := fx.2.2.2.1.1
  have f1 : ph_I h 3 4 = st 484 := hR.1
  have sr6 : SR h 6 st := hR.2.2.2.1
  have hmany := hS.2.2.1
  have hb := hS.2.1
  refine ct_intro rfl (Nat.le_of_ble_eq_true rfl) (fun X hX C => ?_)
  by_cases hp : 0 ≤ pOf st nm
  · have pb : 0 ≤ pOf st nm ∧ pOf st nm < st 484 := by have := pOf_b (st := st) nm hmany.1; omega
    obtain ⟨hfs, hfr, fb1, fb2⟩ := hW.flt pb
    have ft0 : ph_T h (ph_R h 4 (Int.toNat (pOf st nm))) = 0 := hfs.1.1
    obtain ⟨⟨fi2, fi3, fi4, fi5, fi6⟩, fpt⟩ := id hfr
    have hPp := hS.2.2.2.2 _ pb.1 pb.2
    have h2p := h2.1 _ pb.1 pb.2
    obtain ⟨pn, hpn⟩ := Int.eq_ofNat_of_zero_le hp
    obtain ⟨nn, hnn⟩ := Int.eq_ofNat_of_zero_le hmany.1
    have cp : CT_X5_indexOf G X.2.1 [.inr 3, .inl nm] h (pqI (pn : Int) h) := by rw [← hpn]; exact ct_idxP _ _ _ hW gnm hp
    refine B_X6_drop_0 C (hM := cp) (kk := fun r1 h1 hq1 => ?_)
    obtain ⟨rfl, rfl⟩ := hq1
    refine B_X6_drop_8 C (kt := fun c => ?_) (kf := fun c => by omega)
    refine B_X6_drop_15 C (r2 := 3) (hM := ct_X5_removeFlight _ _ _ w3 (p := pn) (n := nn) (by rw [f1, hnn]) (by omega) (by omega)) (kk := fun r1 h1 hq1 => ?_)
    obtain ⟨rfl, q1, q2, q3, q4, q5, q6, q7⟩ := hq1
    obtain ⟨k1, k2, kB, kC, kD⟩ := drop_ok (p := pOf st nm) hS h2 pb
    have eT : ∀ c, ph_T h1 c = ph_T h c := fun c => by unfold ph_T; rw [q2]
    have eL : ∀ c, ph_L h1 c = ph_L h c := fun c => by unfold ph_L; rw [q3]
    have ws1 : WS h1 3 := by
      obtain ⟨y1, y2, y3, y4, y5, y6⟩ := id w3
      unfold WS
      simp only [eT, eL, q4 3 _ (by decide), q4 (3 + 2) _ (by decide)]
      refine ⟨y1, y2, y3, fun i hi => ?_, fun i j hi hj e => ?_, y6⟩
      · obtain ⟨z1, j, hj, z2⟩ := y4 (sg pn nn i) (sg_b (by omega) (by omega) hi)
        have e1 : ph_R h1 (3 + 1) i = ph_R h (3 + 1) (sg pn nn i) := q5 i
        rw [e1]
        exact ⟨FS_congr eT eL (fun k => q4 _ k (by omega)) z1, j, hj, z2⟩
      · have e1 : ph_R h1 (3 + 1) i = ph_R h (3 + 1) (sg pn nn i) := q5 i
        have e2 : ph_R h1 (3 + 1) j = ph_R h (3 + 1) (sg pn nn j) := q5 j
        rw [e1, e2] at e
        exact sg_inj (by omega) (y5 _ _ (sg_b (by omega) (by omega) hi) (sg_b (by omega) (by omega) hj) e)
    have fx1 : XS h1 := by
      obtain ⟨⟨a1, a2, a3, a4, a5⟩, ⟨b1, b2, b3, b4, b5, b6⟩, ⟨c1, c2, c3⟩, ⟨e1, e2, e3, e4, e5, e6⟩, f6, f7⟩ := id fx
      unfold XS
      simp only [eT, eL, q4 2 _ (by decide), q4 36 _ (by decide), q4 104 _ (by decide), q4 105 _ (by decide)]
      exact ⟨⟨a1, a2, a3, a4, a5⟩, ⟨b1, b2, b3, b4, b5, b6⟩, ⟨ws1, WS_congr eT eL (fun e y1 y2 k => q4 e k (by omega)) c2, WS_congr eT eL (fun e y1 y2 k => q4 e k (by omega)) c3⟩, ⟨e1, e2, e3, e4, e5, e6⟩, f6, fun d hd => ⟨(f7 d hd).1, YS_congr eT eL (fun k => q4 _ k (by omega)) (f7 d hd).2⟩⟩
    have wr1 : WR h1 3 (drd st (pOf st nm)) := by
      refine ⟨by rw [q6, drd_n, hnn], fun p p0 p1 => ?_, fun d d0 d1 => MR_st kB d0 d1 (MR_congr (fun k => q7 _ k (by omega)) (hR.2.2.1 d d0 d1)), SR_st kD (SR_congr (fun k => q7 _ k (by omega)) hR.2.2.2.1), fun j j0 j1 => ?_⟩
      · rw [drd_n] at p1
        have sb : 0 ≤ shI (pOf st nm) p ∧ shI (pOf st nm) p < st 484 := by unfold shI; split <;> omega
        have er : ph_R h1 4 (Int.toNat p) = ph_R h 4 (Int.toNat (shI (pOf st nm) p)) := by
          rw [q5]
          congr 1
          unfold sg shI
          (repeat' split) <;> omega
        show FR h1 (ph_R h1 4 (Int.toNat p)) _ p
        rw [er]
        have fb := hW.flt sb
        exact (drd_sm hmany pb p p0 p1).fr (hS.2.2.2.2 _ sb.1 sb.2).2.2 (FR_congr (fun c c0 c1 k => q7 c k (by omega)) (hR.2.1 _ sb.1 sb.2))
      · rw [q7 _ _ (by omega), kC _ (by omega) (by omega)]
        exact hR.2.2.2.2 j j0 j1
    have xt1 : ph_T h1 2 = 6 := by rw [eT]; exact xt2
    have x231 : ph_R h1 2 3 = 104 := by rw [q4 2 _ (by decide)]; exact x23
    have t1041 : ph_T h1 104 = 2 := by rw [eT]; exact t104
    have fw1 : WFl h1 := fun d hd => by rw [q7 _ _ (by omega)]; exact hW.fl d hd
    have cf1 : CFr h h1 := ⟨q1, q2, q3, fun c k a b => q4 c k a, fun c a b k => q7 c k (by omega)⟩
    refine B_X6_drop_23 C (r2 := 104) (hM := ct_X2_forgetWays _ _ _ fx1) (kk := fun rr h5 hq5 => ?_)
    obtain ⟨rfl, hF5, h55, ho5⟩ := hq5
    have xt5 : ph_T h5 2 = 6 := by rw [hF5.T]; exact xt1
    have x205 : ph_R h5 2 0 = 3 := by rw [hF5.R, q4 2 _ (by decide)]; exact x20
    have t35 : ph_T h5 3 = 5 := by rw [hF5.T, eT]; exact t3
    exact B_X6_drop_30 C (r2 := 3) (x5 := st 484 - 1) (e6 := by rw [hF5.I (by omega), q6, hnn]) (hq := KQ_fw fx1 fw1 wr1 k1 k2 cf1 hF5 h55 ho5 (by unfold mDrop; rw [if_neg (by omega)]; rfl))
  · refine B_X6_drop_0 C (hM := ct_idxN _ _ _ hW gnm hp) (kk := fun r1 h1 hq1 => ?_)
    obtain ⟨rfl, rfl⟩ := hq1
    refine B_X6_drop_8 C (kt := fun c => absurd c (by decide)) (kf := fun c => ?_)
    exact B_X6_drop_13 C (hq := KQ_same hW (by unfold mDrop; rw [if_pos (by omega)]))
