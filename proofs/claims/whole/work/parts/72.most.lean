/-! mostSeen; a row forth; the parts of a pass -/
def InR (st : ST) (d r w hh : Int) : Prop := (loW st d r ≤ w ∧ w ≤ hiW st d r) ∧ 0 ≤ hh ∧ hh ≤ 6
def pqMs (h : PH) (st : ST) (d r : Int) (cc : Nat) (s : Int) : Option PV → PH → Prop := fun rr h' => h = h' ∧ ∃ v : Int, rr = some (.inl v) ∧ Msp (InR st d r) (cOf h 107 0) (cOf h cc s) v
def okC (x : Int) : Prop := -1000000 ≤ x ∧ x ≤ 1000000 ∧ (x < -500000 ∨ -1000 ≤ x)
theorem ct_X2_mostSeen (G : Gx) (l : Launch) (h : PH) {st : ST} {d p : Int} {mc fc ra sb : Nat} (hC : SC h st d p mc fc ra sb) {r s : Int} {cc : Nat} (r0 : 0 ≤ r ∧ r ≤ 80) (tcc : ph_T h cc = 8) (s0 : 0 ≤ s ∧ s ≤ 40000) (hL : s + hiW st d r * 7 + 6 < (ph_L h cc : Int)) (hv : ∀ w hh : Int, InR st d r w hh → okC (cOf h cc s w hh)) (hu : ∀ w hh : Int, InR st d r w hh → okC (cOf h 107 0 w hh)) : CT_X2_mostSeen G l [.inr 104, .inr cc, .inl s, .inl r] h (pqMs h st d r cc s) := by
  obtain ⟨⟨t104, t3, t6, t106, t107, tra, tsb, tmc⟩, ⟨l106, l107, lra, lsb⟩, ⟨r1040, r32, r1042, r1043, r1044, r1045, r1046, r1047⟩, hra, hfs, ⟨b1, b2, b3⟩, hFR, hMR, hSR, hS, h2, d0, p0⟩ := id hC
  obtain ⟨hs, hb, hmany, hD, hPp⟩ := id hS
  obtain ⟨g1, g2, g3, g4, g5⟩ := hD d d0.1 d0.2
  obtain ⟨g6, g7⟩ := hPp p p0.1 p0.2
  obtain ⟨⟨ft0, ft1, ft2⟩, ⟨fl1, fl2⟩, fr0, fr1⟩ := id hfs
  obtain ⟨⟨f2, f3, f4, f5, f6⟩, fpt⟩ := id hFR
  obtain ⟨m0, m1, m2, m3, m4⟩ := id hMR
  have gw : -st (Int.toNat (308 + d)) ≤ st (Int.toNat (296 + d)) ∧ st (Int.toNat (296 + d)) ≤ st (Int.toNat (308 + d)) := by have := g4; unfold zabs at this; split at this <;> omega
  refine ct_intro rfl (Nat.le_of_ble_eq_true rfl) (fun X hX C => ?_)
  have hlb := loW_b (hD d d0.1 d0.2) r0.1
  have lp : ∀ (m : Nat) (i most : Int), i + m = (hiW st d r + 1) * 7 → loW st d r * 7 ≤ i → okC most → (∀ w hh : Int, InR st d r w hh → w * 7 + hh < i → ¬ cOf h 107 0 w hh < -500000 → cOf h cc s w hh ≤ most) → (most = -1000000 ∨ ∃ w hh : Int, InR st d r w hh ∧ ¬ cOf h 107 0 w hh < -500000 ∧ cOf h cc s w hh = most) → PW G X 7 (pw_E G X (pqMs h st d r cc s) 0 0) 0 0 26 [some (.inr 104), some (.inr cc), some (.inl s), some (.inl r), some (.inl most), some (.inl ((hiW st d r + 1) * 7)), some (.inl i)] [] h := by
    intro m
    induction m with
    | zero =>
      intro i most hi hl ok h1 h2
      obtain ⟨ok1, ok2, ok3⟩ := ok
      refine B_X2_mostSeen_26 C (kt := fun c => ?_) (kf := fun c => by omega)
      refine B_X2_mostSeen_65 C (hM := ct_X2_isDead _ _ _ (by unfold pR; omega)) (kk := fun rr h' hq => ?_)
      have fin : ∀ v : Int, (v = if most < -500000 then 0 else (most + 1024 - 1) / 1024) → Msp (InR st d r) (cOf h 107 0) (cOf h cc s) v := fun v hv => ⟨most, hv, fun w hh a b => h1 w hh a (by unfold InR at a; omega) b, h2, ok1⟩
      obtain ⟨rfl, ⟨rfl, c2⟩ | ⟨rfl, c2⟩⟩ := hq
      · refine B_X2_mostSeen_70 C (kt := fun c => absurd c (by decide)) (kf := fun c => ?_)
        refine B_X2_mostSeen_73 C (kk := ?_)
        exact B_X2_mostSeen_89 C (hq := ⟨rfl, 0, rfl, fin 0 (by rw [if_pos c2])⟩)
      · refine B_X2_mostSeen_70 C (kt := fun c => ?_) (kf := fun c => absurd rfl c)
        refine B_X2_mostSeen_77 C (kk := ?_)
        exact B_X2_mostSeen_89 C (hq := ⟨rfl, _, rfl, fin _ (by rw [if_neg c2])⟩)
    | succ m ih =>
      intro i most hi hl ok h1 h2
      obtain ⟨ok1, ok2, ok3⟩ := ok
      have hin : InR st d r (i / 7) (i % 7) := by unfold InR; omega
      have ei : i / 7 * 7 + i % 7 = i := by omega
      have ef : cOf h 107 0 (i / 7) (i % 7) = ph_I h 107 (Int.toNat i) := by
        unfold cOf
        have : 0 + i / 7 * 7 + i % 7 = i := by omega
        rw [this]
      have ec : cOf h cc s (i / 7) (i % 7) = ph_I h cc (Int.toNat (s + i)) := by
        unfold cOf
        have : s + i / 7 * 7 + i % 7 = s + i := by omega
        rw [this]
      have u1 := hu _ _ hin
      have v1 := hv _ _ hin
      rw [ef] at u1
      rw [ec] at v1
      obtain ⟨u1, u2, u3⟩ := u1
      obtain ⟨v1, v2, v3⟩ := v1
      have nx : ∀ most' : Int, okC most' → most ≤ most' → (¬ ph_I h 107 (Int.toNat i) < -500000 → ph_I h cc (Int.toNat (s + i)) ≤ most') → (most' = most ∨ (¬ ph_I h 107 (Int.toNat i) < -500000 ∧ ph_I h cc (Int.toNat (s + i)) = most')) → PW G X 7 (pw_E G X (pqMs h st d r cc s) 0 0) 0 0 59 [some (.inr 104), some (.inr cc), some (.inl s), some (.inl r), some (.inl most'), some (.inl ((hiW st d r + 1) * 7)), some (.inl i)] [] h := by
        intro most' k1 k2 k3 k4
        refine B_X2_mostSeen_59 C (kk := ?_)
        refine ih (i + 1) most' (by omega) (by omega) k1 (fun w hh a b c => ?_) ?_
        · by_cases q : w * 7 + hh < i
          · have := h1 w hh a q c; omega
          · have a' := a
            unfold InR at a'
            have e1 : i / 7 = w := by omega
            have e2 : i % 7 = hh := by omega
            rw [← e1, ← e2] at c ⊢
            rw [ef] at c
            rw [ec]
            exact k3 c
        · rcases k4 with k4 | ⟨k4, k5⟩
          · rw [k4]; exact h2
          · right
            exact ⟨i / 7, i % 7, hin, by rw [ef]; exact k4, by rw [ec]; exact k5⟩
      refine B_X2_mostSeen_26 C (kt := fun c => by omega) (kf := fun c => ?_)
      refine B_X2_mostSeen_33 C (r2 := 107) (x8 := ph_I h 107 (Int.toNat i)) (e9 := rfl) (hM := ct_X2_isDead _ _ _ (by unfold pR; omega)) (kk := fun rr h' hq => ?_)
      obtain ⟨rfl, ⟨rfl, c2⟩ | ⟨rfl, c2⟩⟩ := hq
      · refine B_X2_mostSeen_43 C (kt := fun c => ?_) (kf := fun c => absurd c (by decide))
        exact nx most ⟨ok1, ok2, ok3⟩ (Int.le_refl _) (fun z => absurd c2 z) (Or.inl rfl)
      · refine B_X2_mostSeen_43 C (kt := fun c => absurd rfl c) (kf := fun c => ?_)
        refine B_X2_mostSeen_46 C (x5 := ph_I h cc (Int.toNat (s + i))) (e6 := rfl) (x9 := if most < ph_I h cc (Int.toNat (s + i)) then ph_I h cc (Int.toNat (s + i)) else most) (e10 := rfl) (kk := ?_)
        by_cases z : most < ph_I h cc (Int.toNat (s + i))
        · rw [if_pos z]
          exact nx _ ⟨v1, v2, v3⟩ (by omega) (fun _ => Int.le_refl _) (Or.inr ⟨c2, rfl⟩)
        · rw [if_neg z]
          exact nx most ⟨ok1, ok2, ok3⟩ (Int.le_refl _) (fun _ => by omega) (Or.inl rfl)
  refine B_X2_mostSeen_0 C (hM := ct_X2_highWind _ _ _ hC r0) (kk := fun rr h' hq => ?_)
  obtain ⟨rfl, rfl⟩ := hq
  refine B_X2_mostSeen_9 C (hM := ct_X2_lowWind _ _ _ hC r0) (kk := fun rr h' hq => ?_)
  obtain ⟨rfl, rfl⟩ := hq
  refine B_X2_mostSeen_21 C (kk := ?_)
  exact lp (Int.toNat ((hiW st d r + 1) * 7 - loW st d r * 7)) _ _ (by omega) (Int.le_refl _) ⟨by omega, by omega, by omega⟩ (fun w hh a b => by unfold InR at a; omega) (Or.inl rfl)
theorem zabs_sy (a b : Int) : zabs (a - b) = zabs (b - a) := by unfold zabs; split <;> split <;> omega
theorem VV.ok {M Q x : Int} {Pp : Int → Prop} (h : VV 1024 M Q x Pp) (hM : M ≤ 81) (hQ : Q ≤ 400) : okC x := by
  unfold okC
  rcases h with ⟨h1, -⟩ | ⟨s, q, a, b, c, -, -⟩
  · omega
  · omega
theorem VV.al {M Q x s : Int} {Pp : Int → Prop} (h : VV 1024 M Q x Pp) (hQ : Q ≤ 400) (hp : Pp s) : ¬ x < -500000 := by
  rcases h with ⟨-, h2⟩ | ⟨s, q, a, b, c, -, -⟩
  · exact absurd hp (h2 s)
  · omega
theorem VV.ex {M Q x : Int} {Pp : Int → Prop} (h : VV 1024 M Q x Pp) (hp : ¬ x < -500000) : ∃ s, Pp s := by
  rcases h with ⟨h1, h2⟩ | ⟨s, q, a, b, c, e, -⟩
  · omega
  · exact ⟨s, e⟩
/-- what is reached from a row -/
theorem Rch_VV {c u : Int → Int → Int} {lo hi lim n M Q w hh : Int} {Pp : Int → Int → Int → Prop} (hR : Rch c lo hi lim n u) (n0 : 0 ≤ n ∧ n ≤ 3) (hM : M ≤ 80) (hQ : 0 ≤ Q ∧ Q ≤ 390) (w0 : 0 ≤ w ∧ w ≤ 2 * lim) (h0 : 0 ≤ hh ∧ hh ≤ 6) (hc : ∀ w' h' : Int, lo ≤ w' → w' ≤ hi → 0 ≤ h' → h' ≤ 6 → VV 1024 M Q (c w' h') (Pp w' h')) : VV 1024 M (Q + 4) (u w hh) (fun s => ∃ w' h' : Int, (lo ≤ w' ∧ w' ≤ hi ∧ 0 ≤ h' ∧ h' ≤ 6) ∧ zabs (w' - w) ≤ n ∧ zabs (h' - hh) ≤ 1 ∧ Pp w' h' s) := by
  obtain ⟨r1, r2, r3⟩ := hR w hh w0.1 w0.2 h0.1 h0.2
  by_cases ex : u w hh = -1000000
  · left
    refine ⟨ex, fun s z => ?_⟩
    obtain ⟨w', h', ⟨a1, a2, a3, a4⟩, z1, z2, hp⟩ := z
    have := r2 w' h' a1 a2 a3 a4 z1 z2
    rcases hc w' h' a1 a2 a3 a4 with ⟨-, y⟩ | ⟨s0, q0, y1, y2, y3, y4, y5⟩
    · exact y s hp
    · omega
  · right
    rcases r3 with r3 | ⟨w', h', a1, a2, a3, a4, z1, z2, e⟩
    · exact absurd r3 ex
    · have n1 := zabs_nn (w' - w)
      have n2 := zabs_nn (h' - hh)
      rcases hc w' h' a1 a2 a3 a4 with ⟨y, -⟩ | ⟨s0, q0, y1, y2, y3, y4, y5⟩
      · omega
      · refine ⟨s0, q0 + zabs (w' - w) + zabs (h' - hh), by omega, y2, by omega, ⟨w', h', ⟨a1, a2, a3, a4⟩, z1, z2, y4⟩, fun s' z => ?_⟩
        obtain ⟨w3, h3, ⟨b1, b2, b3, b4⟩, t1, t2, hp⟩ := z
        have := r2 w3 h3 b1 b2 b3 b4 t1 t2
        rcases hc w3 h3 b1 b2 b3 b4 with ⟨-, x⟩ | ⟨s3, q3, x1, x2, x3, x4, x5⟩
        · exact absurd hp (x s')
        · have := x5 s' hp
          omega
theorem bit_01 (st : ST) (p f n t w hh : Int) : bitS st p f n t w hh = 0 ∨ bitS st p f n t w hh = 1 := by unfold bitS; split <;> omega
theorem goal_bit {st : ST} {p t gs gh w hh : Int} (hG : Goal st p t gs gh) (h0 : 0 ≤ hh) : (if hh = gh ∧ (w + 48) % 24 = gs then (1024 : Int) else 0) = 1024 * bitS st p 0 (st (Int.toNat (16 + p))) t w hh := by
  have := hG.2 w hh h0
  unfold bitS
  by_cases z : hh = gh ∧ (w + 48) % 24 = gs
  · rw [if_pos z, if_pos (this.mp z)]; omega
  · rw [if_neg z, if_neg (fun q => z (this.mpr q))]; omega
/-- a row forth is made -/
theorem Fw_row {h : PH} {st : ST} {d p e g u gs gh w hh : Int} {ra : Nat} (r : Nat) (hD : OkD st d) (r0 : r ≤ 78) (hG : Goal st p (st (Int.toNat (304 + d)) + r) gs gh) (w0 : loW st d r ≤ w ∧ w ≤ hiW st d r) (h0 : 0 ≤ hh ∧ hh ≤ 6) (hu : u = ph_I h ra (Int.toNat ((w + 1) * 7 + hh))) (hE : eVP h st d r ra w hh e)
    (hgn : g = if e < -500000 then e else e + (if hh = gh ∧ (w - st (Int.toNat (308 + d)) + 48) % 24 = gs then 1024 else 0))
    (hz : r = 0 → u = 0)
    (hp : ∀ q : Nat, r = q + 1 → VV 1024 ((q : Int) + 1) (4 * (q : Int) + 4) u (fun s => ∃ w' h' : Int, (loW st d q ≤ w' ∧ w' ≤ hiW st d q ∧ 0 ≤ h' ∧ h' ≤ 6) ∧ zabs (w' - w) ≤ st (Int.toNat (312 + d)) ∧ zabs (h' - hh) ≤ 1 ∧ Fw st d (bitS st p 0 (st (Int.toNat (16 + p)))) q (w' - st (Int.toNat (308 + d))) h' s)) :
    VV 1024 ((r : Int) + 1) (4 * (r : Int)) g (Fw st d (bitS st p 0 (st (Int.toNat (16 + p)))) r (w - st (Int.toNat (308 + d))) hh) := by
  have hlb := loW_b hD (r := (r : Int)) (by omega)
  have gb := goal_bit (w := w - st (Int.toNat (308 + d))) hG h0.1
  rw [gb] at hgn
  have b01 := bit_01 st p 0 (st (Int.toNat (16 + p))) (st (Int.toNat (304 + d)) + r) (w - st (Int.toNat (308 + d))) hh
  cases r with
  | zero =>
    have hw0 := loW_0 hD
    have ew : w - st (Int.toNat (308 + d)) = st (Int.toNat (296 + d)) := by
      have a : loW st d 0 ≤ w ∧ w ≤ hiW st d 0 := w0
      omega
    have e1 : st (Int.toNat (304 + d)) + ((0 : Nat) : Int) = st (Int.toNat (304 + d)) := by omega
    have hu0 := hz rfl
    rw [e1] at hgn b01
    by_cases q : hh = st (Int.toNat (300 + d))
    · have ns : ¬ shutP st d ((0 : Nat) : Int) w hh := fun z => by
        unfold shutP at z
        omega
      have ee := hE.2 ns
      rw [← hu, hu0] at ee
      rw [ee, if_neg (by omega)] at hgn
      right
      refine ⟨bitS st p 0 (st (Int.toNat (16 + p))) (st (Int.toNat (304 + d))) (w - st (Int.toNat (308 + d))) hh, 0, by omega, by omega, by omega, ⟨ew, q, rfl⟩, fun s' z => ?_⟩
      have := z.2.2
      omega
    · have ns : shutP st d ((0 : Nat) : Int) w hh := Or.inl ⟨by omega, q⟩
      have ee := hE.1 ns
      rw [ee, if_pos (by omega)] at hgn
      exact Or.inl ⟨hgn, fun s z => q z.2.1⟩
  | succ q =>
    have hv := hp q rfl
    have e4 : ((q + 1 : Nat) : Int) = (q : Int) + 1 := by omega
    rw [e4] at hgn b01 hE hlb w0 ⊢
    have hlq := loW_b hD (r := (q : Int)) (by omega)
    have hwb : zabs (w - st (Int.toNat (308 + d))) ≤ st (Int.toNat (308 + d)) := zabs_i (by omega)
    by_cases ns : shutP st d ((q : Int) + 1) w hh
    · have ee := hE.1 ns
      rw [ee, if_pos (by omega)] at hgn
      refine Or.inl ⟨hgn, fun s z => ?_⟩
      rcases ns with ⟨y, -⟩ | ⟨-, y⟩
      · omega
      · exact y z.2.1
    · have ee := hE.2 ns
      rw [← hu] at ee
      rw [ee] at hgn
      have hm : sM st (st (Int.toNat (304 + d)) + ((q : Int) + 1)) (w - st (Int.toNat (308 + d))) hh = true := by
        apply Classical.byContradiction
        intro z
        exact ns (Or.inr ⟨by omega, z⟩)
      have hgn2 : g = if u = -1000000 then -1000000 else u + 1024 * bitS st p 0 (st (Int.toNat (16 + p))) (st (Int.toNat (304 + d)) + ((q : Int) + 1)) (w - st (Int.toNat (308 + d))) hh := by
        rw [hgn]
        rcases hv with ⟨y, -⟩ | ⟨s0, q0, y1, y2, y3, y4, y5⟩
        · rw [if_pos (by omega), if_pos y, y]
        · rw [if_neg (by omega), if_neg (by omega)]
      refine (hv.add (Or.inr rfl) (by omega) (by omega) b01 hgn2 (fun s => ⟨fun z => ?_, fun z => ?_⟩)).mono (by omega) (by omega)
      · obtain ⟨-, -, w1, h1, s1, hf, z1, z2, z3⟩ := z
        have hi := Fw_in hD q hf
        have ex : w1 + st (Int.toNat (308 + d)) - w = w1 - (w - st (Int.toNat (308 + d))) := by omega
        have ey : w1 + st (Int.toNat (308 + d)) - st (Int.toNat (308 + d)) = w1 := by omega
        exact ⟨s1, ⟨w1 + st (Int.toNat (308 + d)), h1, ⟨hi.1.1, hi.1.2, hi.2.2⟩, by rw [ex, zabs_sy]; exact z1, by rw [zabs_sy]; exact z2, by rw [ey]; exact hf⟩, z3⟩
      · obtain ⟨s1, ⟨w', h', ⟨a1, a2, a3, a4⟩, z1, z2, hf⟩, z3⟩ := z
        have ex : w - st (Int.toNat (308 + d)) - (w' - st (Int.toNat (308 + d))) = w - w' := by omega
        exact ⟨⟨hwb, h0⟩, hm, w' - st (Int.toNat (308 + d)), h', s1, hf, by rw [ex, zabs_sy]; exact z1, by rw [zabs_sy]; exact z2, z3⟩
theorem bit_from {st : ST} {p f n t w hh : Int} (h : st (Int.toNat (8 + p)) + f ≤ t) (f0 : 0 ≤ f) : bitS st p f n t w hh = bitS st p 0 n t w hh := by
  have e : sS st p f n t w hh = true ↔ sS st p 0 n t w hh = true := by
    rw [sS_iff, sS_iff]
    exact ⟨fun z => ⟨by omega, z.2⟩, fun z => ⟨by omega, z.2⟩⟩
  unfold bitS
  by_cases z : sS st p f n t w hh = true
  · rw [if_pos z, if_pos (e.mp z)]
  · rw [if_neg z, if_neg (fun q => z (e.mpr q))]
theorem bit_many {st : ST} {p m n t w hh : Int} (h : t ≤ st (Int.toNat (8 + p)) + m - 1) (hm : m ≤ n) : bitS st p 0 m t w hh = bitS st p 0 n t w hh := by
  have e : sS st p 0 m t w hh = true ↔ sS st p 0 n t w hh = true := by
    rw [sS_iff, sS_iff]
    exact ⟨fun z => ⟨z.1, by omega, z.2.2⟩, fun z => ⟨z.1, by omega, z.2.2⟩⟩
  unfold bitS
  by_cases z : sS st p 0 m t w hh = true
  · rw [if_pos z, if_pos (e.mp z)]
  · rw [if_neg z, if_neg (fun q => z (e.mpr q))]
theorem bit_zero {st : ST} {p f n t w hh : Int} (h : t < st (Int.toNat (8 + p)) + f) : bitS st p f n t w hh = 0 := by
  unfold bitS
  rw [if_neg]
  rw [sS_iff]
  intro z
  have := z.1
  omega
theorem eqmax {A B : Int → Prop} {x y : Int} (h : ∀ s, A s ↔ B s) (ha : (x = 0 ∧ ∀ s, ¬ A s) ∨ (A x ∧ ∀ s, A s → s ≤ x)) (hb : (y = 0 ∧ ∀ s, ¬ B s) ∨ (B y ∧ ∀ s, B s → s ≤ y)) : x = y := by
  rcases ha with ⟨a1, a2⟩ | ⟨a1, a2⟩
  · rcases hb with ⟨b1, b2⟩ | ⟨b1, b2⟩
    · omega
    · exact absurd ((h y).mpr b1) (a2 y)
  · rcases hb with ⟨b1, b2⟩ | ⟨b1, b2⟩
    · exact absurd ((h x).mp a1) (b2 x)
    · have := a2 y ((h y).mpr b1)
      have := b2 x ((h x).mp a1)
      omega
theorem sBy_late {st : ST} {d p f n : Int} (hB : st (Int.toNat (8 + p)) + n - 1 < st (Int.toNat (304 + d))) : sBy st d p f n = 0 := by
  unfold sBy sLay
  rw [if_pos (show n = 0 ∨ _ from Or.inr hB), if_pos rfl]
  split <;> rfl
/-- a whole pass from a point on, where the points before it can't be seen anyway -/
theorem sBy_from {st : ST} {d p k n : Int} (hD : OkD st d) (k0 : 0 ≤ k ∧ k < n) (hB : st (Int.toNat (8 + p)) + k ≤ st (Int.toNat (304 + d))) (h79 : st (Int.toNat (8 + p)) + n - 1 ≤ 79) : sBy st d p k n = sBy st d p 0 n := by
  by_cases z : st (Int.toNat (304 + d)) ≤ st (Int.toNat (8 + p)) + n - 1
  · refine eqmax (fun s => ?_) (sBy_v hD (by omega) (by omega) z h79) (sBy_v hD (by omega) (by omega) z h79)
    have hc : ∀ t w hh : Int, st (Int.toNat (8 + p)) + n - 1 - ((Int.toNat (st (Int.toNat (8 + p)) + n - 1 - st (Int.toNat (304 + d))) : Nat) : Int) ≤ t → t ≤ st (Int.toNat (8 + p)) + n - 1 → bitS st p k n t w hh = bitS st p 0 n t w hh := fun t w hh a b => bit_from (by omega) k0.1
    exact ⟨fun q => Bk_congr _ hc q, fun q => Bk_congr _ (fun t w hh a b => (hc t w hh a b).symm) q⟩
  · rw [sBy_late (by omega), sBy_late (by omega)]
theorem sBy_none {st : ST} {d p f n : Int} (hB : n ≤ f) : sBy st d p f n = 0 := by
  unfold sBy
  rw [if_pos hB]
/-- the first points alone -/
theorem bef_v {st : ST} {d p k v : Int} {fv : Int → Int → Int} (r : Nat) (hD : OkD st d) (k0 : 0 ≤ k ∧ k < st (Int.toNat (16 + p))) (hk : st (Int.toNat (304 + d)) + r = st (Int.toNat (8 + p)) + k) (h79 : st (Int.toNat (8 + p)) + k ≤ 79) (hV : ∀ w hh : Int, InR st d r w hh → VV 1024 81 400 (fv w hh) (Fw st d (bitS st p 0 (st (Int.toNat (16 + p)))) r (w - st (Int.toNat (308 + d))) hh)) (hm : Msp (InR st d r) fv fv v) : v = sBy st d p 0 (k + 1) := by
  have fr := hD.2.2.1
  have e1 : st (Int.toNat (8 + p)) + (k + 1) - 1 = st (Int.toNat (304 + d)) + r := by omega
  have e2 : Int.toNat (st (Int.toNat (304 + d)) + (r : Int) - st (Int.toNat (304 + d))) = r := by omega
  have hs := sBy_v (p := p) (f := 0) (n := k + 1) hD (by omega) (by omega) (by omega) (by omega)
  rw [e1, e2] at hs
  have hc : ∀ t w hh : Int, st (Int.toNat (304 + d)) ≤ t → t ≤ st (Int.toNat (304 + d)) + r → bitS st p 0 (k + 1) t w hh = bitS st p 0 (st (Int.toNat (16 + p))) t w hh := fun t w hh a b => bit_many (by omega) (by omega)
  refine eqmax (A := fun s => ∃ w hh : Int, InR st d r w hh ∧ ¬ fv w hh < -500000 ∧ Fw st d (bitS st p 0 (st (Int.toNat (16 + p)))) r (w - st (Int.toNat (308 + d))) hh s) (fun s => ⟨fun q => ?_, fun q => ?_⟩) ?_ hs
  · obtain ⟨w, hh, a, b, c⟩ := q
    have c' := Fw_congr r (fun t w hh a b => (hc t w hh a b).symm) c
    have := Fw_Bk (last := st (Int.toNat (304 + d)) + r) r 0 (by omega) c' rfl
    have e3 : s + bitS st p 0 (k + 1) (st (Int.toNat (304 + d)) + r) (w - st (Int.toNat (308 + d))) hh - bitS st p 0 (k + 1) (st (Int.toNat (304 + d)) + r) (w - st (Int.toNat (308 + d))) hh = s := by omega
    rw [e3] at this
    exact this
  · obtain ⟨w, hh, s1, s2, c, b, e⟩ := Bk_Fw r 0 (by omega) q
    have b' : s2 = bitS st p 0 (k + 1) (st (Int.toNat (304 + d)) + r) w hh := b
    have es : s = s1 := by omega
    have c' := Fw_congr r hc c
    have hi := Fw_in hD r c'
    have ew : w + st (Int.toNat (308 + d)) - st (Int.toNat (308 + d)) = w := by omega
    have hin : InR st d r (w + st (Int.toNat (308 + d))) hh := ⟨hi.1, hi.2.2⟩
    have c2 : Fw st d (bitS st p 0 (st (Int.toNat (16 + p)))) r (w + st (Int.toNat (308 + d)) - st (Int.toNat (308 + d))) hh s := by rw [ew, es]; exact c'
    exact ⟨w + st (Int.toNat (308 + d)), hh, hin, (hV _ _ hin).al (by omega) c2, c2⟩
  · rcases Msp_v hm (fun w hh a b => hV w hh a) with ⟨y1, y2⟩ | ⟨y1, y2⟩
    · exact Or.inl ⟨y1, fun s z => by obtain ⟨w, hh, a, b, c⟩ := z; exact y2 w hh s a b c⟩
    · exact Or.inr ⟨y1, fun s z => by obtain ⟨w, hh, a, b, c⟩ := z; exact y2 w hh s a b c⟩
/-- the points from one on -/
theorem aft_v {st : ST} {d p k v : Int} {fv cv : Int → Int → Int} (r : Nat) (hD : OkD st d) (k0 : 0 ≤ k ∧ k < st (Int.toNat (16 + p))) (hk : st (Int.toNat (304 + d)) + r = st (Int.toNat (8 + p)) + k) (h79 : st (Int.toNat (8 + p)) + st (Int.toNat (16 + p)) - 1 ≤ 79) (hV : ∀ w hh : Int, InR st d r w hh → VV 1024 81 400 (fv w hh) (Fw st d (bitS st p 0 (st (Int.toNat (16 + p)))) r (w - st (Int.toNat (308 + d))) hh)) (hT : ∀ w hh : Int, InR st d r w hh → RlG 80 320 (vb st d p r (w - st (Int.toNat (308 + d))) hh) (cv w hh)) (hm : Msp (InR st d r) fv cv v) : v = sBy st d p k (st (Int.toNat (16 + p))) := by
  have fr := hD.2.2.1
  have hs := sBy_v (p := p) (f := k) (n := st (Int.toNat (16 + p))) hD (by omega) (by omega) (by omega) (by omega)
  obtain ⟨m, hm1⟩ : ∃ m : Nat, st (Int.toNat (8 + p)) + st (Int.toNat (16 + p)) - 1 = st (Int.toNat (304 + d)) + r + m := ⟨Int.toNat (st (Int.toNat (8 + p)) + st (Int.toNat (16 + p)) - 1 - (st (Int.toNat (304 + d)) + r)), by omega⟩
  have e2 : Int.toNat (st (Int.toNat (8 + p)) + st (Int.toNat (16 + p)) - 1 - st (Int.toNat (304 + d))) = r + m := by omega
  rw [e2] at hs
  have hb : ∀ t w hh : Int, st (Int.toNat (8 + p)) + st (Int.toNat (16 + p)) - 1 - (m : Int) ≤ t → t ≤ st (Int.toNat (8 + p)) + st (Int.toNat (16 + p)) - 1 → bitS st p k (st (Int.toNat (16 + p))) t w hh = bitS st p 0 (st (Int.toNat (16 + p))) t w hh := fun t w hh a b => bit_from (by omega) k0.1
  have hz : ∀ t w hh : Int, st (Int.toNat (304 + d)) ≤ t → t < st (Int.toNat (304 + d)) + r → bitS st p k (st (Int.toNat (16 + p))) t w hh = 0 := fun t w hh a b => bit_zero (by omega)
  have hVc : ∀ w hh : Int, InR st d r w hh → ¬ fv w hh < -500000 → VV 1024 81 400 (cv w hh) (Bk st d (bitS st p 0 (st (Int.toNat (16 + p)))) (st (Int.toNat (8 + p)) + st (Int.toNat (16 + p)) - 1) m (w - st (Int.toNat (308 + d))) hh) := by
    intro w hh a b
    obtain ⟨s1, hf⟩ := (hV w hh a).ex b
    refine VV.rl ?_ (hT w hh a) (by omega) (by omega) (by omega)
    cases r with
    | zero =>
      obtain ⟨f1, f2, -⟩ := hf
      unfold vb
      rw [if_pos (by omega), if_pos f2, f1, f2]
      have := sLay_VV (p := p) (f := 0) (n := st (Int.toNat (16 + p))) hD (by omega) (by omega) h79
      have e3 : Int.toNat (st (Int.toNat (8 + p)) + st (Int.toNat (16 + p)) - 1 - st (Int.toNat (304 + d))) = m := by omega
      rw [e3] at this
      exact this
    | succ q =>
      have hi := Fw_in hD (q + 1) hf
      obtain ⟨-, f2, -⟩ := hf
      rw [vb_pos (by omega)]
      have e3 : Int.toNat (st (Int.toNat (8 + p)) + st (Int.toNat (16 + p)) - 1 - (st (Int.toNat (304 + d)) + ((q + 1 : Nat) : Int))) = m := by omega
      have e4 : st (Int.toNat (8 + p)) + st (Int.toNat (16 + p)) - 1 - (m : Int) = st (Int.toNat (304 + d)) + ((q : Int) + 1) := by omega
      rw [e3]
      exact ((bt_VV (p := p) (f := 0) (n := st (Int.toNat (16 + p))) (last := st (Int.toNat (8 + p)) + st (Int.toNat (16 + p)) - 1) hD m (by omega) (w - st (Int.toNat (308 + d))) hh hi.2.1 hi.2.2.1 hi.2.2.2).1 (by rw [e4]; exact f2)).mono (by omega) (by omega)
  refine eqmax (A := fun s => ∃ w hh : Int, InR st d r w hh ∧ ¬ fv w hh < -500000 ∧ Bk st d (bitS st p 0 (st (Int.toNat (16 + p)))) (st (Int.toNat (8 + p)) + st (Int.toNat (16 + p)) - 1) m (w - st (Int.toNat (308 + d))) hh s) (fun s => ⟨fun q => ?_, fun q => ?_⟩) ?_ hs
  · obtain ⟨w, hh, a, b, c⟩ := q
    obtain ⟨s0, hf⟩ := (hV w hh a).ex b
    obtain ⟨s1, hf1⟩ := Fw_alive (bitS st p k (st (Int.toNat (16 + p)))) r hf
    have z1 := Fw_zero r hz hf1
    have c' := Bk_congr m (fun t w hh a b => (hb t w hh a b).symm) c
    have := Fw_Bk r m hm1 hf1 c'
    have e3 : s1 + s - bitS st p k (st (Int.toNat (16 + p))) (st (Int.toNat (304 + d)) + r) (w - st (Int.toNat (308 + d))) hh = s := by omega
    rw [e3] at this
    exact this
  · obtain ⟨w, hh, s1, s2, c, b, e⟩ := Bk_Fw r m hm1 q
    have z1 := Fw_zero r hz c
    have es : s = s2 := by omega
    obtain ⟨s0, c'⟩ := Fw_alive (bitS st p 0 (st (Int.toNat (16 + p)))) r c
    have hi := Fw_in hD r c'
    have ew : w + st (Int.toNat (308 + d)) - st (Int.toNat (308 + d)) = w := by omega
    have hin : InR st d r (w + st (Int.toNat (308 + d))) hh := ⟨hi.1, hi.2.2⟩
    have c2 : Fw st d (bitS st p 0 (st (Int.toNat (16 + p)))) r (w + st (Int.toNat (308 + d)) - st (Int.toNat (308 + d))) hh s0 := by rw [ew]; exact c'
    exact ⟨w + st (Int.toNat (308 + d)), hh, hin, (hV _ _ hin).al (by omega) c2, by rw [ew, es]; exact Bk_congr m hb b⟩
  · rcases Msp_v hm hVc with ⟨y1, y2⟩ | ⟨y1, y2⟩
    · exact Or.inl ⟨y1, fun s z => by obtain ⟨w, hh, a, b, c⟩ := z; exact y2 w hh s a b c⟩
    · exact Or.inr ⟨y1, fun s z => by obtain ⟨w, hh, a, b, c⟩ := z; exact y2 w hh s a b c⟩
