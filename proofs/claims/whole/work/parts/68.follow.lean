/-! the search: a way is followed -/
/-- the way so far: rows 0 to q -/
def Pth (h : PH) (y : Nat) (st : ST) (d p : Int) (q : Nat) : Prop := ph_I h (y + 1) (Int.toNat (st (Int.toNat (304 + d)))) = st (Int.toNat (296 + d)) ∧ ph_I h (y + 2) (Int.toNat (st (Int.toNat (304 + d)))) = st (Int.toNat (300 + d)) ∧ (∀ t : Int, st (Int.toNat (304 + d)) ≤ t → t < st (Int.toNat (304 + d)) + q → StpW st d p 0 (st (Int.toNat (16 + p))) t (ph_I h (y + 1) (Int.toNat t)) (ph_I h (y + 2) (Int.toNat t)) (ph_I h (y + 1) (Int.toNat (t + 1))) (ph_I h (y + 2) (Int.toNat (t + 1)))) ∧ ∀ t : Int, st (Int.toNat (304 + d)) ≤ t → t ≤ st (Int.toNat (304 + d)) + q → zabs (ph_I h (y + 1) (Int.toNat t)) ≤ st (Int.toNat (308 + d)) ∧ 0 ≤ ph_I h (y + 2) (Int.toNat t) ∧ ph_I h (y + 2) (Int.toNat t) ≤ 6
/-- what is seen so far: rows before q -/
def Sgh (h : PH) (y : Nat) (st : ST) (d p : Int) (q : Nat) : Prop := (∀ j : Nat, j < 76 → ph_I h (y + 3) j = if st (Int.toNat (304 + d)) ≤ (j : Int) ∧ (j : Int) < st (Int.toNat (304 + d)) + q then bitsW st p (ph_I h (y + 1)) (ph_I h (y + 2)) j else 0) ∧ ph_I h y 12 = sT (bitsW st p (ph_I h (y + 1)) (ph_I h (y + 2))) 0 (st (Int.toNat (304 + d))) q ∧ ph_I h y 13 = sT (bitsW st p (ph_I h (y + 1)) (ph_I h (y + 2))) 1 (st (Int.toNat (304 + d))) q
theorem Pth.fr {h h' : PH} {y : Nat} {st : ST} {d p : Int} {q : Nat} (x : Pth h y st d p q) (e1 : ∀ j, ph_I h' (y + 1) j = ph_I h (y + 1) j) (e2 : ∀ j, ph_I h' (y + 2) j = ph_I h (y + 2) j) : Pth h' y st d p q := by
  unfold Pth at *
  simp only [e1, e2]
  exact x
theorem Sgh.fr {h h' : PH} {y : Nat} {st : ST} {d p : Int} {q : Nat} (x : Sgh h y st d p q) (e1 : ∀ j, ph_I h' (y + 1) j = ph_I h (y + 1) j) (e2 : ∀ j, ph_I h' (y + 2) j = ph_I h (y + 2) j) (e3 : ∀ j, ph_I h' (y + 3) j = ph_I h (y + 3) j) (e4 : ph_I h' y 12 = ph_I h y 12) (e5 : ph_I h' y 13 = ph_I h y 13) : Sgh h' y st d p q := by
  have f1 : ph_I h' (y + 1) = ph_I h (y + 1) := funext e1
  have f2 : ph_I h' (y + 2) = ph_I h (y + 2) := funext e2
  unfold Sgh at *
  rw [f1, f2, e4, e5]
  simp only [e3]
  exact x
theorem Pth.go {h h' : PH} {y : Nat} {st : ST} {d p : Int} {q : Nat} (x : Pth h y st d p q) (fr : 0 ≤ st (Int.toNat (304 + d))) (hj : ∀ j : Nat, (j : Int) ≤ st (Int.toNat (304 + d)) + q → ph_I h' (y + 1) j = ph_I h (y + 1) j ∧ ph_I h' (y + 2) j = ph_I h (y + 2) j) (hs : StpW st d p 0 (st (Int.toNat (16 + p))) (st (Int.toNat (304 + d)) + q) (ph_I h (y + 1) (Int.toNat (st (Int.toNat (304 + d)) + q))) (ph_I h (y + 2) (Int.toNat (st (Int.toNat (304 + d)) + q))) (ph_I h' (y + 1) (Int.toNat (st (Int.toNat (304 + d)) + q + 1))) (ph_I h' (y + 2) (Int.toNat (st (Int.toNat (304 + d)) + q + 1)))) (hr : zabs (ph_I h' (y + 1) (Int.toNat (st (Int.toNat (304 + d)) + q + 1))) ≤ st (Int.toNat (308 + d)) ∧ 0 ≤ ph_I h' (y + 2) (Int.toNat (st (Int.toNat (304 + d)) + q + 1)) ∧ ph_I h' (y + 2) (Int.toNat (st (Int.toNat (304 + d)) + q + 1)) ≤ 6) : Pth h' y st d p (q + 1) := by
  obtain ⟨x1, x2, x3, x4⟩ := x
  have hjt : ∀ t : Int, 0 ≤ t → t ≤ st (Int.toNat (304 + d)) + q → ph_I h' (y + 1) (Int.toNat t) = ph_I h (y + 1) (Int.toNat t) ∧ ph_I h' (y + 2) (Int.toNat t) = ph_I h (y + 2) (Int.toNat t) := fun t t0 t1 => hj _ (by omega)
  refine ⟨?_, ?_, fun t t0 t1 => ?_, fun t t0 t1 => ?_⟩
  · rw [(hjt _ fr (by omega)).1]; exact x1
  · rw [(hjt _ fr (by omega)).2]; exact x2
  · by_cases z : t = st (Int.toNat (304 + d)) + q
    · subst z
      rw [(hjt _ (by omega) (by omega)).1, (hjt _ (by omega) (by omega)).2]
      exact hs
    · rw [(hjt t (by omega) (by omega)).1, (hjt t (by omega) (by omega)).2, (hjt (t + 1) (by omega) (by omega)).1, (hjt (t + 1) (by omega) (by omega)).2]
      exact x3 t t0 (by omega)
  · by_cases z : t = st (Int.toNat (304 + d)) + q + 1
    · rw [z]; exact hr
    · rw [(hjt t (by omega) (by omega)).1, (hjt t (by omega) (by omega)).2]
      exact x4 t t0 (by omega)
theorem Sgh.go {h h' : PH} {y : Nat} {st : ST} {d p : Int} {q : Nat} (x : Sgh h y st d p q) (fr : 0 ≤ st (Int.toNat (304 + d))) (hj : ∀ j : Nat, (j : Int) < st (Int.toNat (304 + d)) + q → ph_I h' (y + 1) j = ph_I h (y + 1) j ∧ ph_I h' (y + 2) j = ph_I h (y + 2) j) (e3 : ∀ j, ph_I h' (y + 3) j = ph_I h (y + 3) j) (e4 : ph_I h' y 12 = ph_I h y 12) (e5 : ph_I h' y 13 = ph_I h y 13) : Sgh h' y st d p q := by
  have hb : ∀ j : Nat, (j : Int) < st (Int.toNat (304 + d)) + q → bitsW st p (ph_I h' (y + 1)) (ph_I h' (y + 2)) j = bitsW st p (ph_I h (y + 1)) (ph_I h (y + 2)) j := fun j z => by unfold bitsW; rw [(hj j z).1, (hj j z).2]
  obtain ⟨x1, x2, x3⟩ := x
  refine ⟨fun j hj => ?_, ?_, ?_⟩
  · rw [e3, x1 j hj]
    by_cases z : st (Int.toNat (304 + d)) ≤ (j : Int) ∧ (j : Int) < st (Int.toNat (304 + d)) + q
    · rw [if_pos z, if_pos z, hb j z.2]
    · rw [if_neg z, if_neg z]
  · rw [e4, x2]; exact sT_congr _ (fun i hi => (hb _ (by omega)).symm)
  · rw [e5, x3]; exact sT_congr _ (fun i hi => (hb _ (by omega)).symm)
theorem Sgh.no {h : PH} {y : Nat} {st : ST} {d p : Int} {q : Nat} (x : Sgh h y st d p q) (fr : 0 ≤ st (Int.toNat (304 + d))) (hb : bitsW st p (ph_I h (y + 1)) (ph_I h (y + 2)) (Int.toNat (st (Int.toNat (304 + d)) + q)) = 0) : Sgh h y st d p (q + 1) := by
  obtain ⟨x1, x2, x3⟩ := x
  refine ⟨fun j hj => ?_, ?_, ?_⟩
  · rw [x1 j hj]
    by_cases z : (j : Int) = st (Int.toNat (304 + d)) + q
    · have e : j = Int.toNat (st (Int.toNat (304 + d)) + q) := by omega
      rw [if_neg (by omega), if_pos (by omega), e, hb]
    · by_cases z2 : st (Int.toNat (304 + d)) ≤ (j : Int) ∧ (j : Int) < st (Int.toNat (304 + d)) + q
      · rw [if_pos z2, if_pos (by omega)]
      · rw [if_neg z2, if_neg (by omega)]
  · unfold sT; rw [if_neg (fun z => z.1 hb)]; exact x2
  · unfold sT; rw [if_neg (fun z => z.1 hb)]; exact x3
theorem Sgh.see {h h' : PH} {y : Nat} {st : ST} {d p : Int} {q : Nat} (x : Sgh h y st d p q) (fr : 0 ≤ st (Int.toNat (304 + d)) ∧ st (Int.toNat (304 + d)) ≤ 79) (hb : bitsW st p (ph_I h (y + 1)) (ph_I h (y + 2)) (Int.toNat (st (Int.toNat (304 + d)) + q)) = 1) (e9 : ph_I h y 9 = st (Int.toNat (304 + d)) + q) (hs : pqSee h y none h') : Sgh h' y st d p (q + 1) := by
  obtain ⟨x1, x2, x3⟩ := x
  obtain ⟨-, hF, ⟨s10, s13, s12⟩, sk, s3, s3o⟩ := hs
  have f1 : ph_I h' (y + 1) = ph_I h (y + 1) := funext fun j => hF.I (by omega) j
  have f2 : ph_I h' (y + 2) = ph_I h (y + 2) := funext fun j => hF.I (by omega) j
  rw [e9] at s3 s3o s13 s12
  have hsb := sT_b (r3 := bitsW st p (ph_I h (y + 1)) (ph_I h (y + 2))) (fl := 0) fr q
  have ez : (0 : Int) ≠ 1 := by decide
  refine ⟨fun j hj => ?_, ?_, ?_⟩
  · rw [f1, f2]
    by_cases z : (j : Int) = st (Int.toNat (304 + d)) + q
    · have e : j = Int.toNat (st (Int.toNat (304 + d)) + q) := by omega
      rw [if_pos (by omega), e, hb, s3]
    · rw [s3o j (by omega), x1 j hj]
      by_cases z2 : st (Int.toNat (304 + d)) ≤ (j : Int) ∧ (j : Int) < st (Int.toNat (304 + d)) + q
      · rw [if_pos z2, if_pos (by omega)]
      · rw [if_neg z2, if_neg (by omega)]
  · rw [f1, f2, s12]
    unfold sT
    rw [x2]
    by_cases z : sT (bitsW st p (ph_I h (y + 1)) (ph_I h (y + 2))) 0 (st (Int.toNat (304 + d))) q < 0
    · have hm : sT (bitsW st p (ph_I h (y + 1)) (ph_I h (y + 2))) 0 (st (Int.toNat (304 + d))) q = -6 := by
        clear s3 s3o s13 s12 x1 x3 sk
        have key : ∀ k : Nat, sT (bitsW st p (ph_I h (y + 1)) (ph_I h (y + 2))) 0 (st (Int.toNat (304 + d))) k = -6 ∨ 0 ≤ sT (bitsW st p (ph_I h (y + 1)) (ph_I h (y + 2))) 0 (st (Int.toNat (304 + d))) k := by
          intro k
          induction k with
          | zero => exact Or.inl rfl
          | succ k ih =>
            unfold sT
            split
            · right; omega
            · exact ih
        rcases key q with k | k
        · exact k
        · omega
      rw [if_pos hm, if_pos ⟨by rw [hb]; decide, Or.inr z⟩]
    · rw [if_neg (by omega), if_neg (fun w => w.2.elim (fun u => u rfl) z)]
  · rw [f1, f2, s13]
    unfold sT
    rw [if_pos ⟨by rw [hb]; decide, Or.inl (by decide)⟩]
/-- before a row's point is looked at -/
def FPre (h : PH) (y : Nat) (st : ST) (d p : Int) (q : Nat) (w hh : Int) : Prop := (loW st d q ≤ w ∧ w ≤ hiW st d q) ∧ (0 ≤ hh ∧ hh ≤ 6) ∧ vb st d p q (w - st (Int.toNat (308 + d))) hh ≠ -1000000 ∧ (ph_I h y 6 = 1 ∧ ph_I h y 8 = st (Int.toNat (304 + d)) ∧ ph_I h y 9 = st (Int.toNat (304 + d)) + q) ∧ (ph_I h (y + 1) (Int.toNat (st (Int.toNat (304 + d)) + q)) = w - st (Int.toNat (308 + d)) ∧ ph_I h (y + 2) (Int.toNat (st (Int.toNat (304 + d)) + q)) = hh) ∧ Pth h y st d p q ∧ Sgh h y st d p q ∧ (sLay st d p 0 (st (Int.toNat (16 + p))) = 10000 * ph_I h y 10 - ph_I h y 11 + vb st d p q (w - st (Int.toNat (308 + d))) hh) ∧ (0 ≤ ph_I h y 10 ∧ 0 ≤ ph_I h y 11 ∧ ph_I h y 11 ≤ 4 * (q : Int) ∧ ph_I h y 10 ≤ (q : Int))
/-- behind it -/
def FPost (h : PH) (y : Nat) (st : ST) (d p : Int) (q : Nat) (w hh : Int) : Prop := (loW st d q ≤ w ∧ w ≤ hiW st d q) ∧ (0 ≤ hh ∧ hh ≤ 6) ∧ vb st d p q (w - st (Int.toNat (308 + d))) hh ≠ -1000000 ∧ (ph_I h y 6 = 1 ∧ ph_I h y 8 = st (Int.toNat (304 + d)) ∧ ph_I h y 9 = st (Int.toNat (304 + d)) + q) ∧ (ph_I h (y + 1) (Int.toNat (st (Int.toNat (304 + d)) + q)) = w - st (Int.toNat (308 + d)) ∧ ph_I h (y + 2) (Int.toNat (st (Int.toNat (304 + d)) + q)) = hh) ∧ Pth h y st d p q ∧ Sgh h y st d p (q + 1) ∧ (sLay st d p 0 (st (Int.toNat (16 + p))) = 10000 * ph_I h y 10 - ph_I h y 11 + (vb st d p q (w - st (Int.toNat (308 + d))) hh - sOwn st p 0 (st (Int.toNat (16 + p))) (st (Int.toNat (304 + d)) + q) (w - st (Int.toNat (308 + d))) hh)) ∧ (0 ≤ ph_I h y 10 ∧ 0 ≤ ph_I h y 11 ∧ ph_I h y 11 ≤ 4 * (q : Int) ∧ ph_I h y 10 ≤ (q : Int) + 1)
theorem bits_at {st : ST} {p : Int} {f1 f2 : Nat → Int} {t w hh : Int} (t0 : 0 ≤ t) (e1 : f1 (Int.toNat t) = w) (e2 : f2 (Int.toNat t) = hh) : bitsW st p f1 f2 (Int.toNat t) = bitS st p 0 (st (Int.toNat (16 + p))) t w hh := by
  unfold bitsW
  have e : ((Int.toNat t : Nat) : Int) = t := by omega
  rw [e, e1, e2]
theorem FPre.no {h : PH} {y : Nat} {st : ST} {d p : Int} {q : Nat} {w hh : Int} (fr : 0 ≤ st (Int.toNat (304 + d))) (x : FPre h y st d p q w hh) (hn : ¬ sS st p 0 (st (Int.toNat (16 + p))) (st (Int.toNat (304 + d)) + q) (w - st (Int.toNat (308 + d))) hh = true) : FPost h y st d p q w hh := by
  obtain ⟨x1, x2, x3, x4, x5, x6, x7, x8, x9⟩ := x
  have hb := bits_at (st := st) (p := p) (t := st (Int.toNat (304 + d)) + q) (by omega) x5.1 x5.2
  refine ⟨x1, x2, x3, x4, x5, x6, x7.no fr ?_, ?_, by omega⟩
  · rw [hb]; unfold bitS; rw [if_neg hn]
  · unfold sOwn; rw [if_neg hn]; omega
theorem FPre.see {h h' : PH} {y : Nat} {st : ST} {d p : Int} {q : Nat} {w hh : Int} (fr : 0 ≤ st (Int.toNat (304 + d)) ∧ st (Int.toNat (304 + d)) ≤ 79) (x : FPre h y st d p q w hh) (hn : sS st p 0 (st (Int.toNat (16 + p))) (st (Int.toNat (304 + d)) + q) (w - st (Int.toNat (308 + d))) hh = true) (hs : pqSee h y none h') : FPost h' y st d p q w hh := by
  obtain ⟨x1, x2, x3, x4, x5, x6, x7, x8, x9⟩ := x
  have hb := bits_at (st := st) (p := p) (t := st (Int.toNat (304 + d)) + q) (by omega) x5.1 x5.2
  have z7 := x7.see fr (by rw [hb]; unfold bitS; rw [if_pos hn]) x4.2.2 hs
  obtain ⟨-, hF, ⟨s10, s13, s12⟩, sk, s3, s3o⟩ := hs
  have f1 : ∀ j, ph_I h' (y + 1) j = ph_I h (y + 1) j := fun j => hF.I (by omega) j
  have f2 : ∀ j, ph_I h' (y + 2) j = ph_I h (y + 2) j := fun j => hF.I (by omega) j
  have k6 := sk 6 (by decide) (by decide) (by decide)
  have k8 := sk 8 (by decide) (by decide) (by decide)
  have k9 := sk 9 (by decide) (by decide) (by decide)
  have k11 := sk 11 (by decide) (by decide) (by decide)
  refine ⟨x1, x2, x3, ⟨by rw [k6]; exact x4.1, by rw [k8]; exact x4.2.1, by rw [k9]; exact x4.2.2⟩, ⟨by rw [f1]; exact x5.1, by rw [f2]; exact x5.2⟩, x6.fr f1 f2, z7, ?_, ?_⟩
  · unfold sOwn; rw [if_pos hn, s10, k11]; omega
  · rw [s10, k11]; omega
theorem FPost.go {h h' : PH} {y : Nat} {st : ST} {d p : Int} {q : Nat} {w hh w' k : Int} (fr : 0 ≤ st (Int.toNat (304 + d))) (x : FPost h y st d p q w hh) (g2 : st (Int.toNat (312 + d)) ≤ 3) (hb : loW st d ((q + 1 : Nat) : Int) ≤ w' ∧ w' ≤ hiW st d ((q + 1 : Nat) : Int)) (hwl : 0 ≤ w' ∧ w' ≤ 2 * st (Int.toNat (308 + d))) (k0 : 0 ≤ k ∧ k ≤ 6) (hst : StpW st d p 0 (st (Int.toNat (16 + p))) (st (Int.toNat (304 + d)) + q) (w - st (Int.toNat (308 + d))) hh (w' - st (Int.toNat (308 + d))) k) (hal : vb st d p ((q + 1 : Nat) : Int) (w' - st (Int.toNat (308 + d))) k ≠ -1000000) (hv : vb st d p q (w - st (Int.toNat (308 + d))) hh = sOwn st p 0 (st (Int.toNat (16 + p))) (st (Int.toNat (304 + d)) + q) (w - st (Int.toNat (308 + d))) hh + vb st d p ((q + 1 : Nat) : Int) (w' - st (Int.toNat (308 + d))) k - zabs (w' - w) - zabs (k - hh)) (zw : zabs (w' - w) ≤ st (Int.toNat (312 + d))) (zk : zabs (k - hh) ≤ 1) (hg : pqGo h y (w' - st (Int.toNat (308 + d))) k none h') : FPre h' y st d p (q + 1) w' k := by
  obtain ⟨x1, x2, x3, x4, x5, x6, x7, x8, x9⟩ := x
  obtain ⟨-, hF, ⟨s11, s9⟩, sk, ⟨sa, sb⟩, sj⟩ := hg
  rw [x4.2.2, x5.1, x5.2] at s11
  rw [x4.2.2] at s9 sa sb sj
  have e3 : w' - st (Int.toNat (308 + d)) - (w - st (Int.toNat (308 + d))) = w' - w := by omega
  rw [e3] at s11
  have eq1 : st (Int.toNat (304 + d)) + ((q + 1 : Nat) : Int) = st (Int.toNat (304 + d)) + q + 1 := by omega
  have k6 := sk 6 (by decide) (by decide)
  have k8 := sk 8 (by decide) (by decide)
  have k10 := sk 10 (by decide) (by decide)
  have n1 := zabs_nn (w' - w)
  have n2 := zabs_nn (k - hh)
  refine ⟨hb, k0, hal, ⟨by rw [k6]; exact x4.1, by rw [k8]; exact x4.2.1, by rw [s9, eq1]⟩, ⟨by rw [eq1]; exact sa, by rw [eq1]; exact sb⟩, ?_, ?_, ?_, ?_⟩
  · refine x6.go fr (fun j hj => sj j (by omega)) ?_ ?_
    · rw [x5.1, x5.2, sa, sb]; exact hst
    · rw [sa, sb]
      exact ⟨by unfold zabs; split <;> omega, k0.1, k0.2⟩
  · exact x7.go fr (fun j hj => sj j (by omega)) (fun j => hF.I (by omega) j) (sk 12 (by decide) (by decide)) (sk 13 (by decide) (by decide))
  · rw [k10, s11]; omega
  · rw [k10, s11]; omega
/-- what a way tells -/
def WayC (h : PH) (y : Nat) (st : ST) (d p : Int) : Prop := (ph_I h y 6 = 0 ∧ sVal st d p = -1000000 ∧ ph_I h y 10 = 0 ∧ ph_I h y 11 = 0) ∨ (ph_I h y 6 = 1 ∧ sVal st d p ≠ -1000000 ∧ PathW st d p 0 (st (Int.toNat (16 + p))) (ph_I h (y + 1)) (ph_I h (y + 2)) ∧ (ph_I h y 8 = st (Int.toNat (304 + d)) ∧ ph_I h y 9 = lastT st p) ∧ (ph_I h y 10 = (sVal st d p + 10000 - 1) / 10000 ∧ ph_I h y 11 = 10000 * ph_I h y 10 - sVal st d p ∧ 0 ≤ ph_I h y 10 ∧ ph_I h y 10 ≤ 80 ∧ 0 ≤ ph_I h y 11 ∧ ph_I h y 11 ≤ 320) ∧ (ph_I h y 12 = sT (bitsW st p (ph_I h (y + 1)) (ph_I h (y + 2))) 0 (st (Int.toNat (304 + d))) (Int.toNat (lastT st p + 1 - st (Int.toNat (304 + d)))) ∧ ph_I h y 13 = sT (bitsW st p (ph_I h (y + 1)) (ph_I h (y + 2))) 1 (st (Int.toNat (304 + d))) (Int.toNat (lastT st p + 1 - st (Int.toNat (304 + d))))) ∧ ∀ j : Nat, j < 76 → ph_I h (y + 3) j = if st (Int.toNat (304 + d)) ≤ (j : Int) ∧ (j : Int) ≤ lastT st p then bitsW st p (ph_I h (y + 1)) (ph_I h (y + 2)) j else 0)
theorem FPost.fin {h : PH} {y : Nat} {st : ST} {d p : Int} {q : Nat} {w hh : Int} (hD : OkD st d) (x : FPost h y st d p q w hh) (hn : 0 < st (Int.toNat (16 + p))) (hl : st (Int.toNat (304 + d)) + q = st (Int.toNat (8 + p)) + st (Int.toNat (16 + p)) - 1) (hq : (q : Int) ≤ 75) : WayC h y st d p := by
  obtain ⟨x1, x2, x3, x4, x5, x6, x7, x8, x9⟩ := x
  have fr := hD.2.2.1
  have hv : vb st d p q (w - st (Int.toNat (308 + d))) hh = sOwn st p 0 (st (Int.toNat (16 + p))) (st (Int.toNat (304 + d)) + q) (w - st (Int.toNat (308 + d))) hh := by
    by_cases z : (q : Int) = 0
    · have hw0 := loW_0 hD
      rw [z] at x1 x3 ⊢
      have ew : w - st (Int.toNat (308 + d)) = st (Int.toNat (296 + d)) := by omega
      unfold vb at x3 ⊢
      rw [if_pos rfl] at x3 ⊢
      by_cases z2 : hh = st (Int.toNat (300 + d))
      · rw [if_pos z2]
        unfold sLay
        have ez : st (Int.toNat (304 + d)) + 0 = st (Int.toNat (304 + d)) := by omega
        rw [if_neg (by omega), if_pos (by omega), ez, ew, z2]
      · rw [if_neg z2] at x3
        exact absurd rfl x3
    · rw [vb_pos (by omega)] at x3 ⊢
      have e2 : Int.toNat (st (Int.toNat (8 + p)) + st (Int.toNat (16 + p)) - 1 - (st (Int.toNat (304 + d)) + q)) = 0 := by omega
      rw [e2, bt_z] at x3 ⊢
      split at x3
      · next u => rw [if_pos u, hl]
      · exact absurd rfl x3
  have hsv : sVal st d p = 10000 * ph_I h y 10 - ph_I h y 11 := by
    show sLay st d p 0 (st (Int.toNat (16 + p))) = _
    omega
  have hlt : lastT st p = st (Int.toNat (304 + d)) + q := by unfold lastT; omega
  have hk : Int.toNat (lastT st p + 1 - st (Int.toNat (304 + d))) = q + 1 := by omega
  right
  refine ⟨x4.1, by omega, ?_, ⟨x4.2.1, by rw [hlt]; exact x4.2.2⟩, by omega, ?_, fun j hj => ?_⟩
  · obtain ⟨y1, y2, y3, y4⟩ := x6
    exact ⟨y1, y2, fun t t0 t1 => y3 t t0 (by omega), fun t t0 t1 => y4 t t0 (by omega)⟩
  · rw [hk]; exact ⟨x7.2.1, x7.2.2⟩
  · rw [x7.1 j hj, hlt]
    by_cases z : st (Int.toNat (304 + d)) ≤ (j : Int) ∧ (j : Int) ≤ st (Int.toNat (304 + d)) + q
    · rw [if_pos z, if_pos (by omega)]
    · rw [if_neg z, if_neg (by omega)]
