/-! WHAT IS MEANT: the reference's words, as functions of its row of numbers -/
abbrev ST : Type := Nat → Int
def sB (st : ST) (side height t : Int) : Bool :=
  decide ((if 24 - zabs (side - (st 485 + t / st 486) % 24) < zabs (side - (st 485 + t / st 486) % 24) then 24 - zabs (side - (st 485 + t / st 486) % 24) else zabs (side - (st 485 + t / st 486) % 24)) ≤ st 488) && decide (zabs (height - st 487) ≤ st 488)
def sM (st : ST) (t w hh : Int) : Bool := (!(decide (0 ≤ st 489) && (decide (st 489 ≤ t) && decide (t ≤ st 490))) || decide (hh = 6)) && !(sB st ((w + 48) % 24) hh t)
def sS (st : ST) (p f n t w hh : Int) : Bool :=
  decide (f ≤ t - st (Int.toNat (8 + p))) && (decide (t - st (Int.toNat (8 + p)) ≤ n - 1) && (decide (hh ≤ st 491) && (decide (st (Int.toNat ((40 + (16 * p)) + (t - st (Int.toNat (8 + p))))) = (w + 48) % 24) && (decide (st (Int.toNat ((168 + (16 * p)) + (t - st (Int.toNat (8 + p))))) = hh) && !(sB st ((w + 48) % 24) hh t)))))
theorem zabs_r {x : Int} (h : pR x) (h2 : -2147483648 < x) : pR (zabs x) := by unfold zabs; unfold pR at *; split <;> omega
/-- the reference's cells stand where they were made -/
def MF (h : PH) : Prop := (ph_T h 134 = 7 ∧ ph_R h 134 0 = 135 ∧ ph_R h 134 1 = 136 ∧ ph_R h 134 2 = 137 ∧ ph_R h 134 3 = 138 ∧ ph_R h 134 8 = 139 ∧ ph_R h 134 9 = 140 ∧ ph_R h 134 10 = 141) ∧ (ph_T h 135 = 8 ∧ ph_T h 136 = 8 ∧ ph_T h 137 = 9 ∧ ph_T h 138 = 8 ∧ ph_T h 139 = 8 ∧ ph_T h 140 = 8 ∧ ph_T h 141 = 9) ∧ (ph_L h 135 = 492 ∧ ph_L h 136 = 984 ∧ ph_L h 137 = 2 ∧ ph_L h 138 = 40880 ∧ ph_L h 139 = 80 ∧ ph_L h 140 = 80 ∧ ph_L h 141 = 80)
/-- the sky's numbers -/
def okSky (st : ST) : Prop := 0 ≤ st 485 ∧ st 485 ≤ 23 ∧ 1 ≤ st 486 ∧ st 486 ≤ 40 ∧ 0 ≤ st 487 ∧ st 487 ≤ 6 ∧ -1 ≤ st 488 ∧ st 488 ≤ 3 ∧ -6 ≤ st 489 ∧ st 489 ≤ 79 ∧ -6 ≤ st 490 ∧ st 490 ≤ 79 ∧ 0 ≤ st 491 ∧ st 491 ≤ 6
def pOfN (st : ST) (name : Int) : Nat → Int
  | 0 => -6
  | n + 1 => if st n = name then (n : Int) else pOfN st name n
/-- the greatest of m and f 0 .. f (n - 1) -/
def mx (f : Nat → Int) : Nat → Int → Int
  | 0, m => m
  | n + 1, m => if mx f n m < f n then f n else mx f n m
def sOwn (st : ST) (p f n t w hh : Int) : Int := if sS st p f n t w hh = true then 10000 else 0
def sGo (st : ST) (d : Int) (bst : Int → Int → Int) (w hh w' h' : Int) : Int :=
  if st (Int.toNat (308 + d)) < zabs w' ∨ ¬ (0 ≤ h' ∧ h' ≤ 6) then -1000000 else if bst w' h' = -1000000 then -1000000 else bst w' h' - zabs (w' - w) - zabs (h' - hh)
def sMo (g : Nat → Nat → Int) : Nat → Int
  | 0 => -1000000
  | i + 1 => mx (g i) 3 (sMo g i)
def sG (st : ST) (d : Int) (bst : Int → Int → Int) (w hh : Int) (i j : Nat) : Int := sGo st d bst w hh (w - st (Int.toNat (312 + d)) + i) (hh - 1 + j)
def sMost (st : ST) (d : Int) (bst : Int → Int → Int) (w hh : Int) : Int := sMo (sG st d bst w hh) (Int.toNat (2 * st (Int.toNat (312 + d)) + 1))
def sFrom (st : ST) (d p f n : Int) (bst : Int → Int → Int) (t w hh : Int) : Int :=
  if sMost st d bst w hh = -1000000 then -1000000 else sMost st d bst w hh + sOwn st p f n t w hh
/-- the best from a place on, r ticks before the last one -/
def bt (st : ST) (d p f n last : Int) : Nat → Int → Int → Int
  | 0 => fun w hh => if sM st last w hh = true ∧ -36 ≤ w ∧ w ≤ 36 ∧ 0 ≤ hh ∧ hh ≤ 6 then sOwn st p f n last w hh else -1000000
  | r + 1 => fun w hh => if sM st (last - (r + 1)) w hh = true ∧ -36 ≤ w ∧ w ≤ 36 ∧ 0 ≤ hh ∧ hh ≤ 6 then sFrom st d p f n (bt st d p f n last r) (last - (r + 1)) w hh else -1000000
/-- what a lay comes to -/
def sLay (st : ST) (d p f n : Int) : Int :=
  if n = 0 ∨ st (Int.toNat (8 + p)) + n - 1 < st (Int.toNat (304 + d)) then -1000000
  else if st (Int.toNat (304 + d)) = st (Int.toNat (8 + p)) + n - 1 then sOwn st p f n (st (Int.toNat (304 + d))) (st (Int.toNat (296 + d))) (st (Int.toNat (300 + d)))
  else sFrom st d p f n (bt st d p f n (st (Int.toNat (8 + p)) + n - 1) (Int.toNat (st (Int.toNat (8 + p)) + n - 1 - st (Int.toNat (304 + d)) - 1))) (st (Int.toNat (304 + d))) (st (Int.toNat (296 + d))) (st (Int.toNat (300 + d)))
theorem mx_b {f : Nat → Int} {lo hi : Int} (hf : ∀ i, lo ≤ f i ∧ f i ≤ hi) : ∀ (n : Nat) (m : Int), lo ≤ m → m ≤ hi → lo ≤ mx f n m ∧ mx f n m ≤ hi
  | 0, m, a, b => ⟨a, b⟩
  | n + 1, m, a, b => by
    have := mx_b hf n m a b
    have := hf n
    unfold mx
    split <;> omega
theorem sMo_b {g : Nat → Nat → Int} {lo hi : Int} (hf : ∀ i j, lo ≤ g i j ∧ g i j ≤ hi) (h1 : lo ≤ -1000000) (h2 : -1000000 ≤ hi) : ∀ n : Nat, lo ≤ sMo g n ∧ sMo g n ≤ hi
  | 0 => ⟨h1, h2⟩
  | n + 1 => by
    have := sMo_b hf h1 h2 n
    exact mx_b (hf n) 3 _ this.1 this.2
theorem bt_z (st : ST) (d p f n last w hh : Int) : bt st d p f n last 0 w hh = if sM st last w hh = true ∧ -36 ≤ w ∧ w ≤ 36 ∧ 0 ≤ hh ∧ hh ≤ 6 then sOwn st p f n last w hh else -1000000 := rfl
theorem bt_s (st : ST) (d p f n last w hh : Int) (r : Nat) : bt st d p f n last (r + 1) w hh = if sM st (last - (r + 1)) w hh = true ∧ -36 ≤ w ∧ w ≤ 36 ∧ 0 ≤ hh ∧ hh ≤ 6 then sFrom st d p f n (bt st d p f n last r) (last - (r + 1)) w hh else -1000000 := rfl
