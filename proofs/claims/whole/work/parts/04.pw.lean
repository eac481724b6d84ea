/-! PURE HEAPS AND THE JUDGEMENT PW: one heap of cells by numbers (0 null, 1 the script, from 2 on what was made), and W over it. Ints are whole numbers; a cell or the stack holds them cut to 32 bits (zI). -/
def zI (z : Int) : Int32 := Int32.ofInt z
def pR (z : Int) : Prop := -2147483648 ≤ z ∧ z < 2147483648
theorem zI_toInt {z : Int} (h : pR z) : (zI z).toInt = z := Int32.toInt_ofInt_of_le h.1 h.2
theorem zI_of (x : Int32) : zI x.toInt = x := Int32.ofInt_toInt x
theorem pR_of (x : Int32) : pR x.toInt := ⟨Int32.le_toInt x, Int32.toInt_lt x⟩
theorem zI_lt {a b : Int} (ha : pR a) (hb : pR b) : zI a < zI b ↔ a < b := by rw [Int32.lt_iff_toInt_lt, zI_toInt ha, zI_toInt hb]
theorem zI_le {a b : Int} (ha : pR a) (hb : pR b) : zI a ≤ zI b ↔ a ≤ b := by rw [Int32.le_iff_toInt_le, zI_toInt ha, zI_toInt hb]
theorem zI_eq {a b : Int} (ha : pR a) (hb : pR b) : zI a = zI b ↔ a = b := ⟨fun h => by rw [← zI_toInt ha, ← zI_toInt hb, h], fun h => by rw [h]⟩
theorem zI_add (a b : Int) : zI a + zI b = zI (a + b) := (Int32.ofInt_add a b).symm
theorem zI_sub (a b : Int) : zI a - zI b = zI (a - b) := (Int32.ofInt_sub a b).symm
theorem zI_mul (a b : Int) : zI a * zI b = zI (a * b) := (Int32.ofInt_mul a b).symm
theorem zI_neg (a : Int) : -zI a = zI (-a) := (Int32.ofInt_neg a).symm
theorem zI_nat (n : Nat) : zI (n : Int) = nI n := rfl
theorem zI_clamp {z : Int} (h : pR z) : (zI z).toNatClampNeg = z.toNat := by
  show (zI z).toInt.toNat = _
  rw [zI_toInt h]
theorem zI_toNat {z : Int} (h : 0 ≤ z) : zI z = nI z.toNat := by
  rw [← zI_nat, Int.toNat_of_nonneg h]
theorem zI_div {a b : Int} (ha : pR a) (hb : pR b) (h0 : 0 ≤ a) (h1 : 0 < b) : zI a / zI b = zI (a / b) := by
  obtain ⟨x, rfl⟩ := Int.eq_ofNat_of_zero_le h0
  obtain ⟨y, rfl⟩ := Int.eq_ofNat_of_zero_le (Int.le_of_lt h1)
  rw [zI_nat, zI_nat, pk_div (by have := ha.2; omega) (by omega) (by have := hb.2; omega), ← zI_nat]
  rfl
theorem zI_rem {a b : Int} (ha : pR a) (hb : pR b) (h0 : 0 ≤ a) (h1 : 0 < b) : zI a - zI a / zI b * zI b = zI (a % b) := by
  rw [zI_div ha hb h0 h1, zI_mul, zI_sub, Int.emod_def, Int.mul_comm]
theorem zI_in {i : Int} {n : Nat} (h0 : 0 ≤ i) (h1 : i < n) (hn : n < 2147483648) : vp_in (zI i) n := by
  rw [vp_in_iff, zI_toInt ⟨by omega, by omega⟩]
  exact ⟨h0, h1⟩
abbrev PV : Type := Int ⊕ Nat
abbrev PH : Type := Nat × (Nat → Nat) × (Nat → Nat) × (Nat → Nat → Int) × (Nat → Nat → Nat)
abbrev Gx : Type := Nat × Nat × (Nat → ClassId) × (Nat → Nat → Nat) × (Nat → ClassId)
abbrev Cx : Type := Program × Launch × Env × Room × State × MethodId × Array Value × List Frame × Method × Code
def ph_S (h : PH) : Nat := h.1
def ph_T (h : PH) (c : Nat) : Nat := h.2.1 c
def ph_L (h : PH) (c : Nat) : Nat := h.2.2.1 c
def ph_I (h : PH) (c k : Nat) : Int := h.2.2.2.1 c k
def ph_R (h : PH) (c k : Nat) : Nat := h.2.2.2.2 c k
def ph_setI (h : PH) (c k : Nat) (x : Int) : PH := (h.1, h.2.1, h.2.2.1, (fun c' k' => if c' = c ∧ k' = k then x else h.2.2.2.1 c' k'), h.2.2.2.2)
def ph_setR (h : PH) (c k : Nat) (r : Nat) : PH := (h.1, h.2.1, h.2.2.1, h.2.2.2.1, (fun c' k' => if c' = c ∧ k' = k then r else h.2.2.2.2 c' k'))
def ph_rowI (h : PH) (c : Nat) (f : Nat → Int) : PH := (h.1, h.2.1, h.2.2.1, (fun c' k' => if c' = c then f k' else h.2.2.2.1 c' k'), h.2.2.2.2)
def ph_new (h : PH) (t n : Nat) : PH := (h.1 + 1, (fun c => if c = h.1 + 2 then t else h.2.1 c), (fun c => if c = h.1 + 2 then n else h.2.2.1 c), (fun c k => if c = h.1 + 2 then 0 else h.2.2.2.1 c k), (fun c k => if c = h.1 + 2 then 0 else h.2.2.2.2 c k))
def pw_ro (G : Gx) (r : Nat) : Option Nat := if r = 0 then none else if r = 1 then some G.2.1 else some (G.1 + (r - 2))
def pw_rv (G : Gx) (v : PV) : Value := match v with
  | .inl x => .int (zI x)
  | .inr r => va_rf (pw_ro G r)
def pw_fv (G : Gx) (h : PH) (t c : Nat) : List Value := (List.range (pw_nf t)).map (fun k => if pw_isR t k = true then va_rf (pw_ro G (ph_R h c k)) else .int (zI (ph_I h c k)))
def pw_ce (G : Gx) (h : PH) (c : Nat) : va_E :=
  if ph_T h c < 8 then .inr (ph_T h c, pw_fv G h (ph_T h c) c)
  else if ph_T h c < 10 then .inl (G.2.2.2.2 (ph_T h c), ph_L h c, .inl (fun j => zI (ph_I h c j)))
  else .inl (G.2.2.2.2 (ph_T h c), ph_L h c, .inr (.inr (.inr (.inr (fun j => pw_ro G (ph_R h c j))))))
def pw_ws (G : Gx) (h : PH) : va_W := (List.range (ph_S h)).map (fun i => (G.1 + i, pw_ce G h (i + 2)))
def pw_tys (G : Gx) : List (ClassId × FieldType) := [(G.2.2.2.2 8, .int), (G.2.2.2.2 9, .boolean), (G.2.2.2.2 10, .object RX0), (G.2.2.2.2 11, .object RX1), (G.2.2.2.2 12, .object RX4), (G.2.2.2.2 13, .object RX5)]
def pw_Rep (G : Gx) (h : PH) (H : Heap) : Prop := H.size = G.1 + ph_S h ∧ (∀ c, ph_T h c < 14 → 2 ≤ c ∧ c < ph_S h + 2) ∧ va_P (G.2.2.1, G.2.2.2.1) vwCl (pw_ws G h) H
def pw_LR (G : Gx) (ls : Array Slot) (nL : Nat) (L : List (Option PV)) : Prop := ls.size = nL ∧ lv_wf ls ∧ ∀ (i : Nat) (v : PV), L[i]? = some (some v) → ls[i]? = some (.val (pw_rv G v))
def PW (G : Gx) (X : Cx) (nL : Nat) (Q : State → Prop) (k n pc : Nat) (L : List (Option PV)) (S : List PV) (h : PH) : Prop :=
  ∀ (H : Heap) (locs : List Loc) (ls : Array Slot), pw_Rep G h H → va_S (fun q => G.1 ≤ q) X.2.2.2.2.1.heap H locs → pw_LR G ls nL L →
    W X.1 X.2.1 X.2.2.1 X.2.2.2.1 X.2.2.2.2.1 X.2.2.2.2.2.1 X.2.2.2.2.2.2.1 X.2.2.2.2.2.2.2.1 X.2.2.2.2.2.2.2.2.1 X.2.2.2.2.2.2.2.2.2 H locs k n Q (F0 X.2.2.2.2.2.1 pc ls (S.map (pw_rv G)))
/-- the words that aren't among the steady ones: private members of a nest mate, arrays of objects -/
def pw_NW (U : State) : Prop :=
  (va_Nw (.methodLinkNest RX5 25 yX3_init RX6) U ∧ va_Nw (.methodLinkNest RX5 38 yX0_init RX6) U ∧ va_Nw (.methodLinkNest RX5 39 yX1_init RX6) U ∧ va_Nw (.methodLinkNest RX2 63 yX4_init RX6) U ∧ va_Nw (.methodLinkNest RX3 51 yX6_isIn RX6) U ∧ va_Nw (.methodLinkNest RX2 215 yX6_sideOf RX6) U ∧ va_Nw (.methodLinkNest RX2 241 yX6_isIn RX6) U ∧ va_Nw (.methodLinkNest RX2 238 yX6_isHeight RX6) U)
  ∧ va_AO RX0 U ∧ va_AO RX1 U ∧ va_AO RX4 U ∧ va_AO RX5 U
theorem pw_NW.warm {s U : State} (hW : s.WarmedH U.vm) (h : pw_NW s) : pw_NW U := by
  obtain ⟨⟨h1, h2, h3, h4, h5, h6, h7, h8⟩, a1, a2, a3, a4⟩ := h
  exact ⟨⟨h1.warmM hW, h2.warmM hW, h3.warmM hW, h4.warmM hW, h5.warmM hW, h6.warmM hW, h7.warmM hW, h8.warmM hW⟩, a1.moved hW.alike, a2.moved hW.alike, a3.moved hW.alike, a4.moved hW.alike⟩
/-- what holds all through a method's frame -/
def pw_Ctx (G : Gx) (X : Cx) (cc : ByteArray) (nL : Nat) (own nm : String) (ret : Option FieldType) (rm : Room) : Prop :=
  X.1.tables.exec = Jvm.exec ∧ X.2.2.2.2.2.2.2.2.2.code = cc ∧ X.2.2.2.2.2.2.2.2.2.maxLocals = nL ∧ X.2.2.2.2.1.vm.findClass own = some X.2.2.2.2.2.1.cls ∧ (∀ w ∈ LW, w.before X.2.2.2.2.2.2.1 X.2.2.2.2.1 = true) ∧ va_K (G.2.2.1, G.2.2.2.1) vwCl (pw_tys G) X.2.2.2.2.1 ∧ G.1 ≤ X.2.2.2.2.1.heap.size ∧ X.2.2.2.1 = rm ∧ pw_NW X.2.2.2.2.1 ∧ X.2.2.2.2.2.2.2.2.1.locks = false ∧ X.2.2.2.2.2.2.2.2.1.sig.returnType = ret ∧ X.2.2.2.2.2.2.2.2.1.name = nm
/-- a method's end: its answer, the heap that it leaves, and nothing else is touched -/
def pw_Qc (G : Gx) (PQ : Option PV → PH → Prop) : Array Value → State → Outcome → State → Prop := fun _ st o t =>
  (∃ (r : Option PV) (h' : PH), o = .returned (r.map (pw_rv G)) ∧ PQ r h' ∧ pw_Rep G h' t.heap) ∧ va_F (fun q => G.1 ≤ q) st t
def pw_E (G : Gx) (X : Cx) (PQ : Option PV → PH → Prop) (mc ms : Nat) : State → Prop := MQ X.2.2.2.2.2.2.2.1 (pw_Qc G PQ) X.2.2.2.2.2.2.1 X.2.2.2.2.1 mc ms (fun q => G.1 ≤ q)
/-- a contract -/
def CT (G : Gx) (l : Launch) (y : MethodName) (cc : ByteArray) (nL : Nat) (ret : Option FieldType) (fr lo mc ms : Nat) (As : List PV) (h : PH) (PQ : Option PV → PH → Prop) : Prop :=
  Met l y (.code y cc nL ret :: LW) { frames := fr, cells := mc, slots := ms, locals := lo } (fun a U => a = (As.map (pw_rv G)).toArray ∧ pw_Rep G h U.heap ∧ va_K (G.2.2.1, G.2.2.2.1) vwCl (pw_tys G) U ∧ pw_NW U) (pw_Qc G PQ) mc ms (fun q => G.1 ≤ q)
theorem pw_cat (G : Gx) (v : PV) : (pw_rv G v).category = 1 := by
  cases v with
  | inl x => rfl
  | inr r =>
    show (va_rf (pw_ro G r)).category = 1
    cases pw_ro G r <;> rfl
theorem pw_ref (G : Gx) {c : Nat} (hc : 2 ≤ c) : pw_rv G (.inr c) = .ref (G.1 + (c - 2)) := by
  have h0 : c ≠ 0 := by omega
  have h1 : c ≠ 1 := by omega
  simp [pw_rv, pw_ro, h0, h1, va_rf]
theorem pw_ro2 (G : Gx) {c : Nat} (hc : 2 ≤ c) : pw_ro G c = some (G.1 + (c - 2)) := by
  have h0 : c ≠ 0 := by omega
  have h1 : c ≠ 1 := by omega
  simp [pw_ro, h0, h1]
theorem pw_at {G : Gx} {h : PH} {c : Nat} (h1 : 2 ≤ c) (h2 : c < ph_S h + 2) : (pw_ws G h)[c - 2]? = some (G.1 + (c - 2), pw_ce G h c) := by
  have e : c - 2 + 2 = c := by omega
  have h3 : c - 2 < ph_S h := by omega
  simp [pw_ws, List.getElem?_map, List.getElem?_range h3, e]
theorem pw_D (G : Gx) (h : PH) : va_D (fun q => G.1 ≤ q) (pw_ws G h) := by
  have key : ∀ (i : Nat) (p : Nat × va_E), (pw_ws G h)[i]? = some p → p.1 = G.1 + i := by
    intro i p hi
    simp only [pw_ws, List.getElem?_map] at hi
    by_cases hl : i < ph_S h
    · rw [List.getElem?_range hl] at hi
      cases hi
      rfl
    · rw [List.getElem?_eq_none (by simpa using Nat.not_lt.mp hl)] at hi
      cases hi
  refine ⟨fun i j p q hp hq he => ?_, fun k q hq => ?_⟩
  · have a := key i p hp
    have b := key j q hq
    omega
  · have a := key k q hq
    show G.1 ≤ q.1
    omega
theorem pw_set {G : Gx} {h h' : PH} {c : Nat} (hs : ph_S h' = ph_S h) (h1 : 2 ≤ c) (h2 : c < ph_S h + 2) (ho : ∀ d, d ≠ c → pw_ce G h' d = pw_ce G h d) : pw_ws G h' = (pw_ws G h).set (c - 2) (G.1 + (c - 2), pw_ce G h' c) := by
  apply List.ext_getElem?
  intro i
  rw [List.getElem?_set]
  by_cases hi : c - 2 = i
  · subst hi
    have e : c - 2 + 2 = c := by omega
    have h3 : c - 2 < ph_S h := by omega
    rw [if_pos rfl]
    simp [pw_ws, hs, h3, e]
  · rw [if_neg hi]
    simp only [pw_ws, hs, List.getElem?_map]
    by_cases hl : i < ph_S h
    · rw [List.getElem?_range hl]
      simp only [Option.map_some]
      rw [ho (i + 2) (by omega)]
    · rw [List.getElem?_eq_none (by simpa using Nat.not_lt.mp hl)]
      rfl
