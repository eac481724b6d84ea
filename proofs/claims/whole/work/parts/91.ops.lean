/-! one lemma a call -/
def Op (CX : (Option PV → PH → Prop) → Prop) (CM : PH → (Option PV → PH → Prop) → Prop) (h : PH) (B : Int) : Prop := ∃ PQ MQ, CX PQ ∧ (∀ rr h1, PQ rr h1 → ph_T h1 134 = 7 ∧ CM h1 (MQ h1)) ∧ Both h B PQ MQ
theorem KQ.mid {A : Int → ST → Prop} {h h1 : PH} {B : Int} {rr : Option PV} (s : Sim h B) (q : KQ A h rr h1) : MF h1 ∧ ph_I h1 135 = ph_I h 135 ∧ OkS (ph_I h1 135) ∧ ph_I h1 137 = ph_I h 137 := by
  obtain ⟨v, st', -, -, -, c⟩ := q
  have e := c.i (e := 135) (by decide)
  exact ⟨c.mf s.1, e, by rw [e]; exact s.2.1.2.2.1, c.i (by decide)⟩
theorem Sim.tp {h : PH} {B : Int} (s : Sim h B) : ph_T h 2 = 6 ∧ ph_T h 134 = 7 := ⟨s.2.1.1.1.1, s.1.1.1⟩
theorem c_sun {st : ST} {a b c e : Int} : sgC st (mSun st a b c e).2 := fun j h1 h2 => by
  unfold mSun
  split
  · show up _ _ _ _ = _
    rw [up_ne (by omega), up_ne (by omega), up_ne (by omega), up_ne (by omega)]
  · rfl
theorem c_storm {st : ST} {a b : Int} : sgC st (mStorm st a b).2 := fun j h1 h2 => by
  unfold mStorm
  split
  · show up _ _ _ _ = _
    rw [up_ne (by omega), up_ne (by omega)]
  · rfl
theorem c_key {st : ST} {a : Int} : sgC st (mKey st a).2 := fun j h1 h2 => by
  unfold mKey
  split
  · show up _ _ _ _ = _
    rw [up_ne (by omega)]
  · rfl
theorem c_stand {st : ST} {d w hh f : Int} : sgC st (mStand st d w hh f).2 := fun j h1 h2 => by
  unfold mStand
  split
  · rfl
  · next z =>
    split
    · show up _ _ _ _ = _
      rw [up_ne (by omega), up_ne (by omega), up_ne (by omega)]
    · rfl
theorem c_set {st : ST} {d wh n : Int} : sgC st (mSet st d wh n).2 := fun j h1 h2 => by
  unfold mSet
  split
  · rfl
  · next z =>
    split
    · rfl
    · split
      · rfl
      · show up _ _ _ _ = _
        by_cases y : wh = 0
        · rw [if_pos y, up_ne (by omega)]
        · rw [if_neg y, up_ne (by omega)]
theorem c_pass {st : ST} {nm bg : Int} (m : 0 ≤ st 484 ∧ st 484 ≤ 8) : sgC st (mPass st nm bg).2 := fun j h1 h2 => by
  unfold mPass
  split
  · rfl
  · split
    · rfl
    · split
      · rfl
      · show up _ _ _ _ = _
        rw [up_ne (by omega), up_ne (by omega), up_ne (by omega), up_ne (by omega), up_ne (by omega), up_ne (by omega)]
theorem c_point {st : ST} {nm sd hh : Int} (hS : OkS st) : sgC st (mPoint st nm sd hh).2 := fun j h1 h2 => by
  have m := hS.2.2.1
  have hp := pOf_b (st := st) nm m.1
  unfold mPoint
  split
  · rfl
  · next z =>
    have q := (hS.2.2.2.2 (pOf st nm) (by omega) (by omega)).2
    split
    · rfl
    · split
      · rfl
      · split
        · rfl
        · show up _ _ _ _ = _
          rw [up_ne (by omega), up_ne (by omega), up_ne (by omega)]
theorem c_drop {st : ST} {nm : Int} : sgC st (mDrop st nm).2 := fun j h1 h2 => by
  unfold mDrop
  split
  · rfl
  · show drA _ _ _ _ _ _ = _
    rw [drA_hi (by omega), up_ne (by omega)]
theorem op_pass (G : Gx) (l : Launch) {h : PH} {B : Int} (s : Sim h B) (B0 : B ≤ 800000000) {nm : Int} (gnm : pR nm) {bg : Int} (gbg : pR bg) : Op (CT_X6_pass G l [.inr 2, .inl nm, .inl bg] h) (fun h1 => CT_X7_pass G l [.inr 134, .inl nm, .inl bg] h1) h B := by
  refine ⟨_, fun h1 => pqM (mPass (ph_I h 135) nm bg) h1, ct_X6_pass _ _ _ s.2.1 gnm gbg, fun rr h1 q => ?_, both_M s (fun k => (c_pass s.2.1.2.2.1.2.2.1).lk k)⟩
  obtain ⟨m1, e1, e2, -⟩ := q.mid s
  refine ⟨m1.1.1, ?_⟩
  have := ct_X7_pass G l h1 gnm gbg m1 e2
  rw [e1] at this
  exact this
theorem op_point (G : Gx) (l : Launch) {h : PH} {B : Int} (s : Sim h B) (B0 : B ≤ 800000000) {nm : Int} (gnm : pR nm) {sd : Int} (gsd : pR sd) {hh : Int} (ghh : pR hh) : Op (CT_X6_point G l [.inr 2, .inl nm, .inl sd, .inl hh] h) (fun h1 => CT_X7_point G l [.inr 134, .inl nm, .inl sd, .inl hh] h1) h B := by
  refine ⟨_, fun h1 => pqM (mPoint (ph_I h 135) nm sd hh) h1, ct_X6_point _ _ _ s.2.1 gnm gsd ghh, fun rr h1 q => ?_, both_M s (fun k => (c_point s.2.1.2.2.1).lk k)⟩
  obtain ⟨m1, e1, e2, -⟩ := q.mid s
  refine ⟨m1.1.1, ?_⟩
  have := ct_X7_point G l h1 gnm gsd ghh m1 e2
  rw [e1] at this
  exact this
theorem op_drop (G : Gx) (l : Launch) {h : PH} {B : Int} (s : Sim h B) (B0 : B ≤ 800000000) {nm : Int} (gnm : pR nm) : Op (CT_X6_drop G l [.inr 2, .inl nm] h) (fun h1 => CT_X7_drop G l [.inr 134, .inl nm] h1) h B := by
  refine ⟨_, fun h1 => pqM (mDrop (ph_I h 135) nm) h1, ct_X6_drop _ _ _ s.2.1 gnm, fun rr h1 q => ?_, both_M s (fun k => c_drop.lk k)⟩
  obtain ⟨m1, e1, e2, -⟩ := q.mid s
  refine ⟨m1.1.1, ?_⟩
  have := ct_X7_drop G l h1 gnm m1 e2
  rw [e1] at this
  exact this
theorem op_stand (G : Gx) (l : Launch) {h : PH} {B : Int} (s : Sim h B) (B0 : B ≤ 800000000) {d : Int} (gd : pR d) {w : Int} (gw : pR w) {hh : Int} (ghh : pR hh) {f : Int} (gf : pR f) : Op (CT_X6_stand G l [.inr 2, .inl d, .inl w, .inl hh, .inl f] h) (fun h1 => CT_X7_stand G l [.inr 134, .inl d, .inl w, .inl hh, .inl f] h1) h B := by
  refine ⟨_, fun h1 => pqM (mStand (ph_I h 135) d w hh f) h1, ct_X6_stand _ _ _ s.2.1 gd gw ghh gf, fun rr h1 q => ?_, both_M s (fun k => c_stand.lk k)⟩
  obtain ⟨m1, e1, e2, -⟩ := q.mid s
  refine ⟨m1.1.1, ?_⟩
  have := ct_X7_stand G l h1 gd gw ghh gf m1 e2
  rw [e1] at this
  exact this
theorem op_set (G : Gx) (l : Launch) {h : PH} {B : Int} (s : Sim h B) (B0 : B ≤ 800000000) {d : Int} (gd : pR d) {wh : Int} (gwh : pR wh) {n : Int} (gn : pR n) : Op (CT_X6_set G l [.inr 2, .inl d, .inl wh, .inl n] h) (fun h1 => CT_X7_set G l [.inr 134, .inl d, .inl wh, .inl n] h1) h B := by
  refine ⟨_, fun h1 => pqM (mSet (ph_I h 135) d wh n) h1, ct_X6_set _ _ _ s.2.1 gd gwh gn, fun rr h1 q => ?_, both_M s (fun k => c_set.lk k)⟩
  obtain ⟨m1, e1, e2, -⟩ := q.mid s
  refine ⟨m1.1.1, ?_⟩
  have := ct_X7_set G l h1 gd gwh gn m1 e2
  rw [e1] at this
  exact this
theorem op_sun (G : Gx) (l : Launch) {h : PH} {B : Int} (s : Sim h B) (B0 : B ≤ 800000000) {a : Int} (ga : pR a) {b : Int} (gb : pR b) {c : Int} (gc : pR c) {e : Int} (ge : pR e) : Op (CT_X6_sun G l [.inr 2, .inl a, .inl b, .inl c, .inl e] h) (fun h1 => CT_X7_sun G l [.inr 134, .inl a, .inl b, .inl c, .inl e] h1) h B := by
  refine ⟨_, fun h1 => pqM (mSun (ph_I h 135) a b c e) h1, ct_X6_sun _ _ _ s.2.1 ga gb gc ge, fun rr h1 q => ?_, both_M s (fun k => c_sun.lk k)⟩
  obtain ⟨m1, e1, e2, -⟩ := q.mid s
  refine ⟨m1.1.1, ?_⟩
  have := ct_X7_sun G l h1 ga gb gc ge m1 e2
  rw [e1] at this
  exact this
theorem op_storm (G : Gx) (l : Launch) {h : PH} {B : Int} (s : Sim h B) (B0 : B ≤ 800000000) {a : Int} (ga : pR a) {b : Int} (gb : pR b) : Op (CT_X6_storm G l [.inr 2, .inl a, .inl b] h) (fun h1 => CT_X7_storm G l [.inr 134, .inl a, .inl b] h1) h B := by
  refine ⟨_, fun h1 => pqM (mStorm (ph_I h 135) a b) h1, ct_X6_storm _ _ _ s.2.1 ga gb, fun rr h1 q => ?_, both_M s (fun k => c_storm.lk k)⟩
  obtain ⟨m1, e1, e2, -⟩ := q.mid s
  refine ⟨m1.1.1, ?_⟩
  have := ct_X7_storm G l h1 ga gb m1 e2
  rw [e1] at this
  exact this
theorem op_key (G : Gx) (l : Launch) {h : PH} {B : Int} (s : Sim h B) (B0 : B ≤ 800000000) {a : Int} (ga : pR a) : Op (CT_X6_key G l [.inr 2, .inl a] h) (fun h1 => CT_X7_key G l [.inr 134, .inl a] h1) h B := by
  refine ⟨_, fun h1 => pqM (mKey (ph_I h 135) a) h1, ct_X6_key _ _ _ s.2.1 ga, fun rr h1 q => ?_, both_M s (fun k => c_key.lk k)⟩
  obtain ⟨m1, e1, e2, -⟩ := q.mid s
  refine ⟨m1.1.1, ?_⟩
  have := ct_X7_key G l h1 ga m1 e2
  rw [e1] at this
  exact this
theorem op_burnt (G : Gx) (l : Launch) {h : PH} {B : Int} (s : Sim h B) (B0 : B ≤ 800000000) {a : Int} (ga : pR a) {b : Int} (gb : pR b) {t : Int} (gt : pR t) : Op (CT_X6_burnt G l [.inr 2, .inl a, .inl b, .inl t] h) (fun h1 => CT_X7_burnt G l [.inr 134, .inl a, .inl b, .inl t] h1) h B := by
  refine ⟨_, fun h1 => pqI (mBurnt (ph_I h 135) a b t) h1, ct_X6_burnt _ _ _ s.2.1 ga gb gt, fun rr h1 q => ?_, both_I s⟩
  obtain ⟨m1, e1, e2, -⟩ := q.mid s
  refine ⟨m1.1.1, ?_⟩
  have := ct_X7_burnt G l h1 ga gb gt m1 e2
  rw [e1] at this
  exact this
theorem op_told (G : Gx) (l : Launch) {h : PH} {B : Int} (s : Sim h B) (B0 : B ≤ 800000000) {nm : Int} (gnm : pR nm) {wh : Int} (gwh : pR wh) : Op (CT_X6_told G l [.inr 2, .inl nm, .inl wh] h) (fun h1 => CT_X7_told G l [.inr 134, .inl nm, .inl wh] h1) h B := by
  refine ⟨_, fun h1 => pqI (mTold (ph_I h 135) nm wh) h1, ct_X6_told _ _ _ s.2.1 gnm gwh, fun rr h1 q => ?_, both_I s⟩
  obtain ⟨m1, e1, e2, -⟩ := q.mid s
  refine ⟨m1.1.1, ?_⟩
  have := ct_X7_told G l h1 gnm gwh m1 e2
  rw [e1] at this
  exact this
theorem op_order (G : Gx) (l : Launch) {h : PH} {B : Int} (s : Sim h B) (B0 : B ≤ 800000000) {a : Int} (ga : pR a) : Op (CT_X6_order G l [.inr 2, .inl a] h) (fun h1 => CT_X7_order G l [.inr 134, .inl a] h1) h B := by
  refine ⟨_, fun h1 => pqI (mOrder (ph_I h 135) a) h1, ct_X6_order _ _ _ s.2.1 ga, fun rr h1 q => ?_, both_I s⟩
  obtain ⟨m1, e1, e2, -⟩ := q.mid s
  refine ⟨m1.1.1, ?_⟩
  have := ct_X7_order G l h1 ga m1 e2
  rw [e1] at this
  exact this
theorem op_dish (G : Gx) (l : Launch) {h : PH} {B : Int} (s : Sim h B) (B0 : B ≤ 800000000) {d : Int} (gd : pR d) {wh : Int} (gwh : pR wh) : Op (CT_X6_dish G l [.inr 2, .inl d, .inl wh] h) (fun h1 => CT_X7_dish G l [.inr 134, .inl d, .inl wh] h1) h B := by
  refine ⟨_, fun h1 => pqI (mDish (ph_I h 135) d wh) h1, ct_X6_dish _ _ _ s.2.1 gd gwh, fun rr h1 q => ?_, both_I s⟩
  obtain ⟨m1, e1, e2, -⟩ := q.mid s
  refine ⟨m1.1.1, ?_⟩
  have := ct_X7_dish G l h1 gd gwh m1 e2
  rw [e1] at this
  exact this
theorem op_looked (G : Gx) (l : Launch) {h : PH} {B : Int} (s : Sim h B) (B0 : B ≤ 800000000) {a : Int} (ga : pR a) {b : Int} (gb : pR b) : Op (CT_X6_looked G l [.inr 2, .inl a, .inl b] h) (fun h1 => CT_X7_looked G l [.inr 134, .inl a, .inl b] h1) h B := by
  refine ⟨_, fun h1 => pqI (mLooked (ph_I h 135) a b) h1, ct_X6_looked _ _ _ s.2.1 ga gb, fun rr h1 q => ?_, both_I s⟩
  obtain ⟨m1, e1, e2, -⟩ := q.mid s
  refine ⟨m1.1.1, ?_⟩
  have := ct_X7_looked G l h1 ga gb m1 e2
  rw [e1] at this
  exact this
theorem op_offer (G : Gx) (l : Launch) {h : PH} {B : Int} (s : Sim h B) (B0 : B ≤ 800000000) {nm : Int} (gnm : pR nm) {wh : Int} (gwh : pR wh) : Op (CT_X6_offer G l [.inr 2, .inl nm, .inl wh] h) (fun h1 => CT_X7_offer G l [.inr 134, .inl nm, .inl wh] h1) h B := by
  refine ⟨_, fun h1 => pqS (mOffer (ph_I h 135) nm wh) h1, ct_X6_offer _ _ _ s.2.1 gnm gwh, fun rr h1 q => ?_, both_S s⟩
  obtain ⟨m1, e1, e2, -⟩ := q.mid s
  refine ⟨m1.1.1, ?_⟩
  have := ct_X7_offer G l h1 gnm gwh m1 e2
  rw [e1] at this
  exact this
theorem op_share (G : Gx) (l : Launch) {h : PH} {B : Int} (s : Sim h B) (B0 : B ≤ 800000000) {nm : Int} (gnm : pR nm) {one : Int} (gone : pR one) {oth : Int} (goth : pR oth) {wh : Int} (gwh : pR wh) : Op (CT_X6_share G l [.inr 2, .inl nm, .inl one, .inl oth, .inl wh] h) (fun h1 => CT_X7_share G l [.inr 134, .inl nm, .inl one, .inl oth, .inl wh] h1) h B := by
  refine ⟨_, fun h1 => pqS (mShare (ph_I h 135) nm one oth wh) h1, ct_X6_share _ _ _ s.2.1 gnm gone goth gwh, fun rr h1 q => ?_, both_S s⟩
  obtain ⟨m1, e1, e2, -⟩ := q.mid s
  refine ⟨m1.1.1, ?_⟩
  have := ct_X7_share G l h1 gnm gone goth gwh m1 e2
  rw [e1] at this
  exact this
theorem op_way (G : Gx) (l : Launch) {h : PH} {B : Int} (s : Sim h B) (B0 : B ≤ 800000000) {d : Int} (gd : pR d) {nm : Int} (gnm : pR nm) {wh : Int} (gwh : pR wh) : Op (CT_X6_way G l [.inr 2, .inl d, .inl nm, .inl wh] h) (fun h1 => CT_X7_way G l [.inr 134, .inl d, .inl nm, .inl wh] h1) h B := by
  refine ⟨_, fun h1 => pqA (WayAns (ph_I h 135) d nm wh) h1, ct_X6_way _ _ _ s.2.1 gd gnm gwh, fun rr h1 q => ?_, both_A s (fun v w a b => WayAns_u s.2.1.2.2.1 a b)⟩
  obtain ⟨m1, e1, e2, -⟩ := q.mid s
  refine ⟨m1.1.1, ?_⟩
  have := ct_X7_way G l h1 gd gnm gwh m1 e2
  rw [e1] at this
  exact this
theorem op_where (G : Gx) (l : Launch) {h : PH} {B : Int} (s : Sim h B) (B0 : B ≤ 800000000) {d : Int} (gd : pR d) {nm : Int} (gnm : pR nm) {t : Int} (gt : pR t) {wh : Int} (gwh : pR wh) : Op (CT_X6_where G l [.inr 2, .inl d, .inl nm, .inl t, .inl wh] h) (fun h1 => CT_X7_where G l [.inr 134, .inl d, .inl nm, .inl t, .inl wh] h1) h B := by
  refine ⟨_, fun h1 => pqA (WhereAns (ph_I h 135) d nm t wh) h1, ct_X6_where _ _ _ s.2.1 gd gnm gt gwh, fun rr h1 q => ?_, both_A s (fun v w a b => WhereAns_u s.2.1.2.2.1 a b)⟩
  obtain ⟨m1, e1, e2, -⟩ := q.mid s
  refine ⟨m1.1.1, ?_⟩
  have := ct_X7_where G l h1 gd gnm gt gwh m1 e2
  rw [e1] at this
  exact this
theorem op_count (G : Gx) (l : Launch) {h : PH} {B : Int} (s : Sim h B) (B0 : B ≤ 800000000) {wh : Int} (gwh : pR wh) : Op (CT_X6_count G l [.inr 2, .inl wh] h) (fun h1 => CT_X7_count G l [.inr 134, .inl wh] h1) h B := by
  have i0 := s.2.2.2.2 0 (by decide)
  have i1 := s.2.2.2.2 1 (by decide)
  have k0 : ph_I h 137 0 = 0 ∨ ph_I h 137 0 = 1 := i0.2.elim Or.inl (fun z => Or.inr z.1)
  have k1 : ph_I h 137 1 = 0 ∨ ph_I h 137 1 = 1 := i1.2.elim Or.inl (fun z => Or.inr z.1)
  have cx := ct_X6_count G l h s.2.1 gwh (by rw [i0.1]; exact k0) (by rw [i1.1]; exact k1)
  rw [i0.1, i1.1] at cx
  refine ⟨_, fun h1 => pqI (mCount (ph_I h 135) (ph_I h 137 0) (ph_I h 137 1) wh) h1, cx, fun rr h1 q => ?_, both_I s⟩
  obtain ⟨m1, e1, e2, e3⟩ := q.mid s
  refine ⟨m1.1.1, ?_⟩
  have := ct_X7_count G l h1 gwh m1 e2 (by rw [e3]; exact k0) (by rw [e3]; exact k1)
  rw [e1, e3] at this
  exact this
theorem op_take (G : Gx) (l : Launch) {h : PH} {B : Int} (s : Sim h B) (B0 : B ≤ 800000000) {d : Int} (gd : pR d) {nm : Int} (gnm : pR nm) : Op (CT_X6_take G l [.inr 2, .inl d, .inl nm] h) (fun h1 => CT_X7_take G l [.inr 134, .inl d, .inl nm] h1) h B := by
  refine ⟨_, fun h1 => pqT (TakeR (ph_I h 135) d nm) h1, ct_X6_take _ _ _ s.2.1 gd gnm s.2.2.1 (by omega), fun rr h1 q => ?_, both_T s (fun v t w u a b => TakeR_u s.2.1.2.2.1 a b) (fun v t a => (TakeR_r s.2.1.2.2.1 s.2.2.1 (by omega) a).2)⟩
  obtain ⟨m1, e1, e2, -⟩ := q.mid s
  refine ⟨m1.1.1, ?_⟩
  have := ct_X7_take G l h1 gd gnm m1 e2
  rw [e1] at this
  exact this
theorem op_round (G : Gx) (l : Launch) {h : PH} {B : Int} (s : Sim h B) (B0 : B ≤ 800000000) : Op (CT_X6_round G l [.inr 2] h) (fun h1 => CT_X7_round G l [.inr 134] h1) h B := by
  refine ⟨_, fun h1 => pqT (fun v st' => RnR 8 (ph_I h 135) (-1) (-6) st' v) h1, ct_X6_round _ _ _ s.2.1 s.2.2.1 (by omega), fun rr h1 q => ?_, both_T s (fun v t w u a b => ?_) (fun v t a => ?_)⟩
  · obtain ⟨m1, e1, e2, -⟩ := q.mid s
    refine ⟨m1.1.1, ?_⟩
    have := ct_X7_round G l h1 (B := B) m1 e2 (by rw [e1]; exact s.2.2.1) (by omega)
    unfold pqR at this
    rw [e1] at this
    exact this
  · have := RnR.uniq 8 s.2.1.2.2.1 s.2.2.1 (by omega) a b
    exact ⟨this.2, this.1⟩
  · have := (RnR.ok 8 s.2.1.2.2.1 s.2.2.1 (by omega) a).2.1
    exact this.mono (by omega)
theorem imR_img {M st : Nat → Int} {k : Int} (k0 : 0 ≤ k ∧ k ≤ 1) : Ag st (imR (imgF M st k 492) (Int.toNat k)) := fun j hj => by
  unfold imR
  rw [if_pos hj]
  unfold imgF
  rw [if_pos (by omega)]
  congr 1
  omega
theorem imR_oth {M st : Nat → Int} {k : Int} {i : Nat} (k0 : 0 ≤ k ∧ k ≤ 1) (hi : i < 2) (hk : i ≠ Int.toNat k) : imR (imgF M st k 492) i = imR M i := funext fun j => by
  unfold imR
  by_cases z : j < 492
  · rw [if_pos z, if_pos z]
    unfold imgF
    rw [if_neg (by omega)]
  · rw [if_neg z, if_neg z]
theorem imR_r {M : Nat → Int} {k : Nat} (h : ∀ j, pR (M j)) (j : Nat) : pR (imR M k j) := by
  unfold imR
  split
  · exact h _
  · unfold pR; decide
theorem op_image (G : Gx) (l : Launch) {h : PH} {B : Int} (s : Sim h B) (B0 : B ≤ 800000000) {k : Int} (gk : pR k) : Op (CT_X6_image G l [.inr 2, .inl k] h) (fun h1 => CT_X7_image G l [.inr 134, .inl k] h1) h B := by
  have hS := s.2.1.2.2.1
  have h2 := s.2.1.2.2.2.1
  refine ⟨_, fun h1 => pqImg h1 k, ct_X6_image _ _ _ s.2.1 gk, fun rr h1 q => ?_, fun rr h1 q => ?_⟩
  · rcases q with ⟨-, -, rfl⟩ | ⟨k0, -, f, -⟩
    · exact ⟨s.1.1.1, ct_X7_image G l h1 gk s.1⟩
    · suffices mm : MF h1 from ⟨mm.1.1, ct_X7_image G l h1 gk mm⟩
      have := s.1
      unfold MF at *
      simp only [f.T, f.L, f.R]
      exact this
  · rcases q with ⟨nk, rfl, rfl⟩ | ⟨k0, rfl, f, wi, v1, vo⟩
    · refine ⟨⟨_, rfl⟩, fun r2 h2' hm => ?_⟩
      rcases hm with ⟨-, rfl, rfl⟩ | ⟨k0, -, -⟩
      · exact ⟨⟨_, rfl, rfl⟩, sim_end s (CFr.rf _) s.2.1 (MdE.rf _) (s.2.2.1.mono (by omega))⟩
      · exact absurd k0 nk
    · refine ⟨⟨_, rfl⟩, fun r2 h2' hm => ?_⟩
      rcases hm with ⟨nk, -, -⟩ | ⟨-, rfl, rfl⟩
      · exact absurd k0 nk
      refine ⟨⟨_, rfl, rfl⟩, ?_⟩
      have i135 : ph_I h1 135 = ph_I h 135 := funext fun j => f.I (by omega) j
      have i136 : ph_I h1 136 = ph_I h 136 := funext fun j => f.I (by omega) j
      have i137 : ph_I h1 137 = ph_I h 137 := funext fun j => f.I (by omega) j
      have x2 : Fr (fun c => 134 ≤ c) h1 (ph_rowI (ph_rowI h1 136 (imgF (ph_I h1 136) (ph_I h1 135) k 492)) 137 (up (ph_I h1 137) (Int.toNat k) 1)) := ((Fr.rf (fun c => 134 ≤ c) h1).row (by decide) _).row (by decide) _
      have j135 : ph_I (ph_rowI (ph_rowI h1 136 (imgF (ph_I h1 136) (ph_I h1 135) k 492)) 137 (up (ph_I h1 137) (Int.toNat k) 1)) 135 = ph_I h 135 := funext fun j => by rw [rI_c (by decide), rI_c (by decide), i135]
      have j136 : ph_I (ph_rowI (ph_rowI h1 136 (imgF (ph_I h1 136) (ph_I h1 135) k 492)) 137 (up (ph_I h1 137) (Int.toNat k) 1)) 136 = imgF (ph_I h 136) (ph_I h 135) k 492 := funext fun j => by rw [rI_c (by decide), rI_eq, i136, i135]
      have j137 : ph_I (ph_rowI (ph_rowI h1 136 (imgF (ph_I h1 136) (ph_I h1 135) k 492)) 137 (up (ph_I h1 137) (Int.toNat k) 1)) 137 = up (ph_I h 137) (Int.toNat k) 1 := funext fun j => by rw [rI_eq, i137]
      have w1 := CW_img f (fun c hc => by omega) s.2.1
      have ag := imR_img (M := ph_I h 136) (st := ph_I h 135) k0
      have agr : ∀ j, pR (imR (imgF (ph_I h 136) (ph_I h 135) k 492) (Int.toNat k) j) := fun j => by
        by_cases z : j < 492
        · rw [ag j z]; exact hS.2.1 j
        · unfold imR; rw [if_neg z]; unfold pR; decide
      have hfx : XS h := s.2.1.1
      have wsx : ∀ i : Nat, i < 2 → WS h1 (38 + 33 * i) := fun i hi => by
        have hi2 : i = 0 ∨ i = 1 := by omega
        rcases hi2 with rfl | rfl
        · exact w1.1.2.2.1.2.1
        · exact w1.1.2.2.1.2.2
      refine ⟨?_, by rw [j135]; exact CW_hi x2 w1, by rw [j135]; exact s.2.2.1.mono (by omega), fun j => ?_, fun i hi => ?_⟩
      · have := s.1
        unfold MF at *
        simp only [x2.T, x2.L, x2.R, f.T, f.L, f.R]
        exact this
      · rw [j137]
        unfold up
        split
        · unfold pR; decide
        · exact s.2.2.2.1 j
      · rw [j136, j137, x2.I (by omega)]
        by_cases z : i = Int.toNat k
        · rw [z, up_eq, v1]
          refine ⟨rfl, Or.inr ⟨rfl, ?_, ag.ok agr hS, ag.ok2 hS h2, ag.lk (s.2.2.1.mono (by omega))⟩⟩
          exact WR_congr (wsx _ (by omega)) (ag.ok agr hS).2.2.1.2 (fun j => x2.R _ j) (fun e a b j => x2.I (by omega) j) (ag.wr hS wi)
        · rw [up_ne z, vo i z, imR_oth k0 hi z]
          have y := s.2.2.2.2 i hi
          refine ⟨y.1, ?_⟩
          rcases y.2 with y2 | ⟨y1, y2, y3, y4, y5⟩
          · exact Or.inl y2
          · refine Or.inr ⟨y1, ?_, y3, y4, y5.mono (by omega)⟩
            have ws0 : WS h (38 + 33 * i) := by
              have hi2 : i = 0 ∨ i = 1 := by omega
              rcases hi2 with rfl | rfl
              · exact hfx.2.2.1.2.1
              · exact hfx.2.2.1.2.2
            exact WR_congr (wsx i hi) y3.2.2.1.2 (fun j => x2.R _ j) (fun e a b j => x2.I (by omega) j) (WR_congr ws0 y3.2.2.1.2 (fun j => f.R _ j) (fun e a b j => f.I (by omega) j) y2)
theorem res_ag {M st : Nat → Int} {i : Nat} : Ag (imR M i) (resF M st (i : Int) 492) := fun j hj => by
  unfold resF imR
  rw [if_pos hj, if_pos hj]
  first | (congr 1; done) | (congr 1 <;> omega)
theorem res_r {M st : Nat → Int} {i : Nat} (h1 : ∀ j, pR (imR M i j)) (h2 : ∀ j, pR (st j)) (j : Nat) : pR (resF M st (i : Int) 492 j) := by
  by_cases z : j < 492
  · rw [res_ag j z]; exact h1 j
  · unfold resF; rw [if_neg z]; exact h2 j
theorem op_restore (G : Gx) (l : Launch) {h : PH} {B : Int} (s : Sim h B) (B0 : B ≤ 800000000) {k : Int} (gk : pR k) : Op (CT_X6_restore G l [.inr 2, .inl k] h) (fun h1 => CT_X7_restore G l [.inr 134, .inl k] h1) h B := by
  have hS := s.2.1.2.2.1
  have hk : ∀ j : Nat, j < 2 → ph_I h 37 j = 0 ∨ (ph_I h 37 j = 1 ∧ WR h (38 + 33 * j) ((fun i => resF (ph_I h 136) (ph_I h 135) ((i : Nat) : Int) 492) j) ∧ OkS ((fun i => resF (ph_I h 136) (ph_I h 135) ((i : Nat) : Int) 492) j) ∧ Ok2 ((fun i => resF (ph_I h 136) (ph_I h 135) ((i : Nat) : Int) 492) j)) := fun j hj => by
    have y := s.2.2.2.2 j hj
    rw [y.1]
    rcases y.2 with z | ⟨z1, z2, z3, z4, -⟩
    · exact Or.inl z
    · exact Or.inr ⟨z1, res_ag.wr z3 z2, res_ag.ok (res_r z3.2.1 hS.2.1) z3, res_ag.ok2 z3 z4⟩
  refine ⟨_, fun h1 => pqRes h1 k, ct_X6_restore _ _ _ s.2.1 gk hk, fun rr h1 q => ?_, fun rr h1 q => ?_⟩
  · obtain ⟨m1, e1, e2, e3⟩ := q.mid s
    refine ⟨m1.1.1, ?_⟩
    exact ct_X7_restore G l h1 gk m1 (by rw [e3]; exact s.2.2.2.1)
  · obtain ⟨v, st', rfl, a, w, c⟩ := q
    have i135 : ph_I h1 135 = ph_I h 135 := c.i (by decide)
    have i136 : ph_I h1 136 = ph_I h 136 := c.i (by decide)
    have i137 : ph_I h1 137 = ph_I h 137 := c.i (by decide)
    refine ⟨⟨v, rfl⟩, fun r2 h2' hm => ?_⟩
    have md : MdE h1 h1 (ph_I h 135) := by rw [← i135]; exact MdE.rf h1
    rcases a with ⟨nk, rfl, rfl⟩ | ⟨k0, kz, rfl, rfl⟩ | ⟨k0, kz, rfl, rfl⟩
    · rcases hm with ⟨-, rfl, rfl⟩ | ⟨k0, -⟩ | ⟨k0, -⟩
      · exact ⟨⟨_, rfl, rfl⟩, sim_end s c w md (s.2.2.1.mono (by omega))⟩
      · exact absurd k0 nk
      · exact absurd k0 nk
    · have y := (s.2.2.2.2 (Int.toNat k) (by omega)).1
      rcases hm with ⟨nk, -⟩ | ⟨-, -, rfl, rfl⟩ | ⟨-, z, -⟩
      · exact absurd k0 nk
      · exact ⟨⟨_, rfl, rfl⟩, sim_end s c w md (s.2.2.1.mono (by omega))⟩
      · rw [i137, ← y] at z; exact absurd kz z
    · have y := s.2.2.2.2 (Int.toNat k) (by omega)
      have ek : ((Int.toNat k : Nat) : Int) = k := by omega
      rcases hm with ⟨nk, -⟩ | ⟨-, z, -⟩ | ⟨-, z, rfl, rfl⟩
      · exact absurd k0 nk
      · rw [i137, ← y.1] at z; exact absurd z kz
      refine ⟨⟨_, rfl, rfl⟩, ?_⟩
      rw [i135, i136]
      have w' : CW h1 (resF (ph_I h 136) (ph_I h 135) k 492) := by
        have : CW h1 (resF (ph_I h 136) (ph_I h 135) ((Int.toNat k : Nat) : Int) 492) := w
        rw [ek] at this
        exact this
      have kne : ph_I h 137 (Int.toNat k) ≠ 0 := by rw [← y.1]; exact kz
      rcases y.2 with z0 | ⟨z1, z2, z3, z4, z5⟩
      · exact absurd z0 kne
      have lk : LkB (resF (ph_I h 136) (ph_I h 135) k 492) B := by
        have := (res_ag (st := ph_I h 135)).lk z5
        rw [ek] at this
        exact this
      exact sim_end s c w' (MdE.of (Scr.rf h1)) (lk.mono (by omega))
