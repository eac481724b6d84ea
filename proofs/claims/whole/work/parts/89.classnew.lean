/-! the class made -/
def Kp (n : Nat) (h1 h2 : PH) : Prop := ∀ e, e < n → (ph_T h2 e = ph_T h1 e ∧ ph_L h2 e = ph_L h1 e) ∧ (∀ k, ph_I h2 e k = ph_I h1 e k) ∧ ((e ≠ 2 ∧ e ≠ 36) → ∀ k, ph_R h2 e k = ph_R h1 e k)
theorem Kp.tr {n m : Nat} {a b c : PH} (x : Kp n a b) (y : Kp m b c) (h : n ≤ m) : Kp n a c := fun e he => ⟨⟨((y e (by omega)).1.1).trans (x e he).1.1, ((y e (by omega)).1.2).trans (x e he).1.2⟩, fun k => ((y e (by omega)).2.1 k).trans ((x e he).2.1 k), fun z k => ((y e (by omega)).2.2 z k).trans ((x e he).2.2 z k)⟩
theorem Kp.new (h : PH) (t n : Nat) : Kp (h.1 + 2) h (ph_new h t n) := fun e he => ⟨⟨nT_o (by omega), nL_o (by omega)⟩, fun k => nI_o (by omega), fun _ k => nR_o (by omega)⟩
theorem Kp.set (n : Nat) (h : PH) {c : Nat} (hc : c = 2 ∨ c = 36) (k r : Nat) : Kp n h (ph_setR h c k r) := fun e he => ⟨⟨rfl, rfl⟩, fun _ => rfl, fun z j => sR_c (by omega)⟩
theorem Kp.gr {c n : Nat} {h h' : PH} (g : GrE c h h' n) (hc : c = h.1 + 1) : Kp (h.1 + 1) h h' := fun e he => ⟨g.2.1 e (by omega), (g.2.2 e (by omega) (by omega)).1, fun _ => (g.2.2 e (by omega) (by omega)).2⟩
theorem Kp.ws {n b : Nat} {h h' : PH} (x : Kp n h h') (hb : b + 33 ≤ n) (h3 : 3 ≤ b) (hd : b + 33 ≤ 36 ∨ 36 < b) (f : WS h b) : WS h' b := WS_loc (fun e e0 e1 => ⟨(x e (by omega)).1, (x e (by omega)).2.2 ⟨by omega, by omega⟩⟩) f
theorem Kp.wr {n b : Nat} {h h' : PH} (x : Kp n h h') (hb : b + 33 ≤ n) (h3 : 3 ≤ b) (hd : b + 33 ≤ 36 ∨ 36 < b) (w : WS h b) (f : WR h b iniS) : WR h' b iniS := WR_congr w (by decide) (fun k => (x (b + 1) (by omega)).2.2 ⟨by omega, by omega⟩ k) (fun e e0 e1 k => (x e (by omega)).2.1 k) f
set_option maxHeartbeats 8000000 in
theorem ct_X6_init (G : Gx) (l : Launch) (h : PH) (h1 : h.1 = 1) (tc : ph_T h 2 = 6) : CT_X6_init G l [.inr 2] h (fun rr h' => rr = none ∧ h'.1 = 132 ∧ XS h' ∧ WR h' 3 iniS ∧ (∀ k, ph_I h' 37 k = 0) ∧ ∀ d : Nat, d < 4 → ph_I h' (110 + 6 * d) 5 = -6 ∧ ph_I h' (110 + 6 * d) 7 = 0) := by
  refine ct_intro rfl (Nat.le_of_ble_eq_true rfl) (fun X hX C => ?_)
  refine B_X6_init_0 C (hk2 := by omega) (hn3 := by omega) (S := []) (kk := ?_)
  have es1 : ph_S h + 2 = 3 := by show h.1 + 2 = 3; omega
  rw [es1]
  have Nha : ∃ ha, ha = ph_new h 5 5 := ⟨_, rfl⟩
  obtain ⟨ha, eha⟩ := Nha
  rw [← eha]
  have sa : ha.1 = 2 := by rw [eha]; show h.1 + 1 = 2; omega
  have ta2 : ph_T ha 2 = 6 := by rw [eha, nT_o (by omega)]; exact tc
  have ta3 : ph_T ha 3 = 5 := by rw [eha, nT_e (by omega)]
  clear eha
  refine B_X6_init_8 C (hM := ct_X5_init _ _ ha (c := 3) (by omega) (by omega) ta3) (hkc := by omega) (hnc := by omega) (kk := fun rr hb hq => ?_)
  obtain ⟨rfl, gb, wsb, wrb⟩ := hq
  have sb : hb.1 = 34 := by have := gb.1; omega
  have tb2 : ph_T hb 2 = 6 := by rw [(gb.2.1 2 (by omega)).1]; exact ta2
  clear gb
  refine B_X6_init_12 C (hk2 := by omega) (hn3 := by omega) (t1 := tb2) (kk := ?_)
  have es2 : ph_S (ph_setR hb 2 0 3) + 2 = 36 := by show hb.1 + 2 = 36; omega
  rw [es2]
  have Nhc : ∃ hc, hc = ph_new (ph_setR hb 2 0 3) 13 2 := ⟨_, rfl⟩
  obtain ⟨hc, ehc⟩ := Nhc
  rw [← ehc]
  have sc : hc.1 = 35 := by rw [ehc]; show hb.1 + 1 = 35; omega
  have kc : Kp 36 hb hc := by
    rw [ehc]
    have := (Kp.set 36 hb (Or.inl rfl) 0 3).tr (Kp.new (ph_setR hb 2 0 3) 13 2) (by show 36 ≤ hb.1 + 2; omega)
    exact this
  have tc2 : ph_T hc 2 = 6 := by rw [(kc 2 (by omega)).1.1]; exact tb2
  have rc20 : ph_R hc 2 0 = 3 := by rw [ehc, nR_o (by show 2 ≠ hb.1 + 2; omega), sR_eq]
  have tc36 : ph_T hc 36 = 13 ∧ ph_L hc 36 = 2 := by rw [ehc, nT_e (by show 36 = hb.1 + 2; omega), nL_e (by show 36 = hb.1 + 2; omega)]; exact ⟨rfl, rfl⟩
  have wsc : WS hc 3 := kc.ws (by omega) (by omega) (by omega) wsb
  have wrc : WR hc 3 iniS := kc.wr (by omega) (by omega) (by omega) wsb wrb
  clear ehc kc
  refine B_X6_init_20 C (hk2 := by omega) (hn3 := by omega) (t1 := tc2) (kk := ?_)
  have es3 : ph_S (ph_setR hc 2 1 36) + 2 = 37 := by show hc.1 + 2 = 37; omega
  rw [es3]
  have Nhd : ∃ hd, hd = ph_new (ph_setR hc 2 1 36) 9 2 := ⟨_, rfl⟩
  obtain ⟨hd, ehd⟩ := Nhd
  rw [← ehd]
  have sd : hd.1 = 36 := by rw [ehd]; show hc.1 + 1 = 36; omega
  have kd : Kp 37 hc hd := by
    rw [ehd]
    exact (Kp.set 37 hc (Or.inl rfl) 1 36).tr (Kp.new (ph_setR hc 2 1 36) 9 2) (by show 37 ≤ hc.1 + 2; omega)
  have td2 : ph_T hd 2 = 6 := by rw [(kd 2 (by omega)).1.1]; exact tc2
  have rd20 : ph_R hd 2 0 = 3 := by rw [ehd, nR_o (by show 2 ≠ hc.1 + 2; omega), sR_k (by decide)]; exact rc20
  have rd21 : ph_R hd 2 1 = 36 := by rw [ehd, nR_o (by show 2 ≠ hc.1 + 2; omega), sR_eq]
  have td36 : ph_T hd 36 = 13 ∧ ph_L hd 36 = 2 := by rw [(kd 36 (by omega)).1.1, (kd 36 (by omega)).1.2]; exact tc36
  have td37 : ph_T hd 37 = 9 ∧ ph_L hd 37 = 2 := by rw [ehd, nT_e (by show 37 = hc.1 + 2; omega), nL_e (by show 37 = hc.1 + 2; omega)]; exact ⟨rfl, rfl⟩
  have id37 : ∀ k, ph_I hd 37 k = 0 := fun k => by rw [ehd, nI_e (by show 37 = hc.1 + 2; omega)]
  have wsd : WS hd 3 := kd.ws (by omega) (by omega) (by omega) wsc
  have wrd : WR hd 3 iniS := kd.wr (by omega) (by omega) (by omega) wsc wrc
  clear ehd kd
  refine B_X6_init_27 C (t1 := td2) (kk := ?_)
  have Ne : ∃ he, he = ph_setR hd 2 2 37 := ⟨_, rfl⟩
  obtain ⟨he, ehe⟩ := Ne
  rw [← ehe]
  have se : he.1 = 36 := by rw [ehe]; exact sd
  have ke : Kp 38 hd he := by rw [ehe]; exact Kp.set 38 hd (Or.inl rfl) 2 37
  have te2 : ph_T he 2 = 6 := by rw [(ke 2 (by omega)).1.1]; exact td2
  have re20 : ph_R he 2 0 = 3 := by rw [ehe, sR_k (by decide)]; exact rd20
  have re21 : ph_R he 2 1 = 36 := by rw [ehe, sR_k (by decide)]; exact rd21
  have re22 : ph_R he 2 2 = 37 := by rw [ehe, sR_eq]
  have te36 : ph_T he 36 = 13 ∧ ph_L he 36 = 2 := by rw [(ke 36 (by omega)).1.1, (ke 36 (by omega)).1.2]; exact td36
  have te37 : ph_T he 37 = 9 ∧ ph_L he 37 = 2 := by rw [(ke 37 (by omega)).1.1, (ke 37 (by omega)).1.2]; exact td37
  have ie37 : ∀ k, ph_I he 37 k = 0 := fun k => by rw [(ke 37 (by omega)).2.1]; exact id37 k
  have wse : WS he 3 := ke.ws (by omega) (by omega) (by omega) wsd
  have wre : WR he 3 iniS := ke.wr (by omega) (by omega) (by omega) wsd wrd
  clear ehe ke
  refine B_X6_init_32 C (kt := fun c1 => absurd c1 (by decide)) (kf := fun c1 => ?_)
  refine B_X6_init_37 C (hk4 := by omega) (hn5 := by omega) (t1 := te2) (r2 := 36) (e3 := re21) (kk := ?_)
  have esf : ph_S he + 2 = 38 := by show he.1 + 2 = 38; omega
  rw [esf]
  have Nhf : ∃ hf, hf = ph_new he 5 5 := ⟨_, rfl⟩
  obtain ⟨hf, ehf⟩ := Nhf
  rw [← ehf]
  have sf : hf.1 = 37 := by rw [ehf]; show he.1 + 1 = 37; omega
  have kf : Kp 38 he hf := by
    rw [ehf]
    have := Kp.new he 5 5
    rw [se] at this
    exact this
  have tf38 : ph_T hf 38 = 5 := by rw [ehf, nT_e (by omega)]
  have rf20 : ph_R hf 2 0 = 3 := by rw [ehf, nR_o (by omega)]; exact re20
  have rf21 : ph_R hf 2 1 = 36 := by rw [ehf, nR_o (by omega)]; exact re21
  have rf22 : ph_R hf 2 2 = 37 := by rw [ehf, nR_o (by omega)]; exact re22
  clear ehf
  refine B_X6_init_45 C (hM := ct_X5_init _ _ hf (c := 38) (by omega) (by omega) tf38) (hkc := by omega) (hnc := by omega) (kk := fun rr hg hq => ?_)
  obtain ⟨rfl, gg, wsg38, -⟩ := hq
  have sg : hg.1 = 69 := by have := gg.1; omega
  have kg : Kp 38 he hg := by
    have := Kp.gr gg (by omega)
    rw [sf] at this
    exact kf.tr this (by omega)
  have rg20 : ph_R hg 2 0 = 3 := by rw [(gg.2.2 2 (by omega) (by omega)).2]; exact rf20
  have rg21 : ph_R hg 2 1 = 36 := by rw [(gg.2.2 2 (by omega) (by omega)).2]; exact rf21
  have rg22 : ph_R hg 2 2 = 37 := by rw [(gg.2.2 2 (by omega) (by omega)).2]; exact rf22
  have tg2 : ph_T hg 2 = 6 := by rw [(kg 2 (by omega)).1.1]; exact te2
  have tg36 : ph_T hg 36 = 13 ∧ ph_L hg 36 = 2 := by rw [(kg 36 (by omega)).1.1, (kg 36 (by omega)).1.2]; exact te36
  have tg37 : ph_T hg 37 = 9 ∧ ph_L hg 37 = 2 := by rw [(kg 37 (by omega)).1.1, (kg 37 (by omega)).1.2]; exact te37
  have ig37 : ∀ k, ph_I hg 37 k = 0 := fun k => by rw [(kg 37 (by omega)).2.1]; exact ie37 k
  have wsg : WS hg 3 := kg.ws (by omega) (by omega) (by omega) wse
  have wrg : WR hg 3 iniS := kg.wr (by omega) (by omega) (by omega) wse wre
  have tg38 : ph_T hg 38 = 5 := wsg38.1.1
  clear gg kg kf
  refine B_X6_init_49 C (t1 := tg36.1) (t2 := tg38) (m6 := 13) (m6v := 5) (q4 := by rw [tg36.2]; decide) (kk := ?_)
  have Nh : ∃ hh, hh = ph_setR hg 36 (Int.toNat 0) 38 := ⟨_, rfl⟩
  obtain ⟨hh, ehh⟩ := Nh
  rw [← ehh]
  have sh : hh.1 = 69 := by rw [ehh]; exact sg
  have kh : Kp 71 hg hh := by rw [ehh]; exact Kp.set 71 hg (Or.inr rfl) _ _
  have rh20 : ph_R hh 2 0 = 3 := by rw [ehh, sR_c (by decide)]; exact rg20
  have rh21 : ph_R hh 2 1 = 36 := by rw [ehh, sR_c (by decide)]; exact rg21
  have rh22 : ph_R hh 2 2 = 37 := by rw [ehh, sR_c (by decide)]; exact rg22
  have rh360 : ph_R hh 36 0 = 38 := by rw [ehh]; exact sR_eq
  have th2 : ph_T hh 2 = 6 := by rw [(kh 2 (by omega)).1.1]; exact tg2
  have th36 : ph_T hh 36 = 13 ∧ ph_L hh 36 = 2 := by rw [(kh 36 (by omega)).1.1, (kh 36 (by omega)).1.2]; exact tg36
  have th37 : ph_T hh 37 = 9 ∧ ph_L hh 37 = 2 := by rw [(kh 37 (by omega)).1.1, (kh 37 (by omega)).1.2]; exact tg37
  have ih37 : ∀ k, ph_I hh 37 k = 0 := fun k => by rw [(kh 37 (by omega)).2.1]; exact ig37 k
  have wsh : WS hh 3 := kh.ws (by omega) (by omega) (by omega) wsg
  have wrh : WR hh 3 iniS := kh.wr (by omega) (by omega) (by omega) wsg wrg
  have wsh38 : WS hh 38 := kh.ws (by omega) (by omega) (by omega) wsg38
  clear ehh kh
  have o1 : (0 : Int) + 1 = 1 := rfl
  rw [o1]
  refine B_X6_init_32 C (kt := fun c1 => absurd c1 (by decide)) (kf := fun c1 => ?_)
  refine B_X6_init_37 C (hk4 := by omega) (hn5 := by omega) (t1 := th2) (r2 := 36) (e3 := rh21) (kk := ?_)
  have esi : ph_S hh + 2 = 71 := by show hh.1 + 2 = 71; omega
  rw [esi]
  have Nhi : ∃ hi, hi = ph_new hh 5 5 := ⟨_, rfl⟩
  obtain ⟨hi, ehi⟩ := Nhi
  rw [← ehi]
  have si : hi.1 = 70 := by rw [ehi]; show hh.1 + 1 = 70; omega
  have ki : Kp 71 hh hi := by
    rw [ehi]
    have := Kp.new hh 5 5
    rw [sh] at this
    exact this
  have ti71 : ph_T hi 71 = 5 := by rw [ehi, nT_e (by omega)]
  have ri20 : ph_R hi 2 0 = 3 := by rw [ehi, nR_o (by omega)]; exact rh20
  have ri21 : ph_R hi 2 1 = 36 := by rw [ehi, nR_o (by omega)]; exact rh21
  have ri22 : ph_R hi 2 2 = 37 := by rw [ehi, nR_o (by omega)]; exact rh22
  have ri360 : ph_R hi 36 0 = 38 := by rw [ehi, nR_o (by omega)]; exact rh360
  clear ehi
  refine B_X6_init_45 C (hM := ct_X5_init _ _ hi (c := 71) (by omega) (by omega) ti71) (hkc := by omega) (hnc := by omega) (kk := fun rr hj hq => ?_)
  obtain ⟨rfl, gj, wsj71, -⟩ := hq
  have sj : hj.1 = 102 := by have := gj.1; omega
  have kj : Kp 71 hh hj := by
    have := Kp.gr gj (by omega)
    rw [si] at this
    exact ki.tr this (by omega)
  have rj20 : ph_R hj 2 0 = 3 := by rw [(gj.2.2 2 (by omega) (by omega)).2]; exact ri20
  have rj21 : ph_R hj 2 1 = 36 := by rw [(gj.2.2 2 (by omega) (by omega)).2]; exact ri21
  have rj22 : ph_R hj 2 2 = 37 := by rw [(gj.2.2 2 (by omega) (by omega)).2]; exact ri22
  have rj360 : ph_R hj 36 0 = 38 := by rw [(gj.2.2 36 (by omega) (by omega)).2]; exact ri360
  have tj2 : ph_T hj 2 = 6 := by rw [(kj 2 (by omega)).1.1]; exact th2
  have tj36 : ph_T hj 36 = 13 ∧ ph_L hj 36 = 2 := by rw [(kj 36 (by omega)).1.1, (kj 36 (by omega)).1.2]; exact th36
  have tj37 : ph_T hj 37 = 9 ∧ ph_L hj 37 = 2 := by rw [(kj 37 (by omega)).1.1, (kj 37 (by omega)).1.2]; exact th37
  have ij37 : ∀ k, ph_I hj 37 k = 0 := fun k => by rw [(kj 37 (by omega)).2.1]; exact ih37 k
  have wsj : WS hj 3 := kj.ws (by omega) (by omega) (by omega) wsh
  have wrj : WR hj 3 iniS := kj.wr (by omega) (by omega) (by omega) wsh wrh
  have wsj38 : WS hj 38 := kj.ws (by omega) (by omega) (by omega) wsh38
  have tj71 : ph_T hj 71 = 5 := wsj71.1.1
  clear gj kj ki
  refine B_X6_init_49 C (t1 := tj36.1) (t2 := tj71) (m6 := 13) (m6v := 5) (q4 := by rw [tj36.2]; decide) (kk := ?_)
  have Nk : ∃ hk, hk = ph_setR hj 36 (Int.toNat 1) 71 := ⟨_, rfl⟩
  obtain ⟨hk, ehk⟩ := Nk
  rw [← ehk]
  have sk : hk.1 = 102 := by rw [ehk]; exact sj
  have kk : Kp 104 hj hk := by rw [ehk]; exact Kp.set 104 hj (Or.inr rfl) _ _
  have rk20 : ph_R hk 2 0 = 3 := by rw [ehk, sR_c (by decide)]; exact rj20
  have rk21 : ph_R hk 2 1 = 36 := by rw [ehk, sR_c (by decide)]; exact rj21
  have rk22 : ph_R hk 2 2 = 37 := by rw [ehk, sR_c (by decide)]; exact rj22
  have rk360 : ph_R hk 36 0 = 38 := by rw [ehk, sR_k (by decide)]; exact rj360
  have rk361 : ph_R hk 36 1 = 71 := by rw [ehk]; exact sR_eq
  have tk2 : ph_T hk 2 = 6 := by rw [(kk 2 (by omega)).1.1]; exact tj2
  have tk36 : ph_T hk 36 = 13 ∧ ph_L hk 36 = 2 := by rw [(kk 36 (by omega)).1.1, (kk 36 (by omega)).1.2]; exact tj36
  have tk37 : ph_T hk 37 = 9 ∧ ph_L hk 37 = 2 := by rw [(kk 37 (by omega)).1.1, (kk 37 (by omega)).1.2]; exact tj37
  have ik37 : ∀ k, ph_I hk 37 k = 0 := fun k => by rw [(kk 37 (by omega)).2.1]; exact ij37 k
  have wsk : WS hk 3 := kk.ws (by omega) (by omega) (by omega) wsj
  have wrk : WR hk 3 iniS := kk.wr (by omega) (by omega) (by omega) wsj wrj
  have wsk38 : WS hk 38 := kk.ws (by omega) (by omega) (by omega) wsj38
  have wsk71 : WS hk 71 := kk.ws (by omega) (by omega) (by omega) wsj71
  clear ehk kk
  have o2 : (1 : Int) + 1 = 2 := rfl
  rw [o2]
  refine B_X6_init_32 C (kt := fun c1 => ?_) (kf := fun c1 => absurd (Int.le_refl 2) c1)
  refine B_X6_init_56 C (hk1 := by omega) (hn2 := by omega) (kk := ?_)
  have esl : ph_S hk + 2 = 104 := by show hk.1 + 2 = 104; omega
  rw [esl]
  have Nhl : ∃ hl, hl = ph_new hk 2 11 := ⟨_, rfl⟩
  obtain ⟨hl, ehl⟩ := Nhl
  rw [← ehl]
  have sl : hl.1 = 103 := by rw [ehl]; show hk.1 + 1 = 103; omega
  have kl : Kp 104 hk hl := by
    rw [ehl]
    have := Kp.new hk 2 11
    rw [sk] at this
    exact this
  have tl104 : ph_T hl 104 = 2 := by rw [ehl, nT_e (by omega)]
  have rl2 : ∀ k, ph_R hl 2 k = ph_R hk 2 k := fun k => by rw [ehl, nR_o (by omega)]
  have rl36 : ∀ k, ph_R hl 36 k = ph_R hk 36 k := fun k => by rw [ehl, nR_o (by omega)]
  clear ehl
  have tl2 : ph_T hl 2 = 6 := by rw [(kl 2 (by omega)).1.1]; exact tk2
  have rl20 : ph_R hl 2 0 = 3 := by rw [rl2]; exact rk20
  have wsl : WS hl 3 := kl.ws (by omega) (by omega) (by omega) wsk
  refine B_X6_init_60 C (t1 := tl2) (r2 := 3) (e3 := rl20) (hM := ct_X2_init _ _ hl (c := 104) (w := 3) (by omega) (by omega) tl104 wsl (by omega)) (hkc := by omega) (hnc := by omega) (kk := fun rr hm hq => ?_)
  obtain ⟨rfl, gm, ⟨m0, m1, m2, m3, m4, m5⟩, ⟨n1, n2, n3, n4, n5⟩, mw⟩ := hq
  have sm : hm.1 = 132 := by have := gm.1; omega
  have km : Kp 104 hk hm := by
    have := Kp.gr gm (by omega)
    rw [sl] at this
    exact kl.tr this (by omega)
  have tm104 : ph_T hm 104 = 2 := by rw [(gm.2.1 104 (by omega)).1]; exact tl104
  have rm2 : ∀ k, ph_R hm 2 k = ph_R hk 2 k := fun k => by rw [(gm.2.2 2 (by omega) (by omega)).2]; exact rl2 k
  have rm36 : ∀ k, ph_R hm 36 k = ph_R hk 36 k := fun k => by rw [(gm.2.2 36 (by omega) (by omega)).2]; exact rl36 k
  have tm2 : ph_T hm 2 = 6 := by rw [(km 2 (by omega)).1.1]; exact tk2
  have tm36 : ph_T hm 36 = 13 ∧ ph_L hm 36 = 2 := by rw [(km 36 (by omega)).1.1, (km 36 (by omega)).1.2]; exact tk36
  have tm37 : ph_T hm 37 = 9 ∧ ph_L hm 37 = 2 := by rw [(km 37 (by omega)).1.1, (km 37 (by omega)).1.2]; exact tk37
  have im37 : ∀ k, ph_I hm 37 k = 0 := fun k => by rw [(km 37 (by omega)).2.1]; exact ik37 k
  have wsm : WS hm 3 := km.ws (by omega) (by omega) (by omega) wsk
  have wrm : WR hm 3 iniS := km.wr (by omega) (by omega) (by omega) wsk wrk
  have wsm38 : WS hm 38 := km.ws (by omega) (by omega) (by omega) wsk38
  have wsm71 : WS hm 71 := km.ws (by omega) (by omega) (by omega) wsk71
  have kz : Kp 134 hm (ph_setR hm 2 3 104) := Kp.set 134 hm (Or.inl rfl) 3 104
  refine B_X6_init_68 C (t1 := tm2) (hq := ⟨rfl, sm, ⟨⟨tm2, ?_, ?_, ?_, sR_eq⟩, ⟨tm36.1, tm36.2, ?_, ?_, tm37.1, tm37.2⟩, ⟨kz.ws (by omega) (by omega) (by omega) wsm, kz.ws (by omega) (by omega) (by omega) wsm38, kz.ws (by omega) (by omega) (by omega) wsm71⟩, ⟨tm104, m0, m1, m2, m3, Or.inl ⟨m4, m5⟩⟩, ⟨n1.1, n1.2, n2.1, n3.1, n4.1, n5.1, n2.2, n3.2, n4.2, n5.2⟩, fun d hd => ?_⟩, kz.wr (by omega) (by omega) (by omega) wsm wrm, im37, fun d hd => (mw d hd).2.2⟩)
  · rw [sR_k (by decide), rm2]; exact rk20
  · rw [sR_k (by decide), rm2]; exact rk21
  · rw [sR_k (by decide), rm2]; exact rk22
  · rw [sR_c (by decide), rm36]; exact rk360
  · rw [sR_c (by decide), rm36]; exact rk361
  · obtain ⟨y1, y2, -, -⟩ := mw d hd
    have ee : 104 + 6 + 6 * d = 110 + 6 * d := by omega
    rw [ee] at y1 y2
    exact ⟨y1, YS_loc (h := hm) (fun e e0 e1 => ⟨⟨rfl, rfl⟩, fun k => sR_c (by omega)⟩) y2⟩
