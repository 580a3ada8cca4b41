/-! THE LAW'S CASES: class and model answer alike, and go to the same state -/
set_option maxRecDepth 4000
theorem scr_rg (σ : SG) (i : Nat) : -2147483648 ≤ scrZ σ i ∧ scrZ σ i < 2147483648 := rg32 _
theorem scr_eq {σ σ' : SG} (e : σ'.2.2.2.2 = σ.2.2.2.2) : scrZ σ' = scrZ σ := by
  funext i
  unfold scrZ
  rw [e]
theorem ycmp_s (a : Int) : ycmp a a = 0 := by
  unfold ycmp lg_cmp
  rw [if_neg (fun q => Int64.lt_irrefl q), if_pos rfl]
  rfl
theorem MS.cl {S : SS} {σ σ' : SG} {P : Lc → Prop} (h : MS S σ) (f : Fr P σ σ') (hP : ∀ L, inMo L → ¬ P L) : MS S σ' := by
  have e : ∀ a : Nat, 40 ≤ a → a ≤ 62 → σ'.1 (a, 0, 0) = σ.1 (a, 0, 0) := fun a h1 h2 => (f.1 _ (hP (a, 0, 0) ⟨h1, h2⟩)).1
  unfold MS MA MC MV MH MN MB MP at h ⊢
  rw [e 40 (by decide) (by decide), e 41 (by decide) (by decide), e 42 (by decide) (by decide), e 43 (by decide) (by decide), e 45 (by decide) (by decide), e 46 (by decide) (by decide), e 47 (by decide) (by decide), e 62 (by decide) (by decide)]
  exact h
theorem MS.lw {S : SS} {σ σ' : SG} (h : MS S σ) (f : Fr inLw σ σ') : MS S σ' := h.cl f (fun L a b => by
  unfold inMo at a
  unfold inLw at b
  omega)
theorem CS.mo {S : SS} {σ σ' : SG} (h : CS S σ) (f : Fr inMo σ σ') : CS S σ' := h.keep f (fun L a b => by
  unfold inCo at a
  unfold inMo at b
  omega)
theorem inQ_mo {σ σ' : SG} (f : Fr inQ σ σ') : Fr inMo σ σ' := f.mono (fun L q => by
  unfold inQ at q
  unfold inMo
  omega)
theorem mo70 {σ σ' : SG} (f : Fr inMo σ σ') : σ'.2.1 (70, 0, 0) = σ.2.1 (70, 0, 0) := (f.1 (70, 0, 0) (fun q => by
  have q : 40 ≤ 70 ∧ 70 ≤ 62 := q
  omega)).2.1
theorem s_thrown {t : KT} {σ : SG} : Ca 1 174 [aR (some (40, 0, 0))] (am_hp σ) t (.inl (some (aI (iZ (σ.1 (40, 0, 0) 0)))), am_hp σ, t) := ca_of (e_X12_thrown (b_X12_thrown_0 rfl))
theorem mo_rg {z : Int} (h : 0 ≤ z ∧ z ≤ 2) : -2147483648 ≤ z ∧ z < 2147483648 := by omega
abbrev GO (σ : SG) (t : KT) (x5 : Int) (Q : RS → Prop) : Prop := ∀ (S' : SS) (σ' : SG) (t' : KT) (v6 v7 v8 v9 : Option AV), CS S' σ' → MS S' σ' → σ'.2.2.2.2 = σ.2.2.2.2 → (t' = t ∨ t' = bump t) → Wp k_L_law 20 (3033, [some (aR (some (92, 0, 0))), some (aR (some (1, 0, 0))), some (aR (some (40, 0, 0))), some (aR (some (70, 0, 0))), some (aR (some (71, 0, 0))), some (aI (iZ x5)), v6, v7, v8, v9], [], am_hp σ', t') Q

theorem lc_feed {σ : SG} {t : KT} {Q : RS → Prop} {S : SS} {x5 : Int} {u6 u7 u8 u9 : Option AV} (h : CS S σ) (m : MS S σ) (hx : 0 ≤ x5 ∧ x5 + 5 < ((σ.2.2.2.2.1 : Nat) : Int)) (hl : Nat.ble σ.2.2.2.2.1 4000 = true) (go : GO σ t x5 Q) : Wp k_L_law 20 (256, [some (aR (some (92, 0, 0))), some (aR (some (1, 0, 0))), some (aR (some (40, 0, 0))), some (aR (some (70, 0, 0))), some (aR (some (71, 0, 0))), some (aI (iZ x5)), u6, u7, u8, u9], [], am_hp σ, t) Q := by
  obtain ⟨σ1, t1, c1, h1, f1, ht, hk, hv⟩ := lw_feed (t := t) h (scr_rg σ (x5 + 1).toNat) (scr_rg σ (x5 + 2).toNat) (scr_rg σ (x5 + 3).toNat) (scr_rg σ (x5 + 4).toNat) (scr_rg σ (x5 + 5).toNat)
  have ex : σ1.2.2.2.2 = σ.2.2.2.2 := f1.2.2
  have es := scr_eq ex
  have m1 := m.lw f1
  obtain ⟨σ2, c2, k2, m2, f2⟩ := m_feed (t := t1) m1 (scr_rg σ (x5 + 1).toNat) (scr_rg σ (x5 + 2).toNat) (scr_rg σ (x5 + 3).toNat) (scr_rg σ (x5 + 4).toNat) (scr_rg σ (x5 + 5).toNat)
  have h2 := h1.mo f2
  have c3 := s_thrown (t := t1) (σ := σ2)
  rw [k2] at c3
  have e70 := mo70 f2
  generalize (A_feed S (scrZ σ (x5 + 1).toNat) (scrZ σ (x5 + 2).toNat) (scrZ σ (x5 + 3).toNat) (scrZ σ (x5 + 4).toNat) (scrZ σ (x5 + 5).toNat)).1 = rz at c1 c2 c3 hk hv
  rw [← iZ_toInt (iZ (moI rz))] at c2
  refine b_L_law_256 (by omega) hl (by omega) (by omega) (by omega) (by omega) (c1.up (by decide)) (by rw [ex]; omega) (by rw [ex]; exact hl) (by rw [ex]; omega) (by rw [ex]; omega) (by rw [ex]; omega) (by rw [ex]; omega) (by rw [es]; exact c2.up (by decide)) (c3.up (by decide)) (mo_rg hk) (mo_rg hk) (fun _ => ?_) (fun q => absurd rfl q)
  refine b_L_law_340 (mo_rg hk) (fun _ => b_L_law_357 (go _ σ2 t1 _ _ _ _ h2 m2 (f2.2.2.trans ex) ht)) (fun q => ?_)
  refine b_L_law_345 (rg32 _) ycmp_rg (fun _ => b_L_law_357 (go _ σ2 t1 _ _ _ _ h2 m2 (f2.2.2.trans ex) ht)) (fun z => absurd ?_ z)
  rw [e70, hv q]
  exact ycmp_s _
theorem lc_truncate {σ : SG} {t : KT} {Q : RS → Prop} {S : SS} {x5 : Int} {u6 u7 u8 u9 : Option AV} (h : CS S σ) (m : MS S σ) (hx : 0 ≤ x5 ∧ x5 + 5 < ((σ.2.2.2.2.1 : Nat) : Int)) (hl : Nat.ble σ.2.2.2.2.1 4000 = true) (go : GO σ t x5 Q) : Wp k_L_law 20 (360, [some (aR (some (92, 0, 0))), some (aR (some (1, 0, 0))), some (aR (some (40, 0, 0))), some (aR (some (70, 0, 0))), some (aR (some (71, 0, 0))), some (aI (iZ x5)), u6, u7, u8, u9], [], am_hp σ, t) Q := by
  obtain ⟨σ1, t1, c1, h1, f1, ht, hk, hv⟩ := lw_truncate (t := t) h (scr_rg σ (x5 + 1).toNat)
  have ex : σ1.2.2.2.2 = σ.2.2.2.2 := f1.2.2
  have es := scr_eq ex
  have m1 := m.lw f1
  obtain ⟨σ2, c2, k2, m2, f2⟩ := m_truncate (t := t1) m1 (scr_rg σ (x5 + 1).toNat)
  have h2 := h1.mo f2
  have c3 := s_thrown (t := t1) (σ := σ2)
  rw [k2] at c3
  have e70 := mo70 f2
  generalize (A_truncate S (scrZ σ (x5 + 1).toNat)).1 = rz at c1 c2 c3 hk hv
  rw [← iZ_toInt (iZ (moI rz))] at c2
  refine b_L_law_360 (by omega) hl (c1.up (by decide)) (by rw [ex]; omega) (by rw [ex]; exact hl) (by rw [es]; exact c2.up (by decide)) (c3.up (by decide)) (mo_rg hk) (mo_rg hk) (fun _ => ?_) (fun q => absurd rfl q)
  refine b_L_law_396 (mo_rg hk) (fun _ => b_L_law_413 (go _ σ2 t1 _ _ _ _ h2 m2 (f2.2.2.trans ex) ht)) (fun q => ?_)
  refine b_L_law_401 (rg32 _) ycmp_rg (fun _ => b_L_law_413 (go _ σ2 t1 _ _ _ _ h2 m2 (f2.2.2.trans ex) ht)) (fun z => absurd ?_ z)
  rw [e70, hv q]
  exact ycmp_s _
theorem lc_readText {σ : SG} {t : KT} {Q : RS → Prop} {S : SS} {x5 : Int} {u6 u7 u8 u9 : Option AV} (h : CS S σ) (m : MS S σ) (hx : 0 ≤ x5 ∧ x5 + 5 < ((σ.2.2.2.2.1 : Nat) : Int)) (hl : Nat.ble σ.2.2.2.2.1 4000 = true) (go : GO σ t x5 Q) : Wp k_L_law 20 (416, [some (aR (some (92, 0, 0))), some (aR (some (1, 0, 0))), some (aR (some (40, 0, 0))), some (aR (some (70, 0, 0))), some (aR (some (71, 0, 0))), some (aI (iZ x5)), u6, u7, u8, u9], [], am_hp σ, t) Q := by
  obtain ⟨σ1, t1, c1, h1, f1, ht, hk, hv⟩ := lw_readText (t := t) h 
  have ex : σ1.2.2.2.2 = σ.2.2.2.2 := f1.2.2
  have es := scr_eq ex
  have m1 := m.lw f1
  obtain ⟨σ2, c2, k2, m2, f2⟩ := m_readText (t := t1) m1
  have h2 := h1.mo f2
  have c3 := s_thrown (t := t1) (σ := σ2)
  rw [k2] at c3
  have e70 := mo70 f2
  generalize (A_readText S).1 = rz at c1 c2 c3 hk hv
  rw [← iZ_toInt (iZ (moI rz))] at c2
  refine b_L_law_416 (c1.up (by decide)) (c2.up (by decide)) (c3.up (by decide)) (mo_rg hk) (mo_rg hk) (fun _ => ?_) (fun q => absurd rfl q)
  refine b_L_law_440 (mo_rg hk) (fun _ => b_L_law_457 (go _ σ2 t1 _ _ _ _ h2 m2 (f2.2.2.trans ex) ht)) (fun q => ?_)
  refine b_L_law_445 (rg32 _) ycmp_rg (fun _ => b_L_law_457 (go _ σ2 t1 _ _ _ _ h2 m2 (f2.2.2.trans ex) ht)) (fun z => absurd ?_ z)
  rw [e70, hv q]
  exact ycmp_s _
theorem lc_runScript {σ : SG} {t : KT} {Q : RS → Prop} {S : SS} {x5 : Int} {u6 u7 u8 u9 : Option AV} (h : CS S σ) (m : MS S σ) (hx : 0 ≤ x5 ∧ x5 + 5 < ((σ.2.2.2.2.1 : Nat) : Int)) (hl : Nat.ble σ.2.2.2.2.1 4000 = true) (go : GO σ t x5 Q) : Wp k_L_law 20 (460, [some (aR (some (92, 0, 0))), some (aR (some (1, 0, 0))), some (aR (some (40, 0, 0))), some (aR (some (70, 0, 0))), some (aR (some (71, 0, 0))), some (aI (iZ x5)), u6, u7, u8, u9], [], am_hp σ, t) Q := by
  obtain ⟨σ1, t1, c1, h1, f1, ht, hk, hv⟩ := lw_runScript (t := t) h 
  have ex : σ1.2.2.2.2 = σ.2.2.2.2 := f1.2.2
  have es := scr_eq ex
  have m1 := m.lw f1
  obtain ⟨σ2, c2, k2, m2, f2⟩ := m_runScript (t := t1) m1
  have h2 := h1.mo f2
  have c3 := s_thrown (t := t1) (σ := σ2)
  rw [k2] at c3
  have e70 := mo70 f2
  generalize (A_runScript S).1 = rz at c1 c2 c3 hk hv
  rw [← iZ_toInt (iZ (moI rz))] at c2
  refine b_L_law_460 (c1.up (by decide)) (c2.up (by decide)) (c3.up (by decide)) (mo_rg hk) (mo_rg hk) (fun _ => ?_) (fun q => absurd rfl q)
  refine b_L_law_484 (mo_rg hk) (fun _ => b_L_law_501 (go _ σ2 t1 _ _ _ _ h2 m2 (f2.2.2.trans ex) ht)) (fun q => ?_)
  refine b_L_law_489 (rg32 _) ycmp_rg (fun _ => b_L_law_501 (go _ σ2 t1 _ _ _ _ h2 m2 (f2.2.2.trans ex) ht)) (fun z => absurd ?_ z)
  rw [e70, hv q]
  exact ycmp_s _
theorem lc_errorCode {σ : SG} {t : KT} {Q : RS → Prop} {S : SS} {x5 : Int} {u6 u7 u8 u9 : Option AV} (h : CS S σ) (m : MS S σ) (hx : 0 ≤ x5 ∧ x5 + 5 < ((σ.2.2.2.2.1 : Nat) : Int)) (hl : Nat.ble σ.2.2.2.2.1 4000 = true) (go : GO σ t x5 Q) : Wp k_L_law 20 (504, [some (aR (some (92, 0, 0))), some (aR (some (1, 0, 0))), some (aR (some (40, 0, 0))), some (aR (some (70, 0, 0))), some (aR (some (71, 0, 0))), some (aI (iZ x5)), u6, u7, u8, u9], [], am_hp σ, t) Q := by
  have c1 := s_X11_errorCode (t := t) h
  have h1 := h
  have f1 : Fr inLw σ σ := Fr.refl _ _
  have m1 := m.lw f1
  obtain ⟨σ2, c2, k2, q2⟩ := m_errorCode (t := t) m1
  have m2 := m1.m q2
  have f2 := inQ_mo q2.1
  have h2 := h1.mo f2
  rw [← iZ_toInt (iZ ((xE S).1))] at c1 c2
  exact b_L_law_504 (c1.up (by decide)) (c2.up (by decide)) (rg32 _) (rg32 _) (fun _ => go _ σ2 t _ _ _ _ h2 m2 (f2.2.2.trans f1.2.2) (Or.inl rfl)) (fun q => absurd rfl q)
theorem lc_errorPosition {σ : SG} {t : KT} {Q : RS → Prop} {S : SS} {x5 : Int} {u6 u7 u8 u9 : Option AV} (h : CS S σ) (m : MS S σ) (hx : 0 ≤ x5 ∧ x5 + 5 < ((σ.2.2.2.2.1 : Nat) : Int)) (hl : Nat.ble σ.2.2.2.2.1 4000 = true) (go : GO σ t x5 Q) : Wp k_L_law 20 (517, [some (aR (some (92, 0, 0))), some (aR (some (1, 0, 0))), some (aR (some (40, 0, 0))), some (aR (some (70, 0, 0))), some (aR (some (71, 0, 0))), some (aI (iZ x5)), u6, u7, u8, u9], [], am_hp σ, t) Q := by
  have c1 := s_X11_errorPosition (t := t) h
  have h1 := h
  have f1 : Fr inLw σ σ := Fr.refl _ _
  have m1 := m.lw f1
  obtain ⟨σ2, c2, k2, q2⟩ := m_errorPosition (t := t) m1
  have m2 := m1.m q2
  have f2 := inQ_mo q2.1
  have h2 := h1.mo f2
  rw [← iZ_toInt (iZ ((xE S).2))] at c1 c2
  exact b_L_law_517 (c1.up (by decide)) (c2.up (by decide)) (rg32 _) (rg32 _) (fun _ => go _ σ2 t _ _ _ _ h2 m2 (f2.2.2.trans f1.2.2) (Or.inl rfl)) (fun q => absurd rfl q)
theorem lc_setting {σ : SG} {t : KT} {Q : RS → Prop} {S : SS} {x5 : Int} {u6 u7 u8 u9 : Option AV} (h : CS S σ) (m : MS S σ) (hx : 0 ≤ x5 ∧ x5 + 5 < ((σ.2.2.2.2.1 : Nat) : Int)) (hl : Nat.ble σ.2.2.2.2.1 4000 = true) (go : GO σ t x5 Q) : Wp k_L_law 20 (530, [some (aR (some (92, 0, 0))), some (aR (some (1, 0, 0))), some (aR (some (40, 0, 0))), some (aR (some (70, 0, 0))), some (aR (some (71, 0, 0))), some (aI (iZ x5)), u6, u7, u8, u9], [], am_hp σ, t) Q := by
  obtain ⟨σ1, t1, c1, h1, f1, ht, hk, hv⟩ := lw_setting (t := t) h (scr_rg σ (x5 + 1).toNat)
  have ex : σ1.2.2.2.2 = σ.2.2.2.2 := f1.2.2
  have es := scr_eq ex
  have m1 := m.lw f1
  obtain ⟨σ2, c2, k2, q2⟩ := m_setting (t := t1) m1.1 m1.2.1 (scr_rg σ (x5 + 1).toNat)
  have m2 := m1.m q2
  have f2 := inQ_mo q2.1
  have h2 := h1.mo f2
  have c3 := s_thrown (t := t1) (σ := σ2)
  rw [k2] at c3
  have e70 := mo70 f2
  generalize A_setting (xA S) (scrZ σ (x5 + 1).toNat) = rz at c1 c2 c3 hk hv
  rw [← iZ_toInt (iZ (moI rz))] at c2
  refine b_L_law_530 (by omega) hl (c1.up (by decide)) (by rw [ex]; omega) (by rw [ex]; exact hl) (by rw [es]; exact c2.up (by decide)) (c3.up (by decide)) (mo_rg hk) (mo_rg hk) (fun _ => ?_) (fun q => absurd rfl q)
  refine b_L_law_566 (mo_rg hk) (fun _ => b_L_law_583 (go _ σ2 t1 _ _ _ _ h2 m2 (f2.2.2.trans ex) ht)) (fun q => ?_)
  refine b_L_law_571 (rg32 _) ycmp_rg (fun _ => b_L_law_583 (go _ σ2 t1 _ _ _ _ h2 m2 (f2.2.2.trans ex) ht)) (fun z => absurd ?_ z)
  rw [e70, hv q]
  exact ycmp_s _
theorem lc_letter {σ : SG} {t : KT} {Q : RS → Prop} {S : SS} {x5 : Int} {u6 u7 u8 u9 : Option AV} (h : CS S σ) (m : MS S σ) (hx : 0 ≤ x5 ∧ x5 + 5 < ((σ.2.2.2.2.1 : Nat) : Int)) (hl : Nat.ble σ.2.2.2.2.1 4000 = true) (go : GO σ t x5 Q) : Wp k_L_law 20 (586, [some (aR (some (92, 0, 0))), some (aR (some (1, 0, 0))), some (aR (some (40, 0, 0))), some (aR (some (70, 0, 0))), some (aR (some (71, 0, 0))), some (aI (iZ x5)), u6, u7, u8, u9], [], am_hp σ, t) Q := by
  obtain ⟨σ1, t1, c1, h1, f1, ht, hk, hv⟩ := lw_letter (t := t) h (scr_rg σ (x5 + 1).toNat) (scr_rg σ (x5 + 2).toNat)
  have ex : σ1.2.2.2.2 = σ.2.2.2.2 := f1.2.2
  have es := scr_eq ex
  have m1 := m.lw f1
  obtain ⟨σ2, c2, k2, q2⟩ := m_letter (t := t1) m1.1 (scr_rg σ (x5 + 1).toNat) (scr_rg σ (x5 + 2).toNat)
  have m2 := m1.m q2
  have f2 := inQ_mo q2.1
  have h2 := h1.mo f2
  have c3 := s_thrown (t := t1) (σ := σ2)
  rw [k2] at c3
  have e70 := mo70 f2
  generalize A_letter (xA S) (scrZ σ (x5 + 1).toNat) (scrZ σ (x5 + 2).toNat) = rz at c1 c2 c3 hk hv
  rw [← iZ_toInt (iZ (moI rz))] at c2
  refine b_L_law_586 (by omega) hl (by omega) (c1.up (by decide)) (by rw [ex]; omega) (by rw [ex]; exact hl) (by rw [ex]; omega) (by rw [es]; exact c2.up (by decide)) (c3.up (by decide)) (mo_rg hk) (mo_rg hk) (fun _ => ?_) (fun q => absurd rfl q)
  refine b_L_law_634 (mo_rg hk) (fun _ => b_L_law_651 (go _ σ2 t1 _ _ _ _ h2 m2 (f2.2.2.trans ex) ht)) (fun q => ?_)
  refine b_L_law_639 (rg32 _) ycmp_rg (fun _ => b_L_law_651 (go _ σ2 t1 _ _ _ _ h2 m2 (f2.2.2.trans ex) ht)) (fun z => absurd ?_ z)
  rw [e70, hv q]
  exact ycmp_s _
theorem lc_way {σ : SG} {t : KT} {Q : RS → Prop} {S : SS} {x5 : Int} {u6 u7 u8 u9 : Option AV} (h : CS S σ) (m : MS S σ) (hx : 0 ≤ x5 ∧ x5 + 5 < ((σ.2.2.2.2.1 : Nat) : Int)) (hl : Nat.ble σ.2.2.2.2.1 4000 = true) (go : GO σ t x5 Q) : Wp k_L_law 20 (654, [some (aR (some (92, 0, 0))), some (aR (some (1, 0, 0))), some (aR (some (40, 0, 0))), some (aR (some (70, 0, 0))), some (aR (some (71, 0, 0))), some (aI (iZ x5)), u6, u7, u8, u9], [], am_hp σ, t) Q := by
  obtain ⟨σ1, t1, c1, h1, f1, ht, hk, hv⟩ := lw_way (t := t) h (scr_rg σ (x5 + 1).toNat) (scr_rg σ (x5 + 2).toNat)
  have ex : σ1.2.2.2.2 = σ.2.2.2.2 := f1.2.2
  have es := scr_eq ex
  have m1 := m.lw f1
  obtain ⟨σ2, c2, k2, q2⟩ := m_way (t := t1) m1.1 m1.2.1 (scr_rg σ (x5 + 1).toNat) (scr_rg σ (x5 + 2).toNat)
  have m2 := m1.m q2
  have f2 := inQ_mo q2.1
  have h2 := h1.mo f2
  have c3 := s_thrown (t := t1) (σ := σ2)
  rw [k2] at c3
  have e70 := mo70 f2
  generalize A_way (xA S) (scrZ σ (x5 + 1).toNat) (scrZ σ (x5 + 2).toNat) = rz at c1 c2 c3 hk hv
  rw [← iZ_toInt (iZ (moI rz))] at c2
  refine b_L_law_654 (by omega) hl (by omega) (c1.up (by decide)) (by rw [ex]; omega) (by rw [ex]; exact hl) (by rw [ex]; omega) (by rw [es]; exact c2.up (by decide)) (c3.up (by decide)) (mo_rg hk) (mo_rg hk) (fun _ => ?_) (fun q => absurd rfl q)
  refine b_L_law_702 (mo_rg hk) (fun _ => b_L_law_719 (go _ σ2 t1 _ _ _ _ h2 m2 (f2.2.2.trans ex) ht)) (fun q => ?_)
  refine b_L_law_707 (rg32 _) ycmp_rg (fun _ => b_L_law_719 (go _ σ2 t1 _ _ _ _ h2 m2 (f2.2.2.trans ex) ht)) (fun z => absurd ?_ z)
  rw [e70, hv q]
  exact ycmp_s _
theorem lc_row {σ : SG} {t : KT} {Q : RS → Prop} {S : SS} {x5 : Int} {u6 u7 u8 u9 : Option AV} (h : CS S σ) (m : MS S σ) (hx : 0 ≤ x5 ∧ x5 + 5 < ((σ.2.2.2.2.1 : Nat) : Int)) (hl : Nat.ble σ.2.2.2.2.1 4000 = true) (go : GO σ t x5 Q) : Wp k_L_law 20 (722, [some (aR (some (92, 0, 0))), some (aR (some (1, 0, 0))), some (aR (some (40, 0, 0))), some (aR (some (70, 0, 0))), some (aR (some (71, 0, 0))), some (aI (iZ x5)), u6, u7, u8, u9], [], am_hp σ, t) Q := by
  obtain ⟨σ1, t1, c1, h1, f1, ht, hk, hv⟩ := lw_row (t := t) h (scr_rg σ (x5 + 1).toNat) (scr_rg σ (x5 + 2).toNat)
  have ex : σ1.2.2.2.2 = σ.2.2.2.2 := f1.2.2
  have es := scr_eq ex
  have m1 := m.lw f1
  obtain ⟨σ2, c2, k2, q2⟩ := m_row (t := t1) m1.1 m1.2.1 (scr_rg σ (x5 + 1).toNat) (scr_rg σ (x5 + 2).toNat)
  have m2 := m1.m q2
  have f2 := inQ_mo q2.1
  have h2 := h1.mo f2
  have c3 := s_thrown (t := t1) (σ := σ2)
  rw [k2] at c3
  have e70 := mo70 f2
  generalize A_row (xA S) (scrZ σ (x5 + 1).toNat) (scrZ σ (x5 + 2).toNat) = rz at c1 c2 c3 hk hv
  rw [← iZ_toInt (iZ (moI rz))] at c2
  refine b_L_law_722 (by omega) hl (by omega) (c1.up (by decide)) (by rw [ex]; omega) (by rw [ex]; exact hl) (by rw [ex]; omega) (by rw [es]; exact c2.up (by decide)) (c3.up (by decide)) (mo_rg hk) (mo_rg hk) (fun _ => ?_) (fun q => absurd rfl q)
  refine b_L_law_770 (mo_rg hk) (fun _ => b_L_law_787 (go _ σ2 t1 _ _ _ _ h2 m2 (f2.2.2.trans ex) ht)) (fun q => ?_)
  refine b_L_law_775 (rg32 _) ycmp_rg (fun _ => b_L_law_787 (go _ σ2 t1 _ _ _ _ h2 m2 (f2.2.2.trans ex) ht)) (fun z => absurd ?_ z)
  rw [e70, hv q]
  exact ycmp_s _
theorem lc_word {σ : SG} {t : KT} {Q : RS → Prop} {S : SS} {x5 : Int} {u6 u7 u8 u9 : Option AV} (h : CS S σ) (m : MS S σ) (hx : 0 ≤ x5 ∧ x5 + 5 < ((σ.2.2.2.2.1 : Nat) : Int)) (hl : Nat.ble σ.2.2.2.2.1 4000 = true) (go : GO σ t x5 Q) : Wp k_L_law 20 (790, [some (aR (some (92, 0, 0))), some (aR (some (1, 0, 0))), some (aR (some (40, 0, 0))), some (aR (some (70, 0, 0))), some (aR (some (71, 0, 0))), some (aI (iZ x5)), u6, u7, u8, u9], [], am_hp σ, t) Q := by
  obtain ⟨σ1, t1, c1, h1, f1, ht, hk, hv⟩ := lw_word (t := t) h (scr_rg σ (x5 + 1).toNat) (scr_rg σ (x5 + 2).toNat)
  have ex : σ1.2.2.2.2 = σ.2.2.2.2 := f1.2.2
  have es := scr_eq ex
  have m1 := m.lw f1
  obtain ⟨σ2, c2, k2, q2⟩ := m_word (t := t1) m1.1 m1.2.1 (scr_rg σ (x5 + 1).toNat) (scr_rg σ (x5 + 2).toNat)
  have m2 := m1.m q2
  have f2 := inQ_mo q2.1
  have h2 := h1.mo f2
  have c3 := s_thrown (t := t1) (σ := σ2)
  rw [k2] at c3
  have e70 := mo70 f2
  generalize A_word (xA S) (scrZ σ (x5 + 1).toNat) (scrZ σ (x5 + 2).toNat) = rz at c1 c2 c3 hk hv
  rw [← iZ_toInt (iZ (moI rz))] at c2
  refine b_L_law_790 (by omega) hl (by omega) (c1.up (by decide)) (by rw [ex]; omega) (by rw [ex]; exact hl) (by rw [ex]; omega) (by rw [es]; exact c2.up (by decide)) (c3.up (by decide)) (mo_rg hk) (mo_rg hk) (fun _ => ?_) (fun q => absurd rfl q)
  refine b_L_law_838 (mo_rg hk) (fun _ => b_L_law_855 (go _ σ2 t1 _ _ _ _ h2 m2 (f2.2.2.trans ex) ht)) (fun q => ?_)
  refine b_L_law_843 (rg32 _) ycmp_rg (fun _ => b_L_law_855 (go _ σ2 t1 _ _ _ _ h2 m2 (f2.2.2.trans ex) ht)) (fun z => absurd ?_ z)
  rw [e70, hv q]
  exact ycmp_s _
theorem lc_wordPart {σ : SG} {t : KT} {Q : RS → Prop} {S : SS} {x5 : Int} {u6 u7 u8 u9 : Option AV} (h : CS S σ) (m : MS S σ) (hx : 0 ≤ x5 ∧ x5 + 5 < ((σ.2.2.2.2.1 : Nat) : Int)) (hl : Nat.ble σ.2.2.2.2.1 4000 = true) (go : GO σ t x5 Q) : Wp k_L_law 20 (858, [some (aR (some (92, 0, 0))), some (aR (some (1, 0, 0))), some (aR (some (40, 0, 0))), some (aR (some (70, 0, 0))), some (aR (some (71, 0, 0))), some (aI (iZ x5)), u6, u7, u8, u9], [], am_hp σ, t) Q := by
  obtain ⟨σ1, t1, c1, h1, f1, ht, hk, hv⟩ := lw_wordPart (t := t) h (scr_rg σ (x5 + 1).toNat) (scr_rg σ (x5 + 2).toNat) (scr_rg σ (x5 + 3).toNat)
  have ex : σ1.2.2.2.2 = σ.2.2.2.2 := f1.2.2
  have es := scr_eq ex
  have m1 := m.lw f1
  obtain ⟨σ2, c2, k2, q2⟩ := m_wordPart (t := t1) m1.1 m1.2.1 (scr_rg σ (x5 + 1).toNat) (scr_rg σ (x5 + 2).toNat) (scr_rg σ (x5 + 3).toNat)
  have m2 := m1.m q2
  have f2 := inQ_mo q2.1
  have h2 := h1.mo f2
  have c3 := s_thrown (t := t1) (σ := σ2)
  rw [k2] at c3
  have e70 := mo70 f2
  generalize A_wordPart (xA S) (scrZ σ (x5 + 1).toNat) (scrZ σ (x5 + 2).toNat) (scrZ σ (x5 + 3).toNat) = rz at c1 c2 c3 hk hv
  rw [← iZ_toInt (iZ (moI rz))] at c2
  refine b_L_law_858 (by omega) hl (by omega) (by omega) (c1.up (by decide)) (by rw [ex]; omega) (by rw [ex]; exact hl) (by rw [ex]; omega) (by rw [ex]; omega) (by rw [es]; exact c2.up (by decide)) (c3.up (by decide)) (mo_rg hk) (mo_rg hk) (fun _ => ?_) (fun q => absurd rfl q)
  refine b_L_law_918 (mo_rg hk) (fun _ => b_L_law_935 (go _ σ2 t1 _ _ _ _ h2 m2 (f2.2.2.trans ex) ht)) (fun q => ?_)
  refine b_L_law_923 (rg32 _) ycmp_rg (fun _ => b_L_law_935 (go _ σ2 t1 _ _ _ _ h2 m2 (f2.2.2.trans ex) ht)) (fun z => absurd ?_ z)
  rw [e70, hv q]
  exact ycmp_s _
theorem lc_wordSum {σ : SG} {t : KT} {Q : RS → Prop} {S : SS} {x5 : Int} {u6 u7 u8 u9 : Option AV} (h : CS S σ) (m : MS S σ) (hx : 0 ≤ x5 ∧ x5 + 5 < ((σ.2.2.2.2.1 : Nat) : Int)) (hl : Nat.ble σ.2.2.2.2.1 4000 = true) (go : GO σ t x5 Q) : Wp k_L_law 20 (938, [some (aR (some (92, 0, 0))), some (aR (some (1, 0, 0))), some (aR (some (40, 0, 0))), some (aR (some (70, 0, 0))), some (aR (some (71, 0, 0))), some (aI (iZ x5)), u6, u7, u8, u9], [], am_hp σ, t) Q := by
  obtain ⟨σ1, t1, c1, h1, f1, ht, hk, hv⟩ := lw_wordSum (t := t) h (scr_rg σ (x5 + 1).toNat) (scr_rg σ (x5 + 2).toNat)
  have ex : σ1.2.2.2.2 = σ.2.2.2.2 := f1.2.2
  have es := scr_eq ex
  have m1 := m.lw f1
  obtain ⟨σ2, c2, k2, q2⟩ := m_wordSum (t := t1) m1.1 m1.2.1 (scr_rg σ (x5 + 1).toNat) (scr_rg σ (x5 + 2).toNat)
  have m2 := m1.m q2
  have f2 := inQ_mo q2.1
  have h2 := h1.mo f2
  have c3 := s_thrown (t := t1) (σ := σ2)
  rw [k2] at c3
  have e70 := mo70 f2
  generalize A_wordSum (xA S) (scrZ σ (x5 + 1).toNat) (scrZ σ (x5 + 2).toNat) = rz at c1 c2 c3 hk hv
  refine b_L_law_938 (by omega) hl (by omega) (c1.up (by decide)) (by rw [ex]; omega) (by rw [ex]; exact hl) (by rw [ex]; omega) (by rw [es]; exact c2.up (by decide)) (c3.up (by decide)) (mo_rg hk) (mo_rg hk) (fun _ => ?_) (fun q => absurd rfl q)
  refine b_L_law_986 (mo_rg hk) (fun _ => b_L_law_1002 (go _ σ2 t1 _ _ _ _ h2 m2 (f2.2.2.trans ex) ht)) (fun q => ?_)
  refine b_L_law_991 ycmp_rg (fun _ => b_L_law_1002 (go _ σ2 t1 _ _ _ _ h2 m2 (f2.2.2.trans ex) ht)) (fun z => absurd ?_ z)
  rw [e70, hv q]
  exact ycmp_s _
theorem lc_entryStart {σ : SG} {t : KT} {Q : RS → Prop} {S : SS} {x5 : Int} {u6 u7 u8 u9 : Option AV} (h : CS S σ) (m : MS S σ) (hx : 0 ≤ x5 ∧ x5 + 5 < ((σ.2.2.2.2.1 : Nat) : Int)) (hl : Nat.ble σ.2.2.2.2.1 4000 = true) (go : GO σ t x5 Q) : Wp k_L_law 20 (1005, [some (aR (some (92, 0, 0))), some (aR (some (1, 0, 0))), some (aR (some (40, 0, 0))), some (aR (some (70, 0, 0))), some (aR (some (71, 0, 0))), some (aI (iZ x5)), u6, u7, u8, u9], [], am_hp σ, t) Q := by
  obtain ⟨σ1, t1, c1, h1, f1, ht, hk, hv⟩ := lw_entryStart (t := t) h (scr_rg σ (x5 + 1).toNat) (scr_rg σ (x5 + 2).toNat)
  have ex : σ1.2.2.2.2 = σ.2.2.2.2 := f1.2.2
  have es := scr_eq ex
  have m1 := m.lw f1
  obtain ⟨σ2, c2, k2, q2⟩ := m_entryStart (t := t1) m1.1 m1.2.1 (scr_rg σ (x5 + 1).toNat) (scr_rg σ (x5 + 2).toNat)
  have m2 := m1.m q2
  have f2 := inQ_mo q2.1
  have h2 := h1.mo f2
  have c3 := s_thrown (t := t1) (σ := σ2)
  rw [k2] at c3
  have e70 := mo70 f2
  generalize A_entryStart (xA S) (scrZ σ (x5 + 1).toNat) (scrZ σ (x5 + 2).toNat) = rz at c1 c2 c3 hk hv
  rw [← iZ_toInt (iZ (moI rz))] at c2
  refine b_L_law_1005 (by omega) hl (by omega) (c1.up (by decide)) (by rw [ex]; omega) (by rw [ex]; exact hl) (by rw [ex]; omega) (by rw [es]; exact c2.up (by decide)) (c3.up (by decide)) (mo_rg hk) (mo_rg hk) (fun _ => ?_) (fun q => absurd rfl q)
  refine b_L_law_1053 (mo_rg hk) (fun _ => b_L_law_1070 (go _ σ2 t1 _ _ _ _ h2 m2 (f2.2.2.trans ex) ht)) (fun q => ?_)
  refine b_L_law_1058 (rg32 _) ycmp_rg (fun _ => b_L_law_1070 (go _ σ2 t1 _ _ _ _ h2 m2 (f2.2.2.trans ex) ht)) (fun z => absurd ?_ z)
  rw [e70, hv q]
  exact ycmp_s _
theorem lc_entrySum {σ : SG} {t : KT} {Q : RS → Prop} {S : SS} {x5 : Int} {u6 u7 u8 u9 : Option AV} (h : CS S σ) (m : MS S σ) (hx : 0 ≤ x5 ∧ x5 + 5 < ((σ.2.2.2.2.1 : Nat) : Int)) (hl : Nat.ble σ.2.2.2.2.1 4000 = true) (go : GO σ t x5 Q) : Wp k_L_law 20 (1073, [some (aR (some (92, 0, 0))), some (aR (some (1, 0, 0))), some (aR (some (40, 0, 0))), some (aR (some (70, 0, 0))), some (aR (some (71, 0, 0))), some (aI (iZ x5)), u6, u7, u8, u9], [], am_hp σ, t) Q := by
  obtain ⟨σ1, t1, c1, h1, f1, ht, hk, hv⟩ := lw_entrySum (t := t) h (scr_rg σ (x5 + 1).toNat) (scr_rg σ (x5 + 2).toNat)
  have ex : σ1.2.2.2.2 = σ.2.2.2.2 := f1.2.2
  have es := scr_eq ex
  have m1 := m.lw f1
  obtain ⟨σ2, c2, k2, q2⟩ := m_entrySum (t := t1) m1.1 m1.2.1 (scr_rg σ (x5 + 1).toNat) (scr_rg σ (x5 + 2).toNat)
  have m2 := m1.m q2
  have f2 := inQ_mo q2.1
  have h2 := h1.mo f2
  have c3 := s_thrown (t := t1) (σ := σ2)
  rw [k2] at c3
  have e70 := mo70 f2
  generalize A_entrySum (xA S) (scrZ σ (x5 + 1).toNat) (scrZ σ (x5 + 2).toNat) = rz at c1 c2 c3 hk hv
  refine b_L_law_1073 (by omega) hl (by omega) (c1.up (by decide)) (by rw [ex]; omega) (by rw [ex]; exact hl) (by rw [ex]; omega) (by rw [es]; exact c2.up (by decide)) (c3.up (by decide)) (mo_rg hk) (mo_rg hk) (fun _ => ?_) (fun q => absurd rfl q)
  refine b_L_law_1121 (mo_rg hk) (fun _ => b_L_law_1137 (go _ σ2 t1 _ _ _ _ h2 m2 (f2.2.2.trans ex) ht)) (fun q => ?_)
  refine b_L_law_1126 ycmp_rg (fun _ => b_L_law_1137 (go _ σ2 t1 _ _ _ _ h2 m2 (f2.2.2.trans ex) ht)) (fun z => absurd ?_ z)
  rw [e70, hv q]
  exact ycmp_s _
theorem lc_why {σ : SG} {t : KT} {Q : RS → Prop} {S : SS} {x5 : Int} {u6 u7 u8 u9 : Option AV} (h : CS S σ) (m : MS S σ) (hx : 0 ≤ x5 ∧ x5 + 5 < ((σ.2.2.2.2.1 : Nat) : Int)) (hl : Nat.ble σ.2.2.2.2.1 4000 = true) (go : GO σ t x5 Q) : Wp k_L_law 20 (1140, [some (aR (some (92, 0, 0))), some (aR (some (1, 0, 0))), some (aR (some (40, 0, 0))), some (aR (some (70, 0, 0))), some (aR (some (71, 0, 0))), some (aI (iZ x5)), u6, u7, u8, u9], [], am_hp σ, t) Q := by
  obtain ⟨σ1, t1, c1, h1, f1, ht, hk, hv⟩ := lw_why (t := t) h (scr_rg σ (x5 + 1).toNat) (scr_rg σ (x5 + 2).toNat) (scr_rg σ (x5 + 3).toNat)
  have ex : σ1.2.2.2.2 = σ.2.2.2.2 := f1.2.2
  have es := scr_eq ex
  have m1 := m.lw f1
  obtain ⟨σ2, c2, k2, q2⟩ := m_why (t := t1) m1.1 m1.2.1 (scr_rg σ (x5 + 1).toNat) (scr_rg σ (x5 + 2).toNat) (scr_rg σ (x5 + 3).toNat)
  have m2 := m1.m q2
  have f2 := inQ_mo q2.1
  have h2 := h1.mo f2
  have c3 := s_thrown (t := t1) (σ := σ2)
  rw [k2] at c3
  have e70 := mo70 f2
  generalize A_why (xA S) (scrZ σ (x5 + 1).toNat) (scrZ σ (x5 + 2).toNat) (scrZ σ (x5 + 3).toNat) = rz at c1 c2 c3 hk hv
  rw [← iZ_toInt (iZ (moI rz))] at c2
  refine b_L_law_1140 (by omega) hl (by omega) (by omega) (c1.up (by decide)) (by rw [ex]; omega) (by rw [ex]; exact hl) (by rw [ex]; omega) (by rw [ex]; omega) (by rw [es]; exact c2.up (by decide)) (c3.up (by decide)) (mo_rg hk) (mo_rg hk) (fun _ => ?_) (fun q => absurd rfl q)
  refine b_L_law_1200 (mo_rg hk) (fun _ => b_L_law_1217 (go _ σ2 t1 _ _ _ _ h2 m2 (f2.2.2.trans ex) ht)) (fun q => ?_)
  refine b_L_law_1205 (rg32 _) ycmp_rg (fun _ => b_L_law_1217 (go _ σ2 t1 _ _ _ _ h2 m2 (f2.2.2.trans ex) ht)) (fun z => absurd ?_ z)
  rw [e70, hv q]
  exact ycmp_s _
theorem lc_gap {σ : SG} {t : KT} {Q : RS → Prop} {S : SS} {x5 : Int} {u6 u7 u8 u9 : Option AV} (h : CS S σ) (m : MS S σ) (hx : 0 ≤ x5 ∧ x5 + 5 < ((σ.2.2.2.2.1 : Nat) : Int)) (hl : Nat.ble σ.2.2.2.2.1 4000 = true) (go : GO σ t x5 Q) : Wp k_L_law 20 (1220, [some (aR (some (92, 0, 0))), some (aR (some (1, 0, 0))), some (aR (some (40, 0, 0))), some (aR (some (70, 0, 0))), some (aR (some (71, 0, 0))), some (aI (iZ x5)), u6, u7, u8, u9], [], am_hp σ, t) Q := by
  have c1 := s_X11_gap (t := t) h.1
  have h1 := h
  have f1 : Fr inLw σ σ := Fr.refl _ _
  have m1 := m.lw f1
  obtain ⟨σ2, c2, k2, q2⟩ := m_gap (t := t) m1.1 m1.2.1
  have m2 := m1.m q2
  have f2 := inQ_mo q2.1
  have h2 := h1.mo f2
  rw [← iZ_toInt (iZ 0)] at c1 c2
  exact b_L_law_1220 (c1.up (by decide)) (c2.up (by decide)) (rg32 _) (rg32 _) (fun _ => go _ σ2 t _ _ _ _ h2 m2 (f2.2.2.trans f1.2.2) (Or.inl rfl)) (fun q => absurd rfl q)
theorem lc_find {σ : SG} {t : KT} {Q : RS → Prop} {S : SS} {x5 : Int} {u6 u7 u8 u9 : Option AV} (h : CS S σ) (m : MS S σ) (hx : 0 ≤ x5 ∧ x5 + 5 < ((σ.2.2.2.2.1 : Nat) : Int)) (hl : Nat.ble σ.2.2.2.2.1 4000 = true) (go : GO σ t x5 Q) : Wp k_L_law 20 (1233, [some (aR (some (92, 0, 0))), some (aR (some (1, 0, 0))), some (aR (some (40, 0, 0))), some (aR (some (70, 0, 0))), some (aR (some (71, 0, 0))), some (aI (iZ x5)), u6, u7, u8, u9], [], am_hp σ, t) Q := by
  obtain ⟨σ1, c1, h1, fp⟩ := s_X11_find (t := t) h
  have f1 : Fr inLw σ σ1 := fp.mono (fun L q => by
    have q : L = (2, 0, 0) := q
    subst q
    exact Or.inl (by decide))
  have m1 := m.lw f1
  obtain ⟨σ2, c2, k2, q2⟩ := m_find (t := t) m1.1 m1.2.2.2.2.2.2.1
  have m2 := m1.m q2
  have f2 := inQ_mo q2.1
  have h2 := h1.mo f2
  rw [← iZ_toInt (iZ (rwA (xA S) (wnm (xT S))))] at c1 c2
  exact b_L_law_1233 (c1.up (by decide)) (c2.up (by decide)) (rg32 _) (rg32 _) (fun _ => go _ σ2 t _ _ _ _ h2 m2 (f2.2.2.trans f1.2.2) (Or.inl rfl)) (fun q => absurd rfl q)
theorem lc_read {σ : SG} {t : KT} {Q : RS → Prop} {S : SS} {x5 : Int} {u6 u7 u8 u9 : Option AV} (h : CS S σ) (m : MS S σ) (hx : 0 ≤ x5 ∧ x5 + 5 < ((σ.2.2.2.2.1 : Nat) : Int)) (hl : Nat.ble σ.2.2.2.2.1 4000 = true) (go : GO σ t x5 Q) : Wp k_L_law 20 (1246, [some (aR (some (92, 0, 0))), some (aR (some (1, 0, 0))), some (aR (some (40, 0, 0))), some (aR (some (70, 0, 0))), some (aR (some (71, 0, 0))), some (aI (iZ x5)), u6, u7, u8, u9], [], am_hp σ, t) Q := by
  obtain ⟨σ1, t1, c1, h1, f1, ht, hk, hv⟩ := lw_read (t := t) h (scr_rg σ (x5 + 1).toNat) (scr_rg σ (x5 + 2).toNat)
  have ex : σ1.2.2.2.2 = σ.2.2.2.2 := f1.2.2
  have es := scr_eq ex
  have m1 := m.lw f1
  obtain ⟨σ2, c2, k2, q2⟩ := m_read (t := t1) m1.1 m1.2.1 (scr_rg σ (x5 + 1).toNat) (scr_rg σ (x5 + 2).toNat)
  have m2 := m1.g q2
  have f2 := inQ_mo q2.1
  have h2 := h1.mo f2
  have c3 := s_thrown (t := t1) (σ := σ2)
  rw [k2] at c3
  have e70 := mo70 f2
  generalize (A_read (xA S) (scrZ σ (x5 + 1).toNat) (scrZ σ (x5 + 2).toNat)).1 = rz at c1 c2 c3 hk hv
  rw [← iZ_toInt (iZ (moI rz))] at c2
  refine b_L_law_1246 (by omega) hl (by omega) (c1.up (by decide)) (by rw [ex]; omega) (by rw [ex]; exact hl) (by rw [ex]; omega) (by rw [es]; exact c2.up (by decide)) (c3.up (by decide)) (mo_rg hk) (mo_rg hk) (fun _ => ?_) (fun q => absurd rfl q)
  refine b_L_law_1294 (mo_rg hk) (fun _ => b_L_law_1311 (go _ σ2 t1 _ _ _ _ h2 m2 (f2.2.2.trans ex) ht)) (fun q => ?_)
  refine b_L_law_1299 (rg32 _) ycmp_rg (fun _ => b_L_law_1311 (go _ σ2 t1 _ _ _ _ h2 m2 (f2.2.2.trans ex) ht)) (fun z => absurd ?_ z)
  rw [e70, hv q]
  exact ycmp_s _
theorem lc_sum {σ : SG} {t : KT} {Q : RS → Prop} {S : SS} {x5 : Int} {u6 u7 u8 u9 : Option AV} (h : CS S σ) (m : MS S σ) (hx : 0 ≤ x5 ∧ x5 + 5 < ((σ.2.2.2.2.1 : Nat) : Int)) (hl : Nat.ble σ.2.2.2.2.1 4000 = true) (go : GO σ t x5 Q) : Wp k_L_law 20 (1314, [some (aR (some (92, 0, 0))), some (aR (some (1, 0, 0))), some (aR (some (40, 0, 0))), some (aR (some (70, 0, 0))), some (aR (some (71, 0, 0))), some (aI (iZ x5)), u6, u7, u8, u9], [], am_hp σ, t) Q := by
  obtain ⟨σ1, t1, c1, h1, f1, ht, hk, hv⟩ := lw_sum (t := t) h (scr_rg σ (x5 + 1).toNat) (scr_rg σ (x5 + 2).toNat) (scr_rg σ (x5 + 3).toNat)
  have ex : σ1.2.2.2.2 = σ.2.2.2.2 := f1.2.2
  have es := scr_eq ex
  have m1 := m.lw f1
  obtain ⟨σ2, c2, k2, q2⟩ := m_sum (t := t1) m1.1 m1.2.1 (scr_rg σ (x5 + 1).toNat) (scr_rg σ (x5 + 2).toNat) (scr_rg σ (x5 + 3).toNat)
  have m2 := m1.g q2
  have f2 := inQ_mo q2.1
  have h2 := h1.mo f2
  have c3 := s_thrown (t := t1) (σ := σ2)
  rw [k2] at c3
  have e70 := mo70 f2
  generalize (A_sum (xA S) (scrZ σ (x5 + 1).toNat) (scrZ σ (x5 + 2).toNat) (scrZ σ (x5 + 3).toNat)).1 = rz at c1 c2 c3 hk hv
  refine b_L_law_1314 (by omega) hl (by omega) (by omega) (c1.up (by decide)) (by rw [ex]; omega) (by rw [ex]; exact hl) (by rw [ex]; omega) (by rw [ex]; omega) (by rw [es]; exact c2.up (by decide)) (c3.up (by decide)) (mo_rg hk) (mo_rg hk) (fun _ => ?_) (fun q => absurd rfl q)
  refine b_L_law_1374 (mo_rg hk) (fun _ => b_L_law_1390 (go _ σ2 t1 _ _ _ _ h2 m2 (f2.2.2.trans ex) ht)) (fun q => ?_)
  refine b_L_law_1379 ycmp_rg (fun _ => b_L_law_1390 (go _ σ2 t1 _ _ _ _ h2 m2 (f2.2.2.trans ex) ht)) (fun z => absurd ?_ z)
  rw [e70, hv q]
  exact ycmp_s _
theorem lc_first {σ : SG} {t : KT} {Q : RS → Prop} {S : SS} {x5 : Int} {u6 u7 u8 u9 : Option AV} (h : CS S σ) (m : MS S σ) (hx : 0 ≤ x5 ∧ x5 + 5 < ((σ.2.2.2.2.1 : Nat) : Int)) (hl : Nat.ble σ.2.2.2.2.1 4000 = true) (go : GO σ t x5 Q) : Wp k_L_law 20 (1393, [some (aR (some (92, 0, 0))), some (aR (some (1, 0, 0))), some (aR (some (40, 0, 0))), some (aR (some (70, 0, 0))), some (aR (some (71, 0, 0))), some (aI (iZ x5)), u6, u7, u8, u9], [], am_hp σ, t) Q := by
  obtain ⟨σ1, t1, c1, h1, f1, ht, hk, hv⟩ := lw_first (t := t) h (scr_rg σ (x5 + 1).toNat) (scr_rg σ (x5 + 2).toNat)
  have ex : σ1.2.2.2.2 = σ.2.2.2.2 := f1.2.2
  have es := scr_eq ex
  have m1 := m.lw f1
  obtain ⟨σ2, c2, k2, q2⟩ := m_first (t := t1) m1.1 m1.2.1 (scr_rg σ (x5 + 1).toNat) (scr_rg σ (x5 + 2).toNat)
  have m2 := m1.g q2
  have f2 := inQ_mo q2.1
  have h2 := h1.mo f2
  have c3 := s_thrown (t := t1) (σ := σ2)
  rw [k2] at c3
  have e70 := mo70 f2
  generalize (A_first (xA S) (scrZ σ (x5 + 1).toNat) (scrZ σ (x5 + 2).toNat)).1 = rz at c1 c2 c3 hk hv
  rw [← iZ_toInt (iZ (moI rz))] at c2
  refine b_L_law_1393 (by omega) hl (by omega) (c1.up (by decide)) (by rw [ex]; omega) (by rw [ex]; exact hl) (by rw [ex]; omega) (by rw [es]; exact c2.up (by decide)) (c3.up (by decide)) (mo_rg hk) (mo_rg hk) (fun _ => ?_) (fun q => absurd rfl q)
  refine b_L_law_1441 (mo_rg hk) (fun _ => b_L_law_1458 (go _ σ2 t1 _ _ _ _ h2 m2 (f2.2.2.trans ex) ht)) (fun q => ?_)
  refine b_L_law_1446 (rg32 _) ycmp_rg (fun _ => b_L_law_1458 (go _ σ2 t1 _ _ _ _ h2 m2 (f2.2.2.trans ex) ht)) (fun z => absurd ?_ z)
  rw [e70, hv q]
  exact ycmp_s _
theorem lc_many {σ : SG} {t : KT} {Q : RS → Prop} {S : SS} {x5 : Int} {u6 u7 u8 u9 : Option AV} (h : CS S σ) (m : MS S σ) (hx : 0 ≤ x5 ∧ x5 + 5 < ((σ.2.2.2.2.1 : Nat) : Int)) (hl : Nat.ble σ.2.2.2.2.1 4000 = true) (go : GO σ t x5 Q) : Wp k_L_law 20 (1461, [some (aR (some (92, 0, 0))), some (aR (some (1, 0, 0))), some (aR (some (40, 0, 0))), some (aR (some (70, 0, 0))), some (aR (some (71, 0, 0))), some (aI (iZ x5)), u6, u7, u8, u9], [], am_hp σ, t) Q := by
  obtain ⟨σ1, t1, c1, h1, f1, ht, hk, hv⟩ := lw_many (t := t) h (scr_rg σ (x5 + 1).toNat) (scr_rg σ (x5 + 2).toNat)
  have ex : σ1.2.2.2.2 = σ.2.2.2.2 := f1.2.2
  have es := scr_eq ex
  have m1 := m.lw f1
  obtain ⟨σ2, c2, k2, q2⟩ := m_many (t := t1) m1.1 m1.2.1 (scr_rg σ (x5 + 1).toNat) (scr_rg σ (x5 + 2).toNat)
  have m2 := m1.g q2
  have f2 := inQ_mo q2.1
  have h2 := h1.mo f2
  have c3 := s_thrown (t := t1) (σ := σ2)
  rw [k2] at c3
  have e70 := mo70 f2
  generalize (A_many (xA S) (scrZ σ (x5 + 1).toNat) (scrZ σ (x5 + 2).toNat)).1 = rz at c1 c2 c3 hk hv
  rw [← iZ_toInt (iZ (moI rz))] at c2
  refine b_L_law_1461 (by omega) hl (by omega) (c1.up (by decide)) (by rw [ex]; omega) (by rw [ex]; exact hl) (by rw [ex]; omega) (by rw [es]; exact c2.up (by decide)) (c3.up (by decide)) (mo_rg hk) (mo_rg hk) (fun _ => ?_) (fun q => absurd rfl q)
  refine b_L_law_1509 (mo_rg hk) (fun _ => b_L_law_1526 (go _ σ2 t1 _ _ _ _ h2 m2 (f2.2.2.trans ex) ht)) (fun q => ?_)
  refine b_L_law_1514 (rg32 _) ycmp_rg (fun _ => b_L_law_1526 (go _ σ2 t1 _ _ _ _ h2 m2 (f2.2.2.trans ex) ht)) (fun z => absurd ?_ z)
  rw [e70, hv q]
  exact ycmp_s _
theorem lc_readsFor {σ : SG} {t : KT} {Q : RS → Prop} {S : SS} {x5 : Int} {u6 u7 u8 u9 : Option AV} (h : CS S σ) (m : MS S σ) (hx : 0 ≤ x5 ∧ x5 + 5 < ((σ.2.2.2.2.1 : Nat) : Int)) (hl : Nat.ble σ.2.2.2.2.1 4000 = true) (go : GO σ t x5 Q) : Wp k_L_law 20 (1529, [some (aR (some (92, 0, 0))), some (aR (some (1, 0, 0))), some (aR (some (40, 0, 0))), some (aR (some (70, 0, 0))), some (aR (some (71, 0, 0))), some (aI (iZ x5)), u6, u7, u8, u9], [], am_hp σ, t) Q := by
  obtain ⟨σ1, t1, c1, h1, f1, ht, hk, hv⟩ := lw_readsFor (t := t) h (scr_rg σ (x5 + 1).toNat) (scr_rg σ (x5 + 2).toNat)
  have ex : σ1.2.2.2.2 = σ.2.2.2.2 := f1.2.2
  have es := scr_eq ex
  have m1 := m.lw f1
  obtain ⟨σ2, c2, k2, q2⟩ := m_readsFor (t := t1) m1.1 m1.2.1 (scr_rg σ (x5 + 1).toNat) (scr_rg σ (x5 + 2).toNat)
  have m2 := m1.m q2
  have f2 := inQ_mo q2.1
  have h2 := h1.mo f2
  have c3 := s_thrown (t := t1) (σ := σ2)
  rw [k2] at c3
  have e70 := mo70 f2
  generalize A_readsFor (xA S) (scrZ σ (x5 + 1).toNat) (scrZ σ (x5 + 2).toNat) = rz at c1 c2 c3 hk hv
  rw [← iZ_toInt (iZ (moI rz))] at c2
  refine b_L_law_1529 (by omega) hl (by omega) (c1.up (by decide)) (by rw [ex]; omega) (by rw [ex]; exact hl) (by rw [ex]; omega) (by rw [es]; exact c2.up (by decide)) (c3.up (by decide)) (mo_rg hk) (mo_rg hk) (fun _ => ?_) (fun q => absurd rfl q)
  refine b_L_law_1577 (mo_rg hk) (fun _ => b_L_law_1594 (go _ σ2 t1 _ _ _ _ h2 m2 (f2.2.2.trans ex) ht)) (fun q => ?_)
  refine b_L_law_1582 (rg32 _) ycmp_rg (fun _ => b_L_law_1594 (go _ σ2 t1 _ _ _ _ h2 m2 (f2.2.2.trans ex) ht)) (fun z => absurd ?_ z)
  rw [e70, hv q]
  exact ycmp_s _
theorem lc_greatest {σ : SG} {t : KT} {Q : RS → Prop} {S : SS} {x5 : Int} {u6 u7 u8 u9 : Option AV} (h : CS S σ) (m : MS S σ) (hx : 0 ≤ x5 ∧ x5 + 5 < ((σ.2.2.2.2.1 : Nat) : Int)) (hl : Nat.ble σ.2.2.2.2.1 4000 = true) (go : GO σ t x5 Q) : Wp k_L_law 20 (1597, [some (aR (some (92, 0, 0))), some (aR (some (1, 0, 0))), some (aR (some (40, 0, 0))), some (aR (some (70, 0, 0))), some (aR (some (71, 0, 0))), some (aI (iZ x5)), u6, u7, u8, u9], [], am_hp σ, t) Q := by
  obtain ⟨σ1, t1, c1, h1, f1, ht, hk, hv⟩ := lw_greatest (t := t) h (scr_rg σ (x5 + 1).toNat)
  have ex : σ1.2.2.2.2 = σ.2.2.2.2 := f1.2.2
  have es := scr_eq ex
  have m1 := m.lw f1
  obtain ⟨σ2, c2, k2, q2⟩ := m_greatest (t := t1) m1.1 (scr_rg σ (x5 + 1).toNat)
  have m2 := m1.m q2
  have f2 := inQ_mo q2.1
  have h2 := h1.mo f2
  have c3 := s_thrown (t := t1) (σ := σ2)
  rw [k2] at c3
  have e70 := mo70 f2
  generalize A_greatest (xA S) (scrZ σ (x5 + 1).toNat) = rz at c1 c2 c3 hk hv
  rw [← iZ_toInt (iZ (moI rz))] at c2
  refine b_L_law_1597 (by omega) hl (c1.up (by decide)) (by rw [ex]; omega) (by rw [ex]; exact hl) (by rw [es]; exact c2.up (by decide)) (c3.up (by decide)) (mo_rg hk) (mo_rg hk) (fun _ => ?_) (fun q => absurd rfl q)
  refine b_L_law_1633 (mo_rg hk) (fun _ => b_L_law_1650 (go _ σ2 t1 _ _ _ _ h2 m2 (f2.2.2.trans ex) ht)) (fun q => ?_)
  refine b_L_law_1638 (rg32 _) ycmp_rg (fun _ => b_L_law_1650 (go _ σ2 t1 _ _ _ _ h2 m2 (f2.2.2.trans ex) ht)) (fun z => absurd ?_ z)
  rw [e70, hv q]
  exact ycmp_s _
theorem filled_ok {A : RA} (hA : Av A) : A_filled A &&& 0x7fffffff ≤ 0x7f800000 := by
  have hb := waA_bd hA
  have hn := nbA_bd hA
  unfold A_filled
  by_cases h0 : waA A = 0
  · rw [if_pos h0]
    decide +kernel
  · rw [if_neg h0]
    obtain ⟨w, hw⟩ := Int.eq_ofNat_of_zero_le hb.1
    obtain ⟨x, hx⟩ := Int.eq_ofNat_of_zero_le hn.1
    have hok := fdiv_ok (x := x) (w := w) (by omega)
    rw [← hx, ← hw] at hok
    exact hok
theorem lc_filled {σ : SG} {t : KT} {Q : RS → Prop} {S : SS} {x5 : Int} {u6 u7 u8 u9 : Option AV} (h : CS S σ) (m : MS S σ) (hx : 0 ≤ x5 ∧ x5 + 5 < ((σ.2.2.2.2.1 : Nat) : Int)) (hl : Nat.ble σ.2.2.2.2.1 4000 = true) (go : GO σ t x5 Q) : Wp k_L_law 20 (1653, [some (aR (some (92, 0, 0))), some (aR (some (1, 0, 0))), some (aR (some (40, 0, 0))), some (aR (some (70, 0, 0))), some (aR (some (71, 0, 0))), some (aI (iZ x5)), u6, u7, u8, u9], [], am_hp σ, t) Q := by
  have c1 := s_X11_filled (t := t) h.1
  obtain ⟨σ2, c2, k2, q2⟩ := m_filled (t := t) m.1 m.2.1
  have m2 := m.m q2
  have f2 := inQ_mo q2.1
  have h2 := h.mo f2
  have ok := f2d_ok (filled_ok h.1.1)
  have fin : ∀ z : UInt64, Wp k_L_law 20 (1693, [some (aR (some (92, 0, 0))), some (aR (some (1, 0, 0))), some (aR (some (40, 0, 0))), some (aR (some (70, 0, 0))), some (aR (some (71, 0, 0))), some (aI (iZ x5)), some (aD z), none, some (aD z), none], [], am_hp σ2, t) Q := fun z => b_L_law_1693 (go _ σ2 t _ _ _ _ h2 m2 f2.2.2 (Or.inl rfl))
  exact b_L_law_1653 (c1.up (by decide)) ok (c2.up (by decide)) ok (rg32 _) (fun _ => fin _) (fun q => b_L_law_1675 (rg32 _) (fun q1 => absurd q1 q) (fun _ => b_L_law_1683 (rg32 _) (fun _ => fin _) (fun q1 => absurd q1 q)))
theorem on_mean {S : SS} {r : Int} (c : Nat) : A_meanHeld (xA S) r = .inr c → c = 1 := by
  unfold A_meanHeld
  intro e
  split at e
  · split at e <;> cases e
  · cases e
    rfl
theorem lw_meanHeld {t : KT} {σ : SG} {S : SS} {r : Int} (h : CS S σ) (m : MS S σ) (h_r : -2147483648 ≤ r ∧ r < 2147483648) : ∃ σ' t', Ca 4 364 [aR (some (1, 0, 0)), aI (iZ r), aR (some (71, 0, 0))] (am_hp σ) t (.inl (some (aI (iZ (moCD (A_meanHeld (xA S) r))))), am_hp σ', t') ∧ CS S σ' ∧ MS S σ' ∧ σ'.2.2.2.2 = σ.2.2.2.2 ∧ (t' = t ∨ t' = bump t) ∧ (0 ≤ moCD (A_meanHeld (xA S) r) ∧ moCD (A_meanHeld (xA S) r) ≤ 2) ∧ (moCD (A_meanHeld (xA S) r) = 0 → σ'.2.2.1 (71, 0, 0) 0 = moD (A_meanHeld (xA S) r)) := by
  have cc := s_X11_meanHeld (t := t) h.1 h_r
  have on := on_mean (S := S) (r := r)
  generalize A_meanHeld (xA S) r = x at cc on ⊢
  refine ex2_of (e_L_meanHeld (d := 3) ?_)
  rcases x with v | c
  · have cc : Ca 3 114 [aR (some (1, 0, 0)), aI (iZ r)] (am_hp σ) t (.inl (some (aD v)), am_hp σ, t) := cc
    exact b_L_meanHeld_0 cc (b_L_meanHeld_14 ⟨_, t, rfl, h, m, rfl, Or.inl rfl, ⟨Int.le_refl 0, (by decide : (0 : Int) ≤ 2)⟩, fun _ => rfl⟩)
  · obtain rfl : c = 1 := on c rfl
    have cc : Ca 3 114 [aR (some (1, 0, 0)), aI (iZ r)] (am_hp σ) t (.inr 2, am_hp σ, bump t) := cc
    exact bh_L_meanHeld_0_2 cc (b_L_meanHeld_12 ⟨σ, bump t, rfl, h, m, rfl, Or.inr rfl, (by decide : 0 ≤ moCD (.inr 1) ∧ moCD (.inr 1) ≤ 2), fun q => absurd q (by decide)⟩)
theorem lc_meanHeld {σ : SG} {t : KT} {Q : RS → Prop} {S : SS} {x5 : Int} {u6 u7 u8 u9 : Option AV} (h : CS S σ) (m : MS S σ) (hx : 0 ≤ x5 ∧ x5 + 5 < ((σ.2.2.2.2.1 : Nat) : Int)) (hl : Nat.ble σ.2.2.2.2.1 4000 = true) (go : GO σ t x5 Q) : Wp k_L_law 20 (1696, [some (aR (some (92, 0, 0))), some (aR (some (1, 0, 0))), some (aR (some (40, 0, 0))), some (aR (some (70, 0, 0))), some (aR (some (71, 0, 0))), some (aI (iZ x5)), u6, u7, u8, u9], [], am_hp σ, t) Q := by
  obtain ⟨σ1, t1, c1, h1, m1, ex, ht, hk, hv⟩ := lw_meanHeld (t := t) h m (scr_rg σ (x5 + 1).toNat)
  have es := scr_eq ex
  obtain ⟨σ2, c2, k2, q2⟩ := m_meanHeld (t := t1) m1.1 m1.2.1 (scr_rg σ (x5 + 1).toNat)
  have m2 := m1.m q2
  have f2 := inQ_mo q2.1
  have h2 := h1.mo f2
  have c3 := s_thrown (t := t1) (σ := σ2)
  rw [k2] at c3
  have hv2 : moCD (A_meanHeld (xA S) (scrZ σ (x5 + 1).toNat)) = 0 → σ2.2.2.1 (71, 0, 0) 0 = moD (A_meanHeld (xA S) (scrZ σ (x5 + 1).toNat)) := fun q => by rw [f2.2.1]; exact hv q
  generalize A_meanHeld (xA S) (scrZ σ (x5 + 1).toNat) = r at c1 c2 c3 hk hv2
  refine b_L_law_1696 (by omega) hl (c1.up (by decide)) (by rw [ex]; omega) (by rw [ex]; exact hl) (by rw [es]; exact c2.up (by decide)) (c3.up (by decide)) (mo_rg hk) (mo_rg hk) (fun _ => ?_) (fun q => absurd rfl q)
  have fin : Wp k_L_law 20 (1770, [some (aR (some (92, 0, 0))), some (aR (some (1, 0, 0))), some (aR (some (40, 0, 0))), some (aR (some (70, 0, 0))), some (aR (some (71, 0, 0))), some (aI (iZ x5)), some (aI (iZ (moCD r))), some (aD (moD r)), none, u9], [], am_hp σ2, t1) Q := b_L_law_1770 (go _ σ2 t1 _ _ _ _ h2 m2 (f2.2.2.trans ex) ht)
  refine b_L_law_1733 (mo_rg hk) (fun _ => fin) (fun q => ?_)
  have e := hv2 q
  refine b_L_law_1738 (rg32 _) (fun _ => fin) (fun z => ?_)
  refine b_L_law_1748 (rg32 _) (fun z2 => absurd (by rw [e] at z2 ⊢; exact z2) z) (fun _ => ?_)
  exact b_L_law_1760 (rg32 _) (fun _ => fin) (fun z2 => absurd (by rw [e]; exact z2) z)
theorem lc_wordsBy {σ : SG} {t : KT} {Q : RS → Prop} {S : SS} {x5 : Int} {u6 u7 u8 u9 : Option AV} (h : CS S σ) (m : MS S σ) (hx : 0 ≤ x5 ∧ x5 + 5 < ((σ.2.2.2.2.1 : Nat) : Int)) (hl : Nat.ble σ.2.2.2.2.1 4000 = true) (go : GO σ t x5 Q) : Wp k_L_law 20 (1773, [some (aR (some (92, 0, 0))), some (aR (some (1, 0, 0))), some (aR (some (40, 0, 0))), some (aR (some (70, 0, 0))), some (aR (some (71, 0, 0))), some (aI (iZ x5)), u6, u7, u8, u9], [], am_hp σ, t) Q := by
  obtain ⟨σ1, t1, c1, h1, f1, ht, hk, hv⟩ := lw_wordsBy (t := t) h (scr_rg σ (x5 + 1).toNat) (scr_rg σ (x5 + 2).toNat)
  have ex : σ1.2.2.2.2 = σ.2.2.2.2 := f1.2.2
  have es := scr_eq ex
  have m1 := m.lw f1
  obtain ⟨σ2, c2, k2, q2⟩ := m_wordsBy (t := t1) m1.1 m1.2.1 (scr_rg σ (x5 + 1).toNat) (scr_rg σ (x5 + 2).toNat)
  have m2 := m1.m q2
  have f2 := inQ_mo q2.1
  have h2 := h1.mo f2
  have c3 := s_thrown (t := t1) (σ := σ2)
  rw [k2] at c3
  have e70 := mo70 f2
  generalize A_wordsBy (xA S) (scrZ σ (x5 + 1).toNat) (scrZ σ (x5 + 2).toNat) = rz at c1 c2 c3 hk hv
  rw [← iZ_toInt (iZ (moI rz))] at c2
  refine b_L_law_1773 (by omega) hl (by omega) (c1.up (by decide)) (by rw [ex]; omega) (by rw [ex]; exact hl) (by rw [ex]; omega) (by rw [es]; exact c2.up (by decide)) (c3.up (by decide)) (mo_rg hk) (mo_rg hk) (fun _ => ?_) (fun q => absurd rfl q)
  refine b_L_law_1821 (mo_rg hk) (fun _ => b_L_law_1838 (go _ σ2 t1 _ _ _ _ h2 m2 (f2.2.2.trans ex) ht)) (fun q => ?_)
  refine b_L_law_1826 (rg32 _) ycmp_rg (fun _ => b_L_law_1838 (go _ σ2 t1 _ _ _ _ h2 m2 (f2.2.2.trans ex) ht)) (fun z => absurd ?_ z)
  rw [e70, hv q]
  exact ycmp_s _
theorem lc_priceBy {σ : SG} {t : KT} {Q : RS → Prop} {S : SS} {x5 : Int} {u6 u7 u8 u9 : Option AV} (h : CS S σ) (m : MS S σ) (hx : 0 ≤ x5 ∧ x5 + 5 < ((σ.2.2.2.2.1 : Nat) : Int)) (hl : Nat.ble σ.2.2.2.2.1 4000 = true) (go : GO σ t x5 Q) : Wp k_L_law 20 (1841, [some (aR (some (92, 0, 0))), some (aR (some (1, 0, 0))), some (aR (some (40, 0, 0))), some (aR (some (70, 0, 0))), some (aR (some (71, 0, 0))), some (aI (iZ x5)), u6, u7, u8, u9], [], am_hp σ, t) Q := by
  obtain ⟨σ1, t1, c1, h1, f1, ht, hk, hv⟩ := lw_priceBy (t := t) h (scr_rg σ (x5 + 1).toNat) (scr_rg σ (x5 + 2).toNat)
  have ex : σ1.2.2.2.2 = σ.2.2.2.2 := f1.2.2
  have es := scr_eq ex
  have m1 := m.lw f1
  obtain ⟨σ2, c2, k2, q2⟩ := m_priceBy (t := t1) m1.1 m1.2.1 (scr_rg σ (x5 + 1).toNat) (scr_rg σ (x5 + 2).toNat)
  have m2 := m1.m q2
  have f2 := inQ_mo q2.1
  have h2 := h1.mo f2
  have c3 := s_thrown (t := t1) (σ := σ2)
  rw [k2] at c3
  have e70 := mo70 f2
  generalize A_priceBy (xA S) (scrZ σ (x5 + 1).toNat) (scrZ σ (x5 + 2).toNat) = rz at c1 c2 c3 hk hv
  rw [← iZ_toInt (iZ (moI rz))] at c2
  refine b_L_law_1841 (by omega) hl (by omega) (c1.up (by decide)) (by rw [ex]; omega) (by rw [ex]; exact hl) (by rw [ex]; omega) (by rw [es]; exact c2.up (by decide)) (c3.up (by decide)) (mo_rg hk) (mo_rg hk) (fun _ => ?_) (fun q => absurd rfl q)
  refine b_L_law_1889 (mo_rg hk) (fun _ => b_L_law_1906 (go _ σ2 t1 _ _ _ _ h2 m2 (f2.2.2.trans ex) ht)) (fun q => ?_)
  refine b_L_law_1894 (rg32 _) ycmp_rg (fun _ => b_L_law_1906 (go _ σ2 t1 _ _ _ _ h2 m2 (f2.2.2.trans ex) ht)) (fun z => absurd ?_ z)
  rw [e70, hv q]
  exact ycmp_s _
theorem lc_wordsIf {σ : SG} {t : KT} {Q : RS → Prop} {S : SS} {x5 : Int} {u6 u7 u8 u9 : Option AV} (h : CS S σ) (m : MS S σ) (hx : 0 ≤ x5 ∧ x5 + 5 < ((σ.2.2.2.2.1 : Nat) : Int)) (hl : Nat.ble σ.2.2.2.2.1 4000 = true) (go : GO σ t x5 Q) : Wp k_L_law 20 (1909, [some (aR (some (92, 0, 0))), some (aR (some (1, 0, 0))), some (aR (some (40, 0, 0))), some (aR (some (70, 0, 0))), some (aR (some (71, 0, 0))), some (aI (iZ x5)), u6, u7, u8, u9], [], am_hp σ, t) Q := by
  obtain ⟨σ1, t1, c1, h1, f1, ht, hk, hv⟩ := lw_wordsIf (t := t) h (scr_rg σ (x5 + 1).toNat) (scr_rg σ (x5 + 2).toNat) (scr_rg σ (x5 + 3).toNat)
  have ex : σ1.2.2.2.2 = σ.2.2.2.2 := f1.2.2
  have es := scr_eq ex
  have m1 := m.lw f1
  obtain ⟨σ2, c2, k2, q2⟩ := m_wordsIf (t := t1) m1.1 m1.2.1 (scr_rg σ (x5 + 1).toNat) (scr_rg σ (x5 + 2).toNat) (scr_rg σ (x5 + 3).toNat)
  have m2 := m1.m q2
  have f2 := inQ_mo q2.1
  have h2 := h1.mo f2
  have c3 := s_thrown (t := t1) (σ := σ2)
  rw [k2] at c3
  have e70 := mo70 f2
  generalize A_wordsIf (xA S) (scrZ σ (x5 + 1).toNat) (scrZ σ (x5 + 2).toNat) (scrZ σ (x5 + 3).toNat) = rz at c1 c2 c3 hk hv
  rw [← iZ_toInt (iZ (moI rz))] at c2
  refine b_L_law_1909 (by omega) hl (by omega) (by omega) (c1.up (by decide)) (by rw [ex]; omega) (by rw [ex]; exact hl) (by rw [ex]; omega) (by rw [ex]; omega) (by rw [es]; exact c2.up (by decide)) (c3.up (by decide)) (mo_rg hk) (mo_rg hk) (fun _ => ?_) (fun q => absurd rfl q)
  refine b_L_law_1969 (mo_rg hk) (fun _ => b_L_law_1986 (go _ σ2 t1 _ _ _ _ h2 m2 (f2.2.2.trans ex) ht)) (fun q => ?_)
  refine b_L_law_1974 (rg32 _) ycmp_rg (fun _ => b_L_law_1986 (go _ σ2 t1 _ _ _ _ h2 m2 (f2.2.2.trans ex) ht)) (fun z => absurd ?_ z)
  rw [e70, hv q]
  exact ycmp_s _
theorem lc_bestRemove {σ : SG} {t : KT} {Q : RS → Prop} {S : SS} {x5 : Int} {u6 u7 u8 u9 : Option AV} (h : CS S σ) (m : MS S σ) (hx : 0 ≤ x5 ∧ x5 + 5 < ((σ.2.2.2.2.1 : Nat) : Int)) (hl : Nat.ble σ.2.2.2.2.1 4000 = true) (go : GO σ t x5 Q) : Wp k_L_law 20 (1989, [some (aR (some (92, 0, 0))), some (aR (some (1, 0, 0))), some (aR (some (40, 0, 0))), some (aR (some (70, 0, 0))), some (aR (some (71, 0, 0))), some (aI (iZ x5)), u6, u7, u8, u9], [], am_hp σ, t) Q := by
  obtain ⟨σ1, t1, c1, h1, f1, ht, hk, hv⟩ := lw_bestRemove (t := t) h (scr_rg σ (x5 + 1).toNat)
  have ex : σ1.2.2.2.2 = σ.2.2.2.2 := f1.2.2
  have es := scr_eq ex
  have m1 := m.lw f1
  obtain ⟨σ2, c2, k2, q2⟩ := m_bestRemove (t := t1) m1.1 m1.2.1 (scr_rg σ (x5 + 1).toNat)
  have m2 := m1.m q2
  have f2 := inQ_mo q2.1
  have h2 := h1.mo f2
  have c3 := s_thrown (t := t1) (σ := σ2)
  rw [k2] at c3
  have e70 := mo70 f2
  generalize A_bestRemove (xA S) (scrZ σ (x5 + 1).toNat) = rz at c1 c2 c3 hk hv
  rw [← iZ_toInt (iZ (moI rz))] at c2
  refine b_L_law_1989 (by omega) hl (c1.up (by decide)) (by rw [ex]; omega) (by rw [ex]; exact hl) (by rw [es]; exact c2.up (by decide)) (c3.up (by decide)) (mo_rg hk) (mo_rg hk) (fun _ => ?_) (fun q => absurd rfl q)
  refine b_L_law_2025 (mo_rg hk) (fun _ => b_L_law_2042 (go _ σ2 t1 _ _ _ _ h2 m2 (f2.2.2.trans ex) ht)) (fun q => ?_)
  refine b_L_law_2030 (rg32 _) ycmp_rg (fun _ => b_L_law_2042 (go _ σ2 t1 _ _ _ _ h2 m2 (f2.2.2.trans ex) ht)) (fun z => absurd ?_ z)
  rw [e70, hv q]
  exact ycmp_s _
theorem lc_dearWay {σ : SG} {t : KT} {Q : RS → Prop} {S : SS} {x5 : Int} {u6 u7 u8 u9 : Option AV} (h : CS S σ) (m : MS S σ) (hx : 0 ≤ x5 ∧ x5 + 5 < ((σ.2.2.2.2.1 : Nat) : Int)) (hl : Nat.ble σ.2.2.2.2.1 4000 = true) (go : GO σ t x5 Q) : Wp k_L_law 20 (2045, [some (aR (some (92, 0, 0))), some (aR (some (1, 0, 0))), some (aR (some (40, 0, 0))), some (aR (some (70, 0, 0))), some (aR (some (71, 0, 0))), some (aI (iZ x5)), u6, u7, u8, u9], [], am_hp σ, t) Q := by
  obtain ⟨σ1, t1, c1, h1, f1, ht, hk, hv⟩ := lw_dearWay (t := t) h (scr_rg σ (x5 + 1).toNat)
  have ex : σ1.2.2.2.2 = σ.2.2.2.2 := f1.2.2
  have es := scr_eq ex
  have m1 := m.lw f1
  obtain ⟨σ2, c2, k2, q2⟩ := m_dearWay (t := t1) m1.1 m1.2.1 (scr_rg σ (x5 + 1).toNat)
  have m2 := m1.m q2
  have f2 := inQ_mo q2.1
  have h2 := h1.mo f2
  have c3 := s_thrown (t := t1) (σ := σ2)
  rw [k2] at c3
  have e70 := mo70 f2
  generalize A_dearWay (xA S) (scrZ σ (x5 + 1).toNat) = rz at c1 c2 c3 hk hv
  rw [← iZ_toInt (iZ (moI rz))] at c2
  refine b_L_law_2045 (by omega) hl (c1.up (by decide)) (by rw [ex]; omega) (by rw [ex]; exact hl) (by rw [es]; exact c2.up (by decide)) (c3.up (by decide)) (mo_rg hk) (mo_rg hk) (fun _ => ?_) (fun q => absurd rfl q)
  refine b_L_law_2081 (mo_rg hk) (fun _ => b_L_law_2098 (go _ σ2 t1 _ _ _ _ h2 m2 (f2.2.2.trans ex) ht)) (fun q => ?_)
  refine b_L_law_2086 (rg32 _) ycmp_rg (fun _ => b_L_law_2098 (go _ σ2 t1 _ _ _ _ h2 m2 (f2.2.2.trans ex) ht)) (fun z => absurd ?_ z)
  rw [e70, hv q]
  exact ycmp_s _
theorem lc_wordsTogether {σ : SG} {t : KT} {Q : RS → Prop} {S : SS} {x5 : Int} {u6 u7 u8 u9 : Option AV} (h : CS S σ) (m : MS S σ) (hx : 0 ≤ x5 ∧ x5 + 5 < ((σ.2.2.2.2.1 : Nat) : Int)) (hl : Nat.ble σ.2.2.2.2.1 4000 = true) (go : GO σ t x5 Q) : Wp k_L_law 20 (2101, [some (aR (some (92, 0, 0))), some (aR (some (1, 0, 0))), some (aR (some (40, 0, 0))), some (aR (some (70, 0, 0))), some (aR (some (71, 0, 0))), some (aI (iZ x5)), u6, u7, u8, u9], [], am_hp σ, t) Q := by
  obtain ⟨σ1, t1, c1, h1, f1, ht, hk, hv⟩ := lw_wordsTogether (t := t) h (scr_rg σ (x5 + 1).toNat) (scr_rg σ (x5 + 2).toNat)
  have ex : σ1.2.2.2.2 = σ.2.2.2.2 := f1.2.2
  have es := scr_eq ex
  have m1 := m.lw f1
  obtain ⟨σ2, c2, k2, q2⟩ := m_wordsTogether (t := t1) m1.1 m1.2.1 (scr_rg σ (x5 + 1).toNat) (scr_rg σ (x5 + 2).toNat)
  have m2 := m1.m q2
  have f2 := inQ_mo q2.1
  have h2 := h1.mo f2
  have c3 := s_thrown (t := t1) (σ := σ2)
  rw [k2] at c3
  have e70 := mo70 f2
  generalize A_wordsTogether (xA S) (scrZ σ (x5 + 1).toNat) (scrZ σ (x5 + 2).toNat) = rz at c1 c2 c3 hk hv
  rw [← iZ_toInt (iZ (moI rz))] at c2
  refine b_L_law_2101 (by omega) hl (by omega) (c1.up (by decide)) (by rw [ex]; omega) (by rw [ex]; exact hl) (by rw [ex]; omega) (by rw [es]; exact c2.up (by decide)) (c3.up (by decide)) (mo_rg hk) (mo_rg hk) (fun _ => ?_) (fun q => absurd rfl q)
  refine b_L_law_2149 (mo_rg hk) (fun _ => b_L_law_2166 (go _ σ2 t1 _ _ _ _ h2 m2 (f2.2.2.trans ex) ht)) (fun q => ?_)
  refine b_L_law_2154 (rg32 _) ycmp_rg (fun _ => b_L_law_2166 (go _ σ2 t1 _ _ _ _ h2 m2 (f2.2.2.trans ex) ht)) (fun z => absurd ?_ z)
  rw [e70, hv q]
  exact ycmp_s _
theorem lc_bestSkip {σ : SG} {t : KT} {Q : RS → Prop} {S : SS} {x5 : Int} {u6 u7 u8 u9 : Option AV} (h : CS S σ) (m : MS S σ) (hx : 0 ≤ x5 ∧ x5 + 5 < ((σ.2.2.2.2.1 : Nat) : Int)) (hl : Nat.ble σ.2.2.2.2.1 4000 = true) (go : GO σ t x5 Q) : Wp k_L_law 20 (2169, [some (aR (some (92, 0, 0))), some (aR (some (1, 0, 0))), some (aR (some (40, 0, 0))), some (aR (some (70, 0, 0))), some (aR (some (71, 0, 0))), some (aI (iZ x5)), u6, u7, u8, u9], [], am_hp σ, t) Q := by
  obtain ⟨σ1, t1, c1, h1, f1, ht, hk, hv⟩ := lw_bestSkip (t := t) h (scr_rg σ (x5 + 1).toNat)
  have ex : σ1.2.2.2.2 = σ.2.2.2.2 := f1.2.2
  have es := scr_eq ex
  have m1 := m.lw f1
  obtain ⟨σ2, c2, k2, q2⟩ := m_bestSkip (t := t1) m1.1 m1.2.1 (scr_rg σ (x5 + 1).toNat)
  have m2 := m1.m q2
  have f2 := inQ_mo q2.1
  have h2 := h1.mo f2
  have c3 := s_thrown (t := t1) (σ := σ2)
  rw [k2] at c3
  have e70 := mo70 f2
  generalize A_bestSkip (xA S) (scrZ σ (x5 + 1).toNat) = rz at c1 c2 c3 hk hv
  rw [← iZ_toInt (iZ (moI rz))] at c2
  refine b_L_law_2169 (by omega) hl (c1.up (by decide)) (by rw [ex]; omega) (by rw [ex]; exact hl) (by rw [es]; exact c2.up (by decide)) (c3.up (by decide)) (mo_rg hk) (mo_rg hk) (fun _ => ?_) (fun q => absurd rfl q)
  refine b_L_law_2205 (mo_rg hk) (fun _ => b_L_law_2222 (go _ σ2 t1 _ _ _ _ h2 m2 (f2.2.2.trans ex) ht)) (fun q => ?_)
  refine b_L_law_2210 (rg32 _) ycmp_rg (fun _ => b_L_law_2222 (go _ σ2 t1 _ _ _ _ h2 m2 (f2.2.2.trans ex) ht)) (fun z => absurd ?_ z)
  rw [e70, hv q]
  exact ycmp_s _
theorem lc_add {σ : SG} {t : KT} {Q : RS → Prop} {S : SS} {x5 : Int} {u6 u7 u8 u9 : Option AV} (h : CS S σ) (m : MS S σ) (hx : 0 ≤ x5 ∧ x5 + 5 < ((σ.2.2.2.2.1 : Nat) : Int)) (hl : Nat.ble σ.2.2.2.2.1 4000 = true) (go : GO σ t x5 Q) : Wp k_L_law 20 (2225, [some (aR (some (92, 0, 0))), some (aR (some (1, 0, 0))), some (aR (some (40, 0, 0))), some (aR (some (70, 0, 0))), some (aR (some (71, 0, 0))), some (aI (iZ x5)), u6, u7, u8, u9], [], am_hp σ, t) Q := by
  obtain ⟨σ1, c1, h1, fp⟩ := s_X11_add (t := t) h
  have f1 : Fr inLw σ σ1 := fp.mono (fun L q => by simp only [inN, inCa, inR, inLw] at *; omega)
  have m1 := m.lw f1
  obtain ⟨σ2, c2, k2, m2, f2⟩ := m_add (t := t) m1
  have h2 := h1.mo f2
  rw [← iZ_toInt (iZ (A_add S))] at c1 c2
  exact b_L_law_2225 (c1.up (by decide)) (c2.up (by decide)) (rg32 _) (rg32 _) (fun _ => go _ σ2 t _ _ _ _ h2 m2 (f2.2.2.trans f1.2.2) (Or.inl rfl)) (fun q => absurd rfl q)
theorem lc_append {σ : SG} {t : KT} {Q : RS → Prop} {S : SS} {x5 : Int} {u6 u7 u8 u9 : Option AV} (h : CS S σ) (m : MS S σ) (hx : 0 ≤ x5 ∧ x5 + 5 < ((σ.2.2.2.2.1 : Nat) : Int)) (hl : Nat.ble σ.2.2.2.2.1 4000 = true) (go : GO σ t x5 Q) : Wp k_L_law 20 (2238, [some (aR (some (92, 0, 0))), some (aR (some (1, 0, 0))), some (aR (some (40, 0, 0))), some (aR (some (70, 0, 0))), some (aR (some (71, 0, 0))), some (aI (iZ x5)), u6, u7, u8, u9], [], am_hp σ, t) Q := by
  obtain ⟨σ1, t1, c1, h1, f1, ht, hk, hv⟩ := lw_append (t := t) h (scr_rg σ (x5 + 1).toNat) (scr_rg σ (x5 + 2).toNat)
  have ex : σ1.2.2.2.2 = σ.2.2.2.2 := f1.2.2
  have es := scr_eq ex
  have m1 := m.lw f1
  obtain ⟨σ2, c2, k2, m2, f2⟩ := m_append (t := t1) (σ.1 (7, 30, 0) 4) (σ.1 (7, 30, 0) 5) m1 (scr_rg σ (x5 + 1).toNat) (scr_rg σ (x5 + 2).toNat)
  have h2 := h1.mo f2
  have c3 := s_thrown (t := t1) (σ := σ2)
  rw [k2] at c3
  have e70 := mo70 f2
  generalize R_call S 1 [] (scrZ σ (x5 + 1).toNat) (σ.1 (7, 30, 0) 4) (σ.1 (7, 30, 0) 5) (scrZ σ (x5 + 2).toNat) = rz at c1 c2 c3 hk hv
  rw [← iZ_toInt (iZ (moI rz))] at c2
  refine b_L_law_2238 (by omega) hl (by omega) (c1.up (by decide)) (by rw [ex]; omega) (by rw [ex]; exact hl) (by rw [ex]; omega) (by rw [es]; exact c2.up (by decide)) (c3.up (by decide)) (mo_rg hk) (mo_rg hk) (fun _ => ?_) (fun q => absurd rfl q)
  refine b_L_law_2286 (mo_rg hk) (fun _ => b_L_law_2303 (go _ σ2 t1 _ _ _ _ h2 m2 (f2.2.2.trans ex) ht)) (fun q => ?_)
  refine b_L_law_2291 (rg32 _) ycmp_rg (fun _ => b_L_law_2303 (go _ σ2 t1 _ _ _ _ h2 m2 (f2.2.2.trans ex) ht)) (fun z => absurd ?_ z)
  rw [e70, hv q]
  exact ycmp_s _
theorem lc_put {σ : SG} {t : KT} {Q : RS → Prop} {S : SS} {x5 : Int} {u6 u7 u8 u9 : Option AV} (h : CS S σ) (m : MS S σ) (hx : 0 ≤ x5 ∧ x5 + 5 < ((σ.2.2.2.2.1 : Nat) : Int)) (hl : Nat.ble σ.2.2.2.2.1 4000 = true) (go : GO σ t x5 Q) : Wp k_L_law 20 (2306, [some (aR (some (92, 0, 0))), some (aR (some (1, 0, 0))), some (aR (some (40, 0, 0))), some (aR (some (70, 0, 0))), some (aR (some (71, 0, 0))), some (aI (iZ x5)), u6, u7, u8, u9], [], am_hp σ, t) Q := by
  obtain ⟨σ1, t1, c1, h1, f1, ht, hk, hv⟩ := lw_put (t := t) h (scr_rg σ (x5 + 1).toNat) (scr_rg σ (x5 + 2).toNat) (scr_rg σ (x5 + 3).toNat)
  have ex : σ1.2.2.2.2 = σ.2.2.2.2 := f1.2.2
  have es := scr_eq ex
  have m1 := m.lw f1
  obtain ⟨σ2, c2, k2, m2, f2⟩ := m_put (t := t1) (σ.1 (7, 30, 0) 4) m1 (scr_rg σ (x5 + 1).toNat) (scr_rg σ (x5 + 2).toNat) (scr_rg σ (x5 + 3).toNat)
  have h2 := h1.mo f2
  have c3 := s_thrown (t := t1) (σ := σ2)
  rw [k2] at c3
  have e70 := mo70 f2
  generalize R_call S 2 [] (scrZ σ (x5 + 1).toNat) (σ.1 (7, 30, 0) 4) (scrZ σ (x5 + 2).toNat) (scrZ σ (x5 + 3).toNat) = rz at c1 c2 c3 hk hv
  rw [← iZ_toInt (iZ (moI rz))] at c2
  refine b_L_law_2306 (by omega) hl (by omega) (by omega) (c1.up (by decide)) (by rw [ex]; omega) (by rw [ex]; exact hl) (by rw [ex]; omega) (by rw [ex]; omega) (by rw [es]; exact c2.up (by decide)) (c3.up (by decide)) (mo_rg hk) (mo_rg hk) (fun _ => ?_) (fun q => absurd rfl q)
  refine b_L_law_2366 (mo_rg hk) (fun _ => b_L_law_2383 (go _ σ2 t1 _ _ _ _ h2 m2 (f2.2.2.trans ex) ht)) (fun q => ?_)
  refine b_L_law_2371 (rg32 _) ycmp_rg (fun _ => b_L_law_2383 (go _ σ2 t1 _ _ _ _ h2 m2 (f2.2.2.trans ex) ht)) (fun z => absurd ?_ z)
  rw [e70, hv q]
  exact ycmp_s _
theorem lc_insert {σ : SG} {t : KT} {Q : RS → Prop} {S : SS} {x5 : Int} {u6 u7 u8 u9 : Option AV} (h : CS S σ) (m : MS S σ) (hx : 0 ≤ x5 ∧ x5 + 5 < ((σ.2.2.2.2.1 : Nat) : Int)) (hl : Nat.ble σ.2.2.2.2.1 4000 = true) (go : GO σ t x5 Q) : Wp k_L_law 20 (2386, [some (aR (some (92, 0, 0))), some (aR (some (1, 0, 0))), some (aR (some (40, 0, 0))), some (aR (some (70, 0, 0))), some (aR (some (71, 0, 0))), some (aI (iZ x5)), u6, u7, u8, u9], [], am_hp σ, t) Q := by
  obtain ⟨σ1, t1, c1, h1, f1, ht, hk, hv⟩ := lw_insert (t := t) h (scr_rg σ (x5 + 1).toNat) (scr_rg σ (x5 + 2).toNat) (scr_rg σ (x5 + 3).toNat)
  have ex : σ1.2.2.2.2 = σ.2.2.2.2 := f1.2.2
  have es := scr_eq ex
  have m1 := m.lw f1
  obtain ⟨σ2, c2, k2, m2, f2⟩ := m_insert (t := t1) (σ.1 (7, 30, 0) 4) m1 (scr_rg σ (x5 + 1).toNat) (scr_rg σ (x5 + 2).toNat) (scr_rg σ (x5 + 3).toNat)
  have h2 := h1.mo f2
  have c3 := s_thrown (t := t1) (σ := σ2)
  rw [k2] at c3
  have e70 := mo70 f2
  generalize R_call S 3 [] (scrZ σ (x5 + 1).toNat) (σ.1 (7, 30, 0) 4) (scrZ σ (x5 + 2).toNat) (scrZ σ (x5 + 3).toNat) = rz at c1 c2 c3 hk hv
  rw [← iZ_toInt (iZ (moI rz))] at c2
  refine b_L_law_2386 (by omega) hl (by omega) (by omega) (c1.up (by decide)) (by rw [ex]; omega) (by rw [ex]; exact hl) (by rw [ex]; omega) (by rw [ex]; omega) (by rw [es]; exact c2.up (by decide)) (c3.up (by decide)) (mo_rg hk) (mo_rg hk) (fun _ => ?_) (fun q => absurd rfl q)
  refine b_L_law_2446 (mo_rg hk) (fun _ => b_L_law_2463 (go _ σ2 t1 _ _ _ _ h2 m2 (f2.2.2.trans ex) ht)) (fun q => ?_)
  refine b_L_law_2451 (rg32 _) ycmp_rg (fun _ => b_L_law_2463 (go _ σ2 t1 _ _ _ _ h2 m2 (f2.2.2.trans ex) ht)) (fun z => absurd ?_ z)
  rw [e70, hv q]
  exact ycmp_s _
theorem lc_remove {σ : SG} {t : KT} {Q : RS → Prop} {S : SS} {x5 : Int} {u6 u7 u8 u9 : Option AV} (h : CS S σ) (m : MS S σ) (hx : 0 ≤ x5 ∧ x5 + 5 < ((σ.2.2.2.2.1 : Nat) : Int)) (hl : Nat.ble σ.2.2.2.2.1 4000 = true) (go : GO σ t x5 Q) : Wp k_L_law 20 (2466, [some (aR (some (92, 0, 0))), some (aR (some (1, 0, 0))), some (aR (some (40, 0, 0))), some (aR (some (70, 0, 0))), some (aR (some (71, 0, 0))), some (aI (iZ x5)), u6, u7, u8, u9], [], am_hp σ, t) Q := by
  obtain ⟨σ1, t1, c1, h1, f1, ht, hk, hv⟩ := lw_remove (t := t) h (scr_rg σ (x5 + 1).toNat) (scr_rg σ (x5 + 2).toNat)
  have ex : σ1.2.2.2.2 = σ.2.2.2.2 := f1.2.2
  have es := scr_eq ex
  have m1 := m.lw f1
  obtain ⟨σ2, c2, k2, m2, f2⟩ := m_remove (t := t1) (σ.1 (7, 30, 0) 4) (σ.1 (7, 30, 0) 6) m1 (scr_rg σ (x5 + 1).toNat) (scr_rg σ (x5 + 2).toNat)
  have h2 := h1.mo f2
  have c3 := s_thrown (t := t1) (σ := σ2)
  rw [k2] at c3
  have e70 := mo70 f2
  generalize R_call S 4 [] (scrZ σ (x5 + 1).toNat) (σ.1 (7, 30, 0) 4) (scrZ σ (x5 + 2).toNat) (σ.1 (7, 30, 0) 6) = rz at c1 c2 c3 hk hv
  rw [← iZ_toInt (iZ (moI rz))] at c2
  refine b_L_law_2466 (by omega) hl (by omega) (c1.up (by decide)) (by rw [ex]; omega) (by rw [ex]; exact hl) (by rw [ex]; omega) (by rw [es]; exact c2.up (by decide)) (c3.up (by decide)) (mo_rg hk) (mo_rg hk) (fun _ => ?_) (fun q => absurd rfl q)
  refine b_L_law_2514 (mo_rg hk) (fun _ => b_L_law_2531 (go _ σ2 t1 _ _ _ _ h2 m2 (f2.2.2.trans ex) ht)) (fun q => ?_)
  refine b_L_law_2519 (rg32 _) ycmp_rg (fun _ => b_L_law_2531 (go _ σ2 t1 _ _ _ _ h2 m2 (f2.2.2.trans ex) ht)) (fun z => absurd ?_ z)
  rw [e70, hv q]
  exact ycmp_s _
theorem lc_join {σ : SG} {t : KT} {Q : RS → Prop} {S : SS} {x5 : Int} {u6 u7 u8 u9 : Option AV} (h : CS S σ) (m : MS S σ) (hx : 0 ≤ x5 ∧ x5 + 5 < ((σ.2.2.2.2.1 : Nat) : Int)) (hl : Nat.ble σ.2.2.2.2.1 4000 = true) (go : GO σ t x5 Q) : Wp k_L_law 20 (2534, [some (aR (some (92, 0, 0))), some (aR (some (1, 0, 0))), some (aR (some (40, 0, 0))), some (aR (some (70, 0, 0))), some (aR (some (71, 0, 0))), some (aI (iZ x5)), u6, u7, u8, u9], [], am_hp σ, t) Q := by
  obtain ⟨σ1, t1, c1, h1, f1, ht, hk, hv⟩ := lw_join (t := t) h (scr_rg σ (x5 + 1).toNat) (scr_rg σ (x5 + 2).toNat)
  have ex : σ1.2.2.2.2 = σ.2.2.2.2 := f1.2.2
  have es := scr_eq ex
  have m1 := m.lw f1
  obtain ⟨σ2, c2, k2, m2, f2⟩ := m_join (t := t1) (σ.1 (7, 30, 0) 5) (σ.1 (7, 30, 0) 6) m1 (scr_rg σ (x5 + 1).toNat) (scr_rg σ (x5 + 2).toNat)
  have h2 := h1.mo f2
  have c3 := s_thrown (t := t1) (σ := σ2)
  rw [k2] at c3
  have e70 := mo70 f2
  generalize R_call S 5 [] (scrZ σ (x5 + 1).toNat) (scrZ σ (x5 + 2).toNat) (σ.1 (7, 30, 0) 5) (σ.1 (7, 30, 0) 6) = rz at c1 c2 c3 hk hv
  rw [← iZ_toInt (iZ (moI rz))] at c2
  refine b_L_law_2534 (by omega) hl (by omega) (c1.up (by decide)) (by rw [ex]; omega) (by rw [ex]; exact hl) (by rw [ex]; omega) (by rw [es]; exact c2.up (by decide)) (c3.up (by decide)) (mo_rg hk) (mo_rg hk) (fun _ => ?_) (fun q => absurd rfl q)
  refine b_L_law_2582 (mo_rg hk) (fun _ => b_L_law_2599 (go _ σ2 t1 _ _ _ _ h2 m2 (f2.2.2.trans ex) ht)) (fun q => ?_)
  refine b_L_law_2587 (rg32 _) ycmp_rg (fun _ => b_L_law_2599 (go _ σ2 t1 _ _ _ _ h2 m2 (f2.2.2.trans ex) ht)) (fun z => absurd ?_ z)
  rw [e70, hv q]
  exact ycmp_s _
theorem lc_setRule {σ : SG} {t : KT} {Q : RS → Prop} {S : SS} {x5 : Int} {u6 u7 u8 u9 : Option AV} (h : CS S σ) (m : MS S σ) (hx : 0 ≤ x5 ∧ x5 + 5 < ((σ.2.2.2.2.1 : Nat) : Int)) (hl : Nat.ble σ.2.2.2.2.1 4000 = true) (go : GO σ t x5 Q) : Wp k_L_law 20 (2602, [some (aR (some (92, 0, 0))), some (aR (some (1, 0, 0))), some (aR (some (40, 0, 0))), some (aR (some (70, 0, 0))), some (aR (some (71, 0, 0))), some (aI (iZ x5)), u6, u7, u8, u9], [], am_hp σ, t) Q := by
  obtain ⟨σ1, t1, c1, h1, f1, ht, hk, hv⟩ := lw_setRule (t := t) h (scr_rg σ (x5 + 1).toNat)
  have ex : σ1.2.2.2.2 = σ.2.2.2.2 := f1.2.2
  have es := scr_eq ex
  have m1 := m.lw f1
  obtain ⟨σ2, c2, k2, m2, f2⟩ := m_setRule (t := t1) m1 (scr_rg σ (x5 + 1).toNat)
  have h2 := h1.mo f2
  have c3 := s_thrown (t := t1) (σ := σ2)
  rw [k2] at c3
  have e70 := mo70 f2
  generalize A_setRule S (scrZ σ (x5 + 1).toNat) = rz at c1 c2 c3 hk hv
  rw [← iZ_toInt (iZ (moI rz))] at c2
  refine b_L_law_2602 (by omega) hl (c1.up (by decide)) (by rw [ex]; omega) (by rw [ex]; exact hl) (by rw [es]; exact c2.up (by decide)) (c3.up (by decide)) (mo_rg hk) (mo_rg hk) (fun _ => ?_) (fun q => absurd rfl q)
  refine b_L_law_2638 (mo_rg hk) (fun _ => b_L_law_2655 (go _ σ2 t1 _ _ _ _ h2 m2 (f2.2.2.trans ex) ht)) (fun q => ?_)
  refine b_L_law_2643 (rg32 _) ycmp_rg (fun _ => b_L_law_2655 (go _ σ2 t1 _ _ _ _ h2 m2 (f2.2.2.trans ex) ht)) (fun z => absurd ?_ z)
  rw [e70, hv q]
  exact ycmp_s _
theorem lc_setSkip {σ : SG} {t : KT} {Q : RS → Prop} {S : SS} {x5 : Int} {u6 u7 u8 u9 : Option AV} (h : CS S σ) (m : MS S σ) (hx : 0 ≤ x5 ∧ x5 + 5 < ((σ.2.2.2.2.1 : Nat) : Int)) (hl : Nat.ble σ.2.2.2.2.1 4000 = true) (go : GO σ t x5 Q) : Wp k_L_law 20 (2658, [some (aR (some (92, 0, 0))), some (aR (some (1, 0, 0))), some (aR (some (40, 0, 0))), some (aR (some (70, 0, 0))), some (aR (some (71, 0, 0))), some (aI (iZ x5)), u6, u7, u8, u9], [], am_hp σ, t) Q := by
  obtain ⟨σ1, t1, c1, h1, f1, ht, hk, hv⟩ := lw_setSkip (t := t) h (scr_rg σ (x5 + 1).toNat)
  have ex : σ1.2.2.2.2 = σ.2.2.2.2 := f1.2.2
  have es := scr_eq ex
  have m1 := m.lw f1
  obtain ⟨σ2, c2, k2, m2, f2⟩ := m_setSkip (t := t1) m1 (scr_rg σ (x5 + 1).toNat)
  have h2 := h1.mo f2
  have c3 := s_thrown (t := t1) (σ := σ2)
  rw [k2] at c3
  have e70 := mo70 f2
  generalize A_setSkip S (scrZ σ (x5 + 1).toNat) = rz at c1 c2 c3 hk hv
  rw [← iZ_toInt (iZ (moI rz))] at c2
  refine b_L_law_2658 (by omega) hl (c1.up (by decide)) (by rw [ex]; omega) (by rw [ex]; exact hl) (by rw [es]; exact c2.up (by decide)) (c3.up (by decide)) (mo_rg hk) (mo_rg hk) (fun _ => ?_) (fun q => absurd rfl q)
  refine b_L_law_2694 (mo_rg hk) (fun _ => b_L_law_2711 (go _ σ2 t1 _ _ _ _ h2 m2 (f2.2.2.trans ex) ht)) (fun q => ?_)
  refine b_L_law_2699 (rg32 _) ycmp_rg (fun _ => b_L_law_2711 (go _ σ2 t1 _ _ _ _ h2 m2 (f2.2.2.trans ex) ht)) (fun z => absurd ?_ z)
  rw [e70, hv q]
  exact ycmp_s _
theorem lc_setPrice {σ : SG} {t : KT} {Q : RS → Prop} {S : SS} {x5 : Int} {u6 u7 u8 u9 : Option AV} (h : CS S σ) (m : MS S σ) (hx : 0 ≤ x5 ∧ x5 + 5 < ((σ.2.2.2.2.1 : Nat) : Int)) (hl : Nat.ble σ.2.2.2.2.1 4000 = true) (go : GO σ t x5 Q) : Wp k_L_law 20 (2714, [some (aR (some (92, 0, 0))), some (aR (some (1, 0, 0))), some (aR (some (40, 0, 0))), some (aR (some (70, 0, 0))), some (aR (some (71, 0, 0))), some (aI (iZ x5)), u6, u7, u8, u9], [], am_hp σ, t) Q := by
  obtain ⟨σ1, t1, c1, h1, f1, ht, hk, hv⟩ := lw_setPrice (t := t) h (scr_rg σ (x5 + 1).toNat) (scr_rg σ (x5 + 2).toNat)
  have ex : σ1.2.2.2.2 = σ.2.2.2.2 := f1.2.2
  have es := scr_eq ex
  have m1 := m.lw f1
  obtain ⟨σ2, c2, k2, m2, f2⟩ := m_setPrice (t := t1) m1 (scr_rg σ (x5 + 1).toNat) (scr_rg σ (x5 + 2).toNat)
  have h2 := h1.mo f2
  have c3 := s_thrown (t := t1) (σ := σ2)
  rw [k2] at c3
  have e70 := mo70 f2
  generalize A_setPrice S (scrZ σ (x5 + 1).toNat) (scrZ σ (x5 + 2).toNat) = rz at c1 c2 c3 hk hv
  rw [← iZ_toInt (iZ (moI rz))] at c2
  refine b_L_law_2714 (by omega) hl (by omega) (c1.up (by decide)) (by rw [ex]; omega) (by rw [ex]; exact hl) (by rw [ex]; omega) (by rw [es]; exact c2.up (by decide)) (c3.up (by decide)) (mo_rg hk) (mo_rg hk) (fun _ => ?_) (fun q => absurd rfl q)
  refine b_L_law_2762 (mo_rg hk) (fun _ => b_L_law_2779 (go _ σ2 t1 _ _ _ _ h2 m2 (f2.2.2.trans ex) ht)) (fun q => ?_)
  refine b_L_law_2767 (rg32 _) ycmp_rg (fun _ => b_L_law_2779 (go _ σ2 t1 _ _ _ _ h2 m2 (f2.2.2.trans ex) ht)) (fun z => absurd ?_ z)
  rw [e70, hv q]
  exact ycmp_s _
theorem lc_refusal {σ : SG} {t : KT} {Q : RS → Prop} {S : SS} {x5 : Int} {u6 u7 u8 u9 : Option AV} (h : CS S σ) (m : MS S σ) (hx : 0 ≤ x5 ∧ x5 + 5 < ((σ.2.2.2.2.1 : Nat) : Int)) (hl : Nat.ble σ.2.2.2.2.1 4000 = true) (go : GO σ t x5 Q) : Wp k_L_law 20 (2782, [some (aR (some (92, 0, 0))), some (aR (some (1, 0, 0))), some (aR (some (40, 0, 0))), some (aR (some (70, 0, 0))), some (aR (some (71, 0, 0))), some (aI (iZ x5)), u6, u7, u8, u9], [], am_hp σ, t) Q := by
  have c1 := s_X11_refusal (t := t) h
  have h1 := h
  have f1 : Fr inLw σ σ := Fr.refl _ _
  have m1 := m.lw f1
  obtain ⟨σ2, c2, k2, q2⟩ := m_refusal (t := t) m1
  have m2 := m1.m q2
  have f2 := inQ_mo q2.1
  have h2 := h1.mo f2
  rw [← iZ_toInt (iZ (xL S))] at c1 c2
  exact b_L_law_2782 (c1.up (by decide)) (c2.up (by decide)) (rg32 _) (rg32 _) (fun _ => go _ σ2 t _ _ _ _ h2 m2 (f2.2.2.trans f1.2.2) (Or.inl rfl)) (fun q => absurd rfl q)
theorem lc_account {σ : SG} {t : KT} {Q : RS → Prop} {S : SS} {x5 : Int} {u6 u7 u8 u9 : Option AV} (h : CS S σ) (m : MS S σ) (hx : 0 ≤ x5 ∧ x5 + 5 < ((σ.2.2.2.2.1 : Nat) : Int)) (hl : Nat.ble σ.2.2.2.2.1 4000 = true) (go : GO σ t x5 Q) : Wp k_L_law 20 (2795, [some (aR (some (92, 0, 0))), some (aR (some (1, 0, 0))), some (aR (some (40, 0, 0))), some (aR (some (70, 0, 0))), some (aR (some (71, 0, 0))), some (aI (iZ x5)), u6, u7, u8, u9], [], am_hp σ, t) Q := by
  obtain ⟨σ1, t1, c1, h1, f1, ht, hk, hv⟩ := lw_account (t := t) h (scr_rg σ (x5 + 1).toNat)
  have ex : σ1.2.2.2.2 = σ.2.2.2.2 := f1.2.2
  have es := scr_eq ex
  have m1 := m.lw f1
  obtain ⟨σ2, c2, k2, q2⟩ := m_account (t := t1) m1 (scr_rg σ (x5 + 1).toNat)
  have m2 := m1.m q2
  have f2 := inQ_mo q2.1
  have h2 := h1.mo f2
  have c3 := s_thrown (t := t1) (σ := σ2)
  rw [k2] at c3
  have e70 := mo70 f2
  generalize A_account S (scrZ σ (x5 + 1).toNat) = rz at c1 c2 c3 hk hv
  rw [← iZ_toInt (iZ (moI rz))] at c2
  refine b_L_law_2795 (by omega) hl (c1.up (by decide)) (by rw [ex]; omega) (by rw [ex]; exact hl) (by rw [es]; exact c2.up (by decide)) (c3.up (by decide)) (mo_rg hk) (mo_rg hk) (fun _ => ?_) (fun q => absurd rfl q)
  refine b_L_law_2831 (mo_rg hk) (fun _ => b_L_law_2848 (go _ σ2 t1 _ _ _ _ h2 m2 (f2.2.2.trans ex) ht)) (fun q => ?_)
  refine b_L_law_2836 (rg32 _) ycmp_rg (fun _ => b_L_law_2848 (go _ σ2 t1 _ _ _ _ h2 m2 (f2.2.2.trans ex) ht)) (fun z => absurd ?_ z)
  rw [e70, hv q]
  exact ycmp_s _
theorem lc_undo {σ : SG} {t : KT} {Q : RS → Prop} {S : SS} {x5 : Int} {u6 u7 u8 u9 : Option AV} (h : CS S σ) (m : MS S σ) (hx : 0 ≤ x5 ∧ x5 + 5 < ((σ.2.2.2.2.1 : Nat) : Int)) (hl : Nat.ble σ.2.2.2.2.1 4000 = true) (go : GO σ t x5 Q) : Wp k_L_law 20 (2851, [some (aR (some (92, 0, 0))), some (aR (some (1, 0, 0))), some (aR (some (40, 0, 0))), some (aR (some (70, 0, 0))), some (aR (some (71, 0, 0))), some (aI (iZ x5)), u6, u7, u8, u9], [], am_hp σ, t) Q := by
  obtain ⟨σ1, c1, h1, fp⟩ := s_X11_undo (t := t) h
  have f1 : Fr inLw σ σ1 := fp.mono (fun L q => by simp only [inN, inCa, inR, inLw] at *; omega)
  have m1 := m.lw f1
  obtain ⟨σ2, c2, k2, m2, f2⟩ := m_undo (t := t) m1
  have h2 := h1.mo f2
  rw [← iZ_toInt (iZ ((A_undo S).1))] at c1 c2
  exact b_L_law_2851 (c1.up (by decide)) (c2.up (by decide)) (rg32 _) (rg32 _) (fun _ => go _ σ2 t _ _ _ _ h2 m2 (f2.2.2.trans f1.2.2) (Or.inl rfl)) (fun q => absurd rfl q)
theorem lc_report {σ : SG} {t : KT} {Q : RS → Prop} {S : SS} {x5 : Int} {u6 u7 u8 u9 : Option AV} (h : CS S σ) (m : MS S σ) (hx : 0 ≤ x5 ∧ x5 + 5 < ((σ.2.2.2.2.1 : Nat) : Int)) (hl : Nat.ble σ.2.2.2.2.1 4000 = true) (go : GO σ t x5 Q) : Wp k_L_law 20 (2864, [some (aR (some (92, 0, 0))), some (aR (some (1, 0, 0))), some (aR (some (40, 0, 0))), some (aR (some (70, 0, 0))), some (aR (some (71, 0, 0))), some (aI (iZ x5)), u6, u7, u8, u9], [], am_hp σ, t) Q := by
  obtain ⟨σ1, t1, c1, h1, f1, ht, hk, hv⟩ := lw_report (t := t) h (scr_rg σ (x5 + 1).toNat)
  have ex : σ1.2.2.2.2 = σ.2.2.2.2 := f1.2.2
  have es := scr_eq ex
  have m1 := m.lw f1
  obtain ⟨σ2, c2, k2, m2, f2⟩ := m_report (t := t1) m1 (scr_rg σ (x5 + 1).toNat)
  have h2 := h1.mo f2
  have c3 := s_thrown (t := t1) (σ := σ2)
  rw [k2] at c3
  have e70 := mo70 f2
  generalize (A_report S (scrZ σ (x5 + 1).toNat)).1 = rz at c1 c2 c3 hk hv
  rw [← iZ_toInt (iZ (moI rz))] at c2
  refine b_L_law_2864 (by omega) hl (c1.up (by decide)) (by rw [ex]; omega) (by rw [ex]; exact hl) (by rw [es]; exact c2.up (by decide)) (c3.up (by decide)) (mo_rg hk) (mo_rg hk) (fun _ => ?_) (fun q => absurd rfl q)
  refine b_L_law_2900 (mo_rg hk) (fun _ => b_L_law_2917 (go _ σ2 t1 _ _ _ _ h2 m2 (f2.2.2.trans ex) ht)) (fun q => ?_)
  refine b_L_law_2905 (rg32 _) ycmp_rg (fun _ => b_L_law_2917 (go _ σ2 t1 _ _ _ _ h2 m2 (f2.2.2.trans ex) ht)) (fun z => absurd ?_ z)
  rw [e70, hv q]
  exact ycmp_s _
theorem lc_reportByte {σ : SG} {t : KT} {Q : RS → Prop} {S : SS} {x5 : Int} {u6 u7 u8 u9 : Option AV} (h : CS S σ) (m : MS S σ) (hx : 0 ≤ x5 ∧ x5 + 5 < ((σ.2.2.2.2.1 : Nat) : Int)) (hl : Nat.ble σ.2.2.2.2.1 4000 = true) (go : GO σ t x5 Q) : Wp k_L_law 20 (2920, [some (aR (some (92, 0, 0))), some (aR (some (1, 0, 0))), some (aR (some (40, 0, 0))), some (aR (some (70, 0, 0))), some (aR (some (71, 0, 0))), some (aI (iZ x5)), u6, u7, u8, u9], [], am_hp σ, t) Q := by
  obtain ⟨σ1, t1, c1, h1, f1, ht, hk, hv⟩ := lw_reportByte (t := t) h (scr_rg σ (x5 + 1).toNat)
  have ex : σ1.2.2.2.2 = σ.2.2.2.2 := f1.2.2
  have es := scr_eq ex
  have m1 := m.lw f1
  obtain ⟨σ2, c2, k2, q2⟩ := m_reportByte (t := t1) m1 (scr_rg σ (x5 + 1).toNat)
  have m2 := m1.m q2
  have f2 := inQ_mo q2.1
  have h2 := h1.mo f2
  have c3 := s_thrown (t := t1) (σ := σ2)
  rw [k2] at c3
  have e70 := mo70 f2
  generalize A_reportByte S (scrZ σ (x5 + 1).toNat) = rz at c1 c2 c3 hk hv
  rw [← iZ_toInt (iZ (moI rz))] at c2
  refine b_L_law_2920 (by omega) hl (c1.up (by decide)) (by rw [ex]; omega) (by rw [ex]; exact hl) (by rw [es]; exact c2.up (by decide)) (c3.up (by decide)) (mo_rg hk) (mo_rg hk) (fun _ => ?_) (fun q => absurd rfl q)
  refine b_L_law_2956 (mo_rg hk) (fun _ => b_L_law_2973 (go _ σ2 t1 _ _ _ _ h2 m2 (f2.2.2.trans ex) ht)) (fun q => ?_)
  refine b_L_law_2961 (rg32 _) ycmp_rg (fun _ => b_L_law_2973 (go _ σ2 t1 _ _ _ _ h2 m2 (f2.2.2.trans ex) ht)) (fun z => absurd ?_ z)
  rw [e70, hv q]
  exact ycmp_s _
theorem lc_save {σ : SG} {t : KT} {Q : RS → Prop} {S : SS} {x5 : Int} {u6 u7 u8 u9 : Option AV} (h : CS S σ) (m : MS S σ) (hx : 0 ≤ x5 ∧ x5 + 5 < ((σ.2.2.2.2.1 : Nat) : Int)) (hl : Nat.ble σ.2.2.2.2.1 4000 = true) (go : GO σ t x5 Q) : Wp k_L_law 20 (2976, [some (aR (some (92, 0, 0))), some (aR (some (1, 0, 0))), some (aR (some (40, 0, 0))), some (aR (some (70, 0, 0))), some (aR (some (71, 0, 0))), some (aI (iZ x5)), u6, u7, u8, u9], [], am_hp σ, t) Q := by
  obtain ⟨σ1, c1, h1, fp⟩ := s_X11_save (t := t) h
  have f1 : Fr inLw σ σ1 := fp.mono (fun L q => by simp only [inN, inCa, inR, inLw] at *; omega)
  have m1 := m.lw f1
  obtain ⟨σ2, c2, k2, m2, f2⟩ := m_save (t := t) m1
  have h2 := h1.mo f2
  rw [← iZ_toInt (iZ ((A_save S).1))] at c1 c2
  exact b_L_law_2976 (c1.up (by decide)) (c2.up (by decide)) (rg32 _) (rg32 _) (fun _ => go _ σ2 t _ _ _ _ h2 m2 (f2.2.2.trans f1.2.2) (Or.inl rfl)) (fun q => absurd rfl q)
theorem lc_restore {σ : SG} {t : KT} {Q : RS → Prop} {S : SS} {x5 : Int} {u6 u7 u8 u9 : Option AV} (h : CS S σ) (m : MS S σ) (hx : 0 ≤ x5 ∧ x5 + 5 < ((σ.2.2.2.2.1 : Nat) : Int)) (hl : Nat.ble σ.2.2.2.2.1 4000 = true) (go : GO σ t x5 Q) : Wp k_L_law 20 (2989, [some (aR (some (92, 0, 0))), some (aR (some (1, 0, 0))), some (aR (some (40, 0, 0))), some (aR (some (70, 0, 0))), some (aR (some (71, 0, 0))), some (aI (iZ x5)), u6, u7, u8, u9], [], am_hp σ, t) Q := by
  obtain ⟨σ1, t1, c1, h1, f1, ht, hk, hv⟩ := lw_restore (t := t) h 
  have ex : σ1.2.2.2.2 = σ.2.2.2.2 := f1.2.2
  have es := scr_eq ex
  have m1 := m.lw f1
  obtain ⟨σ2, c2, k2, m2, f2⟩ := m_restore (t := t1) m1
  have h2 := h1.mo f2
  have c3 := s_thrown (t := t1) (σ := σ2)
  rw [k2] at c3
  have e70 := mo70 f2
  generalize (A_restore S).1 = rz at c1 c2 c3 hk hv
  rw [← iZ_toInt (iZ (moI rz))] at c2
  refine b_L_law_2989 (c1.up (by decide)) (c2.up (by decide)) (c3.up (by decide)) (mo_rg hk) (mo_rg hk) (fun _ => ?_) (fun q => absurd rfl q)
  refine b_L_law_3013 (mo_rg hk) (fun _ => b_L_law_3030 (go _ σ2 t1 _ _ _ _ h2 m2 (f2.2.2.trans ex) ht)) (fun q => ?_)
  refine b_L_law_3018 (rg32 _) ycmp_rg (fun _ => b_L_law_3030 (go _ σ2 t1 _ _ _ _ h2 m2 (f2.2.2.trans ex) ht)) (fun z => absurd ?_ z)
  rw [e70, hv q]
  exact ycmp_s _
