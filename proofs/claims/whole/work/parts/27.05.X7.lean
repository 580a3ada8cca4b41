/-! PIECES: X7 -/
set_option maxRecDepth 4000
section PCS
variable {d : Nat} {Q : RS → Prop}
theorem b_X7_clearAll_0 {p0 : Nat} {σ : SG} {t : KT} (w1 : Wp k_X7_clearAll d (17, [some (aR (some (8, p0, 0))), some (aI (iZ 0))], [], am_hp ((sI (sI (sI σ (8, p0, 0) (up (σ.1 (8, p0, 0)) 4 0)) (8, p0, 0) (up (((sI σ (8, p0, 0) (up (σ.1 (8, p0, 0)) 4 0))).1 (8, p0, 0)) 5 0)) (8, p0, 0) (up (((sI (sI σ (8, p0, 0) (up (σ.1 (8, p0, 0)) 4 0)) (8, p0, 0) (up (((sI σ (8, p0, 0) (up (σ.1 (8, p0, 0)) 4 0))).1 (8, p0, 0)) 5 0))).1 (8, p0, 0)) 6 4))), t) Q) : Wp k_X7_clearAll d (0, [some (aR (some (8, p0, 0))), none], [], am_hp σ, t) Q := by
  refine w_s (c' := (1, [some (aR (some (8, p0, 0))), none], [aR (some (8, p0, 0))], am_hp σ, t)) rfl rfl ?_
  refine w_psh rfl zc_0 rfl ?_
  refine w_putI rfl (hp_8 _ p0) rfl rfl rfl ?_
  refine w_s (c' := (6, [some (aR (some (8, p0, 0))), none], [aR (some (8, p0, 0))], am_hp ((sI σ (8, p0, 0) (up (σ.1 (8, p0, 0)) 4 0))), t)) rfl rfl ?_
  refine w_psh rfl zc_0 rfl ?_
  refine w_putI rfl (hp_8 _ p0) rfl rfl rfl ?_
  refine w_s (c' := (11, [some (aR (some (8, p0, 0))), none], [aR (some (8, p0, 0))], am_hp ((sI (sI σ (8, p0, 0) (up (σ.1 (8, p0, 0)) 4 0)) (8, p0, 0) (up (((sI σ (8, p0, 0) (up (σ.1 (8, p0, 0)) 4 0))).1 (8, p0, 0)) 5 0))), t)) rfl rfl ?_
  refine w_psh rfl zc_4 rfl ?_
  refine w_putI rfl (hp_8 _ p0) rfl rfl rfl ?_
  refine w_psh rfl zc_0 rfl ?_
  refine w_s (c' := (17, [some (aR (some (8, p0, 0))), some (aI (iZ 0))], [], am_hp ((sI (sI (sI σ (8, p0, 0) (up (σ.1 (8, p0, 0)) 4 0)) (8, p0, 0) (up (((sI σ (8, p0, 0) (up (σ.1 (8, p0, 0)) 4 0))).1 (8, p0, 0)) 5 0)) (8, p0, 0) (up (((sI (sI σ (8, p0, 0) (up (σ.1 (8, p0, 0)) 4 0)) (8, p0, 0) (up (((sI σ (8, p0, 0) (up (σ.1 (8, p0, 0)) 4 0))).1 (8, p0, 0)) 5 0))).1 (8, p0, 0)) 6 4))), t)) rfl rfl ?_
  exact w1

theorem e_X7_clearAll {p0 : Nat} {h : AH} {t : KT} {d : Nat} {P : RS → Prop} (w : Wp k_X7_clearAll d (0, [some (aR (some (8, p0, 0))), none], [], h, t) P) : ∃ r, Ca (d + 1) 41 [aR (some (8, p0, 0))] h t r ∧ P r := ca_W rfl rfl rfl rfl w

theorem b_X7_clearAll_17 {p0 : Nat} {x1 : Int} {σ : SG} {t : KT} (h1 : -2147483648 ≤ x1 ∧ x1 < 2147483648) (w2 : 9 ≤ x1 → Wp k_X7_clearAll d (36, [some (aR (some (8, p0, 0))), some (aI (iZ x1))], [], am_hp σ, t) Q) (w3 : x1 < 9 → Wp k_X7_clearAll d (23, [some (aR (some (8, p0, 0))), some (aI (iZ x1))], [], am_hp σ, t) Q) : Wp k_X7_clearAll d (17, [some (aR (some (8, p0, 0))), some (aI (iZ x1))], [], am_hp σ, t) Q := by
  refine w_s (c' := (18, [some (aR (some (8, p0, 0))), some (aI (iZ x1))], [aI (iZ x1)], am_hp σ, t)) rfl rfl ?_
  refine w_psh rfl zc_9 rfl ?_
  exact w_icge rfl h1 (by decide) rfl w2 w3

theorem b_X7_clearAll_23 {p0 : Nat} {x1 : Int} {σ : SG} {t : KT} (h1 : 0 ≤ x1 ∧ x1 < 9) (w2 : Wp k_X7_clearAll d (17, [some (aR (some (8, p0, 0))), some (aI (iZ (x1 + 1)))], [], am_hp ((sI σ (13, p0, 0) (up (σ.1 (13, p0, 0)) x1.toNat 1))), t) Q) : Wp k_X7_clearAll d (23, [some (aR (some (8, p0, 0))), some (aI (iZ x1))], [], am_hp σ, t) Q := by
  refine w_s (c' := (24, [some (aR (some (8, p0, 0))), some (aI (iZ x1))], [aR (some (8, p0, 0))], am_hp σ, t)) rfl rfl ?_
  refine w_get rfl (hp_8 _ p0) rfl rfl ?_
  refine w_s (c' := (28, [some (aR (some (8, p0, 0))), some (aI (iZ x1))], [aI (iZ x1), aR (some (13, p0, 0))], am_hp σ, t)) rfl rfl ?_
  refine w_psh rfl zc_1 rfl ?_
  refine w_ias rfl (mk_13 _ p0 0) h1 rfl rfl rfl ?_
  refine w_inc (a := x1) (ls' := [some (aR (some (8, p0, 0))), some (aI (iZ (x1 + 1)))]) rfl rfl rfl zc_1 rfl rfl ?_
  refine w_s (c' := (17, [some (aR (some (8, p0, 0))), some (aI (iZ (x1 + 1)))], [], am_hp ((sI σ (13, p0, 0) (up (σ.1 (13, p0, 0)) x1.toNat 1))), t)) rfl rfl ?_
  exact w2

theorem b_X7_clearAll_36 {p0 : Nat} {x1 : Int} {σ : SG} {t : KT} (q1 : Q (.inl none, am_hp σ, t)) : Wp k_X7_clearAll d (36, [some (aR (some (8, p0, 0))), some (aI (iZ x1))], [], am_hp σ, t) Q := by
  exact w_f rfl rfl q1

theorem b_X7_copyFrom_0 {p0 : Nat} {p1 : Nat} {σ τ1 τ2 τ3 τ4 τ5 τ6 : SG} {t : KT} (e1 : τ1 = (sI σ (8, p0, 0) (up (σ.1 (8, p0, 0)) 4 (σ.1 (8, p1, 0) 4)))) (e2 : τ2 = (sI τ1 (8, p0, 0) (up (τ1.1 (8, p0, 0)) 5 (τ1.1 (8, p1, 0) 5)))) (e3 : τ3 = (sI τ2 (8, p0, 0) (up (τ2.1 (8, p0, 0)) 6 (τ2.1 (8, p1, 0) 6)))) (e4 : τ4 = (sI τ3 (13, p0, 0) (cpy (τ3.1 (13, p1, 0)) (τ3.1 (13, p0, 0)) (0 : Int).toNat (0 : Int).toNat (9 : Int).toNat))) (e5 : τ5 = (sJ τ4 (9, p0, 0) (cpy (τ4.2.1 (9, p1, 0)) (τ4.2.1 (9, p0, 0)) (0 : Int).toNat (0 : Int).toNat (4 : Int).toNat))) (e6 : τ6 = (sI τ5 (10, p0, 0) (cpy (τ5.1 (10, p1, 0)) (τ5.1 (10, p0, 0)) (0 : Int).toNat (0 : Int).toNat (4 : Int).toNat))) (w7 : Wp k_X7_copyFrom d (69, [some (aR (some (8, p0, 0))), some (aR (some (8, p1, 0))), some (aI (iZ 0))], [], am_hp τ6, t) Q) : Wp k_X7_copyFrom d (0, [some (aR (some (8, p0, 0))), some (aR (some (8, p1, 0))), none], [], am_hp σ, t) Q := by
  refine w_s (c' := (1, [some (aR (some (8, p0, 0))), some (aR (some (8, p1, 0))), none], [aR (some (8, p0, 0))], am_hp σ, t)) rfl rfl ?_
  refine w_s (c' := (2, [some (aR (some (8, p0, 0))), some (aR (some (8, p1, 0))), none], [aR (some (8, p1, 0)), aR (some (8, p0, 0))], am_hp σ, t)) rfl rfl ?_
  refine w_get rfl (hp_8 _ p1) rfl rfl ?_
  refine w_putI rfl (hp_8 _ p0) rfl rfl rfl ?_
  rw [← e1]
  refine w_s (c' := (9, [some (aR (some (8, p0, 0))), some (aR (some (8, p1, 0))), none], [aR (some (8, p0, 0))], am_hp τ1, t)) rfl rfl ?_
  refine w_s (c' := (10, [some (aR (some (8, p0, 0))), some (aR (some (8, p1, 0))), none], [aR (some (8, p1, 0)), aR (some (8, p0, 0))], am_hp τ1, t)) rfl rfl ?_
  refine w_get rfl (hp_8 _ p1) rfl rfl ?_
  refine w_putI rfl (hp_8 _ p0) rfl rfl rfl ?_
  rw [← e2]
  refine w_s (c' := (17, [some (aR (some (8, p0, 0))), some (aR (some (8, p1, 0))), none], [aR (some (8, p0, 0))], am_hp τ2, t)) rfl rfl ?_
  refine w_s (c' := (18, [some (aR (some (8, p0, 0))), some (aR (some (8, p1, 0))), none], [aR (some (8, p1, 0)), aR (some (8, p0, 0))], am_hp τ2, t)) rfl rfl ?_
  refine w_get rfl (hp_8 _ p1) rfl rfl ?_
  refine w_putI rfl (hp_8 _ p0) rfl rfl rfl ?_
  rw [← e3]
  refine w_s (c' := (25, [some (aR (some (8, p0, 0))), some (aR (some (8, p1, 0))), none], [aR (some (8, p1, 0))], am_hp τ3, t)) rfl rfl ?_
  refine w_get rfl (hp_8 _ p1) rfl rfl ?_
  refine w_psh rfl zc_0 rfl ?_
  refine w_s (c' := (30, [some (aR (some (8, p0, 0))), some (aR (some (8, p1, 0))), none], [aR (some (8, p0, 0)), aI (iZ 0), aR (some (13, p1, 0))], am_hp τ3, t)) rfl rfl ?_
  refine w_get rfl (hp_8 _ p0) rfl rfl ?_
  refine w_psh rfl zc_0 rfl ?_
  refine w_psh rfl zc_9 rfl ?_
  refine w_cpi rfl (hp_13 _ p1 0) (mk_13 _ p0 0) (by decide) ⟨rfl, rfl⟩ ⟨rfl, rfl⟩ rfl rfl ?_
  rw [← e4]
  refine w_s (c' := (40, [some (aR (some (8, p0, 0))), some (aR (some (8, p1, 0))), none], [aR (some (8, p1, 0))], am_hp τ4, t)) rfl rfl ?_
  refine w_get rfl (hp_8 _ p1) rfl rfl ?_
  refine w_psh rfl zc_0 rfl ?_
  refine w_s (c' := (45, [some (aR (some (8, p0, 0))), some (aR (some (8, p1, 0))), none], [aR (some (8, p0, 0)), aI (iZ 0), aR (some (9, p1, 0))], am_hp τ4, t)) rfl rfl ?_
  refine w_get rfl (hp_8 _ p0) rfl rfl ?_
  refine w_psh rfl zc_0 rfl ?_
  refine w_psh rfl zc_4 rfl ?_
  refine w_cpl rfl (hp_9 _ p1 0) (mk_9 _ p0 0) (by decide) ⟨rfl, rfl⟩ ⟨rfl, rfl⟩ rfl rfl ?_
  rw [← e5]
  refine w_s (c' := (54, [some (aR (some (8, p0, 0))), some (aR (some (8, p1, 0))), none], [aR (some (8, p1, 0))], am_hp τ5, t)) rfl rfl ?_
  refine w_get rfl (hp_8 _ p1) rfl rfl ?_
  refine w_psh rfl zc_0 rfl ?_
  refine w_s (c' := (59, [some (aR (some (8, p0, 0))), some (aR (some (8, p1, 0))), none], [aR (some (8, p0, 0)), aI (iZ 0), aR (some (10, p1, 0))], am_hp τ5, t)) rfl rfl ?_
  refine w_get rfl (hp_8 _ p0) rfl rfl ?_
  refine w_psh rfl zc_0 rfl ?_
  refine w_psh rfl zc_4 rfl ?_
  refine w_cpi rfl (hp_10 _ p1 0) (mk_10 _ p0 0) (by decide) ⟨rfl, rfl⟩ ⟨rfl, rfl⟩ rfl rfl ?_
  rw [← e6]
  refine w_psh rfl zc_0 rfl ?_
  refine w_s (c' := (69, [some (aR (some (8, p0, 0))), some (aR (some (8, p1, 0))), some (aI (iZ 0))], [], am_hp τ6, t)) rfl rfl ?_
  exact w7

theorem e_X7_copyFrom {p0 : Nat} {p1 : Nat} {h : AH} {t : KT} {d : Nat} {P : RS → Prop} (w : Wp k_X7_copyFrom d (0, [some (aR (some (8, p0, 0))), some (aR (some (8, p1, 0))), none], [], h, t) P) : ∃ r, Ca (d + 1) 42 [aR (some (8, p0, 0)), aR (some (8, p1, 0))] h t r ∧ P r := ca_W rfl rfl rfl rfl w

theorem b_X7_copyFrom_69 {p0 : Nat} {p1 : Nat} {x2 : Int} {σ : SG} {t : KT} (h1 : -2147483648 ≤ x2 ∧ x2 < 2147483648) (w2 : 4 ≤ x2 → Wp k_X7_copyFrom d (99, [some (aR (some (8, p0, 0))), some (aR (some (8, p1, 0))), some (aI (iZ x2))], [], am_hp σ, t) Q) (w3 : x2 < 4 → Wp k_X7_copyFrom d (74, [some (aR (some (8, p0, 0))), some (aR (some (8, p1, 0))), some (aI (iZ x2))], [], am_hp σ, t) Q) : Wp k_X7_copyFrom d (69, [some (aR (some (8, p0, 0))), some (aR (some (8, p1, 0))), some (aI (iZ x2))], [], am_hp σ, t) Q := by
  refine w_s (c' := (70, [some (aR (some (8, p0, 0))), some (aR (some (8, p1, 0))), some (aI (iZ x2))], [aI (iZ x2)], am_hp σ, t)) rfl rfl ?_
  refine w_psh rfl zc_4 rfl ?_
  exact w_icge rfl h1 (by decide) rfl w2 w3

theorem b_X7_copyFrom_74 {p0 : Nat} {p1 : Nat} {x2 : Int} {σ : SG} {t : KT} (h1 : 0 ≤ x2 ∧ x2 < 4) (w2 : Wp k_X7_copyFrom d (69, [some (aR (some (8, p0, 0))), some (aR (some (8, p1, 0))), some (aI (iZ (x2 + 1)))], [], am_hp ((sI σ (12, p0, x2.toNat) (cpy (σ.1 (12, p1, x2.toNat)) (σ.1 (12, p0, x2.toNat)) (0 : Int).toNat (0 : Int).toNat (60 : Int).toNat))), t) Q) : Wp k_X7_copyFrom d (74, [some (aR (some (8, p0, 0))), some (aR (some (8, p1, 0))), some (aI (iZ x2))], [], am_hp σ, t) Q := by
  refine w_s (c' := (75, [some (aR (some (8, p0, 0))), some (aR (some (8, p1, 0))), some (aI (iZ x2))], [aR (some (8, p1, 0))], am_hp σ, t)) rfl rfl ?_
  refine w_get rfl (hp_8 _ p1) rfl rfl ?_
  refine w_s (c' := (79, [some (aR (some (8, p0, 0))), some (aR (some (8, p1, 0))), some (aI (iZ x2))], [aI (iZ x2), aR (some (11, p1, 0))], am_hp σ, t)) rfl rfl ?_
  refine w_aal rfl (hp_11 _ p1) h1 rfl rfl ?_
  refine w_psh rfl zc_0 rfl ?_
  refine w_s (c' := (82, [some (aR (some (8, p0, 0))), some (aR (some (8, p1, 0))), some (aI (iZ x2))], [aR (some (8, p0, 0)), aI (iZ 0), aR (some (12, p1, x2.toNat))], am_hp σ, t)) rfl rfl ?_
  refine w_get rfl (hp_8 _ p0) rfl rfl ?_
  refine w_s (c' := (86, [some (aR (some (8, p0, 0))), some (aR (some (8, p1, 0))), some (aI (iZ x2))], [aI (iZ x2), aR (some (11, p0, 0)), aI (iZ 0), aR (some (12, p1, x2.toNat))], am_hp σ, t)) rfl rfl ?_
  refine w_aal rfl (hp_11 _ p0) h1 rfl rfl ?_
  refine w_psh rfl zc_0 rfl ?_
  refine w_psh rfl zc_60 rfl ?_
  refine w_cpi rfl (hp_12 _ p1 x2.toNat) (mk_12 _ p0 x2.toNat) (by decide) ⟨rfl, rfl⟩ ⟨rfl, rfl⟩ rfl rfl ?_
  refine w_inc (a := x2) (ls' := [some (aR (some (8, p0, 0))), some (aR (some (8, p1, 0))), some (aI (iZ (x2 + 1)))]) rfl rfl rfl zc_1 rfl rfl ?_
  refine w_s (c' := (69, [some (aR (some (8, p0, 0))), some (aR (some (8, p1, 0))), some (aI (iZ (x2 + 1)))], [], am_hp ((sI σ (12, p0, x2.toNat) (cpy (σ.1 (12, p1, x2.toNat)) (σ.1 (12, p0, x2.toNat)) (0 : Int).toNat (0 : Int).toNat (60 : Int).toNat))), t)) rfl rfl ?_
  exact w2

theorem b_X7_copyFrom_99 {p0 : Nat} {p1 : Nat} {x2 : Int} {σ : SG} {t : KT} (q1 : Q (.inl none, am_hp σ, t)) : Wp k_X7_copyFrom d (99, [some (aR (some (8, p0, 0))), some (aR (some (8, p1, 0))), some (aI (iZ x2))], [], am_hp σ, t) Q := by
  exact w_f rfl rfl q1

theorem b_X7_has_0 {p0 : Nat} {x1 : Int} {σ : SG} {t : KT} (h1 : -2147483648 ≤ x1 ∧ x1 < 2147483648) (w2 : x1 < 0 → Wp k_X7_has d (16, [some (aR (some (8, p0, 0))), some (aI (iZ x1))], [], am_hp σ, t) Q) (w3 : 0 ≤ x1 → Wp k_X7_has d (4, [some (aR (some (8, p0, 0))), some (aI (iZ x1))], [], am_hp σ, t) Q) : Wp k_X7_has d (0, [some (aR (some (8, p0, 0))), some (aI (iZ x1))], [], am_hp σ, t) Q := by
  refine w_s (c' := (1, [some (aR (some (8, p0, 0))), some (aI (iZ x1))], [aI (iZ x1)], am_hp σ, t)) rfl rfl ?_
  exact w_iflt rfl h1 rfl w2 w3

theorem e_X7_has {p0 : Nat} {x1 : Int} {h : AH} {t : KT} {d : Nat} {P : RS → Prop} (w : Wp k_X7_has d (0, [some (aR (some (8, p0, 0))), some (aI (iZ x1))], [], h, t) P) : ∃ r, Ca (d + 1) 43 [aR (some (8, p0, 0)), aI (iZ x1)] h t r ∧ P r := ca_W rfl rfl rfl rfl w

theorem b_X7_has_4 {p0 : Nat} {x1 : Int} {σ : SG} {t : KT} (h1 : -2147483648 ≤ x1 ∧ x1 < 2147483648) (h2 : -2147483648 ≤ σ.1 (8, p0, 0) 4 ∧ σ.1 (8, p0, 0) 4 < 2147483648) (w3 : σ.1 (8, p0, 0) 4 ≤ x1 → Wp k_X7_has d (16, [some (aR (some (8, p0, 0))), some (aI (iZ x1))], [], am_hp σ, t) Q) (w4 : x1 < σ.1 (8, p0, 0) 4 → Wp k_X7_has d (12, [some (aR (some (8, p0, 0))), some (aI (iZ x1))], [], am_hp σ, t) Q) : Wp k_X7_has d (4, [some (aR (some (8, p0, 0))), some (aI (iZ x1))], [], am_hp σ, t) Q := by
  refine w_s (c' := (5, [some (aR (some (8, p0, 0))), some (aI (iZ x1))], [aI (iZ x1)], am_hp σ, t)) rfl rfl ?_
  refine w_s (c' := (6, [some (aR (some (8, p0, 0))), some (aI (iZ x1))], [aR (some (8, p0, 0)), aI (iZ x1)], am_hp σ, t)) rfl rfl ?_
  refine w_get rfl (hp_8 _ p0) rfl rfl ?_
  exact w_icge rfl h1 h2 rfl w3 w4

theorem b_X7_has_12 {p0 : Nat} {x1 : Int} {σ : SG} {t : KT} (w1 : Wp k_X7_has d (17, [some (aR (some (8, p0, 0))), some (aI (iZ x1))], [aI (iZ 1)], am_hp σ, t) Q) : Wp k_X7_has d (12, [some (aR (some (8, p0, 0))), some (aI (iZ x1))], [], am_hp σ, t) Q := by
  refine w_psh rfl zc_1 rfl ?_
  refine w_s (c' := (17, [some (aR (some (8, p0, 0))), some (aI (iZ x1))], [aI (iZ 1)], am_hp σ, t)) rfl rfl ?_
  exact w1

theorem b_X7_has_16 {p0 : Nat} {x1 : Int} {σ : SG} {t : KT} (w1 : Wp k_X7_has d (17, [some (aR (some (8, p0, 0))), some (aI (iZ x1))], [aI (iZ 0)], am_hp σ, t) Q) : Wp k_X7_has d (16, [some (aR (some (8, p0, 0))), some (aI (iZ x1))], [], am_hp σ, t) Q := by
  refine w_psh rfl zc_0 rfl ?_
  exact w1

theorem b_X7_has_17 {p0 : Nat} {x1 : Int} {xs0 : Int} {σ : SG} {t : KT} (h1 : xs0 = 0 ∨ xs0 = 1) (q2 : Q (.inl (some (aI (iZ xs0))), am_hp σ, t)) : Wp k_X7_has d (17, [some (aR (some (8, p0, 0))), some (aI (iZ x1))], [aI (iZ xs0)], am_hp σ, t) Q := by
  exact w_ret rfl (frt_b h1) q2

theorem b_X7_lengthOf_0 {p0 : Nat} {x1 : Int} {r1 : Int} {σ σ1 : SG} {t : KT} (c1 : Ca d 43 [aR (some (8, p0, 0)), aI (iZ x1)] (am_hp σ) t (.inl (some (aI (iZ r1))), am_hp σ1, t)) (h2 : -2147483648 ≤ r1 ∧ r1 < 2147483648) (w3 : r1 = 0 → Wp k_X7_lengthOf d (17, [some (aR (some (8, p0, 0))), some (aI (iZ x1))], [], am_hp σ1, t) Q) (w4 : r1 ≠ 0 → Wp k_X7_lengthOf d (8, [some (aR (some (8, p0, 0))), some (aI (iZ x1))], [], am_hp σ1, t) Q) : Wp k_X7_lengthOf d (0, [some (aR (some (8, p0, 0))), some (aI (iZ x1))], [], am_hp σ, t) Q := by
  refine w_s (c' := (1, [some (aR (some (8, p0, 0))), some (aI (iZ x1))], [aR (some (8, p0, 0))], am_hp σ, t)) rfl rfl ?_
  refine w_s (c' := (2, [some (aR (some (8, p0, 0))), some (aI (iZ x1))], [aI (iZ x1), aR (some (8, p0, 0))], am_hp σ, t)) rfl rfl ?_
  refine w_c0 (c' := (5, [some (aR (some (8, p0, 0))), some (aI (iZ x1))], [aI (iZ r1)], am_hp σ1, t)) rfl rfl (rcv_of (hp_8 _ p0)) rfl c1 (Nat.le_refl _) rfl ?_
  exact w_ifeq rfl h2 rfl w3 w4

theorem e_X7_lengthOf {p0 : Nat} {x1 : Int} {h : AH} {t : KT} {d : Nat} {P : RS → Prop} (w : Wp k_X7_lengthOf d (0, [some (aR (some (8, p0, 0))), some (aI (iZ x1))], [], h, t) P) : ∃ r, Ca (d + 1) 44 [aR (some (8, p0, 0)), aI (iZ x1)] h t r ∧ P r := ca_W rfl rfl rfl rfl w

theorem b_X7_lengthOf_8 {p0 : Nat} {x1 : Int} {σ : SG} {t : KT} (h1 : 0 ≤ x1 ∧ x1 < 4) (w2 : Wp k_X7_lengthOf d (18, [some (aR (some (8, p0, 0))), some (aI (iZ x1))], [aI (iZ (σ.1 (10, p0, 0) x1.toNat))], am_hp σ, t) Q) : Wp k_X7_lengthOf d (8, [some (aR (some (8, p0, 0))), some (aI (iZ x1))], [], am_hp σ, t) Q := by
  refine w_s (c' := (9, [some (aR (some (8, p0, 0))), some (aI (iZ x1))], [aR (some (8, p0, 0))], am_hp σ, t)) rfl rfl ?_
  refine w_get rfl (hp_8 _ p0) rfl rfl ?_
  refine w_s (c' := (13, [some (aR (some (8, p0, 0))), some (aI (iZ x1))], [aI (iZ x1), aR (some (10, p0, 0))], am_hp σ, t)) rfl rfl ?_
  refine w_ial rfl (hp_10 _ p0 0) h1 rfl rfl ?_
  refine w_s (c' := (18, [some (aR (some (8, p0, 0))), some (aI (iZ x1))], [aI (iZ (σ.1 (10, p0, 0) x1.toNat))], am_hp σ, t)) rfl rfl ?_
  exact w2

theorem b_X7_lengthOf_17 {p0 : Nat} {x1 : Int} {σ : SG} {t : KT} (w1 : Wp k_X7_lengthOf d (18, [some (aR (some (8, p0, 0))), some (aI (iZ x1))], [aI (iZ 0)], am_hp σ, t) Q) : Wp k_X7_lengthOf d (17, [some (aR (some (8, p0, 0))), some (aI (iZ x1))], [], am_hp σ, t) Q := by
  refine w_psh rfl zc_0 rfl ?_
  exact w1

theorem b_X7_lengthOf_18 {p0 : Nat} {x1 : Int} {xs0 : Int} {σ : SG} {t : KT} (q1 : Q (.inl (some (aI (iZ xs0))), am_hp σ, t)) : Wp k_X7_lengthOf d (18, [some (aR (some (8, p0, 0))), some (aI (iZ x1))], [aI (iZ xs0)], am_hp σ, t) Q := by
  exact w_ret rfl rfl q1

theorem b_X7_hasNumber_0 {p0 : Nat} {x1 : Int} {x2 : Int} {r1 : Int} {σ σ1 : SG} {t : KT} (c1 : Ca d 43 [aR (some (8, p0, 0)), aI (iZ x1)] (am_hp σ) t (.inl (some (aI (iZ r1))), am_hp σ1, t)) (h2 : -2147483648 ≤ r1 ∧ r1 < 2147483648) (w3 : r1 = 0 → Wp k_X7_hasNumber d (26, [some (aR (some (8, p0, 0))), some (aI (iZ x1)), some (aI (iZ x2))], [], am_hp σ1, t) Q) (w4 : r1 ≠ 0 → Wp k_X7_hasNumber d (8, [some (aR (some (8, p0, 0))), some (aI (iZ x1)), some (aI (iZ x2))], [], am_hp σ1, t) Q) : Wp k_X7_hasNumber d (0, [some (aR (some (8, p0, 0))), some (aI (iZ x1)), some (aI (iZ x2))], [], am_hp σ, t) Q := by
  refine w_s (c' := (1, [some (aR (some (8, p0, 0))), some (aI (iZ x1)), some (aI (iZ x2))], [aR (some (8, p0, 0))], am_hp σ, t)) rfl rfl ?_
  refine w_s (c' := (2, [some (aR (some (8, p0, 0))), some (aI (iZ x1)), some (aI (iZ x2))], [aI (iZ x1), aR (some (8, p0, 0))], am_hp σ, t)) rfl rfl ?_
  refine w_c0 (c' := (5, [some (aR (some (8, p0, 0))), some (aI (iZ x1)), some (aI (iZ x2))], [aI (iZ r1)], am_hp σ1, t)) rfl rfl (rcv_of (hp_8 _ p0)) rfl c1 (Nat.le_refl _) rfl ?_
  exact w_ifeq rfl h2 rfl w3 w4

theorem e_X7_hasNumber {p0 : Nat} {x1 : Int} {x2 : Int} {h : AH} {t : KT} {d : Nat} {P : RS → Prop} (w : Wp k_X7_hasNumber d (0, [some (aR (some (8, p0, 0))), some (aI (iZ x1)), some (aI (iZ x2))], [], h, t) P) : ∃ r, Ca (d + 1) 45 [aR (some (8, p0, 0)), aI (iZ x1), aI (iZ x2)] h t r ∧ P r := ca_W rfl rfl rfl rfl w

theorem b_X7_hasNumber_8 {p0 : Nat} {x1 : Int} {x2 : Int} {σ : SG} {t : KT} (h1 : -2147483648 ≤ x2 ∧ x2 < 2147483648) (w2 : x2 < 0 → Wp k_X7_hasNumber d (26, [some (aR (some (8, p0, 0))), some (aI (iZ x1)), some (aI (iZ x2))], [], am_hp σ, t) Q) (w3 : 0 ≤ x2 → Wp k_X7_hasNumber d (12, [some (aR (some (8, p0, 0))), some (aI (iZ x1)), some (aI (iZ x2))], [], am_hp σ, t) Q) : Wp k_X7_hasNumber d (8, [some (aR (some (8, p0, 0))), some (aI (iZ x1)), some (aI (iZ x2))], [], am_hp σ, t) Q := by
  refine w_s (c' := (9, [some (aR (some (8, p0, 0))), some (aI (iZ x1)), some (aI (iZ x2))], [aI (iZ x2)], am_hp σ, t)) rfl rfl ?_
  exact w_iflt rfl h1 rfl w2 w3

theorem b_X7_hasNumber_12 {p0 : Nat} {x1 : Int} {x2 : Int} {σ : SG} {t : KT} (h1 : 0 ≤ x1 ∧ x1 < 4) (h2 : -2147483648 ≤ x2 ∧ x2 < 2147483648) (h3 : -2147483648 ≤ σ.1 (10, p0, 0) x1.toNat ∧ σ.1 (10, p0, 0) x1.toNat < 2147483648) (w4 : σ.1 (10, p0, 0) x1.toNat ≤ x2 → Wp k_X7_hasNumber d (26, [some (aR (some (8, p0, 0))), some (aI (iZ x1)), some (aI (iZ x2))], [], am_hp σ, t) Q) (w5 : x2 < σ.1 (10, p0, 0) x1.toNat → Wp k_X7_hasNumber d (22, [some (aR (some (8, p0, 0))), some (aI (iZ x1)), some (aI (iZ x2))], [], am_hp σ, t) Q) : Wp k_X7_hasNumber d (12, [some (aR (some (8, p0, 0))), some (aI (iZ x1)), some (aI (iZ x2))], [], am_hp σ, t) Q := by
  refine w_s (c' := (13, [some (aR (some (8, p0, 0))), some (aI (iZ x1)), some (aI (iZ x2))], [aI (iZ x2)], am_hp σ, t)) rfl rfl ?_
  refine w_s (c' := (14, [some (aR (some (8, p0, 0))), some (aI (iZ x1)), some (aI (iZ x2))], [aR (some (8, p0, 0)), aI (iZ x2)], am_hp σ, t)) rfl rfl ?_
  refine w_get rfl (hp_8 _ p0) rfl rfl ?_
  refine w_s (c' := (18, [some (aR (some (8, p0, 0))), some (aI (iZ x1)), some (aI (iZ x2))], [aI (iZ x1), aR (some (10, p0, 0)), aI (iZ x2)], am_hp σ, t)) rfl rfl ?_
  refine w_ial rfl (hp_10 _ p0 0) h1 rfl rfl ?_
  exact w_icge rfl h2 h3 rfl w4 w5

theorem b_X7_hasNumber_22 {p0 : Nat} {x1 : Int} {x2 : Int} {σ : SG} {t : KT} (w1 : Wp k_X7_hasNumber d (27, [some (aR (some (8, p0, 0))), some (aI (iZ x1)), some (aI (iZ x2))], [aI (iZ 1)], am_hp σ, t) Q) : Wp k_X7_hasNumber d (22, [some (aR (some (8, p0, 0))), some (aI (iZ x1)), some (aI (iZ x2))], [], am_hp σ, t) Q := by
  refine w_psh rfl zc_1 rfl ?_
  refine w_s (c' := (27, [some (aR (some (8, p0, 0))), some (aI (iZ x1)), some (aI (iZ x2))], [aI (iZ 1)], am_hp σ, t)) rfl rfl ?_
  exact w1

theorem b_X7_hasNumber_26 {p0 : Nat} {x1 : Int} {x2 : Int} {σ : SG} {t : KT} (w1 : Wp k_X7_hasNumber d (27, [some (aR (some (8, p0, 0))), some (aI (iZ x1)), some (aI (iZ x2))], [aI (iZ 0)], am_hp σ, t) Q) : Wp k_X7_hasNumber d (26, [some (aR (some (8, p0, 0))), some (aI (iZ x1)), some (aI (iZ x2))], [], am_hp σ, t) Q := by
  refine w_psh rfl zc_0 rfl ?_
  exact w1

theorem b_X7_hasNumber_27 {p0 : Nat} {x1 : Int} {x2 : Int} {xs0 : Int} {σ : SG} {t : KT} (h1 : xs0 = 0 ∨ xs0 = 1) (q2 : Q (.inl (some (aI (iZ xs0))), am_hp σ, t)) : Wp k_X7_hasNumber d (27, [some (aR (some (8, p0, 0))), some (aI (iZ x1)), some (aI (iZ x2))], [aI (iZ xs0)], am_hp σ, t) Q := by
  exact w_ret rfl (frt_b h1) q2

theorem b_X7_rowNamed_0 {p0 : Nat} {y1 : Int} {σ : SG} {t : KT} (w1 : Wp k_X7_rowNamed d (2, [some (aR (some (8, p0, 0))), some (aL (jZ y1)), none, some (aI (iZ 0))], [], am_hp σ, t) Q) : Wp k_X7_rowNamed d (0, [some (aR (some (8, p0, 0))), some (aL (jZ y1)), none, none], [], am_hp σ, t) Q := by
  refine w_psh rfl zc_0 rfl ?_
  refine w_s (c' := (2, [some (aR (some (8, p0, 0))), some (aL (jZ y1)), none, some (aI (iZ 0))], [], am_hp σ, t)) rfl rfl ?_
  exact w1

theorem e_X7_rowNamed {p0 : Nat} {y1 : Int} {h : AH} {t : KT} {d : Nat} {P : RS → Prop} (w : Wp k_X7_rowNamed d (0, [some (aR (some (8, p0, 0))), some (aL (jZ y1)), none, none], [], h, t) P) : ∃ r, Ca (d + 1) 46 [aR (some (8, p0, 0)), aL (jZ y1)] h t r ∧ P r := ca_W rfl rfl rfl rfl w

theorem b_X7_rowNamed_2 {p0 : Nat} {y1 : Int} {x3 : Int} {σ : SG} {t : KT} (h1 : -2147483648 ≤ x3 ∧ x3 < 2147483648) (h2 : -2147483648 ≤ σ.1 (8, p0, 0) 4 ∧ σ.1 (8, p0, 0) 4 < 2147483648) (w3 : σ.1 (8, p0, 0) 4 ≤ x3 → Wp k_X7_rowNamed d (29, [some (aR (some (8, p0, 0))), some (aL (jZ y1)), none, some (aI (iZ x3))], [], am_hp σ, t) Q) (w4 : x3 < σ.1 (8, p0, 0) 4 → Wp k_X7_rowNamed d (10, [some (aR (some (8, p0, 0))), some (aL (jZ y1)), none, some (aI (iZ x3))], [], am_hp σ, t) Q) : Wp k_X7_rowNamed d (2, [some (aR (some (8, p0, 0))), some (aL (jZ y1)), none, some (aI (iZ x3))], [], am_hp σ, t) Q := by
  refine w_s (c' := (3, [some (aR (some (8, p0, 0))), some (aL (jZ y1)), none, some (aI (iZ x3))], [aI (iZ x3)], am_hp σ, t)) rfl rfl ?_
  refine w_s (c' := (4, [some (aR (some (8, p0, 0))), some (aL (jZ y1)), none, some (aI (iZ x3))], [aR (some (8, p0, 0)), aI (iZ x3)], am_hp σ, t)) rfl rfl ?_
  refine w_get rfl (hp_8 _ p0) rfl rfl ?_
  exact w_icge rfl h1 h2 rfl w3 w4

theorem b_X7_rowNamed_10 {p0 : Nat} {y1 : Int} {x3 : Int} {σ : SG} {t : KT} (h1 : 0 ≤ x3 ∧ x3 < 4) (h2 : -2147483648 ≤ ycmp (σ.2.1 (9, p0, 0) x3.toNat) y1 ∧ ycmp (σ.2.1 (9, p0, 0) x3.toNat) y1 < 2147483648) (w3 : ycmp (σ.2.1 (9, p0, 0) x3.toNat) y1 ≠ 0 → Wp k_X7_rowNamed d (23, [some (aR (some (8, p0, 0))), some (aL (jZ y1)), none, some (aI (iZ x3))], [], am_hp σ, t) Q) (w4 : ycmp (σ.2.1 (9, p0, 0) x3.toNat) y1 = 0 → Wp k_X7_rowNamed d (21, [some (aR (some (8, p0, 0))), some (aL (jZ y1)), none, some (aI (iZ x3))], [], am_hp σ, t) Q) : Wp k_X7_rowNamed d (10, [some (aR (some (8, p0, 0))), some (aL (jZ y1)), none, some (aI (iZ x3))], [], am_hp σ, t) Q := by
  refine w_s (c' := (11, [some (aR (some (8, p0, 0))), some (aL (jZ y1)), none, some (aI (iZ x3))], [aR (some (8, p0, 0))], am_hp σ, t)) rfl rfl ?_
  refine w_get rfl (hp_8 _ p0) rfl rfl ?_
  refine w_s (c' := (15, [some (aR (some (8, p0, 0))), some (aL (jZ y1)), none, some (aI (iZ x3))], [aI (iZ x3), aR (some (9, p0, 0))], am_hp σ, t)) rfl rfl ?_
  refine w_lal rfl (hp_9 _ p0 0) h1 rfl rfl ?_
  refine w_s (c' := (17, [some (aR (some (8, p0, 0))), some (aL (jZ y1)), none, some (aI (iZ x3))], [aL (jZ y1), aL (jZ (σ.2.1 (9, p0, 0) x3.toNat))], am_hp σ, t)) rfl rfl ?_
  refine w_lcmp rfl rfl ?_
  exact w_ifne rfl h2 rfl w3 w4

theorem b_X7_rowNamed_21 {p0 : Nat} {y1 : Int} {x3 : Int} {σ : SG} {t : KT} (q1 : Q (.inl (some (aI (iZ x3))), am_hp σ, t)) : Wp k_X7_rowNamed d (21, [some (aR (some (8, p0, 0))), some (aL (jZ y1)), none, some (aI (iZ x3))], [], am_hp σ, t) Q := by
  refine w_s (c' := (22, [some (aR (some (8, p0, 0))), some (aL (jZ y1)), none, some (aI (iZ x3))], [aI (iZ x3)], am_hp σ, t)) rfl rfl ?_
  exact w_ret rfl rfl q1

theorem b_X7_rowNamed_23 {p0 : Nat} {y1 : Int} {x3 : Int} {σ : SG} {t : KT} (w1 : Wp k_X7_rowNamed d (2, [some (aR (some (8, p0, 0))), some (aL (jZ y1)), none, some (aI (iZ (x3 + 1)))], [], am_hp σ, t) Q) : Wp k_X7_rowNamed d (23, [some (aR (some (8, p0, 0))), some (aL (jZ y1)), none, some (aI (iZ x3))], [], am_hp σ, t) Q := by
  refine w_inc (a := x3) (ls' := [some (aR (some (8, p0, 0))), some (aL (jZ y1)), none, some (aI (iZ (x3 + 1)))]) rfl rfl rfl zc_1 rfl rfl ?_
  refine w_s (c' := (2, [some (aR (some (8, p0, 0))), some (aL (jZ y1)), none, some (aI (iZ (x3 + 1)))], [], am_hp σ, t)) rfl rfl ?_
  exact w1

theorem b_X7_rowNamed_29 {p0 : Nat} {y1 : Int} {x3 : Int} {σ : SG} {t : KT} (q1 : Q (.inl (some (aI (iZ (-1)))), am_hp σ, t)) : Wp k_X7_rowNamed d (29, [some (aR (some (8, p0, 0))), some (aL (jZ y1)), none, some (aI (iZ x3))], [], am_hp σ, t) Q := by
  refine w_psh rfl zc_m1 rfl ?_
  exact w_ret rfl rfl q1

theorem b_X7_allNumbers_0 {p0 : Nat} {σ : SG} {t : KT} (w1 : Wp k_X7_allNumbers d (4, [some (aR (some (8, p0, 0))), some (aI (iZ 0)), some (aI (iZ 0))], [], am_hp σ, t) Q) : Wp k_X7_allNumbers d (0, [some (aR (some (8, p0, 0))), none, none], [], am_hp σ, t) Q := by
  refine w_psh rfl zc_0 rfl ?_
  refine w_s (c' := (2, [some (aR (some (8, p0, 0))), some (aI (iZ 0)), none], [], am_hp σ, t)) rfl rfl ?_
  refine w_psh rfl zc_0 rfl ?_
  refine w_s (c' := (4, [some (aR (some (8, p0, 0))), some (aI (iZ 0)), some (aI (iZ 0))], [], am_hp σ, t)) rfl rfl ?_
  exact w1

theorem e_X7_allNumbers {p0 : Nat} {h : AH} {t : KT} {d : Nat} {P : RS → Prop} (w : Wp k_X7_allNumbers d (0, [some (aR (some (8, p0, 0))), none, none], [], h, t) P) : ∃ r, Ca (d + 1) 47 [aR (some (8, p0, 0))] h t r ∧ P r := ca_W rfl rfl rfl rfl w

theorem b_X7_allNumbers_4 {p0 : Nat} {x1 : Int} {x2 : Int} {σ : SG} {t : KT} (h1 : -2147483648 ≤ x2 ∧ x2 < 2147483648) (h2 : -2147483648 ≤ σ.1 (8, p0, 0) 4 ∧ σ.1 (8, p0, 0) 4 < 2147483648) (w3 : σ.1 (8, p0, 0) 4 ≤ x2 → Wp k_X7_allNumbers d (27, [some (aR (some (8, p0, 0))), some (aI (iZ x1)), some (aI (iZ x2))], [], am_hp σ, t) Q) (w4 : x2 < σ.1 (8, p0, 0) 4 → Wp k_X7_allNumbers d (12, [some (aR (some (8, p0, 0))), some (aI (iZ x1)), some (aI (iZ x2))], [], am_hp σ, t) Q) : Wp k_X7_allNumbers d (4, [some (aR (some (8, p0, 0))), some (aI (iZ x1)), some (aI (iZ x2))], [], am_hp σ, t) Q := by
  refine w_s (c' := (5, [some (aR (some (8, p0, 0))), some (aI (iZ x1)), some (aI (iZ x2))], [aI (iZ x2)], am_hp σ, t)) rfl rfl ?_
  refine w_s (c' := (6, [some (aR (some (8, p0, 0))), some (aI (iZ x1)), some (aI (iZ x2))], [aR (some (8, p0, 0)), aI (iZ x2)], am_hp σ, t)) rfl rfl ?_
  refine w_get rfl (hp_8 _ p0) rfl rfl ?_
  exact w_icge rfl h1 h2 rfl w3 w4

theorem b_X7_allNumbers_12 {p0 : Nat} {x1 : Int} {x2 : Int} {σ : SG} {t : KT} (h1 : 0 ≤ x2 ∧ x2 < 4) (w2 : Wp k_X7_allNumbers d (4, [some (aR (some (8, p0, 0))), some (aI (iZ (x1 + (σ.1 (10, p0, 0) x2.toNat)))), some (aI (iZ (x2 + 1)))], [], am_hp σ, t) Q) : Wp k_X7_allNumbers d (12, [some (aR (some (8, p0, 0))), some (aI (iZ x1)), some (aI (iZ x2))], [], am_hp σ, t) Q := by
  refine w_s (c' := (13, [some (aR (some (8, p0, 0))), some (aI (iZ x1)), some (aI (iZ x2))], [aI (iZ x1)], am_hp σ, t)) rfl rfl ?_
  refine w_s (c' := (14, [some (aR (some (8, p0, 0))), some (aI (iZ x1)), some (aI (iZ x2))], [aR (some (8, p0, 0)), aI (iZ x1)], am_hp σ, t)) rfl rfl ?_
  refine w_get rfl (hp_8 _ p0) rfl rfl ?_
  refine w_s (c' := (18, [some (aR (some (8, p0, 0))), some (aI (iZ x1)), some (aI (iZ x2))], [aI (iZ x2), aR (some (10, p0, 0)), aI (iZ x1)], am_hp σ, t)) rfl rfl ?_
  refine w_ial rfl (hp_10 _ p0 0) h1 rfl rfl ?_
  refine w_iadd rfl rfl ?_
  refine w_s (c' := (21, [some (aR (some (8, p0, 0))), some (aI (iZ (x1 + (σ.1 (10, p0, 0) x2.toNat)))), some (aI (iZ x2))], [], am_hp σ, t)) rfl rfl ?_
  refine w_inc (a := x2) (ls' := [some (aR (some (8, p0, 0))), some (aI (iZ (x1 + (σ.1 (10, p0, 0) x2.toNat)))), some (aI (iZ (x2 + 1)))]) rfl rfl rfl zc_1 rfl rfl ?_
  refine w_s (c' := (4, [some (aR (some (8, p0, 0))), some (aI (iZ (x1 + (σ.1 (10, p0, 0) x2.toNat)))), some (aI (iZ (x2 + 1)))], [], am_hp σ, t)) rfl rfl ?_
  exact w2

theorem b_X7_allNumbers_27 {p0 : Nat} {x1 : Int} {x2 : Int} {σ : SG} {t : KT} (q1 : Q (.inl (some (aI (iZ x1))), am_hp σ, t)) : Wp k_X7_allNumbers d (27, [some (aR (some (8, p0, 0))), some (aI (iZ x1)), some (aI (iZ x2))], [], am_hp σ, t) Q := by
  refine w_s (c' := (28, [some (aR (some (8, p0, 0))), some (aI (iZ x1)), some (aI (iZ x2))], [aI (iZ x1)], am_hp σ, t)) rfl rfl ?_
  exact w_ret rfl rfl q1

theorem b_X7_sumOf_0 {p0 : Nat} {x1 : Int} {x2 : Int} {x3 : Int} {σ : SG} {t : KT} (h1 : -2147483648 ≤ x2 ∧ x2 < 2147483648) (w2 : Wp k_X7_sumOf d (10, [some (aR (some (8, p0, 0))), some (aI (iZ x1)), some (aI (iZ x2)), some (aI (iZ x3)), some (aL (jZ 0)), none, some (aI (iZ (max x2 0)))], [], am_hp σ, t) Q) : Wp k_X7_sumOf d (0, [some (aR (some (8, p0, 0))), some (aI (iZ x1)), some (aI (iZ x2)), some (aI (iZ x3)), none, none, none], [], am_hp σ, t) Q := by
  refine w_psL rfl yc_0 rfl ?_
  refine w_s (c' := (3, [some (aR (some (8, p0, 0))), some (aI (iZ x1)), some (aI (iZ x2)), some (aI (iZ x3)), some (aL (jZ 0)), none, none], [], am_hp σ, t)) rfl rfl ?_
  refine w_s (c' := (4, [some (aR (some (8, p0, 0))), some (aI (iZ x1)), some (aI (iZ x2)), some (aI (iZ x3)), some (aL (jZ 0)), none, none], [aI (iZ x2)], am_hp σ, t)) rfl rfl ?_
  refine w_psh rfl zc_0 rfl ?_
  refine w_max rfl h1 (by decide) rfl rfl ?_
  refine w_s (c' := (10, [some (aR (some (8, p0, 0))), some (aI (iZ x1)), some (aI (iZ x2)), some (aI (iZ x3)), some (aL (jZ 0)), none, some (aI (iZ (max x2 0)))], [], am_hp σ, t)) rfl rfl ?_
  exact w2

theorem e_X7_sumOf {p0 : Nat} {x1 : Int} {x2 : Int} {x3 : Int} {h : AH} {t : KT} {d : Nat} {P : RS → Prop} (w : Wp k_X7_sumOf d (0, [some (aR (some (8, p0, 0))), some (aI (iZ x1)), some (aI (iZ x2)), some (aI (iZ x3)), none, none, none], [], h, t) P) : ∃ r, Ca (d + 1) 48 [aR (some (8, p0, 0)), aI (iZ x1), aI (iZ x2), aI (iZ x3)] h t r ∧ P r := ca_W rfl rfl rfl rfl w

theorem b_X7_sumOf_10 {p0 : Nat} {x1 : Int} {x2 : Int} {x3 : Int} {y4 : Int} {x6 : Int} {σ : SG} {t : KT} (h1 : -2147483648 ≤ x6 ∧ x6 < 2147483648) (h2 : -2147483648 ≤ x3 ∧ x3 < 2147483648) (w3 : x3 ≤ x6 → Wp k_X7_sumOf d (47, [some (aR (some (8, p0, 0))), some (aI (iZ x1)), some (aI (iZ x2)), some (aI (iZ x3)), some (aL (jZ y4)), none, some (aI (iZ x6))], [], am_hp σ, t) Q) (w4 : x6 < x3 → Wp k_X7_sumOf d (16, [some (aR (some (8, p0, 0))), some (aI (iZ x1)), some (aI (iZ x2)), some (aI (iZ x3)), some (aL (jZ y4)), none, some (aI (iZ x6))], [], am_hp σ, t) Q) : Wp k_X7_sumOf d (10, [some (aR (some (8, p0, 0))), some (aI (iZ x1)), some (aI (iZ x2)), some (aI (iZ x3)), some (aL (jZ y4)), none, some (aI (iZ x6))], [], am_hp σ, t) Q := by
  refine w_s (c' := (12, [some (aR (some (8, p0, 0))), some (aI (iZ x1)), some (aI (iZ x2)), some (aI (iZ x3)), some (aL (jZ y4)), none, some (aI (iZ x6))], [aI (iZ x6)], am_hp σ, t)) rfl rfl ?_
  refine w_s (c' := (13, [some (aR (some (8, p0, 0))), some (aI (iZ x1)), some (aI (iZ x2)), some (aI (iZ x3)), some (aL (jZ y4)), none, some (aI (iZ x6))], [aI (iZ x3), aI (iZ x6)], am_hp σ, t)) rfl rfl ?_
  exact w_icge rfl h1 h2 rfl w3 w4

theorem b_X7_sumOf_16 {p0 : Nat} {x1 : Int} {x2 : Int} {x3 : Int} {y4 : Int} {x6 : Int} {r1 : Int} {σ σ1 : SG} {t : KT} (c1 : Ca d 44 [aR (some (8, p0, 0)), aI (iZ x1)] (am_hp σ) t (.inl (some (aI (iZ r1))), am_hp σ1, t)) (h2 : -2147483648 ≤ x6 ∧ x6 < 2147483648) (h3 : -2147483648 ≤ r1 ∧ r1 < 2147483648) (w4 : r1 ≤ x6 → Wp k_X7_sumOf d (47, [some (aR (some (8, p0, 0))), some (aI (iZ x1)), some (aI (iZ x2)), some (aI (iZ x3)), some (aL (jZ y4)), none, some (aI (iZ x6))], [], am_hp σ1, t) Q) (w5 : x6 < r1 → Wp k_X7_sumOf d (26, [some (aR (some (8, p0, 0))), some (aI (iZ x1)), some (aI (iZ x2)), some (aI (iZ x3)), some (aL (jZ y4)), none, some (aI (iZ x6))], [], am_hp σ1, t) Q) : Wp k_X7_sumOf d (16, [some (aR (some (8, p0, 0))), some (aI (iZ x1)), some (aI (iZ x2)), some (aI (iZ x3)), some (aL (jZ y4)), none, some (aI (iZ x6))], [], am_hp σ, t) Q := by
  refine w_s (c' := (18, [some (aR (some (8, p0, 0))), some (aI (iZ x1)), some (aI (iZ x2)), some (aI (iZ x3)), some (aL (jZ y4)), none, some (aI (iZ x6))], [aI (iZ x6)], am_hp σ, t)) rfl rfl ?_
  refine w_s (c' := (19, [some (aR (some (8, p0, 0))), some (aI (iZ x1)), some (aI (iZ x2)), some (aI (iZ x3)), some (aL (jZ y4)), none, some (aI (iZ x6))], [aR (some (8, p0, 0)), aI (iZ x6)], am_hp σ, t)) rfl rfl ?_
  refine w_s (c' := (20, [some (aR (some (8, p0, 0))), some (aI (iZ x1)), some (aI (iZ x2)), some (aI (iZ x3)), some (aL (jZ y4)), none, some (aI (iZ x6))], [aI (iZ x1), aR (some (8, p0, 0)), aI (iZ x6)], am_hp σ, t)) rfl rfl ?_
  refine w_c0 (c' := (23, [some (aR (some (8, p0, 0))), some (aI (iZ x1)), some (aI (iZ x2)), some (aI (iZ x3)), some (aL (jZ y4)), none, some (aI (iZ x6))], [aI (iZ r1), aI (iZ x6)], am_hp σ1, t)) rfl rfl (rcv_of (hp_8 _ p0)) rfl c1 (Nat.le_refl _) rfl ?_
  exact w_icge rfl h2 h3 rfl w4 w5

theorem b_X7_sumOf_26 {p0 : Nat} {x1 : Int} {x2 : Int} {x3 : Int} {y4 : Int} {x6 : Int} {σ : SG} {t : KT} (h1 : 0 ≤ x1 ∧ x1 < 4) (h2 : 0 ≤ x6 ∧ x6 < 60) (h3 : -2147483648 ≤ σ.1 (12, p0, x1.toNat) x6.toNat ∧ σ.1 (12, p0, x1.toNat) x6.toNat < 2147483648) (w4 : Wp k_X7_sumOf d (10, [some (aR (some (8, p0, 0))), some (aI (iZ x1)), some (aI (iZ x2)), some (aI (iZ x3)), some (aL (jZ (y4 + (σ.1 (12, p0, x1.toNat) x6.toNat)))), none, some (aI (iZ (x6 + 1)))], [], am_hp σ, t) Q) : Wp k_X7_sumOf d (26, [some (aR (some (8, p0, 0))), some (aI (iZ x1)), some (aI (iZ x2)), some (aI (iZ x3)), some (aL (jZ y4)), none, some (aI (iZ x6))], [], am_hp σ, t) Q := by
  refine w_s (c' := (28, [some (aR (some (8, p0, 0))), some (aI (iZ x1)), some (aI (iZ x2)), some (aI (iZ x3)), some (aL (jZ y4)), none, some (aI (iZ x6))], [aL (jZ y4)], am_hp σ, t)) rfl rfl ?_
  refine w_s (c' := (29, [some (aR (some (8, p0, 0))), some (aI (iZ x1)), some (aI (iZ x2)), some (aI (iZ x3)), some (aL (jZ y4)), none, some (aI (iZ x6))], [aR (some (8, p0, 0)), aL (jZ y4)], am_hp σ, t)) rfl rfl ?_
  refine w_get rfl (hp_8 _ p0) rfl rfl ?_
  refine w_s (c' := (33, [some (aR (some (8, p0, 0))), some (aI (iZ x1)), some (aI (iZ x2)), some (aI (iZ x3)), some (aL (jZ y4)), none, some (aI (iZ x6))], [aI (iZ x1), aR (some (11, p0, 0)), aL (jZ y4)], am_hp σ, t)) rfl rfl ?_
  refine w_aal rfl (hp_11 _ p0) h1 rfl rfl ?_
  refine w_s (c' := (36, [some (aR (some (8, p0, 0))), some (aI (iZ x1)), some (aI (iZ x2)), some (aI (iZ x3)), some (aL (jZ y4)), none, some (aI (iZ x6))], [aI (iZ x6), aR (some (12, p0, x1.toNat)), aL (jZ y4)], am_hp σ, t)) rfl rfl ?_
  refine w_ial rfl (hp_12 _ p0 x1.toNat) h2 rfl rfl ?_
  refine w_i2l rfl rfl h3 ?_
  refine w_ladd rfl rfl ?_
  refine w_s (c' := (41, [some (aR (some (8, p0, 0))), some (aI (iZ x1)), some (aI (iZ x2)), some (aI (iZ x3)), some (aL (jZ (y4 + (σ.1 (12, p0, x1.toNat) x6.toNat)))), none, some (aI (iZ x6))], [], am_hp σ, t)) rfl rfl ?_
  refine w_inc (a := x6) (ls' := [some (aR (some (8, p0, 0))), some (aI (iZ x1)), some (aI (iZ x2)), some (aI (iZ x3)), some (aL (jZ (y4 + (σ.1 (12, p0, x1.toNat) x6.toNat)))), none, some (aI (iZ (x6 + 1)))]) rfl rfl rfl zc_1 rfl rfl ?_
  refine w_s (c' := (10, [some (aR (some (8, p0, 0))), some (aI (iZ x1)), some (aI (iZ x2)), some (aI (iZ x3)), some (aL (jZ (y4 + (σ.1 (12, p0, x1.toNat) x6.toNat)))), none, some (aI (iZ (x6 + 1)))], [], am_hp σ, t)) rfl rfl ?_
  exact w4

theorem b_X7_sumOf_47 {p0 : Nat} {x1 : Int} {x2 : Int} {x3 : Int} {y4 : Int} {x6 : Int} {σ : SG} {t : KT} (q1 : Q (.inl (some (aL (jZ y4))), am_hp σ, t)) : Wp k_X7_sumOf d (47, [some (aR (some (8, p0, 0))), some (aI (iZ x1)), some (aI (iZ x2)), some (aI (iZ x3)), some (aL (jZ y4)), none, some (aI (iZ x6))], [], am_hp σ, t) Q := by
  refine w_s (c' := (49, [some (aR (some (8, p0, 0))), some (aI (iZ x1)), some (aI (iZ x2)), some (aI (iZ x3)), some (aL (jZ y4)), none, some (aI (iZ x6))], [aL (jZ y4)], am_hp σ, t)) rfl rfl ?_
  exact w_ret rfl rfl q1

theorem b_X7_bitsNeeded_0 {p0 : Nat} {x1 : Int} {σ : SG} {t : KT} (w1 : Wp k_X7_bitsNeeded d (4, [some (aR (some (8, p0, 0))), some (aI (iZ x1)), some (aI (iZ 0)), some (aI (iZ 0))], [], am_hp σ, t) Q) : Wp k_X7_bitsNeeded d (0, [some (aR (some (8, p0, 0))), some (aI (iZ x1)), none, none], [], am_hp σ, t) Q := by
  refine w_psh rfl zc_0 rfl ?_
  refine w_s (c' := (2, [some (aR (some (8, p0, 0))), some (aI (iZ x1)), some (aI (iZ 0)), none], [], am_hp σ, t)) rfl rfl ?_
  refine w_psh rfl zc_0 rfl ?_
  refine w_s (c' := (4, [some (aR (some (8, p0, 0))), some (aI (iZ x1)), some (aI (iZ 0)), some (aI (iZ 0))], [], am_hp σ, t)) rfl rfl ?_
  exact w1

theorem e_X7_bitsNeeded {p0 : Nat} {x1 : Int} {h : AH} {t : KT} {d : Nat} {P : RS → Prop} (w : Wp k_X7_bitsNeeded d (0, [some (aR (some (8, p0, 0))), some (aI (iZ x1)), none, none], [], h, t) P) : ∃ r, Ca (d + 1) 49 [aR (some (8, p0, 0)), aI (iZ x1)] h t r ∧ P r := ca_W rfl rfl rfl rfl w

theorem b_X7_bitsNeeded_4 {p0 : Nat} {x1 : Int} {x2 : Int} {x3 : Int} {r1 : Int} {σ σ1 : SG} {t : KT} (c1 : Ca d 44 [aR (some (8, p0, 0)), aI (iZ x1)] (am_hp σ) t (.inl (some (aI (iZ r1))), am_hp σ1, t)) (h2 : -2147483648 ≤ x3 ∧ x3 < 2147483648) (h3 : -2147483648 ≤ r1 ∧ r1 < 2147483648) (w4 : r1 ≤ x3 → Wp k_X7_bitsNeeded d (33, [some (aR (some (8, p0, 0))), some (aI (iZ x1)), some (aI (iZ x2)), some (aI (iZ x3))], [], am_hp σ1, t) Q) (w5 : x3 < r1 → Wp k_X7_bitsNeeded d (13, [some (aR (some (8, p0, 0))), some (aI (iZ x1)), some (aI (iZ x2)), some (aI (iZ x3))], [], am_hp σ1, t) Q) : Wp k_X7_bitsNeeded d (4, [some (aR (some (8, p0, 0))), some (aI (iZ x1)), some (aI (iZ x2)), some (aI (iZ x3))], [], am_hp σ, t) Q := by
  refine w_s (c' := (5, [some (aR (some (8, p0, 0))), some (aI (iZ x1)), some (aI (iZ x2)), some (aI (iZ x3))], [aI (iZ x3)], am_hp σ, t)) rfl rfl ?_
  refine w_s (c' := (6, [some (aR (some (8, p0, 0))), some (aI (iZ x1)), some (aI (iZ x2)), some (aI (iZ x3))], [aR (some (8, p0, 0)), aI (iZ x3)], am_hp σ, t)) rfl rfl ?_
  refine w_s (c' := (7, [some (aR (some (8, p0, 0))), some (aI (iZ x1)), some (aI (iZ x2)), some (aI (iZ x3))], [aI (iZ x1), aR (some (8, p0, 0)), aI (iZ x3)], am_hp σ, t)) rfl rfl ?_
  refine w_c0 (c' := (10, [some (aR (some (8, p0, 0))), some (aI (iZ x1)), some (aI (iZ x2)), some (aI (iZ x3))], [aI (iZ r1), aI (iZ x3)], am_hp σ1, t)) rfl rfl (rcv_of (hp_8 _ p0)) rfl c1 (Nat.le_refl _) rfl ?_
  exact w_icge rfl h2 h3 rfl w4 w5

theorem b_X7_bitsNeeded_13 {p0 : Nat} {x1 : Int} {x2 : Int} {x3 : Int} {r1 : Int} {σ σ1 : SG} {t : KT} (h1 : 0 ≤ x1 ∧ x1 < 4) (h2 : 0 ≤ x3 ∧ x3 < 60) (c3 : Ca d 147 [aI (iZ (σ.1 (12, p0, x1.toNat) x3.toNat))] (am_hp σ) t (.inl (some (aI (iZ r1))), am_hp σ1, t)) (w4 : Wp k_X7_bitsNeeded d (4, [some (aR (some (8, p0, 0))), some (aI (iZ x1)), some (aI (iZ (x2 + r1))), some (aI (iZ (x3 + 1)))], [], am_hp σ1, t) Q) : Wp k_X7_bitsNeeded d (13, [some (aR (some (8, p0, 0))), some (aI (iZ x1)), some (aI (iZ x2)), some (aI (iZ x3))], [], am_hp σ, t) Q := by
  refine w_s (c' := (14, [some (aR (some (8, p0, 0))), some (aI (iZ x1)), some (aI (iZ x2)), some (aI (iZ x3))], [aI (iZ x2)], am_hp σ, t)) rfl rfl ?_
  refine w_s (c' := (15, [some (aR (some (8, p0, 0))), some (aI (iZ x1)), some (aI (iZ x2)), some (aI (iZ x3))], [aR (some (8, p0, 0)), aI (iZ x2)], am_hp σ, t)) rfl rfl ?_
  refine w_get rfl (hp_8 _ p0) rfl rfl ?_
  refine w_s (c' := (19, [some (aR (some (8, p0, 0))), some (aI (iZ x1)), some (aI (iZ x2)), some (aI (iZ x3))], [aI (iZ x1), aR (some (11, p0, 0)), aI (iZ x2)], am_hp σ, t)) rfl rfl ?_
  refine w_aal rfl (hp_11 _ p0) h1 rfl rfl ?_
  refine w_s (c' := (21, [some (aR (some (8, p0, 0))), some (aI (iZ x1)), some (aI (iZ x2)), some (aI (iZ x3))], [aI (iZ x3), aR (some (12, p0, x1.toNat)), aI (iZ x2)], am_hp σ, t)) rfl rfl ?_
  refine w_ial rfl (hp_12 _ p0 x1.toNat) h2 rfl rfl ?_
  refine w_c0 (c' := (25, [some (aR (some (8, p0, 0))), some (aI (iZ x1)), some (aI (iZ x2)), some (aI (iZ x3))], [aI (iZ r1), aI (iZ x2)], am_hp σ1, t)) rfl rfl rfl rfl c3 (Nat.le_refl _) rfl ?_
  refine w_iadd rfl rfl ?_
  refine w_s (c' := (27, [some (aR (some (8, p0, 0))), some (aI (iZ x1)), some (aI (iZ (x2 + r1))), some (aI (iZ x3))], [], am_hp σ1, t)) rfl rfl ?_
  refine w_inc (a := x3) (ls' := [some (aR (some (8, p0, 0))), some (aI (iZ x1)), some (aI (iZ (x2 + r1))), some (aI (iZ (x3 + 1)))]) rfl rfl rfl zc_1 rfl rfl ?_
  refine w_s (c' := (4, [some (aR (some (8, p0, 0))), some (aI (iZ x1)), some (aI (iZ (x2 + r1))), some (aI (iZ (x3 + 1)))], [], am_hp σ1, t)) rfl rfl ?_
  exact w4

theorem b_X7_bitsNeeded_33 {p0 : Nat} {x1 : Int} {x2 : Int} {x3 : Int} {σ : SG} {t : KT} (q1 : Q (.inl (some (aI (iZ x2))), am_hp σ, t)) : Wp k_X7_bitsNeeded d (33, [some (aR (some (8, p0, 0))), some (aI (iZ x1)), some (aI (iZ x2)), some (aI (iZ x3))], [], am_hp σ, t) Q := by
  refine w_s (c' := (34, [some (aR (some (8, p0, 0))), some (aI (iZ x1)), some (aI (iZ x2)), some (aI (iZ x3))], [aI (iZ x2)], am_hp σ, t)) rfl rfl ?_
  exact w_ret rfl rfl q1

theorem b_X7_addRow_0 {p0 : Nat} {y1 : Int} {σ : SG} {t : KT} (h1 : -2147483648 ≤ σ.1 (8, p0, 0) 4 ∧ σ.1 (8, p0, 0) 4 < 2147483648) (w2 : 4 ≤ σ.1 (8, p0, 0) 4 → Wp k_X7_addRow d (38, [some (aR (some (8, p0, 0))), some (aL (jZ y1)), none], [], am_hp σ, t) Q) (w3 : σ.1 (8, p0, 0) 4 < 4 → Wp k_X7_addRow d (8, [some (aR (some (8, p0, 0))), some (aL (jZ y1)), none], [], am_hp σ, t) Q) : Wp k_X7_addRow d (0, [some (aR (some (8, p0, 0))), some (aL (jZ y1)), none], [], am_hp σ, t) Q := by
  refine w_s (c' := (1, [some (aR (some (8, p0, 0))), some (aL (jZ y1)), none], [aR (some (8, p0, 0))], am_hp σ, t)) rfl rfl ?_
  refine w_get rfl (hp_8 _ p0) rfl rfl ?_
  refine w_psh rfl zc_4 rfl ?_
  exact w_icge rfl h1 (by decide) rfl w2 w3

theorem e_X7_addRow {p0 : Nat} {y1 : Int} {h : AH} {t : KT} {d : Nat} {P : RS → Prop} (w : Wp k_X7_addRow d (0, [some (aR (some (8, p0, 0))), some (aL (jZ y1)), none], [], h, t) P) : ∃ r, Ca (d + 1) 50 [aR (some (8, p0, 0)), aL (jZ y1)] h t r ∧ P r := ca_W rfl rfl rfl rfl w

theorem b_X7_addRow_8 {p0 : Nat} {y1 : Int} {σ : SG} {t : KT} (h1 : 0 ≤ σ.1 (8, p0, 0) 4 ∧ σ.1 (8, p0, 0) 4 < 4) (h2 : 0 ≤ ((sJ σ (9, p0, 0) (up (σ.2.1 (9, p0, 0)) (σ.1 (8, p0, 0) 4).toNat y1))).1 (8, p0, 0) 4 ∧ ((sJ σ (9, p0, 0) (up (σ.2.1 (9, p0, 0)) (σ.1 (8, p0, 0) 4).toNat y1))).1 (8, p0, 0) 4 < 4) (w3 : Wp k_X7_addRow d (38, [some (aR (some (8, p0, 0))), some (aL (jZ y1)), none], [], am_hp ((sI (sI (sJ σ (9, p0, 0) (up (σ.2.1 (9, p0, 0)) (σ.1 (8, p0, 0) 4).toNat y1)) (10, p0, 0) (up (((sJ σ (9, p0, 0) (up (σ.2.1 (9, p0, 0)) (σ.1 (8, p0, 0) 4).toNat y1))).1 (10, p0, 0)) (((sJ σ (9, p0, 0) (up (σ.2.1 (9, p0, 0)) (σ.1 (8, p0, 0) 4).toNat y1))).1 (8, p0, 0) 4).toNat 0)) (8, p0, 0) (up (((sI (sJ σ (9, p0, 0) (up (σ.2.1 (9, p0, 0)) (σ.1 (8, p0, 0) 4).toNat y1)) (10, p0, 0) (up (((sJ σ (9, p0, 0) (up (σ.2.1 (9, p0, 0)) (σ.1 (8, p0, 0) 4).toNat y1))).1 (10, p0, 0)) (((sJ σ (9, p0, 0) (up (σ.2.1 (9, p0, 0)) (σ.1 (8, p0, 0) 4).toNat y1))).1 (8, p0, 0) 4).toNat 0))).1 (8, p0, 0)) 4 ((((sI (sJ σ (9, p0, 0) (up (σ.2.1 (9, p0, 0)) (σ.1 (8, p0, 0) 4).toNat y1)) (10, p0, 0) (up (((sJ σ (9, p0, 0) (up (σ.2.1 (9, p0, 0)) (σ.1 (8, p0, 0) 4).toNat y1))).1 (10, p0, 0)) (((sJ σ (9, p0, 0) (up (σ.2.1 (9, p0, 0)) (σ.1 (8, p0, 0) 4).toNat y1))).1 (8, p0, 0) 4).toNat 0))).1 (8, p0, 0) 4) + 1)))), t) Q) : Wp k_X7_addRow d (8, [some (aR (some (8, p0, 0))), some (aL (jZ y1)), none], [], am_hp σ, t) Q := by
  refine w_s (c' := (9, [some (aR (some (8, p0, 0))), some (aL (jZ y1)), none], [aR (some (8, p0, 0))], am_hp σ, t)) rfl rfl ?_
  refine w_get rfl (hp_8 _ p0) rfl rfl ?_
  refine w_s (c' := (13, [some (aR (some (8, p0, 0))), some (aL (jZ y1)), none], [aR (some (8, p0, 0)), aR (some (9, p0, 0))], am_hp σ, t)) rfl rfl ?_
  refine w_get rfl (hp_8 _ p0) rfl rfl ?_
  refine w_s (c' := (17, [some (aR (some (8, p0, 0))), some (aL (jZ y1)), none], [aL (jZ y1), aI (iZ (σ.1 (8, p0, 0) 4)), aR (some (9, p0, 0))], am_hp σ, t)) rfl rfl ?_
  refine w_las rfl (mk_9 _ p0 0) h1 rfl rfl rfl ?_
  refine w_s (c' := (19, [some (aR (some (8, p0, 0))), some (aL (jZ y1)), none], [aR (some (8, p0, 0))], am_hp ((sJ σ (9, p0, 0) (up (σ.2.1 (9, p0, 0)) (σ.1 (8, p0, 0) 4).toNat y1))), t)) rfl rfl ?_
  refine w_get rfl (hp_8 _ p0) rfl rfl ?_
  refine w_s (c' := (23, [some (aR (some (8, p0, 0))), some (aL (jZ y1)), none], [aR (some (8, p0, 0)), aR (some (10, p0, 0))], am_hp ((sJ σ (9, p0, 0) (up (σ.2.1 (9, p0, 0)) (σ.1 (8, p0, 0) 4).toNat y1))), t)) rfl rfl ?_
  refine w_get rfl (hp_8 _ p0) rfl rfl ?_
  refine w_psh rfl zc_0 rfl ?_
  refine w_ias rfl (mk_10 _ p0 0) h2 rfl rfl rfl ?_
  refine w_s (c' := (29, [some (aR (some (8, p0, 0))), some (aL (jZ y1)), none], [aR (some (8, p0, 0))], am_hp ((sI (sJ σ (9, p0, 0) (up (σ.2.1 (9, p0, 0)) (σ.1 (8, p0, 0) 4).toNat y1)) (10, p0, 0) (up (((sJ σ (9, p0, 0) (up (σ.2.1 (9, p0, 0)) (σ.1 (8, p0, 0) 4).toNat y1))).1 (10, p0, 0)) (((sJ σ (9, p0, 0) (up (σ.2.1 (9, p0, 0)) (σ.1 (8, p0, 0) 4).toNat y1))).1 (8, p0, 0) 4).toNat 0))), t)) rfl rfl ?_
  refine w_s (c' := (30, [some (aR (some (8, p0, 0))), some (aL (jZ y1)), none], [aR (some (8, p0, 0)), aR (some (8, p0, 0))], am_hp ((sI (sJ σ (9, p0, 0) (up (σ.2.1 (9, p0, 0)) (σ.1 (8, p0, 0) 4).toNat y1)) (10, p0, 0) (up (((sJ σ (9, p0, 0) (up (σ.2.1 (9, p0, 0)) (σ.1 (8, p0, 0) 4).toNat y1))).1 (10, p0, 0)) (((sJ σ (9, p0, 0) (up (σ.2.1 (9, p0, 0)) (σ.1 (8, p0, 0) 4).toNat y1))).1 (8, p0, 0) 4).toNat 0))), t)) rfl rfl ?_
  refine w_get rfl (hp_8 _ p0) rfl rfl ?_
  refine w_psh rfl zc_1 rfl ?_
  refine w_iadd rfl rfl ?_
  refine w_putI rfl (hp_8 _ p0) rfl rfl rfl ?_
  exact w3

theorem b_X7_addRow_38 {p0 : Nat} {y1 : Int} {σ : SG} {t : KT} (q1 : Q (.inl none, am_hp σ, t)) : Wp k_X7_addRow d (38, [some (aR (some (8, p0, 0))), some (aL (jZ y1)), none], [], am_hp σ, t) Q := by
  exact w_f rfl rfl q1

theorem b_X7_putNumber_0 {p0 : Nat} {x1 : Int} {x2 : Int} {x3 : Int} {r1 : Int} {σ σ1 : SG} {t : KT} (c1 : Ca d 45 [aR (some (8, p0, 0)), aI (iZ x1), aI (iZ x2)] (am_hp σ) t (.inl (some (aI (iZ r1))), am_hp σ1, t)) (h2 : -2147483648 ≤ r1 ∧ r1 < 2147483648) (w3 : r1 = 0 → Wp k_X7_putNumber d (18, [some (aR (some (8, p0, 0))), some (aI (iZ x1)), some (aI (iZ x2)), some (aI (iZ x3))], [], am_hp σ1, t) Q) (w4 : r1 ≠ 0 → Wp k_X7_putNumber d (9, [some (aR (some (8, p0, 0))), some (aI (iZ x1)), some (aI (iZ x2)), some (aI (iZ x3))], [], am_hp σ1, t) Q) : Wp k_X7_putNumber d (0, [some (aR (some (8, p0, 0))), some (aI (iZ x1)), some (aI (iZ x2)), some (aI (iZ x3))], [], am_hp σ, t) Q := by
  refine w_s (c' := (1, [some (aR (some (8, p0, 0))), some (aI (iZ x1)), some (aI (iZ x2)), some (aI (iZ x3))], [aR (some (8, p0, 0))], am_hp σ, t)) rfl rfl ?_
  refine w_s (c' := (2, [some (aR (some (8, p0, 0))), some (aI (iZ x1)), some (aI (iZ x2)), some (aI (iZ x3))], [aI (iZ x1), aR (some (8, p0, 0))], am_hp σ, t)) rfl rfl ?_
  refine w_s (c' := (3, [some (aR (some (8, p0, 0))), some (aI (iZ x1)), some (aI (iZ x2)), some (aI (iZ x3))], [aI (iZ x2), aI (iZ x1), aR (some (8, p0, 0))], am_hp σ, t)) rfl rfl ?_
  refine w_c0 (c' := (6, [some (aR (some (8, p0, 0))), some (aI (iZ x1)), some (aI (iZ x2)), some (aI (iZ x3))], [aI (iZ r1)], am_hp σ1, t)) rfl rfl (rcv_of (hp_8 _ p0)) rfl c1 (Nat.le_refl _) rfl ?_
  exact w_ifeq rfl h2 rfl w3 w4

theorem e_X7_putNumber {p0 : Nat} {x1 : Int} {x2 : Int} {x3 : Int} {h : AH} {t : KT} {d : Nat} {P : RS → Prop} (w : Wp k_X7_putNumber d (0, [some (aR (some (8, p0, 0))), some (aI (iZ x1)), some (aI (iZ x2)), some (aI (iZ x3))], [], h, t) P) : ∃ r, Ca (d + 1) 51 [aR (some (8, p0, 0)), aI (iZ x1), aI (iZ x2), aI (iZ x3)] h t r ∧ P r := ca_W rfl rfl rfl rfl w

theorem b_X7_putNumber_9 {p0 : Nat} {x1 : Int} {x2 : Int} {x3 : Int} {σ : SG} {t : KT} (h1 : 0 ≤ x1 ∧ x1 < 4) (h2 : 0 ≤ x2 ∧ x2 < 60) (w3 : Wp k_X7_putNumber d (18, [some (aR (some (8, p0, 0))), some (aI (iZ x1)), some (aI (iZ x2)), some (aI (iZ x3))], [], am_hp ((sI σ (12, p0, x1.toNat) (up (σ.1 (12, p0, x1.toNat)) x2.toNat x3))), t) Q) : Wp k_X7_putNumber d (9, [some (aR (some (8, p0, 0))), some (aI (iZ x1)), some (aI (iZ x2)), some (aI (iZ x3))], [], am_hp σ, t) Q := by
  refine w_s (c' := (10, [some (aR (some (8, p0, 0))), some (aI (iZ x1)), some (aI (iZ x2)), some (aI (iZ x3))], [aR (some (8, p0, 0))], am_hp σ, t)) rfl rfl ?_
  refine w_get rfl (hp_8 _ p0) rfl rfl ?_
  refine w_s (c' := (14, [some (aR (some (8, p0, 0))), some (aI (iZ x1)), some (aI (iZ x2)), some (aI (iZ x3))], [aI (iZ x1), aR (some (11, p0, 0))], am_hp σ, t)) rfl rfl ?_
  refine w_aal rfl (hp_11 _ p0) h1 rfl rfl ?_
  refine w_s (c' := (16, [some (aR (some (8, p0, 0))), some (aI (iZ x1)), some (aI (iZ x2)), some (aI (iZ x3))], [aI (iZ x2), aR (some (12, p0, x1.toNat))], am_hp σ, t)) rfl rfl ?_
  refine w_s (c' := (17, [some (aR (some (8, p0, 0))), some (aI (iZ x1)), some (aI (iZ x2)), some (aI (iZ x3))], [aI (iZ x3), aI (iZ x2), aR (some (12, p0, x1.toNat))], am_hp σ, t)) rfl rfl ?_
  refine w_ias rfl (mk_12 _ p0 x1.toNat) h2 rfl rfl rfl ?_
  exact w3

theorem b_X7_putNumber_18 {p0 : Nat} {x1 : Int} {x2 : Int} {x3 : Int} {σ : SG} {t : KT} (q1 : Q (.inl none, am_hp σ, t)) : Wp k_X7_putNumber d (18, [some (aR (some (8, p0, 0))), some (aI (iZ x1)), some (aI (iZ x2)), some (aI (iZ x3))], [], am_hp σ, t) Q := by
  exact w_f rfl rfl q1

theorem b_X7_insertNumber_0 {p0 : Nat} {x1 : Int} {x2 : Int} {x3 : Int} {r1 : Int} {σ σ1 : SG} {t : KT} (c1 : Ca d 43 [aR (some (8, p0, 0)), aI (iZ x1)] (am_hp σ) t (.inl (some (aI (iZ r1))), am_hp σ1, t)) (h2 : -2147483648 ≤ r1 ∧ r1 < 2147483648) (w3 : r1 = 0 → Wp k_X7_insertNumber d (33, [some (aR (some (8, p0, 0))), some (aI (iZ x1)), some (aI (iZ x2)), some (aI (iZ x3))], [], am_hp σ1, t) Q) (w4 : r1 ≠ 0 → Wp k_X7_insertNumber d (8, [some (aR (some (8, p0, 0))), some (aI (iZ x1)), some (aI (iZ x2)), some (aI (iZ x3))], [], am_hp σ1, t) Q) : Wp k_X7_insertNumber d (0, [some (aR (some (8, p0, 0))), some (aI (iZ x1)), some (aI (iZ x2)), some (aI (iZ x3))], [], am_hp σ, t) Q := by
  refine w_s (c' := (1, [some (aR (some (8, p0, 0))), some (aI (iZ x1)), some (aI (iZ x2)), some (aI (iZ x3))], [aR (some (8, p0, 0))], am_hp σ, t)) rfl rfl ?_
  refine w_s (c' := (2, [some (aR (some (8, p0, 0))), some (aI (iZ x1)), some (aI (iZ x2)), some (aI (iZ x3))], [aI (iZ x1), aR (some (8, p0, 0))], am_hp σ, t)) rfl rfl ?_
  refine w_c0 (c' := (5, [some (aR (some (8, p0, 0))), some (aI (iZ x1)), some (aI (iZ x2)), some (aI (iZ x3))], [aI (iZ r1)], am_hp σ1, t)) rfl rfl (rcv_of (hp_8 _ p0)) rfl c1 (Nat.le_refl _) rfl ?_
  exact w_ifeq rfl h2 rfl w3 w4

theorem e_X7_insertNumber {p0 : Nat} {x1 : Int} {x2 : Int} {x3 : Int} {h : AH} {t : KT} {d : Nat} {P : RS → Prop} (w : Wp k_X7_insertNumber d (0, [some (aR (some (8, p0, 0))), some (aI (iZ x1)), some (aI (iZ x2)), some (aI (iZ x3))], [], h, t) P) : ∃ r, Ca (d + 1) 52 [aR (some (8, p0, 0)), aI (iZ x1), aI (iZ x2), aI (iZ x3)] h t r ∧ P r := ca_W rfl rfl rfl rfl w

theorem b_X7_insertNumber_8 {p0 : Nat} {x1 : Int} {x2 : Int} {x3 : Int} {σ : SG} {t : KT} (h1 : -2147483648 ≤ x2 ∧ x2 < 2147483648) (w2 : x2 < 0 → Wp k_X7_insertNumber d (33, [some (aR (some (8, p0, 0))), some (aI (iZ x1)), some (aI (iZ x2)), some (aI (iZ x3))], [], am_hp σ, t) Q) (w3 : 0 ≤ x2 → Wp k_X7_insertNumber d (12, [some (aR (some (8, p0, 0))), some (aI (iZ x1)), some (aI (iZ x2)), some (aI (iZ x3))], [], am_hp σ, t) Q) : Wp k_X7_insertNumber d (8, [some (aR (some (8, p0, 0))), some (aI (iZ x1)), some (aI (iZ x2)), some (aI (iZ x3))], [], am_hp σ, t) Q := by
  refine w_s (c' := (9, [some (aR (some (8, p0, 0))), some (aI (iZ x1)), some (aI (iZ x2)), some (aI (iZ x3))], [aI (iZ x2)], am_hp σ, t)) rfl rfl ?_
  exact w_iflt rfl h1 rfl w2 w3

theorem b_X7_insertNumber_12 {p0 : Nat} {x1 : Int} {x2 : Int} {x3 : Int} {σ : SG} {t : KT} (h1 : 0 ≤ x1 ∧ x1 < 4) (h2 : -2147483648 ≤ x2 ∧ x2 < 2147483648) (h3 : -2147483648 ≤ σ.1 (10, p0, 0) x1.toNat ∧ σ.1 (10, p0, 0) x1.toNat < 2147483648) (w4 : σ.1 (10, p0, 0) x1.toNat < x2 → Wp k_X7_insertNumber d (33, [some (aR (some (8, p0, 0))), some (aI (iZ x1)), some (aI (iZ x2)), some (aI (iZ x3))], [], am_hp σ, t) Q) (w5 : x2 ≤ σ.1 (10, p0, 0) x1.toNat → Wp k_X7_insertNumber d (22, [some (aR (some (8, p0, 0))), some (aI (iZ x1)), some (aI (iZ x2)), some (aI (iZ x3))], [], am_hp σ, t) Q) : Wp k_X7_insertNumber d (12, [some (aR (some (8, p0, 0))), some (aI (iZ x1)), some (aI (iZ x2)), some (aI (iZ x3))], [], am_hp σ, t) Q := by
  refine w_s (c' := (13, [some (aR (some (8, p0, 0))), some (aI (iZ x1)), some (aI (iZ x2)), some (aI (iZ x3))], [aI (iZ x2)], am_hp σ, t)) rfl rfl ?_
  refine w_s (c' := (14, [some (aR (some (8, p0, 0))), some (aI (iZ x1)), some (aI (iZ x2)), some (aI (iZ x3))], [aR (some (8, p0, 0)), aI (iZ x2)], am_hp σ, t)) rfl rfl ?_
  refine w_get rfl (hp_8 _ p0) rfl rfl ?_
  refine w_s (c' := (18, [some (aR (some (8, p0, 0))), some (aI (iZ x1)), some (aI (iZ x2)), some (aI (iZ x3))], [aI (iZ x1), aR (some (10, p0, 0)), aI (iZ x2)], am_hp σ, t)) rfl rfl ?_
  refine w_ial rfl (hp_10 _ p0 0) h1 rfl rfl ?_
  exact w_icgt rfl h2 h3 rfl w4 w5

theorem b_X7_insertNumber_22 {p0 : Nat} {x1 : Int} {x2 : Int} {x3 : Int} {σ : SG} {t : KT} (h1 : 0 ≤ x1 ∧ x1 < 4) (h2 : -2147483648 ≤ σ.1 (10, p0, 0) x1.toNat ∧ σ.1 (10, p0, 0) x1.toNat < 2147483648) (w3 : σ.1 (10, p0, 0) x1.toNat < 60 → Wp k_X7_insertNumber d (34, [some (aR (some (8, p0, 0))), some (aI (iZ x1)), some (aI (iZ x2)), some (aI (iZ x3))], [], am_hp σ, t) Q) (w4 : 60 ≤ σ.1 (10, p0, 0) x1.toNat → Wp k_X7_insertNumber d (33, [some (aR (some (8, p0, 0))), some (aI (iZ x1)), some (aI (iZ x2)), some (aI (iZ x3))], [], am_hp σ, t) Q) : Wp k_X7_insertNumber d (22, [some (aR (some (8, p0, 0))), some (aI (iZ x1)), some (aI (iZ x2)), some (aI (iZ x3))], [], am_hp σ, t) Q := by
  refine w_s (c' := (23, [some (aR (some (8, p0, 0))), some (aI (iZ x1)), some (aI (iZ x2)), some (aI (iZ x3))], [aR (some (8, p0, 0))], am_hp σ, t)) rfl rfl ?_
  refine w_get rfl (hp_8 _ p0) rfl rfl ?_
  refine w_s (c' := (27, [some (aR (some (8, p0, 0))), some (aI (iZ x1)), some (aI (iZ x2)), some (aI (iZ x3))], [aI (iZ x1), aR (some (10, p0, 0))], am_hp σ, t)) rfl rfl ?_
  refine w_ial rfl (hp_10 _ p0 0) h1 rfl rfl ?_
  refine w_psh rfl zc_60 rfl ?_
  exact w_iclt rfl h2 (by decide) rfl w3 w4

theorem b_X7_insertNumber_33 {p0 : Nat} {x1 : Int} {x2 : Int} {x3 : Int} {σ : SG} {t : KT} (q1 : Q (.inl none, am_hp σ, t)) : Wp k_X7_insertNumber d (33, [some (aR (some (8, p0, 0))), some (aI (iZ x1)), some (aI (iZ x2)), some (aI (iZ x3))], [], am_hp σ, t) Q := by
  exact w_f rfl rfl q1

theorem b_X7_insertNumber_34 {p0 : Nat} {x1 : Int} {x2 : Int} {x3 : Int} {σ : SG} {t : KT} (h1 : 0 ≤ x1 ∧ x1 < 4) (h2 : (0 : Int) ≤ x2 ∧ (0 : Int) ≤ x2 + 1 ∧ (0 : Int) ≤ (σ.1 (10, p0, 0) x1.toNat) - x2 ∧ (x2 : Int) + ((σ.1 (10, p0, 0) x1.toNat) - x2) ≤ 60 ∧ (x2 + 1 : Int) + ((σ.1 (10, p0, 0) x1.toNat) - x2) ≤ 60) (h3 : 0 ≤ x2 ∧ x2 < 60) (q4 : Q (.inl none, am_hp ((sI (sI (sI σ (12, p0, x1.toNat) (cpy (σ.1 (12, p0, x1.toNat)) (σ.1 (12, p0, x1.toNat)) x2.toNat (x2 + 1).toNat ((σ.1 (10, p0, 0) x1.toNat) - x2).toNat)) (12, p0, x1.toNat) (up (((sI σ (12, p0, x1.toNat) (cpy (σ.1 (12, p0, x1.toNat)) (σ.1 (12, p0, x1.toNat)) x2.toNat (x2 + 1).toNat ((σ.1 (10, p0, 0) x1.toNat) - x2).toNat))).1 (12, p0, x1.toNat)) x2.toNat x3)) (10, p0, 0) (up (((sI (sI σ (12, p0, x1.toNat) (cpy (σ.1 (12, p0, x1.toNat)) (σ.1 (12, p0, x1.toNat)) x2.toNat (x2 + 1).toNat ((σ.1 (10, p0, 0) x1.toNat) - x2).toNat)) (12, p0, x1.toNat) (up (((sI σ (12, p0, x1.toNat) (cpy (σ.1 (12, p0, x1.toNat)) (σ.1 (12, p0, x1.toNat)) x2.toNat (x2 + 1).toNat ((σ.1 (10, p0, 0) x1.toNat) - x2).toNat))).1 (12, p0, x1.toNat)) x2.toNat x3))).1 (10, p0, 0)) x1.toNat ((((sI (sI σ (12, p0, x1.toNat) (cpy (σ.1 (12, p0, x1.toNat)) (σ.1 (12, p0, x1.toNat)) x2.toNat (x2 + 1).toNat ((σ.1 (10, p0, 0) x1.toNat) - x2).toNat)) (12, p0, x1.toNat) (up (((sI σ (12, p0, x1.toNat) (cpy (σ.1 (12, p0, x1.toNat)) (σ.1 (12, p0, x1.toNat)) x2.toNat (x2 + 1).toNat ((σ.1 (10, p0, 0) x1.toNat) - x2).toNat))).1 (12, p0, x1.toNat)) x2.toNat x3))).1 (10, p0, 0) x1.toNat) + 1)))), t)) : Wp k_X7_insertNumber d (34, [some (aR (some (8, p0, 0))), some (aI (iZ x1)), some (aI (iZ x2)), some (aI (iZ x3))], [], am_hp σ, t) Q := by
  refine w_s (c' := (35, [some (aR (some (8, p0, 0))), some (aI (iZ x1)), some (aI (iZ x2)), some (aI (iZ x3))], [aR (some (8, p0, 0))], am_hp σ, t)) rfl rfl ?_
  refine w_get rfl (hp_8 _ p0) rfl rfl ?_
  refine w_s (c' := (39, [some (aR (some (8, p0, 0))), some (aI (iZ x1)), some (aI (iZ x2)), some (aI (iZ x3))], [aI (iZ x1), aR (some (11, p0, 0))], am_hp σ, t)) rfl rfl ?_
  refine w_aal rfl (hp_11 _ p0) h1 rfl rfl ?_
  refine w_s (c' := (41, [some (aR (some (8, p0, 0))), some (aI (iZ x1)), some (aI (iZ x2)), some (aI (iZ x3))], [aI (iZ x2), aR (some (12, p0, x1.toNat))], am_hp σ, t)) rfl rfl ?_
  refine w_s (c' := (42, [some (aR (some (8, p0, 0))), some (aI (iZ x1)), some (aI (iZ x2)), some (aI (iZ x3))], [aR (some (8, p0, 0)), aI (iZ x2), aR (some (12, p0, x1.toNat))], am_hp σ, t)) rfl rfl ?_
  refine w_get rfl (hp_8 _ p0) rfl rfl ?_
  refine w_s (c' := (46, [some (aR (some (8, p0, 0))), some (aI (iZ x1)), some (aI (iZ x2)), some (aI (iZ x3))], [aI (iZ x1), aR (some (11, p0, 0)), aI (iZ x2), aR (some (12, p0, x1.toNat))], am_hp σ, t)) rfl rfl ?_
  refine w_aal rfl (hp_11 _ p0) h1 rfl rfl ?_
  refine w_s (c' := (48, [some (aR (some (8, p0, 0))), some (aI (iZ x1)), some (aI (iZ x2)), some (aI (iZ x3))], [aI (iZ x2), aR (some (12, p0, x1.toNat)), aI (iZ x2), aR (some (12, p0, x1.toNat))], am_hp σ, t)) rfl rfl ?_
  refine w_psh rfl zc_1 rfl ?_
  refine w_iadd rfl rfl ?_
  refine w_s (c' := (51, [some (aR (some (8, p0, 0))), some (aI (iZ x1)), some (aI (iZ x2)), some (aI (iZ x3))], [aR (some (8, p0, 0)), aI (iZ (x2 + 1)), aR (some (12, p0, x1.toNat)), aI (iZ x2), aR (some (12, p0, x1.toNat))], am_hp σ, t)) rfl rfl ?_
  refine w_get rfl (hp_8 _ p0) rfl rfl ?_
  refine w_s (c' := (55, [some (aR (some (8, p0, 0))), some (aI (iZ x1)), some (aI (iZ x2)), some (aI (iZ x3))], [aI (iZ x1), aR (some (10, p0, 0)), aI (iZ (x2 + 1)), aR (some (12, p0, x1.toNat)), aI (iZ x2), aR (some (12, p0, x1.toNat))], am_hp σ, t)) rfl rfl ?_
  refine w_ial rfl (hp_10 _ p0 0) h1 rfl rfl ?_
  refine w_s (c' := (57, [some (aR (some (8, p0, 0))), some (aI (iZ x1)), some (aI (iZ x2)), some (aI (iZ x3))], [aI (iZ x2), aI (iZ (σ.1 (10, p0, 0) x1.toNat)), aI (iZ (x2 + 1)), aR (some (12, p0, x1.toNat)), aI (iZ x2), aR (some (12, p0, x1.toNat))], am_hp σ, t)) rfl rfl ?_
  refine w_isub rfl rfl ?_
  refine w_cpi rfl (hp_12 _ p0 x1.toNat) (mk_12 _ p0 x1.toNat) h2 ⟨rfl, rfl⟩ ⟨rfl, rfl⟩ rfl rfl ?_
  refine w_s (c' := (62, [some (aR (some (8, p0, 0))), some (aI (iZ x1)), some (aI (iZ x2)), some (aI (iZ x3))], [aR (some (8, p0, 0))], am_hp ((sI σ (12, p0, x1.toNat) (cpy (σ.1 (12, p0, x1.toNat)) (σ.1 (12, p0, x1.toNat)) x2.toNat (x2 + 1).toNat ((σ.1 (10, p0, 0) x1.toNat) - x2).toNat))), t)) rfl rfl ?_
  refine w_get rfl (hp_8 _ p0) rfl rfl ?_
  refine w_s (c' := (66, [some (aR (some (8, p0, 0))), some (aI (iZ x1)), some (aI (iZ x2)), some (aI (iZ x3))], [aI (iZ x1), aR (some (11, p0, 0))], am_hp ((sI σ (12, p0, x1.toNat) (cpy (σ.1 (12, p0, x1.toNat)) (σ.1 (12, p0, x1.toNat)) x2.toNat (x2 + 1).toNat ((σ.1 (10, p0, 0) x1.toNat) - x2).toNat))), t)) rfl rfl ?_
  refine w_aal rfl (hp_11 _ p0) h1 rfl rfl ?_
  refine w_s (c' := (68, [some (aR (some (8, p0, 0))), some (aI (iZ x1)), some (aI (iZ x2)), some (aI (iZ x3))], [aI (iZ x2), aR (some (12, p0, x1.toNat))], am_hp ((sI σ (12, p0, x1.toNat) (cpy (σ.1 (12, p0, x1.toNat)) (σ.1 (12, p0, x1.toNat)) x2.toNat (x2 + 1).toNat ((σ.1 (10, p0, 0) x1.toNat) - x2).toNat))), t)) rfl rfl ?_
  refine w_s (c' := (69, [some (aR (some (8, p0, 0))), some (aI (iZ x1)), some (aI (iZ x2)), some (aI (iZ x3))], [aI (iZ x3), aI (iZ x2), aR (some (12, p0, x1.toNat))], am_hp ((sI σ (12, p0, x1.toNat) (cpy (σ.1 (12, p0, x1.toNat)) (σ.1 (12, p0, x1.toNat)) x2.toNat (x2 + 1).toNat ((σ.1 (10, p0, 0) x1.toNat) - x2).toNat))), t)) rfl rfl ?_
  refine w_ias rfl (mk_12 _ p0 x1.toNat) h3 rfl rfl rfl ?_
  refine w_s (c' := (71, [some (aR (some (8, p0, 0))), some (aI (iZ x1)), some (aI (iZ x2)), some (aI (iZ x3))], [aR (some (8, p0, 0))], am_hp ((sI (sI σ (12, p0, x1.toNat) (cpy (σ.1 (12, p0, x1.toNat)) (σ.1 (12, p0, x1.toNat)) x2.toNat (x2 + 1).toNat ((σ.1 (10, p0, 0) x1.toNat) - x2).toNat)) (12, p0, x1.toNat) (up (((sI σ (12, p0, x1.toNat) (cpy (σ.1 (12, p0, x1.toNat)) (σ.1 (12, p0, x1.toNat)) x2.toNat (x2 + 1).toNat ((σ.1 (10, p0, 0) x1.toNat) - x2).toNat))).1 (12, p0, x1.toNat)) x2.toNat x3))), t)) rfl rfl ?_
  refine w_get rfl (hp_8 _ p0) rfl rfl ?_
  refine w_s (c' := (75, [some (aR (some (8, p0, 0))), some (aI (iZ x1)), some (aI (iZ x2)), some (aI (iZ x3))], [aI (iZ x1), aR (some (10, p0, 0))], am_hp ((sI (sI σ (12, p0, x1.toNat) (cpy (σ.1 (12, p0, x1.toNat)) (σ.1 (12, p0, x1.toNat)) x2.toNat (x2 + 1).toNat ((σ.1 (10, p0, 0) x1.toNat) - x2).toNat)) (12, p0, x1.toNat) (up (((sI σ (12, p0, x1.toNat) (cpy (σ.1 (12, p0, x1.toNat)) (σ.1 (12, p0, x1.toNat)) x2.toNat (x2 + 1).toNat ((σ.1 (10, p0, 0) x1.toNat) - x2).toNat))).1 (12, p0, x1.toNat)) x2.toNat x3))), t)) rfl rfl ?_
  refine w_s (c' := (76, [some (aR (some (8, p0, 0))), some (aI (iZ x1)), some (aI (iZ x2)), some (aI (iZ x3))], [aI (iZ x1), aR (some (10, p0, 0)), aI (iZ x1), aR (some (10, p0, 0))], am_hp ((sI (sI σ (12, p0, x1.toNat) (cpy (σ.1 (12, p0, x1.toNat)) (σ.1 (12, p0, x1.toNat)) x2.toNat (x2 + 1).toNat ((σ.1 (10, p0, 0) x1.toNat) - x2).toNat)) (12, p0, x1.toNat) (up (((sI σ (12, p0, x1.toNat) (cpy (σ.1 (12, p0, x1.toNat)) (σ.1 (12, p0, x1.toNat)) x2.toNat (x2 + 1).toNat ((σ.1 (10, p0, 0) x1.toNat) - x2).toNat))).1 (12, p0, x1.toNat)) x2.toNat x3))), t)) rfl rfl ?_
  refine w_ial rfl (hp_10 _ p0 0) h1 rfl rfl ?_
  refine w_psh rfl zc_1 rfl ?_
  refine w_iadd rfl rfl ?_
  refine w_ias rfl (mk_10 _ p0 0) h1 rfl rfl rfl ?_
  exact w_f rfl rfl q4

theorem b_X7_removeNumber_0 {p0 : Nat} {x1 : Int} {x2 : Int} {r1 : Int} {σ σ1 : SG} {t : KT} (c1 : Ca d 45 [aR (some (8, p0, 0)), aI (iZ x1), aI (iZ x2)] (am_hp σ) t (.inl (some (aI (iZ r1))), am_hp σ1, t)) (h2 : -2147483648 ≤ r1 ∧ r1 < 2147483648) (w3 : r1 = 0 → Wp k_X7_removeNumber d (48, [some (aR (some (8, p0, 0))), some (aI (iZ x1)), some (aI (iZ x2))], [], am_hp σ1, t) Q) (w4 : r1 ≠ 0 → Wp k_X7_removeNumber d (9, [some (aR (some (8, p0, 0))), some (aI (iZ x1)), some (aI (iZ x2))], [], am_hp σ1, t) Q) : Wp k_X7_removeNumber d (0, [some (aR (some (8, p0, 0))), some (aI (iZ x1)), some (aI (iZ x2))], [], am_hp σ, t) Q := by
  refine w_s (c' := (1, [some (aR (some (8, p0, 0))), some (aI (iZ x1)), some (aI (iZ x2))], [aR (some (8, p0, 0))], am_hp σ, t)) rfl rfl ?_
  refine w_s (c' := (2, [some (aR (some (8, p0, 0))), some (aI (iZ x1)), some (aI (iZ x2))], [aI (iZ x1), aR (some (8, p0, 0))], am_hp σ, t)) rfl rfl ?_
  refine w_s (c' := (3, [some (aR (some (8, p0, 0))), some (aI (iZ x1)), some (aI (iZ x2))], [aI (iZ x2), aI (iZ x1), aR (some (8, p0, 0))], am_hp σ, t)) rfl rfl ?_
  refine w_c0 (c' := (6, [some (aR (some (8, p0, 0))), some (aI (iZ x1)), some (aI (iZ x2))], [aI (iZ r1)], am_hp σ1, t)) rfl rfl (rcv_of (hp_8 _ p0)) rfl c1 (Nat.le_refl _) rfl ?_
  exact w_ifeq rfl h2 rfl w3 w4

theorem e_X7_removeNumber {p0 : Nat} {x1 : Int} {x2 : Int} {h : AH} {t : KT} {d : Nat} {P : RS → Prop} (w : Wp k_X7_removeNumber d (0, [some (aR (some (8, p0, 0))), some (aI (iZ x1)), some (aI (iZ x2))], [], h, t) P) : ∃ r, Ca (d + 1) 53 [aR (some (8, p0, 0)), aI (iZ x1), aI (iZ x2)] h t r ∧ P r := ca_W rfl rfl rfl rfl w

theorem b_X7_removeNumber_9 {p0 : Nat} {x1 : Int} {x2 : Int} {σ : SG} {t : KT} (h1 : 0 ≤ x1 ∧ x1 < 4) (h2 : (0 : Int) ≤ x2 + 1 ∧ (0 : Int) ≤ x2 ∧ (0 : Int) ≤ ((σ.1 (10, p0, 0) x1.toNat) - x2) - 1 ∧ (x2 + 1 : Int) + (((σ.1 (10, p0, 0) x1.toNat) - x2) - 1) ≤ 60 ∧ (x2 : Int) + (((σ.1 (10, p0, 0) x1.toNat) - x2) - 1) ≤ 60) (w3 : Wp k_X7_removeNumber d (48, [some (aR (some (8, p0, 0))), some (aI (iZ x1)), some (aI (iZ x2))], [], am_hp ((sI (sI σ (12, p0, x1.toNat) (cpy (σ.1 (12, p0, x1.toNat)) (σ.1 (12, p0, x1.toNat)) (x2 + 1).toNat x2.toNat (((σ.1 (10, p0, 0) x1.toNat) - x2) - 1).toNat)) (10, p0, 0) (up (((sI σ (12, p0, x1.toNat) (cpy (σ.1 (12, p0, x1.toNat)) (σ.1 (12, p0, x1.toNat)) (x2 + 1).toNat x2.toNat (((σ.1 (10, p0, 0) x1.toNat) - x2) - 1).toNat))).1 (10, p0, 0)) x1.toNat ((((sI σ (12, p0, x1.toNat) (cpy (σ.1 (12, p0, x1.toNat)) (σ.1 (12, p0, x1.toNat)) (x2 + 1).toNat x2.toNat (((σ.1 (10, p0, 0) x1.toNat) - x2) - 1).toNat))).1 (10, p0, 0) x1.toNat) - 1)))), t) Q) : Wp k_X7_removeNumber d (9, [some (aR (some (8, p0, 0))), some (aI (iZ x1)), some (aI (iZ x2))], [], am_hp σ, t) Q := by
  refine w_s (c' := (10, [some (aR (some (8, p0, 0))), some (aI (iZ x1)), some (aI (iZ x2))], [aR (some (8, p0, 0))], am_hp σ, t)) rfl rfl ?_
  refine w_get rfl (hp_8 _ p0) rfl rfl ?_
  refine w_s (c' := (14, [some (aR (some (8, p0, 0))), some (aI (iZ x1)), some (aI (iZ x2))], [aI (iZ x1), aR (some (11, p0, 0))], am_hp σ, t)) rfl rfl ?_
  refine w_aal rfl (hp_11 _ p0) h1 rfl rfl ?_
  refine w_s (c' := (16, [some (aR (some (8, p0, 0))), some (aI (iZ x1)), some (aI (iZ x2))], [aI (iZ x2), aR (some (12, p0, x1.toNat))], am_hp σ, t)) rfl rfl ?_
  refine w_psh rfl zc_1 rfl ?_
  refine w_iadd rfl rfl ?_
  refine w_s (c' := (19, [some (aR (some (8, p0, 0))), some (aI (iZ x1)), some (aI (iZ x2))], [aR (some (8, p0, 0)), aI (iZ (x2 + 1)), aR (some (12, p0, x1.toNat))], am_hp σ, t)) rfl rfl ?_
  refine w_get rfl (hp_8 _ p0) rfl rfl ?_
  refine w_s (c' := (23, [some (aR (some (8, p0, 0))), some (aI (iZ x1)), some (aI (iZ x2))], [aI (iZ x1), aR (some (11, p0, 0)), aI (iZ (x2 + 1)), aR (some (12, p0, x1.toNat))], am_hp σ, t)) rfl rfl ?_
  refine w_aal rfl (hp_11 _ p0) h1 rfl rfl ?_
  refine w_s (c' := (25, [some (aR (some (8, p0, 0))), some (aI (iZ x1)), some (aI (iZ x2))], [aI (iZ x2), aR (some (12, p0, x1.toNat)), aI (iZ (x2 + 1)), aR (some (12, p0, x1.toNat))], am_hp σ, t)) rfl rfl ?_
  refine w_s (c' := (26, [some (aR (some (8, p0, 0))), some (aI (iZ x1)), some (aI (iZ x2))], [aR (some (8, p0, 0)), aI (iZ x2), aR (some (12, p0, x1.toNat)), aI (iZ (x2 + 1)), aR (some (12, p0, x1.toNat))], am_hp σ, t)) rfl rfl ?_
  refine w_get rfl (hp_8 _ p0) rfl rfl ?_
  refine w_s (c' := (30, [some (aR (some (8, p0, 0))), some (aI (iZ x1)), some (aI (iZ x2))], [aI (iZ x1), aR (some (10, p0, 0)), aI (iZ x2), aR (some (12, p0, x1.toNat)), aI (iZ (x2 + 1)), aR (some (12, p0, x1.toNat))], am_hp σ, t)) rfl rfl ?_
  refine w_ial rfl (hp_10 _ p0 0) h1 rfl rfl ?_
  refine w_s (c' := (32, [some (aR (some (8, p0, 0))), some (aI (iZ x1)), some (aI (iZ x2))], [aI (iZ x2), aI (iZ (σ.1 (10, p0, 0) x1.toNat)), aI (iZ x2), aR (some (12, p0, x1.toNat)), aI (iZ (x2 + 1)), aR (some (12, p0, x1.toNat))], am_hp σ, t)) rfl rfl ?_
  refine w_isub rfl rfl ?_
  refine w_psh rfl zc_1 rfl ?_
  refine w_isub rfl rfl ?_
  refine w_cpi rfl (hp_12 _ p0 x1.toNat) (mk_12 _ p0 x1.toNat) h2 ⟨rfl, rfl⟩ ⟨rfl, rfl⟩ rfl rfl ?_
  refine w_s (c' := (39, [some (aR (some (8, p0, 0))), some (aI (iZ x1)), some (aI (iZ x2))], [aR (some (8, p0, 0))], am_hp ((sI σ (12, p0, x1.toNat) (cpy (σ.1 (12, p0, x1.toNat)) (σ.1 (12, p0, x1.toNat)) (x2 + 1).toNat x2.toNat (((σ.1 (10, p0, 0) x1.toNat) - x2) - 1).toNat))), t)) rfl rfl ?_
  refine w_get rfl (hp_8 _ p0) rfl rfl ?_
  refine w_s (c' := (43, [some (aR (some (8, p0, 0))), some (aI (iZ x1)), some (aI (iZ x2))], [aI (iZ x1), aR (some (10, p0, 0))], am_hp ((sI σ (12, p0, x1.toNat) (cpy (σ.1 (12, p0, x1.toNat)) (σ.1 (12, p0, x1.toNat)) (x2 + 1).toNat x2.toNat (((σ.1 (10, p0, 0) x1.toNat) - x2) - 1).toNat))), t)) rfl rfl ?_
  refine w_s (c' := (44, [some (aR (some (8, p0, 0))), some (aI (iZ x1)), some (aI (iZ x2))], [aI (iZ x1), aR (some (10, p0, 0)), aI (iZ x1), aR (some (10, p0, 0))], am_hp ((sI σ (12, p0, x1.toNat) (cpy (σ.1 (12, p0, x1.toNat)) (σ.1 (12, p0, x1.toNat)) (x2 + 1).toNat x2.toNat (((σ.1 (10, p0, 0) x1.toNat) - x2) - 1).toNat))), t)) rfl rfl ?_
  refine w_ial rfl (hp_10 _ p0 0) h1 rfl rfl ?_
  refine w_psh rfl zc_1 rfl ?_
  refine w_isub rfl rfl ?_
  refine w_ias rfl (mk_10 _ p0 0) h1 rfl rfl rfl ?_
  exact w3

theorem b_X7_removeNumber_48 {p0 : Nat} {x1 : Int} {x2 : Int} {σ : SG} {t : KT} (q1 : Q (.inl none, am_hp σ, t)) : Wp k_X7_removeNumber d (48, [some (aR (some (8, p0, 0))), some (aI (iZ x1)), some (aI (iZ x2))], [], am_hp σ, t) Q := by
  exact w_f rfl rfl q1

theorem b_X7_joinRows_0 {p0 : Nat} {x1 : Int} {x2 : Int} {r1 : Int} {σ σ1 : SG} {t : KT} (c1 : Ca d 43 [aR (some (8, p0, 0)), aI (iZ x1)] (am_hp σ) t (.inl (some (aI (iZ r1))), am_hp σ1, t)) (h2 : -2147483648 ≤ r1 ∧ r1 < 2147483648) (w3 : r1 = 0 → Wp k_X7_joinRows d (34, [some (aR (some (8, p0, 0))), some (aI (iZ x1)), some (aI (iZ x2))], [], am_hp σ1, t) Q) (w4 : r1 ≠ 0 → Wp k_X7_joinRows d (8, [some (aR (some (8, p0, 0))), some (aI (iZ x1)), some (aI (iZ x2))], [], am_hp σ1, t) Q) : Wp k_X7_joinRows d (0, [some (aR (some (8, p0, 0))), some (aI (iZ x1)), some (aI (iZ x2))], [], am_hp σ, t) Q := by
  refine w_s (c' := (1, [some (aR (some (8, p0, 0))), some (aI (iZ x1)), some (aI (iZ x2))], [aR (some (8, p0, 0))], am_hp σ, t)) rfl rfl ?_
  refine w_s (c' := (2, [some (aR (some (8, p0, 0))), some (aI (iZ x1)), some (aI (iZ x2))], [aI (iZ x1), aR (some (8, p0, 0))], am_hp σ, t)) rfl rfl ?_
  refine w_c0 (c' := (5, [some (aR (some (8, p0, 0))), some (aI (iZ x1)), some (aI (iZ x2))], [aI (iZ r1)], am_hp σ1, t)) rfl rfl (rcv_of (hp_8 _ p0)) rfl c1 (Nat.le_refl _) rfl ?_
  exact w_ifeq rfl h2 rfl w3 w4

theorem e_X7_joinRows {p0 : Nat} {x1 : Int} {x2 : Int} {h : AH} {t : KT} {d : Nat} {P : RS → Prop} (w : Wp k_X7_joinRows d (0, [some (aR (some (8, p0, 0))), some (aI (iZ x1)), some (aI (iZ x2))], [], h, t) P) : ∃ r, Ca (d + 1) 54 [aR (some (8, p0, 0)), aI (iZ x1), aI (iZ x2)] h t r ∧ P r := ca_W rfl rfl rfl rfl w

theorem b_X7_joinRows_8 {p0 : Nat} {x1 : Int} {x2 : Int} {r1 : Int} {σ σ1 : SG} {t : KT} (c1 : Ca d 43 [aR (some (8, p0, 0)), aI (iZ x2)] (am_hp σ) t (.inl (some (aI (iZ r1))), am_hp σ1, t)) (h2 : -2147483648 ≤ r1 ∧ r1 < 2147483648) (w3 : r1 = 0 → Wp k_X7_joinRows d (34, [some (aR (some (8, p0, 0))), some (aI (iZ x1)), some (aI (iZ x2))], [], am_hp σ1, t) Q) (w4 : r1 ≠ 0 → Wp k_X7_joinRows d (16, [some (aR (some (8, p0, 0))), some (aI (iZ x1)), some (aI (iZ x2))], [], am_hp σ1, t) Q) : Wp k_X7_joinRows d (8, [some (aR (some (8, p0, 0))), some (aI (iZ x1)), some (aI (iZ x2))], [], am_hp σ, t) Q := by
  refine w_s (c' := (9, [some (aR (some (8, p0, 0))), some (aI (iZ x1)), some (aI (iZ x2))], [aR (some (8, p0, 0))], am_hp σ, t)) rfl rfl ?_
  refine w_s (c' := (10, [some (aR (some (8, p0, 0))), some (aI (iZ x1)), some (aI (iZ x2))], [aI (iZ x2), aR (some (8, p0, 0))], am_hp σ, t)) rfl rfl ?_
  refine w_c0 (c' := (13, [some (aR (some (8, p0, 0))), some (aI (iZ x1)), some (aI (iZ x2))], [aI (iZ r1)], am_hp σ1, t)) rfl rfl (rcv_of (hp_8 _ p0)) rfl c1 (Nat.le_refl _) rfl ?_
  exact w_ifeq rfl h2 rfl w3 w4

theorem b_X7_joinRows_16 {p0 : Nat} {x1 : Int} {x2 : Int} {σ : SG} {t : KT} (h1 : 0 ≤ x1 ∧ x1 < 4) (h2 : 0 ≤ x2 ∧ x2 < 4) (h3 : -2147483648 ≤ (σ.1 (10, p0, 0) x1.toNat) + (σ.1 (10, p0, 0) x2.toNat) ∧ (σ.1 (10, p0, 0) x1.toNat) + (σ.1 (10, p0, 0) x2.toNat) < 2147483648) (w4 : (σ.1 (10, p0, 0) x1.toNat) + (σ.1 (10, p0, 0) x2.toNat) ≤ 60 → Wp k_X7_joinRows d (35, [some (aR (some (8, p0, 0))), some (aI (iZ x1)), some (aI (iZ x2))], [], am_hp σ, t) Q) (w5 : 60 < (σ.1 (10, p0, 0) x1.toNat) + (σ.1 (10, p0, 0) x2.toNat) → Wp k_X7_joinRows d (34, [some (aR (some (8, p0, 0))), some (aI (iZ x1)), some (aI (iZ x2))], [], am_hp σ, t) Q) : Wp k_X7_joinRows d (16, [some (aR (some (8, p0, 0))), some (aI (iZ x1)), some (aI (iZ x2))], [], am_hp σ, t) Q := by
  refine w_s (c' := (17, [some (aR (some (8, p0, 0))), some (aI (iZ x1)), some (aI (iZ x2))], [aR (some (8, p0, 0))], am_hp σ, t)) rfl rfl ?_
  refine w_get rfl (hp_8 _ p0) rfl rfl ?_
  refine w_s (c' := (21, [some (aR (some (8, p0, 0))), some (aI (iZ x1)), some (aI (iZ x2))], [aI (iZ x1), aR (some (10, p0, 0))], am_hp σ, t)) rfl rfl ?_
  refine w_ial rfl (hp_10 _ p0 0) h1 rfl rfl ?_
  refine w_s (c' := (23, [some (aR (some (8, p0, 0))), some (aI (iZ x1)), some (aI (iZ x2))], [aR (some (8, p0, 0)), aI (iZ (σ.1 (10, p0, 0) x1.toNat))], am_hp σ, t)) rfl rfl ?_
  refine w_get rfl (hp_8 _ p0) rfl rfl ?_
  refine w_s (c' := (27, [some (aR (some (8, p0, 0))), some (aI (iZ x1)), some (aI (iZ x2))], [aI (iZ x2), aR (some (10, p0, 0)), aI (iZ (σ.1 (10, p0, 0) x1.toNat))], am_hp σ, t)) rfl rfl ?_
  refine w_ial rfl (hp_10 _ p0 0) h2 rfl rfl ?_
  refine w_iadd rfl rfl ?_
  refine w_psh rfl zc_60 rfl ?_
  exact w_icle rfl h3 (by decide) rfl w4 w5

theorem b_X7_joinRows_34 {p0 : Nat} {x1 : Int} {x2 : Int} {σ : SG} {t : KT} (q1 : Q (.inl none, am_hp σ, t)) : Wp k_X7_joinRows d (34, [some (aR (some (8, p0, 0))), some (aI (iZ x1)), some (aI (iZ x2))], [], am_hp σ, t) Q := by
  exact w_f rfl rfl q1

theorem b_X7_joinRows_35 {p0 : Nat} {x1 : Int} {x2 : Int} {σ : SG} {t : KT} (h1 : 0 ≤ x2 ∧ x2 < 4) (h2 : 0 ≤ x1 ∧ x1 < 4) (h3 : (0 : Int) ≤ 0 ∧ (0 : Int) ≤ σ.1 (10, p0, 0) x1.toNat ∧ (0 : Int) ≤ σ.1 (10, p0, 0) x2.toNat ∧ (0 : Int) + (σ.1 (10, p0, 0) x2.toNat) ≤ 60 ∧ (σ.1 (10, p0, 0) x1.toNat : Int) + (σ.1 (10, p0, 0) x2.toNat) ≤ 60) (q4 : Q (.inl none, am_hp ((sI (sI σ (12, p0, x1.toNat) (cpy (σ.1 (12, p0, x2.toNat)) (σ.1 (12, p0, x1.toNat)) (0 : Int).toNat (σ.1 (10, p0, 0) x1.toNat).toNat (σ.1 (10, p0, 0) x2.toNat).toNat)) (10, p0, 0) (up (((sI σ (12, p0, x1.toNat) (cpy (σ.1 (12, p0, x2.toNat)) (σ.1 (12, p0, x1.toNat)) (0 : Int).toNat (σ.1 (10, p0, 0) x1.toNat).toNat (σ.1 (10, p0, 0) x2.toNat).toNat))).1 (10, p0, 0)) x1.toNat ((((sI σ (12, p0, x1.toNat) (cpy (σ.1 (12, p0, x2.toNat)) (σ.1 (12, p0, x1.toNat)) (0 : Int).toNat (σ.1 (10, p0, 0) x1.toNat).toNat (σ.1 (10, p0, 0) x2.toNat).toNat))).1 (10, p0, 0) x1.toNat) + (((sI σ (12, p0, x1.toNat) (cpy (σ.1 (12, p0, x2.toNat)) (σ.1 (12, p0, x1.toNat)) (0 : Int).toNat (σ.1 (10, p0, 0) x1.toNat).toNat (σ.1 (10, p0, 0) x2.toNat).toNat))).1 (10, p0, 0) x2.toNat))))), t)) : Wp k_X7_joinRows d (35, [some (aR (some (8, p0, 0))), some (aI (iZ x1)), some (aI (iZ x2))], [], am_hp σ, t) Q := by
  refine w_s (c' := (36, [some (aR (some (8, p0, 0))), some (aI (iZ x1)), some (aI (iZ x2))], [aR (some (8, p0, 0))], am_hp σ, t)) rfl rfl ?_
  refine w_get rfl (hp_8 _ p0) rfl rfl ?_
  refine w_s (c' := (40, [some (aR (some (8, p0, 0))), some (aI (iZ x1)), some (aI (iZ x2))], [aI (iZ x2), aR (some (11, p0, 0))], am_hp σ, t)) rfl rfl ?_
  refine w_aal rfl (hp_11 _ p0) h1 rfl rfl ?_
  refine w_psh rfl zc_0 rfl ?_
  refine w_s (c' := (43, [some (aR (some (8, p0, 0))), some (aI (iZ x1)), some (aI (iZ x2))], [aR (some (8, p0, 0)), aI (iZ 0), aR (some (12, p0, x2.toNat))], am_hp σ, t)) rfl rfl ?_
  refine w_get rfl (hp_8 _ p0) rfl rfl ?_
  refine w_s (c' := (47, [some (aR (some (8, p0, 0))), some (aI (iZ x1)), some (aI (iZ x2))], [aI (iZ x1), aR (some (11, p0, 0)), aI (iZ 0), aR (some (12, p0, x2.toNat))], am_hp σ, t)) rfl rfl ?_
  refine w_aal rfl (hp_11 _ p0) h2 rfl rfl ?_
  refine w_s (c' := (49, [some (aR (some (8, p0, 0))), some (aI (iZ x1)), some (aI (iZ x2))], [aR (some (8, p0, 0)), aR (some (12, p0, x1.toNat)), aI (iZ 0), aR (some (12, p0, x2.toNat))], am_hp σ, t)) rfl rfl ?_
  refine w_get rfl (hp_8 _ p0) rfl rfl ?_
  refine w_s (c' := (53, [some (aR (some (8, p0, 0))), some (aI (iZ x1)), some (aI (iZ x2))], [aI (iZ x1), aR (some (10, p0, 0)), aR (some (12, p0, x1.toNat)), aI (iZ 0), aR (some (12, p0, x2.toNat))], am_hp σ, t)) rfl rfl ?_
  refine w_ial rfl (hp_10 _ p0 0) h2 rfl rfl ?_
  refine w_s (c' := (55, [some (aR (some (8, p0, 0))), some (aI (iZ x1)), some (aI (iZ x2))], [aR (some (8, p0, 0)), aI (iZ (σ.1 (10, p0, 0) x1.toNat)), aR (some (12, p0, x1.toNat)), aI (iZ 0), aR (some (12, p0, x2.toNat))], am_hp σ, t)) rfl rfl ?_
  refine w_get rfl (hp_8 _ p0) rfl rfl ?_
  refine w_s (c' := (59, [some (aR (some (8, p0, 0))), some (aI (iZ x1)), some (aI (iZ x2))], [aI (iZ x2), aR (some (10, p0, 0)), aI (iZ (σ.1 (10, p0, 0) x1.toNat)), aR (some (12, p0, x1.toNat)), aI (iZ 0), aR (some (12, p0, x2.toNat))], am_hp σ, t)) rfl rfl ?_
  refine w_ial rfl (hp_10 _ p0 0) h1 rfl rfl ?_
  refine w_cpi rfl (hp_12 _ p0 x2.toNat) (mk_12 _ p0 x1.toNat) h3 ⟨rfl, rfl⟩ ⟨rfl, rfl⟩ rfl rfl ?_
  refine w_s (c' := (64, [some (aR (some (8, p0, 0))), some (aI (iZ x1)), some (aI (iZ x2))], [aR (some (8, p0, 0))], am_hp ((sI σ (12, p0, x1.toNat) (cpy (σ.1 (12, p0, x2.toNat)) (σ.1 (12, p0, x1.toNat)) (0 : Int).toNat (σ.1 (10, p0, 0) x1.toNat).toNat (σ.1 (10, p0, 0) x2.toNat).toNat))), t)) rfl rfl ?_
  refine w_get rfl (hp_8 _ p0) rfl rfl ?_
  refine w_s (c' := (68, [some (aR (some (8, p0, 0))), some (aI (iZ x1)), some (aI (iZ x2))], [aI (iZ x1), aR (some (10, p0, 0))], am_hp ((sI σ (12, p0, x1.toNat) (cpy (σ.1 (12, p0, x2.toNat)) (σ.1 (12, p0, x1.toNat)) (0 : Int).toNat (σ.1 (10, p0, 0) x1.toNat).toNat (σ.1 (10, p0, 0) x2.toNat).toNat))), t)) rfl rfl ?_
  refine w_s (c' := (69, [some (aR (some (8, p0, 0))), some (aI (iZ x1)), some (aI (iZ x2))], [aI (iZ x1), aR (some (10, p0, 0)), aI (iZ x1), aR (some (10, p0, 0))], am_hp ((sI σ (12, p0, x1.toNat) (cpy (σ.1 (12, p0, x2.toNat)) (σ.1 (12, p0, x1.toNat)) (0 : Int).toNat (σ.1 (10, p0, 0) x1.toNat).toNat (σ.1 (10, p0, 0) x2.toNat).toNat))), t)) rfl rfl ?_
  refine w_ial rfl (hp_10 _ p0 0) h2 rfl rfl ?_
  refine w_s (c' := (71, [some (aR (some (8, p0, 0))), some (aI (iZ x1)), some (aI (iZ x2))], [aR (some (8, p0, 0)), aI (iZ (((sI σ (12, p0, x1.toNat) (cpy (σ.1 (12, p0, x2.toNat)) (σ.1 (12, p0, x1.toNat)) (0 : Int).toNat (σ.1 (10, p0, 0) x1.toNat).toNat (σ.1 (10, p0, 0) x2.toNat).toNat))).1 (10, p0, 0) x1.toNat)), aI (iZ x1), aR (some (10, p0, 0))], am_hp ((sI σ (12, p0, x1.toNat) (cpy (σ.1 (12, p0, x2.toNat)) (σ.1 (12, p0, x1.toNat)) (0 : Int).toNat (σ.1 (10, p0, 0) x1.toNat).toNat (σ.1 (10, p0, 0) x2.toNat).toNat))), t)) rfl rfl ?_
  refine w_get rfl (hp_8 _ p0) rfl rfl ?_
  refine w_s (c' := (75, [some (aR (some (8, p0, 0))), some (aI (iZ x1)), some (aI (iZ x2))], [aI (iZ x2), aR (some (10, p0, 0)), aI (iZ (((sI σ (12, p0, x1.toNat) (cpy (σ.1 (12, p0, x2.toNat)) (σ.1 (12, p0, x1.toNat)) (0 : Int).toNat (σ.1 (10, p0, 0) x1.toNat).toNat (σ.1 (10, p0, 0) x2.toNat).toNat))).1 (10, p0, 0) x1.toNat)), aI (iZ x1), aR (some (10, p0, 0))], am_hp ((sI σ (12, p0, x1.toNat) (cpy (σ.1 (12, p0, x2.toNat)) (σ.1 (12, p0, x1.toNat)) (0 : Int).toNat (σ.1 (10, p0, 0) x1.toNat).toNat (σ.1 (10, p0, 0) x2.toNat).toNat))), t)) rfl rfl ?_
  refine w_ial rfl (hp_10 _ p0 0) h1 rfl rfl ?_
  refine w_iadd rfl rfl ?_
  refine w_ias rfl (mk_10 _ p0 0) h2 rfl rfl rfl ?_
  exact w_f rfl rfl q4

theorem b_X7_putPrice_0 {p0 : Nat} {x1 : Int} {x2 : Int} {σ : SG} {t : KT} (h1 : -2147483648 ≤ x1 ∧ x1 < 2147483648) (w2 : x1 < 0 → Wp k_X7_putPrice d (17, [some (aR (some (8, p0, 0))), some (aI (iZ x1)), some (aI (iZ x2))], [], am_hp σ, t) Q) (w3 : 0 ≤ x1 → Wp k_X7_putPrice d (4, [some (aR (some (8, p0, 0))), some (aI (iZ x1)), some (aI (iZ x2))], [], am_hp σ, t) Q) : Wp k_X7_putPrice d (0, [some (aR (some (8, p0, 0))), some (aI (iZ x1)), some (aI (iZ x2))], [], am_hp σ, t) Q := by
  refine w_s (c' := (1, [some (aR (some (8, p0, 0))), some (aI (iZ x1)), some (aI (iZ x2))], [aI (iZ x1)], am_hp σ, t)) rfl rfl ?_
  exact w_iflt rfl h1 rfl w2 w3

theorem e_X7_putPrice {p0 : Nat} {x1 : Int} {x2 : Int} {h : AH} {t : KT} {d : Nat} {P : RS → Prop} (w : Wp k_X7_putPrice d (0, [some (aR (some (8, p0, 0))), some (aI (iZ x1)), some (aI (iZ x2))], [], h, t) P) : ∃ r, Ca (d + 1) 55 [aR (some (8, p0, 0)), aI (iZ x1), aI (iZ x2)] h t r ∧ P r := ca_W rfl rfl rfl rfl w

theorem b_X7_putPrice_4 {p0 : Nat} {x1 : Int} {x2 : Int} {σ : SG} {t : KT} (h1 : -2147483648 ≤ x1 ∧ x1 < 2147483648) (w2 : 9 ≤ x1 → Wp k_X7_putPrice d (17, [some (aR (some (8, p0, 0))), some (aI (iZ x1)), some (aI (iZ x2))], [], am_hp σ, t) Q) (w3 : x1 < 9 → Wp k_X7_putPrice d (10, [some (aR (some (8, p0, 0))), some (aI (iZ x1)), some (aI (iZ x2))], [], am_hp σ, t) Q) : Wp k_X7_putPrice d (4, [some (aR (some (8, p0, 0))), some (aI (iZ x1)), some (aI (iZ x2))], [], am_hp σ, t) Q := by
  refine w_s (c' := (5, [some (aR (some (8, p0, 0))), some (aI (iZ x1)), some (aI (iZ x2))], [aI (iZ x1)], am_hp σ, t)) rfl rfl ?_
  refine w_psh rfl zc_9 rfl ?_
  exact w_icge rfl h1 (by decide) rfl w2 w3

theorem b_X7_putPrice_10 {p0 : Nat} {x1 : Int} {x2 : Int} {σ : SG} {t : KT} (h1 : 0 ≤ x1 ∧ x1 < 9) (w2 : Wp k_X7_putPrice d (17, [some (aR (some (8, p0, 0))), some (aI (iZ x1)), some (aI (iZ x2))], [], am_hp ((sI σ (13, p0, 0) (up (σ.1 (13, p0, 0)) x1.toNat x2))), t) Q) : Wp k_X7_putPrice d (10, [some (aR (some (8, p0, 0))), some (aI (iZ x1)), some (aI (iZ x2))], [], am_hp σ, t) Q := by
  refine w_s (c' := (11, [some (aR (some (8, p0, 0))), some (aI (iZ x1)), some (aI (iZ x2))], [aR (some (8, p0, 0))], am_hp σ, t)) rfl rfl ?_
  refine w_get rfl (hp_8 _ p0) rfl rfl ?_
  refine w_s (c' := (15, [some (aR (some (8, p0, 0))), some (aI (iZ x1)), some (aI (iZ x2))], [aI (iZ x1), aR (some (13, p0, 0))], am_hp σ, t)) rfl rfl ?_
  refine w_s (c' := (16, [some (aR (some (8, p0, 0))), some (aI (iZ x1)), some (aI (iZ x2))], [aI (iZ x2), aI (iZ x1), aR (some (13, p0, 0))], am_hp σ, t)) rfl rfl ?_
  refine w_ias rfl (mk_13 _ p0 0) h1 rfl rfl rfl ?_
  exact w2

theorem b_X7_putPrice_17 {p0 : Nat} {x1 : Int} {x2 : Int} {σ : SG} {t : KT} (q1 : Q (.inl none, am_hp σ, t)) : Wp k_X7_putPrice d (17, [some (aR (some (8, p0, 0))), some (aI (iZ x1)), some (aI (iZ x2))], [], am_hp σ, t) Q := by
  exact w_f rfl rfl q1
end PCS
