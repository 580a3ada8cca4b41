/-! PIECES: X4 -/
set_option maxRecDepth 4000
section PCS
variable {d : Nat} {Q : RS → Prop}
theorem b_X4_fillFrom_0 {p0 : Nat} {σ : SG} {t : KT} (w1 : Wp k_X4_fillFrom d (15, [some (aR (some (28, p0, 0))), some (aR (some (18, 0, 0))), some (aI (iZ 0))], [], am_hp ((sI (sI σ (28, p0, 0) (up (σ.1 (28, p0, 0)) 2 0)) (28, p0, 0) (up (((sI σ (28, p0, 0) (up (σ.1 (28, p0, 0)) 2 0))).1 (28, p0, 0)) 3 (((sI σ (28, p0, 0) (up (σ.1 (28, p0, 0)) 2 0))).1 (18, 0, 0) 6)))), t) Q) : Wp k_X4_fillFrom d (0, [some (aR (some (28, p0, 0))), some (aR (some (18, 0, 0))), none], [], am_hp σ, t) Q := by
  refine w_s (c' := (1, [some (aR (some (28, p0, 0))), some (aR (some (18, 0, 0))), none], [aR (some (28, p0, 0))], am_hp σ, t)) rfl rfl ?_
  refine w_psh rfl zc_0 rfl ?_
  refine w_putI rfl (hp_28 _ p0) rfl rfl rfl ?_
  refine w_s (c' := (6, [some (aR (some (28, p0, 0))), some (aR (some (18, 0, 0))), none], [aR (some (28, p0, 0))], am_hp ((sI σ (28, p0, 0) (up (σ.1 (28, p0, 0)) 2 0))), t)) rfl rfl ?_
  refine w_s (c' := (7, [some (aR (some (28, p0, 0))), some (aR (some (18, 0, 0))), none], [aR (some (18, 0, 0)), aR (some (28, p0, 0))], am_hp ((sI σ (28, p0, 0) (up (σ.1 (28, p0, 0)) 2 0))), t)) rfl rfl ?_
  refine w_get rfl (hp_18 _ 0) rfl rfl ?_
  refine w_putI rfl (hp_28 _ p0) rfl rfl rfl ?_
  refine w_psh rfl zc_0 rfl ?_
  refine w_s (c' := (15, [some (aR (some (28, p0, 0))), some (aR (some (18, 0, 0))), some (aI (iZ 0))], [], am_hp ((sI (sI σ (28, p0, 0) (up (σ.1 (28, p0, 0)) 2 0)) (28, p0, 0) (up (((sI σ (28, p0, 0) (up (σ.1 (28, p0, 0)) 2 0))).1 (28, p0, 0)) 3 (((sI σ (28, p0, 0) (up (σ.1 (28, p0, 0)) 2 0))).1 (18, 0, 0) 6)))), t)) rfl rfl ?_
  exact w1

theorem e_X4_fillFrom {p0 : Nat} {h : AH} {t : KT} {d : Nat} {P : RS → Prop} (w : Wp k_X4_fillFrom d (0, [some (aR (some (28, p0, 0))), some (aR (some (18, 0, 0))), none], [], h, t) P) : ∃ r, Ca (d + 1) 6 [aR (some (28, p0, 0)), aR (some (18, 0, 0))] h t r ∧ P r := ca_W rfl rfl rfl rfl w

theorem b_X4_fillFrom_15 {p0 : Nat} {x2 : Int} {σ : SG} {t : KT} (h1 : -2147483648 ≤ x2 ∧ x2 < 2147483648) (h2 : -2147483648 ≤ σ.1 (28, p0, 0) 3 ∧ σ.1 (28, p0, 0) 3 < 2147483648) (w3 : σ.1 (28, p0, 0) 3 ≤ x2 → Wp k_X4_fillFrom d (81, [some (aR (some (28, p0, 0))), some (aR (some (18, 0, 0))), some (aI (iZ x2))], [], am_hp σ, t) Q) (w4 : x2 < σ.1 (28, p0, 0) 3 → Wp k_X4_fillFrom d (23, [some (aR (some (28, p0, 0))), some (aR (some (18, 0, 0))), some (aI (iZ x2))], [], am_hp σ, t) Q) : Wp k_X4_fillFrom d (15, [some (aR (some (28, p0, 0))), some (aR (some (18, 0, 0))), some (aI (iZ x2))], [], am_hp σ, t) Q := by
  refine w_s (c' := (16, [some (aR (some (28, p0, 0))), some (aR (some (18, 0, 0))), some (aI (iZ x2))], [aI (iZ x2)], am_hp σ, t)) rfl rfl ?_
  refine w_s (c' := (17, [some (aR (some (28, p0, 0))), some (aR (some (18, 0, 0))), some (aI (iZ x2))], [aR (some (28, p0, 0)), aI (iZ x2)], am_hp σ, t)) rfl rfl ?_
  refine w_get rfl (hp_28 _ p0) rfl rfl ?_
  exact w_icge rfl h1 h2 rfl w3 w4

theorem b_X4_fillFrom_23 {p0 : Nat} {x2 : Int} {σ : SG} {t : KT} (h1 : -2147483648 ≤ σ.1 (28, p0, 0) 2 ∧ σ.1 (28, p0, 0) 2 < 2147483648) (w2 : 60 ≤ σ.1 (28, p0, 0) 2 → Wp k_X4_fillFrom d (81, [some (aR (some (28, p0, 0))), some (aR (some (18, 0, 0))), some (aI (iZ x2))], [], am_hp σ, t) Q) (w3 : σ.1 (28, p0, 0) 2 < 60 → Wp k_X4_fillFrom d (32, [some (aR (some (28, p0, 0))), some (aR (some (18, 0, 0))), some (aI (iZ x2))], [], am_hp σ, t) Q) : Wp k_X4_fillFrom d (23, [some (aR (some (28, p0, 0))), some (aR (some (18, 0, 0))), some (aI (iZ x2))], [], am_hp σ, t) Q := by
  refine w_s (c' := (24, [some (aR (some (28, p0, 0))), some (aR (some (18, 0, 0))), some (aI (iZ x2))], [aR (some (28, p0, 0))], am_hp σ, t)) rfl rfl ?_
  refine w_get rfl (hp_28 _ p0) rfl rfl ?_
  refine w_psh rfl zc_60 rfl ?_
  exact w_icge rfl h1 (by decide) rfl w2 w3

theorem b_X4_fillFrom_32 {p0 : Nat} {x2 : Int} {r1 : Int} {r2 : Int} {σ σ1 σ2 : SG} {t : KT} (h1 : 0 ≤ σ.1 (28, p0, 0) 2 ∧ σ.1 (28, p0, 0) 2 < 60) (c2 : Ca d 34 [aR (some (18, 0, 0)), aI (iZ x2)] (am_hp ((sI σ (30, p0, 0) (up (σ.1 (30, p0, 0)) (σ.1 (28, p0, 0) 2).toNat x2)))) t (.inl (some (aI (iZ r1))), am_hp σ1, t)) (h3 : 0 ≤ ((sI σ (30, p0, 0) (up (σ.1 (30, p0, 0)) (σ.1 (28, p0, 0) 2).toNat x2))).1 (28, p0, 0) 2 ∧ ((sI σ (30, p0, 0) (up (σ.1 (30, p0, 0)) (σ.1 (28, p0, 0) 2).toNat x2))).1 (28, p0, 0) 2 < 60) (h4 : 0 ≤ x2 ∧ x2 < 120) (c5 : Ca d 143 [aI (iZ (((sI (sI σ1 (29, p0, 0) (up (σ1.1 (29, p0, 0)) (((sI σ (30, p0, 0) (up (σ.1 (30, p0, 0)) (σ.1 (28, p0, 0) 2).toNat x2))).1 (28, p0, 0) 2).toNat r1)) (28, p0, 0) (up (((sI σ1 (29, p0, 0) (up (σ1.1 (29, p0, 0)) (((sI σ (30, p0, 0) (up (σ.1 (30, p0, 0)) (σ.1 (28, p0, 0) 2).toNat x2))).1 (28, p0, 0) 2).toNat r1))).1 (28, p0, 0)) 2 ((((sI σ1 (29, p0, 0) (up (σ1.1 (29, p0, 0)) (((sI σ (30, p0, 0) (up (σ.1 (30, p0, 0)) (σ.1 (28, p0, 0) 2).toNat x2))).1 (28, p0, 0) 2).toNat r1))).1 (28, p0, 0) 2) + 1)))).1 (21, 0, 0) x2.toNat))] (am_hp ((sI (sI σ1 (29, p0, 0) (up (σ1.1 (29, p0, 0)) (((sI σ (30, p0, 0) (up (σ.1 (30, p0, 0)) (σ.1 (28, p0, 0) 2).toNat x2))).1 (28, p0, 0) 2).toNat r1)) (28, p0, 0) (up (((sI σ1 (29, p0, 0) (up (σ1.1 (29, p0, 0)) (((sI σ (30, p0, 0) (up (σ.1 (30, p0, 0)) (σ.1 (28, p0, 0) 2).toNat x2))).1 (28, p0, 0) 2).toNat r1))).1 (28, p0, 0)) 2 ((((sI σ1 (29, p0, 0) (up (σ1.1 (29, p0, 0)) (((sI σ (30, p0, 0) (up (σ.1 (30, p0, 0)) (σ.1 (28, p0, 0) 2).toNat x2))).1 (28, p0, 0) 2).toNat r1))).1 (28, p0, 0) 2) + 1))))) t (.inl (some (aI (iZ r2))), am_hp σ2, t)) (w6 : Wp k_X4_fillFrom d (15, [some (aR (some (28, p0, 0))), some (aR (some (18, 0, 0))), some (aI (iZ (x2 + r2)))], [], am_hp σ2, t) Q) : Wp k_X4_fillFrom d (32, [some (aR (some (28, p0, 0))), some (aR (some (18, 0, 0))), some (aI (iZ x2))], [], am_hp σ, t) Q := by
  refine w_s (c' := (33, [some (aR (some (28, p0, 0))), some (aR (some (18, 0, 0))), some (aI (iZ x2))], [aR (some (28, p0, 0))], am_hp σ, t)) rfl rfl ?_
  refine w_get rfl (hp_28 _ p0) rfl rfl ?_
  refine w_s (c' := (37, [some (aR (some (28, p0, 0))), some (aR (some (18, 0, 0))), some (aI (iZ x2))], [aR (some (28, p0, 0)), aR (some (30, p0, 0))], am_hp σ, t)) rfl rfl ?_
  refine w_get rfl (hp_28 _ p0) rfl rfl ?_
  refine w_s (c' := (41, [some (aR (some (28, p0, 0))), some (aR (some (18, 0, 0))), some (aI (iZ x2))], [aI (iZ x2), aI (iZ (σ.1 (28, p0, 0) 2)), aR (some (30, p0, 0))], am_hp σ, t)) rfl rfl ?_
  refine w_ias rfl (mk_30 _ p0 0) h1 rfl rfl rfl ?_
  refine w_s (c' := (43, [some (aR (some (28, p0, 0))), some (aR (some (18, 0, 0))), some (aI (iZ x2))], [aR (some (28, p0, 0))], am_hp ((sI σ (30, p0, 0) (up (σ.1 (30, p0, 0)) (σ.1 (28, p0, 0) 2).toNat x2))), t)) rfl rfl ?_
  refine w_get rfl (hp_28 _ p0) rfl rfl ?_
  refine w_s (c' := (47, [some (aR (some (28, p0, 0))), some (aR (some (18, 0, 0))), some (aI (iZ x2))], [aR (some (28, p0, 0)), aR (some (29, p0, 0))], am_hp ((sI σ (30, p0, 0) (up (σ.1 (30, p0, 0)) (σ.1 (28, p0, 0) 2).toNat x2))), t)) rfl rfl ?_
  refine w_get rfl (hp_28 _ p0) rfl rfl ?_
  refine w_s (c' := (51, [some (aR (some (28, p0, 0))), some (aR (some (18, 0, 0))), some (aI (iZ x2))], [aR (some (18, 0, 0)), aI (iZ (((sI σ (30, p0, 0) (up (σ.1 (30, p0, 0)) (σ.1 (28, p0, 0) 2).toNat x2))).1 (28, p0, 0) 2)), aR (some (29, p0, 0))], am_hp ((sI σ (30, p0, 0) (up (σ.1 (30, p0, 0)) (σ.1 (28, p0, 0) 2).toNat x2))), t)) rfl rfl ?_
  refine w_s (c' := (52, [some (aR (some (28, p0, 0))), some (aR (some (18, 0, 0))), some (aI (iZ x2))], [aI (iZ x2), aR (some (18, 0, 0)), aI (iZ (((sI σ (30, p0, 0) (up (σ.1 (30, p0, 0)) (σ.1 (28, p0, 0) 2).toNat x2))).1 (28, p0, 0) 2)), aR (some (29, p0, 0))], am_hp ((sI σ (30, p0, 0) (up (σ.1 (30, p0, 0)) (σ.1 (28, p0, 0) 2).toNat x2))), t)) rfl rfl ?_
  refine w_c0 (c' := (55, [some (aR (some (28, p0, 0))), some (aR (some (18, 0, 0))), some (aI (iZ x2))], [aI (iZ r1), aI (iZ (((sI σ (30, p0, 0) (up (σ.1 (30, p0, 0)) (σ.1 (28, p0, 0) 2).toNat x2))).1 (28, p0, 0) 2)), aR (some (29, p0, 0))], am_hp σ1, t)) rfl rfl (rcv_of (hp_18 _ 0)) rfl c2 (Nat.le_refl _) rfl ?_
  refine w_ias rfl (mk_29 _ p0 0) h3 rfl rfl rfl ?_
  refine w_s (c' := (57, [some (aR (some (28, p0, 0))), some (aR (some (18, 0, 0))), some (aI (iZ x2))], [aR (some (28, p0, 0))], am_hp ((sI σ1 (29, p0, 0) (up (σ1.1 (29, p0, 0)) (((sI σ (30, p0, 0) (up (σ.1 (30, p0, 0)) (σ.1 (28, p0, 0) 2).toNat x2))).1 (28, p0, 0) 2).toNat r1))), t)) rfl rfl ?_
  refine w_s (c' := (58, [some (aR (some (28, p0, 0))), some (aR (some (18, 0, 0))), some (aI (iZ x2))], [aR (some (28, p0, 0)), aR (some (28, p0, 0))], am_hp ((sI σ1 (29, p0, 0) (up (σ1.1 (29, p0, 0)) (((sI σ (30, p0, 0) (up (σ.1 (30, p0, 0)) (σ.1 (28, p0, 0) 2).toNat x2))).1 (28, p0, 0) 2).toNat r1))), t)) rfl rfl ?_
  refine w_get rfl (hp_28 _ p0) rfl rfl ?_
  refine w_psh rfl zc_1 rfl ?_
  refine w_iadd rfl rfl ?_
  refine w_putI rfl (hp_28 _ p0) rfl rfl rfl ?_
  refine w_s (c' := (67, [some (aR (some (28, p0, 0))), some (aR (some (18, 0, 0))), some (aI (iZ x2))], [aI (iZ x2)], am_hp ((sI (sI σ1 (29, p0, 0) (up (σ1.1 (29, p0, 0)) (((sI σ (30, p0, 0) (up (σ.1 (30, p0, 0)) (σ.1 (28, p0, 0) 2).toNat x2))).1 (28, p0, 0) 2).toNat r1)) (28, p0, 0) (up (((sI σ1 (29, p0, 0) (up (σ1.1 (29, p0, 0)) (((sI σ (30, p0, 0) (up (σ.1 (30, p0, 0)) (σ.1 (28, p0, 0) 2).toNat x2))).1 (28, p0, 0) 2).toNat r1))).1 (28, p0, 0)) 2 ((((sI σ1 (29, p0, 0) (up (σ1.1 (29, p0, 0)) (((sI σ (30, p0, 0) (up (σ.1 (30, p0, 0)) (σ.1 (28, p0, 0) 2).toNat x2))).1 (28, p0, 0) 2).toNat r1))).1 (28, p0, 0) 2) + 1)))), t)) rfl rfl ?_
  refine w_s (c' := (68, [some (aR (some (28, p0, 0))), some (aR (some (18, 0, 0))), some (aI (iZ x2))], [aR (some (18, 0, 0)), aI (iZ x2)], am_hp ((sI (sI σ1 (29, p0, 0) (up (σ1.1 (29, p0, 0)) (((sI σ (30, p0, 0) (up (σ.1 (30, p0, 0)) (σ.1 (28, p0, 0) 2).toNat x2))).1 (28, p0, 0) 2).toNat r1)) (28, p0, 0) (up (((sI σ1 (29, p0, 0) (up (σ1.1 (29, p0, 0)) (((sI σ (30, p0, 0) (up (σ.1 (30, p0, 0)) (σ.1 (28, p0, 0) 2).toNat x2))).1 (28, p0, 0) 2).toNat r1))).1 (28, p0, 0)) 2 ((((sI σ1 (29, p0, 0) (up (σ1.1 (29, p0, 0)) (((sI σ (30, p0, 0) (up (σ.1 (30, p0, 0)) (σ.1 (28, p0, 0) 2).toNat x2))).1 (28, p0, 0) 2).toNat r1))).1 (28, p0, 0) 2) + 1)))), t)) rfl rfl ?_
  refine w_get rfl (hp_18 _ 0) rfl rfl ?_
  refine w_s (c' := (72, [some (aR (some (28, p0, 0))), some (aR (some (18, 0, 0))), some (aI (iZ x2))], [aI (iZ x2), aR (some (21, 0, 0)), aI (iZ x2)], am_hp ((sI (sI σ1 (29, p0, 0) (up (σ1.1 (29, p0, 0)) (((sI σ (30, p0, 0) (up (σ.1 (30, p0, 0)) (σ.1 (28, p0, 0) 2).toNat x2))).1 (28, p0, 0) 2).toNat r1)) (28, p0, 0) (up (((sI σ1 (29, p0, 0) (up (σ1.1 (29, p0, 0)) (((sI σ (30, p0, 0) (up (σ.1 (30, p0, 0)) (σ.1 (28, p0, 0) 2).toNat x2))).1 (28, p0, 0) 2).toNat r1))).1 (28, p0, 0)) 2 ((((sI σ1 (29, p0, 0) (up (σ1.1 (29, p0, 0)) (((sI σ (30, p0, 0) (up (σ.1 (30, p0, 0)) (σ.1 (28, p0, 0) 2).toNat x2))).1 (28, p0, 0) 2).toNat r1))).1 (28, p0, 0) 2) + 1)))), t)) rfl rfl ?_
  refine w_ial rfl (hp_21 _ 0 0) h4 rfl rfl ?_
  refine w_c0 (c' := (76, [some (aR (some (28, p0, 0))), some (aR (some (18, 0, 0))), some (aI (iZ x2))], [aI (iZ r2), aI (iZ x2)], am_hp σ2, t)) rfl rfl rfl rfl c5 (Nat.le_refl _) rfl ?_
  refine w_iadd rfl rfl ?_
  refine w_s (c' := (78, [some (aR (some (28, p0, 0))), some (aR (some (18, 0, 0))), some (aI (iZ (x2 + r2)))], [], am_hp σ2, t)) rfl rfl ?_
  refine w_s (c' := (15, [some (aR (some (28, p0, 0))), some (aR (some (18, 0, 0))), some (aI (iZ (x2 + r2)))], [], am_hp σ2, t)) rfl rfl ?_
  exact w6

theorem b_X4_fillFrom_81 {p0 : Nat} {x2 : Int} {σ : SG} {t : KT} (q1 : Q (.inl none, am_hp σ, t)) : Wp k_X4_fillFrom d (81, [some (aR (some (28, p0, 0))), some (aR (some (18, 0, 0))), some (aI (iZ x2))], [], am_hp σ, t) Q := by
  exact w_f rfl rfl q1

theorem b_X4_startOf_0 {p0 : Nat} {x1 : Int} {σ : SG} {t : KT} (h1 : -2147483648 ≤ x1 ∧ x1 < 2147483648) (w2 : x1 < 0 → Wp k_X4_startOf d (12, [some (aR (some (28, p0, 0))), some (aI (iZ x1))], [], am_hp σ, t) Q) (w3 : 0 ≤ x1 → Wp k_X4_startOf d (4, [some (aR (some (28, p0, 0))), some (aI (iZ x1))], [], am_hp σ, t) Q) : Wp k_X4_startOf d (0, [some (aR (some (28, p0, 0))), some (aI (iZ x1))], [], am_hp σ, t) Q := by
  refine w_s (c' := (1, [some (aR (some (28, p0, 0))), some (aI (iZ x1))], [aI (iZ x1)], am_hp σ, t)) rfl rfl ?_
  exact w_iflt rfl h1 rfl w2 w3

theorem e_X4_startOf {p0 : Nat} {x1 : Int} {h : AH} {t : KT} {d : Nat} {P : RS → Prop} (w : Wp k_X4_startOf d (0, [some (aR (some (28, p0, 0))), some (aI (iZ x1))], [], h, t) P) : ∃ r, Ca (d + 1) 7 [aR (some (28, p0, 0)), aI (iZ x1)] h t r ∧ P r := ca_W rfl rfl rfl rfl w

theorem b_X4_startOf_4 {p0 : Nat} {x1 : Int} {σ : SG} {t : KT} (h1 : -2147483648 ≤ x1 ∧ x1 < 2147483648) (h2 : -2147483648 ≤ σ.1 (28, p0, 0) 2 ∧ σ.1 (28, p0, 0) 2 < 2147483648) (w3 : x1 < σ.1 (28, p0, 0) 2 → Wp k_X4_startOf d (19, [some (aR (some (28, p0, 0))), some (aI (iZ x1))], [], am_hp σ, t) Q) (w4 : σ.1 (28, p0, 0) 2 ≤ x1 → Wp k_X4_startOf d (12, [some (aR (some (28, p0, 0))), some (aI (iZ x1))], [], am_hp σ, t) Q) : Wp k_X4_startOf d (4, [some (aR (some (28, p0, 0))), some (aI (iZ x1))], [], am_hp σ, t) Q := by
  refine w_s (c' := (5, [some (aR (some (28, p0, 0))), some (aI (iZ x1))], [aI (iZ x1)], am_hp σ, t)) rfl rfl ?_
  refine w_s (c' := (6, [some (aR (some (28, p0, 0))), some (aI (iZ x1))], [aR (some (28, p0, 0)), aI (iZ x1)], am_hp σ, t)) rfl rfl ?_
  refine w_get rfl (hp_28 _ p0) rfl rfl ?_
  exact w_iclt rfl h1 h2 rfl w3 w4

theorem b_X4_startOf_12 {p0 : Nat} {x1 : Int} {σ : SG} {t : KT} (w1 : Wp k_X4_startOf d (25, [some (aR (some (28, p0, 0))), some (aI (iZ x1))], [aI (iZ (σ.1 (28, p0, 0) 3))], am_hp σ, t) Q) : Wp k_X4_startOf d (12, [some (aR (some (28, p0, 0))), some (aI (iZ x1))], [], am_hp σ, t) Q := by
  refine w_s (c' := (13, [some (aR (some (28, p0, 0))), some (aI (iZ x1))], [aR (some (28, p0, 0))], am_hp σ, t)) rfl rfl ?_
  refine w_get rfl (hp_28 _ p0) rfl rfl ?_
  refine w_s (c' := (25, [some (aR (some (28, p0, 0))), some (aI (iZ x1))], [aI (iZ (σ.1 (28, p0, 0) 3))], am_hp σ, t)) rfl rfl ?_
  exact w1

theorem b_X4_startOf_19 {p0 : Nat} {x1 : Int} {σ : SG} {t : KT} (h1 : 0 ≤ x1 ∧ x1 < 60) (w2 : Wp k_X4_startOf d (25, [some (aR (some (28, p0, 0))), some (aI (iZ x1))], [aI (iZ (σ.1 (30, p0, 0) x1.toNat))], am_hp σ, t) Q) : Wp k_X4_startOf d (19, [some (aR (some (28, p0, 0))), some (aI (iZ x1))], [], am_hp σ, t) Q := by
  refine w_s (c' := (20, [some (aR (some (28, p0, 0))), some (aI (iZ x1))], [aR (some (28, p0, 0))], am_hp σ, t)) rfl rfl ?_
  refine w_get rfl (hp_28 _ p0) rfl rfl ?_
  refine w_s (c' := (24, [some (aR (some (28, p0, 0))), some (aI (iZ x1))], [aI (iZ x1), aR (some (30, p0, 0))], am_hp σ, t)) rfl rfl ?_
  refine w_ial rfl (hp_30 _ p0 0) h1 rfl rfl ?_
  exact w2

theorem b_X4_startOf_25 {p0 : Nat} {x1 : Int} {xs0 : Int} {σ : SG} {t : KT} (q1 : Q (.inl (some (aI (iZ xs0))), am_hp σ, t)) : Wp k_X4_startOf d (25, [some (aR (some (28, p0, 0))), some (aI (iZ x1))], [aI (iZ xs0)], am_hp σ, t) Q := by
  exact w_ret rfl rfl q1

theorem b_X4_wayOf_0 {p0 : Nat} {x1 : Int} {σ : SG} {t : KT} (h1 : -2147483648 ≤ x1 ∧ x1 < 2147483648) (w2 : x1 < 0 → Wp k_X4_wayOf d (12, [some (aR (some (28, p0, 0))), some (aI (iZ x1))], [], am_hp σ, t) Q) (w3 : 0 ≤ x1 → Wp k_X4_wayOf d (4, [some (aR (some (28, p0, 0))), some (aI (iZ x1))], [], am_hp σ, t) Q) : Wp k_X4_wayOf d (0, [some (aR (some (28, p0, 0))), some (aI (iZ x1))], [], am_hp σ, t) Q := by
  refine w_s (c' := (1, [some (aR (some (28, p0, 0))), some (aI (iZ x1))], [aI (iZ x1)], am_hp σ, t)) rfl rfl ?_
  exact w_iflt rfl h1 rfl w2 w3

theorem e_X4_wayOf {p0 : Nat} {x1 : Int} {h : AH} {t : KT} {d : Nat} {P : RS → Prop} (w : Wp k_X4_wayOf d (0, [some (aR (some (28, p0, 0))), some (aI (iZ x1))], [], h, t) P) : ∃ r, Ca (d + 1) 8 [aR (some (28, p0, 0)), aI (iZ x1)] h t r ∧ P r := ca_W rfl rfl rfl rfl w

theorem b_X4_wayOf_4 {p0 : Nat} {x1 : Int} {σ : SG} {t : KT} (h1 : -2147483648 ≤ x1 ∧ x1 < 2147483648) (h2 : -2147483648 ≤ σ.1 (28, p0, 0) 2 ∧ σ.1 (28, p0, 0) 2 < 2147483648) (w3 : x1 < σ.1 (28, p0, 0) 2 → Wp k_X4_wayOf d (16, [some (aR (some (28, p0, 0))), some (aI (iZ x1))], [], am_hp σ, t) Q) (w4 : σ.1 (28, p0, 0) 2 ≤ x1 → Wp k_X4_wayOf d (12, [some (aR (some (28, p0, 0))), some (aI (iZ x1))], [], am_hp σ, t) Q) : Wp k_X4_wayOf d (4, [some (aR (some (28, p0, 0))), some (aI (iZ x1))], [], am_hp σ, t) Q := by
  refine w_s (c' := (5, [some (aR (some (28, p0, 0))), some (aI (iZ x1))], [aI (iZ x1)], am_hp σ, t)) rfl rfl ?_
  refine w_s (c' := (6, [some (aR (some (28, p0, 0))), some (aI (iZ x1))], [aR (some (28, p0, 0)), aI (iZ x1)], am_hp σ, t)) rfl rfl ?_
  refine w_get rfl (hp_28 _ p0) rfl rfl ?_
  exact w_iclt rfl h1 h2 rfl w3 w4

theorem b_X4_wayOf_12 {p0 : Nat} {x1 : Int} {σ : SG} {t : KT} (w1 : Wp k_X4_wayOf d (25, [some (aR (some (28, p0, 0))), some (aI (iZ x1))], [aI (iZ 0)], am_hp σ, t) Q) : Wp k_X4_wayOf d (12, [some (aR (some (28, p0, 0))), some (aI (iZ x1))], [], am_hp σ, t) Q := by
  refine w_psh rfl zc_0 rfl ?_
  refine w_s (c' := (25, [some (aR (some (28, p0, 0))), some (aI (iZ x1))], [aI (iZ 0)], am_hp σ, t)) rfl rfl ?_
  exact w1

theorem b_X4_wayOf_16 {p0 : Nat} {x1 : Int} {σ : SG} {t : KT} (h1 : 0 ≤ x1 ∧ x1 < 60) (w2 : Wp k_X4_wayOf d (25, [some (aR (some (28, p0, 0))), some (aI (iZ x1))], [aI (iZ (zush (σ.1 (29, p0, 0) x1.toNat) 28))], am_hp σ, t) Q) : Wp k_X4_wayOf d (16, [some (aR (some (28, p0, 0))), some (aI (iZ x1))], [], am_hp σ, t) Q := by
  refine w_s (c' := (17, [some (aR (some (28, p0, 0))), some (aI (iZ x1))], [aR (some (28, p0, 0))], am_hp σ, t)) rfl rfl ?_
  refine w_get rfl (hp_28 _ p0) rfl rfl ?_
  refine w_s (c' := (21, [some (aR (some (28, p0, 0))), some (aI (iZ x1))], [aI (iZ x1), aR (some (29, p0, 0))], am_hp σ, t)) rfl rfl ?_
  refine w_ial rfl (hp_29 _ p0 0) h1 rfl rfl ?_
  refine w_psh rfl zc_28 rfl ?_
  refine w_iushr rfl rfl ?_
  exact w2

theorem b_X4_wayOf_25 {p0 : Nat} {x1 : Int} {xs0 : Int} {σ : SG} {t : KT} (q1 : Q (.inl (some (aI (iZ xs0))), am_hp σ, t)) : Wp k_X4_wayOf d (25, [some (aR (some (28, p0, 0))), some (aI (iZ x1))], [aI (iZ xs0)], am_hp σ, t) Q := by
  exact w_ret rfl rfl q1

theorem b_X4_heldBy_0 {p0 : Nat} {x1 : Int} {r1 : Int} {r2 : Int} {σ σ1 σ2 : SG} {t : KT} (c1 : Ca d 7 [aR (some (28, p0, 0)), aI (iZ (x1 + 1))] (am_hp σ) t (.inl (some (aI (iZ r1))), am_hp σ1, t)) (c2 : Ca d 7 [aR (some (28, p0, 0)), aI (iZ x1)] (am_hp σ1) t (.inl (some (aI (iZ r2))), am_hp σ2, t)) (q3 : Q (.inl (some (aI (iZ (r1 - r2)))), am_hp σ2, t)) : Wp k_X4_heldBy d (0, [some (aR (some (28, p0, 0))), some (aI (iZ x1))], [], am_hp σ, t) Q := by
  refine w_s (c' := (1, [some (aR (some (28, p0, 0))), some (aI (iZ x1))], [aR (some (28, p0, 0))], am_hp σ, t)) rfl rfl ?_
  refine w_s (c' := (2, [some (aR (some (28, p0, 0))), some (aI (iZ x1))], [aI (iZ x1), aR (some (28, p0, 0))], am_hp σ, t)) rfl rfl ?_
  refine w_psh rfl zc_1 rfl ?_
  refine w_iadd rfl rfl ?_
  refine w_c0 (c' := (7, [some (aR (some (28, p0, 0))), some (aI (iZ x1))], [aI (iZ r1)], am_hp σ1, t)) rfl rfl (rcv_of (hp_28 _ p0)) rfl c1 (Nat.le_refl _) rfl ?_
  refine w_s (c' := (8, [some (aR (some (28, p0, 0))), some (aI (iZ x1))], [aR (some (28, p0, 0)), aI (iZ r1)], am_hp σ1, t)) rfl rfl ?_
  refine w_s (c' := (9, [some (aR (some (28, p0, 0))), some (aI (iZ x1))], [aI (iZ x1), aR (some (28, p0, 0)), aI (iZ r1)], am_hp σ1, t)) rfl rfl ?_
  refine w_c0 (c' := (12, [some (aR (some (28, p0, 0))), some (aI (iZ x1))], [aI (iZ r2), aI (iZ r1)], am_hp σ2, t)) rfl rfl (rcv_of (hp_28 _ p0)) rfl c2 (Nat.le_refl _) rfl ?_
  refine w_isub rfl rfl ?_
  exact w_ret rfl rfl q3

theorem e_X4_heldBy {p0 : Nat} {x1 : Int} {h : AH} {t : KT} {d : Nat} {P : RS → Prop} (w : Wp k_X4_heldBy d (0, [some (aR (some (28, p0, 0))), some (aI (iZ x1))], [], h, t) P) : ∃ r, Ca (d + 1) 9 [aR (some (28, p0, 0)), aI (iZ x1)] h t r ∧ P r := ca_W rfl rfl rfl rfl w

theorem b_X4_usedBits_0 {p0 : Nat} {σ : SG} {t : KT} (w1 : Wp k_X4_usedBits d (4, [some (aR (some (28, p0, 0))), some (aI (iZ 0)), some (aI (iZ 0))], [], am_hp σ, t) Q) : Wp k_X4_usedBits d (0, [some (aR (some (28, p0, 0))), none, none], [], am_hp σ, t) Q := by
  refine w_psh rfl zc_0 rfl ?_
  refine w_s (c' := (2, [some (aR (some (28, p0, 0))), some (aI (iZ 0)), none], [], am_hp σ, t)) rfl rfl ?_
  refine w_psh rfl zc_0 rfl ?_
  refine w_s (c' := (4, [some (aR (some (28, p0, 0))), some (aI (iZ 0)), some (aI (iZ 0))], [], am_hp σ, t)) rfl rfl ?_
  exact w1

theorem e_X4_usedBits {p0 : Nat} {h : AH} {t : KT} {d : Nat} {P : RS → Prop} (w : Wp k_X4_usedBits d (0, [some (aR (some (28, p0, 0))), none, none], [], h, t) P) : ∃ r, Ca (d + 1) 10 [aR (some (28, p0, 0))] h t r ∧ P r := ca_W rfl rfl rfl rfl w

theorem b_X4_usedBits_4 {p0 : Nat} {x1 : Int} {x2 : Int} {σ : SG} {t : KT} (h1 : -2147483648 ≤ x2 ∧ x2 < 2147483648) (h2 : -2147483648 ≤ σ.1 (28, p0, 0) 2 ∧ σ.1 (28, p0, 0) 2 < 2147483648) (w3 : σ.1 (28, p0, 0) 2 ≤ x2 → Wp k_X4_usedBits d (35, [some (aR (some (28, p0, 0))), some (aI (iZ x1)), some (aI (iZ x2))], [], am_hp σ, t) Q) (w4 : x2 < σ.1 (28, p0, 0) 2 → Wp k_X4_usedBits d (12, [some (aR (some (28, p0, 0))), some (aI (iZ x1)), some (aI (iZ x2))], [], am_hp σ, t) Q) : Wp k_X4_usedBits d (4, [some (aR (some (28, p0, 0))), some (aI (iZ x1)), some (aI (iZ x2))], [], am_hp σ, t) Q := by
  refine w_s (c' := (5, [some (aR (some (28, p0, 0))), some (aI (iZ x1)), some (aI (iZ x2))], [aI (iZ x2)], am_hp σ, t)) rfl rfl ?_
  refine w_s (c' := (6, [some (aR (some (28, p0, 0))), some (aI (iZ x1)), some (aI (iZ x2))], [aR (some (28, p0, 0)), aI (iZ x2)], am_hp σ, t)) rfl rfl ?_
  refine w_get rfl (hp_28 _ p0) rfl rfl ?_
  exact w_icge rfl h1 h2 rfl w3 w4

theorem b_X4_usedBits_12 {p0 : Nat} {x1 : Int} {x2 : Int} {r1 : Int} {r2 : Int} {r3 : Int} {σ σ1 σ2 σ3 : SG} {t : KT} (c1 : Ca d 8 [aR (some (28, p0, 0)), aI (iZ x2)] (am_hp σ) t (.inl (some (aI (iZ r1))), am_hp σ1, t)) (c2 : Ca d 144 [aI (iZ r1)] (am_hp σ1) t (.inl (some (aI (iZ r2))), am_hp σ2, t)) (c3 : Ca d 9 [aR (some (28, p0, 0)), aI (iZ x2)] (am_hp σ2) t (.inl (some (aI (iZ r3))), am_hp σ3, t)) (w4 : Wp k_X4_usedBits d (4, [some (aR (some (28, p0, 0))), some (aI (iZ (x1 + (r2 * r3)))), some (aI (iZ (x2 + 1)))], [], am_hp σ3, t) Q) : Wp k_X4_usedBits d (12, [some (aR (some (28, p0, 0))), some (aI (iZ x1)), some (aI (iZ x2))], [], am_hp σ, t) Q := by
  refine w_s (c' := (13, [some (aR (some (28, p0, 0))), some (aI (iZ x1)), some (aI (iZ x2))], [aI (iZ x1)], am_hp σ, t)) rfl rfl ?_
  refine w_s (c' := (14, [some (aR (some (28, p0, 0))), some (aI (iZ x1)), some (aI (iZ x2))], [aR (some (28, p0, 0)), aI (iZ x1)], am_hp σ, t)) rfl rfl ?_
  refine w_s (c' := (15, [some (aR (some (28, p0, 0))), some (aI (iZ x1)), some (aI (iZ x2))], [aI (iZ x2), aR (some (28, p0, 0)), aI (iZ x1)], am_hp σ, t)) rfl rfl ?_
  refine w_c0 (c' := (18, [some (aR (some (28, p0, 0))), some (aI (iZ x1)), some (aI (iZ x2))], [aI (iZ r1), aI (iZ x1)], am_hp σ1, t)) rfl rfl (rcv_of (hp_28 _ p0)) rfl c1 (Nat.le_refl _) rfl ?_
  refine w_c0 (c' := (21, [some (aR (some (28, p0, 0))), some (aI (iZ x1)), some (aI (iZ x2))], [aI (iZ r2), aI (iZ x1)], am_hp σ2, t)) rfl rfl rfl rfl c2 (Nat.le_refl _) rfl ?_
  refine w_s (c' := (22, [some (aR (some (28, p0, 0))), some (aI (iZ x1)), some (aI (iZ x2))], [aR (some (28, p0, 0)), aI (iZ r2), aI (iZ x1)], am_hp σ2, t)) rfl rfl ?_
  refine w_s (c' := (23, [some (aR (some (28, p0, 0))), some (aI (iZ x1)), some (aI (iZ x2))], [aI (iZ x2), aR (some (28, p0, 0)), aI (iZ r2), aI (iZ x1)], am_hp σ2, t)) rfl rfl ?_
  refine w_c0 (c' := (26, [some (aR (some (28, p0, 0))), some (aI (iZ x1)), some (aI (iZ x2))], [aI (iZ r3), aI (iZ r2), aI (iZ x1)], am_hp σ3, t)) rfl rfl (rcv_of (hp_28 _ p0)) rfl c3 (Nat.le_refl _) rfl ?_
  refine w_imul rfl rfl ?_
  refine w_iadd rfl rfl ?_
  refine w_s (c' := (29, [some (aR (some (28, p0, 0))), some (aI (iZ (x1 + (r2 * r3)))), some (aI (iZ x2))], [], am_hp σ3, t)) rfl rfl ?_
  refine w_inc (a := x2) (ls' := [some (aR (some (28, p0, 0))), some (aI (iZ (x1 + (r2 * r3)))), some (aI (iZ (x2 + 1)))]) rfl rfl rfl zc_1 rfl rfl ?_
  refine w_s (c' := (4, [some (aR (some (28, p0, 0))), some (aI (iZ (x1 + (r2 * r3)))), some (aI (iZ (x2 + 1)))], [], am_hp σ3, t)) rfl rfl ?_
  exact w4

theorem b_X4_usedBits_35 {p0 : Nat} {x1 : Int} {x2 : Int} {σ : SG} {t : KT} (q1 : Q (.inl (some (aI (iZ x1))), am_hp σ, t)) : Wp k_X4_usedBits d (35, [some (aR (some (28, p0, 0))), some (aI (iZ x1)), some (aI (iZ x2))], [], am_hp σ, t) Q := by
  refine w_s (c' := (36, [some (aR (some (28, p0, 0))), some (aI (iZ x1)), some (aI (iZ x2))], [aI (iZ x1)], am_hp σ, t)) rfl rfl ?_
  exact w_ret rfl rfl q1

theorem b_X4_emptyBitsOf_0 {p0 : Nat} {x1 : Int} {r1 : Int} {r2 : Int} {r3 : Int} {σ σ1 σ2 σ3 : SG} {t : KT} (c1 : Ca d 8 [aR (some (28, p0, 0)), aI (iZ x1)] (am_hp σ) t (.inl (some (aI (iZ r1))), am_hp σ1, t)) (c2 : Ca d 144 [aI (iZ r1)] (am_hp σ1) t (.inl (some (aI (iZ r2))), am_hp σ2, t)) (c3 : Ca d 9 [aR (some (28, p0, 0)), aI (iZ x1)] (am_hp σ2) t (.inl (some (aI (iZ r3))), am_hp σ3, t)) (q4 : Q (.inl (some (aI (iZ (28 - (r2 * r3))))), am_hp σ3, t)) : Wp k_X4_emptyBitsOf d (0, [some (aR (some (28, p0, 0))), some (aI (iZ x1))], [], am_hp σ, t) Q := by
  refine w_psh rfl zc_28 rfl ?_
  refine w_s (c' := (3, [some (aR (some (28, p0, 0))), some (aI (iZ x1))], [aR (some (28, p0, 0)), aI (iZ 28)], am_hp σ, t)) rfl rfl ?_
  refine w_s (c' := (4, [some (aR (some (28, p0, 0))), some (aI (iZ x1))], [aI (iZ x1), aR (some (28, p0, 0)), aI (iZ 28)], am_hp σ, t)) rfl rfl ?_
  refine w_c0 (c' := (7, [some (aR (some (28, p0, 0))), some (aI (iZ x1))], [aI (iZ r1), aI (iZ 28)], am_hp σ1, t)) rfl rfl (rcv_of (hp_28 _ p0)) rfl c1 (Nat.le_refl _) rfl ?_
  refine w_c0 (c' := (10, [some (aR (some (28, p0, 0))), some (aI (iZ x1))], [aI (iZ r2), aI (iZ 28)], am_hp σ2, t)) rfl rfl rfl rfl c2 (Nat.le_refl _) rfl ?_
  refine w_s (c' := (11, [some (aR (some (28, p0, 0))), some (aI (iZ x1))], [aR (some (28, p0, 0)), aI (iZ r2), aI (iZ 28)], am_hp σ2, t)) rfl rfl ?_
  refine w_s (c' := (12, [some (aR (some (28, p0, 0))), some (aI (iZ x1))], [aI (iZ x1), aR (some (28, p0, 0)), aI (iZ r2), aI (iZ 28)], am_hp σ2, t)) rfl rfl ?_
  refine w_c0 (c' := (15, [some (aR (some (28, p0, 0))), some (aI (iZ x1))], [aI (iZ r3), aI (iZ r2), aI (iZ 28)], am_hp σ3, t)) rfl rfl (rcv_of (hp_28 _ p0)) rfl c3 (Nat.le_refl _) rfl ?_
  refine w_imul rfl rfl ?_
  refine w_isub rfl rfl ?_
  exact w_ret rfl rfl q4

theorem e_X4_emptyBitsOf {p0 : Nat} {x1 : Int} {h : AH} {t : KT} {d : Nat} {P : RS → Prop} (w : Wp k_X4_emptyBitsOf d (0, [some (aR (some (28, p0, 0))), some (aI (iZ x1))], [], h, t) P) : ∃ r, Ca (d + 1) 11 [aR (some (28, p0, 0)), aI (iZ x1)] h t r ∧ P r := ca_W rfl rfl rfl rfl w

theorem b_X4_emptyBits_0 {p0 : Nat} {r1 : Int} {σ σ1 : SG} {t : KT} (c1 : Ca d 10 [aR (some (28, p0, 0))] (am_hp σ) t (.inl (some (aI (iZ r1))), am_hp σ1, t)) (q2 : Q (.inl (some (aI (iZ ((28 * (σ.1 (28, p0, 0) 2)) - r1)))), am_hp σ1, t)) : Wp k_X4_emptyBits d (0, [some (aR (some (28, p0, 0)))], [], am_hp σ, t) Q := by
  refine w_psh rfl zc_28 rfl ?_
  refine w_s (c' := (3, [some (aR (some (28, p0, 0)))], [aR (some (28, p0, 0)), aI (iZ 28)], am_hp σ, t)) rfl rfl ?_
  refine w_get rfl (hp_28 _ p0) rfl rfl ?_
  refine w_imul rfl rfl ?_
  refine w_s (c' := (8, [some (aR (some (28, p0, 0)))], [aR (some (28, p0, 0)), aI (iZ (28 * (σ.1 (28, p0, 0) 2)))], am_hp σ, t)) rfl rfl ?_
  refine w_c0 (c' := (11, [some (aR (some (28, p0, 0)))], [aI (iZ r1), aI (iZ (28 * (σ.1 (28, p0, 0) 2)))], am_hp σ1, t)) rfl rfl (rcv_of (hp_28 _ p0)) rfl c1 (Nat.le_refl _) rfl ?_
  refine w_isub rfl rfl ?_
  exact w_ret rfl rfl q2

theorem e_X4_emptyBits {p0 : Nat} {h : AH} {t : KT} {d : Nat} {P : RS → Prop} (w : Wp k_X4_emptyBits d (0, [some (aR (some (28, p0, 0)))], [], h, t) P) : ∃ r, Ca (d + 1) 12 [aR (some (28, p0, 0))] h t r ∧ P r := ca_W rfl rfl rfl rfl w

theorem b_X4_setOfWays_0 {p0 : Nat} {σ : SG} {t : KT} (w1 : Wp k_X4_setOfWays d (4, [some (aR (some (28, p0, 0))), some (aI (iZ 0)), some (aI (iZ 0))], [], am_hp σ, t) Q) : Wp k_X4_setOfWays d (0, [some (aR (some (28, p0, 0))), none, none], [], am_hp σ, t) Q := by
  refine w_psh rfl zc_0 rfl ?_
  refine w_s (c' := (2, [some (aR (some (28, p0, 0))), some (aI (iZ 0)), none], [], am_hp σ, t)) rfl rfl ?_
  refine w_psh rfl zc_0 rfl ?_
  refine w_s (c' := (4, [some (aR (some (28, p0, 0))), some (aI (iZ 0)), some (aI (iZ 0))], [], am_hp σ, t)) rfl rfl ?_
  exact w1

theorem e_X4_setOfWays {p0 : Nat} {h : AH} {t : KT} {d : Nat} {P : RS → Prop} (w : Wp k_X4_setOfWays d (0, [some (aR (some (28, p0, 0))), none, none], [], h, t) P) : ∃ r, Ca (d + 1) 13 [aR (some (28, p0, 0))] h t r ∧ P r := ca_W rfl rfl rfl rfl w

theorem b_X4_setOfWays_4 {p0 : Nat} {x1 : Int} {x2 : Int} {σ : SG} {t : KT} (h1 : -2147483648 ≤ x2 ∧ x2 < 2147483648) (h2 : -2147483648 ≤ σ.1 (28, p0, 0) 2 ∧ σ.1 (28, p0, 0) 2 < 2147483648) (w3 : σ.1 (28, p0, 0) 2 ≤ x2 → Wp k_X4_setOfWays d (28, [some (aR (some (28, p0, 0))), some (aI (iZ x1)), some (aI (iZ x2))], [], am_hp σ, t) Q) (w4 : x2 < σ.1 (28, p0, 0) 2 → Wp k_X4_setOfWays d (12, [some (aR (some (28, p0, 0))), some (aI (iZ x1)), some (aI (iZ x2))], [], am_hp σ, t) Q) : Wp k_X4_setOfWays d (4, [some (aR (some (28, p0, 0))), some (aI (iZ x1)), some (aI (iZ x2))], [], am_hp σ, t) Q := by
  refine w_s (c' := (5, [some (aR (some (28, p0, 0))), some (aI (iZ x1)), some (aI (iZ x2))], [aI (iZ x2)], am_hp σ, t)) rfl rfl ?_
  refine w_s (c' := (6, [some (aR (some (28, p0, 0))), some (aI (iZ x1)), some (aI (iZ x2))], [aR (some (28, p0, 0)), aI (iZ x2)], am_hp σ, t)) rfl rfl ?_
  refine w_get rfl (hp_28 _ p0) rfl rfl ?_
  exact w_icge rfl h1 h2 rfl w3 w4

theorem b_X4_setOfWays_12 {p0 : Nat} {x1 : Int} {x2 : Int} {r1 : Int} {σ σ1 : SG} {t : KT} (c1 : Ca d 8 [aR (some (28, p0, 0)), aI (iZ x2)] (am_hp σ) t (.inl (some (aI (iZ r1))), am_hp σ1, t)) (w2 : Wp k_X4_setOfWays d (4, [some (aR (some (28, p0, 0))), some (aI (iZ (zor x1 (zshl 1 r1)))), some (aI (iZ (x2 + 1)))], [], am_hp σ1, t) Q) : Wp k_X4_setOfWays d (12, [some (aR (some (28, p0, 0))), some (aI (iZ x1)), some (aI (iZ x2))], [], am_hp σ, t) Q := by
  refine w_s (c' := (13, [some (aR (some (28, p0, 0))), some (aI (iZ x1)), some (aI (iZ x2))], [aI (iZ x1)], am_hp σ, t)) rfl rfl ?_
  refine w_psh rfl zc_1 rfl ?_
  refine w_s (c' := (15, [some (aR (some (28, p0, 0))), some (aI (iZ x1)), some (aI (iZ x2))], [aR (some (28, p0, 0)), aI (iZ 1), aI (iZ x1)], am_hp σ, t)) rfl rfl ?_
  refine w_s (c' := (16, [some (aR (some (28, p0, 0))), some (aI (iZ x1)), some (aI (iZ x2))], [aI (iZ x2), aR (some (28, p0, 0)), aI (iZ 1), aI (iZ x1)], am_hp σ, t)) rfl rfl ?_
  refine w_c0 (c' := (19, [some (aR (some (28, p0, 0))), some (aI (iZ x1)), some (aI (iZ x2))], [aI (iZ r1), aI (iZ 1), aI (iZ x1)], am_hp σ1, t)) rfl rfl (rcv_of (hp_28 _ p0)) rfl c1 (Nat.le_refl _) rfl ?_
  refine w_ishl rfl rfl ?_
  refine w_ior rfl rfl ?_
  refine w_s (c' := (22, [some (aR (some (28, p0, 0))), some (aI (iZ (zor x1 (zshl 1 r1)))), some (aI (iZ x2))], [], am_hp σ1, t)) rfl rfl ?_
  refine w_inc (a := x2) (ls' := [some (aR (some (28, p0, 0))), some (aI (iZ (zor x1 (zshl 1 r1)))), some (aI (iZ (x2 + 1)))]) rfl rfl rfl zc_1 rfl rfl ?_
  refine w_s (c' := (4, [some (aR (some (28, p0, 0))), some (aI (iZ (zor x1 (zshl 1 r1)))), some (aI (iZ (x2 + 1)))], [], am_hp σ1, t)) rfl rfl ?_
  exact w2

theorem b_X4_setOfWays_28 {p0 : Nat} {x1 : Int} {x2 : Int} {σ : SG} {t : KT} (q1 : Q (.inl (some (aI (iZ x1))), am_hp σ, t)) : Wp k_X4_setOfWays d (28, [some (aR (some (28, p0, 0))), some (aI (iZ x1)), some (aI (iZ x2))], [], am_hp σ, t) Q := by
  refine w_s (c' := (29, [some (aR (some (28, p0, 0))), some (aI (iZ x1)), some (aI (iZ x2))], [aI (iZ x1)], am_hp σ, t)) rfl rfl ?_
  exact w_ret rfl rfl q1

theorem b_X4_wordsOf_0 {p0 : Nat} {x1 : Int} {σ : SG} {t : KT} (w1 : Wp k_X4_wordsOf d (4, [some (aR (some (28, p0, 0))), some (aI (iZ x1)), some (aI (iZ 0)), some (aI (iZ 0))], [], am_hp σ, t) Q) : Wp k_X4_wordsOf d (0, [some (aR (some (28, p0, 0))), some (aI (iZ x1)), none, none], [], am_hp σ, t) Q := by
  refine w_psh rfl zc_0 rfl ?_
  refine w_s (c' := (2, [some (aR (some (28, p0, 0))), some (aI (iZ x1)), some (aI (iZ 0)), none], [], am_hp σ, t)) rfl rfl ?_
  refine w_psh rfl zc_0 rfl ?_
  refine w_s (c' := (4, [some (aR (some (28, p0, 0))), some (aI (iZ x1)), some (aI (iZ 0)), some (aI (iZ 0))], [], am_hp σ, t)) rfl rfl ?_
  exact w1

theorem e_X4_wordsOf {p0 : Nat} {x1 : Int} {h : AH} {t : KT} {d : Nat} {P : RS → Prop} (w : Wp k_X4_wordsOf d (0, [some (aR (some (28, p0, 0))), some (aI (iZ x1)), none, none], [], h, t) P) : ∃ r, Ca (d + 1) 14 [aR (some (28, p0, 0)), aI (iZ x1)] h t r ∧ P r := ca_W rfl rfl rfl rfl w

theorem b_X4_wordsOf_4 {p0 : Nat} {x1 : Int} {x2 : Int} {x3 : Int} {σ : SG} {t : KT} (h1 : -2147483648 ≤ x3 ∧ x3 < 2147483648) (h2 : -2147483648 ≤ σ.1 (28, p0, 0) 2 ∧ σ.1 (28, p0, 0) 2 < 2147483648) (w3 : σ.1 (28, p0, 0) 2 ≤ x3 → Wp k_X4_wordsOf d (30, [some (aR (some (28, p0, 0))), some (aI (iZ x1)), some (aI (iZ x2)), some (aI (iZ x3))], [], am_hp σ, t) Q) (w4 : x3 < σ.1 (28, p0, 0) 2 → Wp k_X4_wordsOf d (12, [some (aR (some (28, p0, 0))), some (aI (iZ x1)), some (aI (iZ x2)), some (aI (iZ x3))], [], am_hp σ, t) Q) : Wp k_X4_wordsOf d (4, [some (aR (some (28, p0, 0))), some (aI (iZ x1)), some (aI (iZ x2)), some (aI (iZ x3))], [], am_hp σ, t) Q := by
  refine w_s (c' := (5, [some (aR (some (28, p0, 0))), some (aI (iZ x1)), some (aI (iZ x2)), some (aI (iZ x3))], [aI (iZ x3)], am_hp σ, t)) rfl rfl ?_
  refine w_s (c' := (6, [some (aR (some (28, p0, 0))), some (aI (iZ x1)), some (aI (iZ x2)), some (aI (iZ x3))], [aR (some (28, p0, 0)), aI (iZ x3)], am_hp σ, t)) rfl rfl ?_
  refine w_get rfl (hp_28 _ p0) rfl rfl ?_
  exact w_icge rfl h1 h2 rfl w3 w4

theorem b_X4_wordsOf_12 {p0 : Nat} {x1 : Int} {x2 : Int} {x3 : Int} {r1 : Int} {σ σ1 : SG} {t : KT} (c1 : Ca d 8 [aR (some (28, p0, 0)), aI (iZ x3)] (am_hp σ) t (.inl (some (aI (iZ r1))), am_hp σ1, t)) (h2 : -2147483648 ≤ r1 ∧ r1 < 2147483648) (h3 : -2147483648 ≤ x1 ∧ x1 < 2147483648) (w4 : r1 ≠ x1 → Wp k_X4_wordsOf d (24, [some (aR (some (28, p0, 0))), some (aI (iZ x1)), some (aI (iZ x2)), some (aI (iZ x3))], [], am_hp σ1, t) Q) (w5 : r1 = x1 → Wp k_X4_wordsOf d (21, [some (aR (some (28, p0, 0))), some (aI (iZ x1)), some (aI (iZ x2)), some (aI (iZ x3))], [], am_hp σ1, t) Q) : Wp k_X4_wordsOf d (12, [some (aR (some (28, p0, 0))), some (aI (iZ x1)), some (aI (iZ x2)), some (aI (iZ x3))], [], am_hp σ, t) Q := by
  refine w_s (c' := (13, [some (aR (some (28, p0, 0))), some (aI (iZ x1)), some (aI (iZ x2)), some (aI (iZ x3))], [aR (some (28, p0, 0))], am_hp σ, t)) rfl rfl ?_
  refine w_s (c' := (14, [some (aR (some (28, p0, 0))), some (aI (iZ x1)), some (aI (iZ x2)), some (aI (iZ x3))], [aI (iZ x3), aR (some (28, p0, 0))], am_hp σ, t)) rfl rfl ?_
  refine w_c0 (c' := (17, [some (aR (some (28, p0, 0))), some (aI (iZ x1)), some (aI (iZ x2)), some (aI (iZ x3))], [aI (iZ r1)], am_hp σ1, t)) rfl rfl (rcv_of (hp_28 _ p0)) rfl c1 (Nat.le_refl _) rfl ?_
  refine w_s (c' := (18, [some (aR (some (28, p0, 0))), some (aI (iZ x1)), some (aI (iZ x2)), some (aI (iZ x3))], [aI (iZ x1), aI (iZ r1)], am_hp σ1, t)) rfl rfl ?_
  exact w_icne rfl h2 h3 rfl w4 w5

theorem b_X4_wordsOf_21 {p0 : Nat} {x1 : Int} {x2 : Int} {x3 : Int} {σ : SG} {t : KT} (w1 : Wp k_X4_wordsOf d (24, [some (aR (some (28, p0, 0))), some (aI (iZ x1)), some (aI (iZ (x2 + 1))), some (aI (iZ x3))], [], am_hp σ, t) Q) : Wp k_X4_wordsOf d (21, [some (aR (some (28, p0, 0))), some (aI (iZ x1)), some (aI (iZ x2)), some (aI (iZ x3))], [], am_hp σ, t) Q := by
  refine w_inc (a := x2) (ls' := [some (aR (some (28, p0, 0))), some (aI (iZ x1)), some (aI (iZ (x2 + 1))), some (aI (iZ x3))]) rfl rfl rfl zc_1 rfl rfl ?_
  exact w1

theorem b_X4_wordsOf_24 {p0 : Nat} {x1 : Int} {x2 : Int} {x3 : Int} {σ : SG} {t : KT} (w1 : Wp k_X4_wordsOf d (4, [some (aR (some (28, p0, 0))), some (aI (iZ x1)), some (aI (iZ x2)), some (aI (iZ (x3 + 1)))], [], am_hp σ, t) Q) : Wp k_X4_wordsOf d (24, [some (aR (some (28, p0, 0))), some (aI (iZ x1)), some (aI (iZ x2)), some (aI (iZ x3))], [], am_hp σ, t) Q := by
  refine w_inc (a := x3) (ls' := [some (aR (some (28, p0, 0))), some (aI (iZ x1)), some (aI (iZ x2)), some (aI (iZ (x3 + 1)))]) rfl rfl rfl zc_1 rfl rfl ?_
  refine w_s (c' := (4, [some (aR (some (28, p0, 0))), some (aI (iZ x1)), some (aI (iZ x2)), some (aI (iZ (x3 + 1)))], [], am_hp σ, t)) rfl rfl ?_
  exact w1

theorem b_X4_wordsOf_30 {p0 : Nat} {x1 : Int} {x2 : Int} {x3 : Int} {σ : SG} {t : KT} (q1 : Q (.inl (some (aI (iZ x2))), am_hp σ, t)) : Wp k_X4_wordsOf d (30, [some (aR (some (28, p0, 0))), some (aI (iZ x1)), some (aI (iZ x2)), some (aI (iZ x3))], [], am_hp σ, t) Q := by
  refine w_s (c' := (31, [some (aR (some (28, p0, 0))), some (aI (iZ x1)), some (aI (iZ x2)), some (aI (iZ x3))], [aI (iZ x2)], am_hp σ, t)) rfl rfl ?_
  exact w_ret rfl rfl q1

theorem b_X4_sumPrices_0 {p0 : Nat} {p1 : Nat} {σ : SG} {t : KT} (w1 : Wp k_X4_sumPrices d (4, [some (aR (some (28, p0, 0))), some (aR (some (13, p1, 0))), some (aI (iZ 0)), some (aI (iZ 0))], [], am_hp σ, t) Q) : Wp k_X4_sumPrices d (0, [some (aR (some (28, p0, 0))), some (aR (some (13, p1, 0))), none, none], [], am_hp σ, t) Q := by
  refine w_psh rfl zc_0 rfl ?_
  refine w_s (c' := (2, [some (aR (some (28, p0, 0))), some (aR (some (13, p1, 0))), some (aI (iZ 0)), none], [], am_hp σ, t)) rfl rfl ?_
  refine w_psh rfl zc_0 rfl ?_
  refine w_s (c' := (4, [some (aR (some (28, p0, 0))), some (aR (some (13, p1, 0))), some (aI (iZ 0)), some (aI (iZ 0))], [], am_hp σ, t)) rfl rfl ?_
  exact w1

theorem e_X4_sumPrices {p0 : Nat} {p1 : Nat} {h : AH} {t : KT} {d : Nat} {P : RS → Prop} (w : Wp k_X4_sumPrices d (0, [some (aR (some (28, p0, 0))), some (aR (some (13, p1, 0))), none, none], [], h, t) P) : ∃ r, Ca (d + 1) 15 [aR (some (28, p0, 0)), aR (some (13, p1, 0))] h t r ∧ P r := ca_W rfl rfl rfl rfl w

theorem b_X4_sumPrices_4 {p0 : Nat} {p1 : Nat} {x2 : Int} {x3 : Int} {σ : SG} {t : KT} (h1 : -2147483648 ≤ x3 ∧ x3 < 2147483648) (h2 : -2147483648 ≤ σ.1 (28, p0, 0) 2 ∧ σ.1 (28, p0, 0) 2 < 2147483648) (w3 : σ.1 (28, p0, 0) 2 ≤ x3 → Wp k_X4_sumPrices d (30, [some (aR (some (28, p0, 0))), some (aR (some (13, p1, 0))), some (aI (iZ x2)), some (aI (iZ x3))], [], am_hp σ, t) Q) (w4 : x3 < σ.1 (28, p0, 0) 2 → Wp k_X4_sumPrices d (12, [some (aR (some (28, p0, 0))), some (aR (some (13, p1, 0))), some (aI (iZ x2)), some (aI (iZ x3))], [], am_hp σ, t) Q) : Wp k_X4_sumPrices d (4, [some (aR (some (28, p0, 0))), some (aR (some (13, p1, 0))), some (aI (iZ x2)), some (aI (iZ x3))], [], am_hp σ, t) Q := by
  refine w_s (c' := (5, [some (aR (some (28, p0, 0))), some (aR (some (13, p1, 0))), some (aI (iZ x2)), some (aI (iZ x3))], [aI (iZ x3)], am_hp σ, t)) rfl rfl ?_
  refine w_s (c' := (6, [some (aR (some (28, p0, 0))), some (aR (some (13, p1, 0))), some (aI (iZ x2)), some (aI (iZ x3))], [aR (some (28, p0, 0)), aI (iZ x3)], am_hp σ, t)) rfl rfl ?_
  refine w_get rfl (hp_28 _ p0) rfl rfl ?_
  exact w_icge rfl h1 h2 rfl w3 w4

theorem b_X4_sumPrices_12 {p0 : Nat} {p1 : Nat} {x2 : Int} {x3 : Int} {r1 : Int} {r2 : Int} {σ σ1 σ2 : SG} {t : KT} (c1 : Ca d 8 [aR (some (28, p0, 0)), aI (iZ x3)] (am_hp σ) t (.inl (some (aI (iZ r1))), am_hp σ1, t)) (c2 : Ca d 145 [aI (iZ r1), aR (some (13, p1, 0))] (am_hp σ1) t (.inl (some (aI (iZ r2))), am_hp σ2, t)) (w3 : Wp k_X4_sumPrices d (4, [some (aR (some (28, p0, 0))), some (aR (some (13, p1, 0))), some (aI (iZ (x2 + r2))), some (aI (iZ (x3 + 1)))], [], am_hp σ2, t) Q) : Wp k_X4_sumPrices d (12, [some (aR (some (28, p0, 0))), some (aR (some (13, p1, 0))), some (aI (iZ x2)), some (aI (iZ x3))], [], am_hp σ, t) Q := by
  refine w_s (c' := (13, [some (aR (some (28, p0, 0))), some (aR (some (13, p1, 0))), some (aI (iZ x2)), some (aI (iZ x3))], [aI (iZ x2)], am_hp σ, t)) rfl rfl ?_
  refine w_s (c' := (14, [some (aR (some (28, p0, 0))), some (aR (some (13, p1, 0))), some (aI (iZ x2)), some (aI (iZ x3))], [aR (some (28, p0, 0)), aI (iZ x2)], am_hp σ, t)) rfl rfl ?_
  refine w_s (c' := (15, [some (aR (some (28, p0, 0))), some (aR (some (13, p1, 0))), some (aI (iZ x2)), some (aI (iZ x3))], [aI (iZ x3), aR (some (28, p0, 0)), aI (iZ x2)], am_hp σ, t)) rfl rfl ?_
  refine w_c0 (c' := (18, [some (aR (some (28, p0, 0))), some (aR (some (13, p1, 0))), some (aI (iZ x2)), some (aI (iZ x3))], [aI (iZ r1), aI (iZ x2)], am_hp σ1, t)) rfl rfl (rcv_of (hp_28 _ p0)) rfl c1 (Nat.le_refl _) rfl ?_
  refine w_s (c' := (19, [some (aR (some (28, p0, 0))), some (aR (some (13, p1, 0))), some (aI (iZ x2)), some (aI (iZ x3))], [aR (some (13, p1, 0)), aI (iZ r1), aI (iZ x2)], am_hp σ1, t)) rfl rfl ?_
  refine w_c0 (c' := (22, [some (aR (some (28, p0, 0))), some (aR (some (13, p1, 0))), some (aI (iZ x2)), some (aI (iZ x3))], [aI (iZ r2), aI (iZ x2)], am_hp σ2, t)) rfl rfl rfl rfl c2 (Nat.le_refl _) rfl ?_
  refine w_iadd rfl rfl ?_
  refine w_s (c' := (24, [some (aR (some (28, p0, 0))), some (aR (some (13, p1, 0))), some (aI (iZ (x2 + r2))), some (aI (iZ x3))], [], am_hp σ2, t)) rfl rfl ?_
  refine w_inc (a := x3) (ls' := [some (aR (some (28, p0, 0))), some (aR (some (13, p1, 0))), some (aI (iZ (x2 + r2))), some (aI (iZ (x3 + 1)))]) rfl rfl rfl zc_1 rfl rfl ?_
  refine w_s (c' := (4, [some (aR (some (28, p0, 0))), some (aR (some (13, p1, 0))), some (aI (iZ (x2 + r2))), some (aI (iZ (x3 + 1)))], [], am_hp σ2, t)) rfl rfl ?_
  exact w3

theorem b_X4_sumPrices_30 {p0 : Nat} {p1 : Nat} {x2 : Int} {x3 : Int} {σ : SG} {t : KT} (q1 : Q (.inl (some (aI (iZ x2))), am_hp σ, t)) : Wp k_X4_sumPrices d (30, [some (aR (some (28, p0, 0))), some (aR (some (13, p1, 0))), some (aI (iZ x2)), some (aI (iZ x3))], [], am_hp σ, t) Q := by
  refine w_s (c' := (31, [some (aR (some (28, p0, 0))), some (aR (some (13, p1, 0))), some (aI (iZ x2)), some (aI (iZ x3))], [aI (iZ x2)], am_hp σ, t)) rfl rfl ?_
  exact w_ret rfl rfl q1

theorem b_X4_wordAt_0 {p0 : Nat} {x1 : Int} {σ : SG} {t : KT} (w1 : Wp k_X4_wordAt d (2, [some (aR (some (28, p0, 0))), some (aI (iZ x1)), some (aI (iZ 0))], [], am_hp σ, t) Q) : Wp k_X4_wordAt d (0, [some (aR (some (28, p0, 0))), some (aI (iZ x1)), none], [], am_hp σ, t) Q := by
  refine w_psh rfl zc_0 rfl ?_
  refine w_s (c' := (2, [some (aR (some (28, p0, 0))), some (aI (iZ x1)), some (aI (iZ 0))], [], am_hp σ, t)) rfl rfl ?_
  exact w1

theorem e_X4_wordAt {p0 : Nat} {x1 : Int} {h : AH} {t : KT} {d : Nat} {P : RS → Prop} (w : Wp k_X4_wordAt d (0, [some (aR (some (28, p0, 0))), some (aI (iZ x1)), none], [], h, t) P) : ∃ r, Ca (d + 1) 16 [aR (some (28, p0, 0)), aI (iZ x1)] h t r ∧ P r := ca_W rfl rfl rfl rfl w

theorem b_X4_wordAt_2 {p0 : Nat} {x1 : Int} {x2 : Int} {σ : SG} {t : KT} (h1 : -2147483648 ≤ x2 + 1 ∧ x2 + 1 < 2147483648) (h2 : -2147483648 ≤ σ.1 (28, p0, 0) 2 ∧ σ.1 (28, p0, 0) 2 < 2147483648) (w3 : σ.1 (28, p0, 0) 2 ≤ x2 + 1 → Wp k_X4_wordAt d (30, [some (aR (some (28, p0, 0))), some (aI (iZ x1)), some (aI (iZ x2))], [], am_hp σ, t) Q) (w4 : x2 + 1 < σ.1 (28, p0, 0) 2 → Wp k_X4_wordAt d (12, [some (aR (some (28, p0, 0))), some (aI (iZ x1)), some (aI (iZ x2))], [], am_hp σ, t) Q) : Wp k_X4_wordAt d (2, [some (aR (some (28, p0, 0))), some (aI (iZ x1)), some (aI (iZ x2))], [], am_hp σ, t) Q := by
  refine w_s (c' := (3, [some (aR (some (28, p0, 0))), some (aI (iZ x1)), some (aI (iZ x2))], [aI (iZ x2)], am_hp σ, t)) rfl rfl ?_
  refine w_psh rfl zc_1 rfl ?_
  refine w_iadd rfl rfl ?_
  refine w_s (c' := (6, [some (aR (some (28, p0, 0))), some (aI (iZ x1)), some (aI (iZ x2))], [aR (some (28, p0, 0)), aI (iZ (x2 + 1))], am_hp σ, t)) rfl rfl ?_
  refine w_get rfl (hp_28 _ p0) rfl rfl ?_
  exact w_icge rfl h1 h2 rfl w3 w4

theorem b_X4_wordAt_12 {p0 : Nat} {x1 : Int} {x2 : Int} {σ : SG} {t : KT} (h1 : 0 ≤ x2 + 1 ∧ x2 + 1 < 60) (h2 : -2147483648 ≤ σ.1 (30, p0, 0) (x2 + 1).toNat ∧ σ.1 (30, p0, 0) (x2 + 1).toNat < 2147483648) (h3 : -2147483648 ≤ x1 ∧ x1 < 2147483648) (w4 : x1 < σ.1 (30, p0, 0) (x2 + 1).toNat → Wp k_X4_wordAt d (30, [some (aR (some (28, p0, 0))), some (aI (iZ x1)), some (aI (iZ x2))], [], am_hp σ, t) Q) (w5 : σ.1 (30, p0, 0) (x2 + 1).toNat ≤ x1 → Wp k_X4_wordAt d (24, [some (aR (some (28, p0, 0))), some (aI (iZ x1)), some (aI (iZ x2))], [], am_hp σ, t) Q) : Wp k_X4_wordAt d (12, [some (aR (some (28, p0, 0))), some (aI (iZ x1)), some (aI (iZ x2))], [], am_hp σ, t) Q := by
  refine w_s (c' := (13, [some (aR (some (28, p0, 0))), some (aI (iZ x1)), some (aI (iZ x2))], [aR (some (28, p0, 0))], am_hp σ, t)) rfl rfl ?_
  refine w_get rfl (hp_28 _ p0) rfl rfl ?_
  refine w_s (c' := (17, [some (aR (some (28, p0, 0))), some (aI (iZ x1)), some (aI (iZ x2))], [aI (iZ x2), aR (some (30, p0, 0))], am_hp σ, t)) rfl rfl ?_
  refine w_psh rfl zc_1 rfl ?_
  refine w_iadd rfl rfl ?_
  refine w_ial rfl (hp_30 _ p0 0) h1 rfl rfl ?_
  refine w_s (c' := (21, [some (aR (some (28, p0, 0))), some (aI (iZ x1)), some (aI (iZ x2))], [aI (iZ x1), aI (iZ (σ.1 (30, p0, 0) (x2 + 1).toNat))], am_hp σ, t)) rfl rfl ?_
  exact w_icgt rfl h2 h3 rfl w4 w5

theorem b_X4_wordAt_24 {p0 : Nat} {x1 : Int} {x2 : Int} {σ : SG} {t : KT} (w1 : Wp k_X4_wordAt d (2, [some (aR (some (28, p0, 0))), some (aI (iZ x1)), some (aI (iZ (x2 + 1)))], [], am_hp σ, t) Q) : Wp k_X4_wordAt d (24, [some (aR (some (28, p0, 0))), some (aI (iZ x1)), some (aI (iZ x2))], [], am_hp σ, t) Q := by
  refine w_inc (a := x2) (ls' := [some (aR (some (28, p0, 0))), some (aI (iZ x1)), some (aI (iZ (x2 + 1)))]) rfl rfl rfl zc_1 rfl rfl ?_
  refine w_s (c' := (2, [some (aR (some (28, p0, 0))), some (aI (iZ x1)), some (aI (iZ (x2 + 1)))], [], am_hp σ, t)) rfl rfl ?_
  exact w1

theorem b_X4_wordAt_30 {p0 : Nat} {x1 : Int} {x2 : Int} {σ : SG} {t : KT} (q1 : Q (.inl (some (aI (iZ x2))), am_hp σ, t)) : Wp k_X4_wordAt d (30, [some (aR (some (28, p0, 0))), some (aI (iZ x1)), some (aI (iZ x2))], [], am_hp σ, t) Q := by
  refine w_s (c' := (31, [some (aR (some (28, p0, 0))), some (aI (iZ x1)), some (aI (iZ x2))], [aI (iZ x2)], am_hp σ, t)) rfl rfl ?_
  exact w_ret rfl rfl q1

theorem b_X4_numberIn_0 {p0 : Nat} {x1 : Int} {x2 : Int} {σ : SG} {t : KT} (h1 : -2147483648 ≤ x1 ∧ x1 < 2147483648) (w2 : x1 < 0 → Wp k_X4_numberIn d (12, [some (aR (some (28, p0, 0))), some (aI (iZ x1)), some (aI (iZ x2)), none], [], am_hp σ, t) Q) (w3 : 0 ≤ x1 → Wp k_X4_numberIn d (4, [some (aR (some (28, p0, 0))), some (aI (iZ x1)), some (aI (iZ x2)), none], [], am_hp σ, t) Q) : Wp k_X4_numberIn d (0, [some (aR (some (28, p0, 0))), some (aI (iZ x1)), some (aI (iZ x2)), none], [], am_hp σ, t) Q := by
  refine w_s (c' := (1, [some (aR (some (28, p0, 0))), some (aI (iZ x1)), some (aI (iZ x2)), none], [aI (iZ x1)], am_hp σ, t)) rfl rfl ?_
  exact w_iflt rfl h1 rfl w2 w3

theorem e_X4_numberIn {p0 : Nat} {x1 : Int} {x2 : Int} {h : AH} {t : KT} {d : Nat} {P : RS → Prop} (w : Wp k_X4_numberIn d (0, [some (aR (some (28, p0, 0))), some (aI (iZ x1)), some (aI (iZ x2)), none], [], h, t) P) : ∃ r, Ca (d + 1) 17 [aR (some (28, p0, 0)), aI (iZ x1), aI (iZ x2)] h t r ∧ P r := ca_W rfl rfl rfl rfl w

theorem b_X4_numberIn_4 {p0 : Nat} {x1 : Int} {x2 : Int} {σ : SG} {t : KT} (h1 : -2147483648 ≤ x1 ∧ x1 < 2147483648) (h2 : -2147483648 ≤ σ.1 (28, p0, 0) 2 ∧ σ.1 (28, p0, 0) 2 < 2147483648) (w3 : x1 < σ.1 (28, p0, 0) 2 → Wp k_X4_numberIn d (14, [some (aR (some (28, p0, 0))), some (aI (iZ x1)), some (aI (iZ x2)), none], [], am_hp σ, t) Q) (w4 : σ.1 (28, p0, 0) 2 ≤ x1 → Wp k_X4_numberIn d (12, [some (aR (some (28, p0, 0))), some (aI (iZ x1)), some (aI (iZ x2)), none], [], am_hp σ, t) Q) : Wp k_X4_numberIn d (4, [some (aR (some (28, p0, 0))), some (aI (iZ x1)), some (aI (iZ x2)), none], [], am_hp σ, t) Q := by
  refine w_s (c' := (5, [some (aR (some (28, p0, 0))), some (aI (iZ x1)), some (aI (iZ x2)), none], [aI (iZ x1)], am_hp σ, t)) rfl rfl ?_
  refine w_s (c' := (6, [some (aR (some (28, p0, 0))), some (aI (iZ x1)), some (aI (iZ x2)), none], [aR (some (28, p0, 0)), aI (iZ x1)], am_hp σ, t)) rfl rfl ?_
  refine w_get rfl (hp_28 _ p0) rfl rfl ?_
  exact w_iclt rfl h1 h2 rfl w3 w4

theorem b_X4_numberIn_12 {p0 : Nat} {x1 : Int} {x2 : Int} {σ : SG} {t : KT} (q1 : Q (.inl (some (aI (iZ 0))), am_hp σ, t)) : Wp k_X4_numberIn d (12, [some (aR (some (28, p0, 0))), some (aI (iZ x1)), some (aI (iZ x2)), none], [], am_hp σ, t) Q := by
  refine w_psh rfl zc_0 rfl ?_
  exact w_ret rfl rfl q1

theorem b_X4_numberIn_14 {p0 : Nat} {x1 : Int} {x2 : Int} {r1 : Int} {r2 : Int} {σ σ1 σ2 : SG} {t : KT} (c1 : Ca d 8 [aR (some (28, p0, 0)), aI (iZ x1)] (am_hp σ) t (.inl (some (aI (iZ r1))), am_hp σ1, t)) (c2 : Ca d 144 [aI (iZ r1)] (am_hp σ1) t (.inl (some (aI (iZ r2))), am_hp σ2, t)) (h3 : 0 ≤ x1 ∧ x1 < 60) (q4 : Q (.inl (some (aI (iZ (zand (zshr (σ2.1 (29, p0, 0) x1.toNat) (x2 * r2)) ((zshl 1 r2) - 1))))), am_hp σ2, t)) : Wp k_X4_numberIn d (14, [some (aR (some (28, p0, 0))), some (aI (iZ x1)), some (aI (iZ x2)), none], [], am_hp σ, t) Q := by
  refine w_s (c' := (15, [some (aR (some (28, p0, 0))), some (aI (iZ x1)), some (aI (iZ x2)), none], [aR (some (28, p0, 0))], am_hp σ, t)) rfl rfl ?_
  refine w_s (c' := (16, [some (aR (some (28, p0, 0))), some (aI (iZ x1)), some (aI (iZ x2)), none], [aI (iZ x1), aR (some (28, p0, 0))], am_hp σ, t)) rfl rfl ?_
  refine w_c0 (c' := (19, [some (aR (some (28, p0, 0))), some (aI (iZ x1)), some (aI (iZ x2)), none], [aI (iZ r1)], am_hp σ1, t)) rfl rfl (rcv_of (hp_28 _ p0)) rfl c1 (Nat.le_refl _) rfl ?_
  refine w_c0 (c' := (22, [some (aR (some (28, p0, 0))), some (aI (iZ x1)), some (aI (iZ x2)), none], [aI (iZ r2)], am_hp σ2, t)) rfl rfl rfl rfl c2 (Nat.le_refl _) rfl ?_
  refine w_s (c' := (23, [some (aR (some (28, p0, 0))), some (aI (iZ x1)), some (aI (iZ x2)), some (aI (iZ r2))], [], am_hp σ2, t)) rfl rfl ?_
  refine w_s (c' := (24, [some (aR (some (28, p0, 0))), some (aI (iZ x1)), some (aI (iZ x2)), some (aI (iZ r2))], [aR (some (28, p0, 0))], am_hp σ2, t)) rfl rfl ?_
  refine w_get rfl (hp_28 _ p0) rfl rfl ?_
  refine w_s (c' := (28, [some (aR (some (28, p0, 0))), some (aI (iZ x1)), some (aI (iZ x2)), some (aI (iZ r2))], [aI (iZ x1), aR (some (29, p0, 0))], am_hp σ2, t)) rfl rfl ?_
  refine w_ial rfl (hp_29 _ p0 0) h3 rfl rfl ?_
  refine w_s (c' := (30, [some (aR (some (28, p0, 0))), some (aI (iZ x1)), some (aI (iZ x2)), some (aI (iZ r2))], [aI (iZ x2), aI (iZ (σ2.1 (29, p0, 0) x1.toNat))], am_hp σ2, t)) rfl rfl ?_
  refine w_s (c' := (31, [some (aR (some (28, p0, 0))), some (aI (iZ x1)), some (aI (iZ x2)), some (aI (iZ r2))], [aI (iZ r2), aI (iZ x2), aI (iZ (σ2.1 (29, p0, 0) x1.toNat))], am_hp σ2, t)) rfl rfl ?_
  refine w_imul rfl rfl ?_
  refine w_ishr rfl rfl ?_
  refine w_psh rfl zc_1 rfl ?_
  refine w_s (c' := (35, [some (aR (some (28, p0, 0))), some (aI (iZ x1)), some (aI (iZ x2)), some (aI (iZ r2))], [aI (iZ r2), aI (iZ 1), aI (iZ (zshr (σ2.1 (29, p0, 0) x1.toNat) (x2 * r2)))], am_hp σ2, t)) rfl rfl ?_
  refine w_ishl rfl rfl ?_
  refine w_psh rfl zc_1 rfl ?_
  refine w_isub rfl rfl ?_
  refine w_iand rfl rfl ?_
  exact w_ret rfl rfl q4

theorem b_X4_numberAt_0 {p0 : Nat} {x1 : Int} {r1 : Int} {r2 : Int} {r3 : Int} {σ σ1 σ2 σ3 : SG} {t : KT} (c1 : Ca d 16 [aR (some (28, p0, 0)), aI (iZ x1)] (am_hp σ) t (.inl (some (aI (iZ r1))), am_hp σ1, t)) (c2 : Ca d 7 [aR (some (28, p0, 0)), aI (iZ r1)] (am_hp σ1) t (.inl (some (aI (iZ r2))), am_hp σ2, t)) (c3 : Ca d 17 [aR (some (28, p0, 0)), aI (iZ r1), aI (iZ (x1 - r2))] (am_hp σ2) t (.inl (some (aI (iZ r3))), am_hp σ3, t)) (q4 : Q (.inl (some (aI (iZ r3))), am_hp σ3, t)) : Wp k_X4_numberAt d (0, [some (aR (some (28, p0, 0))), some (aI (iZ x1)), none], [], am_hp σ, t) Q := by
  refine w_s (c' := (1, [some (aR (some (28, p0, 0))), some (aI (iZ x1)), none], [aR (some (28, p0, 0))], am_hp σ, t)) rfl rfl ?_
  refine w_s (c' := (2, [some (aR (some (28, p0, 0))), some (aI (iZ x1)), none], [aI (iZ x1), aR (some (28, p0, 0))], am_hp σ, t)) rfl rfl ?_
  refine w_c0 (c' := (5, [some (aR (some (28, p0, 0))), some (aI (iZ x1)), none], [aI (iZ r1)], am_hp σ1, t)) rfl rfl (rcv_of (hp_28 _ p0)) rfl c1 (Nat.le_refl _) rfl ?_
  refine w_s (c' := (6, [some (aR (some (28, p0, 0))), some (aI (iZ x1)), some (aI (iZ r1))], [], am_hp σ1, t)) rfl rfl ?_
  refine w_s (c' := (7, [some (aR (some (28, p0, 0))), some (aI (iZ x1)), some (aI (iZ r1))], [aR (some (28, p0, 0))], am_hp σ1, t)) rfl rfl ?_
  refine w_s (c' := (8, [some (aR (some (28, p0, 0))), some (aI (iZ x1)), some (aI (iZ r1))], [aI (iZ r1), aR (some (28, p0, 0))], am_hp σ1, t)) rfl rfl ?_
  refine w_s (c' := (9, [some (aR (some (28, p0, 0))), some (aI (iZ x1)), some (aI (iZ r1))], [aI (iZ x1), aI (iZ r1), aR (some (28, p0, 0))], am_hp σ1, t)) rfl rfl ?_
  refine w_s (c' := (10, [some (aR (some (28, p0, 0))), some (aI (iZ x1)), some (aI (iZ r1))], [aR (some (28, p0, 0)), aI (iZ x1), aI (iZ r1), aR (some (28, p0, 0))], am_hp σ1, t)) rfl rfl ?_
  refine w_s (c' := (11, [some (aR (some (28, p0, 0))), some (aI (iZ x1)), some (aI (iZ r1))], [aI (iZ r1), aR (some (28, p0, 0)), aI (iZ x1), aI (iZ r1), aR (some (28, p0, 0))], am_hp σ1, t)) rfl rfl ?_
  refine w_c0 (c' := (14, [some (aR (some (28, p0, 0))), some (aI (iZ x1)), some (aI (iZ r1))], [aI (iZ r2), aI (iZ x1), aI (iZ r1), aR (some (28, p0, 0))], am_hp σ2, t)) rfl rfl (rcv_of (hp_28 _ p0)) rfl c2 (Nat.le_refl _) rfl ?_
  refine w_isub rfl rfl ?_
  refine w_c0 (c' := (18, [some (aR (some (28, p0, 0))), some (aI (iZ x1)), some (aI (iZ r1))], [aI (iZ r3)], am_hp σ3, t)) rfl rfl (rcv_of (hp_28 _ p0)) rfl c3 (Nat.le_refl _) rfl ?_
  exact w_ret rfl rfl q4

theorem e_X4_numberAt {p0 : Nat} {x1 : Int} {h : AH} {t : KT} {d : Nat} {P : RS → Prop} (w : Wp k_X4_numberAt d (0, [some (aR (some (28, p0, 0))), some (aI (iZ x1)), none], [], h, t) P) : ∃ r, Ca (d + 1) 18 [aR (some (28, p0, 0)), aI (iZ x1)] h t r ∧ P r := ca_W rfl rfl rfl rfl w

theorem b_X4_indexIn_0 {p0 : Nat} {x1 : Int} {x2 : Int} {σ : SG} {t : KT} (w1 : Wp k_X4_indexIn d (2, [some (aR (some (28, p0, 0))), some (aI (iZ x1)), some (aI (iZ x2)), some (aI (iZ 0))], [], am_hp σ, t) Q) : Wp k_X4_indexIn d (0, [some (aR (some (28, p0, 0))), some (aI (iZ x1)), some (aI (iZ x2)), none], [], am_hp σ, t) Q := by
  refine w_psh rfl zc_0 rfl ?_
  refine w_s (c' := (2, [some (aR (some (28, p0, 0))), some (aI (iZ x1)), some (aI (iZ x2)), some (aI (iZ 0))], [], am_hp σ, t)) rfl rfl ?_
  exact w1

theorem e_X4_indexIn {p0 : Nat} {x1 : Int} {x2 : Int} {h : AH} {t : KT} {d : Nat} {P : RS → Prop} (w : Wp k_X4_indexIn d (0, [some (aR (some (28, p0, 0))), some (aI (iZ x1)), some (aI (iZ x2)), none], [], h, t) P) : ∃ r, Ca (d + 1) 19 [aR (some (28, p0, 0)), aI (iZ x1), aI (iZ x2)] h t r ∧ P r := ca_W rfl rfl rfl rfl w

theorem b_X4_indexIn_2 {p0 : Nat} {x1 : Int} {x2 : Int} {x3 : Int} {r1 : Int} {σ σ1 : SG} {t : KT} (c1 : Ca d 9 [aR (some (28, p0, 0)), aI (iZ x1)] (am_hp σ) t (.inl (some (aI (iZ r1))), am_hp σ1, t)) (h2 : -2147483648 ≤ x3 ∧ x3 < 2147483648) (h3 : -2147483648 ≤ r1 ∧ r1 < 2147483648) (w4 : r1 ≤ x3 → Wp k_X4_indexIn d (35, [some (aR (some (28, p0, 0))), some (aI (iZ x1)), some (aI (iZ x2)), some (aI (iZ x3))], [], am_hp σ1, t) Q) (w5 : x3 < r1 → Wp k_X4_indexIn d (11, [some (aR (some (28, p0, 0))), some (aI (iZ x1)), some (aI (iZ x2)), some (aI (iZ x3))], [], am_hp σ1, t) Q) : Wp k_X4_indexIn d (2, [some (aR (some (28, p0, 0))), some (aI (iZ x1)), some (aI (iZ x2)), some (aI (iZ x3))], [], am_hp σ, t) Q := by
  refine w_s (c' := (3, [some (aR (some (28, p0, 0))), some (aI (iZ x1)), some (aI (iZ x2)), some (aI (iZ x3))], [aI (iZ x3)], am_hp σ, t)) rfl rfl ?_
  refine w_s (c' := (4, [some (aR (some (28, p0, 0))), some (aI (iZ x1)), some (aI (iZ x2)), some (aI (iZ x3))], [aR (some (28, p0, 0)), aI (iZ x3)], am_hp σ, t)) rfl rfl ?_
  refine w_s (c' := (5, [some (aR (some (28, p0, 0))), some (aI (iZ x1)), some (aI (iZ x2)), some (aI (iZ x3))], [aI (iZ x1), aR (some (28, p0, 0)), aI (iZ x3)], am_hp σ, t)) rfl rfl ?_
  refine w_c0 (c' := (8, [some (aR (some (28, p0, 0))), some (aI (iZ x1)), some (aI (iZ x2)), some (aI (iZ x3))], [aI (iZ r1), aI (iZ x3)], am_hp σ1, t)) rfl rfl (rcv_of (hp_28 _ p0)) rfl c1 (Nat.le_refl _) rfl ?_
  exact w_icge rfl h2 h3 rfl w4 w5

theorem b_X4_indexIn_11 {p0 : Nat} {x1 : Int} {x2 : Int} {x3 : Int} {r1 : Int} {σ σ1 : SG} {t : KT} (c1 : Ca d 17 [aR (some (28, p0, 0)), aI (iZ x1), aI (iZ x3)] (am_hp σ) t (.inl (some (aI (iZ r1))), am_hp σ1, t)) (h2 : -2147483648 ≤ r1 ∧ r1 < 2147483648) (h3 : -2147483648 ≤ x2 ∧ x2 < 2147483648) (w4 : r1 ≠ x2 → Wp k_X4_indexIn d (29, [some (aR (some (28, p0, 0))), some (aI (iZ x1)), some (aI (iZ x2)), some (aI (iZ x3))], [], am_hp σ1, t) Q) (w5 : r1 = x2 → Wp k_X4_indexIn d (21, [some (aR (some (28, p0, 0))), some (aI (iZ x1)), some (aI (iZ x2)), some (aI (iZ x3))], [], am_hp σ1, t) Q) : Wp k_X4_indexIn d (11, [some (aR (some (28, p0, 0))), some (aI (iZ x1)), some (aI (iZ x2)), some (aI (iZ x3))], [], am_hp σ, t) Q := by
  refine w_s (c' := (12, [some (aR (some (28, p0, 0))), some (aI (iZ x1)), some (aI (iZ x2)), some (aI (iZ x3))], [aR (some (28, p0, 0))], am_hp σ, t)) rfl rfl ?_
  refine w_s (c' := (13, [some (aR (some (28, p0, 0))), some (aI (iZ x1)), some (aI (iZ x2)), some (aI (iZ x3))], [aI (iZ x1), aR (some (28, p0, 0))], am_hp σ, t)) rfl rfl ?_
  refine w_s (c' := (14, [some (aR (some (28, p0, 0))), some (aI (iZ x1)), some (aI (iZ x2)), some (aI (iZ x3))], [aI (iZ x3), aI (iZ x1), aR (some (28, p0, 0))], am_hp σ, t)) rfl rfl ?_
  refine w_c0 (c' := (17, [some (aR (some (28, p0, 0))), some (aI (iZ x1)), some (aI (iZ x2)), some (aI (iZ x3))], [aI (iZ r1)], am_hp σ1, t)) rfl rfl (rcv_of (hp_28 _ p0)) rfl c1 (Nat.le_refl _) rfl ?_
  refine w_s (c' := (18, [some (aR (some (28, p0, 0))), some (aI (iZ x1)), some (aI (iZ x2)), some (aI (iZ x3))], [aI (iZ x2), aI (iZ r1)], am_hp σ1, t)) rfl rfl ?_
  exact w_icne rfl h2 h3 rfl w4 w5

theorem b_X4_indexIn_21 {p0 : Nat} {x1 : Int} {x2 : Int} {x3 : Int} {r1 : Int} {σ σ1 : SG} {t : KT} (c1 : Ca d 7 [aR (some (28, p0, 0)), aI (iZ x1)] (am_hp σ) t (.inl (some (aI (iZ r1))), am_hp σ1, t)) (q2 : Q (.inl (some (aI (iZ (r1 + x3)))), am_hp σ1, t)) : Wp k_X4_indexIn d (21, [some (aR (some (28, p0, 0))), some (aI (iZ x1)), some (aI (iZ x2)), some (aI (iZ x3))], [], am_hp σ, t) Q := by
  refine w_s (c' := (22, [some (aR (some (28, p0, 0))), some (aI (iZ x1)), some (aI (iZ x2)), some (aI (iZ x3))], [aR (some (28, p0, 0))], am_hp σ, t)) rfl rfl ?_
  refine w_s (c' := (23, [some (aR (some (28, p0, 0))), some (aI (iZ x1)), some (aI (iZ x2)), some (aI (iZ x3))], [aI (iZ x1), aR (some (28, p0, 0))], am_hp σ, t)) rfl rfl ?_
  refine w_c0 (c' := (26, [some (aR (some (28, p0, 0))), some (aI (iZ x1)), some (aI (iZ x2)), some (aI (iZ x3))], [aI (iZ r1)], am_hp σ1, t)) rfl rfl (rcv_of (hp_28 _ p0)) rfl c1 (Nat.le_refl _) rfl ?_
  refine w_s (c' := (27, [some (aR (some (28, p0, 0))), some (aI (iZ x1)), some (aI (iZ x2)), some (aI (iZ x3))], [aI (iZ x3), aI (iZ r1)], am_hp σ1, t)) rfl rfl ?_
  refine w_iadd rfl rfl ?_
  exact w_ret rfl rfl q2

theorem b_X4_indexIn_29 {p0 : Nat} {x1 : Int} {x2 : Int} {x3 : Int} {σ : SG} {t : KT} (w1 : Wp k_X4_indexIn d (2, [some (aR (some (28, p0, 0))), some (aI (iZ x1)), some (aI (iZ x2)), some (aI (iZ (x3 + 1)))], [], am_hp σ, t) Q) : Wp k_X4_indexIn d (29, [some (aR (some (28, p0, 0))), some (aI (iZ x1)), some (aI (iZ x2)), some (aI (iZ x3))], [], am_hp σ, t) Q := by
  refine w_inc (a := x3) (ls' := [some (aR (some (28, p0, 0))), some (aI (iZ x1)), some (aI (iZ x2)), some (aI (iZ (x3 + 1)))]) rfl rfl rfl zc_1 rfl rfl ?_
  refine w_s (c' := (2, [some (aR (some (28, p0, 0))), some (aI (iZ x1)), some (aI (iZ x2)), some (aI (iZ (x3 + 1)))], [], am_hp σ, t)) rfl rfl ?_
  exact w1

theorem b_X4_indexIn_35 {p0 : Nat} {x1 : Int} {x2 : Int} {x3 : Int} {σ : SG} {t : KT} (q1 : Q (.inl (some (aI (iZ (-1)))), am_hp σ, t)) : Wp k_X4_indexIn d (35, [some (aR (some (28, p0, 0))), some (aI (iZ x1)), some (aI (iZ x2)), some (aI (iZ x3))], [], am_hp σ, t) Q := by
  refine w_psh rfl zc_m1 rfl ?_
  exact w_ret rfl rfl q1

theorem b_X4_timesIn_0 {p0 : Nat} {x1 : Int} {x2 : Int} {σ : SG} {t : KT} (w1 : Wp k_X4_timesIn d (5, [some (aR (some (28, p0, 0))), some (aI (iZ x1)), some (aI (iZ x2)), some (aI (iZ 0)), some (aI (iZ 0))], [], am_hp σ, t) Q) : Wp k_X4_timesIn d (0, [some (aR (some (28, p0, 0))), some (aI (iZ x1)), some (aI (iZ x2)), none, none], [], am_hp σ, t) Q := by
  refine w_psh rfl zc_0 rfl ?_
  refine w_s (c' := (2, [some (aR (some (28, p0, 0))), some (aI (iZ x1)), some (aI (iZ x2)), some (aI (iZ 0)), none], [], am_hp σ, t)) rfl rfl ?_
  refine w_psh rfl zc_0 rfl ?_
  refine w_s (c' := (5, [some (aR (some (28, p0, 0))), some (aI (iZ x1)), some (aI (iZ x2)), some (aI (iZ 0)), some (aI (iZ 0))], [], am_hp σ, t)) rfl rfl ?_
  exact w1

theorem e_X4_timesIn {p0 : Nat} {x1 : Int} {x2 : Int} {h : AH} {t : KT} {d : Nat} {P : RS → Prop} (w : Wp k_X4_timesIn d (0, [some (aR (some (28, p0, 0))), some (aI (iZ x1)), some (aI (iZ x2)), none, none], [], h, t) P) : ∃ r, Ca (d + 1) 20 [aR (some (28, p0, 0)), aI (iZ x1), aI (iZ x2)] h t r ∧ P r := ca_W rfl rfl rfl rfl w

theorem b_X4_timesIn_5 {p0 : Nat} {x1 : Int} {x2 : Int} {x3 : Int} {x4 : Int} {r1 : Int} {σ σ1 : SG} {t : KT} (c1 : Ca d 9 [aR (some (28, p0, 0)), aI (iZ x1)] (am_hp σ) t (.inl (some (aI (iZ r1))), am_hp σ1, t)) (h2 : -2147483648 ≤ x4 ∧ x4 < 2147483648) (h3 : -2147483648 ≤ r1 ∧ r1 < 2147483648) (w4 : r1 ≤ x4 → Wp k_X4_timesIn d (35, [some (aR (some (28, p0, 0))), some (aI (iZ x1)), some (aI (iZ x2)), some (aI (iZ x3)), some (aI (iZ x4))], [], am_hp σ1, t) Q) (w5 : x4 < r1 → Wp k_X4_timesIn d (15, [some (aR (some (28, p0, 0))), some (aI (iZ x1)), some (aI (iZ x2)), some (aI (iZ x3)), some (aI (iZ x4))], [], am_hp σ1, t) Q) : Wp k_X4_timesIn d (5, [some (aR (some (28, p0, 0))), some (aI (iZ x1)), some (aI (iZ x2)), some (aI (iZ x3)), some (aI (iZ x4))], [], am_hp σ, t) Q := by
  refine w_s (c' := (7, [some (aR (some (28, p0, 0))), some (aI (iZ x1)), some (aI (iZ x2)), some (aI (iZ x3)), some (aI (iZ x4))], [aI (iZ x4)], am_hp σ, t)) rfl rfl ?_
  refine w_s (c' := (8, [some (aR (some (28, p0, 0))), some (aI (iZ x1)), some (aI (iZ x2)), some (aI (iZ x3)), some (aI (iZ x4))], [aR (some (28, p0, 0)), aI (iZ x4)], am_hp σ, t)) rfl rfl ?_
  refine w_s (c' := (9, [some (aR (some (28, p0, 0))), some (aI (iZ x1)), some (aI (iZ x2)), some (aI (iZ x3)), some (aI (iZ x4))], [aI (iZ x1), aR (some (28, p0, 0)), aI (iZ x4)], am_hp σ, t)) rfl rfl ?_
  refine w_c0 (c' := (12, [some (aR (some (28, p0, 0))), some (aI (iZ x1)), some (aI (iZ x2)), some (aI (iZ x3)), some (aI (iZ x4))], [aI (iZ r1), aI (iZ x4)], am_hp σ1, t)) rfl rfl (rcv_of (hp_28 _ p0)) rfl c1 (Nat.le_refl _) rfl ?_
  exact w_icge rfl h2 h3 rfl w4 w5

theorem b_X4_timesIn_15 {p0 : Nat} {x1 : Int} {x2 : Int} {x3 : Int} {x4 : Int} {r1 : Int} {σ σ1 : SG} {t : KT} (c1 : Ca d 17 [aR (some (28, p0, 0)), aI (iZ x1), aI (iZ x4)] (am_hp σ) t (.inl (some (aI (iZ r1))), am_hp σ1, t)) (h2 : -2147483648 ≤ r1 ∧ r1 < 2147483648) (h3 : -2147483648 ≤ x2 ∧ x2 < 2147483648) (w4 : r1 ≠ x2 → Wp k_X4_timesIn d (29, [some (aR (some (28, p0, 0))), some (aI (iZ x1)), some (aI (iZ x2)), some (aI (iZ x3)), some (aI (iZ x4))], [], am_hp σ1, t) Q) (w5 : r1 = x2 → Wp k_X4_timesIn d (26, [some (aR (some (28, p0, 0))), some (aI (iZ x1)), some (aI (iZ x2)), some (aI (iZ x3)), some (aI (iZ x4))], [], am_hp σ1, t) Q) : Wp k_X4_timesIn d (15, [some (aR (some (28, p0, 0))), some (aI (iZ x1)), some (aI (iZ x2)), some (aI (iZ x3)), some (aI (iZ x4))], [], am_hp σ, t) Q := by
  refine w_s (c' := (16, [some (aR (some (28, p0, 0))), some (aI (iZ x1)), some (aI (iZ x2)), some (aI (iZ x3)), some (aI (iZ x4))], [aR (some (28, p0, 0))], am_hp σ, t)) rfl rfl ?_
  refine w_s (c' := (17, [some (aR (some (28, p0, 0))), some (aI (iZ x1)), some (aI (iZ x2)), some (aI (iZ x3)), some (aI (iZ x4))], [aI (iZ x1), aR (some (28, p0, 0))], am_hp σ, t)) rfl rfl ?_
  refine w_s (c' := (19, [some (aR (some (28, p0, 0))), some (aI (iZ x1)), some (aI (iZ x2)), some (aI (iZ x3)), some (aI (iZ x4))], [aI (iZ x4), aI (iZ x1), aR (some (28, p0, 0))], am_hp σ, t)) rfl rfl ?_
  refine w_c0 (c' := (22, [some (aR (some (28, p0, 0))), some (aI (iZ x1)), some (aI (iZ x2)), some (aI (iZ x3)), some (aI (iZ x4))], [aI (iZ r1)], am_hp σ1, t)) rfl rfl (rcv_of (hp_28 _ p0)) rfl c1 (Nat.le_refl _) rfl ?_
  refine w_s (c' := (23, [some (aR (some (28, p0, 0))), some (aI (iZ x1)), some (aI (iZ x2)), some (aI (iZ x3)), some (aI (iZ x4))], [aI (iZ x2), aI (iZ r1)], am_hp σ1, t)) rfl rfl ?_
  exact w_icne rfl h2 h3 rfl w4 w5

theorem b_X4_timesIn_26 {p0 : Nat} {x1 : Int} {x2 : Int} {x3 : Int} {x4 : Int} {σ : SG} {t : KT} (w1 : Wp k_X4_timesIn d (29, [some (aR (some (28, p0, 0))), some (aI (iZ x1)), some (aI (iZ x2)), some (aI (iZ (x3 + 1))), some (aI (iZ x4))], [], am_hp σ, t) Q) : Wp k_X4_timesIn d (26, [some (aR (some (28, p0, 0))), some (aI (iZ x1)), some (aI (iZ x2)), some (aI (iZ x3)), some (aI (iZ x4))], [], am_hp σ, t) Q := by
  refine w_inc (a := x3) (ls' := [some (aR (some (28, p0, 0))), some (aI (iZ x1)), some (aI (iZ x2)), some (aI (iZ (x3 + 1))), some (aI (iZ x4))]) rfl rfl rfl zc_1 rfl rfl ?_
  exact w1

theorem b_X4_timesIn_29 {p0 : Nat} {x1 : Int} {x2 : Int} {x3 : Int} {x4 : Int} {σ : SG} {t : KT} (w1 : Wp k_X4_timesIn d (5, [some (aR (some (28, p0, 0))), some (aI (iZ x1)), some (aI (iZ x2)), some (aI (iZ x3)), some (aI (iZ (x4 + 1)))], [], am_hp σ, t) Q) : Wp k_X4_timesIn d (29, [some (aR (some (28, p0, 0))), some (aI (iZ x1)), some (aI (iZ x2)), some (aI (iZ x3)), some (aI (iZ x4))], [], am_hp σ, t) Q := by
  refine w_inc (a := x4) (ls' := [some (aR (some (28, p0, 0))), some (aI (iZ x1)), some (aI (iZ x2)), some (aI (iZ x3)), some (aI (iZ (x4 + 1)))]) rfl rfl rfl zc_1 rfl rfl ?_
  refine w_s (c' := (5, [some (aR (some (28, p0, 0))), some (aI (iZ x1)), some (aI (iZ x2)), some (aI (iZ x3)), some (aI (iZ (x4 + 1)))], [], am_hp σ, t)) rfl rfl ?_
  exact w1

theorem b_X4_timesIn_35 {p0 : Nat} {x1 : Int} {x2 : Int} {x3 : Int} {x4 : Int} {σ : SG} {t : KT} (q1 : Q (.inl (some (aI (iZ x3))), am_hp σ, t)) : Wp k_X4_timesIn d (35, [some (aR (some (28, p0, 0))), some (aI (iZ x1)), some (aI (iZ x2)), some (aI (iZ x3)), some (aI (iZ x4))], [], am_hp σ, t) Q := by
  refine w_s (c' := (36, [some (aR (some (28, p0, 0))), some (aI (iZ x1)), some (aI (iZ x2)), some (aI (iZ x3)), some (aI (iZ x4))], [aI (iZ x3)], am_hp σ, t)) rfl rfl ?_
  exact w_ret rfl rfl q1
end PCS
