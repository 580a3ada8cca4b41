/-! PIECES: X12 -/
set_option maxRecDepth 4000
section PCS
variable {d : Nat} {Q : RS → Prop}
theorem b_X12_manyIn_0 {x1 : Int} {r1 : Int} {σ σ1 : SG} {t : KT} (c1 : Ca d 213 [aI (iZ x1)] (am_hp σ) t (.inl (some (aI (iZ r1))), am_hp σ1, t)) (h2 : 0 ≤ r1 + 2 ∧ r1 + 2 < 264) (q3 : Q (.inl (some (aI (iZ (σ1.1 (42, 0, 0) (r1 + 2).toNat)))), am_hp σ1, t)) : Wp k_X12_manyIn d (0, [some (aR (some (40, 0, 0))), some (aI (iZ x1))], [], am_hp σ, t) Q := by
  refine w_s (c' := (1, [some (aR (some (40, 0, 0))), some (aI (iZ x1))], [aR (some (40, 0, 0))], am_hp σ, t)) rfl rfl ?_
  refine w_get rfl (hp_40 _ 0) rfl rfl ?_
  refine w_s (c' := (5, [some (aR (some (40, 0, 0))), some (aI (iZ x1))], [aI (iZ x1), aR (some (42, 0, 0))], am_hp σ, t)) rfl rfl ?_
  refine w_c0 (c' := (8, [some (aR (some (40, 0, 0))), some (aI (iZ x1))], [aI (iZ r1), aR (some (42, 0, 0))], am_hp σ1, t)) rfl rfl rfl rfl c1 (Nat.le_refl _) rfl ?_
  refine w_psh rfl zc_2 rfl ?_
  refine w_iadd rfl rfl ?_
  refine w_ial rfl (hp_42 _ 0 0) h2 rfl rfl ?_
  exact w_ret rfl rfl q3

theorem e_X12_manyIn {x1 : Int} {h : AH} {t : KT} {d : Nat} {P : RS → Prop} (w : Wp k_X12_manyIn d (0, [some (aR (some (40, 0, 0))), some (aI (iZ x1))], [], h, t) P) : ∃ r, Ca (d + 1) 214 [aR (some (40, 0, 0)), aI (iZ x1)] h t r ∧ P r := ca_W rfl rfl rfl rfl w

theorem b_X12_valueAt_0 {x1 : Int} {x2 : Int} {r1 : Int} {σ σ1 : SG} {t : KT} (c1 : Ca d 213 [aI (iZ x1)] (am_hp σ) t (.inl (some (aI (iZ r1))), am_hp σ1, t)) (h2 : 0 ≤ (r1 + 3) + x2 ∧ (r1 + 3) + x2 < 264) (q3 : Q (.inl (some (aI (iZ (σ1.1 (42, 0, 0) ((r1 + 3) + x2).toNat)))), am_hp σ1, t)) : Wp k_X12_valueAt d (0, [some (aR (some (40, 0, 0))), some (aI (iZ x1)), some (aI (iZ x2))], [], am_hp σ, t) Q := by
  refine w_s (c' := (1, [some (aR (some (40, 0, 0))), some (aI (iZ x1)), some (aI (iZ x2))], [aR (some (40, 0, 0))], am_hp σ, t)) rfl rfl ?_
  refine w_get rfl (hp_40 _ 0) rfl rfl ?_
  refine w_s (c' := (5, [some (aR (some (40, 0, 0))), some (aI (iZ x1)), some (aI (iZ x2))], [aI (iZ x1), aR (some (42, 0, 0))], am_hp σ, t)) rfl rfl ?_
  refine w_c0 (c' := (8, [some (aR (some (40, 0, 0))), some (aI (iZ x1)), some (aI (iZ x2))], [aI (iZ r1), aR (some (42, 0, 0))], am_hp σ1, t)) rfl rfl rfl rfl c1 (Nat.le_refl _) rfl ?_
  refine w_psh rfl zc_3 rfl ?_
  refine w_iadd rfl rfl ?_
  refine w_s (c' := (11, [some (aR (some (40, 0, 0))), some (aI (iZ x1)), some (aI (iZ x2))], [aI (iZ x2), aI (iZ (r1 + 3)), aR (some (42, 0, 0))], am_hp σ1, t)) rfl rfl ?_
  refine w_iadd rfl rfl ?_
  refine w_ial rfl (hp_42 _ 0 0) h2 rfl rfl ?_
  exact w_ret rfl rfl q3

theorem e_X12_valueAt {x1 : Int} {x2 : Int} {h : AH} {t : KT} {d : Nat} {P : RS → Prop} (w : Wp k_X12_valueAt d (0, [some (aR (some (40, 0, 0))), some (aI (iZ x1)), some (aI (iZ x2))], [], h, t) P) : ∃ r, Ca (d + 1) 215 [aR (some (40, 0, 0)), aI (iZ x1), aI (iZ x2)] h t r ∧ P r := ca_W rfl rfl rfl rfl w

theorem b_X12_putsValue_0 {x1 : Int} {x2 : Int} {x3 : Int} {r1 : Int} {σ σ1 : SG} {t : KT} (c1 : Ca d 213 [aI (iZ x1)] (am_hp σ) t (.inl (some (aI (iZ r1))), am_hp σ1, t)) (h2 : 0 ≤ (r1 + 3) + x2 ∧ (r1 + 3) + x2 < 264) (q3 : Q (.inl none, am_hp ((sI σ1 (42, 0, 0) (up (σ1.1 (42, 0, 0)) ((r1 + 3) + x2).toNat x3))), t)) : Wp k_X12_putsValue d (0, [some (aR (some (40, 0, 0))), some (aI (iZ x1)), some (aI (iZ x2)), some (aI (iZ x3))], [], am_hp σ, t) Q := by
  refine w_s (c' := (1, [some (aR (some (40, 0, 0))), some (aI (iZ x1)), some (aI (iZ x2)), some (aI (iZ x3))], [aR (some (40, 0, 0))], am_hp σ, t)) rfl rfl ?_
  refine w_get rfl (hp_40 _ 0) rfl rfl ?_
  refine w_s (c' := (5, [some (aR (some (40, 0, 0))), some (aI (iZ x1)), some (aI (iZ x2)), some (aI (iZ x3))], [aI (iZ x1), aR (some (42, 0, 0))], am_hp σ, t)) rfl rfl ?_
  refine w_c0 (c' := (8, [some (aR (some (40, 0, 0))), some (aI (iZ x1)), some (aI (iZ x2)), some (aI (iZ x3))], [aI (iZ r1), aR (some (42, 0, 0))], am_hp σ1, t)) rfl rfl rfl rfl c1 (Nat.le_refl _) rfl ?_
  refine w_psh rfl zc_3 rfl ?_
  refine w_iadd rfl rfl ?_
  refine w_s (c' := (11, [some (aR (some (40, 0, 0))), some (aI (iZ x1)), some (aI (iZ x2)), some (aI (iZ x3))], [aI (iZ x2), aI (iZ (r1 + 3)), aR (some (42, 0, 0))], am_hp σ1, t)) rfl rfl ?_
  refine w_iadd rfl rfl ?_
  refine w_s (c' := (13, [some (aR (some (40, 0, 0))), some (aI (iZ x1)), some (aI (iZ x2)), some (aI (iZ x3))], [aI (iZ x3), aI (iZ ((r1 + 3) + x2)), aR (some (42, 0, 0))], am_hp σ1, t)) rfl rfl ?_
  refine w_ias rfl (mk_42 _ 0 0) h2 rfl rfl rfl ?_
  exact w_f rfl rfl q3

theorem e_X12_putsValue {x1 : Int} {x2 : Int} {x3 : Int} {h : AH} {t : KT} {d : Nat} {P : RS → Prop} (w : Wp k_X12_putsValue d (0, [some (aR (some (40, 0, 0))), some (aI (iZ x1)), some (aI (iZ x2)), some (aI (iZ x3))], [], h, t) P) : ∃ r, Ca (d + 1) 216 [aR (some (40, 0, 0)), aI (iZ x1), aI (iZ x2), aI (iZ x3)] h t r ∧ P r := ca_W rfl rfl rfl rfl w

theorem b_X12_isRow_0 {x1 : Int} {r1 : Int} {σ σ1 : SG} {t : KT} (h1 : -2147483648 ≤ x1 ∧ x1 < 2147483648) (h2 : -2147483648 ≤ (σ.1 (42, 0, 0) 0) - 1 ∧ (σ.1 (42, 0, 0) 0) - 1 < 2147483648) (c3 : Ca d 175 [aL (jZ x1), aL (jZ 0), aL (jZ ((σ.1 (42, 0, 0) 0) - 1))] (am_hp σ) t (.inl (some (aI (iZ r1))), am_hp σ1, t)) (h4 : r1 = 0 ∨ r1 = 1) (q5 : Q (.inl (some (aI (iZ r1))), am_hp σ1, t)) : Wp k_X12_isRow d (0, [some (aR (some (40, 0, 0))), some (aI (iZ x1))], [], am_hp σ, t) Q := by
  refine w_s (c' := (1, [some (aR (some (40, 0, 0))), some (aI (iZ x1))], [aI (iZ x1)], am_hp σ, t)) rfl rfl ?_
  refine w_i2l rfl rfl h1 ?_
  refine w_psL rfl yc_0 rfl ?_
  refine w_s (c' := (4, [some (aR (some (40, 0, 0))), some (aI (iZ x1))], [aR (some (40, 0, 0)), aL (jZ 0), aL (jZ x1)], am_hp σ, t)) rfl rfl ?_
  refine w_get rfl (hp_40 _ 0) rfl rfl ?_
  refine w_psh rfl zc_0 rfl ?_
  refine w_ial rfl (hp_42 _ 0 0) (by decide) rfl rfl ?_
  refine w_e (c' := (9, [some (aR (some (40, 0, 0))), some (aI (iZ x1))], [aI (iZ (σ.1 (42, 0, 0) 0)), aL (jZ 0), aL (jZ x1)], am_hp σ, t)) rfl ?_
  refine w_psh rfl zc_1 rfl ?_
  refine w_isub rfl rfl ?_
  refine w_i2l rfl rfl h2 ?_
  refine w_c0 (c' := (15, [some (aR (some (40, 0, 0))), some (aI (iZ x1))], [aI (iZ r1)], am_hp σ1, t)) rfl rfl rfl rfl c3 (Nat.le_refl _) rfl ?_
  exact w_ret rfl (frt_b h4) q5

theorem e_X12_isRow {x1 : Int} {h : AH} {t : KT} {d : Nat} {P : RS → Prop} (w : Wp k_X12_isRow d (0, [some (aR (some (40, 0, 0))), some (aI (iZ x1))], [], h, t) P) : ∃ r, Ca (d + 1) 217 [aR (some (40, 0, 0)), aI (iZ x1)] h t r ∧ P r := ca_W rfl rfl rfl rfl w

theorem b_X12_isNumber_0 {x1 : Int} {x2 : Int} {r1 : Int} {σ σ1 : SG} {t : KT} (c1 : Ca d 217 [aR (some (40, 0, 0)), aI (iZ x1)] (am_hp σ) t (.inl (some (aI (iZ r1))), am_hp σ1, t)) (h2 : -2147483648 ≤ r1 ∧ r1 < 2147483648) (w3 : r1 = 0 → Wp k_X12_isNumber d (29, [some (aR (some (40, 0, 0))), some (aI (iZ x1)), some (aI (iZ x2))], [], am_hp σ1, t) Q) (w4 : r1 ≠ 0 → Wp k_X12_isNumber d (8, [some (aR (some (40, 0, 0))), some (aI (iZ x1)), some (aI (iZ x2))], [], am_hp σ1, t) Q) : Wp k_X12_isNumber d (0, [some (aR (some (40, 0, 0))), some (aI (iZ x1)), some (aI (iZ x2))], [], am_hp σ, t) Q := by
  refine w_s (c' := (1, [some (aR (some (40, 0, 0))), some (aI (iZ x1)), some (aI (iZ x2))], [aR (some (40, 0, 0))], am_hp σ, t)) rfl rfl ?_
  refine w_s (c' := (2, [some (aR (some (40, 0, 0))), some (aI (iZ x1)), some (aI (iZ x2))], [aI (iZ x1), aR (some (40, 0, 0))], am_hp σ, t)) rfl rfl ?_
  refine w_c0 (c' := (5, [some (aR (some (40, 0, 0))), some (aI (iZ x1)), some (aI (iZ x2))], [aI (iZ r1)], am_hp σ1, t)) rfl rfl (rcv_of (hp_40 _ 0)) rfl c1 (Nat.le_refl _) rfl ?_
  exact w_ifeq rfl h2 rfl w3 w4

theorem e_X12_isNumber {x1 : Int} {x2 : Int} {h : AH} {t : KT} {d : Nat} {P : RS → Prop} (w : Wp k_X12_isNumber d (0, [some (aR (some (40, 0, 0))), some (aI (iZ x1)), some (aI (iZ x2))], [], h, t) P) : ∃ r, Ca (d + 1) 218 [aR (some (40, 0, 0)), aI (iZ x1), aI (iZ x2)] h t r ∧ P r := ca_W rfl rfl rfl rfl w

theorem b_X12_isNumber_8 {x1 : Int} {x2 : Int} {r1 : Int} {r2 : Int} {σ σ1 σ2 : SG} {t : KT} (h1 : -2147483648 ≤ x2 ∧ x2 < 2147483648) (c2 : Ca d 214 [aR (some (40, 0, 0)), aI (iZ x1)] (am_hp σ) t (.inl (some (aI (iZ r1))), am_hp σ1, t)) (h3 : -2147483648 ≤ r1 - 1 ∧ r1 - 1 < 2147483648) (c4 : Ca d 175 [aL (jZ x2), aL (jZ 0), aL (jZ (r1 - 1))] (am_hp σ1) t (.inl (some (aI (iZ r2))), am_hp σ2, t)) (h5 : -2147483648 ≤ r2 ∧ r2 < 2147483648) (w6 : r2 = 0 → Wp k_X12_isNumber d (29, [some (aR (some (40, 0, 0))), some (aI (iZ x1)), some (aI (iZ x2))], [], am_hp σ2, t) Q) (w7 : r2 ≠ 0 → Wp k_X12_isNumber d (25, [some (aR (some (40, 0, 0))), some (aI (iZ x1)), some (aI (iZ x2))], [], am_hp σ2, t) Q) : Wp k_X12_isNumber d (8, [some (aR (some (40, 0, 0))), some (aI (iZ x1)), some (aI (iZ x2))], [], am_hp σ, t) Q := by
  refine w_s (c' := (9, [some (aR (some (40, 0, 0))), some (aI (iZ x1)), some (aI (iZ x2))], [aI (iZ x2)], am_hp σ, t)) rfl rfl ?_
  refine w_i2l rfl rfl h1 ?_
  refine w_psL rfl yc_0 rfl ?_
  refine w_s (c' := (12, [some (aR (some (40, 0, 0))), some (aI (iZ x1)), some (aI (iZ x2))], [aR (some (40, 0, 0)), aL (jZ 0), aL (jZ x2)], am_hp σ, t)) rfl rfl ?_
  refine w_s (c' := (13, [some (aR (some (40, 0, 0))), some (aI (iZ x1)), some (aI (iZ x2))], [aI (iZ x1), aR (some (40, 0, 0)), aL (jZ 0), aL (jZ x2)], am_hp σ, t)) rfl rfl ?_
  refine w_c0 (c' := (16, [some (aR (some (40, 0, 0))), some (aI (iZ x1)), some (aI (iZ x2))], [aI (iZ r1), aL (jZ 0), aL (jZ x2)], am_hp σ1, t)) rfl rfl (rcv_of (hp_40 _ 0)) rfl c2 (Nat.le_refl _) rfl ?_
  refine w_psh rfl zc_1 rfl ?_
  refine w_isub rfl rfl ?_
  refine w_i2l rfl rfl h3 ?_
  refine w_c0 (c' := (22, [some (aR (some (40, 0, 0))), some (aI (iZ x1)), some (aI (iZ x2))], [aI (iZ r2)], am_hp σ2, t)) rfl rfl rfl rfl c4 (Nat.le_refl _) rfl ?_
  exact w_ifeq rfl h5 rfl w6 w7

theorem b_X12_isNumber_25 {x1 : Int} {x2 : Int} {σ : SG} {t : KT} (w1 : Wp k_X12_isNumber d (30, [some (aR (some (40, 0, 0))), some (aI (iZ x1)), some (aI (iZ x2))], [aI (iZ 1)], am_hp σ, t) Q) : Wp k_X12_isNumber d (25, [some (aR (some (40, 0, 0))), some (aI (iZ x1)), some (aI (iZ x2))], [], am_hp σ, t) Q := by
  refine w_psh rfl zc_1 rfl ?_
  refine w_s (c' := (30, [some (aR (some (40, 0, 0))), some (aI (iZ x1)), some (aI (iZ x2))], [aI (iZ 1)], am_hp σ, t)) rfl rfl ?_
  exact w1

theorem b_X12_isNumber_29 {x1 : Int} {x2 : Int} {σ : SG} {t : KT} (w1 : Wp k_X12_isNumber d (30, [some (aR (some (40, 0, 0))), some (aI (iZ x1)), some (aI (iZ x2))], [aI (iZ 0)], am_hp σ, t) Q) : Wp k_X12_isNumber d (29, [some (aR (some (40, 0, 0))), some (aI (iZ x1)), some (aI (iZ x2))], [], am_hp σ, t) Q := by
  refine w_psh rfl zc_0 rfl ?_
  exact w1

theorem b_X12_isNumber_30 {x1 : Int} {x2 : Int} {xs0 : Int} {σ : SG} {t : KT} (h1 : xs0 = 0 ∨ xs0 = 1) (q2 : Q (.inl (some (aI (iZ xs0))), am_hp σ, t)) : Wp k_X12_isNumber d (30, [some (aR (some (40, 0, 0))), some (aI (iZ x1)), some (aI (iZ x2))], [aI (iZ xs0)], am_hp σ, t) Q := by
  exact w_ret rfl (frt_b h1) q2

theorem b_X12_isValue_0 {x0 : Int} {r1 : Int} {σ σ1 : SG} {t : KT} (h1 : -2147483648 ≤ x0 ∧ x0 < 2147483648) (c2 : Ca d 175 [aL (jZ x0), aL (jZ 0), aL (jZ 268435455)] (am_hp σ) t (.inl (some (aI (iZ r1))), am_hp σ1, t)) (h3 : r1 = 0 ∨ r1 = 1) (q4 : Q (.inl (some (aI (iZ r1))), am_hp σ1, t)) : Wp k_X12_isValue d (0, [some (aI (iZ x0))], [], am_hp σ, t) Q := by
  refine w_s (c' := (1, [some (aI (iZ x0))], [aI (iZ x0)], am_hp σ, t)) rfl rfl ?_
  refine w_i2l rfl rfl h1 ?_
  refine w_psL rfl yc_0 rfl ?_
  refine w_psL rfl yc_268435455 rfl ?_
  refine w_c0 (c' := (9, [some (aI (iZ x0))], [aI (iZ r1)], am_hp σ1, t)) rfl rfl rfl rfl c2 (Nat.le_refl _) rfl ?_
  exact w_ret rfl (frt_b h3) q4

theorem e_X12_isValue {x0 : Int} {h : AH} {t : KT} {d : Nat} {P : RS → Prop} (w : Wp k_X12_isValue d (0, [some (aI (iZ x0))], [], h, t) P) : ∃ r, Ca (d + 1) 219 [aI (iZ x0)] h t r ∧ P r := ca_W rfl rfl rfl rfl w

theorem b_X12_nameOf_0 {x1 : Int} {r1 : Int} {r2 : Int} {σ σ1 σ2 : SG} {t : KT} (c1 : Ca d 213 [aI (iZ x1)] (am_hp σ) t (.inl (some (aI (iZ r1))), am_hp σ1, t)) (h2 : 0 ≤ r1 + 0 ∧ r1 + 0 < 264) (h3 : -2147483648 ≤ σ1.1 (42, 0, 0) (r1 + 0).toNat ∧ σ1.1 (42, 0, 0) (r1 + 0).toNat < 2147483648) (c4 : Ca d 213 [aI (iZ x1)] (am_hp σ1) t (.inl (some (aI (iZ r2))), am_hp σ2, t)) (h5 : 0 ≤ r2 + 1 ∧ r2 + 1 < 264) (h6 : -2147483648 ≤ σ2.1 (42, 0, 0) (r2 + 1).toNat ∧ σ2.1 (42, 0, 0) (r2 + 1).toNat < 2147483648) (q7 : Q (.inl (some (aL (jZ (yor (yshl (σ1.1 (42, 0, 0) (r1 + 0).toNat) 20) (σ2.1 (42, 0, 0) (r2 + 1).toNat))))), am_hp σ2, t)) : Wp k_X12_nameOf d (0, [some (aR (some (40, 0, 0))), some (aI (iZ x1))], [], am_hp σ, t) Q := by
  refine w_s (c' := (1, [some (aR (some (40, 0, 0))), some (aI (iZ x1))], [aR (some (40, 0, 0))], am_hp σ, t)) rfl rfl ?_
  refine w_get rfl (hp_40 _ 0) rfl rfl ?_
  refine w_s (c' := (5, [some (aR (some (40, 0, 0))), some (aI (iZ x1))], [aI (iZ x1), aR (some (42, 0, 0))], am_hp σ, t)) rfl rfl ?_
  refine w_c0 (c' := (8, [some (aR (some (40, 0, 0))), some (aI (iZ x1))], [aI (iZ r1), aR (some (42, 0, 0))], am_hp σ1, t)) rfl rfl rfl rfl c1 (Nat.le_refl _) rfl ?_
  refine w_psh rfl zc_0 rfl ?_
  refine w_iadd rfl rfl ?_
  refine w_ial rfl (hp_42 _ 0 0) h2 rfl rfl ?_
  refine w_i2l rfl rfl h3 ?_
  refine w_psh rfl zc_20 rfl ?_
  refine w_lshl rfl rfl ?_
  refine w_s (c' := (16, [some (aR (some (40, 0, 0))), some (aI (iZ x1))], [aR (some (40, 0, 0)), aL (jZ (yshl (σ1.1 (42, 0, 0) (r1 + 0).toNat) 20))], am_hp σ1, t)) rfl rfl ?_
  refine w_get rfl (hp_40 _ 0) rfl rfl ?_
  refine w_s (c' := (20, [some (aR (some (40, 0, 0))), some (aI (iZ x1))], [aI (iZ x1), aR (some (42, 0, 0)), aL (jZ (yshl (σ1.1 (42, 0, 0) (r1 + 0).toNat) 20))], am_hp σ1, t)) rfl rfl ?_
  refine w_c0 (c' := (23, [some (aR (some (40, 0, 0))), some (aI (iZ x1))], [aI (iZ r2), aR (some (42, 0, 0)), aL (jZ (yshl (σ1.1 (42, 0, 0) (r1 + 0).toNat) 20))], am_hp σ2, t)) rfl rfl rfl rfl c4 (Nat.le_refl _) rfl ?_
  refine w_psh rfl zc_1 rfl ?_
  refine w_iadd rfl rfl ?_
  refine w_ial rfl (hp_42 _ 0 0) h5 rfl rfl ?_
  refine w_i2l rfl rfl h6 ?_
  refine w_lor rfl rfl ?_
  exact w_ret rfl rfl q7

theorem e_X12_nameOf {x1 : Int} {h : AH} {t : KT} {d : Nat} {P : RS → Prop} (w : Wp k_X12_nameOf d (0, [some (aR (some (40, 0, 0))), some (aI (iZ x1))], [], h, t) P) : ∃ r, Ca (d + 1) 220 [aR (some (40, 0, 0)), aI (iZ x1)] h t r ∧ P r := ca_W rfl rfl rfl rfl w

theorem b_X12_rowNamed_0 {y1 : Int} {σ : SG} {t : KT} (w1 : Wp k_X12_rowNamed d (2, [some (aR (some (40, 0, 0))), some (aL (jZ y1)), none, some (aI (iZ 0))], [], am_hp σ, t) Q) : Wp k_X12_rowNamed d (0, [some (aR (some (40, 0, 0))), some (aL (jZ y1)), none, none], [], am_hp σ, t) Q := by
  refine w_psh rfl zc_0 rfl ?_
  refine w_s (c' := (2, [some (aR (some (40, 0, 0))), some (aL (jZ y1)), none, some (aI (iZ 0))], [], am_hp σ, t)) rfl rfl ?_
  exact w1

theorem e_X12_rowNamed {y1 : Int} {h : AH} {t : KT} {d : Nat} {P : RS → Prop} (w : Wp k_X12_rowNamed d (0, [some (aR (some (40, 0, 0))), some (aL (jZ y1)), none, none], [], h, t) P) : ∃ r, Ca (d + 1) 221 [aR (some (40, 0, 0)), aL (jZ y1)] h t r ∧ P r := ca_W rfl rfl rfl rfl w

theorem b_X12_rowNamed_2 {y1 : Int} {x3 : Int} {σ : SG} {t : KT} (h1 : -2147483648 ≤ x3 ∧ x3 < 2147483648) (h2 : -2147483648 ≤ σ.1 (42, 0, 0) 0 ∧ σ.1 (42, 0, 0) 0 < 2147483648) (w3 : σ.1 (42, 0, 0) 0 ≤ x3 → Wp k_X12_rowNamed d (30, [some (aR (some (40, 0, 0))), some (aL (jZ y1)), none, some (aI (iZ x3))], [], am_hp σ, t) Q) (w4 : x3 < σ.1 (42, 0, 0) 0 → Wp k_X12_rowNamed d (12, [some (aR (some (40, 0, 0))), some (aL (jZ y1)), none, some (aI (iZ x3))], [], am_hp σ, t) Q) : Wp k_X12_rowNamed d (2, [some (aR (some (40, 0, 0))), some (aL (jZ y1)), none, some (aI (iZ x3))], [], am_hp σ, t) Q := by
  refine w_s (c' := (3, [some (aR (some (40, 0, 0))), some (aL (jZ y1)), none, some (aI (iZ x3))], [aI (iZ x3)], am_hp σ, t)) rfl rfl ?_
  refine w_s (c' := (4, [some (aR (some (40, 0, 0))), some (aL (jZ y1)), none, some (aI (iZ x3))], [aR (some (40, 0, 0)), aI (iZ x3)], am_hp σ, t)) rfl rfl ?_
  refine w_get rfl (hp_40 _ 0) rfl rfl ?_
  refine w_psh rfl zc_0 rfl ?_
  refine w_ial rfl (hp_42 _ 0 0) (by decide) rfl rfl ?_
  refine w_e (c' := (9, [some (aR (some (40, 0, 0))), some (aL (jZ y1)), none, some (aI (iZ x3))], [aI (iZ (σ.1 (42, 0, 0) 0)), aI (iZ x3)], am_hp σ, t)) rfl ?_
  exact w_icge rfl h1 h2 rfl w3 w4

theorem b_X12_rowNamed_12 {y1 : Int} {x3 : Int} {r1 : Int} {σ σ1 : SG} {t : KT} (c1 : Ca d 220 [aR (some (40, 0, 0)), aI (iZ x3)] (am_hp σ) t (.inl (some (aL (jZ r1))), am_hp σ1, t)) (h2 : -2147483648 ≤ ycmp r1 y1 ∧ ycmp r1 y1 < 2147483648) (w3 : ycmp r1 y1 ≠ 0 → Wp k_X12_rowNamed d (24, [some (aR (some (40, 0, 0))), some (aL (jZ y1)), none, some (aI (iZ x3))], [], am_hp σ1, t) Q) (w4 : ycmp r1 y1 = 0 → Wp k_X12_rowNamed d (22, [some (aR (some (40, 0, 0))), some (aL (jZ y1)), none, some (aI (iZ x3))], [], am_hp σ1, t) Q) : Wp k_X12_rowNamed d (12, [some (aR (some (40, 0, 0))), some (aL (jZ y1)), none, some (aI (iZ x3))], [], am_hp σ, t) Q := by
  refine w_s (c' := (13, [some (aR (some (40, 0, 0))), some (aL (jZ y1)), none, some (aI (iZ x3))], [aR (some (40, 0, 0))], am_hp σ, t)) rfl rfl ?_
  refine w_s (c' := (14, [some (aR (some (40, 0, 0))), some (aL (jZ y1)), none, some (aI (iZ x3))], [aI (iZ x3), aR (some (40, 0, 0))], am_hp σ, t)) rfl rfl ?_
  refine w_c0 (c' := (17, [some (aR (some (40, 0, 0))), some (aL (jZ y1)), none, some (aI (iZ x3))], [aL (jZ r1)], am_hp σ1, t)) rfl rfl (rcv_of (hp_40 _ 0)) rfl c1 (Nat.le_refl _) rfl ?_
  refine w_s (c' := (18, [some (aR (some (40, 0, 0))), some (aL (jZ y1)), none, some (aI (iZ x3))], [aL (jZ y1), aL (jZ r1)], am_hp σ1, t)) rfl rfl ?_
  refine w_lcmp rfl rfl ?_
  exact w_ifne rfl h2 rfl w3 w4

theorem b_X12_rowNamed_22 {y1 : Int} {x3 : Int} {σ : SG} {t : KT} (q1 : Q (.inl (some (aI (iZ x3))), am_hp σ, t)) : Wp k_X12_rowNamed d (22, [some (aR (some (40, 0, 0))), some (aL (jZ y1)), none, some (aI (iZ x3))], [], am_hp σ, t) Q := by
  refine w_s (c' := (23, [some (aR (some (40, 0, 0))), some (aL (jZ y1)), none, some (aI (iZ x3))], [aI (iZ x3)], am_hp σ, t)) rfl rfl ?_
  exact w_ret rfl rfl q1

theorem b_X12_rowNamed_24 {y1 : Int} {x3 : Int} {σ : SG} {t : KT} (w1 : Wp k_X12_rowNamed d (2, [some (aR (some (40, 0, 0))), some (aL (jZ y1)), none, some (aI (iZ (x3 + 1)))], [], am_hp σ, t) Q) : Wp k_X12_rowNamed d (24, [some (aR (some (40, 0, 0))), some (aL (jZ y1)), none, some (aI (iZ x3))], [], am_hp σ, t) Q := by
  refine w_inc (a := x3) (ls' := [some (aR (some (40, 0, 0))), some (aL (jZ y1)), none, some (aI (iZ (x3 + 1)))]) rfl rfl rfl zc_1 rfl rfl ?_
  refine w_s (c' := (2, [some (aR (some (40, 0, 0))), some (aL (jZ y1)), none, some (aI (iZ (x3 + 1)))], [], am_hp σ, t)) rfl rfl ?_
  exact w1

theorem b_X12_rowNamed_30 {y1 : Int} {x3 : Int} {σ : SG} {t : KT} (q1 : Q (.inl (some (aI (iZ (-1)))), am_hp σ, t)) : Wp k_X12_rowNamed d (30, [some (aR (some (40, 0, 0))), some (aL (jZ y1)), none, some (aI (iZ x3))], [], am_hp σ, t) Q := by
  refine w_psh rfl zc_m1 rfl ?_
  exact w_ret rfl rfl q1

theorem b_X12_addsRow_0 {y1 : Int} {σ : SG} {t : KT} (w1 : Wp k_X12_addsRow d (20, [some (aR (some (40, 0, 0))), some (aL (jZ y1)), none, some (aI (iZ (σ.1 (42, 0, 0) 0))), some (aI (iZ 0))], [], am_hp ((sI σ (42, 0, 0) (up (σ.1 (42, 0, 0)) (0 : Int).toNat ((σ.1 (42, 0, 0) 0) + 1)))), t) Q) : Wp k_X12_addsRow d (0, [some (aR (some (40, 0, 0))), some (aL (jZ y1)), none, none, none], [], am_hp σ, t) Q := by
  refine w_s (c' := (1, [some (aR (some (40, 0, 0))), some (aL (jZ y1)), none, none, none], [aR (some (40, 0, 0))], am_hp σ, t)) rfl rfl ?_
  refine w_get rfl (hp_40 _ 0) rfl rfl ?_
  refine w_psh rfl zc_0 rfl ?_
  refine w_ial rfl (hp_42 _ 0 0) (by decide) rfl rfl ?_
  refine w_e (c' := (6, [some (aR (some (40, 0, 0))), some (aL (jZ y1)), none, none, none], [aI (iZ (σ.1 (42, 0, 0) 0))], am_hp σ, t)) rfl ?_
  refine w_s (c' := (7, [some (aR (some (40, 0, 0))), some (aL (jZ y1)), none, some (aI (iZ (σ.1 (42, 0, 0) 0))), none], [], am_hp σ, t)) rfl rfl ?_
  refine w_s (c' := (8, [some (aR (some (40, 0, 0))), some (aL (jZ y1)), none, some (aI (iZ (σ.1 (42, 0, 0) 0))), none], [aR (some (40, 0, 0))], am_hp σ, t)) rfl rfl ?_
  refine w_get rfl (hp_40 _ 0) rfl rfl ?_
  refine w_psh rfl zc_0 rfl ?_
  refine w_s (c' := (13, [some (aR (some (40, 0, 0))), some (aL (jZ y1)), none, some (aI (iZ (σ.1 (42, 0, 0) 0))), none], [aI (iZ 0), aR (some (42, 0, 0)), aI (iZ 0), aR (some (42, 0, 0))], am_hp σ, t)) rfl rfl ?_
  refine w_ial rfl (hp_42 _ 0 0) (by decide) rfl rfl ?_
  refine w_e (c' := (14, [some (aR (some (40, 0, 0))), some (aL (jZ y1)), none, some (aI (iZ (σ.1 (42, 0, 0) 0))), none], [aI (iZ (σ.1 (42, 0, 0) 0)), aI (iZ 0), aR (some (42, 0, 0))], am_hp σ, t)) rfl ?_
  refine w_psh rfl zc_1 rfl ?_
  refine w_iadd rfl rfl ?_
  refine w_ias rfl (mk_42 _ 0 0) (by decide) rfl rfl rfl ?_
  refine w_psh rfl zc_0 rfl ?_
  refine w_s (c' := (20, [some (aR (some (40, 0, 0))), some (aL (jZ y1)), none, some (aI (iZ (σ.1 (42, 0, 0) 0))), some (aI (iZ 0))], [], am_hp ((sI σ (42, 0, 0) (up (σ.1 (42, 0, 0)) (0 : Int).toNat ((σ.1 (42, 0, 0) 0) + 1)))), t)) rfl rfl ?_
  exact w1

theorem e_X12_addsRow {y1 : Int} {h : AH} {t : KT} {d : Nat} {P : RS → Prop} (w : Wp k_X12_addsRow d (0, [some (aR (some (40, 0, 0))), some (aL (jZ y1)), none, none, none], [], h, t) P) : ∃ r, Ca (d + 1) 222 [aR (some (40, 0, 0)), aL (jZ y1)] h t r ∧ P r := ca_W rfl rfl rfl rfl w

theorem b_X12_addsRow_20 {y1 : Int} {x3 : Int} {x4 : Int} {σ : SG} {t : KT} (h1 : -2147483648 ≤ x4 ∧ x4 < 2147483648) (w2 : 63 ≤ x4 → Wp k_X12_addsRow d (46, [some (aR (some (40, 0, 0))), some (aL (jZ y1)), none, some (aI (iZ x3)), some (aI (iZ x4))], [], am_hp σ, t) Q) (w3 : x4 < 63 → Wp k_X12_addsRow d (27, [some (aR (some (40, 0, 0))), some (aL (jZ y1)), none, some (aI (iZ x3)), some (aI (iZ x4))], [], am_hp σ, t) Q) : Wp k_X12_addsRow d (20, [some (aR (some (40, 0, 0))), some (aL (jZ y1)), none, some (aI (iZ x3)), some (aI (iZ x4))], [], am_hp σ, t) Q := by
  refine w_s (c' := (22, [some (aR (some (40, 0, 0))), some (aL (jZ y1)), none, some (aI (iZ x3)), some (aI (iZ x4))], [aI (iZ x4)], am_hp σ, t)) rfl rfl ?_
  refine w_psh rfl zc_63 rfl ?_
  exact w_icge rfl h1 (by decide) rfl w2 w3

theorem b_X12_addsRow_27 {y1 : Int} {x3 : Int} {x4 : Int} {r1 : Int} {σ σ1 : SG} {t : KT} (c1 : Ca d 213 [aI (iZ x3)] (am_hp σ) t (.inl (some (aI (iZ r1))), am_hp σ1, t)) (h2 : 0 ≤ r1 + x4 ∧ r1 + x4 < 264) (w3 : Wp k_X12_addsRow d (20, [some (aR (some (40, 0, 0))), some (aL (jZ y1)), none, some (aI (iZ x3)), some (aI (iZ (x4 + 1)))], [], am_hp ((sI σ1 (42, 0, 0) (up (σ1.1 (42, 0, 0)) (r1 + x4).toNat 0))), t) Q) : Wp k_X12_addsRow d (27, [some (aR (some (40, 0, 0))), some (aL (jZ y1)), none, some (aI (iZ x3)), some (aI (iZ x4))], [], am_hp σ, t) Q := by
  refine w_s (c' := (28, [some (aR (some (40, 0, 0))), some (aL (jZ y1)), none, some (aI (iZ x3)), some (aI (iZ x4))], [aR (some (40, 0, 0))], am_hp σ, t)) rfl rfl ?_
  refine w_get rfl (hp_40 _ 0) rfl rfl ?_
  refine w_s (c' := (32, [some (aR (some (40, 0, 0))), some (aL (jZ y1)), none, some (aI (iZ x3)), some (aI (iZ x4))], [aI (iZ x3), aR (some (42, 0, 0))], am_hp σ, t)) rfl rfl ?_
  refine w_c0 (c' := (35, [some (aR (some (40, 0, 0))), some (aL (jZ y1)), none, some (aI (iZ x3)), some (aI (iZ x4))], [aI (iZ r1), aR (some (42, 0, 0))], am_hp σ1, t)) rfl rfl rfl rfl c1 (Nat.le_refl _) rfl ?_
  refine w_s (c' := (37, [some (aR (some (40, 0, 0))), some (aL (jZ y1)), none, some (aI (iZ x3)), some (aI (iZ x4))], [aI (iZ x4), aI (iZ r1), aR (some (42, 0, 0))], am_hp σ1, t)) rfl rfl ?_
  refine w_iadd rfl rfl ?_
  refine w_psh rfl zc_0 rfl ?_
  refine w_ias rfl (mk_42 _ 0 0) h2 rfl rfl rfl ?_
  refine w_inc (a := x4) (ls' := [some (aR (some (40, 0, 0))), some (aL (jZ y1)), none, some (aI (iZ x3)), some (aI (iZ (x4 + 1)))]) rfl rfl rfl zc_1 rfl rfl ?_
  refine w_s (c' := (20, [some (aR (some (40, 0, 0))), some (aL (jZ y1)), none, some (aI (iZ x3)), some (aI (iZ (x4 + 1)))], [], am_hp ((sI σ1 (42, 0, 0) (up (σ1.1 (42, 0, 0)) (r1 + x4).toNat 0))), t)) rfl rfl ?_
  exact w3

theorem b_X12_addsRow_46 {y1 : Int} {x3 : Int} {x4 : Int} {r1 : Int} {r2 : Int} {σ σ1 σ2 : SG} {t : KT} (c1 : Ca d 213 [aI (iZ x3)] (am_hp σ) t (.inl (some (aI (iZ r1))), am_hp σ1, t)) (h2 : 0 ≤ r1 + 0 ∧ r1 + 0 < 264) (c3 : Ca d 213 [aI (iZ x3)] (am_hp ((sI σ1 (42, 0, 0) (up (σ1.1 (42, 0, 0)) (r1 + 0).toNat (zl2i (yshr y1 20)))))) t (.inl (some (aI (iZ r2))), am_hp σ2, t)) (h4 : 0 ≤ r2 + 1 ∧ r2 + 1 < 264) (q5 : Q (.inl (some (aI (iZ x3))), am_hp ((sI σ2 (42, 0, 0) (up (σ2.1 (42, 0, 0)) (r2 + 1).toNat (zl2i (yand y1 1048575))))), t)) : Wp k_X12_addsRow d (46, [some (aR (some (40, 0, 0))), some (aL (jZ y1)), none, some (aI (iZ x3)), some (aI (iZ x4))], [], am_hp σ, t) Q := by
  refine w_s (c' := (47, [some (aR (some (40, 0, 0))), some (aL (jZ y1)), none, some (aI (iZ x3)), some (aI (iZ x4))], [aR (some (40, 0, 0))], am_hp σ, t)) rfl rfl ?_
  refine w_get rfl (hp_40 _ 0) rfl rfl ?_
  refine w_s (c' := (51, [some (aR (some (40, 0, 0))), some (aL (jZ y1)), none, some (aI (iZ x3)), some (aI (iZ x4))], [aI (iZ x3), aR (some (42, 0, 0))], am_hp σ, t)) rfl rfl ?_
  refine w_c0 (c' := (54, [some (aR (some (40, 0, 0))), some (aL (jZ y1)), none, some (aI (iZ x3)), some (aI (iZ x4))], [aI (iZ r1), aR (some (42, 0, 0))], am_hp σ1, t)) rfl rfl rfl rfl c1 (Nat.le_refl _) rfl ?_
  refine w_psh rfl zc_0 rfl ?_
  refine w_iadd rfl rfl ?_
  refine w_s (c' := (57, [some (aR (some (40, 0, 0))), some (aL (jZ y1)), none, some (aI (iZ x3)), some (aI (iZ x4))], [aL (jZ y1), aI (iZ (r1 + 0)), aR (some (42, 0, 0))], am_hp σ1, t)) rfl rfl ?_
  refine w_psh rfl zc_20 rfl ?_
  refine w_lshr rfl rfl ?_
  refine w_l2i rfl rfl ?_
  refine w_ias rfl (mk_42 _ 0 0) h2 rfl rfl rfl ?_
  refine w_s (c' := (63, [some (aR (some (40, 0, 0))), some (aL (jZ y1)), none, some (aI (iZ x3)), some (aI (iZ x4))], [aR (some (40, 0, 0))], am_hp ((sI σ1 (42, 0, 0) (up (σ1.1 (42, 0, 0)) (r1 + 0).toNat (zl2i (yshr y1 20))))), t)) rfl rfl ?_
  refine w_get rfl (hp_40 _ 0) rfl rfl ?_
  refine w_s (c' := (67, [some (aR (some (40, 0, 0))), some (aL (jZ y1)), none, some (aI (iZ x3)), some (aI (iZ x4))], [aI (iZ x3), aR (some (42, 0, 0))], am_hp ((sI σ1 (42, 0, 0) (up (σ1.1 (42, 0, 0)) (r1 + 0).toNat (zl2i (yshr y1 20))))), t)) rfl rfl ?_
  refine w_c0 (c' := (70, [some (aR (some (40, 0, 0))), some (aL (jZ y1)), none, some (aI (iZ x3)), some (aI (iZ x4))], [aI (iZ r2), aR (some (42, 0, 0))], am_hp σ2, t)) rfl rfl rfl rfl c3 (Nat.le_refl _) rfl ?_
  refine w_psh rfl zc_1 rfl ?_
  refine w_iadd rfl rfl ?_
  refine w_s (c' := (73, [some (aR (some (40, 0, 0))), some (aL (jZ y1)), none, some (aI (iZ x3)), some (aI (iZ x4))], [aL (jZ y1), aI (iZ (r2 + 1)), aR (some (42, 0, 0))], am_hp σ2, t)) rfl rfl ?_
  refine w_psL rfl yc_1048575 rfl ?_
  refine w_land rfl rfl ?_
  refine w_l2i rfl rfl ?_
  refine w_ias rfl (mk_42 _ 0 0) h4 rfl rfl rfl ?_
  refine w_s (c' := (80, [some (aR (some (40, 0, 0))), some (aL (jZ y1)), none, some (aI (iZ x3)), some (aI (iZ x4))], [aI (iZ x3)], am_hp ((sI σ2 (42, 0, 0) (up (σ2.1 (42, 0, 0)) (r2 + 1).toNat (zl2i (yand y1 1048575))))), t)) rfl rfl ?_
  exact w_ret rfl rfl q5

theorem b_X12_isWay_0 {x0 : Int} {r1 : Int} {σ σ1 : SG} {t : KT} (h1 : -2147483648 ≤ x0 ∧ x0 < 2147483648) (c2 : Ca d 175 [aL (jZ x0), aL (jZ 0), aL (jZ 8)] (am_hp σ) t (.inl (some (aI (iZ r1))), am_hp σ1, t)) (h3 : r1 = 0 ∨ r1 = 1) (q4 : Q (.inl (some (aI (iZ r1))), am_hp σ1, t)) : Wp k_X12_isWay d (0, [some (aI (iZ x0))], [], am_hp σ, t) Q := by
  refine w_s (c' := (1, [some (aI (iZ x0))], [aI (iZ x0)], am_hp σ, t)) rfl rfl ?_
  refine w_i2l rfl rfl h1 ?_
  refine w_psL rfl yc_0 rfl ?_
  refine w_psL rfl yc_8 rfl ?_
  refine w_c0 (c' := (9, [some (aI (iZ x0))], [aI (iZ r1)], am_hp σ1, t)) rfl rfl rfl rfl c2 (Nat.le_refl _) rfl ?_
  exact w_ret rfl (frt_b h3) q4

theorem e_X12_isWay {x0 : Int} {h : AH} {t : KT} {d : Nat} {P : RS → Prop} (w : Wp k_X12_isWay d (0, [some (aI (iZ x0))], [], h, t) P) : ∃ r, Ca (d + 1) 223 [aI (iZ x0)] h t r ∧ P r := ca_W rfl rfl rfl rfl w

theorem b_X12_bitsOf_0 {x0 : Int} {σ : SG} {t : KT} (w1 : Wp k_X12_bitsOf d (2, [some (aI (iZ x0)), some (aI (iZ 1))], [], am_hp σ, t) Q) : Wp k_X12_bitsOf d (0, [some (aI (iZ x0)), none], [], am_hp σ, t) Q := by
  refine w_psh rfl zc_1 rfl ?_
  refine w_s (c' := (2, [some (aI (iZ x0)), some (aI (iZ 1))], [], am_hp σ, t)) rfl rfl ?_
  exact w1

theorem e_X12_bitsOf {x0 : Int} {h : AH} {t : KT} {d : Nat} {P : RS → Prop} (w : Wp k_X12_bitsOf d (0, [some (aI (iZ x0)), none], [], h, t) P) : ∃ r, Ca (d + 1) 224 [aI (iZ x0)] h t r ∧ P r := ca_W rfl rfl rfl rfl w

theorem b_X12_bitsOf_2 {x0 : Int} {x1 : Int} {σ : SG} {t : KT} (h1 : -2147483648 ≤ zshr x0 x1 ∧ zshr x0 x1 < 2147483648) (w2 : zshr x0 x1 ≤ 0 → Wp k_X12_bitsOf d (14, [some (aI (iZ x0)), some (aI (iZ x1))], [], am_hp σ, t) Q) (w3 : 0 < zshr x0 x1 → Wp k_X12_bitsOf d (8, [some (aI (iZ x0)), some (aI (iZ x1))], [], am_hp σ, t) Q) : Wp k_X12_bitsOf d (2, [some (aI (iZ x0)), some (aI (iZ x1))], [], am_hp σ, t) Q := by
  refine w_s (c' := (3, [some (aI (iZ x0)), some (aI (iZ x1))], [aI (iZ x0)], am_hp σ, t)) rfl rfl ?_
  refine w_s (c' := (4, [some (aI (iZ x0)), some (aI (iZ x1))], [aI (iZ x1), aI (iZ x0)], am_hp σ, t)) rfl rfl ?_
  refine w_ishr rfl rfl ?_
  exact w_ifle rfl h1 rfl w2 w3

theorem b_X12_bitsOf_8 {x0 : Int} {x1 : Int} {σ : SG} {t : KT} (w1 : Wp k_X12_bitsOf d (2, [some (aI (iZ x0)), some (aI (iZ (x1 + 1)))], [], am_hp σ, t) Q) : Wp k_X12_bitsOf d (8, [some (aI (iZ x0)), some (aI (iZ x1))], [], am_hp σ, t) Q := by
  refine w_inc (a := x1) (ls' := [some (aI (iZ x0)), some (aI (iZ (x1 + 1)))]) rfl rfl rfl zc_1 rfl rfl ?_
  refine w_s (c' := (2, [some (aI (iZ x0)), some (aI (iZ (x1 + 1)))], [], am_hp σ, t)) rfl rfl ?_
  exact w1

theorem b_X12_bitsOf_14 {x0 : Int} {x1 : Int} {σ : SG} {t : KT} (q1 : Q (.inl (some (aI (iZ x1))), am_hp σ, t)) : Wp k_X12_bitsOf d (14, [some (aI (iZ x0)), some (aI (iZ x1))], [], am_hp σ, t) Q := by
  refine w_s (c' := (15, [some (aI (iZ x0)), some (aI (iZ x1))], [aI (iZ x1)], am_hp σ, t)) rfl rfl ?_
  exact w_ret rfl rfl q1

theorem b_X12_laysNumber_0 {x1 : Int} {r1 : Int} {σ σ1 : SG} {t : KT} (h1 : 0 ≤ σ.1 (40, 0, 0) 33 ∧ σ.1 (40, 0, 0) 33 < 120) (c2 : Ca d 224 [aI (iZ x1)] (am_hp ((sI σ (48, 0, 0) (up (σ.1 (48, 0, 0)) (σ.1 (40, 0, 0) 33).toNat x1)))) t (.inl (some (aI (iZ r1))), am_hp σ1, t)) (h3 : 0 ≤ ((sI σ (48, 0, 0) (up (σ.1 (48, 0, 0)) (σ.1 (40, 0, 0) 33).toNat x1))).1 (40, 0, 0) 33 ∧ ((sI σ (48, 0, 0) (up (σ.1 (48, 0, 0)) (σ.1 (40, 0, 0) 33).toNat x1))).1 (40, 0, 0) 33 < 120) (q4 : Q (.inl none, am_hp ((sI (sI σ1 (49, 0, 0) (up (σ1.1 (49, 0, 0)) (((sI σ (48, 0, 0) (up (σ.1 (48, 0, 0)) (σ.1 (40, 0, 0) 33).toNat x1))).1 (40, 0, 0) 33).toNat r1)) (40, 0, 0) (up (((sI σ1 (49, 0, 0) (up (σ1.1 (49, 0, 0)) (((sI σ (48, 0, 0) (up (σ.1 (48, 0, 0)) (σ.1 (40, 0, 0) 33).toNat x1))).1 (40, 0, 0) 33).toNat r1))).1 (40, 0, 0)) 33 ((((sI σ1 (49, 0, 0) (up (σ1.1 (49, 0, 0)) (((sI σ (48, 0, 0) (up (σ.1 (48, 0, 0)) (σ.1 (40, 0, 0) 33).toNat x1))).1 (40, 0, 0) 33).toNat r1))).1 (40, 0, 0) 33) + 1)))), t)) : Wp k_X12_laysNumber d (0, [some (aR (some (40, 0, 0))), some (aI (iZ x1))], [], am_hp σ, t) Q := by
  refine w_s (c' := (1, [some (aR (some (40, 0, 0))), some (aI (iZ x1))], [aR (some (40, 0, 0))], am_hp σ, t)) rfl rfl ?_
  refine w_get rfl (hp_40 _ 0) rfl rfl ?_
  refine w_s (c' := (5, [some (aR (some (40, 0, 0))), some (aI (iZ x1))], [aR (some (40, 0, 0)), aR (some (48, 0, 0))], am_hp σ, t)) rfl rfl ?_
  refine w_get rfl (hp_40 _ 0) rfl rfl ?_
  refine w_s (c' := (9, [some (aR (some (40, 0, 0))), some (aI (iZ x1))], [aI (iZ x1), aI (iZ (σ.1 (40, 0, 0) 33)), aR (some (48, 0, 0))], am_hp σ, t)) rfl rfl ?_
  refine w_ias rfl (mk_48 _ 0 0) h1 rfl rfl rfl ?_
  refine w_s (c' := (11, [some (aR (some (40, 0, 0))), some (aI (iZ x1))], [aR (some (40, 0, 0))], am_hp ((sI σ (48, 0, 0) (up (σ.1 (48, 0, 0)) (σ.1 (40, 0, 0) 33).toNat x1))), t)) rfl rfl ?_
  refine w_get rfl (hp_40 _ 0) rfl rfl ?_
  refine w_s (c' := (15, [some (aR (some (40, 0, 0))), some (aI (iZ x1))], [aR (some (40, 0, 0)), aR (some (49, 0, 0))], am_hp ((sI σ (48, 0, 0) (up (σ.1 (48, 0, 0)) (σ.1 (40, 0, 0) 33).toNat x1))), t)) rfl rfl ?_
  refine w_get rfl (hp_40 _ 0) rfl rfl ?_
  refine w_s (c' := (19, [some (aR (some (40, 0, 0))), some (aI (iZ x1))], [aI (iZ x1), aI (iZ (((sI σ (48, 0, 0) (up (σ.1 (48, 0, 0)) (σ.1 (40, 0, 0) 33).toNat x1))).1 (40, 0, 0) 33)), aR (some (49, 0, 0))], am_hp ((sI σ (48, 0, 0) (up (σ.1 (48, 0, 0)) (σ.1 (40, 0, 0) 33).toNat x1))), t)) rfl rfl ?_
  refine w_c0 (c' := (22, [some (aR (some (40, 0, 0))), some (aI (iZ x1))], [aI (iZ r1), aI (iZ (((sI σ (48, 0, 0) (up (σ.1 (48, 0, 0)) (σ.1 (40, 0, 0) 33).toNat x1))).1 (40, 0, 0) 33)), aR (some (49, 0, 0))], am_hp σ1, t)) rfl rfl rfl rfl c2 (Nat.le_refl _) rfl ?_
  refine w_ias rfl (mk_49 _ 0 0) h3 rfl rfl rfl ?_
  refine w_s (c' := (24, [some (aR (some (40, 0, 0))), some (aI (iZ x1))], [aR (some (40, 0, 0))], am_hp ((sI σ1 (49, 0, 0) (up (σ1.1 (49, 0, 0)) (((sI σ (48, 0, 0) (up (σ.1 (48, 0, 0)) (σ.1 (40, 0, 0) 33).toNat x1))).1 (40, 0, 0) 33).toNat r1))), t)) rfl rfl ?_
  refine w_s (c' := (25, [some (aR (some (40, 0, 0))), some (aI (iZ x1))], [aR (some (40, 0, 0)), aR (some (40, 0, 0))], am_hp ((sI σ1 (49, 0, 0) (up (σ1.1 (49, 0, 0)) (((sI σ (48, 0, 0) (up (σ.1 (48, 0, 0)) (σ.1 (40, 0, 0) 33).toNat x1))).1 (40, 0, 0) 33).toNat r1))), t)) rfl rfl ?_
  refine w_get rfl (hp_40 _ 0) rfl rfl ?_
  refine w_psh rfl zc_1 rfl ?_
  refine w_iadd rfl rfl ?_
  refine w_putI rfl (hp_40 _ 0) rfl rfl rfl ?_
  exact w_f rfl rfl q4

theorem e_X12_laysNumber {x1 : Int} {h : AH} {t : KT} {d : Nat} {P : RS → Prop} (w : Wp k_X12_laysNumber d (0, [some (aR (some (40, 0, 0))), some (aI (iZ x1))], [], h, t) P) : ∃ r, Ca (d + 1) 225 [aR (some (40, 0, 0)), aI (iZ x1)] h t r ∧ P r := ca_W rfl rfl rfl rfl w

theorem b_X12_laysMore_0 {x1 : Int} {σ : SG} {t : KT} (w1 : Wp k_X12_laysMore d (2, [some (aR (some (40, 0, 0))), some (aI (iZ x1)), some (aI (iZ 0))], [], am_hp σ, t) Q) : Wp k_X12_laysMore d (0, [some (aR (some (40, 0, 0))), some (aI (iZ x1)), none], [], am_hp σ, t) Q := by
  refine w_psh rfl zc_0 rfl ?_
  refine w_s (c' := (2, [some (aR (some (40, 0, 0))), some (aI (iZ x1)), some (aI (iZ 0))], [], am_hp σ, t)) rfl rfl ?_
  exact w1

theorem e_X12_laysMore {x1 : Int} {h : AH} {t : KT} {d : Nat} {P : RS → Prop} (w : Wp k_X12_laysMore d (0, [some (aR (some (40, 0, 0))), some (aI (iZ x1)), none], [], h, t) P) : ∃ r, Ca (d + 1) 226 [aR (some (40, 0, 0)), aI (iZ x1)] h t r ∧ P r := ca_W rfl rfl rfl rfl w

theorem b_X12_laysMore_2 {x1 : Int} {x2 : Int} {r1 : Int} {σ σ1 : SG} {t : KT} (c1 : Ca d 214 [aR (some (40, 0, 0)), aI (iZ x1)] (am_hp σ) t (.inl (some (aI (iZ r1))), am_hp σ1, t)) (h2 : -2147483648 ≤ x2 ∧ x2 < 2147483648) (h3 : -2147483648 ≤ r1 ∧ r1 < 2147483648) (w4 : r1 ≤ x2 → Wp k_X12_laysMore d (27, [some (aR (some (40, 0, 0))), some (aI (iZ x1)), some (aI (iZ x2))], [], am_hp σ1, t) Q) (w5 : x2 < r1 → Wp k_X12_laysMore d (11, [some (aR (some (40, 0, 0))), some (aI (iZ x1)), some (aI (iZ x2))], [], am_hp σ1, t) Q) : Wp k_X12_laysMore d (2, [some (aR (some (40, 0, 0))), some (aI (iZ x1)), some (aI (iZ x2))], [], am_hp σ, t) Q := by
  refine w_s (c' := (3, [some (aR (some (40, 0, 0))), some (aI (iZ x1)), some (aI (iZ x2))], [aI (iZ x2)], am_hp σ, t)) rfl rfl ?_
  refine w_s (c' := (4, [some (aR (some (40, 0, 0))), some (aI (iZ x1)), some (aI (iZ x2))], [aR (some (40, 0, 0)), aI (iZ x2)], am_hp σ, t)) rfl rfl ?_
  refine w_s (c' := (5, [some (aR (some (40, 0, 0))), some (aI (iZ x1)), some (aI (iZ x2))], [aI (iZ x1), aR (some (40, 0, 0)), aI (iZ x2)], am_hp σ, t)) rfl rfl ?_
  refine w_c0 (c' := (8, [some (aR (some (40, 0, 0))), some (aI (iZ x1)), some (aI (iZ x2))], [aI (iZ r1), aI (iZ x2)], am_hp σ1, t)) rfl rfl (rcv_of (hp_40 _ 0)) rfl c1 (Nat.le_refl _) rfl ?_
  exact w_icge rfl h2 h3 rfl w4 w5

theorem b_X12_laysMore_11 {x1 : Int} {x2 : Int} {r1 : Int} {σ σ1 σ2 : SG} {t : KT} (c1 : Ca d 215 [aR (some (40, 0, 0)), aI (iZ x1), aI (iZ x2)] (am_hp σ) t (.inl (some (aI (iZ r1))), am_hp σ1, t)) (c2 : Ca d 225 [aR (some (40, 0, 0)), aI (iZ r1)] (am_hp σ1) t (.inl none, am_hp σ2, t)) (w3 : Wp k_X12_laysMore d (2, [some (aR (some (40, 0, 0))), some (aI (iZ x1)), some (aI (iZ (x2 + 1)))], [], am_hp σ2, t) Q) : Wp k_X12_laysMore d (11, [some (aR (some (40, 0, 0))), some (aI (iZ x1)), some (aI (iZ x2))], [], am_hp σ, t) Q := by
  refine w_s (c' := (12, [some (aR (some (40, 0, 0))), some (aI (iZ x1)), some (aI (iZ x2))], [aR (some (40, 0, 0))], am_hp σ, t)) rfl rfl ?_
  refine w_s (c' := (13, [some (aR (some (40, 0, 0))), some (aI (iZ x1)), some (aI (iZ x2))], [aR (some (40, 0, 0)), aR (some (40, 0, 0))], am_hp σ, t)) rfl rfl ?_
  refine w_s (c' := (14, [some (aR (some (40, 0, 0))), some (aI (iZ x1)), some (aI (iZ x2))], [aI (iZ x1), aR (some (40, 0, 0)), aR (some (40, 0, 0))], am_hp σ, t)) rfl rfl ?_
  refine w_s (c' := (15, [some (aR (some (40, 0, 0))), some (aI (iZ x1)), some (aI (iZ x2))], [aI (iZ x2), aI (iZ x1), aR (some (40, 0, 0)), aR (some (40, 0, 0))], am_hp σ, t)) rfl rfl ?_
  refine w_c0 (c' := (18, [some (aR (some (40, 0, 0))), some (aI (iZ x1)), some (aI (iZ x2))], [aI (iZ r1), aR (some (40, 0, 0))], am_hp σ1, t)) rfl rfl (rcv_of (hp_40 _ 0)) rfl c1 (Nat.le_refl _) rfl ?_
  refine w_c0 (c' := (21, [some (aR (some (40, 0, 0))), some (aI (iZ x1)), some (aI (iZ x2))], [], am_hp σ2, t)) rfl rfl (rcv_of (hp_40 _ 0)) rfl c2 (Nat.le_refl _) rfl ?_
  refine w_inc (a := x2) (ls' := [some (aR (some (40, 0, 0))), some (aI (iZ x1)), some (aI (iZ (x2 + 1)))]) rfl rfl rfl zc_1 rfl rfl ?_
  refine w_s (c' := (2, [some (aR (some (40, 0, 0))), some (aI (iZ x1)), some (aI (iZ (x2 + 1)))], [], am_hp σ2, t)) rfl rfl ?_
  exact w3

theorem b_X12_laysMore_27 {x1 : Int} {x2 : Int} {σ : SG} {t : KT} (q1 : Q (.inl none, am_hp σ, t)) : Wp k_X12_laysMore d (27, [some (aR (some (40, 0, 0))), some (aI (iZ x1)), some (aI (iZ x2))], [], am_hp σ, t) Q := by
  exact w_f rfl rfl q1

theorem b_X12_lays_0 {x1 : Int} {σ σ1 : SG} {t : KT} (c1 : Ca d 226 [aR (some (40, 0, 0)), aI (iZ x1)] (am_hp ((sI σ (40, 0, 0) (up (σ.1 (40, 0, 0)) 33 0)))) t (.inl none, am_hp σ1, t)) (w2 : Wp k_X12_lays d (12, [some (aR (some (40, 0, 0))), some (aI (iZ x1)), some (aI (iZ 0))], [], am_hp σ1, t) Q) : Wp k_X12_lays d (0, [some (aR (some (40, 0, 0))), some (aI (iZ x1)), none], [], am_hp σ, t) Q := by
  refine w_s (c' := (1, [some (aR (some (40, 0, 0))), some (aI (iZ x1)), none], [aR (some (40, 0, 0))], am_hp σ, t)) rfl rfl ?_
  refine w_psh rfl zc_0 rfl ?_
  refine w_putI rfl (hp_40 _ 0) rfl rfl rfl ?_
  refine w_s (c' := (6, [some (aR (some (40, 0, 0))), some (aI (iZ x1)), none], [aR (some (40, 0, 0))], am_hp ((sI σ (40, 0, 0) (up (σ.1 (40, 0, 0)) 33 0))), t)) rfl rfl ?_
  refine w_s (c' := (7, [some (aR (some (40, 0, 0))), some (aI (iZ x1)), none], [aI (iZ x1), aR (some (40, 0, 0))], am_hp ((sI σ (40, 0, 0) (up (σ.1 (40, 0, 0)) 33 0))), t)) rfl rfl ?_
  refine w_c0 (c' := (10, [some (aR (some (40, 0, 0))), some (aI (iZ x1)), none], [], am_hp σ1, t)) rfl rfl (rcv_of (hp_40 _ 0)) rfl c1 (Nat.le_refl _) rfl ?_
  refine w_psh rfl zc_0 rfl ?_
  refine w_s (c' := (12, [some (aR (some (40, 0, 0))), some (aI (iZ x1)), some (aI (iZ 0))], [], am_hp σ1, t)) rfl rfl ?_
  exact w2

theorem e_X12_lays {x1 : Int} {h : AH} {t : KT} {d : Nat} {P : RS → Prop} (w : Wp k_X12_lays d (0, [some (aR (some (40, 0, 0))), some (aI (iZ x1)), none], [], h, t) P) : ∃ r, Ca (d + 1) 227 [aR (some (40, 0, 0)), aI (iZ x1)] h t r ∧ P r := ca_W rfl rfl rfl rfl w

theorem b_X12_lays_12 {x1 : Int} {x2 : Int} {σ : SG} {t : KT} (h1 : -2147483648 ≤ x2 ∧ x2 < 2147483648) (w2 : 9 ≤ x2 → Wp k_X12_lays d (38, [some (aR (some (40, 0, 0))), some (aI (iZ x1)), some (aI (iZ x2))], [], am_hp σ, t) Q) (w3 : x2 < 9 → Wp k_X12_lays d (18, [some (aR (some (40, 0, 0))), some (aI (iZ x1)), some (aI (iZ x2))], [], am_hp σ, t) Q) : Wp k_X12_lays d (12, [some (aR (some (40, 0, 0))), some (aI (iZ x1)), some (aI (iZ x2))], [], am_hp σ, t) Q := by
  refine w_s (c' := (13, [some (aR (some (40, 0, 0))), some (aI (iZ x1)), some (aI (iZ x2))], [aI (iZ x2)], am_hp σ, t)) rfl rfl ?_
  refine w_psh rfl zc_9 rfl ?_
  exact w_icge rfl h1 (by decide) rfl w2 w3

theorem b_X12_lays_18 {x1 : Int} {x2 : Int} {σ : SG} {t : KT} (h1 : 0 ≤ 3 + x2 ∧ 3 + x2 < 264) (h2 : 0 ≤ x2 ∧ x2 < 9) (w3 : Wp k_X12_lays d (12, [some (aR (some (40, 0, 0))), some (aI (iZ x1)), some (aI (iZ (x2 + 1)))], [], am_hp ((sI σ (50, 0, 0) (up (σ.1 (50, 0, 0)) x2.toNat (σ.1 (42, 0, 0) (3 + x2).toNat)))), t) Q) : Wp k_X12_lays d (18, [some (aR (some (40, 0, 0))), some (aI (iZ x1)), some (aI (iZ x2))], [], am_hp σ, t) Q := by
  refine w_s (c' := (19, [some (aR (some (40, 0, 0))), some (aI (iZ x1)), some (aI (iZ x2))], [aR (some (40, 0, 0))], am_hp σ, t)) rfl rfl ?_
  refine w_get rfl (hp_40 _ 0) rfl rfl ?_
  refine w_s (c' := (23, [some (aR (some (40, 0, 0))), some (aI (iZ x1)), some (aI (iZ x2))], [aI (iZ x2), aR (some (50, 0, 0))], am_hp σ, t)) rfl rfl ?_
  refine w_s (c' := (24, [some (aR (some (40, 0, 0))), some (aI (iZ x1)), some (aI (iZ x2))], [aR (some (40, 0, 0)), aI (iZ x2), aR (some (50, 0, 0))], am_hp σ, t)) rfl rfl ?_
  refine w_get rfl (hp_40 _ 0) rfl rfl ?_
  refine w_psh rfl zc_3 rfl ?_
  refine w_s (c' := (29, [some (aR (some (40, 0, 0))), some (aI (iZ x1)), some (aI (iZ x2))], [aI (iZ x2), aI (iZ 3), aR (some (42, 0, 0)), aI (iZ x2), aR (some (50, 0, 0))], am_hp σ, t)) rfl rfl ?_
  refine w_iadd rfl rfl ?_
  refine w_ial rfl (hp_42 _ 0 0) h1 rfl rfl ?_
  refine w_ias rfl (mk_50 _ 0 0) h2 rfl rfl rfl ?_
  refine w_inc (a := x2) (ls' := [some (aR (some (40, 0, 0))), some (aI (iZ x1)), some (aI (iZ (x2 + 1)))]) rfl rfl rfl zc_1 rfl rfl ?_
  refine w_s (c' := (12, [some (aR (some (40, 0, 0))), some (aI (iZ x1)), some (aI (iZ (x2 + 1)))], [], am_hp ((sI σ (50, 0, 0) (up (σ.1 (50, 0, 0)) x2.toNat (σ.1 (42, 0, 0) (3 + x2).toNat)))), t)) rfl rfl ?_
  exact w3

theorem b_X12_lays_38 {x1 : Int} {x2 : Int} {σ : SG} {t : KT} (q1 : Q (.inl none, am_hp σ, t)) : Wp k_X12_lays d (38, [some (aR (some (40, 0, 0))), some (aI (iZ x1)), some (aI (iZ x2))], [], am_hp σ, t) Q := by
  exact w_f rfl rfl q1

theorem b_X12_canTake_0 {x1 : Int} {x2 : Int} {σ : SG} {t : KT} (w1 : Wp k_X12_canTake d (2, [some (aR (some (40, 0, 0))), some (aI (iZ x1)), some (aI (iZ x2)), some (aI (iZ x1))], [], am_hp σ, t) Q) : Wp k_X12_canTake d (0, [some (aR (some (40, 0, 0))), some (aI (iZ x1)), some (aI (iZ x2)), none], [], am_hp σ, t) Q := by
  refine w_s (c' := (1, [some (aR (some (40, 0, 0))), some (aI (iZ x1)), some (aI (iZ x2)), none], [aI (iZ x1)], am_hp σ, t)) rfl rfl ?_
  refine w_s (c' := (2, [some (aR (some (40, 0, 0))), some (aI (iZ x1)), some (aI (iZ x2)), some (aI (iZ x1))], [], am_hp σ, t)) rfl rfl ?_
  exact w1

theorem e_X12_canTake {x1 : Int} {x2 : Int} {h : AH} {t : KT} {d : Nat} {P : RS → Prop} (w : Wp k_X12_canTake d (0, [some (aR (some (40, 0, 0))), some (aI (iZ x1)), some (aI (iZ x2)), none], [], h, t) P) : ∃ r, Ca (d + 1) 228 [aR (some (40, 0, 0)), aI (iZ x1), aI (iZ x2)] h t r ∧ P r := ca_W rfl rfl rfl rfl w

theorem b_X12_canTake_2 {x1 : Int} {x2 : Int} {x3 : Int} {σ : SG} {t : KT} (h1 : -2147483648 ≤ x3 ∧ x3 < 2147483648) (h2 : -2147483648 ≤ σ.1 (40, 0, 0) 33 ∧ σ.1 (40, 0, 0) 33 < 2147483648) (w3 : σ.1 (40, 0, 0) 33 ≤ x3 → Wp k_X12_canTake d (45, [some (aR (some (40, 0, 0))), some (aI (iZ x1)), some (aI (iZ x2)), some (aI (iZ x3))], [], am_hp σ, t) Q) (w4 : x3 < σ.1 (40, 0, 0) 33 → Wp k_X12_canTake d (10, [some (aR (some (40, 0, 0))), some (aI (iZ x1)), some (aI (iZ x2)), some (aI (iZ x3))], [], am_hp σ, t) Q) : Wp k_X12_canTake d (2, [some (aR (some (40, 0, 0))), some (aI (iZ x1)), some (aI (iZ x2)), some (aI (iZ x3))], [], am_hp σ, t) Q := by
  refine w_s (c' := (3, [some (aR (some (40, 0, 0))), some (aI (iZ x1)), some (aI (iZ x2)), some (aI (iZ x3))], [aI (iZ x3)], am_hp σ, t)) rfl rfl ?_
  refine w_s (c' := (4, [some (aR (some (40, 0, 0))), some (aI (iZ x1)), some (aI (iZ x2)), some (aI (iZ x3))], [aR (some (40, 0, 0)), aI (iZ x3)], am_hp σ, t)) rfl rfl ?_
  refine w_get rfl (hp_40 _ 0) rfl rfl ?_
  exact w_icge rfl h1 h2 rfl w3 w4

theorem b_X12_canTake_10 {x1 : Int} {x2 : Int} {x3 : Int} {σ : SG} {t : KT} (h1 : 0 ≤ x2 ∧ x2 < 9) (h2 : -2147483648 ≤ x3 ∧ x3 < 2147483648) (h3 : -2147483648 ≤ x1 + (σ.1 (46, 0, 0) x2.toNat) ∧ x1 + (σ.1 (46, 0, 0) x2.toNat) < 2147483648) (w4 : x1 + (σ.1 (46, 0, 0) x2.toNat) ≤ x3 → Wp k_X12_canTake d (45, [some (aR (some (40, 0, 0))), some (aI (iZ x1)), some (aI (iZ x2)), some (aI (iZ x3))], [], am_hp σ, t) Q) (w5 : x3 < x1 + (σ.1 (46, 0, 0) x2.toNat) → Wp k_X12_canTake d (22, [some (aR (some (40, 0, 0))), some (aI (iZ x1)), some (aI (iZ x2)), some (aI (iZ x3))], [], am_hp σ, t) Q) : Wp k_X12_canTake d (10, [some (aR (some (40, 0, 0))), some (aI (iZ x1)), some (aI (iZ x2)), some (aI (iZ x3))], [], am_hp σ, t) Q := by
  refine w_s (c' := (11, [some (aR (some (40, 0, 0))), some (aI (iZ x1)), some (aI (iZ x2)), some (aI (iZ x3))], [aI (iZ x3)], am_hp σ, t)) rfl rfl ?_
  refine w_s (c' := (12, [some (aR (some (40, 0, 0))), some (aI (iZ x1)), some (aI (iZ x2)), some (aI (iZ x3))], [aI (iZ x1), aI (iZ x3)], am_hp σ, t)) rfl rfl ?_
  refine w_s (c' := (13, [some (aR (some (40, 0, 0))), some (aI (iZ x1)), some (aI (iZ x2)), some (aI (iZ x3))], [aR (some (40, 0, 0)), aI (iZ x1), aI (iZ x3)], am_hp σ, t)) rfl rfl ?_
  refine w_get rfl (hp_40 _ 0) rfl rfl ?_
  refine w_s (c' := (17, [some (aR (some (40, 0, 0))), some (aI (iZ x1)), some (aI (iZ x2)), some (aI (iZ x3))], [aI (iZ x2), aR (some (46, 0, 0)), aI (iZ x1), aI (iZ x3)], am_hp σ, t)) rfl rfl ?_
  refine w_ial rfl (hp_46 _ 0 0) h1 rfl rfl ?_
  refine w_iadd rfl rfl ?_
  exact w_icge rfl h2 h3 rfl w4 w5

theorem b_X12_canTake_22 {x1 : Int} {x2 : Int} {x3 : Int} {σ : SG} {t : KT} (h1 : 0 ≤ x3 ∧ x3 < 120) (h2 : 0 ≤ x2 ∧ x2 < 9) (h3 : -2147483648 ≤ σ.1 (49, 0, 0) x3.toNat ∧ σ.1 (49, 0, 0) x3.toNat < 2147483648) (h4 : -2147483648 ≤ σ.1 (47, 0, 0) x2.toNat ∧ σ.1 (47, 0, 0) x2.toNat < 2147483648) (w5 : σ.1 (49, 0, 0) x3.toNat ≤ σ.1 (47, 0, 0) x2.toNat → Wp k_X12_canTake d (39, [some (aR (some (40, 0, 0))), some (aI (iZ x1)), some (aI (iZ x2)), some (aI (iZ x3))], [], am_hp σ, t) Q) (w6 : σ.1 (47, 0, 0) x2.toNat < σ.1 (49, 0, 0) x3.toNat → Wp k_X12_canTake d (37, [some (aR (some (40, 0, 0))), some (aI (iZ x1)), some (aI (iZ x2)), some (aI (iZ x3))], [], am_hp σ, t) Q) : Wp k_X12_canTake d (22, [some (aR (some (40, 0, 0))), some (aI (iZ x1)), some (aI (iZ x2)), some (aI (iZ x3))], [], am_hp σ, t) Q := by
  refine w_s (c' := (23, [some (aR (some (40, 0, 0))), some (aI (iZ x1)), some (aI (iZ x2)), some (aI (iZ x3))], [aR (some (40, 0, 0))], am_hp σ, t)) rfl rfl ?_
  refine w_get rfl (hp_40 _ 0) rfl rfl ?_
  refine w_s (c' := (27, [some (aR (some (40, 0, 0))), some (aI (iZ x1)), some (aI (iZ x2)), some (aI (iZ x3))], [aI (iZ x3), aR (some (49, 0, 0))], am_hp σ, t)) rfl rfl ?_
  refine w_ial rfl (hp_49 _ 0 0) h1 rfl rfl ?_
  refine w_s (c' := (29, [some (aR (some (40, 0, 0))), some (aI (iZ x1)), some (aI (iZ x2)), some (aI (iZ x3))], [aR (some (40, 0, 0)), aI (iZ (σ.1 (49, 0, 0) x3.toNat))], am_hp σ, t)) rfl rfl ?_
  refine w_get rfl (hp_40 _ 0) rfl rfl ?_
  refine w_s (c' := (33, [some (aR (some (40, 0, 0))), some (aI (iZ x1)), some (aI (iZ x2)), some (aI (iZ x3))], [aI (iZ x2), aR (some (47, 0, 0)), aI (iZ (σ.1 (49, 0, 0) x3.toNat))], am_hp σ, t)) rfl rfl ?_
  refine w_ial rfl (hp_47 _ 0 0) h2 rfl rfl ?_
  exact w_icle rfl h3 h4 rfl w5 w6

theorem b_X12_canTake_37 {x1 : Int} {x2 : Int} {x3 : Int} {σ : SG} {t : KT} (q1 : Q (.inl (some (aI (iZ 0))), am_hp σ, t)) : Wp k_X12_canTake d (37, [some (aR (some (40, 0, 0))), some (aI (iZ x1)), some (aI (iZ x2)), some (aI (iZ x3))], [], am_hp σ, t) Q := by
  refine w_psh rfl zc_0 rfl ?_
  exact w_ret rfl (frt_b (by decide)) q1

theorem b_X12_canTake_39 {x1 : Int} {x2 : Int} {x3 : Int} {σ : SG} {t : KT} (w1 : Wp k_X12_canTake d (2, [some (aR (some (40, 0, 0))), some (aI (iZ x1)), some (aI (iZ x2)), some (aI (iZ (x3 + 1)))], [], am_hp σ, t) Q) : Wp k_X12_canTake d (39, [some (aR (some (40, 0, 0))), some (aI (iZ x1)), some (aI (iZ x2)), some (aI (iZ x3))], [], am_hp σ, t) Q := by
  refine w_inc (a := x3) (ls' := [some (aR (some (40, 0, 0))), some (aI (iZ x1)), some (aI (iZ x2)), some (aI (iZ (x3 + 1)))]) rfl rfl rfl zc_1 rfl rfl ?_
  refine w_s (c' := (2, [some (aR (some (40, 0, 0))), some (aI (iZ x1)), some (aI (iZ x2)), some (aI (iZ (x3 + 1)))], [], am_hp σ, t)) rfl rfl ?_
  exact w1

theorem b_X12_canTake_45 {x1 : Int} {x2 : Int} {x3 : Int} {σ : SG} {t : KT} (q1 : Q (.inl (some (aI (iZ 1))), am_hp σ, t)) : Wp k_X12_canTake d (45, [some (aR (some (40, 0, 0))), some (aI (iZ x1)), some (aI (iZ x2)), some (aI (iZ x3))], [], am_hp σ, t) Q := by
  refine w_psh rfl zc_1 rfl ?_
  exact w_ret rfl (frt_b (by decide)) q1

theorem b_X12_behind_0 {x1 : Int} {x2 : Int} {σ : SG} {t : KT} (h1 : 0 ≤ x2 ∧ x2 < 9) (h2 : -2147483648 ≤ x1 + (σ.1 (46, 0, 0) x2.toNat) ∧ x1 + (σ.1 (46, 0, 0) x2.toNat) < 2147483648) (h3 : -2147483648 ≤ σ.1 (40, 0, 0) 33 ∧ σ.1 (40, 0, 0) 33 < 2147483648) (w4 : σ.1 (40, 0, 0) 33 ≤ x1 + (σ.1 (46, 0, 0) x2.toNat) → Wp k_X12_behind d (26, [some (aR (some (40, 0, 0))), some (aI (iZ x1)), some (aI (iZ x2))], [], am_hp σ, t) Q) (w5 : x1 + (σ.1 (46, 0, 0) x2.toNat) < σ.1 (40, 0, 0) 33 → Wp k_X12_behind d (15, [some (aR (some (40, 0, 0))), some (aI (iZ x1)), some (aI (iZ x2))], [], am_hp σ, t) Q) : Wp k_X12_behind d (0, [some (aR (some (40, 0, 0))), some (aI (iZ x1)), some (aI (iZ x2))], [], am_hp σ, t) Q := by
  refine w_s (c' := (1, [some (aR (some (40, 0, 0))), some (aI (iZ x1)), some (aI (iZ x2))], [aI (iZ x1)], am_hp σ, t)) rfl rfl ?_
  refine w_s (c' := (2, [some (aR (some (40, 0, 0))), some (aI (iZ x1)), some (aI (iZ x2))], [aR (some (40, 0, 0)), aI (iZ x1)], am_hp σ, t)) rfl rfl ?_
  refine w_get rfl (hp_40 _ 0) rfl rfl ?_
  refine w_s (c' := (6, [some (aR (some (40, 0, 0))), some (aI (iZ x1)), some (aI (iZ x2))], [aI (iZ x2), aR (some (46, 0, 0)), aI (iZ x1)], am_hp σ, t)) rfl rfl ?_
  refine w_ial rfl (hp_46 _ 0 0) h1 rfl rfl ?_
  refine w_iadd rfl rfl ?_
  refine w_s (c' := (9, [some (aR (some (40, 0, 0))), some (aI (iZ x1)), some (aI (iZ x2))], [aR (some (40, 0, 0)), aI (iZ (x1 + (σ.1 (46, 0, 0) x2.toNat)))], am_hp σ, t)) rfl rfl ?_
  refine w_get rfl (hp_40 _ 0) rfl rfl ?_
  exact w_icge rfl h2 h3 rfl w4 w5

theorem e_X12_behind {x1 : Int} {x2 : Int} {h : AH} {t : KT} {d : Nat} {P : RS → Prop} (w : Wp k_X12_behind d (0, [some (aR (some (40, 0, 0))), some (aI (iZ x1)), some (aI (iZ x2))], [], h, t) P) : ∃ r, Ca (d + 1) 229 [aR (some (40, 0, 0)), aI (iZ x1), aI (iZ x2)] h t r ∧ P r := ca_W rfl rfl rfl rfl w

theorem b_X12_behind_15 {x1 : Int} {x2 : Int} {σ : SG} {t : KT} (h1 : 0 ≤ x2 ∧ x2 < 9) (w2 : Wp k_X12_behind d (30, [some (aR (some (40, 0, 0))), some (aI (iZ x1)), some (aI (iZ x2))], [aI (iZ (x1 + (σ.1 (46, 0, 0) x2.toNat)))], am_hp σ, t) Q) : Wp k_X12_behind d (15, [some (aR (some (40, 0, 0))), some (aI (iZ x1)), some (aI (iZ x2))], [], am_hp σ, t) Q := by
  refine w_s (c' := (16, [some (aR (some (40, 0, 0))), some (aI (iZ x1)), some (aI (iZ x2))], [aI (iZ x1)], am_hp σ, t)) rfl rfl ?_
  refine w_s (c' := (17, [some (aR (some (40, 0, 0))), some (aI (iZ x1)), some (aI (iZ x2))], [aR (some (40, 0, 0)), aI (iZ x1)], am_hp σ, t)) rfl rfl ?_
  refine w_get rfl (hp_40 _ 0) rfl rfl ?_
  refine w_s (c' := (21, [some (aR (some (40, 0, 0))), some (aI (iZ x1)), some (aI (iZ x2))], [aI (iZ x2), aR (some (46, 0, 0)), aI (iZ x1)], am_hp σ, t)) rfl rfl ?_
  refine w_ial rfl (hp_46 _ 0 0) h1 rfl rfl ?_
  refine w_iadd rfl rfl ?_
  refine w_s (c' := (30, [some (aR (some (40, 0, 0))), some (aI (iZ x1)), some (aI (iZ x2))], [aI (iZ (x1 + (σ.1 (46, 0, 0) x2.toNat)))], am_hp σ, t)) rfl rfl ?_
  exact w2

theorem b_X12_behind_26 {x1 : Int} {x2 : Int} {σ : SG} {t : KT} (w1 : Wp k_X12_behind d (30, [some (aR (some (40, 0, 0))), some (aI (iZ x1)), some (aI (iZ x2))], [aI (iZ (σ.1 (40, 0, 0) 33))], am_hp σ, t) Q) : Wp k_X12_behind d (26, [some (aR (some (40, 0, 0))), some (aI (iZ x1)), some (aI (iZ x2))], [], am_hp σ, t) Q := by
  refine w_s (c' := (27, [some (aR (some (40, 0, 0))), some (aI (iZ x1)), some (aI (iZ x2))], [aR (some (40, 0, 0))], am_hp σ, t)) rfl rfl ?_
  refine w_get rfl (hp_40 _ 0) rfl rfl ?_
  exact w1

theorem b_X12_behind_30 {x1 : Int} {x2 : Int} {xs0 : Int} {σ : SG} {t : KT} (q1 : Q (.inl (some (aI (iZ xs0))), am_hp σ, t)) : Wp k_X12_behind d (30, [some (aR (some (40, 0, 0))), some (aI (iZ x1)), some (aI (iZ x2))], [aI (iZ xs0)], am_hp σ, t) Q := by
  exact w_ret rfl rfl q1

theorem b_X12_isLess_0 {x1 : Int} {x2 : Int} {x3 : Int} {x4 : Int} {σ : SG} {t : KT} (h1 : -2147483648 ≤ x4 ∧ x4 < 2147483648) (w2 : x4 = 0 → Wp k_X12_isLess d (26, [some (aR (some (40, 0, 0))), some (aI (iZ x1)), some (aI (iZ x2)), some (aI (iZ x3)), some (aI (iZ x4)), none, none], [], am_hp σ, t) Q) (w3 : x4 ≠ 0 → Wp k_X12_isLess d (5, [some (aR (some (40, 0, 0))), some (aI (iZ x1)), some (aI (iZ x2)), some (aI (iZ x3)), some (aI (iZ x4)), none, none], [], am_hp σ, t) Q) : Wp k_X12_isLess d (0, [some (aR (some (40, 0, 0))), some (aI (iZ x1)), some (aI (iZ x2)), some (aI (iZ x3)), some (aI (iZ x4)), none, none], [], am_hp σ, t) Q := by
  refine w_s (c' := (2, [some (aR (some (40, 0, 0))), some (aI (iZ x1)), some (aI (iZ x2)), some (aI (iZ x3)), some (aI (iZ x4)), none, none], [aI (iZ x4)], am_hp σ, t)) rfl rfl ?_
  exact w_ifeq rfl h1 rfl w2 w3

theorem e_X12_isLess {x1 : Int} {x2 : Int} {x3 : Int} {x4 : Int} {h : AH} {t : KT} {d : Nat} {P : RS → Prop} (w : Wp k_X12_isLess d (0, [some (aR (some (40, 0, 0))), some (aI (iZ x1)), some (aI (iZ x2)), some (aI (iZ x3)), some (aI (iZ x4)), none, none], [], h, t) P) : ∃ r, Ca (d + 1) 230 [aR (some (40, 0, 0)), aI (iZ x1), aI (iZ x2), aI (iZ x3), aI (iZ x4)] h t r ∧ P r := ca_W rfl rfl rfl rfl w

theorem b_X12_isLess_5 {x1 : Int} {x2 : Int} {x3 : Int} {x4 : Int} {r1 : Int} {σ σ1 : SG} {t : KT} (h1 : 0 ≤ x2 ∧ x2 < 9) (c2 : Ca d 229 [aR (some (40, 0, 0)), aI (iZ x1), aI (iZ x2)] (am_hp σ) t (.inl (some (aI (iZ r1))), am_hp σ1, t)) (h3 : 0 ≤ r1 ∧ r1 < 121) (w4 : Wp k_X12_isLess d (27, [some (aR (some (40, 0, 0))), some (aI (iZ x1)), some (aI (iZ x2)), some (aI (iZ x3)), some (aI (iZ x4)), none, none], [aI (iZ ((σ.1 (50, 0, 0) x2.toNat) + (σ1.1 (54, 0, 0) r1.toNat)))], am_hp σ1, t) Q) : Wp k_X12_isLess d (5, [some (aR (some (40, 0, 0))), some (aI (iZ x1)), some (aI (iZ x2)), some (aI (iZ x3)), some (aI (iZ x4)), none, none], [], am_hp σ, t) Q := by
  refine w_s (c' := (6, [some (aR (some (40, 0, 0))), some (aI (iZ x1)), some (aI (iZ x2)), some (aI (iZ x3)), some (aI (iZ x4)), none, none], [aR (some (40, 0, 0))], am_hp σ, t)) rfl rfl ?_
  refine w_get rfl (hp_40 _ 0) rfl rfl ?_
  refine w_s (c' := (10, [some (aR (some (40, 0, 0))), some (aI (iZ x1)), some (aI (iZ x2)), some (aI (iZ x3)), some (aI (iZ x4)), none, none], [aI (iZ x2), aR (some (50, 0, 0))], am_hp σ, t)) rfl rfl ?_
  refine w_ial rfl (hp_50 _ 0 0) h1 rfl rfl ?_
  refine w_s (c' := (12, [some (aR (some (40, 0, 0))), some (aI (iZ x1)), some (aI (iZ x2)), some (aI (iZ x3)), some (aI (iZ x4)), none, none], [aR (some (40, 0, 0)), aI (iZ (σ.1 (50, 0, 0) x2.toNat))], am_hp σ, t)) rfl rfl ?_
  refine w_get rfl (hp_40 _ 0) rfl rfl ?_
  refine w_s (c' := (16, [some (aR (some (40, 0, 0))), some (aI (iZ x1)), some (aI (iZ x2)), some (aI (iZ x3)), some (aI (iZ x4)), none, none], [aR (some (40, 0, 0)), aR (some (54, 0, 0)), aI (iZ (σ.1 (50, 0, 0) x2.toNat))], am_hp σ, t)) rfl rfl ?_
  refine w_s (c' := (17, [some (aR (some (40, 0, 0))), some (aI (iZ x1)), some (aI (iZ x2)), some (aI (iZ x3)), some (aI (iZ x4)), none, none], [aI (iZ x1), aR (some (40, 0, 0)), aR (some (54, 0, 0)), aI (iZ (σ.1 (50, 0, 0) x2.toNat))], am_hp σ, t)) rfl rfl ?_
  refine w_s (c' := (18, [some (aR (some (40, 0, 0))), some (aI (iZ x1)), some (aI (iZ x2)), some (aI (iZ x3)), some (aI (iZ x4)), none, none], [aI (iZ x2), aI (iZ x1), aR (some (40, 0, 0)), aR (some (54, 0, 0)), aI (iZ (σ.1 (50, 0, 0) x2.toNat))], am_hp σ, t)) rfl rfl ?_
  refine w_c0 (c' := (21, [some (aR (some (40, 0, 0))), some (aI (iZ x1)), some (aI (iZ x2)), some (aI (iZ x3)), some (aI (iZ x4)), none, none], [aI (iZ r1), aR (some (54, 0, 0)), aI (iZ (σ.1 (50, 0, 0) x2.toNat))], am_hp σ1, t)) rfl rfl (rcv_of (hp_40 _ 0)) rfl c2 (Nat.le_refl _) rfl ?_
  refine w_ial rfl (hp_54 _ 0 0) h3 rfl rfl ?_
  refine w_iadd rfl rfl ?_
  refine w_s (c' := (27, [some (aR (some (40, 0, 0))), some (aI (iZ x1)), some (aI (iZ x2)), some (aI (iZ x3)), some (aI (iZ x4)), none, none], [aI (iZ ((σ.1 (50, 0, 0) x2.toNat) + (σ1.1 (54, 0, 0) r1.toNat)))], am_hp σ1, t)) rfl rfl ?_
  exact w4

theorem b_X12_isLess_26 {x1 : Int} {x2 : Int} {x3 : Int} {x4 : Int} {σ : SG} {t : KT} (w1 : Wp k_X12_isLess d (27, [some (aR (some (40, 0, 0))), some (aI (iZ x1)), some (aI (iZ x2)), some (aI (iZ x3)), some (aI (iZ x4)), none, none], [aI (iZ 0)], am_hp σ, t) Q) : Wp k_X12_isLess d (26, [some (aR (some (40, 0, 0))), some (aI (iZ x1)), some (aI (iZ x2)), some (aI (iZ x3)), some (aI (iZ x4)), none, none], [], am_hp σ, t) Q := by
  refine w_psh rfl zc_0 rfl ?_
  exact w1

theorem b_X12_isLess_27 {x1 : Int} {x2 : Int} {x3 : Int} {x4 : Int} {xs0 : Int} {σ : SG} {t : KT} (h1 : -2147483648 ≤ x4 ∧ x4 < 2147483648) (w2 : x4 = 0 → Wp k_X12_isLess d (55, [some (aR (some (40, 0, 0))), some (aI (iZ x1)), some (aI (iZ x2)), some (aI (iZ x3)), some (aI (iZ x4)), some (aI (iZ xs0)), none], [], am_hp σ, t) Q) (w3 : x4 ≠ 0 → Wp k_X12_isLess d (34, [some (aR (some (40, 0, 0))), some (aI (iZ x1)), some (aI (iZ x2)), some (aI (iZ x3)), some (aI (iZ x4)), some (aI (iZ xs0)), none], [], am_hp σ, t) Q) : Wp k_X12_isLess d (27, [some (aR (some (40, 0, 0))), some (aI (iZ x1)), some (aI (iZ x2)), some (aI (iZ x3)), some (aI (iZ x4)), none, none], [aI (iZ xs0)], am_hp σ, t) Q := by
  refine w_s (c' := (29, [some (aR (some (40, 0, 0))), some (aI (iZ x1)), some (aI (iZ x2)), some (aI (iZ x3)), some (aI (iZ x4)), some (aI (iZ xs0)), none], [], am_hp σ, t)) rfl rfl ?_
  refine w_s (c' := (31, [some (aR (some (40, 0, 0))), some (aI (iZ x1)), some (aI (iZ x2)), some (aI (iZ x3)), some (aI (iZ x4)), some (aI (iZ xs0)), none], [aI (iZ x4)], am_hp σ, t)) rfl rfl ?_
  exact w_ifeq rfl h1 rfl w2 w3

theorem b_X12_isLess_34 {x1 : Int} {x2 : Int} {x3 : Int} {x4 : Int} {x5 : Int} {r1 : Int} {σ σ1 : SG} {t : KT} (h1 : 0 ≤ x3 ∧ x3 < 9) (c2 : Ca d 229 [aR (some (40, 0, 0)), aI (iZ x1), aI (iZ x3)] (am_hp σ) t (.inl (some (aI (iZ r1))), am_hp σ1, t)) (h3 : 0 ≤ r1 ∧ r1 < 121) (w4 : Wp k_X12_isLess d (56, [some (aR (some (40, 0, 0))), some (aI (iZ x1)), some (aI (iZ x2)), some (aI (iZ x3)), some (aI (iZ x4)), some (aI (iZ x5)), none], [aI (iZ ((σ.1 (50, 0, 0) x3.toNat) + (σ1.1 (54, 0, 0) r1.toNat)))], am_hp σ1, t) Q) : Wp k_X12_isLess d (34, [some (aR (some (40, 0, 0))), some (aI (iZ x1)), some (aI (iZ x2)), some (aI (iZ x3)), some (aI (iZ x4)), some (aI (iZ x5)), none], [], am_hp σ, t) Q := by
  refine w_s (c' := (35, [some (aR (some (40, 0, 0))), some (aI (iZ x1)), some (aI (iZ x2)), some (aI (iZ x3)), some (aI (iZ x4)), some (aI (iZ x5)), none], [aR (some (40, 0, 0))], am_hp σ, t)) rfl rfl ?_
  refine w_get rfl (hp_40 _ 0) rfl rfl ?_
  refine w_s (c' := (39, [some (aR (some (40, 0, 0))), some (aI (iZ x1)), some (aI (iZ x2)), some (aI (iZ x3)), some (aI (iZ x4)), some (aI (iZ x5)), none], [aI (iZ x3), aR (some (50, 0, 0))], am_hp σ, t)) rfl rfl ?_
  refine w_ial rfl (hp_50 _ 0 0) h1 rfl rfl ?_
  refine w_s (c' := (41, [some (aR (some (40, 0, 0))), some (aI (iZ x1)), some (aI (iZ x2)), some (aI (iZ x3)), some (aI (iZ x4)), some (aI (iZ x5)), none], [aR (some (40, 0, 0)), aI (iZ (σ.1 (50, 0, 0) x3.toNat))], am_hp σ, t)) rfl rfl ?_
  refine w_get rfl (hp_40 _ 0) rfl rfl ?_
  refine w_s (c' := (45, [some (aR (some (40, 0, 0))), some (aI (iZ x1)), some (aI (iZ x2)), some (aI (iZ x3)), some (aI (iZ x4)), some (aI (iZ x5)), none], [aR (some (40, 0, 0)), aR (some (54, 0, 0)), aI (iZ (σ.1 (50, 0, 0) x3.toNat))], am_hp σ, t)) rfl rfl ?_
  refine w_s (c' := (46, [some (aR (some (40, 0, 0))), some (aI (iZ x1)), some (aI (iZ x2)), some (aI (iZ x3)), some (aI (iZ x4)), some (aI (iZ x5)), none], [aI (iZ x1), aR (some (40, 0, 0)), aR (some (54, 0, 0)), aI (iZ (σ.1 (50, 0, 0) x3.toNat))], am_hp σ, t)) rfl rfl ?_
  refine w_s (c' := (47, [some (aR (some (40, 0, 0))), some (aI (iZ x1)), some (aI (iZ x2)), some (aI (iZ x3)), some (aI (iZ x4)), some (aI (iZ x5)), none], [aI (iZ x3), aI (iZ x1), aR (some (40, 0, 0)), aR (some (54, 0, 0)), aI (iZ (σ.1 (50, 0, 0) x3.toNat))], am_hp σ, t)) rfl rfl ?_
  refine w_c0 (c' := (50, [some (aR (some (40, 0, 0))), some (aI (iZ x1)), some (aI (iZ x2)), some (aI (iZ x3)), some (aI (iZ x4)), some (aI (iZ x5)), none], [aI (iZ r1), aR (some (54, 0, 0)), aI (iZ (σ.1 (50, 0, 0) x3.toNat))], am_hp σ1, t)) rfl rfl (rcv_of (hp_40 _ 0)) rfl c2 (Nat.le_refl _) rfl ?_
  refine w_ial rfl (hp_54 _ 0 0) h3 rfl rfl ?_
  refine w_iadd rfl rfl ?_
  refine w_s (c' := (56, [some (aR (some (40, 0, 0))), some (aI (iZ x1)), some (aI (iZ x2)), some (aI (iZ x3)), some (aI (iZ x4)), some (aI (iZ x5)), none], [aI (iZ ((σ.1 (50, 0, 0) x3.toNat) + (σ1.1 (54, 0, 0) r1.toNat)))], am_hp σ1, t)) rfl rfl ?_
  exact w4

theorem b_X12_isLess_55 {x1 : Int} {x2 : Int} {x3 : Int} {x4 : Int} {x5 : Int} {σ : SG} {t : KT} (w1 : Wp k_X12_isLess d (56, [some (aR (some (40, 0, 0))), some (aI (iZ x1)), some (aI (iZ x2)), some (aI (iZ x3)), some (aI (iZ x4)), some (aI (iZ x5)), none], [aI (iZ 0)], am_hp σ, t) Q) : Wp k_X12_isLess d (55, [some (aR (some (40, 0, 0))), some (aI (iZ x1)), some (aI (iZ x2)), some (aI (iZ x3)), some (aI (iZ x4)), some (aI (iZ x5)), none], [], am_hp σ, t) Q := by
  refine w_psh rfl zc_0 rfl ?_
  exact w1

theorem b_X12_isLess_56 {x1 : Int} {x2 : Int} {x3 : Int} {x4 : Int} {x5 : Int} {xs0 : Int} {σ : SG} {t : KT} (h1 : -2147483648 ≤ x5 ∧ x5 < 2147483648) (h2 : -2147483648 ≤ xs0 ∧ xs0 < 2147483648) (w3 : x5 = xs0 → Wp k_X12_isLess d (80, [some (aR (some (40, 0, 0))), some (aI (iZ x1)), some (aI (iZ x2)), some (aI (iZ x3)), some (aI (iZ x4)), some (aI (iZ x5)), some (aI (iZ xs0))], [], am_hp σ, t) Q) (w4 : x5 ≠ xs0 → Wp k_X12_isLess d (65, [some (aR (some (40, 0, 0))), some (aI (iZ x1)), some (aI (iZ x2)), some (aI (iZ x3)), some (aI (iZ x4)), some (aI (iZ x5)), some (aI (iZ xs0))], [], am_hp σ, t) Q) : Wp k_X12_isLess d (56, [some (aR (some (40, 0, 0))), some (aI (iZ x1)), some (aI (iZ x2)), some (aI (iZ x3)), some (aI (iZ x4)), some (aI (iZ x5)), none], [aI (iZ xs0)], am_hp σ, t) Q := by
  refine w_s (c' := (58, [some (aR (some (40, 0, 0))), some (aI (iZ x1)), some (aI (iZ x2)), some (aI (iZ x3)), some (aI (iZ x4)), some (aI (iZ x5)), some (aI (iZ xs0))], [], am_hp σ, t)) rfl rfl ?_
  refine w_s (c' := (60, [some (aR (some (40, 0, 0))), some (aI (iZ x1)), some (aI (iZ x2)), some (aI (iZ x3)), some (aI (iZ x4)), some (aI (iZ x5)), some (aI (iZ xs0))], [aI (iZ x5)], am_hp σ, t)) rfl rfl ?_
  refine w_s (c' := (62, [some (aR (some (40, 0, 0))), some (aI (iZ x1)), some (aI (iZ x2)), some (aI (iZ x3)), some (aI (iZ x4)), some (aI (iZ x5)), some (aI (iZ xs0))], [aI (iZ xs0), aI (iZ x5)], am_hp σ, t)) rfl rfl ?_
  exact w_iceq rfl h1 h2 rfl w3 w4

theorem b_X12_isLess_65 {x1 : Int} {x2 : Int} {x3 : Int} {x4 : Int} {x5 : Int} {x6 : Int} {σ : SG} {t : KT} (h1 : -2147483648 ≤ x5 ∧ x5 < 2147483648) (h2 : -2147483648 ≤ x6 ∧ x6 < 2147483648) (w3 : x6 ≤ x5 → Wp k_X12_isLess d (76, [some (aR (some (40, 0, 0))), some (aI (iZ x1)), some (aI (iZ x2)), some (aI (iZ x3)), some (aI (iZ x4)), some (aI (iZ x5)), some (aI (iZ x6))], [], am_hp σ, t) Q) (w4 : x5 < x6 → Wp k_X12_isLess d (72, [some (aR (some (40, 0, 0))), some (aI (iZ x1)), some (aI (iZ x2)), some (aI (iZ x3)), some (aI (iZ x4)), some (aI (iZ x5)), some (aI (iZ x6))], [], am_hp σ, t) Q) : Wp k_X12_isLess d (65, [some (aR (some (40, 0, 0))), some (aI (iZ x1)), some (aI (iZ x2)), some (aI (iZ x3)), some (aI (iZ x4)), some (aI (iZ x5)), some (aI (iZ x6))], [], am_hp σ, t) Q := by
  refine w_s (c' := (67, [some (aR (some (40, 0, 0))), some (aI (iZ x1)), some (aI (iZ x2)), some (aI (iZ x3)), some (aI (iZ x4)), some (aI (iZ x5)), some (aI (iZ x6))], [aI (iZ x5)], am_hp σ, t)) rfl rfl ?_
  refine w_s (c' := (69, [some (aR (some (40, 0, 0))), some (aI (iZ x1)), some (aI (iZ x2)), some (aI (iZ x3)), some (aI (iZ x4)), some (aI (iZ x5)), some (aI (iZ x6))], [aI (iZ x6), aI (iZ x5)], am_hp σ, t)) rfl rfl ?_
  exact w_icge rfl h1 h2 rfl w3 w4

theorem b_X12_isLess_72 {x1 : Int} {x2 : Int} {x3 : Int} {x4 : Int} {x5 : Int} {x6 : Int} {σ : SG} {t : KT} (w1 : Wp k_X12_isLess d (110, [some (aR (some (40, 0, 0))), some (aI (iZ x1)), some (aI (iZ x2)), some (aI (iZ x3)), some (aI (iZ x4)), some (aI (iZ x5)), some (aI (iZ x6))], [aI (iZ 1)], am_hp σ, t) Q) : Wp k_X12_isLess d (72, [some (aR (some (40, 0, 0))), some (aI (iZ x1)), some (aI (iZ x2)), some (aI (iZ x3)), some (aI (iZ x4)), some (aI (iZ x5)), some (aI (iZ x6))], [], am_hp σ, t) Q := by
  refine w_psh rfl zc_1 rfl ?_
  refine w_s (c' := (110, [some (aR (some (40, 0, 0))), some (aI (iZ x1)), some (aI (iZ x2)), some (aI (iZ x3)), some (aI (iZ x4)), some (aI (iZ x5)), some (aI (iZ x6))], [aI (iZ 1)], am_hp σ, t)) rfl rfl ?_
  exact w1

theorem b_X12_isLess_76 {x1 : Int} {x2 : Int} {x3 : Int} {x4 : Int} {x5 : Int} {x6 : Int} {σ : SG} {t : KT} (w1 : Wp k_X12_isLess d (110, [some (aR (some (40, 0, 0))), some (aI (iZ x1)), some (aI (iZ x2)), some (aI (iZ x3)), some (aI (iZ x4)), some (aI (iZ x5)), some (aI (iZ x6))], [aI (iZ 0)], am_hp σ, t) Q) : Wp k_X12_isLess d (76, [some (aR (some (40, 0, 0))), some (aI (iZ x1)), some (aI (iZ x2)), some (aI (iZ x3)), some (aI (iZ x4)), some (aI (iZ x5)), some (aI (iZ x6))], [], am_hp σ, t) Q := by
  refine w_psh rfl zc_0 rfl ?_
  refine w_s (c' := (110, [some (aR (some (40, 0, 0))), some (aI (iZ x1)), some (aI (iZ x2)), some (aI (iZ x3)), some (aI (iZ x4)), some (aI (iZ x5)), some (aI (iZ x6))], [aI (iZ 0)], am_hp σ, t)) rfl rfl ?_
  exact w1

theorem b_X12_isLess_80 {x1 : Int} {x2 : Int} {x3 : Int} {x4 : Int} {x5 : Int} {x6 : Int} {r1 : Int} {r2 : Int} {σ σ1 σ2 : SG} {t : KT} (c1 : Ca d 229 [aR (some (40, 0, 0)), aI (iZ x1), aI (iZ x2)] (am_hp σ) t (.inl (some (aI (iZ r1))), am_hp σ1, t)) (h2 : 0 ≤ r1 ∧ r1 < 121) (c3 : Ca d 229 [aR (some (40, 0, 0)), aI (iZ x1), aI (iZ x3)] (am_hp σ1) t (.inl (some (aI (iZ r2))), am_hp σ2, t)) (h4 : 0 ≤ r2 ∧ r2 < 121) (h5 : -2147483648 ≤ σ1.1 (53, 0, 0) r1.toNat ∧ σ1.1 (53, 0, 0) r1.toNat < 2147483648) (h6 : -2147483648 ≤ σ2.1 (53, 0, 0) r2.toNat ∧ σ2.1 (53, 0, 0) r2.toNat < 2147483648) (w7 : σ2.1 (53, 0, 0) r2.toNat ≤ σ1.1 (53, 0, 0) r1.toNat → Wp k_X12_isLess d (109, [some (aR (some (40, 0, 0))), some (aI (iZ x1)), some (aI (iZ x2)), some (aI (iZ x3)), some (aI (iZ x4)), some (aI (iZ x5)), some (aI (iZ x6))], [], am_hp σ2, t) Q) (w8 : σ1.1 (53, 0, 0) r1.toNat < σ2.1 (53, 0, 0) r2.toNat → Wp k_X12_isLess d (105, [some (aR (some (40, 0, 0))), some (aI (iZ x1)), some (aI (iZ x2)), some (aI (iZ x3)), some (aI (iZ x4)), some (aI (iZ x5)), some (aI (iZ x6))], [], am_hp σ2, t) Q) : Wp k_X12_isLess d (80, [some (aR (some (40, 0, 0))), some (aI (iZ x1)), some (aI (iZ x2)), some (aI (iZ x3)), some (aI (iZ x4)), some (aI (iZ x5)), some (aI (iZ x6))], [], am_hp σ, t) Q := by
  refine w_s (c' := (81, [some (aR (some (40, 0, 0))), some (aI (iZ x1)), some (aI (iZ x2)), some (aI (iZ x3)), some (aI (iZ x4)), some (aI (iZ x5)), some (aI (iZ x6))], [aR (some (40, 0, 0))], am_hp σ, t)) rfl rfl ?_
  refine w_get rfl (hp_40 _ 0) rfl rfl ?_
  refine w_s (c' := (85, [some (aR (some (40, 0, 0))), some (aI (iZ x1)), some (aI (iZ x2)), some (aI (iZ x3)), some (aI (iZ x4)), some (aI (iZ x5)), some (aI (iZ x6))], [aR (some (40, 0, 0)), aR (some (53, 0, 0))], am_hp σ, t)) rfl rfl ?_
  refine w_s (c' := (86, [some (aR (some (40, 0, 0))), some (aI (iZ x1)), some (aI (iZ x2)), some (aI (iZ x3)), some (aI (iZ x4)), some (aI (iZ x5)), some (aI (iZ x6))], [aI (iZ x1), aR (some (40, 0, 0)), aR (some (53, 0, 0))], am_hp σ, t)) rfl rfl ?_
  refine w_s (c' := (87, [some (aR (some (40, 0, 0))), some (aI (iZ x1)), some (aI (iZ x2)), some (aI (iZ x3)), some (aI (iZ x4)), some (aI (iZ x5)), some (aI (iZ x6))], [aI (iZ x2), aI (iZ x1), aR (some (40, 0, 0)), aR (some (53, 0, 0))], am_hp σ, t)) rfl rfl ?_
  refine w_c0 (c' := (90, [some (aR (some (40, 0, 0))), some (aI (iZ x1)), some (aI (iZ x2)), some (aI (iZ x3)), some (aI (iZ x4)), some (aI (iZ x5)), some (aI (iZ x6))], [aI (iZ r1), aR (some (53, 0, 0))], am_hp σ1, t)) rfl rfl (rcv_of (hp_40 _ 0)) rfl c1 (Nat.le_refl _) rfl ?_
  refine w_ial rfl (hp_53 _ 0 0) h2 rfl rfl ?_
  refine w_s (c' := (92, [some (aR (some (40, 0, 0))), some (aI (iZ x1)), some (aI (iZ x2)), some (aI (iZ x3)), some (aI (iZ x4)), some (aI (iZ x5)), some (aI (iZ x6))], [aR (some (40, 0, 0)), aI (iZ (σ1.1 (53, 0, 0) r1.toNat))], am_hp σ1, t)) rfl rfl ?_
  refine w_get rfl (hp_40 _ 0) rfl rfl ?_
  refine w_s (c' := (96, [some (aR (some (40, 0, 0))), some (aI (iZ x1)), some (aI (iZ x2)), some (aI (iZ x3)), some (aI (iZ x4)), some (aI (iZ x5)), some (aI (iZ x6))], [aR (some (40, 0, 0)), aR (some (53, 0, 0)), aI (iZ (σ1.1 (53, 0, 0) r1.toNat))], am_hp σ1, t)) rfl rfl ?_
  refine w_s (c' := (97, [some (aR (some (40, 0, 0))), some (aI (iZ x1)), some (aI (iZ x2)), some (aI (iZ x3)), some (aI (iZ x4)), some (aI (iZ x5)), some (aI (iZ x6))], [aI (iZ x1), aR (some (40, 0, 0)), aR (some (53, 0, 0)), aI (iZ (σ1.1 (53, 0, 0) r1.toNat))], am_hp σ1, t)) rfl rfl ?_
  refine w_s (c' := (98, [some (aR (some (40, 0, 0))), some (aI (iZ x1)), some (aI (iZ x2)), some (aI (iZ x3)), some (aI (iZ x4)), some (aI (iZ x5)), some (aI (iZ x6))], [aI (iZ x3), aI (iZ x1), aR (some (40, 0, 0)), aR (some (53, 0, 0)), aI (iZ (σ1.1 (53, 0, 0) r1.toNat))], am_hp σ1, t)) rfl rfl ?_
  refine w_c0 (c' := (101, [some (aR (some (40, 0, 0))), some (aI (iZ x1)), some (aI (iZ x2)), some (aI (iZ x3)), some (aI (iZ x4)), some (aI (iZ x5)), some (aI (iZ x6))], [aI (iZ r2), aR (some (53, 0, 0)), aI (iZ (σ1.1 (53, 0, 0) r1.toNat))], am_hp σ2, t)) rfl rfl (rcv_of (hp_40 _ 0)) rfl c3 (Nat.le_refl _) rfl ?_
  refine w_ial rfl (hp_53 _ 0 0) h4 rfl rfl ?_
  exact w_icge rfl h5 h6 rfl w7 w8

theorem b_X12_isLess_105 {x1 : Int} {x2 : Int} {x3 : Int} {x4 : Int} {x5 : Int} {x6 : Int} {σ : SG} {t : KT} (w1 : Wp k_X12_isLess d (110, [some (aR (some (40, 0, 0))), some (aI (iZ x1)), some (aI (iZ x2)), some (aI (iZ x3)), some (aI (iZ x4)), some (aI (iZ x5)), some (aI (iZ x6))], [aI (iZ 1)], am_hp σ, t) Q) : Wp k_X12_isLess d (105, [some (aR (some (40, 0, 0))), some (aI (iZ x1)), some (aI (iZ x2)), some (aI (iZ x3)), some (aI (iZ x4)), some (aI (iZ x5)), some (aI (iZ x6))], [], am_hp σ, t) Q := by
  refine w_psh rfl zc_1 rfl ?_
  refine w_s (c' := (110, [some (aR (some (40, 0, 0))), some (aI (iZ x1)), some (aI (iZ x2)), some (aI (iZ x3)), some (aI (iZ x4)), some (aI (iZ x5)), some (aI (iZ x6))], [aI (iZ 1)], am_hp σ, t)) rfl rfl ?_
  exact w1

theorem b_X12_isLess_109 {x1 : Int} {x2 : Int} {x3 : Int} {x4 : Int} {x5 : Int} {x6 : Int} {σ : SG} {t : KT} (w1 : Wp k_X12_isLess d (110, [some (aR (some (40, 0, 0))), some (aI (iZ x1)), some (aI (iZ x2)), some (aI (iZ x3)), some (aI (iZ x4)), some (aI (iZ x5)), some (aI (iZ x6))], [aI (iZ 0)], am_hp σ, t) Q) : Wp k_X12_isLess d (109, [some (aR (some (40, 0, 0))), some (aI (iZ x1)), some (aI (iZ x2)), some (aI (iZ x3)), some (aI (iZ x4)), some (aI (iZ x5)), some (aI (iZ x6))], [], am_hp σ, t) Q := by
  refine w_psh rfl zc_0 rfl ?_
  exact w1

theorem b_X12_isLess_110 {x1 : Int} {x2 : Int} {x3 : Int} {x4 : Int} {x5 : Int} {x6 : Int} {xs0 : Int} {σ : SG} {t : KT} (h1 : xs0 = 0 ∨ xs0 = 1) (q2 : Q (.inl (some (aI (iZ xs0))), am_hp σ, t)) : Wp k_X12_isLess d (110, [some (aR (some (40, 0, 0))), some (aI (iZ x1)), some (aI (iZ x2)), some (aI (iZ x3)), some (aI (iZ x4)), some (aI (iZ x5)), some (aI (iZ x6))], [aI (iZ xs0)], am_hp σ, t) Q := by
  exact w_ret rfl (frt_b h1) q2

theorem b_X12_bestWay_0 {x1 : Int} {x2 : Int} {σ : SG} {t : KT} (w1 : Wp k_X12_bestWay d (5, [some (aR (some (40, 0, 0))), some (aI (iZ x1)), some (aI (iZ x2)), some (aI (iZ (-1))), some (aI (iZ 0))], [], am_hp σ, t) Q) : Wp k_X12_bestWay d (0, [some (aR (some (40, 0, 0))), some (aI (iZ x1)), some (aI (iZ x2)), none, none], [], am_hp σ, t) Q := by
  refine w_psh rfl zc_m1 rfl ?_
  refine w_s (c' := (2, [some (aR (some (40, 0, 0))), some (aI (iZ x1)), some (aI (iZ x2)), some (aI (iZ (-1))), none], [], am_hp σ, t)) rfl rfl ?_
  refine w_psh rfl zc_0 rfl ?_
  refine w_s (c' := (5, [some (aR (some (40, 0, 0))), some (aI (iZ x1)), some (aI (iZ x2)), some (aI (iZ (-1))), some (aI (iZ 0))], [], am_hp σ, t)) rfl rfl ?_
  exact w1

theorem e_X12_bestWay {x1 : Int} {x2 : Int} {h : AH} {t : KT} {d : Nat} {P : RS → Prop} (w : Wp k_X12_bestWay d (0, [some (aR (some (40, 0, 0))), some (aI (iZ x1)), some (aI (iZ x2)), none, none], [], h, t) P) : ∃ r, Ca (d + 1) 231 [aR (some (40, 0, 0)), aI (iZ x1), aI (iZ x2)] h t r ∧ P r := ca_W rfl rfl rfl rfl w

theorem b_X12_bestWay_5 {x1 : Int} {x2 : Int} {x3 : Int} {x4 : Int} {σ : SG} {t : KT} (h1 : -2147483648 ≤ x4 ∧ x4 < 2147483648) (w2 : 9 ≤ x4 → Wp k_X12_bestWay d (51, [some (aR (some (40, 0, 0))), some (aI (iZ x1)), some (aI (iZ x2)), some (aI (iZ x3)), some (aI (iZ x4))], [], am_hp σ, t) Q) (w3 : x4 < 9 → Wp k_X12_bestWay d (12, [some (aR (some (40, 0, 0))), some (aI (iZ x1)), some (aI (iZ x2)), some (aI (iZ x3)), some (aI (iZ x4))], [], am_hp σ, t) Q) : Wp k_X12_bestWay d (5, [some (aR (some (40, 0, 0))), some (aI (iZ x1)), some (aI (iZ x2)), some (aI (iZ x3)), some (aI (iZ x4))], [], am_hp σ, t) Q := by
  refine w_s (c' := (7, [some (aR (some (40, 0, 0))), some (aI (iZ x1)), some (aI (iZ x2)), some (aI (iZ x3)), some (aI (iZ x4))], [aI (iZ x4)], am_hp σ, t)) rfl rfl ?_
  refine w_psh rfl zc_9 rfl ?_
  exact w_icge rfl h1 (by decide) rfl w2 w3

theorem b_X12_bestWay_12 {x1 : Int} {x2 : Int} {x3 : Int} {x4 : Int} {r1 : Int} {σ σ1 : SG} {t : KT} (c1 : Ca d 228 [aR (some (40, 0, 0)), aI (iZ x1), aI (iZ x4)] (am_hp σ) t (.inl (some (aI (iZ r1))), am_hp σ1, t)) (h2 : -2147483648 ≤ r1 ∧ r1 < 2147483648) (w3 : r1 ≠ 0 → Wp k_X12_bestWay d (25, [some (aR (some (40, 0, 0))), some (aI (iZ x1)), some (aI (iZ x2)), some (aI (iZ x3)), some (aI (iZ x4))], [], am_hp σ1, t) Q) (w4 : r1 = 0 → Wp k_X12_bestWay d (22, [some (aR (some (40, 0, 0))), some (aI (iZ x1)), some (aI (iZ x2)), some (aI (iZ x3)), some (aI (iZ x4))], [], am_hp σ1, t) Q) : Wp k_X12_bestWay d (12, [some (aR (some (40, 0, 0))), some (aI (iZ x1)), some (aI (iZ x2)), some (aI (iZ x3)), some (aI (iZ x4))], [], am_hp σ, t) Q := by
  refine w_s (c' := (13, [some (aR (some (40, 0, 0))), some (aI (iZ x1)), some (aI (iZ x2)), some (aI (iZ x3)), some (aI (iZ x4))], [aR (some (40, 0, 0))], am_hp σ, t)) rfl rfl ?_
  refine w_s (c' := (14, [some (aR (some (40, 0, 0))), some (aI (iZ x1)), some (aI (iZ x2)), some (aI (iZ x3)), some (aI (iZ x4))], [aI (iZ x1), aR (some (40, 0, 0))], am_hp σ, t)) rfl rfl ?_
  refine w_s (c' := (16, [some (aR (some (40, 0, 0))), some (aI (iZ x1)), some (aI (iZ x2)), some (aI (iZ x3)), some (aI (iZ x4))], [aI (iZ x4), aI (iZ x1), aR (some (40, 0, 0))], am_hp σ, t)) rfl rfl ?_
  refine w_c0 (c' := (19, [some (aR (some (40, 0, 0))), some (aI (iZ x1)), some (aI (iZ x2)), some (aI (iZ x3)), some (aI (iZ x4))], [aI (iZ r1)], am_hp σ1, t)) rfl rfl (rcv_of (hp_40 _ 0)) rfl c1 (Nat.le_refl _) rfl ?_
  exact w_ifne rfl h2 rfl w3 w4

theorem b_X12_bestWay_22 {x1 : Int} {x2 : Int} {x3 : Int} {x4 : Int} {σ : SG} {t : KT} (w1 : Wp k_X12_bestWay d (45, [some (aR (some (40, 0, 0))), some (aI (iZ x1)), some (aI (iZ x2)), some (aI (iZ x3)), some (aI (iZ x4))], [], am_hp σ, t) Q) : Wp k_X12_bestWay d (22, [some (aR (some (40, 0, 0))), some (aI (iZ x1)), some (aI (iZ x2)), some (aI (iZ x3)), some (aI (iZ x4))], [], am_hp σ, t) Q := by
  refine w_s (c' := (45, [some (aR (some (40, 0, 0))), some (aI (iZ x1)), some (aI (iZ x2)), some (aI (iZ x3)), some (aI (iZ x4))], [], am_hp σ, t)) rfl rfl ?_
  exact w1

theorem b_X12_bestWay_25 {x1 : Int} {x2 : Int} {x3 : Int} {x4 : Int} {σ : SG} {t : KT} (h1 : -2147483648 ≤ x3 ∧ x3 < 2147483648) (w2 : x3 = -1 → Wp k_X12_bestWay d (42, [some (aR (some (40, 0, 0))), some (aI (iZ x1)), some (aI (iZ x2)), some (aI (iZ x3)), some (aI (iZ x4))], [], am_hp σ, t) Q) (w3 : x3 ≠ -1 → Wp k_X12_bestWay d (30, [some (aR (some (40, 0, 0))), some (aI (iZ x1)), some (aI (iZ x2)), some (aI (iZ x3)), some (aI (iZ x4))], [], am_hp σ, t) Q) : Wp k_X12_bestWay d (25, [some (aR (some (40, 0, 0))), some (aI (iZ x1)), some (aI (iZ x2)), some (aI (iZ x3)), some (aI (iZ x4))], [], am_hp σ, t) Q := by
  refine w_s (c' := (26, [some (aR (some (40, 0, 0))), some (aI (iZ x1)), some (aI (iZ x2)), some (aI (iZ x3)), some (aI (iZ x4))], [aI (iZ x3)], am_hp σ, t)) rfl rfl ?_
  refine w_psh rfl zc_m1 rfl ?_
  exact w_iceq rfl h1 (by decide) rfl w2 w3

theorem b_X12_bestWay_30 {x1 : Int} {x2 : Int} {x3 : Int} {x4 : Int} {r1 : Int} {σ σ1 : SG} {t : KT} (c1 : Ca d 230 [aR (some (40, 0, 0)), aI (iZ x1), aI (iZ x4), aI (iZ x3), aI (iZ x2)] (am_hp σ) t (.inl (some (aI (iZ r1))), am_hp σ1, t)) (h2 : -2147483648 ≤ r1 ∧ r1 < 2147483648) (w3 : r1 = 0 → Wp k_X12_bestWay d (45, [some (aR (some (40, 0, 0))), some (aI (iZ x1)), some (aI (iZ x2)), some (aI (iZ x3)), some (aI (iZ x4))], [], am_hp σ1, t) Q) (w4 : r1 ≠ 0 → Wp k_X12_bestWay d (42, [some (aR (some (40, 0, 0))), some (aI (iZ x1)), some (aI (iZ x2)), some (aI (iZ x3)), some (aI (iZ x4))], [], am_hp σ1, t) Q) : Wp k_X12_bestWay d (30, [some (aR (some (40, 0, 0))), some (aI (iZ x1)), some (aI (iZ x2)), some (aI (iZ x3)), some (aI (iZ x4))], [], am_hp σ, t) Q := by
  refine w_s (c' := (31, [some (aR (some (40, 0, 0))), some (aI (iZ x1)), some (aI (iZ x2)), some (aI (iZ x3)), some (aI (iZ x4))], [aR (some (40, 0, 0))], am_hp σ, t)) rfl rfl ?_
  refine w_s (c' := (32, [some (aR (some (40, 0, 0))), some (aI (iZ x1)), some (aI (iZ x2)), some (aI (iZ x3)), some (aI (iZ x4))], [aI (iZ x1), aR (some (40, 0, 0))], am_hp σ, t)) rfl rfl ?_
  refine w_s (c' := (34, [some (aR (some (40, 0, 0))), some (aI (iZ x1)), some (aI (iZ x2)), some (aI (iZ x3)), some (aI (iZ x4))], [aI (iZ x4), aI (iZ x1), aR (some (40, 0, 0))], am_hp σ, t)) rfl rfl ?_
  refine w_s (c' := (35, [some (aR (some (40, 0, 0))), some (aI (iZ x1)), some (aI (iZ x2)), some (aI (iZ x3)), some (aI (iZ x4))], [aI (iZ x3), aI (iZ x4), aI (iZ x1), aR (some (40, 0, 0))], am_hp σ, t)) rfl rfl ?_
  refine w_s (c' := (36, [some (aR (some (40, 0, 0))), some (aI (iZ x1)), some (aI (iZ x2)), some (aI (iZ x3)), some (aI (iZ x4))], [aI (iZ x2), aI (iZ x3), aI (iZ x4), aI (iZ x1), aR (some (40, 0, 0))], am_hp σ, t)) rfl rfl ?_
  refine w_c0 (c' := (39, [some (aR (some (40, 0, 0))), some (aI (iZ x1)), some (aI (iZ x2)), some (aI (iZ x3)), some (aI (iZ x4))], [aI (iZ r1)], am_hp σ1, t)) rfl rfl (rcv_of (hp_40 _ 0)) rfl c1 (Nat.le_refl _) rfl ?_
  exact w_ifeq rfl h2 rfl w3 w4

theorem b_X12_bestWay_42 {x1 : Int} {x2 : Int} {x3 : Int} {x4 : Int} {σ : SG} {t : KT} (w1 : Wp k_X12_bestWay d (45, [some (aR (some (40, 0, 0))), some (aI (iZ x1)), some (aI (iZ x2)), some (aI (iZ x4)), some (aI (iZ x4))], [], am_hp σ, t) Q) : Wp k_X12_bestWay d (42, [some (aR (some (40, 0, 0))), some (aI (iZ x1)), some (aI (iZ x2)), some (aI (iZ x3)), some (aI (iZ x4))], [], am_hp σ, t) Q := by
  refine w_s (c' := (44, [some (aR (some (40, 0, 0))), some (aI (iZ x1)), some (aI (iZ x2)), some (aI (iZ x3)), some (aI (iZ x4))], [aI (iZ x4)], am_hp σ, t)) rfl rfl ?_
  refine w_s (c' := (45, [some (aR (some (40, 0, 0))), some (aI (iZ x1)), some (aI (iZ x2)), some (aI (iZ x4)), some (aI (iZ x4))], [], am_hp σ, t)) rfl rfl ?_
  exact w1

theorem b_X12_bestWay_45 {x1 : Int} {x2 : Int} {x3 : Int} {x4 : Int} {σ : SG} {t : KT} (w1 : Wp k_X12_bestWay d (5, [some (aR (some (40, 0, 0))), some (aI (iZ x1)), some (aI (iZ x2)), some (aI (iZ x3)), some (aI (iZ (x4 + 1)))], [], am_hp σ, t) Q) : Wp k_X12_bestWay d (45, [some (aR (some (40, 0, 0))), some (aI (iZ x1)), some (aI (iZ x2)), some (aI (iZ x3)), some (aI (iZ x4))], [], am_hp σ, t) Q := by
  refine w_inc (a := x4) (ls' := [some (aR (some (40, 0, 0))), some (aI (iZ x1)), some (aI (iZ x2)), some (aI (iZ x3)), some (aI (iZ (x4 + 1)))]) rfl rfl rfl zc_1 rfl rfl ?_
  refine w_s (c' := (5, [some (aR (some (40, 0, 0))), some (aI (iZ x1)), some (aI (iZ x2)), some (aI (iZ x3)), some (aI (iZ (x4 + 1)))], [], am_hp σ, t)) rfl rfl ?_
  exact w1

theorem b_X12_bestWay_51 {x1 : Int} {x2 : Int} {x3 : Int} {x4 : Int} {σ : SG} {t : KT} (q1 : Q (.inl (some (aI (iZ x3))), am_hp σ, t)) : Wp k_X12_bestWay d (51, [some (aR (some (40, 0, 0))), some (aI (iZ x1)), some (aI (iZ x2)), some (aI (iZ x3)), some (aI (iZ x4))], [], am_hp σ, t) Q := by
  refine w_s (c' := (52, [some (aR (some (40, 0, 0))), some (aI (iZ x1)), some (aI (iZ x2)), some (aI (iZ x3)), some (aI (iZ x4))], [aI (iZ x3)], am_hp σ, t)) rfl rfl ?_
  exact w_ret rfl rfl q1

theorem b_X12_lowestWay_0 {x1 : Int} {σ : SG} {t : KT} (w1 : Wp k_X12_lowestWay d (2, [some (aR (some (40, 0, 0))), some (aI (iZ x1)), some (aI (iZ 0))], [], am_hp σ, t) Q) : Wp k_X12_lowestWay d (0, [some (aR (some (40, 0, 0))), some (aI (iZ x1)), none], [], am_hp σ, t) Q := by
  refine w_psh rfl zc_0 rfl ?_
  refine w_s (c' := (2, [some (aR (some (40, 0, 0))), some (aI (iZ x1)), some (aI (iZ 0))], [], am_hp σ, t)) rfl rfl ?_
  exact w1

theorem e_X12_lowestWay {x1 : Int} {h : AH} {t : KT} {d : Nat} {P : RS → Prop} (w : Wp k_X12_lowestWay d (0, [some (aR (some (40, 0, 0))), some (aI (iZ x1)), none], [], h, t) P) : ∃ r, Ca (d + 1) 232 [aR (some (40, 0, 0)), aI (iZ x1)] h t r ∧ P r := ca_W rfl rfl rfl rfl w

theorem b_X12_lowestWay_2 {x1 : Int} {x2 : Int} {r1 : Int} {σ σ1 : SG} {t : KT} (c1 : Ca d 228 [aR (some (40, 0, 0)), aI (iZ x1), aI (iZ x2)] (am_hp σ) t (.inl (some (aI (iZ r1))), am_hp σ1, t)) (h2 : -2147483648 ≤ r1 ∧ r1 < 2147483648) (w3 : r1 ≠ 0 → Wp k_X12_lowestWay d (17, [some (aR (some (40, 0, 0))), some (aI (iZ x1)), some (aI (iZ x2))], [], am_hp σ1, t) Q) (w4 : r1 = 0 → Wp k_X12_lowestWay d (11, [some (aR (some (40, 0, 0))), some (aI (iZ x1)), some (aI (iZ x2))], [], am_hp σ1, t) Q) : Wp k_X12_lowestWay d (2, [some (aR (some (40, 0, 0))), some (aI (iZ x1)), some (aI (iZ x2))], [], am_hp σ, t) Q := by
  refine w_s (c' := (3, [some (aR (some (40, 0, 0))), some (aI (iZ x1)), some (aI (iZ x2))], [aR (some (40, 0, 0))], am_hp σ, t)) rfl rfl ?_
  refine w_s (c' := (4, [some (aR (some (40, 0, 0))), some (aI (iZ x1)), some (aI (iZ x2))], [aI (iZ x1), aR (some (40, 0, 0))], am_hp σ, t)) rfl rfl ?_
  refine w_s (c' := (5, [some (aR (some (40, 0, 0))), some (aI (iZ x1)), some (aI (iZ x2))], [aI (iZ x2), aI (iZ x1), aR (some (40, 0, 0))], am_hp σ, t)) rfl rfl ?_
  refine w_c0 (c' := (8, [some (aR (some (40, 0, 0))), some (aI (iZ x1)), some (aI (iZ x2))], [aI (iZ r1)], am_hp σ1, t)) rfl rfl (rcv_of (hp_40 _ 0)) rfl c1 (Nat.le_refl _) rfl ?_
  exact w_ifne rfl h2 rfl w3 w4

theorem b_X12_lowestWay_11 {x1 : Int} {x2 : Int} {σ : SG} {t : KT} (w1 : Wp k_X12_lowestWay d (2, [some (aR (some (40, 0, 0))), some (aI (iZ x1)), some (aI (iZ (x2 + 1)))], [], am_hp σ, t) Q) : Wp k_X12_lowestWay d (11, [some (aR (some (40, 0, 0))), some (aI (iZ x1)), some (aI (iZ x2))], [], am_hp σ, t) Q := by
  refine w_inc (a := x2) (ls' := [some (aR (some (40, 0, 0))), some (aI (iZ x1)), some (aI (iZ (x2 + 1)))]) rfl rfl rfl zc_1 rfl rfl ?_
  refine w_s (c' := (2, [some (aR (some (40, 0, 0))), some (aI (iZ x1)), some (aI (iZ (x2 + 1)))], [], am_hp σ, t)) rfl rfl ?_
  exact w1

theorem b_X12_lowestWay_17 {x1 : Int} {x2 : Int} {σ : SG} {t : KT} (q1 : Q (.inl (some (aI (iZ x2))), am_hp σ, t)) : Wp k_X12_lowestWay d (17, [some (aR (some (40, 0, 0))), some (aI (iZ x1)), some (aI (iZ x2))], [], am_hp σ, t) Q := by
  refine w_s (c' := (18, [some (aR (some (40, 0, 0))), some (aI (iZ x1)), some (aI (iZ x2))], [aI (iZ x2)], am_hp σ, t)) rfl rfl ?_
  exact w_ret rfl rfl q1
end PCS
