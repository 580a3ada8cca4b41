/-! PIECES: X12 -/
set_option maxRecDepth 4000
section PCS
variable {d : Nat} {Q : RS → Prop}
theorem b_X12_oddIn_0 {x1 : Int} {r1 : Int} {σ σ1 : SG} {t : KT} (c1 : Ca d 235 [aR (some (40, 0, 0)), aI (iZ x1)] (am_hp σ) t (.inl (some (aI (iZ r1))), am_hp σ1, t)) (w2 : Wp k_X12_oddIn d (11, [some (aR (some (40, 0, 0))), some (aI (iZ x1)), some (aI (iZ r1)), some (aI (iZ 0)), some (aI (iZ 0)), none], [], am_hp σ1, t) Q) : Wp k_X12_oddIn d (0, [some (aR (some (40, 0, 0))), some (aI (iZ x1)), none, none, none, none], [], am_hp σ, t) Q := by
  refine w_s (c' := (1, [some (aR (some (40, 0, 0))), some (aI (iZ x1)), none, none, none, none], [aR (some (40, 0, 0))], am_hp σ, t)) rfl rfl ?_
  refine w_s (c' := (2, [some (aR (some (40, 0, 0))), some (aI (iZ x1)), none, none, none, none], [aI (iZ x1), aR (some (40, 0, 0))], am_hp σ, t)) rfl rfl ?_
  refine w_c0 (c' := (5, [some (aR (some (40, 0, 0))), some (aI (iZ x1)), none, none, none, none], [aI (iZ r1)], am_hp σ1, t)) rfl rfl (rcv_of (hp_40 _ 0)) rfl c1 (Nat.le_refl _) rfl ?_
  refine w_s (c' := (6, [some (aR (some (40, 0, 0))), some (aI (iZ x1)), some (aI (iZ r1)), none, none, none], [], am_hp σ1, t)) rfl rfl ?_
  refine w_psh rfl zc_0 rfl ?_
  refine w_s (c' := (8, [some (aR (some (40, 0, 0))), some (aI (iZ x1)), some (aI (iZ r1)), some (aI (iZ 0)), none, none], [], am_hp σ1, t)) rfl rfl ?_
  refine w_psh rfl zc_0 rfl ?_
  refine w_s (c' := (11, [some (aR (some (40, 0, 0))), some (aI (iZ x1)), some (aI (iZ r1)), some (aI (iZ 0)), some (aI (iZ 0)), none], [], am_hp σ1, t)) rfl rfl ?_
  exact w2

theorem e_X12_oddIn {x1 : Int} {h : AH} {t : KT} {d : Nat} {P : RS → Prop} (w : Wp k_X12_oddIn d (0, [some (aR (some (40, 0, 0))), some (aI (iZ x1)), none, none, none, none], [], h, t) P) : ∃ r, Ca (d + 1) 273 [aR (some (40, 0, 0)), aI (iZ x1)] h t r ∧ P r := ca_W rfl rfl rfl rfl w

theorem b_X12_oddIn_11 {x1 : Int} {x2 : Int} {x3 : Int} {x4 : Int} {u5 : Option AV} {σ : SG} {t : KT} (h1 : -2147483648 ≤ x4 ∧ x4 < 2147483648) (h2 : -2147483648 ≤ x2 ∧ x2 < 2147483648) (w3 : x2 ≤ x4 → Wp k_X12_oddIn d (80, [some (aR (some (40, 0, 0))), some (aI (iZ x1)), some (aI (iZ x2)), some (aI (iZ x3)), some (aI (iZ x4)), u5], [], am_hp σ, t) Q) (w4 : x4 < x2 → Wp k_X12_oddIn d (17, [some (aR (some (40, 0, 0))), some (aI (iZ x1)), some (aI (iZ x2)), some (aI (iZ x3)), some (aI (iZ x4)), u5], [], am_hp σ, t) Q) : Wp k_X12_oddIn d (11, [some (aR (some (40, 0, 0))), some (aI (iZ x1)), some (aI (iZ x2)), some (aI (iZ x3)), some (aI (iZ x4)), u5], [], am_hp σ, t) Q := by
  refine w_s (c' := (13, [some (aR (some (40, 0, 0))), some (aI (iZ x1)), some (aI (iZ x2)), some (aI (iZ x3)), some (aI (iZ x4)), u5], [aI (iZ x4)], am_hp σ, t)) rfl rfl ?_
  refine w_s (c' := (14, [some (aR (some (40, 0, 0))), some (aI (iZ x1)), some (aI (iZ x2)), some (aI (iZ x3)), some (aI (iZ x4)), u5], [aI (iZ x2), aI (iZ x4)], am_hp σ, t)) rfl rfl ?_
  exact w_icge rfl h1 h2 rfl w3 w4

theorem b_X12_oddIn_17 {x1 : Int} {x2 : Int} {x3 : Int} {x4 : Int} {u5 : Option AV} {σ : SG} {t : KT} (w1 : Wp k_X12_oddIn d (20, [some (aR (some (40, 0, 0))), some (aI (iZ x1)), some (aI (iZ x2)), some (aI (iZ x3)), some (aI (iZ x4)), some (aI (iZ 0))], [], am_hp σ, t) Q) : Wp k_X12_oddIn d (17, [some (aR (some (40, 0, 0))), some (aI (iZ x1)), some (aI (iZ x2)), some (aI (iZ x3)), some (aI (iZ x4)), u5], [], am_hp σ, t) Q := by
  refine w_psh rfl zc_0 rfl ?_
  refine w_s (c' := (20, [some (aR (some (40, 0, 0))), some (aI (iZ x1)), some (aI (iZ x2)), some (aI (iZ x3)), some (aI (iZ x4)), some (aI (iZ 0))], [], am_hp σ, t)) rfl rfl ?_
  exact w1

theorem b_X12_oddIn_20 {x1 : Int} {x2 : Int} {x3 : Int} {x4 : Int} {x5 : Int} {r1 : Int} {σ σ1 : SG} {t : KT} (c1 : Ca d 237 [aR (some (40, 0, 0)), aI (iZ x4)] (am_hp σ) t (.inl (some (aI (iZ r1))), am_hp σ1, t)) (h2 : -2147483648 ≤ x5 ∧ x5 < 2147483648) (h3 : -2147483648 ≤ r1 ∧ r1 < 2147483648) (w4 : r1 ≤ x5 → Wp k_X12_oddIn d (74, [some (aR (some (40, 0, 0))), some (aI (iZ x1)), some (aI (iZ x2)), some (aI (iZ x3)), some (aI (iZ x4)), some (aI (iZ x5))], [], am_hp σ1, t) Q) (w5 : x5 < r1 → Wp k_X12_oddIn d (31, [some (aR (some (40, 0, 0))), some (aI (iZ x1)), some (aI (iZ x2)), some (aI (iZ x3)), some (aI (iZ x4)), some (aI (iZ x5))], [], am_hp σ1, t) Q) : Wp k_X12_oddIn d (20, [some (aR (some (40, 0, 0))), some (aI (iZ x1)), some (aI (iZ x2)), some (aI (iZ x3)), some (aI (iZ x4)), some (aI (iZ x5))], [], am_hp σ, t) Q := by
  refine w_s (c' := (22, [some (aR (some (40, 0, 0))), some (aI (iZ x1)), some (aI (iZ x2)), some (aI (iZ x3)), some (aI (iZ x4)), some (aI (iZ x5))], [aI (iZ x5)], am_hp σ, t)) rfl rfl ?_
  refine w_s (c' := (23, [some (aR (some (40, 0, 0))), some (aI (iZ x1)), some (aI (iZ x2)), some (aI (iZ x3)), some (aI (iZ x4)), some (aI (iZ x5))], [aR (some (40, 0, 0)), aI (iZ x5)], am_hp σ, t)) rfl rfl ?_
  refine w_s (c' := (25, [some (aR (some (40, 0, 0))), some (aI (iZ x1)), some (aI (iZ x2)), some (aI (iZ x3)), some (aI (iZ x4)), some (aI (iZ x5))], [aI (iZ x4), aR (some (40, 0, 0)), aI (iZ x5)], am_hp σ, t)) rfl rfl ?_
  refine w_c0 (c' := (28, [some (aR (some (40, 0, 0))), some (aI (iZ x1)), some (aI (iZ x2)), some (aI (iZ x3)), some (aI (iZ x4)), some (aI (iZ x5))], [aI (iZ r1), aI (iZ x5)], am_hp σ1, t)) rfl rfl (rcv_of (hp_40 _ 0)) rfl c1 (Nat.le_refl _) rfl ?_
  exact w_icge rfl h2 h3 rfl w4 w5

theorem b_X12_oddIn_31 {x1 : Int} {x2 : Int} {x3 : Int} {x4 : Int} {x5 : Int} {r1 : Int} {r2 : Int} {σ σ1 σ2 : SG} {t : KT} (c1 : Ca d 272 [aR (some (40, 0, 0)), aI (iZ x4), aI (iZ x5)] (am_hp σ) t (.inl (some (aI (iZ r1))), am_hp σ1, t)) (h2 : 0 ≤ x4 ∧ x4 < 121) (c3 : Ca d 215 [aR (some (40, 0, 0)), aI (iZ x1), aI (iZ ((σ1.1 (52, 0, 0) x4.toNat) + x5))] (am_hp σ1) t (.inl (some (aI (iZ r2))), am_hp σ2, t)) (h4 : -2147483648 ≤ r1 ∧ r1 < 2147483648) (h5 : -2147483648 ≤ r2 ∧ r2 < 2147483648) (w6 : r1 = r2 → Wp k_X12_oddIn d (62, [some (aR (some (40, 0, 0))), some (aI (iZ x1)), some (aI (iZ x2)), some (aI (iZ x3)), some (aI (iZ x4)), some (aI (iZ x5))], [aI (iZ x3)], am_hp σ2, t) Q) (w7 : r1 ≠ r2 → Wp k_X12_oddIn d (58, [some (aR (some (40, 0, 0))), some (aI (iZ x1)), some (aI (iZ x2)), some (aI (iZ x3)), some (aI (iZ x4)), some (aI (iZ x5))], [aI (iZ x3)], am_hp σ2, t) Q) : Wp k_X12_oddIn d (31, [some (aR (some (40, 0, 0))), some (aI (iZ x1)), some (aI (iZ x2)), some (aI (iZ x3)), some (aI (iZ x4)), some (aI (iZ x5))], [], am_hp σ, t) Q := by
  refine w_s (c' := (32, [some (aR (some (40, 0, 0))), some (aI (iZ x1)), some (aI (iZ x2)), some (aI (iZ x3)), some (aI (iZ x4)), some (aI (iZ x5))], [aI (iZ x3)], am_hp σ, t)) rfl rfl ?_
  refine w_s (c' := (33, [some (aR (some (40, 0, 0))), some (aI (iZ x1)), some (aI (iZ x2)), some (aI (iZ x3)), some (aI (iZ x4)), some (aI (iZ x5))], [aR (some (40, 0, 0)), aI (iZ x3)], am_hp σ, t)) rfl rfl ?_
  refine w_s (c' := (35, [some (aR (some (40, 0, 0))), some (aI (iZ x1)), some (aI (iZ x2)), some (aI (iZ x3)), some (aI (iZ x4)), some (aI (iZ x5))], [aI (iZ x4), aR (some (40, 0, 0)), aI (iZ x3)], am_hp σ, t)) rfl rfl ?_
  refine w_s (c' := (37, [some (aR (some (40, 0, 0))), some (aI (iZ x1)), some (aI (iZ x2)), some (aI (iZ x3)), some (aI (iZ x4)), some (aI (iZ x5))], [aI (iZ x5), aI (iZ x4), aR (some (40, 0, 0)), aI (iZ x3)], am_hp σ, t)) rfl rfl ?_
  refine w_c0 (c' := (40, [some (aR (some (40, 0, 0))), some (aI (iZ x1)), some (aI (iZ x2)), some (aI (iZ x3)), some (aI (iZ x4)), some (aI (iZ x5))], [aI (iZ r1), aI (iZ x3)], am_hp σ1, t)) rfl rfl (rcv_of (hp_40 _ 0)) rfl c1 (Nat.le_refl _) rfl ?_
  refine w_s (c' := (41, [some (aR (some (40, 0, 0))), some (aI (iZ x1)), some (aI (iZ x2)), some (aI (iZ x3)), some (aI (iZ x4)), some (aI (iZ x5))], [aR (some (40, 0, 0)), aI (iZ r1), aI (iZ x3)], am_hp σ1, t)) rfl rfl ?_
  refine w_s (c' := (42, [some (aR (some (40, 0, 0))), some (aI (iZ x1)), some (aI (iZ x2)), some (aI (iZ x3)), some (aI (iZ x4)), some (aI (iZ x5))], [aI (iZ x1), aR (some (40, 0, 0)), aI (iZ r1), aI (iZ x3)], am_hp σ1, t)) rfl rfl ?_
  refine w_s (c' := (43, [some (aR (some (40, 0, 0))), some (aI (iZ x1)), some (aI (iZ x2)), some (aI (iZ x3)), some (aI (iZ x4)), some (aI (iZ x5))], [aR (some (40, 0, 0)), aI (iZ x1), aR (some (40, 0, 0)), aI (iZ r1), aI (iZ x3)], am_hp σ1, t)) rfl rfl ?_
  refine w_get rfl (hp_40 _ 0) rfl rfl ?_
  refine w_s (c' := (48, [some (aR (some (40, 0, 0))), some (aI (iZ x1)), some (aI (iZ x2)), some (aI (iZ x3)), some (aI (iZ x4)), some (aI (iZ x5))], [aI (iZ x4), aR (some (52, 0, 0)), aI (iZ x1), aR (some (40, 0, 0)), aI (iZ r1), aI (iZ x3)], am_hp σ1, t)) rfl rfl ?_
  refine w_ial rfl (hp_52 _ 0 0) h2 rfl rfl ?_
  refine w_s (c' := (51, [some (aR (some (40, 0, 0))), some (aI (iZ x1)), some (aI (iZ x2)), some (aI (iZ x3)), some (aI (iZ x4)), some (aI (iZ x5))], [aI (iZ x5), aI (iZ (σ1.1 (52, 0, 0) x4.toNat)), aI (iZ x1), aR (some (40, 0, 0)), aI (iZ r1), aI (iZ x3)], am_hp σ1, t)) rfl rfl ?_
  refine w_iadd rfl rfl ?_
  refine w_c0 (c' := (55, [some (aR (some (40, 0, 0))), some (aI (iZ x1)), some (aI (iZ x2)), some (aI (iZ x3)), some (aI (iZ x4)), some (aI (iZ x5))], [aI (iZ r2), aI (iZ r1), aI (iZ x3)], am_hp σ2, t)) rfl rfl (rcv_of (hp_40 _ 0)) rfl c3 (Nat.le_refl _) rfl ?_
  exact w_iceq rfl h4 h5 rfl w6 w7

theorem b_X12_oddIn_58 {x1 : Int} {x2 : Int} {x3 : Int} {x4 : Int} {x5 : Int} {xs0 : Int} {σ : SG} {t : KT} (w1 : Wp k_X12_oddIn d (63, [some (aR (some (40, 0, 0))), some (aI (iZ x1)), some (aI (iZ x2)), some (aI (iZ x3)), some (aI (iZ x4)), some (aI (iZ x5))], [aI (iZ 1), aI (iZ xs0)], am_hp σ, t) Q) : Wp k_X12_oddIn d (58, [some (aR (some (40, 0, 0))), some (aI (iZ x1)), some (aI (iZ x2)), some (aI (iZ x3)), some (aI (iZ x4)), some (aI (iZ x5))], [aI (iZ xs0)], am_hp σ, t) Q := by
  refine w_psh rfl zc_1 rfl ?_
  refine w_s (c' := (63, [some (aR (some (40, 0, 0))), some (aI (iZ x1)), some (aI (iZ x2)), some (aI (iZ x3)), some (aI (iZ x4)), some (aI (iZ x5))], [aI (iZ 1), aI (iZ xs0)], am_hp σ, t)) rfl rfl ?_
  exact w1

theorem b_X12_oddIn_62 {x1 : Int} {x2 : Int} {x3 : Int} {x4 : Int} {x5 : Int} {xs0 : Int} {σ : SG} {t : KT} (w1 : Wp k_X12_oddIn d (63, [some (aR (some (40, 0, 0))), some (aI (iZ x1)), some (aI (iZ x2)), some (aI (iZ x3)), some (aI (iZ x4)), some (aI (iZ x5))], [aI (iZ 0), aI (iZ xs0)], am_hp σ, t) Q) : Wp k_X12_oddIn d (62, [some (aR (some (40, 0, 0))), some (aI (iZ x1)), some (aI (iZ x2)), some (aI (iZ x3)), some (aI (iZ x4)), some (aI (iZ x5))], [aI (iZ xs0)], am_hp σ, t) Q := by
  refine w_psh rfl zc_0 rfl ?_
  exact w1

theorem b_X12_oddIn_63 {x1 : Int} {x2 : Int} {x3 : Int} {x4 : Int} {x5 : Int} {xs0 : Int} {xs1 : Int} {r1 : Int} {σ σ1 : SG} {t : KT} (c1 : Ca d 176 [aI (iZ xs0)] (am_hp σ) t (.inl (some (aI (iZ r1))), am_hp σ1, t)) (w2 : Wp k_X12_oddIn d (20, [some (aR (some (40, 0, 0))), some (aI (iZ x1)), some (aI (iZ x2)), some (aI (iZ (xs1 + r1))), some (aI (iZ x4)), some (aI (iZ (x5 + 1)))], [], am_hp σ1, t) Q) : Wp k_X12_oddIn d (63, [some (aR (some (40, 0, 0))), some (aI (iZ x1)), some (aI (iZ x2)), some (aI (iZ x3)), some (aI (iZ x4)), some (aI (iZ x5))], [aI (iZ xs0), aI (iZ xs1)], am_hp σ, t) Q := by
  refine w_c0 (c' := (66, [some (aR (some (40, 0, 0))), some (aI (iZ x1)), some (aI (iZ x2)), some (aI (iZ x3)), some (aI (iZ x4)), some (aI (iZ x5))], [aI (iZ r1), aI (iZ xs1)], am_hp σ1, t)) rfl rfl rfl rfl c1 (Nat.le_refl _) rfl ?_
  refine w_iadd rfl rfl ?_
  refine w_s (c' := (68, [some (aR (some (40, 0, 0))), some (aI (iZ x1)), some (aI (iZ x2)), some (aI (iZ (xs1 + r1))), some (aI (iZ x4)), some (aI (iZ x5))], [], am_hp σ1, t)) rfl rfl ?_
  refine w_inc (a := x5) (ls' := [some (aR (some (40, 0, 0))), some (aI (iZ x1)), some (aI (iZ x2)), some (aI (iZ (xs1 + r1))), some (aI (iZ x4)), some (aI (iZ (x5 + 1)))]) rfl rfl rfl zc_1 rfl rfl ?_
  refine w_s (c' := (20, [some (aR (some (40, 0, 0))), some (aI (iZ x1)), some (aI (iZ x2)), some (aI (iZ (xs1 + r1))), some (aI (iZ x4)), some (aI (iZ (x5 + 1)))], [], am_hp σ1, t)) rfl rfl ?_
  exact w2

theorem b_X12_oddIn_74 {x1 : Int} {x2 : Int} {x3 : Int} {x4 : Int} {x5 : Int} {σ : SG} {t : KT} (w1 : Wp k_X12_oddIn d (11, [some (aR (some (40, 0, 0))), some (aI (iZ x1)), some (aI (iZ x2)), some (aI (iZ x3)), some (aI (iZ (x4 + 1))), some (aI (iZ x5))], [], am_hp σ, t) Q) : Wp k_X12_oddIn d (74, [some (aR (some (40, 0, 0))), some (aI (iZ x1)), some (aI (iZ x2)), some (aI (iZ x3)), some (aI (iZ x4)), some (aI (iZ x5))], [], am_hp σ, t) Q := by
  refine w_inc (a := x4) (ls' := [some (aR (some (40, 0, 0))), some (aI (iZ x1)), some (aI (iZ x2)), some (aI (iZ x3)), some (aI (iZ (x4 + 1))), some (aI (iZ x5))]) rfl rfl rfl zc_1 rfl rfl ?_
  refine w_s (c' := (11, [some (aR (some (40, 0, 0))), some (aI (iZ x1)), some (aI (iZ x2)), some (aI (iZ x3)), some (aI (iZ (x4 + 1))), some (aI (iZ x5))], [], am_hp σ, t)) rfl rfl ?_
  exact w1

theorem b_X12_oddIn_80 {x1 : Int} {x2 : Int} {x3 : Int} {x4 : Int} {u5 : Option AV} {σ : SG} {t : KT} (q1 : Q (.inl (some (aI (iZ x3))), am_hp σ, t)) : Wp k_X12_oddIn d (80, [some (aR (some (40, 0, 0))), some (aI (iZ x1)), some (aI (iZ x2)), some (aI (iZ x3)), some (aI (iZ x4)), u5], [], am_hp σ, t) Q := by
  refine w_s (c' := (81, [some (aR (some (40, 0, 0))), some (aI (iZ x1)), some (aI (iZ x2)), some (aI (iZ x3)), some (aI (iZ x4)), u5], [aI (iZ x3)], am_hp σ, t)) rfl rfl ?_
  exact w_ret rfl rfl q1

theorem b_X12_gap_0 {σ : SG} {t : KT} (w1 : Wp k_X12_gap d (9, [some (aR (some (40, 0, 0))), some (aI (iZ 0)), some (aI (iZ 0))], [], am_hp ((sI σ (40, 0, 0) (up (σ.1 (40, 0, 0)) 0 0))), t) Q) : Wp k_X12_gap d (0, [some (aR (some (40, 0, 0))), none, none], [], am_hp σ, t) Q := by
  refine w_s (c' := (1, [some (aR (some (40, 0, 0))), none, none], [aR (some (40, 0, 0))], am_hp σ, t)) rfl rfl ?_
  refine w_psh rfl zc_0 rfl ?_
  refine w_putI rfl (hp_40 _ 0) rfl rfl rfl ?_
  refine w_psh rfl zc_0 rfl ?_
  refine w_s (c' := (7, [some (aR (some (40, 0, 0))), some (aI (iZ 0)), none], [], am_hp ((sI σ (40, 0, 0) (up (σ.1 (40, 0, 0)) 0 0))), t)) rfl rfl ?_
  refine w_psh rfl zc_0 rfl ?_
  refine w_s (c' := (9, [some (aR (some (40, 0, 0))), some (aI (iZ 0)), some (aI (iZ 0))], [], am_hp ((sI σ (40, 0, 0) (up (σ.1 (40, 0, 0)) 0 0))), t)) rfl rfl ?_
  exact w1

theorem e_X12_gap {h : AH} {t : KT} {d : Nat} {P : RS → Prop} (w : Wp k_X12_gap d (0, [some (aR (some (40, 0, 0))), none, none], [], h, t) P) : ∃ r, Ca (d + 1) 274 [aR (some (40, 0, 0))] h t r ∧ P r := ca_W rfl rfl rfl rfl w

theorem b_X12_gap_9 {x1 : Int} {x2 : Int} {σ : SG} {t : KT} (h1 : -2147483648 ≤ x2 ∧ x2 < 2147483648) (h2 : -2147483648 ≤ σ.1 (42, 0, 0) 0 ∧ σ.1 (42, 0, 0) 0 < 2147483648) (w3 : σ.1 (42, 0, 0) 0 ≤ x2 → Wp k_X12_gap d (33, [some (aR (some (40, 0, 0))), some (aI (iZ x1)), some (aI (iZ x2))], [], am_hp σ, t) Q) (w4 : x2 < σ.1 (42, 0, 0) 0 → Wp k_X12_gap d (19, [some (aR (some (40, 0, 0))), some (aI (iZ x1)), some (aI (iZ x2))], [], am_hp σ, t) Q) : Wp k_X12_gap d (9, [some (aR (some (40, 0, 0))), some (aI (iZ x1)), some (aI (iZ x2))], [], am_hp σ, t) Q := by
  refine w_s (c' := (10, [some (aR (some (40, 0, 0))), some (aI (iZ x1)), some (aI (iZ x2))], [aI (iZ x2)], am_hp σ, t)) rfl rfl ?_
  refine w_s (c' := (11, [some (aR (some (40, 0, 0))), some (aI (iZ x1)), some (aI (iZ x2))], [aR (some (40, 0, 0)), aI (iZ x2)], am_hp σ, t)) rfl rfl ?_
  refine w_get rfl (hp_40 _ 0) rfl rfl ?_
  refine w_psh rfl zc_0 rfl ?_
  refine w_ial rfl (hp_42 _ 0 0) (by decide) rfl rfl ?_
  refine w_e (c' := (16, [some (aR (some (40, 0, 0))), some (aI (iZ x1)), some (aI (iZ x2))], [aI (iZ (σ.1 (42, 0, 0) 0)), aI (iZ x2)], am_hp σ, t)) rfl ?_
  exact w_icge rfl h1 h2 rfl w3 w4

theorem b_X12_gap_19 {x1 : Int} {x2 : Int} {r1 : Int} {σ σ1 : SG} {t : KT} (c1 : Ca d 273 [aR (some (40, 0, 0)), aI (iZ x2)] (am_hp σ) t (.inl (some (aI (iZ r1))), am_hp σ1, t)) (w2 : Wp k_X12_gap d (9, [some (aR (some (40, 0, 0))), some (aI (iZ (x1 + r1))), some (aI (iZ (x2 + 1)))], [], am_hp σ1, t) Q) : Wp k_X12_gap d (19, [some (aR (some (40, 0, 0))), some (aI (iZ x1)), some (aI (iZ x2))], [], am_hp σ, t) Q := by
  refine w_s (c' := (20, [some (aR (some (40, 0, 0))), some (aI (iZ x1)), some (aI (iZ x2))], [aI (iZ x1)], am_hp σ, t)) rfl rfl ?_
  refine w_s (c' := (21, [some (aR (some (40, 0, 0))), some (aI (iZ x1)), some (aI (iZ x2))], [aR (some (40, 0, 0)), aI (iZ x1)], am_hp σ, t)) rfl rfl ?_
  refine w_s (c' := (22, [some (aR (some (40, 0, 0))), some (aI (iZ x1)), some (aI (iZ x2))], [aI (iZ x2), aR (some (40, 0, 0)), aI (iZ x1)], am_hp σ, t)) rfl rfl ?_
  refine w_c0 (c' := (25, [some (aR (some (40, 0, 0))), some (aI (iZ x1)), some (aI (iZ x2))], [aI (iZ r1), aI (iZ x1)], am_hp σ1, t)) rfl rfl (rcv_of (hp_40 _ 0)) rfl c1 (Nat.le_refl _) rfl ?_
  refine w_iadd rfl rfl ?_
  refine w_s (c' := (27, [some (aR (some (40, 0, 0))), some (aI (iZ (x1 + r1))), some (aI (iZ x2))], [], am_hp σ1, t)) rfl rfl ?_
  refine w_inc (a := x2) (ls' := [some (aR (some (40, 0, 0))), some (aI (iZ (x1 + r1))), some (aI (iZ (x2 + 1)))]) rfl rfl rfl zc_1 rfl rfl ?_
  refine w_s (c' := (9, [some (aR (some (40, 0, 0))), some (aI (iZ (x1 + r1))), some (aI (iZ (x2 + 1)))], [], am_hp σ1, t)) rfl rfl ?_
  exact w2

theorem b_X12_gap_33 {x1 : Int} {x2 : Int} {σ : SG} {t : KT} (q1 : Q (.inl (some (aI (iZ x1))), am_hp σ, t)) : Wp k_X12_gap d (33, [some (aR (some (40, 0, 0))), some (aI (iZ x1)), some (aI (iZ x2))], [], am_hp σ, t) Q := by
  refine w_s (c' := (34, [some (aR (some (40, 0, 0))), some (aI (iZ x1)), some (aI (iZ x2))], [aI (iZ x1)], am_hp σ, t)) rfl rfl ?_
  exact w_ret rfl rfl q1

theorem b_X12_find_0 {r1 : Int} {σ σ1 : SG} {t : KT} (c1 : Ca d 199 [aR (some (40, 0, 0))] (am_hp ((sI σ (40, 0, 0) (up (σ.1 (40, 0, 0)) 0 0)))) t (.inl (some (aL (jZ r1))), am_hp σ1, t)) (h2 : -2147483648 ≤ ycmp r1 0 ∧ ycmp r1 0 < 2147483648) (w3 : ycmp r1 0 ≠ 0 → Wp k_X12_find d (20, [some (aR (some (40, 0, 0))), some (aL (jZ r1)), none], [], am_hp σ1, t) Q) (w4 : ycmp r1 0 = 0 → Wp k_X12_find d (16, [some (aR (some (40, 0, 0))), some (aL (jZ r1)), none], [], am_hp σ1, t) Q) : Wp k_X12_find d (0, [some (aR (some (40, 0, 0))), none, none], [], am_hp σ, t) Q := by
  refine w_s (c' := (1, [some (aR (some (40, 0, 0))), none, none], [aR (some (40, 0, 0))], am_hp σ, t)) rfl rfl ?_
  refine w_psh rfl zc_0 rfl ?_
  refine w_putI rfl (hp_40 _ 0) rfl rfl rfl ?_
  refine w_s (c' := (6, [some (aR (some (40, 0, 0))), none, none], [aR (some (40, 0, 0))], am_hp ((sI σ (40, 0, 0) (up (σ.1 (40, 0, 0)) 0 0))), t)) rfl rfl ?_
  refine w_c0 (c' := (9, [some (aR (some (40, 0, 0))), none, none], [aL (jZ r1)], am_hp σ1, t)) rfl rfl (rcv_of (hp_40 _ 0)) rfl c1 (Nat.le_refl _) rfl ?_
  refine w_s (c' := (10, [some (aR (some (40, 0, 0))), some (aL (jZ r1)), none], [], am_hp σ1, t)) rfl rfl ?_
  refine w_s (c' := (11, [some (aR (some (40, 0, 0))), some (aL (jZ r1)), none], [aL (jZ r1)], am_hp σ1, t)) rfl rfl ?_
  refine w_psL rfl yc_0 rfl ?_
  refine w_lcmp rfl rfl ?_
  exact w_ifne rfl h2 rfl w3 w4

theorem e_X12_find {h : AH} {t : KT} {d : Nat} {P : RS → Prop} (w : Wp k_X12_find d (0, [some (aR (some (40, 0, 0))), none, none], [], h, t) P) : ∃ r, Ca (d + 1) 275 [aR (some (40, 0, 0))] h t r ∧ P r := ca_W rfl rfl rfl rfl w

theorem b_X12_find_16 {y1 : Int} {σ : SG} {t : KT} (w1 : Wp k_X12_find d (25, [some (aR (some (40, 0, 0))), some (aL (jZ y1)), none], [aI (iZ (-1))], am_hp σ, t) Q) : Wp k_X12_find d (16, [some (aR (some (40, 0, 0))), some (aL (jZ y1)), none], [], am_hp σ, t) Q := by
  refine w_psh rfl zc_m1 rfl ?_
  refine w_s (c' := (25, [some (aR (some (40, 0, 0))), some (aL (jZ y1)), none], [aI (iZ (-1))], am_hp σ, t)) rfl rfl ?_
  exact w1

theorem b_X12_find_20 {y1 : Int} {r1 : Int} {σ σ1 : SG} {t : KT} (c1 : Ca d 221 [aR (some (40, 0, 0)), aL (jZ y1)] (am_hp σ) t (.inl (some (aI (iZ r1))), am_hp σ1, t)) (w2 : Wp k_X12_find d (25, [some (aR (some (40, 0, 0))), some (aL (jZ y1)), none], [aI (iZ r1)], am_hp σ1, t) Q) : Wp k_X12_find d (20, [some (aR (some (40, 0, 0))), some (aL (jZ y1)), none], [], am_hp σ, t) Q := by
  refine w_s (c' := (21, [some (aR (some (40, 0, 0))), some (aL (jZ y1)), none], [aR (some (40, 0, 0))], am_hp σ, t)) rfl rfl ?_
  refine w_s (c' := (22, [some (aR (some (40, 0, 0))), some (aL (jZ y1)), none], [aL (jZ y1), aR (some (40, 0, 0))], am_hp σ, t)) rfl rfl ?_
  refine w_c0 (c' := (25, [some (aR (some (40, 0, 0))), some (aL (jZ y1)), none], [aI (iZ r1)], am_hp σ1, t)) rfl rfl (rcv_of (hp_40 _ 0)) rfl c1 (Nat.le_refl _) rfl ?_
  exact w2

theorem b_X12_find_25 {y1 : Int} {xs0 : Int} {σ : SG} {t : KT} (q1 : Q (.inl (some (aI (iZ xs0))), am_hp σ, t)) : Wp k_X12_find d (25, [some (aR (some (40, 0, 0))), some (aL (jZ y1)), none], [aI (iZ xs0)], am_hp σ, t) Q := by
  exact w_ret rfl rfl q1

theorem b_X12_readsOf_0 {x1 : Int} {r1 : Int} {σ σ1 : SG} {t : KT} (c1 : Ca d 238 [aR (some (40, 0, 0)), aI (iZ x1)] (am_hp σ) t (.inl (some (aI (iZ r1))), am_hp σ1, t)) (h2 : -2147483648 ≤ σ1.1 (42, 0, 0) 2 ∧ σ1.1 (42, 0, 0) 2 < 2147483648 ∧ σ1.1 (42, 0, 0) 2 ≠ 0) (q3 : Q (.inl (some (aI (iZ ((zrem r1 (σ1.1 (42, 0, 0) 2)) + 1)))), am_hp σ1, t)) : Wp k_X12_readsOf d (0, [some (aR (some (40, 0, 0))), some (aI (iZ x1))], [], am_hp σ, t) Q := by
  refine w_s (c' := (1, [some (aR (some (40, 0, 0))), some (aI (iZ x1))], [aR (some (40, 0, 0))], am_hp σ, t)) rfl rfl ?_
  refine w_s (c' := (2, [some (aR (some (40, 0, 0))), some (aI (iZ x1))], [aI (iZ x1), aR (some (40, 0, 0))], am_hp σ, t)) rfl rfl ?_
  refine w_c0 (c' := (5, [some (aR (some (40, 0, 0))), some (aI (iZ x1))], [aI (iZ r1)], am_hp σ1, t)) rfl rfl (rcv_of (hp_40 _ 0)) rfl c1 (Nat.le_refl _) rfl ?_
  refine w_s (c' := (6, [some (aR (some (40, 0, 0))), some (aI (iZ x1))], [aR (some (40, 0, 0)), aI (iZ r1)], am_hp σ1, t)) rfl rfl ?_
  refine w_get rfl (hp_40 _ 0) rfl rfl ?_
  refine w_psh rfl zc_2 rfl ?_
  refine w_ial rfl (hp_42 _ 0 0) (by decide) rfl rfl ?_
  refine w_e (c' := (11, [some (aR (some (40, 0, 0))), some (aI (iZ x1))], [aI (iZ (σ1.1 (42, 0, 0) 2)), aI (iZ r1)], am_hp σ1, t)) rfl ?_
  refine w_irem rfl rfl h2 ?_
  refine w_psh rfl zc_1 rfl ?_
  refine w_iadd rfl rfl ?_
  exact w_ret rfl rfl q3

theorem e_X12_readsOf {x1 : Int} {h : AH} {t : KT} {d : Nat} {P : RS → Prop} (w : Wp k_X12_readsOf d (0, [some (aR (some (40, 0, 0))), some (aI (iZ x1))], [], h, t) P) : ∃ r, Ca (d + 1) 276 [aR (some (40, 0, 0)), aI (iZ x1)] h t r ∧ P r := ca_W rfl rfl rfl rfl w

theorem b_X12_read_0 {x1 : Int} {x2 : Int} {r1 : Int} {r2 : Int} {σ σ1 σ2 : SG} {t : KT} (c1 : Ca d 218 [aR (some (40, 0, 0)), aI (iZ x1), aI (iZ x2)] (am_hp σ) t (.inl (some (aI (iZ r1))), am_hp σ1, t)) (c2 : Ca d 178 [aR (some (40, 0, 0)), aI (iZ r1)] (am_hp σ1) t (.inl (some (aI (iZ r2))), am_hp σ2, t)) (h3 : -2147483648 ≤ r2 ∧ r2 < 2147483648) (w4 : r2 ≠ 0 → Wp k_X12_read d (15, [some (aR (some (40, 0, 0))), some (aI (iZ x1)), some (aI (iZ x2)), none], [], am_hp σ2, t) Q) (w5 : r2 = 0 → Wp k_X12_read d (13, [some (aR (some (40, 0, 0))), some (aI (iZ x1)), some (aI (iZ x2)), none], [], am_hp σ2, t) Q) : Wp k_X12_read d (0, [some (aR (some (40, 0, 0))), some (aI (iZ x1)), some (aI (iZ x2)), none], [], am_hp σ, t) Q := by
  refine w_s (c' := (1, [some (aR (some (40, 0, 0))), some (aI (iZ x1)), some (aI (iZ x2)), none], [aR (some (40, 0, 0))], am_hp σ, t)) rfl rfl ?_
  refine w_s (c' := (2, [some (aR (some (40, 0, 0))), some (aI (iZ x1)), some (aI (iZ x2)), none], [aR (some (40, 0, 0)), aR (some (40, 0, 0))], am_hp σ, t)) rfl rfl ?_
  refine w_s (c' := (3, [some (aR (some (40, 0, 0))), some (aI (iZ x1)), some (aI (iZ x2)), none], [aI (iZ x1), aR (some (40, 0, 0)), aR (some (40, 0, 0))], am_hp σ, t)) rfl rfl ?_
  refine w_s (c' := (4, [some (aR (some (40, 0, 0))), some (aI (iZ x1)), some (aI (iZ x2)), none], [aI (iZ x2), aI (iZ x1), aR (some (40, 0, 0)), aR (some (40, 0, 0))], am_hp σ, t)) rfl rfl ?_
  refine w_c0 (c' := (7, [some (aR (some (40, 0, 0))), some (aI (iZ x1)), some (aI (iZ x2)), none], [aI (iZ r1), aR (some (40, 0, 0))], am_hp σ1, t)) rfl rfl (rcv_of (hp_40 _ 0)) rfl c1 (Nat.le_refl _) rfl ?_
  refine w_c0 (c' := (10, [some (aR (some (40, 0, 0))), some (aI (iZ x1)), some (aI (iZ x2)), none], [aI (iZ r2)], am_hp σ2, t)) rfl rfl (rcv_of (hp_40 _ 0)) rfl c2 (Nat.le_refl _) rfl ?_
  exact w_ifne rfl h3 rfl w4 w5

theorem e_X12_read {x1 : Int} {x2 : Int} {h : AH} {t : KT} {d : Nat} {P : RS → Prop} (w : Wp k_X12_read d (0, [some (aR (some (40, 0, 0))), some (aI (iZ x1)), some (aI (iZ x2)), none], [], h, t) P) : ∃ r, Ca (d + 1) 277 [aR (some (40, 0, 0)), aI (iZ x1), aI (iZ x2)] h t r ∧ P r := ca_W rfl rfl rfl rfl w

theorem b_X12_read_13 {x1 : Int} {x2 : Int} {σ : SG} {t : KT} (q1 : Q (.inl (some (aI (iZ 0))), am_hp σ, t)) : Wp k_X12_read d (13, [some (aR (some (40, 0, 0))), some (aI (iZ x1)), some (aI (iZ x2)), none], [], am_hp σ, t) Q := by
  refine w_psh rfl zc_0 rfl ?_
  exact w_ret rfl rfl q1

theorem b_X12_read_15 {x1 : Int} {x2 : Int} {r1 : Int} {σ σ1 : SG} {t : KT} (c1 : Ca d 235 [aR (some (40, 0, 0)), aI (iZ x1)] (am_hp σ) t (.inl (some (aI (iZ r1))), am_hp σ1, t)) (h2 : -2147483648 ≤ r1 ∧ r1 < 2147483648) (w3 : r1 ≤ 0 → Wp k_X12_read d (38, [some (aR (some (40, 0, 0))), some (aI (iZ x1)), some (aI (iZ x2)), some (aI (iZ r1))], [aI (iZ (σ1.1 (40, 0, 0) 22)), aR (some (40, 0, 0))], am_hp σ1, t) Q) (w4 : 0 < r1 → Wp k_X12_read d (30, [some (aR (some (40, 0, 0))), some (aI (iZ x1)), some (aI (iZ x2)), some (aI (iZ r1))], [aI (iZ (σ1.1 (40, 0, 0) 22)), aR (some (40, 0, 0))], am_hp σ1, t) Q) : Wp k_X12_read d (15, [some (aR (some (40, 0, 0))), some (aI (iZ x1)), some (aI (iZ x2)), none], [], am_hp σ, t) Q := by
  refine w_s (c' := (16, [some (aR (some (40, 0, 0))), some (aI (iZ x1)), some (aI (iZ x2)), none], [aR (some (40, 0, 0))], am_hp σ, t)) rfl rfl ?_
  refine w_s (c' := (17, [some (aR (some (40, 0, 0))), some (aI (iZ x1)), some (aI (iZ x2)), none], [aI (iZ x1), aR (some (40, 0, 0))], am_hp σ, t)) rfl rfl ?_
  refine w_c0 (c' := (20, [some (aR (some (40, 0, 0))), some (aI (iZ x1)), some (aI (iZ x2)), none], [aI (iZ r1)], am_hp σ1, t)) rfl rfl (rcv_of (hp_40 _ 0)) rfl c1 (Nat.le_refl _) rfl ?_
  refine w_s (c' := (21, [some (aR (some (40, 0, 0))), some (aI (iZ x1)), some (aI (iZ x2)), some (aI (iZ r1))], [], am_hp σ1, t)) rfl rfl ?_
  refine w_s (c' := (22, [some (aR (some (40, 0, 0))), some (aI (iZ x1)), some (aI (iZ x2)), some (aI (iZ r1))], [aR (some (40, 0, 0))], am_hp σ1, t)) rfl rfl ?_
  refine w_s (c' := (23, [some (aR (some (40, 0, 0))), some (aI (iZ x1)), some (aI (iZ x2)), some (aI (iZ r1))], [aR (some (40, 0, 0)), aR (some (40, 0, 0))], am_hp σ1, t)) rfl rfl ?_
  refine w_get rfl (hp_40 _ 0) rfl rfl ?_
  refine w_s (c' := (27, [some (aR (some (40, 0, 0))), some (aI (iZ x1)), some (aI (iZ x2)), some (aI (iZ r1))], [aI (iZ r1), aI (iZ (σ1.1 (40, 0, 0) 22)), aR (some (40, 0, 0))], am_hp σ1, t)) rfl rfl ?_
  exact w_ifle rfl h2 rfl w3 w4

theorem b_X12_read_30 {x1 : Int} {x2 : Int} {x3 : Int} {xs0 : Int} {r1 : Int} {σ σ1 : SG} {t : KT} (c1 : Ca d 276 [aR (some (40, 0, 0)), aI (iZ x2)] (am_hp σ) t (.inl (some (aI (iZ r1))), am_hp σ1, t)) (w2 : Wp k_X12_read d (39, [some (aR (some (40, 0, 0))), some (aI (iZ x1)), some (aI (iZ x2)), some (aI (iZ x3))], [aI (iZ r1), aI (iZ xs0), aR (some (40, 0, 0))], am_hp σ1, t) Q) : Wp k_X12_read d (30, [some (aR (some (40, 0, 0))), some (aI (iZ x1)), some (aI (iZ x2)), some (aI (iZ x3))], [aI (iZ xs0), aR (some (40, 0, 0))], am_hp σ, t) Q := by
  refine w_s (c' := (31, [some (aR (some (40, 0, 0))), some (aI (iZ x1)), some (aI (iZ x2)), some (aI (iZ x3))], [aR (some (40, 0, 0)), aI (iZ xs0), aR (some (40, 0, 0))], am_hp σ, t)) rfl rfl ?_
  refine w_s (c' := (32, [some (aR (some (40, 0, 0))), some (aI (iZ x1)), some (aI (iZ x2)), some (aI (iZ x3))], [aI (iZ x2), aR (some (40, 0, 0)), aI (iZ xs0), aR (some (40, 0, 0))], am_hp σ, t)) rfl rfl ?_
  refine w_c0 (c' := (35, [some (aR (some (40, 0, 0))), some (aI (iZ x1)), some (aI (iZ x2)), some (aI (iZ x3))], [aI (iZ r1), aI (iZ xs0), aR (some (40, 0, 0))], am_hp σ1, t)) rfl rfl (rcv_of (hp_40 _ 0)) rfl c1 (Nat.le_refl _) rfl ?_
  refine w_s (c' := (39, [some (aR (some (40, 0, 0))), some (aI (iZ x1)), some (aI (iZ x2)), some (aI (iZ x3))], [aI (iZ r1), aI (iZ xs0), aR (some (40, 0, 0))], am_hp σ1, t)) rfl rfl ?_
  exact w2

theorem b_X12_read_38 {x1 : Int} {x2 : Int} {x3 : Int} {xs0 : Int} {σ : SG} {t : KT} (w1 : Wp k_X12_read d (39, [some (aR (some (40, 0, 0))), some (aI (iZ x1)), some (aI (iZ x2)), some (aI (iZ x3))], [aI (iZ 0), aI (iZ xs0), aR (some (40, 0, 0))], am_hp σ, t) Q) : Wp k_X12_read d (38, [some (aR (some (40, 0, 0))), some (aI (iZ x1)), some (aI (iZ x2)), some (aI (iZ x3))], [aI (iZ xs0), aR (some (40, 0, 0))], am_hp σ, t) Q := by
  refine w_psh rfl zc_0 rfl ?_
  exact w1

theorem b_X12_read_39 {x1 : Int} {x2 : Int} {x3 : Int} {xs0 : Int} {xs1 : Int} {σ : SG} {t : KT} (h1 : 0 ≤ x2 ∧ x2 < 120) (q2 : Q (.inl (some (aI (iZ (((sI σ (40, 0, 0) (up (σ.1 (40, 0, 0)) 22 (xs1 + xs0)))).1 (48, 0, 0) x2.toNat)))), am_hp ((sI σ (40, 0, 0) (up (σ.1 (40, 0, 0)) 22 (xs1 + xs0)))), t)) : Wp k_X12_read d (39, [some (aR (some (40, 0, 0))), some (aI (iZ x1)), some (aI (iZ x2)), some (aI (iZ x3))], [aI (iZ xs0), aI (iZ xs1), aR (some (40, 0, 0))], am_hp σ, t) Q := by
  refine w_iadd rfl rfl ?_
  refine w_putI rfl (hp_40 _ 0) rfl rfl rfl ?_
  refine w_s (c' := (44, [some (aR (some (40, 0, 0))), some (aI (iZ x1)), some (aI (iZ x2)), some (aI (iZ x3))], [aR (some (40, 0, 0))], am_hp ((sI σ (40, 0, 0) (up (σ.1 (40, 0, 0)) 22 (xs1 + xs0)))), t)) rfl rfl ?_
  refine w_get rfl (hp_40 _ 0) rfl rfl ?_
  refine w_s (c' := (48, [some (aR (some (40, 0, 0))), some (aI (iZ x1)), some (aI (iZ x2)), some (aI (iZ x3))], [aI (iZ x2), aR (some (48, 0, 0))], am_hp ((sI σ (40, 0, 0) (up (σ.1 (40, 0, 0)) 22 (xs1 + xs0)))), t)) rfl rfl ?_
  refine w_ial rfl (hp_48 _ 0 0) h1 rfl rfl ?_
  exact w_ret rfl rfl q2

theorem b_X12_readsAhead_0 {x1 : Int} {σ : SG} {t : KT} (w1 : Wp k_X12_readsAhead d (4, [some (aR (some (40, 0, 0))), some (aI (iZ x1)), some (aI (iZ 0)), some (aI (iZ 0)), none], [], am_hp σ, t) Q) : Wp k_X12_readsAhead d (0, [some (aR (some (40, 0, 0))), some (aI (iZ x1)), none, none, none], [], am_hp σ, t) Q := by
  refine w_psh rfl zc_0 rfl ?_
  refine w_s (c' := (2, [some (aR (some (40, 0, 0))), some (aI (iZ x1)), some (aI (iZ 0)), none, none], [], am_hp σ, t)) rfl rfl ?_
  refine w_psh rfl zc_0 rfl ?_
  refine w_s (c' := (4, [some (aR (some (40, 0, 0))), some (aI (iZ x1)), some (aI (iZ 0)), some (aI (iZ 0)), none], [], am_hp σ, t)) rfl rfl ?_
  exact w1

theorem e_X12_readsAhead {x1 : Int} {h : AH} {t : KT} {d : Nat} {P : RS → Prop} (w : Wp k_X12_readsAhead d (0, [some (aR (some (40, 0, 0))), some (aI (iZ x1)), none, none, none], [], h, t) P) : ∃ r, Ca (d + 1) 278 [aR (some (40, 0, 0)), aI (iZ x1)] h t r ∧ P r := ca_W rfl rfl rfl rfl w

theorem b_X12_readsAhead_4 {x1 : Int} {x2 : Int} {x3 : Int} {r1 : Int} {σ σ1 : SG} {t : KT} (c1 : Ca d 261 [aR (some (40, 0, 0))] (am_hp σ) t (.inl (some (aI (iZ r1))), am_hp σ1, t)) (h2 : -2147483648 ≤ x3 ∧ x3 < 2147483648) (h3 : -2147483648 ≤ r1 ∧ r1 < 2147483648) (w4 : r1 ≤ x3 → Wp k_X12_readsAhead d (44, [some (aR (some (40, 0, 0))), some (aI (iZ x1)), some (aI (iZ x2)), some (aI (iZ x3)), none], [], am_hp σ1, t) Q) (w5 : x3 < r1 → Wp k_X12_readsAhead d (12, [some (aR (some (40, 0, 0))), some (aI (iZ x1)), some (aI (iZ x2)), some (aI (iZ x3)), none], [], am_hp σ1, t) Q) : Wp k_X12_readsAhead d (4, [some (aR (some (40, 0, 0))), some (aI (iZ x1)), some (aI (iZ x2)), some (aI (iZ x3)), none], [], am_hp σ, t) Q := by
  refine w_s (c' := (5, [some (aR (some (40, 0, 0))), some (aI (iZ x1)), some (aI (iZ x2)), some (aI (iZ x3)), none], [aI (iZ x3)], am_hp σ, t)) rfl rfl ?_
  refine w_s (c' := (6, [some (aR (some (40, 0, 0))), some (aI (iZ x1)), some (aI (iZ x2)), some (aI (iZ x3)), none], [aR (some (40, 0, 0)), aI (iZ x3)], am_hp σ, t)) rfl rfl ?_
  refine w_c0 (c' := (9, [some (aR (some (40, 0, 0))), some (aI (iZ x1)), some (aI (iZ x2)), some (aI (iZ x3)), none], [aI (iZ r1), aI (iZ x3)], am_hp σ1, t)) rfl rfl (rcv_of (hp_40 _ 0)) rfl c1 (Nat.le_refl _) rfl ?_
  exact w_icge rfl h2 h3 rfl w4 w5

theorem b_X12_readsAhead_12 {x1 : Int} {x2 : Int} {x3 : Int} {σ : SG} {t : KT} (h1 : 0 ≤ x3 * (σ.1 (42, 0, 0) 2) ∧ x3 * (σ.1 (42, 0, 0) 2) < 121) (h2 : -2147483648 ≤ σ.1 (52, 0, 0) (x3 * (σ.1 (42, 0, 0) 2)).toNat ∧ σ.1 (52, 0, 0) (x3 * (σ.1 (42, 0, 0) 2)).toNat < 2147483648) (h3 : -2147483648 ≤ x1 ∧ x1 < 2147483648) (w4 : x1 < σ.1 (52, 0, 0) (x3 * (σ.1 (42, 0, 0) 2)).toNat → Wp k_X12_readsAhead d (38, [some (aR (some (40, 0, 0))), some (aI (iZ x1)), some (aI (iZ x2)), some (aI (iZ x3)), none], [], am_hp σ, t) Q) (w5 : σ.1 (52, 0, 0) (x3 * (σ.1 (42, 0, 0) 2)).toNat ≤ x1 → Wp k_X12_readsAhead d (29, [some (aR (some (40, 0, 0))), some (aI (iZ x1)), some (aI (iZ x2)), some (aI (iZ x3)), none], [], am_hp σ, t) Q) : Wp k_X12_readsAhead d (12, [some (aR (some (40, 0, 0))), some (aI (iZ x1)), some (aI (iZ x2)), some (aI (iZ x3)), none], [], am_hp σ, t) Q := by
  refine w_s (c' := (13, [some (aR (some (40, 0, 0))), some (aI (iZ x1)), some (aI (iZ x2)), some (aI (iZ x3)), none], [aR (some (40, 0, 0))], am_hp σ, t)) rfl rfl ?_
  refine w_get rfl (hp_40 _ 0) rfl rfl ?_
  refine w_s (c' := (17, [some (aR (some (40, 0, 0))), some (aI (iZ x1)), some (aI (iZ x2)), some (aI (iZ x3)), none], [aI (iZ x3), aR (some (52, 0, 0))], am_hp σ, t)) rfl rfl ?_
  refine w_s (c' := (18, [some (aR (some (40, 0, 0))), some (aI (iZ x1)), some (aI (iZ x2)), some (aI (iZ x3)), none], [aR (some (40, 0, 0)), aI (iZ x3), aR (some (52, 0, 0))], am_hp σ, t)) rfl rfl ?_
  refine w_get rfl (hp_40 _ 0) rfl rfl ?_
  refine w_psh rfl zc_2 rfl ?_
  refine w_ial rfl (hp_42 _ 0 0) (by decide) rfl rfl ?_
  refine w_e (c' := (23, [some (aR (some (40, 0, 0))), some (aI (iZ x1)), some (aI (iZ x2)), some (aI (iZ x3)), none], [aI (iZ (σ.1 (42, 0, 0) 2)), aI (iZ x3), aR (some (52, 0, 0))], am_hp σ, t)) rfl ?_
  refine w_imul rfl rfl ?_
  refine w_ial rfl (hp_52 _ 0 0) h1 rfl rfl ?_
  refine w_s (c' := (26, [some (aR (some (40, 0, 0))), some (aI (iZ x1)), some (aI (iZ x2)), some (aI (iZ x3)), none], [aI (iZ x1), aI (iZ (σ.1 (52, 0, 0) (x3 * (σ.1 (42, 0, 0) 2)).toNat))], am_hp σ, t)) rfl rfl ?_
  exact w_icgt rfl h2 h3 rfl w4 w5

theorem b_X12_readsAhead_29 {x1 : Int} {x2 : Int} {x3 : Int} {σ : SG} {t : KT} (w1 : Wp k_X12_readsAhead d (38, [some (aR (some (40, 0, 0))), some (aI (iZ x1)), some (aI (iZ (x3 * (σ.1 (42, 0, 0) 2)))), some (aI (iZ x3)), none], [], am_hp σ, t) Q) : Wp k_X12_readsAhead d (29, [some (aR (some (40, 0, 0))), some (aI (iZ x1)), some (aI (iZ x2)), some (aI (iZ x3)), none], [], am_hp σ, t) Q := by
  refine w_s (c' := (30, [some (aR (some (40, 0, 0))), some (aI (iZ x1)), some (aI (iZ x2)), some (aI (iZ x3)), none], [aI (iZ x3)], am_hp σ, t)) rfl rfl ?_
  refine w_s (c' := (31, [some (aR (some (40, 0, 0))), some (aI (iZ x1)), some (aI (iZ x2)), some (aI (iZ x3)), none], [aR (some (40, 0, 0)), aI (iZ x3)], am_hp σ, t)) rfl rfl ?_
  refine w_get rfl (hp_40 _ 0) rfl rfl ?_
  refine w_psh rfl zc_2 rfl ?_
  refine w_ial rfl (hp_42 _ 0 0) (by decide) rfl rfl ?_
  refine w_e (c' := (36, [some (aR (some (40, 0, 0))), some (aI (iZ x1)), some (aI (iZ x2)), some (aI (iZ x3)), none], [aI (iZ (σ.1 (42, 0, 0) 2)), aI (iZ x3)], am_hp σ, t)) rfl ?_
  refine w_imul rfl rfl ?_
  refine w_s (c' := (38, [some (aR (some (40, 0, 0))), some (aI (iZ x1)), some (aI (iZ (x3 * (σ.1 (42, 0, 0) 2)))), some (aI (iZ x3)), none], [], am_hp σ, t)) rfl rfl ?_
  exact w1

theorem b_X12_readsAhead_38 {x1 : Int} {x2 : Int} {x3 : Int} {σ : SG} {t : KT} (w1 : Wp k_X12_readsAhead d (4, [some (aR (some (40, 0, 0))), some (aI (iZ x1)), some (aI (iZ x2)), some (aI (iZ (x3 + 1))), none], [], am_hp σ, t) Q) : Wp k_X12_readsAhead d (38, [some (aR (some (40, 0, 0))), some (aI (iZ x1)), some (aI (iZ x2)), some (aI (iZ x3)), none], [], am_hp σ, t) Q := by
  refine w_inc (a := x3) (ls' := [some (aR (some (40, 0, 0))), some (aI (iZ x1)), some (aI (iZ x2)), some (aI (iZ (x3 + 1))), none]) rfl rfl rfl zc_1 rfl rfl ?_
  refine w_s (c' := (4, [some (aR (some (40, 0, 0))), some (aI (iZ x1)), some (aI (iZ x2)), some (aI (iZ (x3 + 1))), none], [], am_hp σ, t)) rfl rfl ?_
  exact w1

theorem b_X12_readsAhead_44 {x1 : Int} {x2 : Int} {x3 : Int} {σ : SG} {t : KT} (w1 : Wp k_X12_readsAhead d (49, [some (aR (some (40, 0, 0))), some (aI (iZ x1)), some (aI (iZ x2)), some (aI (iZ 0)), some (aI (iZ x2))], [], am_hp σ, t) Q) : Wp k_X12_readsAhead d (44, [some (aR (some (40, 0, 0))), some (aI (iZ x1)), some (aI (iZ x2)), some (aI (iZ x3)), none], [], am_hp σ, t) Q := by
  refine w_psh rfl zc_0 rfl ?_
  refine w_s (c' := (46, [some (aR (some (40, 0, 0))), some (aI (iZ x1)), some (aI (iZ x2)), some (aI (iZ 0)), none], [], am_hp σ, t)) rfl rfl ?_
  refine w_s (c' := (47, [some (aR (some (40, 0, 0))), some (aI (iZ x1)), some (aI (iZ x2)), some (aI (iZ 0)), none], [aI (iZ x2)], am_hp σ, t)) rfl rfl ?_
  refine w_s (c' := (49, [some (aR (some (40, 0, 0))), some (aI (iZ x1)), some (aI (iZ x2)), some (aI (iZ 0)), some (aI (iZ x2))], [], am_hp σ, t)) rfl rfl ?_
  exact w1

theorem b_X12_readsAhead_49 {x1 : Int} {x2 : Int} {x3 : Int} {x4 : Int} {σ : SG} {t : KT} (h1 : -2147483648 ≤ x4 ∧ x4 < 2147483648) (h2 : -2147483648 ≤ σ.1 (40, 0, 0) 34 ∧ σ.1 (40, 0, 0) 34 < 2147483648) (w3 : σ.1 (40, 0, 0) 34 ≤ x4 → Wp k_X12_readsAhead d (86, [some (aR (some (40, 0, 0))), some (aI (iZ x1)), some (aI (iZ x2)), some (aI (iZ x3)), some (aI (iZ x4))], [], am_hp σ, t) Q) (w4 : x4 < σ.1 (40, 0, 0) 34 → Wp k_X12_readsAhead d (58, [some (aR (some (40, 0, 0))), some (aI (iZ x1)), some (aI (iZ x2)), some (aI (iZ x3)), some (aI (iZ x4))], [], am_hp σ, t) Q) : Wp k_X12_readsAhead d (49, [some (aR (some (40, 0, 0))), some (aI (iZ x1)), some (aI (iZ x2)), some (aI (iZ x3)), some (aI (iZ x4))], [], am_hp σ, t) Q := by
  refine w_s (c' := (51, [some (aR (some (40, 0, 0))), some (aI (iZ x1)), some (aI (iZ x2)), some (aI (iZ x3)), some (aI (iZ x4))], [aI (iZ x4)], am_hp σ, t)) rfl rfl ?_
  refine w_s (c' := (52, [some (aR (some (40, 0, 0))), some (aI (iZ x1)), some (aI (iZ x2)), some (aI (iZ x3)), some (aI (iZ x4))], [aR (some (40, 0, 0)), aI (iZ x4)], am_hp σ, t)) rfl rfl ?_
  refine w_get rfl (hp_40 _ 0) rfl rfl ?_
  exact w_icge rfl h1 h2 rfl w3 w4

theorem b_X12_readsAhead_58 {x1 : Int} {x2 : Int} {x3 : Int} {x4 : Int} {σ : SG} {t : KT} (h1 : 0 ≤ x4 ∧ x4 < 121) (h2 : -2147483648 ≤ σ.1 (52, 0, 0) x4.toNat ∧ σ.1 (52, 0, 0) x4.toNat < 2147483648) (h3 : -2147483648 ≤ x1 ∧ x1 < 2147483648) (w4 : x1 ≤ σ.1 (52, 0, 0) x4.toNat → Wp k_X12_readsAhead d (74, [some (aR (some (40, 0, 0))), some (aI (iZ x1)), some (aI (iZ x2)), some (aI (iZ x3)), some (aI (iZ x4))], [aI (iZ x3)], am_hp σ, t) Q) (w5 : σ.1 (52, 0, 0) x4.toNat < x1 → Wp k_X12_readsAhead d (70, [some (aR (some (40, 0, 0))), some (aI (iZ x1)), some (aI (iZ x2)), some (aI (iZ x3)), some (aI (iZ x4))], [aI (iZ x3)], am_hp σ, t) Q) : Wp k_X12_readsAhead d (58, [some (aR (some (40, 0, 0))), some (aI (iZ x1)), some (aI (iZ x2)), some (aI (iZ x3)), some (aI (iZ x4))], [], am_hp σ, t) Q := by
  refine w_s (c' := (59, [some (aR (some (40, 0, 0))), some (aI (iZ x1)), some (aI (iZ x2)), some (aI (iZ x3)), some (aI (iZ x4))], [aI (iZ x3)], am_hp σ, t)) rfl rfl ?_
  refine w_s (c' := (60, [some (aR (some (40, 0, 0))), some (aI (iZ x1)), some (aI (iZ x2)), some (aI (iZ x3)), some (aI (iZ x4))], [aR (some (40, 0, 0)), aI (iZ x3)], am_hp σ, t)) rfl rfl ?_
  refine w_get rfl (hp_40 _ 0) rfl rfl ?_
  refine w_s (c' := (65, [some (aR (some (40, 0, 0))), some (aI (iZ x1)), some (aI (iZ x2)), some (aI (iZ x3)), some (aI (iZ x4))], [aI (iZ x4), aR (some (52, 0, 0)), aI (iZ x3)], am_hp σ, t)) rfl rfl ?_
  refine w_ial rfl (hp_52 _ 0 0) h1 rfl rfl ?_
  refine w_s (c' := (67, [some (aR (some (40, 0, 0))), some (aI (iZ x1)), some (aI (iZ x2)), some (aI (iZ x3)), some (aI (iZ x4))], [aI (iZ x1), aI (iZ (σ.1 (52, 0, 0) x4.toNat)), aI (iZ x3)], am_hp σ, t)) rfl rfl ?_
  exact w_icge rfl h2 h3 rfl w4 w5

theorem b_X12_readsAhead_70 {x1 : Int} {x2 : Int} {x3 : Int} {x4 : Int} {xs0 : Int} {σ : SG} {t : KT} (w1 : Wp k_X12_readsAhead d (75, [some (aR (some (40, 0, 0))), some (aI (iZ x1)), some (aI (iZ x2)), some (aI (iZ x3)), some (aI (iZ x4))], [aI (iZ 1), aI (iZ xs0)], am_hp σ, t) Q) : Wp k_X12_readsAhead d (70, [some (aR (some (40, 0, 0))), some (aI (iZ x1)), some (aI (iZ x2)), some (aI (iZ x3)), some (aI (iZ x4))], [aI (iZ xs0)], am_hp σ, t) Q := by
  refine w_psh rfl zc_1 rfl ?_
  refine w_s (c' := (75, [some (aR (some (40, 0, 0))), some (aI (iZ x1)), some (aI (iZ x2)), some (aI (iZ x3)), some (aI (iZ x4))], [aI (iZ 1), aI (iZ xs0)], am_hp σ, t)) rfl rfl ?_
  exact w1

theorem b_X12_readsAhead_74 {x1 : Int} {x2 : Int} {x3 : Int} {x4 : Int} {xs0 : Int} {σ : SG} {t : KT} (w1 : Wp k_X12_readsAhead d (75, [some (aR (some (40, 0, 0))), some (aI (iZ x1)), some (aI (iZ x2)), some (aI (iZ x3)), some (aI (iZ x4))], [aI (iZ 0), aI (iZ xs0)], am_hp σ, t) Q) : Wp k_X12_readsAhead d (74, [some (aR (some (40, 0, 0))), some (aI (iZ x1)), some (aI (iZ x2)), some (aI (iZ x3)), some (aI (iZ x4))], [aI (iZ xs0)], am_hp σ, t) Q := by
  refine w_psh rfl zc_0 rfl ?_
  exact w1

theorem b_X12_readsAhead_75 {x1 : Int} {x2 : Int} {x3 : Int} {x4 : Int} {xs0 : Int} {xs1 : Int} {r1 : Int} {σ σ1 : SG} {t : KT} (c1 : Ca d 176 [aI (iZ xs0)] (am_hp σ) t (.inl (some (aI (iZ r1))), am_hp σ1, t)) (w2 : Wp k_X12_readsAhead d (49, [some (aR (some (40, 0, 0))), some (aI (iZ x1)), some (aI (iZ x2)), some (aI (iZ (xs1 + r1))), some (aI (iZ (x4 + 1)))], [], am_hp σ1, t) Q) : Wp k_X12_readsAhead d (75, [some (aR (some (40, 0, 0))), some (aI (iZ x1)), some (aI (iZ x2)), some (aI (iZ x3)), some (aI (iZ x4))], [aI (iZ xs0), aI (iZ xs1)], am_hp σ, t) Q := by
  refine w_c0 (c' := (78, [some (aR (some (40, 0, 0))), some (aI (iZ x1)), some (aI (iZ x2)), some (aI (iZ x3)), some (aI (iZ x4))], [aI (iZ r1), aI (iZ xs1)], am_hp σ1, t)) rfl rfl rfl rfl c1 (Nat.le_refl _) rfl ?_
  refine w_iadd rfl rfl ?_
  refine w_s (c' := (80, [some (aR (some (40, 0, 0))), some (aI (iZ x1)), some (aI (iZ x2)), some (aI (iZ (xs1 + r1))), some (aI (iZ x4))], [], am_hp σ1, t)) rfl rfl ?_
  refine w_inc (a := x4) (ls' := [some (aR (some (40, 0, 0))), some (aI (iZ x1)), some (aI (iZ x2)), some (aI (iZ (xs1 + r1))), some (aI (iZ (x4 + 1)))]) rfl rfl rfl zc_1 rfl rfl ?_
  refine w_s (c' := (49, [some (aR (some (40, 0, 0))), some (aI (iZ x1)), some (aI (iZ x2)), some (aI (iZ (xs1 + r1))), some (aI (iZ (x4 + 1)))], [], am_hp σ1, t)) rfl rfl ?_
  exact w2

theorem b_X12_readsAhead_86 {x1 : Int} {x2 : Int} {x3 : Int} {x4 : Int} {σ : SG} {t : KT} (q1 : Q (.inl (some (aI (iZ x3))), am_hp σ, t)) : Wp k_X12_readsAhead d (86, [some (aR (some (40, 0, 0))), some (aI (iZ x1)), some (aI (iZ x2)), some (aI (iZ x3)), some (aI (iZ x4))], [], am_hp σ, t) Q := by
  refine w_s (c' := (87, [some (aR (some (40, 0, 0))), some (aI (iZ x1)), some (aI (iZ x2)), some (aI (iZ x3)), some (aI (iZ x4))], [aI (iZ x3)], am_hp σ, t)) rfl rfl ?_
  exact w_ret rfl rfl q1

theorem b_X12_sum_0 {x1 : Int} {x2 : Int} {x3 : Int} {r1 : Int} {σ σ1 : SG} {t : KT} (c1 : Ca d 217 [aR (some (40, 0, 0)), aI (iZ x1)] (am_hp σ) t (.inl (some (aI (iZ r1))), am_hp σ1, t)) (h2 : -2147483648 ≤ r1 ∧ r1 < 2147483648) (w3 : r1 = 0 → Wp k_X12_sum d (37, [some (aR (some (40, 0, 0))), some (aI (iZ x1)), some (aI (iZ x2)), some (aI (iZ x3)), some (aI (iZ r1)), none], [aI (iZ r1), aR (some (40, 0, 0))], am_hp σ1, t) Q) (w4 : r1 ≠ 0 → Wp k_X12_sum d (15, [some (aR (some (40, 0, 0))), some (aI (iZ x1)), some (aI (iZ x2)), some (aI (iZ x3)), some (aI (iZ r1)), none], [aI (iZ r1), aR (some (40, 0, 0))], am_hp σ1, t) Q) : Wp k_X12_sum d (0, [some (aR (some (40, 0, 0))), some (aI (iZ x1)), some (aI (iZ x2)), some (aI (iZ x3)), none, none], [], am_hp σ, t) Q := by
  refine w_s (c' := (1, [some (aR (some (40, 0, 0))), some (aI (iZ x1)), some (aI (iZ x2)), some (aI (iZ x3)), none, none], [aR (some (40, 0, 0))], am_hp σ, t)) rfl rfl ?_
  refine w_s (c' := (2, [some (aR (some (40, 0, 0))), some (aI (iZ x1)), some (aI (iZ x2)), some (aI (iZ x3)), none, none], [aI (iZ x1), aR (some (40, 0, 0))], am_hp σ, t)) rfl rfl ?_
  refine w_c0 (c' := (5, [some (aR (some (40, 0, 0))), some (aI (iZ x1)), some (aI (iZ x2)), some (aI (iZ x3)), none, none], [aI (iZ r1)], am_hp σ1, t)) rfl rfl (rcv_of (hp_40 _ 0)) rfl c1 (Nat.le_refl _) rfl ?_
  refine w_s (c' := (7, [some (aR (some (40, 0, 0))), some (aI (iZ x1)), some (aI (iZ x2)), some (aI (iZ x3)), some (aI (iZ r1)), none], [], am_hp σ1, t)) rfl rfl ?_
  refine w_s (c' := (8, [some (aR (some (40, 0, 0))), some (aI (iZ x1)), some (aI (iZ x2)), some (aI (iZ x3)), some (aI (iZ r1)), none], [aR (some (40, 0, 0))], am_hp σ1, t)) rfl rfl ?_
  refine w_s (c' := (10, [some (aR (some (40, 0, 0))), some (aI (iZ x1)), some (aI (iZ x2)), some (aI (iZ x3)), some (aI (iZ r1)), none], [aI (iZ r1), aR (some (40, 0, 0))], am_hp σ1, t)) rfl rfl ?_
  refine w_s (c' := (12, [some (aR (some (40, 0, 0))), some (aI (iZ x1)), some (aI (iZ x2)), some (aI (iZ x3)), some (aI (iZ r1)), none], [aI (iZ r1), aI (iZ r1), aR (some (40, 0, 0))], am_hp σ1, t)) rfl rfl ?_
  exact w_ifeq rfl h2 rfl w3 w4

theorem e_X12_sum {x1 : Int} {x2 : Int} {x3 : Int} {h : AH} {t : KT} {d : Nat} {P : RS → Prop} (w : Wp k_X12_sum d (0, [some (aR (some (40, 0, 0))), some (aI (iZ x1)), some (aI (iZ x2)), some (aI (iZ x3)), none, none], [], h, t) P) : ∃ r, Ca (d + 1) 279 [aR (some (40, 0, 0)), aI (iZ x1), aI (iZ x2), aI (iZ x3)] h t r ∧ P r := ca_W rfl rfl rfl rfl w

theorem b_X12_sum_15 {x1 : Int} {x2 : Int} {x3 : Int} {x4 : Int} {xs0 : Int} {σ : SG} {t : KT} (h1 : -2147483648 ≤ x2 ∧ x2 < 2147483648) (w2 : x2 < 0 → Wp k_X12_sum d (37, [some (aR (some (40, 0, 0))), some (aI (iZ x1)), some (aI (iZ x2)), some (aI (iZ x3)), some (aI (iZ x4)), none], [aI (iZ xs0), aR (some (40, 0, 0))], am_hp σ, t) Q) (w3 : 0 ≤ x2 → Wp k_X12_sum d (19, [some (aR (some (40, 0, 0))), some (aI (iZ x1)), some (aI (iZ x2)), some (aI (iZ x3)), some (aI (iZ x4)), none], [aI (iZ xs0), aR (some (40, 0, 0))], am_hp σ, t) Q) : Wp k_X12_sum d (15, [some (aR (some (40, 0, 0))), some (aI (iZ x1)), some (aI (iZ x2)), some (aI (iZ x3)), some (aI (iZ x4)), none], [aI (iZ xs0), aR (some (40, 0, 0))], am_hp σ, t) Q := by
  refine w_s (c' := (16, [some (aR (some (40, 0, 0))), some (aI (iZ x1)), some (aI (iZ x2)), some (aI (iZ x3)), some (aI (iZ x4)), none], [aI (iZ x2), aI (iZ xs0), aR (some (40, 0, 0))], am_hp σ, t)) rfl rfl ?_
  exact w_iflt rfl h1 rfl w2 w3

theorem b_X12_sum_19 {x1 : Int} {x2 : Int} {x3 : Int} {x4 : Int} {xs0 : Int} {σ : SG} {t : KT} (h1 : -2147483648 ≤ x2 ∧ x2 < 2147483648) (h2 : -2147483648 ≤ x3 ∧ x3 < 2147483648) (w3 : x3 < x2 → Wp k_X12_sum d (37, [some (aR (some (40, 0, 0))), some (aI (iZ x1)), some (aI (iZ x2)), some (aI (iZ x3)), some (aI (iZ x4)), none], [aI (iZ xs0), aR (some (40, 0, 0))], am_hp σ, t) Q) (w4 : x2 ≤ x3 → Wp k_X12_sum d (24, [some (aR (some (40, 0, 0))), some (aI (iZ x1)), some (aI (iZ x2)), some (aI (iZ x3)), some (aI (iZ x4)), none], [aI (iZ xs0), aR (some (40, 0, 0))], am_hp σ, t) Q) : Wp k_X12_sum d (19, [some (aR (some (40, 0, 0))), some (aI (iZ x1)), some (aI (iZ x2)), some (aI (iZ x3)), some (aI (iZ x4)), none], [aI (iZ xs0), aR (some (40, 0, 0))], am_hp σ, t) Q := by
  refine w_s (c' := (20, [some (aR (some (40, 0, 0))), some (aI (iZ x1)), some (aI (iZ x2)), some (aI (iZ x3)), some (aI (iZ x4)), none], [aI (iZ x2), aI (iZ xs0), aR (some (40, 0, 0))], am_hp σ, t)) rfl rfl ?_
  refine w_s (c' := (21, [some (aR (some (40, 0, 0))), some (aI (iZ x1)), some (aI (iZ x2)), some (aI (iZ x3)), some (aI (iZ x4)), none], [aI (iZ x3), aI (iZ x2), aI (iZ xs0), aR (some (40, 0, 0))], am_hp σ, t)) rfl rfl ?_
  exact w_icgt rfl h1 h2 rfl w3 w4

theorem b_X12_sum_24 {x1 : Int} {x2 : Int} {x3 : Int} {x4 : Int} {xs0 : Int} {r1 : Int} {σ σ1 : SG} {t : KT} (c1 : Ca d 214 [aR (some (40, 0, 0)), aI (iZ x1)] (am_hp σ) t (.inl (some (aI (iZ r1))), am_hp σ1, t)) (h2 : -2147483648 ≤ x3 ∧ x3 < 2147483648) (h3 : -2147483648 ≤ r1 ∧ r1 < 2147483648) (w4 : r1 < x3 → Wp k_X12_sum d (37, [some (aR (some (40, 0, 0))), some (aI (iZ x1)), some (aI (iZ x2)), some (aI (iZ x3)), some (aI (iZ x4)), none], [aI (iZ xs0), aR (some (40, 0, 0))], am_hp σ1, t) Q) (w5 : x3 ≤ r1 → Wp k_X12_sum d (33, [some (aR (some (40, 0, 0))), some (aI (iZ x1)), some (aI (iZ x2)), some (aI (iZ x3)), some (aI (iZ x4)), none], [aI (iZ xs0), aR (some (40, 0, 0))], am_hp σ1, t) Q) : Wp k_X12_sum d (24, [some (aR (some (40, 0, 0))), some (aI (iZ x1)), some (aI (iZ x2)), some (aI (iZ x3)), some (aI (iZ x4)), none], [aI (iZ xs0), aR (some (40, 0, 0))], am_hp σ, t) Q := by
  refine w_s (c' := (25, [some (aR (some (40, 0, 0))), some (aI (iZ x1)), some (aI (iZ x2)), some (aI (iZ x3)), some (aI (iZ x4)), none], [aI (iZ x3), aI (iZ xs0), aR (some (40, 0, 0))], am_hp σ, t)) rfl rfl ?_
  refine w_s (c' := (26, [some (aR (some (40, 0, 0))), some (aI (iZ x1)), some (aI (iZ x2)), some (aI (iZ x3)), some (aI (iZ x4)), none], [aR (some (40, 0, 0)), aI (iZ x3), aI (iZ xs0), aR (some (40, 0, 0))], am_hp σ, t)) rfl rfl ?_
  refine w_s (c' := (27, [some (aR (some (40, 0, 0))), some (aI (iZ x1)), some (aI (iZ x2)), some (aI (iZ x3)), some (aI (iZ x4)), none], [aI (iZ x1), aR (some (40, 0, 0)), aI (iZ x3), aI (iZ xs0), aR (some (40, 0, 0))], am_hp σ, t)) rfl rfl ?_
  refine w_c0 (c' := (30, [some (aR (some (40, 0, 0))), some (aI (iZ x1)), some (aI (iZ x2)), some (aI (iZ x3)), some (aI (iZ x4)), none], [aI (iZ r1), aI (iZ x3), aI (iZ xs0), aR (some (40, 0, 0))], am_hp σ1, t)) rfl rfl (rcv_of (hp_40 _ 0)) rfl c1 (Nat.le_refl _) rfl ?_
  exact w_icgt rfl h2 h3 rfl w4 w5

theorem b_X12_sum_33 {x1 : Int} {x2 : Int} {x3 : Int} {x4 : Int} {xs0 : Int} {σ : SG} {t : KT} (w1 : Wp k_X12_sum d (38, [some (aR (some (40, 0, 0))), some (aI (iZ x1)), some (aI (iZ x2)), some (aI (iZ x3)), some (aI (iZ x4)), none], [aI (iZ 1), aI (iZ xs0), aR (some (40, 0, 0))], am_hp σ, t) Q) : Wp k_X12_sum d (33, [some (aR (some (40, 0, 0))), some (aI (iZ x1)), some (aI (iZ x2)), some (aI (iZ x3)), some (aI (iZ x4)), none], [aI (iZ xs0), aR (some (40, 0, 0))], am_hp σ, t) Q := by
  refine w_psh rfl zc_1 rfl ?_
  refine w_s (c' := (38, [some (aR (some (40, 0, 0))), some (aI (iZ x1)), some (aI (iZ x2)), some (aI (iZ x3)), some (aI (iZ x4)), none], [aI (iZ 1), aI (iZ xs0), aR (some (40, 0, 0))], am_hp σ, t)) rfl rfl ?_
  exact w1

theorem b_X12_sum_37 {x1 : Int} {x2 : Int} {x3 : Int} {x4 : Int} {xs0 : Int} {σ : SG} {t : KT} (w1 : Wp k_X12_sum d (38, [some (aR (some (40, 0, 0))), some (aI (iZ x1)), some (aI (iZ x2)), some (aI (iZ x3)), some (aI (iZ x4)), none], [aI (iZ 0), aI (iZ xs0), aR (some (40, 0, 0))], am_hp σ, t) Q) : Wp k_X12_sum d (37, [some (aR (some (40, 0, 0))), some (aI (iZ x1)), some (aI (iZ x2)), some (aI (iZ x3)), some (aI (iZ x4)), none], [aI (iZ xs0), aR (some (40, 0, 0))], am_hp σ, t) Q := by
  refine w_psh rfl zc_0 rfl ?_
  exact w1

theorem b_X12_sum_38 {x1 : Int} {x2 : Int} {x3 : Int} {x4 : Int} {xs0 : Int} {xs1 : Int} {r1 : Int} {σ σ1 : SG} {t : KT} (c1 : Ca d 179 [aR (some (40, 0, 0)), aI (iZ xs1), aI (iZ xs0)] (am_hp σ) t (.inl (some (aI (iZ r1))), am_hp σ1, t)) (h2 : -2147483648 ≤ r1 ∧ r1 < 2147483648) (w3 : r1 ≠ 0 → Wp k_X12_sum d (46, [some (aR (some (40, 0, 0))), some (aI (iZ x1)), some (aI (iZ x2)), some (aI (iZ x3)), some (aI (iZ x4)), none], [], am_hp σ1, t) Q) (w4 : r1 = 0 → Wp k_X12_sum d (44, [some (aR (some (40, 0, 0))), some (aI (iZ x1)), some (aI (iZ x2)), some (aI (iZ x3)), some (aI (iZ x4)), none], [], am_hp σ1, t) Q) : Wp k_X12_sum d (38, [some (aR (some (40, 0, 0))), some (aI (iZ x1)), some (aI (iZ x2)), some (aI (iZ x3)), some (aI (iZ x4)), none], [aI (iZ xs0), aI (iZ xs1), aR (some (40, 0, 0))], am_hp σ, t) Q := by
  refine w_c0 (c' := (41, [some (aR (some (40, 0, 0))), some (aI (iZ x1)), some (aI (iZ x2)), some (aI (iZ x3)), some (aI (iZ x4)), none], [aI (iZ r1)], am_hp σ1, t)) rfl rfl (rcv_of (hp_40 _ 0)) rfl c1 (Nat.le_refl _) rfl ?_
  exact w_ifne rfl h2 rfl w3 w4

theorem b_X12_sum_44 {x1 : Int} {x2 : Int} {x3 : Int} {x4 : Int} {σ : SG} {t : KT} (q1 : Q (.inl (some (aL (jZ 0))), am_hp σ, t)) : Wp k_X12_sum d (44, [some (aR (some (40, 0, 0))), some (aI (iZ x1)), some (aI (iZ x2)), some (aI (iZ x3)), some (aI (iZ x4)), none], [], am_hp σ, t) Q := by
  refine w_psL rfl yc_0 rfl ?_
  exact w_ret rfl rfl q1

theorem b_X12_sum_46 {x1 : Int} {x2 : Int} {x3 : Int} {x4 : Int} {r1 : Int} {σ σ1 : SG} {t : KT} (c1 : Ca d 235 [aR (some (40, 0, 0)), aI (iZ x1)] (am_hp σ) t (.inl (some (aI (iZ r1))), am_hp σ1, t)) (h2 : -2147483648 ≤ r1 ∧ r1 < 2147483648) (w3 : r1 ≠ 0 → Wp k_X12_sum d (67, [some (aR (some (40, 0, 0))), some (aI (iZ x1)), some (aI (iZ x2)), some (aI (iZ x3)), some (aI (iZ x4)), some (aI (iZ r1))], [aI (iZ (σ1.1 (40, 0, 0) 22)), aR (some (40, 0, 0))], am_hp σ1, t) Q) (w4 : r1 = 0 → Wp k_X12_sum d (63, [some (aR (some (40, 0, 0))), some (aI (iZ x1)), some (aI (iZ x2)), some (aI (iZ x3)), some (aI (iZ x4)), some (aI (iZ r1))], [aI (iZ (σ1.1 (40, 0, 0) 22)), aR (some (40, 0, 0))], am_hp σ1, t) Q) : Wp k_X12_sum d (46, [some (aR (some (40, 0, 0))), some (aI (iZ x1)), some (aI (iZ x2)), some (aI (iZ x3)), some (aI (iZ x4)), none], [], am_hp σ, t) Q := by
  refine w_s (c' := (47, [some (aR (some (40, 0, 0))), some (aI (iZ x1)), some (aI (iZ x2)), some (aI (iZ x3)), some (aI (iZ x4)), none], [aR (some (40, 0, 0))], am_hp σ, t)) rfl rfl ?_
  refine w_s (c' := (48, [some (aR (some (40, 0, 0))), some (aI (iZ x1)), some (aI (iZ x2)), some (aI (iZ x3)), some (aI (iZ x4)), none], [aI (iZ x1), aR (some (40, 0, 0))], am_hp σ, t)) rfl rfl ?_
  refine w_c0 (c' := (51, [some (aR (some (40, 0, 0))), some (aI (iZ x1)), some (aI (iZ x2)), some (aI (iZ x3)), some (aI (iZ x4)), none], [aI (iZ r1)], am_hp σ1, t)) rfl rfl (rcv_of (hp_40 _ 0)) rfl c1 (Nat.le_refl _) rfl ?_
  refine w_s (c' := (53, [some (aR (some (40, 0, 0))), some (aI (iZ x1)), some (aI (iZ x2)), some (aI (iZ x3)), some (aI (iZ x4)), some (aI (iZ r1))], [], am_hp σ1, t)) rfl rfl ?_
  refine w_s (c' := (54, [some (aR (some (40, 0, 0))), some (aI (iZ x1)), some (aI (iZ x2)), some (aI (iZ x3)), some (aI (iZ x4)), some (aI (iZ r1))], [aR (some (40, 0, 0))], am_hp σ1, t)) rfl rfl ?_
  refine w_s (c' := (55, [some (aR (some (40, 0, 0))), some (aI (iZ x1)), some (aI (iZ x2)), some (aI (iZ x3)), some (aI (iZ x4)), some (aI (iZ r1))], [aR (some (40, 0, 0)), aR (some (40, 0, 0))], am_hp σ1, t)) rfl rfl ?_
  refine w_get rfl (hp_40 _ 0) rfl rfl ?_
  refine w_s (c' := (60, [some (aR (some (40, 0, 0))), some (aI (iZ x1)), some (aI (iZ x2)), some (aI (iZ x3)), some (aI (iZ x4)), some (aI (iZ r1))], [aI (iZ r1), aI (iZ (σ1.1 (40, 0, 0) 22)), aR (some (40, 0, 0))], am_hp σ1, t)) rfl rfl ?_
  exact w_ifne rfl h2 rfl w3 w4

theorem b_X12_sum_63 {x1 : Int} {x2 : Int} {x3 : Int} {x4 : Int} {x5 : Int} {xs0 : Int} {σ : SG} {t : KT} (w1 : Wp k_X12_sum d (78, [some (aR (some (40, 0, 0))), some (aI (iZ x1)), some (aI (iZ x2)), some (aI (iZ x3)), some (aI (iZ x4)), some (aI (iZ x5))], [aI (iZ 0), aI (iZ xs0), aR (some (40, 0, 0))], am_hp σ, t) Q) : Wp k_X12_sum d (63, [some (aR (some (40, 0, 0))), some (aI (iZ x1)), some (aI (iZ x2)), some (aI (iZ x3)), some (aI (iZ x4)), some (aI (iZ x5))], [aI (iZ xs0), aR (some (40, 0, 0))], am_hp σ, t) Q := by
  refine w_psh rfl zc_0 rfl ?_
  refine w_s (c' := (78, [some (aR (some (40, 0, 0))), some (aI (iZ x1)), some (aI (iZ x2)), some (aI (iZ x3)), some (aI (iZ x4)), some (aI (iZ x5))], [aI (iZ 0), aI (iZ xs0), aR (some (40, 0, 0))], am_hp σ, t)) rfl rfl ?_
  exact w1

theorem b_X12_sum_67 {x1 : Int} {x2 : Int} {x3 : Int} {x4 : Int} {x5 : Int} {xs0 : Int} {r1 : Int} {r2 : Int} {σ σ1 σ2 : SG} {t : KT} (c1 : Ca d 278 [aR (some (40, 0, 0)), aI (iZ x2)] (am_hp σ) t (.inl (some (aI (iZ r1))), am_hp σ1, t)) (c2 : Ca d 278 [aR (some (40, 0, 0)), aI (iZ x3)] (am_hp σ1) t (.inl (some (aI (iZ r2))), am_hp σ2, t)) (w3 : Wp k_X12_sum d (78, [some (aR (some (40, 0, 0))), some (aI (iZ x1)), some (aI (iZ x2)), some (aI (iZ x3)), some (aI (iZ x4)), some (aI (iZ x5))], [aI (iZ (r1 + r2)), aI (iZ xs0), aR (some (40, 0, 0))], am_hp σ2, t) Q) : Wp k_X12_sum d (67, [some (aR (some (40, 0, 0))), some (aI (iZ x1)), some (aI (iZ x2)), some (aI (iZ x3)), some (aI (iZ x4)), some (aI (iZ x5))], [aI (iZ xs0), aR (some (40, 0, 0))], am_hp σ, t) Q := by
  refine w_s (c' := (68, [some (aR (some (40, 0, 0))), some (aI (iZ x1)), some (aI (iZ x2)), some (aI (iZ x3)), some (aI (iZ x4)), some (aI (iZ x5))], [aR (some (40, 0, 0)), aI (iZ xs0), aR (some (40, 0, 0))], am_hp σ, t)) rfl rfl ?_
  refine w_s (c' := (69, [some (aR (some (40, 0, 0))), some (aI (iZ x1)), some (aI (iZ x2)), some (aI (iZ x3)), some (aI (iZ x4)), some (aI (iZ x5))], [aI (iZ x2), aR (some (40, 0, 0)), aI (iZ xs0), aR (some (40, 0, 0))], am_hp σ, t)) rfl rfl ?_
  refine w_c0 (c' := (72, [some (aR (some (40, 0, 0))), some (aI (iZ x1)), some (aI (iZ x2)), some (aI (iZ x3)), some (aI (iZ x4)), some (aI (iZ x5))], [aI (iZ r1), aI (iZ xs0), aR (some (40, 0, 0))], am_hp σ1, t)) rfl rfl (rcv_of (hp_40 _ 0)) rfl c1 (Nat.le_refl _) rfl ?_
  refine w_s (c' := (73, [some (aR (some (40, 0, 0))), some (aI (iZ x1)), some (aI (iZ x2)), some (aI (iZ x3)), some (aI (iZ x4)), some (aI (iZ x5))], [aR (some (40, 0, 0)), aI (iZ r1), aI (iZ xs0), aR (some (40, 0, 0))], am_hp σ1, t)) rfl rfl ?_
  refine w_s (c' := (74, [some (aR (some (40, 0, 0))), some (aI (iZ x1)), some (aI (iZ x2)), some (aI (iZ x3)), some (aI (iZ x4)), some (aI (iZ x5))], [aI (iZ x3), aR (some (40, 0, 0)), aI (iZ r1), aI (iZ xs0), aR (some (40, 0, 0))], am_hp σ1, t)) rfl rfl ?_
  refine w_c0 (c' := (77, [some (aR (some (40, 0, 0))), some (aI (iZ x1)), some (aI (iZ x2)), some (aI (iZ x3)), some (aI (iZ x4)), some (aI (iZ x5))], [aI (iZ r2), aI (iZ r1), aI (iZ xs0), aR (some (40, 0, 0))], am_hp σ2, t)) rfl rfl (rcv_of (hp_40 _ 0)) rfl c2 (Nat.le_refl _) rfl ?_
  refine w_iadd rfl rfl ?_
  exact w3

theorem b_X12_sum_78 {x1 : Int} {x2 : Int} {x3 : Int} {x4 : Int} {x5 : Int} {xs0 : Int} {xs1 : Int} {r1 : Int} {σ σ1 : SG} {t : KT} (c1 : Ca d 266 [aR (some (40, 0, 0)), aI (iZ x2), aI (iZ x3)] (am_hp ((sI σ (40, 0, 0) (up (σ.1 (40, 0, 0)) 22 (xs1 + xs0))))) t (.inl (some (aL (jZ r1))), am_hp σ1, t)) (q2 : Q (.inl (some (aL (jZ r1))), am_hp σ1, t)) : Wp k_X12_sum d (78, [some (aR (some (40, 0, 0))), some (aI (iZ x1)), some (aI (iZ x2)), some (aI (iZ x3)), some (aI (iZ x4)), some (aI (iZ x5))], [aI (iZ xs0), aI (iZ xs1), aR (some (40, 0, 0))], am_hp σ, t) Q := by
  refine w_iadd rfl rfl ?_
  refine w_putI rfl (hp_40 _ 0) rfl rfl rfl ?_
  refine w_s (c' := (83, [some (aR (some (40, 0, 0))), some (aI (iZ x1)), some (aI (iZ x2)), some (aI (iZ x3)), some (aI (iZ x4)), some (aI (iZ x5))], [aR (some (40, 0, 0))], am_hp ((sI σ (40, 0, 0) (up (σ.1 (40, 0, 0)) 22 (xs1 + xs0)))), t)) rfl rfl ?_
  refine w_s (c' := (84, [some (aR (some (40, 0, 0))), some (aI (iZ x1)), some (aI (iZ x2)), some (aI (iZ x3)), some (aI (iZ x4)), some (aI (iZ x5))], [aI (iZ x2), aR (some (40, 0, 0))], am_hp ((sI σ (40, 0, 0) (up (σ.1 (40, 0, 0)) 22 (xs1 + xs0)))), t)) rfl rfl ?_
  refine w_s (c' := (85, [some (aR (some (40, 0, 0))), some (aI (iZ x1)), some (aI (iZ x2)), some (aI (iZ x3)), some (aI (iZ x4)), some (aI (iZ x5))], [aI (iZ x3), aI (iZ x2), aR (some (40, 0, 0))], am_hp ((sI σ (40, 0, 0) (up (σ.1 (40, 0, 0)) 22 (xs1 + xs0)))), t)) rfl rfl ?_
  refine w_c0 (c' := (88, [some (aR (some (40, 0, 0))), some (aI (iZ x1)), some (aI (iZ x2)), some (aI (iZ x3)), some (aI (iZ x4)), some (aI (iZ x5))], [aL (jZ r1)], am_hp σ1, t)) rfl rfl (rcv_of (hp_40 _ 0)) rfl c1 (Nat.le_refl _) rfl ?_
  exact w_ret rfl rfl q2

theorem b_X12_mayHold_0 {x1 : Int} {x2 : Int} {σ : SG} {t : KT} (h1 : -2147483648 ≤ x2 ∧ x2 < 2147483648) (w2 : x2 < 0 → Wp k_X12_mayHold d (26, [some (aR (some (40, 0, 0))), some (aI (iZ x1)), some (aI (iZ x2))], [], am_hp σ, t) Q) (w3 : 0 ≤ x2 → Wp k_X12_mayHold d (4, [some (aR (some (40, 0, 0))), some (aI (iZ x1)), some (aI (iZ x2))], [], am_hp σ, t) Q) : Wp k_X12_mayHold d (0, [some (aR (some (40, 0, 0))), some (aI (iZ x1)), some (aI (iZ x2))], [], am_hp σ, t) Q := by
  refine w_s (c' := (1, [some (aR (some (40, 0, 0))), some (aI (iZ x1)), some (aI (iZ x2))], [aI (iZ x2)], am_hp σ, t)) rfl rfl ?_
  exact w_iflt rfl h1 rfl w2 w3

theorem e_X12_mayHold {x1 : Int} {x2 : Int} {h : AH} {t : KT} {d : Nat} {P : RS → Prop} (w : Wp k_X12_mayHold d (0, [some (aR (some (40, 0, 0))), some (aI (iZ x1)), some (aI (iZ x2))], [], h, t) P) : ∃ r, Ca (d + 1) 280 [aR (some (40, 0, 0)), aI (iZ x1), aI (iZ x2)] h t r ∧ P r := ca_W rfl rfl rfl rfl w

theorem b_X12_mayHold_4 {x1 : Int} {x2 : Int} {r1 : Int} {σ σ1 : SG} {t : KT} (c1 : Ca d 224 [aI (iZ x2)] (am_hp σ) t (.inl (some (aI (iZ r1))), am_hp σ1, t)) (h2 : 0 ≤ x1 ∧ x1 < 120) (h3 : 0 ≤ σ1.1 (51, 0, 0) x1.toNat ∧ σ1.1 (51, 0, 0) x1.toNat < 9) (h4 : -2147483648 ≤ r1 ∧ r1 < 2147483648) (h5 : -2147483648 ≤ σ1.1 (47, 0, 0) (σ1.1 (51, 0, 0) x1.toNat).toNat ∧ σ1.1 (47, 0, 0) (σ1.1 (51, 0, 0) x1.toNat).toNat < 2147483648) (w6 : σ1.1 (47, 0, 0) (σ1.1 (51, 0, 0) x1.toNat).toNat < r1 → Wp k_X12_mayHold d (26, [some (aR (some (40, 0, 0))), some (aI (iZ x1)), some (aI (iZ x2))], [], am_hp σ1, t) Q) (w7 : r1 ≤ σ1.1 (47, 0, 0) (σ1.1 (51, 0, 0) x1.toNat).toNat → Wp k_X12_mayHold d (22, [some (aR (some (40, 0, 0))), some (aI (iZ x1)), some (aI (iZ x2))], [], am_hp σ1, t) Q) : Wp k_X12_mayHold d (4, [some (aR (some (40, 0, 0))), some (aI (iZ x1)), some (aI (iZ x2))], [], am_hp σ, t) Q := by
  refine w_s (c' := (5, [some (aR (some (40, 0, 0))), some (aI (iZ x1)), some (aI (iZ x2))], [aI (iZ x2)], am_hp σ, t)) rfl rfl ?_
  refine w_c0 (c' := (8, [some (aR (some (40, 0, 0))), some (aI (iZ x1)), some (aI (iZ x2))], [aI (iZ r1)], am_hp σ1, t)) rfl rfl rfl rfl c1 (Nat.le_refl _) rfl ?_
  refine w_s (c' := (9, [some (aR (some (40, 0, 0))), some (aI (iZ x1)), some (aI (iZ x2))], [aR (some (40, 0, 0)), aI (iZ r1)], am_hp σ1, t)) rfl rfl ?_
  refine w_get rfl (hp_40 _ 0) rfl rfl ?_
  refine w_s (c' := (13, [some (aR (some (40, 0, 0))), some (aI (iZ x1)), some (aI (iZ x2))], [aR (some (40, 0, 0)), aR (some (47, 0, 0)), aI (iZ r1)], am_hp σ1, t)) rfl rfl ?_
  refine w_get rfl (hp_40 _ 0) rfl rfl ?_
  refine w_s (c' := (17, [some (aR (some (40, 0, 0))), some (aI (iZ x1)), some (aI (iZ x2))], [aI (iZ x1), aR (some (51, 0, 0)), aR (some (47, 0, 0)), aI (iZ r1)], am_hp σ1, t)) rfl rfl ?_
  refine w_ial rfl (hp_51 _ 0 0) h2 rfl rfl ?_
  refine w_ial rfl (hp_47 _ 0 0) h3 rfl rfl ?_
  exact w_icgt rfl h4 h5 rfl w6 w7

theorem b_X12_mayHold_22 {x1 : Int} {x2 : Int} {σ : SG} {t : KT} (w1 : Wp k_X12_mayHold d (27, [some (aR (some (40, 0, 0))), some (aI (iZ x1)), some (aI (iZ x2))], [aI (iZ 1)], am_hp σ, t) Q) : Wp k_X12_mayHold d (22, [some (aR (some (40, 0, 0))), some (aI (iZ x1)), some (aI (iZ x2))], [], am_hp σ, t) Q := by
  refine w_psh rfl zc_1 rfl ?_
  refine w_s (c' := (27, [some (aR (some (40, 0, 0))), some (aI (iZ x1)), some (aI (iZ x2))], [aI (iZ 1)], am_hp σ, t)) rfl rfl ?_
  exact w1

theorem b_X12_mayHold_26 {x1 : Int} {x2 : Int} {σ : SG} {t : KT} (w1 : Wp k_X12_mayHold d (27, [some (aR (some (40, 0, 0))), some (aI (iZ x1)), some (aI (iZ x2))], [aI (iZ 0)], am_hp σ, t) Q) : Wp k_X12_mayHold d (26, [some (aR (some (40, 0, 0))), some (aI (iZ x1)), some (aI (iZ x2))], [], am_hp σ, t) Q := by
  refine w_psh rfl zc_0 rfl ?_
  exact w1

theorem b_X12_mayHold_27 {x1 : Int} {x2 : Int} {xs0 : Int} {σ : SG} {t : KT} (h1 : xs0 = 0 ∨ xs0 = 1) (q2 : Q (.inl (some (aI (iZ xs0))), am_hp σ, t)) : Wp k_X12_mayHold d (27, [some (aR (some (40, 0, 0))), some (aI (iZ x1)), some (aI (iZ x2))], [aI (iZ xs0)], am_hp σ, t) Q := by
  exact w_ret rfl (frt_b h1) q2

theorem b_X12_inWord_0 {x1 : Int} {x2 : Int} {σ : SG} {t : KT} (h1 : 0 ≤ x1 ∧ x1 < 121) (w2 : Wp k_X12_inWord d (10, [some (aR (some (40, 0, 0))), some (aI (iZ x1)), some (aI (iZ x2)), some (aI (iZ 0)), some (aI (iZ (σ.1 (52, 0, 0) x1.toNat)))], [], am_hp σ, t) Q) : Wp k_X12_inWord d (0, [some (aR (some (40, 0, 0))), some (aI (iZ x1)), some (aI (iZ x2)), none, none], [], am_hp σ, t) Q := by
  refine w_psh rfl zc_0 rfl ?_
  refine w_s (c' := (2, [some (aR (some (40, 0, 0))), some (aI (iZ x1)), some (aI (iZ x2)), some (aI (iZ 0)), none], [], am_hp σ, t)) rfl rfl ?_
  refine w_s (c' := (3, [some (aR (some (40, 0, 0))), some (aI (iZ x1)), some (aI (iZ x2)), some (aI (iZ 0)), none], [aR (some (40, 0, 0))], am_hp σ, t)) rfl rfl ?_
  refine w_get rfl (hp_40 _ 0) rfl rfl ?_
  refine w_s (c' := (7, [some (aR (some (40, 0, 0))), some (aI (iZ x1)), some (aI (iZ x2)), some (aI (iZ 0)), none], [aI (iZ x1), aR (some (52, 0, 0))], am_hp σ, t)) rfl rfl ?_
  refine w_ial rfl (hp_52 _ 0 0) h1 rfl rfl ?_
  refine w_s (c' := (10, [some (aR (some (40, 0, 0))), some (aI (iZ x1)), some (aI (iZ x2)), some (aI (iZ 0)), some (aI (iZ (σ.1 (52, 0, 0) x1.toNat)))], [], am_hp σ, t)) rfl rfl ?_
  exact w2

theorem e_X12_inWord {x1 : Int} {x2 : Int} {h : AH} {t : KT} {d : Nat} {P : RS → Prop} (w : Wp k_X12_inWord d (0, [some (aR (some (40, 0, 0))), some (aI (iZ x1)), some (aI (iZ x2)), none, none], [], h, t) P) : ∃ r, Ca (d + 1) 281 [aR (some (40, 0, 0)), aI (iZ x1), aI (iZ x2)] h t r ∧ P r := ca_W rfl rfl rfl rfl w

theorem b_X12_inWord_10 {x1 : Int} {x2 : Int} {x3 : Int} {x4 : Int} {σ : SG} {t : KT} (h1 : 0 ≤ x1 + 1 ∧ x1 + 1 < 121) (h2 : -2147483648 ≤ x4 ∧ x4 < 2147483648) (h3 : -2147483648 ≤ σ.1 (52, 0, 0) (x1 + 1).toNat ∧ σ.1 (52, 0, 0) (x1 + 1).toNat < 2147483648) (w4 : σ.1 (52, 0, 0) (x1 + 1).toNat ≤ x4 → Wp k_X12_inWord d (51, [some (aR (some (40, 0, 0))), some (aI (iZ x1)), some (aI (iZ x2)), some (aI (iZ x3)), some (aI (iZ x4))], [], am_hp σ, t) Q) (w5 : x4 < σ.1 (52, 0, 0) (x1 + 1).toNat → Wp k_X12_inWord d (23, [some (aR (some (40, 0, 0))), some (aI (iZ x1)), some (aI (iZ x2)), some (aI (iZ x3)), some (aI (iZ x4))], [], am_hp σ, t) Q) : Wp k_X12_inWord d (10, [some (aR (some (40, 0, 0))), some (aI (iZ x1)), some (aI (iZ x2)), some (aI (iZ x3)), some (aI (iZ x4))], [], am_hp σ, t) Q := by
  refine w_s (c' := (12, [some (aR (some (40, 0, 0))), some (aI (iZ x1)), some (aI (iZ x2)), some (aI (iZ x3)), some (aI (iZ x4))], [aI (iZ x4)], am_hp σ, t)) rfl rfl ?_
  refine w_s (c' := (13, [some (aR (some (40, 0, 0))), some (aI (iZ x1)), some (aI (iZ x2)), some (aI (iZ x3)), some (aI (iZ x4))], [aR (some (40, 0, 0)), aI (iZ x4)], am_hp σ, t)) rfl rfl ?_
  refine w_get rfl (hp_40 _ 0) rfl rfl ?_
  refine w_s (c' := (17, [some (aR (some (40, 0, 0))), some (aI (iZ x1)), some (aI (iZ x2)), some (aI (iZ x3)), some (aI (iZ x4))], [aI (iZ x1), aR (some (52, 0, 0)), aI (iZ x4)], am_hp σ, t)) rfl rfl ?_
  refine w_psh rfl zc_1 rfl ?_
  refine w_iadd rfl rfl ?_
  refine w_ial rfl (hp_52 _ 0 0) h1 rfl rfl ?_
  exact w_icge rfl h2 h3 rfl w4 w5

theorem b_X12_inWord_23 {x1 : Int} {x2 : Int} {x3 : Int} {x4 : Int} {σ : SG} {t : KT} (h1 : 0 ≤ x4 ∧ x4 < 120) (h2 : -2147483648 ≤ σ.1 (48, 0, 0) x4.toNat ∧ σ.1 (48, 0, 0) x4.toNat < 2147483648) (h3 : -2147483648 ≤ x2 ∧ x2 < 2147483648) (w4 : σ.1 (48, 0, 0) x4.toNat ≠ x2 → Wp k_X12_inWord d (39, [some (aR (some (40, 0, 0))), some (aI (iZ x1)), some (aI (iZ x2)), some (aI (iZ x3)), some (aI (iZ x4))], [aI (iZ x3)], am_hp σ, t) Q) (w5 : σ.1 (48, 0, 0) x4.toNat = x2 → Wp k_X12_inWord d (35, [some (aR (some (40, 0, 0))), some (aI (iZ x1)), some (aI (iZ x2)), some (aI (iZ x3)), some (aI (iZ x4))], [aI (iZ x3)], am_hp σ, t) Q) : Wp k_X12_inWord d (23, [some (aR (some (40, 0, 0))), some (aI (iZ x1)), some (aI (iZ x2)), some (aI (iZ x3)), some (aI (iZ x4))], [], am_hp σ, t) Q := by
  refine w_s (c' := (24, [some (aR (some (40, 0, 0))), some (aI (iZ x1)), some (aI (iZ x2)), some (aI (iZ x3)), some (aI (iZ x4))], [aI (iZ x3)], am_hp σ, t)) rfl rfl ?_
  refine w_s (c' := (25, [some (aR (some (40, 0, 0))), some (aI (iZ x1)), some (aI (iZ x2)), some (aI (iZ x3)), some (aI (iZ x4))], [aR (some (40, 0, 0)), aI (iZ x3)], am_hp σ, t)) rfl rfl ?_
  refine w_get rfl (hp_40 _ 0) rfl rfl ?_
  refine w_s (c' := (30, [some (aR (some (40, 0, 0))), some (aI (iZ x1)), some (aI (iZ x2)), some (aI (iZ x3)), some (aI (iZ x4))], [aI (iZ x4), aR (some (48, 0, 0)), aI (iZ x3)], am_hp σ, t)) rfl rfl ?_
  refine w_ial rfl (hp_48 _ 0 0) h1 rfl rfl ?_
  refine w_s (c' := (32, [some (aR (some (40, 0, 0))), some (aI (iZ x1)), some (aI (iZ x2)), some (aI (iZ x3)), some (aI (iZ x4))], [aI (iZ x2), aI (iZ (σ.1 (48, 0, 0) x4.toNat)), aI (iZ x3)], am_hp σ, t)) rfl rfl ?_
  exact w_icne rfl h2 h3 rfl w4 w5

theorem b_X12_inWord_35 {x1 : Int} {x2 : Int} {x3 : Int} {x4 : Int} {xs0 : Int} {σ : SG} {t : KT} (w1 : Wp k_X12_inWord d (40, [some (aR (some (40, 0, 0))), some (aI (iZ x1)), some (aI (iZ x2)), some (aI (iZ x3)), some (aI (iZ x4))], [aI (iZ 1), aI (iZ xs0)], am_hp σ, t) Q) : Wp k_X12_inWord d (35, [some (aR (some (40, 0, 0))), some (aI (iZ x1)), some (aI (iZ x2)), some (aI (iZ x3)), some (aI (iZ x4))], [aI (iZ xs0)], am_hp σ, t) Q := by
  refine w_psh rfl zc_1 rfl ?_
  refine w_s (c' := (40, [some (aR (some (40, 0, 0))), some (aI (iZ x1)), some (aI (iZ x2)), some (aI (iZ x3)), some (aI (iZ x4))], [aI (iZ 1), aI (iZ xs0)], am_hp σ, t)) rfl rfl ?_
  exact w1

theorem b_X12_inWord_39 {x1 : Int} {x2 : Int} {x3 : Int} {x4 : Int} {xs0 : Int} {σ : SG} {t : KT} (w1 : Wp k_X12_inWord d (40, [some (aR (some (40, 0, 0))), some (aI (iZ x1)), some (aI (iZ x2)), some (aI (iZ x3)), some (aI (iZ x4))], [aI (iZ 0), aI (iZ xs0)], am_hp σ, t) Q) : Wp k_X12_inWord d (39, [some (aR (some (40, 0, 0))), some (aI (iZ x1)), some (aI (iZ x2)), some (aI (iZ x3)), some (aI (iZ x4))], [aI (iZ xs0)], am_hp σ, t) Q := by
  refine w_psh rfl zc_0 rfl ?_
  exact w1

theorem b_X12_inWord_40 {x1 : Int} {x2 : Int} {x3 : Int} {x4 : Int} {xs0 : Int} {xs1 : Int} {r1 : Int} {σ σ1 : SG} {t : KT} (c1 : Ca d 176 [aI (iZ xs0)] (am_hp σ) t (.inl (some (aI (iZ r1))), am_hp σ1, t)) (w2 : Wp k_X12_inWord d (10, [some (aR (some (40, 0, 0))), some (aI (iZ x1)), some (aI (iZ x2)), some (aI (iZ (xs1 + r1))), some (aI (iZ (x4 + 1)))], [], am_hp σ1, t) Q) : Wp k_X12_inWord d (40, [some (aR (some (40, 0, 0))), some (aI (iZ x1)), some (aI (iZ x2)), some (aI (iZ x3)), some (aI (iZ x4))], [aI (iZ xs0), aI (iZ xs1)], am_hp σ, t) Q := by
  refine w_c0 (c' := (43, [some (aR (some (40, 0, 0))), some (aI (iZ x1)), some (aI (iZ x2)), some (aI (iZ x3)), some (aI (iZ x4))], [aI (iZ r1), aI (iZ xs1)], am_hp σ1, t)) rfl rfl rfl rfl c1 (Nat.le_refl _) rfl ?_
  refine w_iadd rfl rfl ?_
  refine w_s (c' := (45, [some (aR (some (40, 0, 0))), some (aI (iZ x1)), some (aI (iZ x2)), some (aI (iZ (xs1 + r1))), some (aI (iZ x4))], [], am_hp σ1, t)) rfl rfl ?_
  refine w_inc (a := x4) (ls' := [some (aR (some (40, 0, 0))), some (aI (iZ x1)), some (aI (iZ x2)), some (aI (iZ (xs1 + r1))), some (aI (iZ (x4 + 1)))]) rfl rfl rfl zc_1 rfl rfl ?_
  refine w_s (c' := (10, [some (aR (some (40, 0, 0))), some (aI (iZ x1)), some (aI (iZ x2)), some (aI (iZ (xs1 + r1))), some (aI (iZ (x4 + 1)))], [], am_hp σ1, t)) rfl rfl ?_
  exact w2

theorem b_X12_inWord_51 {x1 : Int} {x2 : Int} {x3 : Int} {x4 : Int} {σ : SG} {t : KT} (q1 : Q (.inl (some (aI (iZ x3))), am_hp σ, t)) : Wp k_X12_inWord d (51, [some (aR (some (40, 0, 0))), some (aI (iZ x1)), some (aI (iZ x2)), some (aI (iZ x3)), some (aI (iZ x4))], [], am_hp σ, t) Q := by
  refine w_s (c' := (52, [some (aR (some (40, 0, 0))), some (aI (iZ x1)), some (aI (iZ x2)), some (aI (iZ x3)), some (aI (iZ x4))], [aI (iZ x3)], am_hp σ, t)) rfl rfl ?_
  exact w_ret rfl rfl q1

theorem b_X12_firstIn_0 {x1 : Int} {x2 : Int} {σ : SG} {t : KT} (h1 : 0 ≤ x1 ∧ x1 < 121) (w2 : Wp k_X12_firstIn d (7, [some (aR (some (40, 0, 0))), some (aI (iZ x1)), some (aI (iZ x2)), some (aI (iZ (σ.1 (52, 0, 0) x1.toNat)))], [], am_hp σ, t) Q) : Wp k_X12_firstIn d (0, [some (aR (some (40, 0, 0))), some (aI (iZ x1)), some (aI (iZ x2)), none], [], am_hp σ, t) Q := by
  refine w_s (c' := (1, [some (aR (some (40, 0, 0))), some (aI (iZ x1)), some (aI (iZ x2)), none], [aR (some (40, 0, 0))], am_hp σ, t)) rfl rfl ?_
  refine w_get rfl (hp_40 _ 0) rfl rfl ?_
  refine w_s (c' := (5, [some (aR (some (40, 0, 0))), some (aI (iZ x1)), some (aI (iZ x2)), none], [aI (iZ x1), aR (some (52, 0, 0))], am_hp σ, t)) rfl rfl ?_
  refine w_ial rfl (hp_52 _ 0 0) h1 rfl rfl ?_
  refine w_s (c' := (7, [some (aR (some (40, 0, 0))), some (aI (iZ x1)), some (aI (iZ x2)), some (aI (iZ (σ.1 (52, 0, 0) x1.toNat)))], [], am_hp σ, t)) rfl rfl ?_
  exact w2

theorem e_X12_firstIn {x1 : Int} {x2 : Int} {h : AH} {t : KT} {d : Nat} {P : RS → Prop} (w : Wp k_X12_firstIn d (0, [some (aR (some (40, 0, 0))), some (aI (iZ x1)), some (aI (iZ x2)), none], [], h, t) P) : ∃ r, Ca (d + 1) 282 [aR (some (40, 0, 0)), aI (iZ x1), aI (iZ x2)] h t r ∧ P r := ca_W rfl rfl rfl rfl w

theorem b_X12_firstIn_7 {x1 : Int} {x2 : Int} {x3 : Int} {σ : SG} {t : KT} (h1 : 0 ≤ x3 ∧ x3 < 120) (h2 : -2147483648 ≤ σ.1 (48, 0, 0) x3.toNat ∧ σ.1 (48, 0, 0) x3.toNat < 2147483648) (h3 : -2147483648 ≤ x2 ∧ x2 < 2147483648) (w4 : σ.1 (48, 0, 0) x3.toNat = x2 → Wp k_X12_firstIn d (23, [some (aR (some (40, 0, 0))), some (aI (iZ x1)), some (aI (iZ x2)), some (aI (iZ x3))], [], am_hp σ, t) Q) (w5 : σ.1 (48, 0, 0) x3.toNat ≠ x2 → Wp k_X12_firstIn d (17, [some (aR (some (40, 0, 0))), some (aI (iZ x1)), some (aI (iZ x2)), some (aI (iZ x3))], [], am_hp σ, t) Q) : Wp k_X12_firstIn d (7, [some (aR (some (40, 0, 0))), some (aI (iZ x1)), some (aI (iZ x2)), some (aI (iZ x3))], [], am_hp σ, t) Q := by
  refine w_s (c' := (8, [some (aR (some (40, 0, 0))), some (aI (iZ x1)), some (aI (iZ x2)), some (aI (iZ x3))], [aR (some (40, 0, 0))], am_hp σ, t)) rfl rfl ?_
  refine w_get rfl (hp_40 _ 0) rfl rfl ?_
  refine w_s (c' := (12, [some (aR (some (40, 0, 0))), some (aI (iZ x1)), some (aI (iZ x2)), some (aI (iZ x3))], [aI (iZ x3), aR (some (48, 0, 0))], am_hp σ, t)) rfl rfl ?_
  refine w_ial rfl (hp_48 _ 0 0) h1 rfl rfl ?_
  refine w_s (c' := (14, [some (aR (some (40, 0, 0))), some (aI (iZ x1)), some (aI (iZ x2)), some (aI (iZ x3))], [aI (iZ x2), aI (iZ (σ.1 (48, 0, 0) x3.toNat))], am_hp σ, t)) rfl rfl ?_
  exact w_iceq rfl h2 h3 rfl w4 w5

theorem b_X12_firstIn_17 {x1 : Int} {x2 : Int} {x3 : Int} {σ : SG} {t : KT} (w1 : Wp k_X12_firstIn d (7, [some (aR (some (40, 0, 0))), some (aI (iZ x1)), some (aI (iZ x2)), some (aI (iZ (x3 + 1)))], [], am_hp σ, t) Q) : Wp k_X12_firstIn d (17, [some (aR (some (40, 0, 0))), some (aI (iZ x1)), some (aI (iZ x2)), some (aI (iZ x3))], [], am_hp σ, t) Q := by
  refine w_inc (a := x3) (ls' := [some (aR (some (40, 0, 0))), some (aI (iZ x1)), some (aI (iZ x2)), some (aI (iZ (x3 + 1)))]) rfl rfl rfl zc_1 rfl rfl ?_
  refine w_s (c' := (7, [some (aR (some (40, 0, 0))), some (aI (iZ x1)), some (aI (iZ x2)), some (aI (iZ (x3 + 1)))], [], am_hp σ, t)) rfl rfl ?_
  exact w1

theorem b_X12_firstIn_23 {x1 : Int} {x2 : Int} {x3 : Int} {σ : SG} {t : KT} (q1 : Q (.inl (some (aI (iZ x3))), am_hp σ, t)) : Wp k_X12_firstIn d (23, [some (aR (some (40, 0, 0))), some (aI (iZ x1)), some (aI (iZ x2)), some (aI (iZ x3))], [], am_hp σ, t) Q := by
  refine w_s (c' := (24, [some (aR (some (40, 0, 0))), some (aI (iZ x1)), some (aI (iZ x2)), some (aI (iZ x3))], [aI (iZ x3)], am_hp σ, t)) rfl rfl ?_
  exact w_ret rfl rfl q1

theorem b_X12_first_0 {x1 : Int} {x2 : Int} {r1 : Int} {r2 : Int} {σ σ1 σ2 : SG} {t : KT} (c1 : Ca d 217 [aR (some (40, 0, 0)), aI (iZ x1)] (am_hp σ) t (.inl (some (aI (iZ r1))), am_hp σ1, t)) (c2 : Ca d 178 [aR (some (40, 0, 0)), aI (iZ r1)] (am_hp σ1) t (.inl (some (aI (iZ r2))), am_hp σ2, t)) (h3 : -2147483648 ≤ r2 ∧ r2 < 2147483648) (w4 : r2 ≠ 0 → Wp k_X12_first d (14, [some (aR (some (40, 0, 0))), some (aI (iZ x1)), some (aI (iZ x2)), none, none], [], am_hp σ2, t) Q) (w5 : r2 = 0 → Wp k_X12_first d (12, [some (aR (some (40, 0, 0))), some (aI (iZ x1)), some (aI (iZ x2)), none, none], [], am_hp σ2, t) Q) : Wp k_X12_first d (0, [some (aR (some (40, 0, 0))), some (aI (iZ x1)), some (aI (iZ x2)), none, none], [], am_hp σ, t) Q := by
  refine w_s (c' := (1, [some (aR (some (40, 0, 0))), some (aI (iZ x1)), some (aI (iZ x2)), none, none], [aR (some (40, 0, 0))], am_hp σ, t)) rfl rfl ?_
  refine w_s (c' := (2, [some (aR (some (40, 0, 0))), some (aI (iZ x1)), some (aI (iZ x2)), none, none], [aR (some (40, 0, 0)), aR (some (40, 0, 0))], am_hp σ, t)) rfl rfl ?_
  refine w_s (c' := (3, [some (aR (some (40, 0, 0))), some (aI (iZ x1)), some (aI (iZ x2)), none, none], [aI (iZ x1), aR (some (40, 0, 0)), aR (some (40, 0, 0))], am_hp σ, t)) rfl rfl ?_
  refine w_c0 (c' := (6, [some (aR (some (40, 0, 0))), some (aI (iZ x1)), some (aI (iZ x2)), none, none], [aI (iZ r1), aR (some (40, 0, 0))], am_hp σ1, t)) rfl rfl (rcv_of (hp_40 _ 0)) rfl c1 (Nat.le_refl _) rfl ?_
  refine w_c0 (c' := (9, [some (aR (some (40, 0, 0))), some (aI (iZ x1)), some (aI (iZ x2)), none, none], [aI (iZ r2)], am_hp σ2, t)) rfl rfl (rcv_of (hp_40 _ 0)) rfl c2 (Nat.le_refl _) rfl ?_
  exact w_ifne rfl h3 rfl w4 w5

theorem e_X12_first {x1 : Int} {x2 : Int} {h : AH} {t : KT} {d : Nat} {P : RS → Prop} (w : Wp k_X12_first d (0, [some (aR (some (40, 0, 0))), some (aI (iZ x1)), some (aI (iZ x2)), none, none], [], h, t) P) : ∃ r, Ca (d + 1) 283 [aR (some (40, 0, 0)), aI (iZ x1), aI (iZ x2)] h t r ∧ P r := ca_W rfl rfl rfl rfl w

theorem b_X12_first_12 {x1 : Int} {x2 : Int} {σ : SG} {t : KT} (q1 : Q (.inl (some (aI (iZ 0))), am_hp σ, t)) : Wp k_X12_first d (12, [some (aR (some (40, 0, 0))), some (aI (iZ x1)), some (aI (iZ x2)), none, none], [], am_hp σ, t) Q := by
  refine w_psh rfl zc_0 rfl ?_
  exact w_ret rfl rfl q1

theorem b_X12_first_14 {x1 : Int} {x2 : Int} {r1 : Int} {σ σ1 : SG} {t : KT} (c1 : Ca d 219 [aI (iZ x2)] (am_hp σ) t (.inl (some (aI (iZ r1))), am_hp σ1, t)) (h2 : -2147483648 ≤ r1 ∧ r1 < 2147483648) (w3 : r1 = 0 → Wp k_X12_first d (29, [some (aR (some (40, 0, 0))), some (aI (iZ x1)), some (aI (iZ x2)), none, none], [], am_hp σ1, t) Q) (w4 : r1 ≠ 0 → Wp k_X12_first d (21, [some (aR (some (40, 0, 0))), some (aI (iZ x1)), some (aI (iZ x2)), none, none], [], am_hp σ1, t) Q) : Wp k_X12_first d (14, [some (aR (some (40, 0, 0))), some (aI (iZ x1)), some (aI (iZ x2)), none, none], [], am_hp σ, t) Q := by
  refine w_s (c' := (15, [some (aR (some (40, 0, 0))), some (aI (iZ x1)), some (aI (iZ x2)), none, none], [aI (iZ x2)], am_hp σ, t)) rfl rfl ?_
  refine w_c0 (c' := (18, [some (aR (some (40, 0, 0))), some (aI (iZ x1)), some (aI (iZ x2)), none, none], [aI (iZ r1)], am_hp σ1, t)) rfl rfl rfl rfl c1 (Nat.le_refl _) rfl ?_
  exact w_ifeq rfl h2 rfl w3 w4

theorem b_X12_first_21 {x1 : Int} {x2 : Int} {r1 : Int} {σ σ1 : SG} {t : KT} (c1 : Ca d 235 [aR (some (40, 0, 0)), aI (iZ x1)] (am_hp σ) t (.inl (some (aI (iZ r1))), am_hp σ1, t)) (w2 : Wp k_X12_first d (30, [some (aR (some (40, 0, 0))), some (aI (iZ x1)), some (aI (iZ x2)), none, none], [aI (iZ r1)], am_hp σ1, t) Q) : Wp k_X12_first d (21, [some (aR (some (40, 0, 0))), some (aI (iZ x1)), some (aI (iZ x2)), none, none], [], am_hp σ, t) Q := by
  refine w_s (c' := (22, [some (aR (some (40, 0, 0))), some (aI (iZ x1)), some (aI (iZ x2)), none, none], [aR (some (40, 0, 0))], am_hp σ, t)) rfl rfl ?_
  refine w_s (c' := (23, [some (aR (some (40, 0, 0))), some (aI (iZ x1)), some (aI (iZ x2)), none, none], [aI (iZ x1), aR (some (40, 0, 0))], am_hp σ, t)) rfl rfl ?_
  refine w_c0 (c' := (26, [some (aR (some (40, 0, 0))), some (aI (iZ x1)), some (aI (iZ x2)), none, none], [aI (iZ r1)], am_hp σ1, t)) rfl rfl (rcv_of (hp_40 _ 0)) rfl c1 (Nat.le_refl _) rfl ?_
  refine w_s (c' := (30, [some (aR (some (40, 0, 0))), some (aI (iZ x1)), some (aI (iZ x2)), none, none], [aI (iZ r1)], am_hp σ1, t)) rfl rfl ?_
  exact w2

theorem b_X12_first_29 {x1 : Int} {x2 : Int} {σ : SG} {t : KT} (w1 : Wp k_X12_first d (30, [some (aR (some (40, 0, 0))), some (aI (iZ x1)), some (aI (iZ x2)), none, none], [aI (iZ 0)], am_hp σ, t) Q) : Wp k_X12_first d (29, [some (aR (some (40, 0, 0))), some (aI (iZ x1)), some (aI (iZ x2)), none, none], [], am_hp σ, t) Q := by
  refine w_psh rfl zc_0 rfl ?_
  exact w1

theorem b_X12_first_30 {x1 : Int} {x2 : Int} {xs0 : Int} {σ : SG} {t : KT} (w1 : Wp k_X12_first d (34, [some (aR (some (40, 0, 0))), some (aI (iZ x1)), some (aI (iZ x2)), some (aI (iZ xs0)), some (aI (iZ 0))], [], am_hp σ, t) Q) : Wp k_X12_first d (30, [some (aR (some (40, 0, 0))), some (aI (iZ x1)), some (aI (iZ x2)), none, none], [aI (iZ xs0)], am_hp σ, t) Q := by
  refine w_s (c' := (31, [some (aR (some (40, 0, 0))), some (aI (iZ x1)), some (aI (iZ x2)), some (aI (iZ xs0)), none], [], am_hp σ, t)) rfl rfl ?_
  refine w_psh rfl zc_0 rfl ?_
  refine w_s (c' := (34, [some (aR (some (40, 0, 0))), some (aI (iZ x1)), some (aI (iZ x2)), some (aI (iZ xs0)), some (aI (iZ 0))], [], am_hp σ, t)) rfl rfl ?_
  exact w1

theorem b_X12_first_34 {x1 : Int} {x2 : Int} {x3 : Int} {x4 : Int} {σ : SG} {t : KT} (h1 : -2147483648 ≤ x4 ∧ x4 < 2147483648) (h2 : -2147483648 ≤ x3 ∧ x3 < 2147483648) (w3 : x3 ≤ x4 → Wp k_X12_first d (87, [some (aR (some (40, 0, 0))), some (aI (iZ x1)), some (aI (iZ x2)), some (aI (iZ x3)), some (aI (iZ x4))], [], am_hp σ, t) Q) (w4 : x4 < x3 → Wp k_X12_first d (40, [some (aR (some (40, 0, 0))), some (aI (iZ x1)), some (aI (iZ x2)), some (aI (iZ x3)), some (aI (iZ x4))], [], am_hp σ, t) Q) : Wp k_X12_first d (34, [some (aR (some (40, 0, 0))), some (aI (iZ x1)), some (aI (iZ x2)), some (aI (iZ x3)), some (aI (iZ x4))], [], am_hp σ, t) Q := by
  refine w_s (c' := (36, [some (aR (some (40, 0, 0))), some (aI (iZ x1)), some (aI (iZ x2)), some (aI (iZ x3)), some (aI (iZ x4))], [aI (iZ x4)], am_hp σ, t)) rfl rfl ?_
  refine w_s (c' := (37, [some (aR (some (40, 0, 0))), some (aI (iZ x1)), some (aI (iZ x2)), some (aI (iZ x3)), some (aI (iZ x4))], [aI (iZ x3), aI (iZ x4)], am_hp σ, t)) rfl rfl ?_
  exact w_icge rfl h1 h2 rfl w3 w4

theorem b_X12_first_40 {x1 : Int} {x2 : Int} {x3 : Int} {x4 : Int} {r1 : Int} {σ σ1 : SG} {t : KT} (c1 : Ca d 280 [aR (some (40, 0, 0)), aI (iZ x4), aI (iZ x2)] (am_hp σ) t (.inl (some (aI (iZ r1))), am_hp σ1, t)) (h2 : -2147483648 ≤ r1 ∧ r1 < 2147483648) (w3 : r1 ≠ 0 → Wp k_X12_first d (53, [some (aR (some (40, 0, 0))), some (aI (iZ x1)), some (aI (iZ x2)), some (aI (iZ x3)), some (aI (iZ x4))], [], am_hp σ1, t) Q) (w4 : r1 = 0 → Wp k_X12_first d (50, [some (aR (some (40, 0, 0))), some (aI (iZ x1)), some (aI (iZ x2)), some (aI (iZ x3)), some (aI (iZ x4))], [], am_hp σ1, t) Q) : Wp k_X12_first d (40, [some (aR (some (40, 0, 0))), some (aI (iZ x1)), some (aI (iZ x2)), some (aI (iZ x3)), some (aI (iZ x4))], [], am_hp σ, t) Q := by
  refine w_s (c' := (41, [some (aR (some (40, 0, 0))), some (aI (iZ x1)), some (aI (iZ x2)), some (aI (iZ x3)), some (aI (iZ x4))], [aR (some (40, 0, 0))], am_hp σ, t)) rfl rfl ?_
  refine w_s (c' := (43, [some (aR (some (40, 0, 0))), some (aI (iZ x1)), some (aI (iZ x2)), some (aI (iZ x3)), some (aI (iZ x4))], [aI (iZ x4), aR (some (40, 0, 0))], am_hp σ, t)) rfl rfl ?_
  refine w_s (c' := (44, [some (aR (some (40, 0, 0))), some (aI (iZ x1)), some (aI (iZ x2)), some (aI (iZ x3)), some (aI (iZ x4))], [aI (iZ x2), aI (iZ x4), aR (some (40, 0, 0))], am_hp σ, t)) rfl rfl ?_
  refine w_c0 (c' := (47, [some (aR (some (40, 0, 0))), some (aI (iZ x1)), some (aI (iZ x2)), some (aI (iZ x3)), some (aI (iZ x4))], [aI (iZ r1)], am_hp σ1, t)) rfl rfl (rcv_of (hp_40 _ 0)) rfl c1 (Nat.le_refl _) rfl ?_
  exact w_ifne rfl h2 rfl w3 w4

theorem b_X12_first_50 {x1 : Int} {x2 : Int} {x3 : Int} {x4 : Int} {σ : SG} {t : KT} (w1 : Wp k_X12_first d (81, [some (aR (some (40, 0, 0))), some (aI (iZ x1)), some (aI (iZ x2)), some (aI (iZ x3)), some (aI (iZ x4))], [], am_hp σ, t) Q) : Wp k_X12_first d (50, [some (aR (some (40, 0, 0))), some (aI (iZ x1)), some (aI (iZ x2)), some (aI (iZ x3)), some (aI (iZ x4))], [], am_hp σ, t) Q := by
  refine w_s (c' := (81, [some (aR (some (40, 0, 0))), some (aI (iZ x1)), some (aI (iZ x2)), some (aI (iZ x3)), some (aI (iZ x4))], [], am_hp σ, t)) rfl rfl ?_
  exact w1

theorem b_X12_first_53 {x1 : Int} {x2 : Int} {x3 : Int} {x4 : Int} {r1 : Int} {σ σ1 : SG} {t : KT} (c1 : Ca d 281 [aR (some (40, 0, 0)), aI (iZ x4), aI (iZ x2)] (am_hp ((sI σ (40, 0, 0) (up (σ.1 (40, 0, 0)) 22 ((σ.1 (40, 0, 0) 22) + 1))))) t (.inl (some (aI (iZ r1))), am_hp σ1, t)) (h2 : -2147483648 ≤ r1 ∧ r1 < 2147483648) (w3 : r1 ≤ 0 → Wp k_X12_first d (81, [some (aR (some (40, 0, 0))), some (aI (iZ x1)), some (aI (iZ x2)), some (aI (iZ x3)), some (aI (iZ x4))], [], am_hp σ1, t) Q) (w4 : 0 < r1 → Wp k_X12_first d (73, [some (aR (some (40, 0, 0))), some (aI (iZ x1)), some (aI (iZ x2)), some (aI (iZ x3)), some (aI (iZ x4))], [], am_hp σ1, t) Q) : Wp k_X12_first d (53, [some (aR (some (40, 0, 0))), some (aI (iZ x1)), some (aI (iZ x2)), some (aI (iZ x3)), some (aI (iZ x4))], [], am_hp σ, t) Q := by
  refine w_s (c' := (54, [some (aR (some (40, 0, 0))), some (aI (iZ x1)), some (aI (iZ x2)), some (aI (iZ x3)), some (aI (iZ x4))], [aR (some (40, 0, 0))], am_hp σ, t)) rfl rfl ?_
  refine w_s (c' := (55, [some (aR (some (40, 0, 0))), some (aI (iZ x1)), some (aI (iZ x2)), some (aI (iZ x3)), some (aI (iZ x4))], [aR (some (40, 0, 0)), aR (some (40, 0, 0))], am_hp σ, t)) rfl rfl ?_
  refine w_get rfl (hp_40 _ 0) rfl rfl ?_
  refine w_psh rfl zc_1 rfl ?_
  refine w_iadd rfl rfl ?_
  refine w_putI rfl (hp_40 _ 0) rfl rfl rfl ?_
  refine w_s (c' := (64, [some (aR (some (40, 0, 0))), some (aI (iZ x1)), some (aI (iZ x2)), some (aI (iZ x3)), some (aI (iZ x4))], [aR (some (40, 0, 0))], am_hp ((sI σ (40, 0, 0) (up (σ.1 (40, 0, 0)) 22 ((σ.1 (40, 0, 0) 22) + 1)))), t)) rfl rfl ?_
  refine w_s (c' := (66, [some (aR (some (40, 0, 0))), some (aI (iZ x1)), some (aI (iZ x2)), some (aI (iZ x3)), some (aI (iZ x4))], [aI (iZ x4), aR (some (40, 0, 0))], am_hp ((sI σ (40, 0, 0) (up (σ.1 (40, 0, 0)) 22 ((σ.1 (40, 0, 0) 22) + 1)))), t)) rfl rfl ?_
  refine w_s (c' := (67, [some (aR (some (40, 0, 0))), some (aI (iZ x1)), some (aI (iZ x2)), some (aI (iZ x3)), some (aI (iZ x4))], [aI (iZ x2), aI (iZ x4), aR (some (40, 0, 0))], am_hp ((sI σ (40, 0, 0) (up (σ.1 (40, 0, 0)) 22 ((σ.1 (40, 0, 0) 22) + 1)))), t)) rfl rfl ?_
  refine w_c0 (c' := (70, [some (aR (some (40, 0, 0))), some (aI (iZ x1)), some (aI (iZ x2)), some (aI (iZ x3)), some (aI (iZ x4))], [aI (iZ r1)], am_hp σ1, t)) rfl rfl (rcv_of (hp_40 _ 0)) rfl c1 (Nat.le_refl _) rfl ?_
  exact w_ifle rfl h2 rfl w3 w4

theorem b_X12_first_73 {x1 : Int} {x2 : Int} {x3 : Int} {x4 : Int} {r1 : Int} {σ σ1 : SG} {t : KT} (c1 : Ca d 282 [aR (some (40, 0, 0)), aI (iZ x4), aI (iZ x2)] (am_hp σ) t (.inl (some (aI (iZ r1))), am_hp σ1, t)) (q2 : Q (.inl (some (aI (iZ r1))), am_hp σ1, t)) : Wp k_X12_first d (73, [some (aR (some (40, 0, 0))), some (aI (iZ x1)), some (aI (iZ x2)), some (aI (iZ x3)), some (aI (iZ x4))], [], am_hp σ, t) Q := by
  refine w_s (c' := (74, [some (aR (some (40, 0, 0))), some (aI (iZ x1)), some (aI (iZ x2)), some (aI (iZ x3)), some (aI (iZ x4))], [aR (some (40, 0, 0))], am_hp σ, t)) rfl rfl ?_
  refine w_s (c' := (76, [some (aR (some (40, 0, 0))), some (aI (iZ x1)), some (aI (iZ x2)), some (aI (iZ x3)), some (aI (iZ x4))], [aI (iZ x4), aR (some (40, 0, 0))], am_hp σ, t)) rfl rfl ?_
  refine w_s (c' := (77, [some (aR (some (40, 0, 0))), some (aI (iZ x1)), some (aI (iZ x2)), some (aI (iZ x3)), some (aI (iZ x4))], [aI (iZ x2), aI (iZ x4), aR (some (40, 0, 0))], am_hp σ, t)) rfl rfl ?_
  refine w_c0 (c' := (80, [some (aR (some (40, 0, 0))), some (aI (iZ x1)), some (aI (iZ x2)), some (aI (iZ x3)), some (aI (iZ x4))], [aI (iZ r1)], am_hp σ1, t)) rfl rfl (rcv_of (hp_40 _ 0)) rfl c1 (Nat.le_refl _) rfl ?_
  exact w_ret rfl rfl q2

theorem b_X12_first_81 {x1 : Int} {x2 : Int} {x3 : Int} {x4 : Int} {σ : SG} {t : KT} (w1 : Wp k_X12_first d (34, [some (aR (some (40, 0, 0))), some (aI (iZ x1)), some (aI (iZ x2)), some (aI (iZ x3)), some (aI (iZ (x4 + 1)))], [], am_hp σ, t) Q) : Wp k_X12_first d (81, [some (aR (some (40, 0, 0))), some (aI (iZ x1)), some (aI (iZ x2)), some (aI (iZ x3)), some (aI (iZ x4))], [], am_hp σ, t) Q := by
  refine w_inc (a := x4) (ls' := [some (aR (some (40, 0, 0))), some (aI (iZ x1)), some (aI (iZ x2)), some (aI (iZ x3)), some (aI (iZ (x4 + 1)))]) rfl rfl rfl zc_1 rfl rfl ?_
  refine w_s (c' := (34, [some (aR (some (40, 0, 0))), some (aI (iZ x1)), some (aI (iZ x2)), some (aI (iZ x3)), some (aI (iZ (x4 + 1)))], [], am_hp σ, t)) rfl rfl ?_
  exact w1

theorem b_X12_first_87 {x1 : Int} {x2 : Int} {x3 : Int} {x4 : Int} {σ : SG} {t : KT} (q1 : Q (.inl (some (aI (iZ (-1)))), am_hp σ, t)) : Wp k_X12_first d (87, [some (aR (some (40, 0, 0))), some (aI (iZ x1)), some (aI (iZ x2)), some (aI (iZ x3)), some (aI (iZ x4))], [], am_hp σ, t) Q := by
  refine w_psh rfl zc_m1 rfl ?_
  exact w_ret rfl rfl q1
end PCS
