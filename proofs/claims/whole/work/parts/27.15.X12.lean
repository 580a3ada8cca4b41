/-! PIECES: X12 -/
set_option maxRecDepth 4000
section PCS
variable {d : Nat} {Q : RS → Prop}
theorem b_X12_thrown_0 {σ : SG} {t : KT} (q1 : Q (.inl (some (aI (iZ (σ.1 (40, 0, 0) 0)))), am_hp σ, t)) : Wp k_X12_thrown d (0, [some (aR (some (40, 0, 0)))], [], am_hp σ, t) Q := by
  refine w_s (c' := (1, [some (aR (some (40, 0, 0)))], [aR (some (40, 0, 0))], am_hp σ, t)) rfl rfl ?_
  refine w_get rfl (hp_40 _ 0) rfl rfl ?_
  exact w_ret rfl rfl q1

theorem e_X12_thrown {h : AH} {t : KT} {d : Nat} {P : RS → Prop} (w : Wp k_X12_thrown d (0, [some (aR (some (40, 0, 0)))], [], h, t) P) : ∃ r, Ca (d + 1) 174 [aR (some (40, 0, 0))] h t r ∧ P r := ca_W rfl rfl rfl rfl w

theorem b_X12_isIn_0 {y0 : Int} {y2 : Int} {y4 : Int} {σ : SG} {t : KT} (h1 : -2147483648 ≤ ycmp y0 y2 ∧ ycmp y0 y2 < 2147483648) (w2 : ycmp y0 y2 < 0 → Wp k_X12_isIn d (17, [some (aL (jZ y0)), none, some (aL (jZ y2)), none, some (aL (jZ y4)), none], [], am_hp σ, t) Q) (w3 : 0 ≤ ycmp y0 y2 → Wp k_X12_isIn d (6, [some (aL (jZ y0)), none, some (aL (jZ y2)), none, some (aL (jZ y4)), none], [], am_hp σ, t) Q) : Wp k_X12_isIn d (0, [some (aL (jZ y0)), none, some (aL (jZ y2)), none, some (aL (jZ y4)), none], [], am_hp σ, t) Q := by
  refine w_s (c' := (1, [some (aL (jZ y0)), none, some (aL (jZ y2)), none, some (aL (jZ y4)), none], [aL (jZ y0)], am_hp σ, t)) rfl rfl ?_
  refine w_s (c' := (2, [some (aL (jZ y0)), none, some (aL (jZ y2)), none, some (aL (jZ y4)), none], [aL (jZ y2), aL (jZ y0)], am_hp σ, t)) rfl rfl ?_
  refine w_lcmp rfl rfl ?_
  exact w_iflt rfl h1 rfl w2 w3

theorem e_X12_isIn {y0 : Int} {y2 : Int} {y4 : Int} {h : AH} {t : KT} {d : Nat} {P : RS → Prop} (w : Wp k_X12_isIn d (0, [some (aL (jZ y0)), none, some (aL (jZ y2)), none, some (aL (jZ y4)), none], [], h, t) P) : ∃ r, Ca (d + 1) 175 [aL (jZ y0), aL (jZ y2), aL (jZ y4)] h t r ∧ P r := ca_W rfl rfl rfl rfl w

theorem b_X12_isIn_6 {y0 : Int} {y2 : Int} {y4 : Int} {σ : SG} {t : KT} (h1 : -2147483648 ≤ ycmp y0 y4 ∧ ycmp y0 y4 < 2147483648) (w2 : 0 < ycmp y0 y4 → Wp k_X12_isIn d (17, [some (aL (jZ y0)), none, some (aL (jZ y2)), none, some (aL (jZ y4)), none], [], am_hp σ, t) Q) (w3 : ycmp y0 y4 ≤ 0 → Wp k_X12_isIn d (13, [some (aL (jZ y0)), none, some (aL (jZ y2)), none, some (aL (jZ y4)), none], [], am_hp σ, t) Q) : Wp k_X12_isIn d (6, [some (aL (jZ y0)), none, some (aL (jZ y2)), none, some (aL (jZ y4)), none], [], am_hp σ, t) Q := by
  refine w_s (c' := (7, [some (aL (jZ y0)), none, some (aL (jZ y2)), none, some (aL (jZ y4)), none], [aL (jZ y0)], am_hp σ, t)) rfl rfl ?_
  refine w_s (c' := (9, [some (aL (jZ y0)), none, some (aL (jZ y2)), none, some (aL (jZ y4)), none], [aL (jZ y4), aL (jZ y0)], am_hp σ, t)) rfl rfl ?_
  refine w_lcmp rfl rfl ?_
  exact w_ifgt rfl h1 rfl w2 w3

theorem b_X12_isIn_13 {y0 : Int} {y2 : Int} {y4 : Int} {σ : SG} {t : KT} (w1 : Wp k_X12_isIn d (18, [some (aL (jZ y0)), none, some (aL (jZ y2)), none, some (aL (jZ y4)), none], [aI (iZ 1)], am_hp σ, t) Q) : Wp k_X12_isIn d (13, [some (aL (jZ y0)), none, some (aL (jZ y2)), none, some (aL (jZ y4)), none], [], am_hp σ, t) Q := by
  refine w_psh rfl zc_1 rfl ?_
  refine w_s (c' := (18, [some (aL (jZ y0)), none, some (aL (jZ y2)), none, some (aL (jZ y4)), none], [aI (iZ 1)], am_hp σ, t)) rfl rfl ?_
  exact w1

theorem b_X12_isIn_17 {y0 : Int} {y2 : Int} {y4 : Int} {σ : SG} {t : KT} (w1 : Wp k_X12_isIn d (18, [some (aL (jZ y0)), none, some (aL (jZ y2)), none, some (aL (jZ y4)), none], [aI (iZ 0)], am_hp σ, t) Q) : Wp k_X12_isIn d (17, [some (aL (jZ y0)), none, some (aL (jZ y2)), none, some (aL (jZ y4)), none], [], am_hp σ, t) Q := by
  refine w_psh rfl zc_0 rfl ?_
  exact w1

theorem b_X12_isIn_18 {y0 : Int} {y2 : Int} {y4 : Int} {xs0 : Int} {σ : SG} {t : KT} (h1 : xs0 = 0 ∨ xs0 = 1) (q2 : Q (.inl (some (aI (iZ xs0))), am_hp σ, t)) : Wp k_X12_isIn d (18, [some (aL (jZ y0)), none, some (aL (jZ y2)), none, some (aL (jZ y4)), none], [aI (iZ xs0)], am_hp σ, t) Q := by
  exact w_ret rfl (frt_b h1) q2

theorem b_X12_truth_0 {x0 : Int} {σ : SG} {t : KT} (h1 : -2147483648 ≤ x0 ∧ x0 < 2147483648) (w2 : x0 = 0 → Wp k_X12_truth d (8, [some (aI (iZ x0))], [], am_hp σ, t) Q) (w3 : x0 ≠ 0 → Wp k_X12_truth d (4, [some (aI (iZ x0))], [], am_hp σ, t) Q) : Wp k_X12_truth d (0, [some (aI (iZ x0))], [], am_hp σ, t) Q := by
  refine w_s (c' := (1, [some (aI (iZ x0))], [aI (iZ x0)], am_hp σ, t)) rfl rfl ?_
  exact w_ifeq rfl h1 rfl w2 w3

theorem e_X12_truth {x0 : Int} {h : AH} {t : KT} {d : Nat} {P : RS → Prop} (w : Wp k_X12_truth d (0, [some (aI (iZ x0))], [], h, t) P) : ∃ r, Ca (d + 1) 176 [aI (iZ x0)] h t r ∧ P r := ca_W rfl rfl rfl rfl w

theorem b_X12_truth_4 {x0 : Int} {σ : SG} {t : KT} (w1 : Wp k_X12_truth d (9, [some (aI (iZ x0))], [aI (iZ 1)], am_hp σ, t) Q) : Wp k_X12_truth d (4, [some (aI (iZ x0))], [], am_hp σ, t) Q := by
  refine w_psh rfl zc_1 rfl ?_
  refine w_s (c' := (9, [some (aI (iZ x0))], [aI (iZ 1)], am_hp σ, t)) rfl rfl ?_
  exact w1

theorem b_X12_truth_8 {x0 : Int} {σ : SG} {t : KT} (w1 : Wp k_X12_truth d (9, [some (aI (iZ x0))], [aI (iZ 0)], am_hp σ, t) Q) : Wp k_X12_truth d (8, [some (aI (iZ x0))], [], am_hp σ, t) Q := by
  refine w_psh rfl zc_0 rfl ?_
  exact w1

theorem b_X12_truth_9 {x0 : Int} {xs0 : Int} {σ : SG} {t : KT} (q1 : Q (.inl (some (aI (iZ xs0))), am_hp σ, t)) : Wp k_X12_truth d (9, [some (aI (iZ x0))], [aI (iZ xs0)], am_hp σ, t) Q := by
  exact w_ret rfl rfl q1

theorem b_X12_has_0 {x0 : Int} {x1 : Int} {σ : SG} {t : KT} (h1 : -2147483648 ≤ zand (zshr x0 x1) 1 ∧ zand (zshr x0 x1) 1 < 2147483648) (w2 : zand (zshr x0 x1) 1 ≠ 1 → Wp k_X12_has d (13, [some (aI (iZ x0)), some (aI (iZ x1))], [], am_hp σ, t) Q) (w3 : zand (zshr x0 x1) 1 = 1 → Wp k_X12_has d (9, [some (aI (iZ x0)), some (aI (iZ x1))], [], am_hp σ, t) Q) : Wp k_X12_has d (0, [some (aI (iZ x0)), some (aI (iZ x1))], [], am_hp σ, t) Q := by
  refine w_s (c' := (1, [some (aI (iZ x0)), some (aI (iZ x1))], [aI (iZ x0)], am_hp σ, t)) rfl rfl ?_
  refine w_s (c' := (2, [some (aI (iZ x0)), some (aI (iZ x1))], [aI (iZ x1), aI (iZ x0)], am_hp σ, t)) rfl rfl ?_
  refine w_ishr rfl rfl ?_
  refine w_psh rfl zc_1 rfl ?_
  refine w_iand rfl rfl ?_
  refine w_psh rfl zc_1 rfl ?_
  exact w_icne rfl h1 (by decide) rfl w2 w3

theorem e_X12_has {x0 : Int} {x1 : Int} {h : AH} {t : KT} {d : Nat} {P : RS → Prop} (w : Wp k_X12_has d (0, [some (aI (iZ x0)), some (aI (iZ x1))], [], h, t) P) : ∃ r, Ca (d + 1) 177 [aI (iZ x0), aI (iZ x1)] h t r ∧ P r := ca_W rfl rfl rfl rfl w

theorem b_X12_has_9 {x0 : Int} {x1 : Int} {σ : SG} {t : KT} (w1 : Wp k_X12_has d (14, [some (aI (iZ x0)), some (aI (iZ x1))], [aI (iZ 1)], am_hp σ, t) Q) : Wp k_X12_has d (9, [some (aI (iZ x0)), some (aI (iZ x1))], [], am_hp σ, t) Q := by
  refine w_psh rfl zc_1 rfl ?_
  refine w_s (c' := (14, [some (aI (iZ x0)), some (aI (iZ x1))], [aI (iZ 1)], am_hp σ, t)) rfl rfl ?_
  exact w1

theorem b_X12_has_13 {x0 : Int} {x1 : Int} {σ : SG} {t : KT} (w1 : Wp k_X12_has d (14, [some (aI (iZ x0)), some (aI (iZ x1))], [aI (iZ 0)], am_hp σ, t) Q) : Wp k_X12_has d (13, [some (aI (iZ x0)), some (aI (iZ x1))], [], am_hp σ, t) Q := by
  refine w_psh rfl zc_0 rfl ?_
  exact w1

theorem b_X12_has_14 {x0 : Int} {x1 : Int} {xs0 : Int} {σ : SG} {t : KT} (h1 : xs0 = 0 ∨ xs0 = 1) (q2 : Q (.inl (some (aI (iZ xs0))), am_hp σ, t)) : Wp k_X12_has d (14, [some (aI (iZ x0)), some (aI (iZ x1))], [aI (iZ xs0)], am_hp σ, t) Q := by
  exact w_ret rfl (frt_b h1) q2

theorem b_X12_goes_0 {x1 : Int} {σ : SG} {t : KT} (h1 : -2147483648 ≤ x1 ∧ x1 < 2147483648) (w2 : x1 ≠ 0 → Wp k_X12_goes d (9, [some (aR (some (40, 0, 0))), some (aI (iZ x1))], [aR (some (40, 0, 0))], am_hp σ, t) Q) (w3 : x1 = 0 → Wp k_X12_goes d (5, [some (aR (some (40, 0, 0))), some (aI (iZ x1))], [aR (some (40, 0, 0))], am_hp σ, t) Q) : Wp k_X12_goes d (0, [some (aR (some (40, 0, 0))), some (aI (iZ x1))], [], am_hp σ, t) Q := by
  refine w_s (c' := (1, [some (aR (some (40, 0, 0))), some (aI (iZ x1))], [aR (some (40, 0, 0))], am_hp σ, t)) rfl rfl ?_
  refine w_s (c' := (2, [some (aR (some (40, 0, 0))), some (aI (iZ x1))], [aI (iZ x1), aR (some (40, 0, 0))], am_hp σ, t)) rfl rfl ?_
  exact w_ifne rfl h1 rfl w2 w3

theorem e_X12_goes {x1 : Int} {h : AH} {t : KT} {d : Nat} {P : RS → Prop} (w : Wp k_X12_goes d (0, [some (aR (some (40, 0, 0))), some (aI (iZ x1))], [], h, t) P) : ∃ r, Ca (d + 1) 178 [aR (some (40, 0, 0)), aI (iZ x1)] h t r ∧ P r := ca_W rfl rfl rfl rfl w

theorem b_X12_goes_5 {x1 : Int} {σ : SG} {t : KT} (w1 : Wp k_X12_goes d (10, [some (aR (some (40, 0, 0))), some (aI (iZ x1))], [aI (iZ 1), aR (some (40, 0, 0))], am_hp σ, t) Q) : Wp k_X12_goes d (5, [some (aR (some (40, 0, 0))), some (aI (iZ x1))], [aR (some (40, 0, 0))], am_hp σ, t) Q := by
  refine w_psh rfl zc_1 rfl ?_
  refine w_s (c' := (10, [some (aR (some (40, 0, 0))), some (aI (iZ x1))], [aI (iZ 1), aR (some (40, 0, 0))], am_hp σ, t)) rfl rfl ?_
  exact w1

theorem b_X12_goes_9 {x1 : Int} {σ : SG} {t : KT} (w1 : Wp k_X12_goes d (10, [some (aR (some (40, 0, 0))), some (aI (iZ x1))], [aI (iZ 0), aR (some (40, 0, 0))], am_hp σ, t) Q) : Wp k_X12_goes d (9, [some (aR (some (40, 0, 0))), some (aI (iZ x1))], [aR (some (40, 0, 0))], am_hp σ, t) Q := by
  refine w_psh rfl zc_0 rfl ?_
  exact w1

theorem b_X12_goes_10 {x1 : Int} {xs0 : Int} {r1 : Int} {σ σ1 : SG} {t : KT} (c1 : Ca d 176 [aI (iZ xs0)] (am_hp σ) t (.inl (some (aI (iZ r1))), am_hp σ1, t)) (h2 : x1 = 0 ∨ x1 = 1) (q3 : Q (.inl (some (aI (iZ x1))), am_hp ((sI σ1 (40, 0, 0) (up (σ1.1 (40, 0, 0)) 0 r1))), t)) : Wp k_X12_goes d (10, [some (aR (some (40, 0, 0))), some (aI (iZ x1))], [aI (iZ xs0), aR (some (40, 0, 0))], am_hp σ, t) Q := by
  refine w_c0 (c' := (13, [some (aR (some (40, 0, 0))), some (aI (iZ x1))], [aI (iZ r1), aR (some (40, 0, 0))], am_hp σ1, t)) rfl rfl rfl rfl c1 (Nat.le_refl _) rfl ?_
  refine w_putI rfl (hp_40 _ 0) rfl rfl rfl ?_
  refine w_s (c' := (17, [some (aR (some (40, 0, 0))), some (aI (iZ x1))], [aI (iZ x1)], am_hp ((sI σ1 (40, 0, 0) (up (σ1.1 (40, 0, 0)) 0 r1))), t)) rfl rfl ?_
  exact w_ret rfl (frt_b h2) q3

theorem b_X12_goesBoth_0 {x1 : Int} {x2 : Int} {σ : SG} {t : KT} (h1 : -2147483648 ≤ x1 ∧ x1 < 2147483648) (w2 : x1 ≠ 0 → Wp k_X12_goesBoth d (9, [some (aR (some (40, 0, 0))), some (aI (iZ x1)), some (aI (iZ x2))], [aR (some (40, 0, 0))], am_hp σ, t) Q) (w3 : x1 = 0 → Wp k_X12_goesBoth d (5, [some (aR (some (40, 0, 0))), some (aI (iZ x1)), some (aI (iZ x2))], [aR (some (40, 0, 0))], am_hp σ, t) Q) : Wp k_X12_goesBoth d (0, [some (aR (some (40, 0, 0))), some (aI (iZ x1)), some (aI (iZ x2))], [], am_hp σ, t) Q := by
  refine w_s (c' := (1, [some (aR (some (40, 0, 0))), some (aI (iZ x1)), some (aI (iZ x2))], [aR (some (40, 0, 0))], am_hp σ, t)) rfl rfl ?_
  refine w_s (c' := (2, [some (aR (some (40, 0, 0))), some (aI (iZ x1)), some (aI (iZ x2))], [aI (iZ x1), aR (some (40, 0, 0))], am_hp σ, t)) rfl rfl ?_
  exact w_ifne rfl h1 rfl w2 w3

theorem e_X12_goesBoth {x1 : Int} {x2 : Int} {h : AH} {t : KT} {d : Nat} {P : RS → Prop} (w : Wp k_X12_goesBoth d (0, [some (aR (some (40, 0, 0))), some (aI (iZ x1)), some (aI (iZ x2))], [], h, t) P) : ∃ r, Ca (d + 1) 179 [aR (some (40, 0, 0)), aI (iZ x1), aI (iZ x2)] h t r ∧ P r := ca_W rfl rfl rfl rfl w

theorem b_X12_goesBoth_5 {x1 : Int} {x2 : Int} {σ : SG} {t : KT} (w1 : Wp k_X12_goesBoth d (18, [some (aR (some (40, 0, 0))), some (aI (iZ x1)), some (aI (iZ x2))], [aI (iZ 1), aR (some (40, 0, 0))], am_hp σ, t) Q) : Wp k_X12_goesBoth d (5, [some (aR (some (40, 0, 0))), some (aI (iZ x1)), some (aI (iZ x2))], [aR (some (40, 0, 0))], am_hp σ, t) Q := by
  refine w_psh rfl zc_1 rfl ?_
  refine w_s (c' := (18, [some (aR (some (40, 0, 0))), some (aI (iZ x1)), some (aI (iZ x2))], [aI (iZ 1), aR (some (40, 0, 0))], am_hp σ, t)) rfl rfl ?_
  exact w1

theorem b_X12_goesBoth_9 {x1 : Int} {x2 : Int} {σ : SG} {t : KT} (h1 : -2147483648 ≤ x2 ∧ x2 < 2147483648) (w2 : x2 ≠ 0 → Wp k_X12_goesBoth d (17, [some (aR (some (40, 0, 0))), some (aI (iZ x1)), some (aI (iZ x2))], [aR (some (40, 0, 0))], am_hp σ, t) Q) (w3 : x2 = 0 → Wp k_X12_goesBoth d (13, [some (aR (some (40, 0, 0))), some (aI (iZ x1)), some (aI (iZ x2))], [aR (some (40, 0, 0))], am_hp σ, t) Q) : Wp k_X12_goesBoth d (9, [some (aR (some (40, 0, 0))), some (aI (iZ x1)), some (aI (iZ x2))], [aR (some (40, 0, 0))], am_hp σ, t) Q := by
  refine w_s (c' := (10, [some (aR (some (40, 0, 0))), some (aI (iZ x1)), some (aI (iZ x2))], [aI (iZ x2), aR (some (40, 0, 0))], am_hp σ, t)) rfl rfl ?_
  exact w_ifne rfl h1 rfl w2 w3

theorem b_X12_goesBoth_13 {x1 : Int} {x2 : Int} {σ : SG} {t : KT} (w1 : Wp k_X12_goesBoth d (18, [some (aR (some (40, 0, 0))), some (aI (iZ x1)), some (aI (iZ x2))], [aI (iZ 2), aR (some (40, 0, 0))], am_hp σ, t) Q) : Wp k_X12_goesBoth d (13, [some (aR (some (40, 0, 0))), some (aI (iZ x1)), some (aI (iZ x2))], [aR (some (40, 0, 0))], am_hp σ, t) Q := by
  refine w_psh rfl zc_2 rfl ?_
  refine w_s (c' := (18, [some (aR (some (40, 0, 0))), some (aI (iZ x1)), some (aI (iZ x2))], [aI (iZ 2), aR (some (40, 0, 0))], am_hp σ, t)) rfl rfl ?_
  exact w1

theorem b_X12_goesBoth_17 {x1 : Int} {x2 : Int} {σ : SG} {t : KT} (w1 : Wp k_X12_goesBoth d (18, [some (aR (some (40, 0, 0))), some (aI (iZ x1)), some (aI (iZ x2))], [aI (iZ 0), aR (some (40, 0, 0))], am_hp σ, t) Q) : Wp k_X12_goesBoth d (17, [some (aR (some (40, 0, 0))), some (aI (iZ x1)), some (aI (iZ x2))], [aR (some (40, 0, 0))], am_hp σ, t) Q := by
  refine w_psh rfl zc_0 rfl ?_
  exact w1

theorem b_X12_goesBoth_18 {x1 : Int} {x2 : Int} {xs0 : Int} {σ : SG} {t : KT} (h1 : -2147483648 ≤ ((sI σ (40, 0, 0) (up (σ.1 (40, 0, 0)) 0 xs0))).1 (40, 0, 0) 0 ∧ ((sI σ (40, 0, 0) (up (σ.1 (40, 0, 0)) 0 xs0))).1 (40, 0, 0) 0 < 2147483648) (w2 : ((sI σ (40, 0, 0) (up (σ.1 (40, 0, 0)) 0 xs0))).1 (40, 0, 0) 0 ≠ 0 → Wp k_X12_goesBoth d (32, [some (aR (some (40, 0, 0))), some (aI (iZ x1)), some (aI (iZ x2))], [], am_hp ((sI σ (40, 0, 0) (up (σ.1 (40, 0, 0)) 0 xs0))), t) Q) (w3 : ((sI σ (40, 0, 0) (up (σ.1 (40, 0, 0)) 0 xs0))).1 (40, 0, 0) 0 = 0 → Wp k_X12_goesBoth d (28, [some (aR (some (40, 0, 0))), some (aI (iZ x1)), some (aI (iZ x2))], [], am_hp ((sI σ (40, 0, 0) (up (σ.1 (40, 0, 0)) 0 xs0))), t) Q) : Wp k_X12_goesBoth d (18, [some (aR (some (40, 0, 0))), some (aI (iZ x1)), some (aI (iZ x2))], [aI (iZ xs0), aR (some (40, 0, 0))], am_hp σ, t) Q := by
  refine w_putI rfl (hp_40 _ 0) rfl rfl rfl ?_
  refine w_s (c' := (22, [some (aR (some (40, 0, 0))), some (aI (iZ x1)), some (aI (iZ x2))], [aR (some (40, 0, 0))], am_hp ((sI σ (40, 0, 0) (up (σ.1 (40, 0, 0)) 0 xs0))), t)) rfl rfl ?_
  refine w_get rfl (hp_40 _ 0) rfl rfl ?_
  exact w_ifne rfl h1 rfl w2 w3

theorem b_X12_goesBoth_28 {x1 : Int} {x2 : Int} {σ : SG} {t : KT} (w1 : Wp k_X12_goesBoth d (33, [some (aR (some (40, 0, 0))), some (aI (iZ x1)), some (aI (iZ x2))], [aI (iZ 1)], am_hp σ, t) Q) : Wp k_X12_goesBoth d (28, [some (aR (some (40, 0, 0))), some (aI (iZ x1)), some (aI (iZ x2))], [], am_hp σ, t) Q := by
  refine w_psh rfl zc_1 rfl ?_
  refine w_s (c' := (33, [some (aR (some (40, 0, 0))), some (aI (iZ x1)), some (aI (iZ x2))], [aI (iZ 1)], am_hp σ, t)) rfl rfl ?_
  exact w1

theorem b_X12_goesBoth_32 {x1 : Int} {x2 : Int} {σ : SG} {t : KT} (w1 : Wp k_X12_goesBoth d (33, [some (aR (some (40, 0, 0))), some (aI (iZ x1)), some (aI (iZ x2))], [aI (iZ 0)], am_hp σ, t) Q) : Wp k_X12_goesBoth d (32, [some (aR (some (40, 0, 0))), some (aI (iZ x1)), some (aI (iZ x2))], [], am_hp σ, t) Q := by
  refine w_psh rfl zc_0 rfl ?_
  exact w1

theorem b_X12_goesBoth_33 {x1 : Int} {x2 : Int} {xs0 : Int} {σ : SG} {t : KT} (h1 : xs0 = 0 ∨ xs0 = 1) (q2 : Q (.inl (some (aI (iZ xs0))), am_hp σ, t)) : Wp k_X12_goesBoth d (33, [some (aR (some (40, 0, 0))), some (aI (iZ x1)), some (aI (iZ x2))], [aI (iZ xs0)], am_hp σ, t) Q := by
  exact w_ret rfl (frt_b h1) q2

theorem b_X12_feed_0 {x1 : Int} {x2 : Int} {x3 : Int} {x4 : Int} {x5 : Int} {σ : SG} {t : KT} (h1 : -2147483648 ≤ (σ.1 (40, 0, 0) 2) + 20 ∧ (σ.1 (40, 0, 0) 2) + 20 < 2147483648) (w2 : 600 < (σ.1 (40, 0, 0) 2) + 20 → Wp k_X12_feed d (18, [some (aR (some (40, 0, 0))), some (aI (iZ x1)), some (aI (iZ x2)), some (aI (iZ x3)), some (aI (iZ x4)), some (aI (iZ x5))], [aR (some (40, 0, 0))], am_hp σ, t) Q) (w3 : (σ.1 (40, 0, 0) 2) + 20 ≤ 600 → Wp k_X12_feed d (14, [some (aR (some (40, 0, 0))), some (aI (iZ x1)), some (aI (iZ x2)), some (aI (iZ x3)), some (aI (iZ x4)), some (aI (iZ x5))], [aR (some (40, 0, 0))], am_hp σ, t) Q) : Wp k_X12_feed d (0, [some (aR (some (40, 0, 0))), some (aI (iZ x1)), some (aI (iZ x2)), some (aI (iZ x3)), some (aI (iZ x4)), some (aI (iZ x5))], [], am_hp σ, t) Q := by
  refine w_s (c' := (1, [some (aR (some (40, 0, 0))), some (aI (iZ x1)), some (aI (iZ x2)), some (aI (iZ x3)), some (aI (iZ x4)), some (aI (iZ x5))], [aR (some (40, 0, 0))], am_hp σ, t)) rfl rfl ?_
  refine w_s (c' := (2, [some (aR (some (40, 0, 0))), some (aI (iZ x1)), some (aI (iZ x2)), some (aI (iZ x3)), some (aI (iZ x4)), some (aI (iZ x5))], [aR (some (40, 0, 0)), aR (some (40, 0, 0))], am_hp σ, t)) rfl rfl ?_
  refine w_get rfl (hp_40 _ 0) rfl rfl ?_
  refine w_psh rfl zc_20 rfl ?_
  refine w_iadd rfl rfl ?_
  refine w_psh rfl zc_600 rfl ?_
  exact w_icgt rfl h1 (by decide) rfl w2 w3

theorem e_X12_feed {x1 : Int} {x2 : Int} {x3 : Int} {x4 : Int} {x5 : Int} {h : AH} {t : KT} {d : Nat} {P : RS → Prop} (w : Wp k_X12_feed d (0, [some (aR (some (40, 0, 0))), some (aI (iZ x1)), some (aI (iZ x2)), some (aI (iZ x3)), some (aI (iZ x4)), some (aI (iZ x5))], [], h, t) P) : ∃ r, Ca (d + 1) 180 [aR (some (40, 0, 0)), aI (iZ x1), aI (iZ x2), aI (iZ x3), aI (iZ x4), aI (iZ x5)] h t r ∧ P r := ca_W rfl rfl rfl rfl w

theorem b_X12_feed_14 {x1 : Int} {x2 : Int} {x3 : Int} {x4 : Int} {x5 : Int} {σ : SG} {t : KT} (w1 : Wp k_X12_feed d (19, [some (aR (some (40, 0, 0))), some (aI (iZ x1)), some (aI (iZ x2)), some (aI (iZ x3)), some (aI (iZ x4)), some (aI (iZ x5))], [aI (iZ 1), aR (some (40, 0, 0))], am_hp σ, t) Q) : Wp k_X12_feed d (14, [some (aR (some (40, 0, 0))), some (aI (iZ x1)), some (aI (iZ x2)), some (aI (iZ x3)), some (aI (iZ x4)), some (aI (iZ x5))], [aR (some (40, 0, 0))], am_hp σ, t) Q := by
  refine w_psh rfl zc_1 rfl ?_
  refine w_s (c' := (19, [some (aR (some (40, 0, 0))), some (aI (iZ x1)), some (aI (iZ x2)), some (aI (iZ x3)), some (aI (iZ x4)), some (aI (iZ x5))], [aI (iZ 1), aR (some (40, 0, 0))], am_hp σ, t)) rfl rfl ?_
  exact w1

theorem b_X12_feed_18 {x1 : Int} {x2 : Int} {x3 : Int} {x4 : Int} {x5 : Int} {σ : SG} {t : KT} (w1 : Wp k_X12_feed d (19, [some (aR (some (40, 0, 0))), some (aI (iZ x1)), some (aI (iZ x2)), some (aI (iZ x3)), some (aI (iZ x4)), some (aI (iZ x5))], [aI (iZ 0), aR (some (40, 0, 0))], am_hp σ, t) Q) : Wp k_X12_feed d (18, [some (aR (some (40, 0, 0))), some (aI (iZ x1)), some (aI (iZ x2)), some (aI (iZ x3)), some (aI (iZ x4)), some (aI (iZ x5))], [aR (some (40, 0, 0))], am_hp σ, t) Q := by
  refine w_psh rfl zc_0 rfl ?_
  exact w1

theorem b_X12_feed_19 {x1 : Int} {x2 : Int} {x3 : Int} {x4 : Int} {x5 : Int} {xs0 : Int} {r1 : Int} {σ σ1 : SG} {t : KT} (c1 : Ca d 178 [aR (some (40, 0, 0)), aI (iZ xs0)] (am_hp σ) t (.inl (some (aI (iZ r1))), am_hp σ1, t)) (h2 : -2147483648 ≤ r1 ∧ r1 < 2147483648) (w3 : r1 ≠ 0 → Wp k_X12_feed d (27, [some (aR (some (40, 0, 0))), some (aI (iZ x1)), some (aI (iZ x2)), some (aI (iZ x3)), some (aI (iZ x4)), some (aI (iZ x5))], [], am_hp σ1, t) Q) (w4 : r1 = 0 → Wp k_X12_feed d (25, [some (aR (some (40, 0, 0))), some (aI (iZ x1)), some (aI (iZ x2)), some (aI (iZ x3)), some (aI (iZ x4)), some (aI (iZ x5))], [], am_hp σ1, t) Q) : Wp k_X12_feed d (19, [some (aR (some (40, 0, 0))), some (aI (iZ x1)), some (aI (iZ x2)), some (aI (iZ x3)), some (aI (iZ x4)), some (aI (iZ x5))], [aI (iZ xs0), aR (some (40, 0, 0))], am_hp σ, t) Q := by
  refine w_c0 (c' := (22, [some (aR (some (40, 0, 0))), some (aI (iZ x1)), some (aI (iZ x2)), some (aI (iZ x3)), some (aI (iZ x4)), some (aI (iZ x5))], [aI (iZ r1)], am_hp σ1, t)) rfl rfl (rcv_of (hp_40 _ 0)) rfl c1 (Nat.le_refl _) rfl ?_
  exact w_ifne rfl h2 rfl w3 w4

theorem b_X12_feed_25 {x1 : Int} {x2 : Int} {x3 : Int} {x4 : Int} {x5 : Int} {σ : SG} {t : KT} (q1 : Q (.inl (some (aI (iZ 0))), am_hp σ, t)) : Wp k_X12_feed d (25, [some (aR (some (40, 0, 0))), some (aI (iZ x1)), some (aI (iZ x2)), some (aI (iZ x3)), some (aI (iZ x4)), some (aI (iZ x5))], [], am_hp σ, t) Q := by
  refine w_psh rfl zc_0 rfl ?_
  exact w_ret rfl rfl q1

theorem b_X12_feed_27 {x1 : Int} {x2 : Int} {x3 : Int} {x4 : Int} {x5 : Int} {σ σ1 σ2 σ3 σ4 σ5 : SG} {t : KT} (c1 : Ca d 181 [aR (some (40, 0, 0)), aI (iZ x1)] (am_hp σ) t (.inl none, am_hp σ1, t)) (c2 : Ca d 181 [aR (some (40, 0, 0)), aI (iZ x2)] (am_hp σ1) t (.inl none, am_hp σ2, t)) (c3 : Ca d 181 [aR (some (40, 0, 0)), aI (iZ x3)] (am_hp σ2) t (.inl none, am_hp σ3, t)) (c4 : Ca d 181 [aR (some (40, 0, 0)), aI (iZ x4)] (am_hp σ3) t (.inl none, am_hp σ4, t)) (c5 : Ca d 181 [aR (some (40, 0, 0)), aI (iZ x5)] (am_hp σ4) t (.inl none, am_hp σ5, t)) (q6 : Q (.inl (some (aI (iZ (σ5.1 (40, 0, 0) 2)))), am_hp σ5, t)) : Wp k_X12_feed d (27, [some (aR (some (40, 0, 0))), some (aI (iZ x1)), some (aI (iZ x2)), some (aI (iZ x3)), some (aI (iZ x4)), some (aI (iZ x5))], [], am_hp σ, t) Q := by
  refine w_s (c' := (28, [some (aR (some (40, 0, 0))), some (aI (iZ x1)), some (aI (iZ x2)), some (aI (iZ x3)), some (aI (iZ x4)), some (aI (iZ x5))], [aR (some (40, 0, 0))], am_hp σ, t)) rfl rfl ?_
  refine w_s (c' := (29, [some (aR (some (40, 0, 0))), some (aI (iZ x1)), some (aI (iZ x2)), some (aI (iZ x3)), some (aI (iZ x4)), some (aI (iZ x5))], [aI (iZ x1), aR (some (40, 0, 0))], am_hp σ, t)) rfl rfl ?_
  refine w_c0 (c' := (32, [some (aR (some (40, 0, 0))), some (aI (iZ x1)), some (aI (iZ x2)), some (aI (iZ x3)), some (aI (iZ x4)), some (aI (iZ x5))], [], am_hp σ1, t)) rfl rfl (rcv_of (hp_40 _ 0)) rfl c1 (Nat.le_refl _) rfl ?_
  refine w_s (c' := (33, [some (aR (some (40, 0, 0))), some (aI (iZ x1)), some (aI (iZ x2)), some (aI (iZ x3)), some (aI (iZ x4)), some (aI (iZ x5))], [aR (some (40, 0, 0))], am_hp σ1, t)) rfl rfl ?_
  refine w_s (c' := (34, [some (aR (some (40, 0, 0))), some (aI (iZ x1)), some (aI (iZ x2)), some (aI (iZ x3)), some (aI (iZ x4)), some (aI (iZ x5))], [aI (iZ x2), aR (some (40, 0, 0))], am_hp σ1, t)) rfl rfl ?_
  refine w_c0 (c' := (37, [some (aR (some (40, 0, 0))), some (aI (iZ x1)), some (aI (iZ x2)), some (aI (iZ x3)), some (aI (iZ x4)), some (aI (iZ x5))], [], am_hp σ2, t)) rfl rfl (rcv_of (hp_40 _ 0)) rfl c2 (Nat.le_refl _) rfl ?_
  refine w_s (c' := (38, [some (aR (some (40, 0, 0))), some (aI (iZ x1)), some (aI (iZ x2)), some (aI (iZ x3)), some (aI (iZ x4)), some (aI (iZ x5))], [aR (some (40, 0, 0))], am_hp σ2, t)) rfl rfl ?_
  refine w_s (c' := (39, [some (aR (some (40, 0, 0))), some (aI (iZ x1)), some (aI (iZ x2)), some (aI (iZ x3)), some (aI (iZ x4)), some (aI (iZ x5))], [aI (iZ x3), aR (some (40, 0, 0))], am_hp σ2, t)) rfl rfl ?_
  refine w_c0 (c' := (42, [some (aR (some (40, 0, 0))), some (aI (iZ x1)), some (aI (iZ x2)), some (aI (iZ x3)), some (aI (iZ x4)), some (aI (iZ x5))], [], am_hp σ3, t)) rfl rfl (rcv_of (hp_40 _ 0)) rfl c3 (Nat.le_refl _) rfl ?_
  refine w_s (c' := (43, [some (aR (some (40, 0, 0))), some (aI (iZ x1)), some (aI (iZ x2)), some (aI (iZ x3)), some (aI (iZ x4)), some (aI (iZ x5))], [aR (some (40, 0, 0))], am_hp σ3, t)) rfl rfl ?_
  refine w_s (c' := (45, [some (aR (some (40, 0, 0))), some (aI (iZ x1)), some (aI (iZ x2)), some (aI (iZ x3)), some (aI (iZ x4)), some (aI (iZ x5))], [aI (iZ x4), aR (some (40, 0, 0))], am_hp σ3, t)) rfl rfl ?_
  refine w_c0 (c' := (48, [some (aR (some (40, 0, 0))), some (aI (iZ x1)), some (aI (iZ x2)), some (aI (iZ x3)), some (aI (iZ x4)), some (aI (iZ x5))], [], am_hp σ4, t)) rfl rfl (rcv_of (hp_40 _ 0)) rfl c4 (Nat.le_refl _) rfl ?_
  refine w_s (c' := (49, [some (aR (some (40, 0, 0))), some (aI (iZ x1)), some (aI (iZ x2)), some (aI (iZ x3)), some (aI (iZ x4)), some (aI (iZ x5))], [aR (some (40, 0, 0))], am_hp σ4, t)) rfl rfl ?_
  refine w_s (c' := (51, [some (aR (some (40, 0, 0))), some (aI (iZ x1)), some (aI (iZ x2)), some (aI (iZ x3)), some (aI (iZ x4)), some (aI (iZ x5))], [aI (iZ x5), aR (some (40, 0, 0))], am_hp σ4, t)) rfl rfl ?_
  refine w_c0 (c' := (54, [some (aR (some (40, 0, 0))), some (aI (iZ x1)), some (aI (iZ x2)), some (aI (iZ x3)), some (aI (iZ x4)), some (aI (iZ x5))], [], am_hp σ5, t)) rfl rfl (rcv_of (hp_40 _ 0)) rfl c5 (Nat.le_refl _) rfl ?_
  refine w_s (c' := (55, [some (aR (some (40, 0, 0))), some (aI (iZ x1)), some (aI (iZ x2)), some (aI (iZ x3)), some (aI (iZ x4)), some (aI (iZ x5))], [aR (some (40, 0, 0))], am_hp σ5, t)) rfl rfl ?_
  refine w_get rfl (hp_40 _ 0) rfl rfl ?_
  exact w_ret rfl rfl q6

theorem b_X12_four_0 {x1 : Int} {σ : SG} {t : KT} (w1 : Wp k_X12_four d (3, [some (aR (some (40, 0, 0))), some (aI (iZ x1)), some (aI (iZ 24))], [], am_hp σ, t) Q) : Wp k_X12_four d (0, [some (aR (some (40, 0, 0))), some (aI (iZ x1)), none], [], am_hp σ, t) Q := by
  refine w_psh rfl zc_24 rfl ?_
  refine w_s (c' := (3, [some (aR (some (40, 0, 0))), some (aI (iZ x1)), some (aI (iZ 24))], [], am_hp σ, t)) rfl rfl ?_
  exact w1

theorem e_X12_four {x1 : Int} {h : AH} {t : KT} {d : Nat} {P : RS → Prop} (w : Wp k_X12_four d (0, [some (aR (some (40, 0, 0))), some (aI (iZ x1)), none], [], h, t) P) : ∃ r, Ca (d + 1) 181 [aR (some (40, 0, 0)), aI (iZ x1)] h t r ∧ P r := ca_W rfl rfl rfl rfl w

theorem b_X12_four_3 {x1 : Int} {x2 : Int} {σ : SG} {t : KT} (h1 : -2147483648 ≤ x2 ∧ x2 < 2147483648) (w2 : x2 < 0 → Wp k_X12_four d (39, [some (aR (some (40, 0, 0))), some (aI (iZ x1)), some (aI (iZ x2))], [], am_hp σ, t) Q) (w3 : 0 ≤ x2 → Wp k_X12_four d (7, [some (aR (some (40, 0, 0))), some (aI (iZ x1)), some (aI (iZ x2))], [], am_hp σ, t) Q) : Wp k_X12_four d (3, [some (aR (some (40, 0, 0))), some (aI (iZ x1)), some (aI (iZ x2))], [], am_hp σ, t) Q := by
  refine w_s (c' := (4, [some (aR (some (40, 0, 0))), some (aI (iZ x1)), some (aI (iZ x2))], [aI (iZ x2)], am_hp σ, t)) rfl rfl ?_
  exact w_iflt rfl h1 rfl w2 w3

theorem b_X12_four_7 {x1 : Int} {x2 : Int} {σ : SG} {t : KT} (h1 : 0 ≤ σ.1 (40, 0, 0) 2 ∧ σ.1 (40, 0, 0) 2 < 600) (w2 : Wp k_X12_four d (3, [some (aR (some (40, 0, 0))), some (aI (iZ x1)), some (aI (iZ (x2 + (-8))))], [], am_hp ((sI (sI σ (41, 0, 0) (up (σ.1 (41, 0, 0)) (σ.1 (40, 0, 0) 2).toNat (zand (zshr x1 x2) 255))) (40, 0, 0) (up (((sI σ (41, 0, 0) (up (σ.1 (41, 0, 0)) (σ.1 (40, 0, 0) 2).toNat (zand (zshr x1 x2) 255)))).1 (40, 0, 0)) 2 ((((sI σ (41, 0, 0) (up (σ.1 (41, 0, 0)) (σ.1 (40, 0, 0) 2).toNat (zand (zshr x1 x2) 255)))).1 (40, 0, 0) 2) + 1)))), t) Q) : Wp k_X12_four d (7, [some (aR (some (40, 0, 0))), some (aI (iZ x1)), some (aI (iZ x2))], [], am_hp σ, t) Q := by
  refine w_s (c' := (8, [some (aR (some (40, 0, 0))), some (aI (iZ x1)), some (aI (iZ x2))], [aR (some (40, 0, 0))], am_hp σ, t)) rfl rfl ?_
  refine w_get rfl (hp_40 _ 0) rfl rfl ?_
  refine w_s (c' := (12, [some (aR (some (40, 0, 0))), some (aI (iZ x1)), some (aI (iZ x2))], [aR (some (40, 0, 0)), aR (some (41, 0, 0))], am_hp σ, t)) rfl rfl ?_
  refine w_get rfl (hp_40 _ 0) rfl rfl ?_
  refine w_s (c' := (16, [some (aR (some (40, 0, 0))), some (aI (iZ x1)), some (aI (iZ x2))], [aI (iZ x1), aI (iZ (σ.1 (40, 0, 0) 2)), aR (some (41, 0, 0))], am_hp σ, t)) rfl rfl ?_
  refine w_s (c' := (17, [some (aR (some (40, 0, 0))), some (aI (iZ x1)), some (aI (iZ x2))], [aI (iZ x2), aI (iZ x1), aI (iZ (σ.1 (40, 0, 0) 2)), aR (some (41, 0, 0))], am_hp σ, t)) rfl rfl ?_
  refine w_ishr rfl rfl ?_
  refine w_psh rfl zc_255 rfl ?_
  refine w_iand rfl rfl ?_
  refine w_ias rfl (mk_41 _ 0 0) h1 rfl rfl rfl ?_
  refine w_s (c' := (24, [some (aR (some (40, 0, 0))), some (aI (iZ x1)), some (aI (iZ x2))], [aR (some (40, 0, 0))], am_hp ((sI σ (41, 0, 0) (up (σ.1 (41, 0, 0)) (σ.1 (40, 0, 0) 2).toNat (zand (zshr x1 x2) 255)))), t)) rfl rfl ?_
  refine w_s (c' := (25, [some (aR (some (40, 0, 0))), some (aI (iZ x1)), some (aI (iZ x2))], [aR (some (40, 0, 0)), aR (some (40, 0, 0))], am_hp ((sI σ (41, 0, 0) (up (σ.1 (41, 0, 0)) (σ.1 (40, 0, 0) 2).toNat (zand (zshr x1 x2) 255)))), t)) rfl rfl ?_
  refine w_get rfl (hp_40 _ 0) rfl rfl ?_
  refine w_psh rfl zc_1 rfl ?_
  refine w_iadd rfl rfl ?_
  refine w_putI rfl (hp_40 _ 0) rfl rfl rfl ?_
  refine w_inc (a := x2) (ls' := [some (aR (some (40, 0, 0))), some (aI (iZ x1)), some (aI (iZ (x2 + (-8))))]) rfl rfl rfl zc_m8 rfl rfl ?_
  refine w_s (c' := (3, [some (aR (some (40, 0, 0))), some (aI (iZ x1)), some (aI (iZ (x2 + (-8))))], [], am_hp ((sI (sI σ (41, 0, 0) (up (σ.1 (41, 0, 0)) (σ.1 (40, 0, 0) 2).toNat (zand (zshr x1 x2) 255))) (40, 0, 0) (up (((sI σ (41, 0, 0) (up (σ.1 (41, 0, 0)) (σ.1 (40, 0, 0) 2).toNat (zand (zshr x1 x2) 255)))).1 (40, 0, 0)) 2 ((((sI σ (41, 0, 0) (up (σ.1 (41, 0, 0)) (σ.1 (40, 0, 0) 2).toNat (zand (zshr x1 x2) 255)))).1 (40, 0, 0) 2) + 1)))), t)) rfl rfl ?_
  exact w2

theorem b_X12_four_39 {x1 : Int} {x2 : Int} {σ : SG} {t : KT} (q1 : Q (.inl none, am_hp σ, t)) : Wp k_X12_four d (39, [some (aR (some (40, 0, 0))), some (aI (iZ x1)), some (aI (iZ x2))], [], am_hp σ, t) Q := by
  exact w_f rfl rfl q1

theorem b_X12_truncate_0 {x1 : Int} {r1 : Int} {r2 : Int} {σ σ1 σ2 : SG} {t : KT} (h1 : -2147483648 ≤ x1 ∧ x1 < 2147483648) (h2 : -2147483648 ≤ σ.1 (40, 0, 0) 2 ∧ σ.1 (40, 0, 0) 2 < 2147483648) (c3 : Ca d 175 [aL (jZ x1), aL (jZ 0), aL (jZ (σ.1 (40, 0, 0) 2))] (am_hp σ) t (.inl (some (aI (iZ r1))), am_hp σ1, t)) (c4 : Ca d 178 [aR (some (40, 0, 0)), aI (iZ r1)] (am_hp σ1) t (.inl (some (aI (iZ r2))), am_hp σ2, t)) (h5 : -2147483648 ≤ r2 ∧ r2 < 2147483648) (w6 : r2 ≠ 0 → Wp k_X12_truncate d (20, [some (aR (some (40, 0, 0))), some (aI (iZ x1))], [], am_hp σ2, t) Q) (w7 : r2 = 0 → Wp k_X12_truncate d (18, [some (aR (some (40, 0, 0))), some (aI (iZ x1))], [], am_hp σ2, t) Q) : Wp k_X12_truncate d (0, [some (aR (some (40, 0, 0))), some (aI (iZ x1))], [], am_hp σ, t) Q := by
  refine w_s (c' := (1, [some (aR (some (40, 0, 0))), some (aI (iZ x1))], [aR (some (40, 0, 0))], am_hp σ, t)) rfl rfl ?_
  refine w_s (c' := (2, [some (aR (some (40, 0, 0))), some (aI (iZ x1))], [aI (iZ x1), aR (some (40, 0, 0))], am_hp σ, t)) rfl rfl ?_
  refine w_i2l rfl rfl h1 ?_
  refine w_psL rfl yc_0 rfl ?_
  refine w_s (c' := (5, [some (aR (some (40, 0, 0))), some (aI (iZ x1))], [aR (some (40, 0, 0)), aL (jZ 0), aL (jZ x1), aR (some (40, 0, 0))], am_hp σ, t)) rfl rfl ?_
  refine w_get rfl (hp_40 _ 0) rfl rfl ?_
  refine w_i2l rfl rfl h2 ?_
  refine w_c0 (c' := (12, [some (aR (some (40, 0, 0))), some (aI (iZ x1))], [aI (iZ r1), aR (some (40, 0, 0))], am_hp σ1, t)) rfl rfl rfl rfl c3 (Nat.le_refl _) rfl ?_
  refine w_c0 (c' := (15, [some (aR (some (40, 0, 0))), some (aI (iZ x1))], [aI (iZ r2)], am_hp σ2, t)) rfl rfl (rcv_of (hp_40 _ 0)) rfl c4 (Nat.le_refl _) rfl ?_
  exact w_ifne rfl h5 rfl w6 w7

theorem e_X12_truncate {x1 : Int} {h : AH} {t : KT} {d : Nat} {P : RS → Prop} (w : Wp k_X12_truncate d (0, [some (aR (some (40, 0, 0))), some (aI (iZ x1))], [], h, t) P) : ∃ r, Ca (d + 1) 182 [aR (some (40, 0, 0)), aI (iZ x1)] h t r ∧ P r := ca_W rfl rfl rfl rfl w

theorem b_X12_truncate_18 {x1 : Int} {σ : SG} {t : KT} (q1 : Q (.inl (some (aI (iZ 0))), am_hp σ, t)) : Wp k_X12_truncate d (18, [some (aR (some (40, 0, 0))), some (aI (iZ x1))], [], am_hp σ, t) Q := by
  refine w_psh rfl zc_0 rfl ?_
  exact w_ret rfl rfl q1

theorem b_X12_truncate_20 {x1 : Int} {σ : SG} {t : KT} (q1 : Q (.inl (some (aI (iZ x1))), am_hp ((sI σ (40, 0, 0) (up (σ.1 (40, 0, 0)) 2 x1))), t)) : Wp k_X12_truncate d (20, [some (aR (some (40, 0, 0))), some (aI (iZ x1))], [], am_hp σ, t) Q := by
  refine w_s (c' := (21, [some (aR (some (40, 0, 0))), some (aI (iZ x1))], [aR (some (40, 0, 0))], am_hp σ, t)) rfl rfl ?_
  refine w_s (c' := (22, [some (aR (some (40, 0, 0))), some (aI (iZ x1))], [aI (iZ x1), aR (some (40, 0, 0))], am_hp σ, t)) rfl rfl ?_
  refine w_putI rfl (hp_40 _ 0) rfl rfl rfl ?_
  refine w_s (c' := (26, [some (aR (some (40, 0, 0))), some (aI (iZ x1))], [aI (iZ x1)], am_hp ((sI σ (40, 0, 0) (up (σ.1 (40, 0, 0)) 2 x1))), t)) rfl rfl ?_
  exact w_ret rfl rfl q1

theorem b_X12_here_0 {x1 : Int} {σ : SG} {t : KT} (h1 : -2147483648 ≤ (σ.1 (40, 0, 0) 4) + x1 ∧ (σ.1 (40, 0, 0) 4) + x1 < 2147483648) (h2 : -2147483648 ≤ σ.1 (40, 0, 0) 3 ∧ σ.1 (40, 0, 0) 3 < 2147483648) (w3 : σ.1 (40, 0, 0) 3 ≤ (σ.1 (40, 0, 0) 4) + x1 → Wp k_X12_here d (27, [some (aR (some (40, 0, 0))), some (aI (iZ x1))], [], am_hp σ, t) Q) (w4 : (σ.1 (40, 0, 0) 4) + x1 < σ.1 (40, 0, 0) 3 → Wp k_X12_here d (13, [some (aR (some (40, 0, 0))), some (aI (iZ x1))], [], am_hp σ, t) Q) : Wp k_X12_here d (0, [some (aR (some (40, 0, 0))), some (aI (iZ x1))], [], am_hp σ, t) Q := by
  refine w_s (c' := (1, [some (aR (some (40, 0, 0))), some (aI (iZ x1))], [aR (some (40, 0, 0))], am_hp σ, t)) rfl rfl ?_
  refine w_get rfl (hp_40 _ 0) rfl rfl ?_
  refine w_s (c' := (5, [some (aR (some (40, 0, 0))), some (aI (iZ x1))], [aI (iZ x1), aI (iZ (σ.1 (40, 0, 0) 4))], am_hp σ, t)) rfl rfl ?_
  refine w_iadd rfl rfl ?_
  refine w_s (c' := (7, [some (aR (some (40, 0, 0))), some (aI (iZ x1))], [aR (some (40, 0, 0)), aI (iZ ((σ.1 (40, 0, 0) 4) + x1))], am_hp σ, t)) rfl rfl ?_
  refine w_get rfl (hp_40 _ 0) rfl rfl ?_
  exact w_icge rfl h1 h2 rfl w3 w4

theorem e_X12_here {x1 : Int} {h : AH} {t : KT} {d : Nat} {P : RS → Prop} (w : Wp k_X12_here d (0, [some (aR (some (40, 0, 0))), some (aI (iZ x1))], [], h, t) P) : ∃ r, Ca (d + 1) 183 [aR (some (40, 0, 0)), aI (iZ x1)] h t r ∧ P r := ca_W rfl rfl rfl rfl w

theorem b_X12_here_13 {x1 : Int} {σ : SG} {t : KT} (h1 : 0 ≤ (σ.1 (40, 0, 0) 4) + x1 ∧ (σ.1 (40, 0, 0) 4) + x1 < 600) (w2 : Wp k_X12_here d (28, [some (aR (some (40, 0, 0))), some (aI (iZ x1))], [aI (iZ (σ.1 (41, 0, 0) ((σ.1 (40, 0, 0) 4) + x1).toNat))], am_hp σ, t) Q) : Wp k_X12_here d (13, [some (aR (some (40, 0, 0))), some (aI (iZ x1))], [], am_hp σ, t) Q := by
  refine w_s (c' := (14, [some (aR (some (40, 0, 0))), some (aI (iZ x1))], [aR (some (40, 0, 0))], am_hp σ, t)) rfl rfl ?_
  refine w_get rfl (hp_40 _ 0) rfl rfl ?_
  refine w_s (c' := (18, [some (aR (some (40, 0, 0))), some (aI (iZ x1))], [aR (some (40, 0, 0)), aR (some (41, 0, 0))], am_hp σ, t)) rfl rfl ?_
  refine w_get rfl (hp_40 _ 0) rfl rfl ?_
  refine w_s (c' := (22, [some (aR (some (40, 0, 0))), some (aI (iZ x1))], [aI (iZ x1), aI (iZ (σ.1 (40, 0, 0) 4)), aR (some (41, 0, 0))], am_hp σ, t)) rfl rfl ?_
  refine w_iadd rfl rfl ?_
  refine w_ial rfl (hp_41 _ 0 0) h1 rfl rfl ?_
  refine w_s (c' := (28, [some (aR (some (40, 0, 0))), some (aI (iZ x1))], [aI (iZ (σ.1 (41, 0, 0) ((σ.1 (40, 0, 0) 4) + x1).toNat))], am_hp σ, t)) rfl rfl ?_
  exact w2

theorem b_X12_here_27 {x1 : Int} {σ : SG} {t : KT} (w1 : Wp k_X12_here d (28, [some (aR (some (40, 0, 0))), some (aI (iZ x1))], [aI (iZ (-1))], am_hp σ, t) Q) : Wp k_X12_here d (27, [some (aR (some (40, 0, 0))), some (aI (iZ x1))], [], am_hp σ, t) Q := by
  refine w_psh rfl zc_m1 rfl ?_
  exact w1

theorem b_X12_here_28 {x1 : Int} {xs0 : Int} {σ : SG} {t : KT} (q1 : Q (.inl (some (aI (iZ xs0))), am_hp σ, t)) : Wp k_X12_here d (28, [some (aR (some (40, 0, 0))), some (aI (iZ x1))], [aI (iZ xs0)], am_hp σ, t) Q := by
  exact w_ret rfl rfl q1

theorem b_X12_isLetter_0 {x0 : Int} {σ : SG} {t : KT} (h1 : -2147483648 ≤ x0 ∧ x0 < 2147483648) (w2 : x0 < 97 → Wp k_X12_isLetter d (16, [some (aI (iZ x0))], [], am_hp σ, t) Q) (w3 : 97 ≤ x0 → Wp k_X12_isLetter d (6, [some (aI (iZ x0))], [], am_hp σ, t) Q) : Wp k_X12_isLetter d (0, [some (aI (iZ x0))], [], am_hp σ, t) Q := by
  refine w_s (c' := (1, [some (aI (iZ x0))], [aI (iZ x0)], am_hp σ, t)) rfl rfl ?_
  refine w_psh rfl zc_97 rfl ?_
  exact w_iclt rfl h1 (by decide) rfl w2 w3

theorem e_X12_isLetter {x0 : Int} {h : AH} {t : KT} {d : Nat} {P : RS → Prop} (w : Wp k_X12_isLetter d (0, [some (aI (iZ x0))], [], h, t) P) : ∃ r, Ca (d + 1) 184 [aI (iZ x0)] h t r ∧ P r := ca_W rfl rfl rfl rfl w

theorem b_X12_isLetter_6 {x0 : Int} {σ : SG} {t : KT} (h1 : -2147483648 ≤ x0 ∧ x0 < 2147483648) (w2 : 122 < x0 → Wp k_X12_isLetter d (16, [some (aI (iZ x0))], [], am_hp σ, t) Q) (w3 : x0 ≤ 122 → Wp k_X12_isLetter d (12, [some (aI (iZ x0))], [], am_hp σ, t) Q) : Wp k_X12_isLetter d (6, [some (aI (iZ x0))], [], am_hp σ, t) Q := by
  refine w_s (c' := (7, [some (aI (iZ x0))], [aI (iZ x0)], am_hp σ, t)) rfl rfl ?_
  refine w_psh rfl zc_122 rfl ?_
  exact w_icgt rfl h1 (by decide) rfl w2 w3

theorem b_X12_isLetter_12 {x0 : Int} {σ : SG} {t : KT} (w1 : Wp k_X12_isLetter d (17, [some (aI (iZ x0))], [aI (iZ 1)], am_hp σ, t) Q) : Wp k_X12_isLetter d (12, [some (aI (iZ x0))], [], am_hp σ, t) Q := by
  refine w_psh rfl zc_1 rfl ?_
  refine w_s (c' := (17, [some (aI (iZ x0))], [aI (iZ 1)], am_hp σ, t)) rfl rfl ?_
  exact w1

theorem b_X12_isLetter_16 {x0 : Int} {σ : SG} {t : KT} (w1 : Wp k_X12_isLetter d (17, [some (aI (iZ x0))], [aI (iZ 0)], am_hp σ, t) Q) : Wp k_X12_isLetter d (16, [some (aI (iZ x0))], [], am_hp σ, t) Q := by
  refine w_psh rfl zc_0 rfl ?_
  exact w1

theorem b_X12_isLetter_17 {x0 : Int} {xs0 : Int} {σ : SG} {t : KT} (h1 : xs0 = 0 ∨ xs0 = 1) (q2 : Q (.inl (some (aI (iZ xs0))), am_hp σ, t)) : Wp k_X12_isLetter d (17, [some (aI (iZ x0))], [aI (iZ xs0)], am_hp σ, t) Q := by
  exact w_ret rfl (frt_b h1) q2

theorem b_X12_isDigit_0 {x0 : Int} {σ : SG} {t : KT} (h1 : -2147483648 ≤ x0 ∧ x0 < 2147483648) (w2 : x0 < 48 → Wp k_X12_isDigit d (16, [some (aI (iZ x0))], [], am_hp σ, t) Q) (w3 : 48 ≤ x0 → Wp k_X12_isDigit d (6, [some (aI (iZ x0))], [], am_hp σ, t) Q) : Wp k_X12_isDigit d (0, [some (aI (iZ x0))], [], am_hp σ, t) Q := by
  refine w_s (c' := (1, [some (aI (iZ x0))], [aI (iZ x0)], am_hp σ, t)) rfl rfl ?_
  refine w_psh rfl zc_48 rfl ?_
  exact w_iclt rfl h1 (by decide) rfl w2 w3

theorem e_X12_isDigit {x0 : Int} {h : AH} {t : KT} {d : Nat} {P : RS → Prop} (w : Wp k_X12_isDigit d (0, [some (aI (iZ x0))], [], h, t) P) : ∃ r, Ca (d + 1) 185 [aI (iZ x0)] h t r ∧ P r := ca_W rfl rfl rfl rfl w

theorem b_X12_isDigit_6 {x0 : Int} {σ : SG} {t : KT} (h1 : -2147483648 ≤ x0 ∧ x0 < 2147483648) (w2 : 57 < x0 → Wp k_X12_isDigit d (16, [some (aI (iZ x0))], [], am_hp σ, t) Q) (w3 : x0 ≤ 57 → Wp k_X12_isDigit d (12, [some (aI (iZ x0))], [], am_hp σ, t) Q) : Wp k_X12_isDigit d (6, [some (aI (iZ x0))], [], am_hp σ, t) Q := by
  refine w_s (c' := (7, [some (aI (iZ x0))], [aI (iZ x0)], am_hp σ, t)) rfl rfl ?_
  refine w_psh rfl zc_57 rfl ?_
  exact w_icgt rfl h1 (by decide) rfl w2 w3

theorem b_X12_isDigit_12 {x0 : Int} {σ : SG} {t : KT} (w1 : Wp k_X12_isDigit d (17, [some (aI (iZ x0))], [aI (iZ 1)], am_hp σ, t) Q) : Wp k_X12_isDigit d (12, [some (aI (iZ x0))], [], am_hp σ, t) Q := by
  refine w_psh rfl zc_1 rfl ?_
  refine w_s (c' := (17, [some (aI (iZ x0))], [aI (iZ 1)], am_hp σ, t)) rfl rfl ?_
  exact w1

theorem b_X12_isDigit_16 {x0 : Int} {σ : SG} {t : KT} (w1 : Wp k_X12_isDigit d (17, [some (aI (iZ x0))], [aI (iZ 0)], am_hp σ, t) Q) : Wp k_X12_isDigit d (16, [some (aI (iZ x0))], [], am_hp σ, t) Q := by
  refine w_psh rfl zc_0 rfl ?_
  exact w1

theorem b_X12_isDigit_17 {x0 : Int} {xs0 : Int} {σ : SG} {t : KT} (h1 : xs0 = 0 ∨ xs0 = 1) (q2 : Q (.inl (some (aI (iZ xs0))), am_hp σ, t)) : Wp k_X12_isDigit d (17, [some (aI (iZ x0))], [aI (iZ xs0)], am_hp σ, t) Q := by
  exact w_ret rfl (frt_b h1) q2

theorem b_X12_goOnRead_0 {r1 : Int} {σ σ1 : SG} {t : KT} (c1 : Ca d 183 [aR (some (40, 0, 0)), aI (iZ 0)] (am_hp σ) t (.inl (some (aI (iZ r1))), am_hp σ1, t)) (h2 : -2147483648 ≤ r1 ∧ r1 < 2147483648) (w3 : r1 = 32 → Wp k_X12_goOnRead d (20, [some (aR (some (40, 0, 0))), none, none], [], am_hp σ1, t) Q) (w4 : r1 ≠ 32 → Wp k_X12_goOnRead d (10, [some (aR (some (40, 0, 0))), none, none], [], am_hp σ1, t) Q) : Wp k_X12_goOnRead d (0, [some (aR (some (40, 0, 0))), none, none], [], am_hp σ, t) Q := by
  refine w_s (c' := (1, [some (aR (some (40, 0, 0))), none, none], [aR (some (40, 0, 0))], am_hp σ, t)) rfl rfl ?_
  refine w_psh rfl zc_0 rfl ?_
  refine w_c0 (c' := (5, [some (aR (some (40, 0, 0))), none, none], [aI (iZ r1)], am_hp σ1, t)) rfl rfl (rcv_of (hp_40 _ 0)) rfl c1 (Nat.le_refl _) rfl ?_
  refine w_psh rfl zc_32 rfl ?_
  exact w_iceq rfl h2 (by decide) rfl w3 w4

theorem e_X12_goOnRead {h : AH} {t : KT} {d : Nat} {P : RS → Prop} (w : Wp k_X12_goOnRead d (0, [some (aR (some (40, 0, 0))), none, none], [], h, t) P) : ∃ r, Ca (d + 1) 186 [aR (some (40, 0, 0))] h t r ∧ P r := ca_W rfl rfl rfl rfl w

theorem b_X12_goOnRead_10 {r1 : Int} {σ σ1 : SG} {t : KT} (c1 : Ca d 183 [aR (some (40, 0, 0)), aI (iZ 0)] (am_hp σ) t (.inl (some (aI (iZ r1))), am_hp σ1, t)) (h2 : -2147483648 ≤ r1 ∧ r1 < 2147483648) (w3 : r1 ≠ 10 → Wp k_X12_goOnRead d (33, [some (aR (some (40, 0, 0))), none, none], [], am_hp σ1, t) Q) (w4 : r1 = 10 → Wp k_X12_goOnRead d (20, [some (aR (some (40, 0, 0))), none, none], [], am_hp σ1, t) Q) : Wp k_X12_goOnRead d (10, [some (aR (some (40, 0, 0))), none, none], [], am_hp σ, t) Q := by
  refine w_s (c' := (11, [some (aR (some (40, 0, 0))), none, none], [aR (some (40, 0, 0))], am_hp σ, t)) rfl rfl ?_
  refine w_psh rfl zc_0 rfl ?_
  refine w_c0 (c' := (15, [some (aR (some (40, 0, 0))), none, none], [aI (iZ r1)], am_hp σ1, t)) rfl rfl (rcv_of (hp_40 _ 0)) rfl c1 (Nat.le_refl _) rfl ?_
  refine w_psh rfl zc_10 rfl ?_
  exact w_icne rfl h2 (by decide) rfl w3 w4

theorem b_X12_goOnRead_20 {σ : SG} {t : KT} (w1 : Wp k_X12_goOnRead d (0, [some (aR (some (40, 0, 0))), none, none], [], am_hp ((sI σ (40, 0, 0) (up (σ.1 (40, 0, 0)) 4 ((σ.1 (40, 0, 0) 4) + 1)))), t) Q) : Wp k_X12_goOnRead d (20, [some (aR (some (40, 0, 0))), none, none], [], am_hp σ, t) Q := by
  refine w_s (c' := (21, [some (aR (some (40, 0, 0))), none, none], [aR (some (40, 0, 0))], am_hp σ, t)) rfl rfl ?_
  refine w_s (c' := (22, [some (aR (some (40, 0, 0))), none, none], [aR (some (40, 0, 0)), aR (some (40, 0, 0))], am_hp σ, t)) rfl rfl ?_
  refine w_get rfl (hp_40 _ 0) rfl rfl ?_
  refine w_psh rfl zc_1 rfl ?_
  refine w_iadd rfl rfl ?_
  refine w_putI rfl (hp_40 _ 0) rfl rfl rfl ?_
  refine w_s (c' := (0, [some (aR (some (40, 0, 0))), none, none], [], am_hp ((sI σ (40, 0, 0) (up (σ.1 (40, 0, 0)) 4 ((σ.1 (40, 0, 0) 4) + 1)))), t)) rfl rfl ?_
  exact w1

theorem b_X12_goOnRead_33 {r1 : Int} {σ σ1 : SG} {t : KT} (c1 : Ca d 183 [aR (some (40, 0, 0)), aI (iZ 0)] (am_hp ((sI (sJ (sI σ (40, 0, 0) (up (σ.1 (40, 0, 0)) 5 (σ.1 (40, 0, 0) 4))) (40, 0, 0) (up (((sI σ (40, 0, 0) (up (σ.1 (40, 0, 0)) 5 (σ.1 (40, 0, 0) 4)))).2.1 (40, 0, 0)) 12 0)) (40, 0, 0) (up (((sJ (sI σ (40, 0, 0) (up (σ.1 (40, 0, 0)) 5 (σ.1 (40, 0, 0) 4))) (40, 0, 0) (up (((sI σ (40, 0, 0) (up (σ.1 (40, 0, 0)) 5 (σ.1 (40, 0, 0) 4)))).2.1 (40, 0, 0)) 12 0))).1 (40, 0, 0)) 7 0)))) t (.inl (some (aI (iZ r1))), am_hp σ1, t)) (h2 : -2147483648 ≤ r1 ∧ r1 < 2147483648) (w3 : 0 ≤ r1 → Wp k_X12_goOnRead d (69, [some (aR (some (40, 0, 0))), some (aI (iZ r1)), some (aI (iZ 0))], [], am_hp σ1, t) Q) (w4 : r1 < 0 → Wp k_X12_goOnRead d (63, [some (aR (some (40, 0, 0))), some (aI (iZ r1)), some (aI (iZ 0))], [], am_hp σ1, t) Q) : Wp k_X12_goOnRead d (33, [some (aR (some (40, 0, 0))), none, none], [], am_hp σ, t) Q := by
  refine w_s (c' := (34, [some (aR (some (40, 0, 0))), none, none], [aR (some (40, 0, 0))], am_hp σ, t)) rfl rfl ?_
  refine w_s (c' := (35, [some (aR (some (40, 0, 0))), none, none], [aR (some (40, 0, 0)), aR (some (40, 0, 0))], am_hp σ, t)) rfl rfl ?_
  refine w_get rfl (hp_40 _ 0) rfl rfl ?_
  refine w_putI rfl (hp_40 _ 0) rfl rfl rfl ?_
  refine w_s (c' := (42, [some (aR (some (40, 0, 0))), none, none], [aR (some (40, 0, 0))], am_hp ((sI σ (40, 0, 0) (up (σ.1 (40, 0, 0)) 5 (σ.1 (40, 0, 0) 4)))), t)) rfl rfl ?_
  refine w_psL rfl yc_0 rfl ?_
  refine w_putJ rfl (hp_40 _ 0) rfl rfl rfl ?_
  refine w_s (c' := (47, [some (aR (some (40, 0, 0))), none, none], [aR (some (40, 0, 0))], am_hp ((sJ (sI σ (40, 0, 0) (up (σ.1 (40, 0, 0)) 5 (σ.1 (40, 0, 0) 4))) (40, 0, 0) (up (((sI σ (40, 0, 0) (up (σ.1 (40, 0, 0)) 5 (σ.1 (40, 0, 0) 4)))).2.1 (40, 0, 0)) 12 0))), t)) rfl rfl ?_
  refine w_psh rfl zc_0 rfl ?_
  refine w_putI rfl (hp_40 _ 0) rfl rfl rfl ?_
  refine w_s (c' := (52, [some (aR (some (40, 0, 0))), none, none], [aR (some (40, 0, 0))], am_hp ((sI (sJ (sI σ (40, 0, 0) (up (σ.1 (40, 0, 0)) 5 (σ.1 (40, 0, 0) 4))) (40, 0, 0) (up (((sI σ (40, 0, 0) (up (σ.1 (40, 0, 0)) 5 (σ.1 (40, 0, 0) 4)))).2.1 (40, 0, 0)) 12 0)) (40, 0, 0) (up (((sJ (sI σ (40, 0, 0) (up (σ.1 (40, 0, 0)) 5 (σ.1 (40, 0, 0) 4))) (40, 0, 0) (up (((sI σ (40, 0, 0) (up (σ.1 (40, 0, 0)) 5 (σ.1 (40, 0, 0) 4)))).2.1 (40, 0, 0)) 12 0))).1 (40, 0, 0)) 7 0))), t)) rfl rfl ?_
  refine w_psh rfl zc_0 rfl ?_
  refine w_c0 (c' := (56, [some (aR (some (40, 0, 0))), none, none], [aI (iZ r1)], am_hp σ1, t)) rfl rfl (rcv_of (hp_40 _ 0)) rfl c1 (Nat.le_refl _) rfl ?_
  refine w_s (c' := (57, [some (aR (some (40, 0, 0))), some (aI (iZ r1)), none], [], am_hp σ1, t)) rfl rfl ?_
  refine w_psh rfl zc_0 rfl ?_
  refine w_s (c' := (59, [some (aR (some (40, 0, 0))), some (aI (iZ r1)), some (aI (iZ 0))], [], am_hp σ1, t)) rfl rfl ?_
  refine w_s (c' := (60, [some (aR (some (40, 0, 0))), some (aI (iZ r1)), some (aI (iZ 0))], [aI (iZ r1)], am_hp σ1, t)) rfl rfl ?_
  exact w_ifge rfl h2 rfl w3 w4

theorem b_X12_goOnRead_63 {x1 : Int} {x2 : Int} {σ : SG} {t : KT} (q1 : Q (.inl none, am_hp ((sI σ (40, 0, 0) (up (σ.1 (40, 0, 0)) 6 0))), t)) : Wp k_X12_goOnRead d (63, [some (aR (some (40, 0, 0))), some (aI (iZ x1)), some (aI (iZ x2))], [], am_hp σ, t) Q := by
  refine w_s (c' := (64, [some (aR (some (40, 0, 0))), some (aI (iZ x1)), some (aI (iZ x2))], [aR (some (40, 0, 0))], am_hp σ, t)) rfl rfl ?_
  refine w_psh rfl zc_0 rfl ?_
  refine w_putI rfl (hp_40 _ 0) rfl rfl rfl ?_
  exact w_f rfl rfl q1

theorem b_X12_goOnRead_69 {x1 : Int} {x2 : Int} {r1 : Int} {σ σ1 : SG} {t : KT} (c1 : Ca d 184 [aI (iZ x1)] (am_hp σ) t (.inl (some (aI (iZ r1))), am_hp σ1, t)) (h2 : -2147483648 ≤ r1 ∧ r1 < 2147483648) (w3 : r1 = 0 → Wp k_X12_goOnRead d (139, [some (aR (some (40, 0, 0))), some (aI (iZ x1)), some (aI (iZ x2))], [], am_hp σ1, t) Q) (w4 : r1 ≠ 0 → Wp k_X12_goOnRead d (76, [some (aR (some (40, 0, 0))), some (aI (iZ x1)), some (aI (iZ x2))], [], am_hp σ1, t) Q) : Wp k_X12_goOnRead d (69, [some (aR (some (40, 0, 0))), some (aI (iZ x1)), some (aI (iZ x2))], [], am_hp σ, t) Q := by
  refine w_s (c' := (70, [some (aR (some (40, 0, 0))), some (aI (iZ x1)), some (aI (iZ x2))], [aI (iZ x1)], am_hp σ, t)) rfl rfl ?_
  refine w_c0 (c' := (73, [some (aR (some (40, 0, 0))), some (aI (iZ x1)), some (aI (iZ x2))], [aI (iZ r1)], am_hp σ1, t)) rfl rfl rfl rfl c1 (Nat.le_refl _) rfl ?_
  exact w_ifeq rfl h2 rfl w3 w4

theorem b_X12_goOnRead_76 {x1 : Int} {x2 : Int} {r1 : Int} {r2 : Int} {σ σ1 σ2 : SG} {t : KT} (c1 : Ca d 183 [aR (some (40, 0, 0)), aI (iZ x2)] (am_hp σ) t (.inl (some (aI (iZ r1))), am_hp σ1, t)) (c2 : Ca d 184 [aI (iZ r1)] (am_hp σ1) t (.inl (some (aI (iZ r2))), am_hp σ2, t)) (h3 : -2147483648 ≤ r2 ∧ r2 < 2147483648) (w4 : r2 = 0 → Wp k_X12_goOnRead d (121, [some (aR (some (40, 0, 0))), some (aI (iZ x1)), some (aI (iZ x2))], [], am_hp σ2, t) Q) (w5 : r2 ≠ 0 → Wp k_X12_goOnRead d (87, [some (aR (some (40, 0, 0))), some (aI (iZ x1)), some (aI (iZ x2))], [], am_hp σ2, t) Q) : Wp k_X12_goOnRead d (76, [some (aR (some (40, 0, 0))), some (aI (iZ x1)), some (aI (iZ x2))], [], am_hp σ, t) Q := by
  refine w_s (c' := (77, [some (aR (some (40, 0, 0))), some (aI (iZ x1)), some (aI (iZ x2))], [aR (some (40, 0, 0))], am_hp σ, t)) rfl rfl ?_
  refine w_s (c' := (78, [some (aR (some (40, 0, 0))), some (aI (iZ x1)), some (aI (iZ x2))], [aI (iZ x2), aR (some (40, 0, 0))], am_hp σ, t)) rfl rfl ?_
  refine w_c0 (c' := (81, [some (aR (some (40, 0, 0))), some (aI (iZ x1)), some (aI (iZ x2))], [aI (iZ r1)], am_hp σ1, t)) rfl rfl (rcv_of (hp_40 _ 0)) rfl c1 (Nat.le_refl _) rfl ?_
  refine w_c0 (c' := (84, [some (aR (some (40, 0, 0))), some (aI (iZ x1)), some (aI (iZ x2))], [aI (iZ r2)], am_hp σ2, t)) rfl rfl rfl rfl c2 (Nat.le_refl _) rfl ?_
  exact w_ifeq rfl h3 rfl w4 w5

theorem b_X12_goOnRead_87 {x1 : Int} {x2 : Int} {σ : SG} {t : KT} (h1 : -2147483648 ≤ x2 ∧ x2 < 2147483648) (w2 : 8 ≤ x2 → Wp k_X12_goOnRead d (115, [some (aR (some (40, 0, 0))), some (aI (iZ x1)), some (aI (iZ x2))], [], am_hp σ, t) Q) (w3 : x2 < 8 → Wp k_X12_goOnRead d (93, [some (aR (some (40, 0, 0))), some (aI (iZ x1)), some (aI (iZ x2))], [], am_hp σ, t) Q) : Wp k_X12_goOnRead d (87, [some (aR (some (40, 0, 0))), some (aI (iZ x1)), some (aI (iZ x2))], [], am_hp σ, t) Q := by
  refine w_s (c' := (88, [some (aR (some (40, 0, 0))), some (aI (iZ x1)), some (aI (iZ x2))], [aI (iZ x2)], am_hp σ, t)) rfl rfl ?_
  refine w_psh rfl zc_8 rfl ?_
  exact w_icge rfl h1 (by decide) rfl w2 w3

theorem b_X12_goOnRead_93 {x1 : Int} {x2 : Int} {r1 : Int} {σ σ1 : SG} {t : KT} (c1 : Ca d 183 [aR (some (40, 0, 0)), aI (iZ x2)] (am_hp σ) t (.inl (some (aI (iZ r1))), am_hp σ1, t)) (h2 : -2147483648 ≤ (r1 - 97) + 1 ∧ (r1 - 97) + 1 < 2147483648) (w3 : Wp k_X12_goOnRead d (115, [some (aR (some (40, 0, 0))), some (aI (iZ x1)), some (aI (iZ x2))], [], am_hp ((sJ σ1 (40, 0, 0) (up (σ1.2.1 (40, 0, 0)) 12 (yor (yshl (σ.2.1 (40, 0, 0) 12) 5) ((r1 - 97) + 1))))), t) Q) : Wp k_X12_goOnRead d (93, [some (aR (some (40, 0, 0))), some (aI (iZ x1)), some (aI (iZ x2))], [], am_hp σ, t) Q := by
  refine w_s (c' := (94, [some (aR (some (40, 0, 0))), some (aI (iZ x1)), some (aI (iZ x2))], [aR (some (40, 0, 0))], am_hp σ, t)) rfl rfl ?_
  refine w_s (c' := (95, [some (aR (some (40, 0, 0))), some (aI (iZ x1)), some (aI (iZ x2))], [aR (some (40, 0, 0)), aR (some (40, 0, 0))], am_hp σ, t)) rfl rfl ?_
  refine w_get rfl (hp_40 _ 0) rfl rfl ?_
  refine w_psh rfl zc_5 rfl ?_
  refine w_lshl rfl rfl ?_
  refine w_s (c' := (101, [some (aR (some (40, 0, 0))), some (aI (iZ x1)), some (aI (iZ x2))], [aR (some (40, 0, 0)), aL (jZ (yshl (σ.2.1 (40, 0, 0) 12) 5)), aR (some (40, 0, 0))], am_hp σ, t)) rfl rfl ?_
  refine w_s (c' := (102, [some (aR (some (40, 0, 0))), some (aI (iZ x1)), some (aI (iZ x2))], [aI (iZ x2), aR (some (40, 0, 0)), aL (jZ (yshl (σ.2.1 (40, 0, 0) 12) 5)), aR (some (40, 0, 0))], am_hp σ, t)) rfl rfl ?_
  refine w_c0 (c' := (105, [some (aR (some (40, 0, 0))), some (aI (iZ x1)), some (aI (iZ x2))], [aI (iZ r1), aL (jZ (yshl (σ.2.1 (40, 0, 0) 12) 5)), aR (some (40, 0, 0))], am_hp σ1, t)) rfl rfl (rcv_of (hp_40 _ 0)) rfl c1 (Nat.le_refl _) rfl ?_
  refine w_psh rfl zc_97 rfl ?_
  refine w_isub rfl rfl ?_
  refine w_psh rfl zc_1 rfl ?_
  refine w_iadd rfl rfl ?_
  refine w_i2l rfl rfl h2 ?_
  refine w_lor rfl rfl ?_
  refine w_putJ rfl (hp_40 _ 0) rfl rfl rfl ?_
  exact w3

theorem b_X12_goOnRead_115 {x1 : Int} {x2 : Int} {σ : SG} {t : KT} (w1 : Wp k_X12_goOnRead d (76, [some (aR (some (40, 0, 0))), some (aI (iZ x1)), some (aI (iZ (x2 + 1)))], [], am_hp σ, t) Q) : Wp k_X12_goOnRead d (115, [some (aR (some (40, 0, 0))), some (aI (iZ x1)), some (aI (iZ x2))], [], am_hp σ, t) Q := by
  refine w_inc (a := x2) (ls' := [some (aR (some (40, 0, 0))), some (aI (iZ x1)), some (aI (iZ (x2 + 1)))]) rfl rfl rfl zc_1 rfl rfl ?_
  refine w_s (c' := (76, [some (aR (some (40, 0, 0))), some (aI (iZ x1)), some (aI (iZ (x2 + 1)))], [], am_hp σ, t)) rfl rfl ?_
  exact w1

theorem b_X12_goOnRead_121 {x1 : Int} {x2 : Int} {σ : SG} {t : KT} (h1 : -2147483648 ≤ x2 ∧ x2 < 2147483648) (w2 : x2 ≤ 8 → Wp k_X12_goOnRead d (132, [some (aR (some (40, 0, 0))), some (aI (iZ x1)), some (aI (iZ x2))], [aR (some (40, 0, 0))], am_hp σ, t) Q) (w3 : 8 < x2 → Wp k_X12_goOnRead d (128, [some (aR (some (40, 0, 0))), some (aI (iZ x1)), some (aI (iZ x2))], [aR (some (40, 0, 0))], am_hp σ, t) Q) : Wp k_X12_goOnRead d (121, [some (aR (some (40, 0, 0))), some (aI (iZ x1)), some (aI (iZ x2))], [], am_hp σ, t) Q := by
  refine w_s (c' := (122, [some (aR (some (40, 0, 0))), some (aI (iZ x1)), some (aI (iZ x2))], [aR (some (40, 0, 0))], am_hp σ, t)) rfl rfl ?_
  refine w_s (c' := (123, [some (aR (some (40, 0, 0))), some (aI (iZ x1)), some (aI (iZ x2))], [aI (iZ x2), aR (some (40, 0, 0))], am_hp σ, t)) rfl rfl ?_
  refine w_psh rfl zc_8 rfl ?_
  exact w_icle rfl h1 (by decide) rfl w2 w3

theorem b_X12_goOnRead_128 {x1 : Int} {x2 : Int} {σ : SG} {t : KT} (w1 : Wp k_X12_goOnRead d (133, [some (aR (some (40, 0, 0))), some (aI (iZ x1)), some (aI (iZ x2))], [aI (iZ 4), aR (some (40, 0, 0))], am_hp σ, t) Q) : Wp k_X12_goOnRead d (128, [some (aR (some (40, 0, 0))), some (aI (iZ x1)), some (aI (iZ x2))], [aR (some (40, 0, 0))], am_hp σ, t) Q := by
  refine w_psh rfl zc_4 rfl ?_
  refine w_s (c' := (133, [some (aR (some (40, 0, 0))), some (aI (iZ x1)), some (aI (iZ x2))], [aI (iZ 4), aR (some (40, 0, 0))], am_hp σ, t)) rfl rfl ?_
  exact w1

theorem b_X12_goOnRead_132 {x1 : Int} {x2 : Int} {σ : SG} {t : KT} (w1 : Wp k_X12_goOnRead d (133, [some (aR (some (40, 0, 0))), some (aI (iZ x1)), some (aI (iZ x2))], [aI (iZ 1), aR (some (40, 0, 0))], am_hp σ, t) Q) : Wp k_X12_goOnRead d (132, [some (aR (some (40, 0, 0))), some (aI (iZ x1)), some (aI (iZ x2))], [aR (some (40, 0, 0))], am_hp σ, t) Q := by
  refine w_psh rfl zc_1 rfl ?_
  exact w1

theorem b_X12_goOnRead_133 {x1 : Int} {x2 : Int} {xs0 : Int} {σ : SG} {t : KT} (w1 : Wp k_X12_goOnRead d (241, [some (aR (some (40, 0, 0))), some (aI (iZ x1)), some (aI (iZ x2))], [], am_hp ((sI σ (40, 0, 0) (up (σ.1 (40, 0, 0)) 6 xs0))), t) Q) : Wp k_X12_goOnRead d (133, [some (aR (some (40, 0, 0))), some (aI (iZ x1)), some (aI (iZ x2))], [aI (iZ xs0), aR (some (40, 0, 0))], am_hp σ, t) Q := by
  refine w_putI rfl (hp_40 _ 0) rfl rfl rfl ?_
  refine w_s (c' := (241, [some (aR (some (40, 0, 0))), some (aI (iZ x1)), some (aI (iZ x2))], [], am_hp ((sI σ (40, 0, 0) (up (σ.1 (40, 0, 0)) 6 xs0))), t)) rfl rfl ?_
  exact w1

theorem b_X12_goOnRead_139 {x1 : Int} {x2 : Int} {r1 : Int} {σ σ1 : SG} {t : KT} (c1 : Ca d 185 [aI (iZ x1)] (am_hp σ) t (.inl (some (aI (iZ r1))), am_hp σ1, t)) (h2 : -2147483648 ≤ r1 ∧ r1 < 2147483648) (w3 : r1 = 0 → Wp k_X12_goOnRead d (207, [some (aR (some (40, 0, 0))), some (aI (iZ x1)), some (aI (iZ x2))], [], am_hp σ1, t) Q) (w4 : r1 ≠ 0 → Wp k_X12_goOnRead d (146, [some (aR (some (40, 0, 0))), some (aI (iZ x1)), some (aI (iZ x2))], [], am_hp σ1, t) Q) : Wp k_X12_goOnRead d (139, [some (aR (some (40, 0, 0))), some (aI (iZ x1)), some (aI (iZ x2))], [], am_hp σ, t) Q := by
  refine w_s (c' := (140, [some (aR (some (40, 0, 0))), some (aI (iZ x1)), some (aI (iZ x2))], [aI (iZ x1)], am_hp σ, t)) rfl rfl ?_
  refine w_c0 (c' := (143, [some (aR (some (40, 0, 0))), some (aI (iZ x1)), some (aI (iZ x2))], [aI (iZ r1)], am_hp σ1, t)) rfl rfl rfl rfl c1 (Nat.le_refl _) rfl ?_
  exact w_ifeq rfl h2 rfl w3 w4

theorem b_X12_goOnRead_146 {x1 : Int} {x2 : Int} {r1 : Int} {r2 : Int} {σ σ1 σ2 : SG} {t : KT} (c1 : Ca d 183 [aR (some (40, 0, 0)), aI (iZ x2)] (am_hp σ) t (.inl (some (aI (iZ r1))), am_hp σ1, t)) (c2 : Ca d 185 [aI (iZ r1)] (am_hp σ1) t (.inl (some (aI (iZ r2))), am_hp σ2, t)) (h3 : -2147483648 ≤ r2 ∧ r2 < 2147483648) (w4 : r2 = 0 → Wp k_X12_goOnRead d (189, [some (aR (some (40, 0, 0))), some (aI (iZ x1)), some (aI (iZ x2))], [], am_hp σ2, t) Q) (w5 : r2 ≠ 0 → Wp k_X12_goOnRead d (157, [some (aR (some (40, 0, 0))), some (aI (iZ x1)), some (aI (iZ x2))], [], am_hp σ2, t) Q) : Wp k_X12_goOnRead d (146, [some (aR (some (40, 0, 0))), some (aI (iZ x1)), some (aI (iZ x2))], [], am_hp σ, t) Q := by
  refine w_s (c' := (147, [some (aR (some (40, 0, 0))), some (aI (iZ x1)), some (aI (iZ x2))], [aR (some (40, 0, 0))], am_hp σ, t)) rfl rfl ?_
  refine w_s (c' := (148, [some (aR (some (40, 0, 0))), some (aI (iZ x1)), some (aI (iZ x2))], [aI (iZ x2), aR (some (40, 0, 0))], am_hp σ, t)) rfl rfl ?_
  refine w_c0 (c' := (151, [some (aR (some (40, 0, 0))), some (aI (iZ x1)), some (aI (iZ x2))], [aI (iZ r1)], am_hp σ1, t)) rfl rfl (rcv_of (hp_40 _ 0)) rfl c1 (Nat.le_refl _) rfl ?_
  refine w_c0 (c' := (154, [some (aR (some (40, 0, 0))), some (aI (iZ x1)), some (aI (iZ x2))], [aI (iZ r2)], am_hp σ2, t)) rfl rfl rfl rfl c2 (Nat.le_refl _) rfl ?_
  exact w_ifeq rfl h3 rfl w4 w5

theorem b_X12_goOnRead_157 {x1 : Int} {x2 : Int} {σ : SG} {t : KT} (h1 : -2147483648 ≤ x2 ∧ x2 < 2147483648) (w2 : 9 ≤ x2 → Wp k_X12_goOnRead d (183, [some (aR (some (40, 0, 0))), some (aI (iZ x1)), some (aI (iZ x2))], [], am_hp σ, t) Q) (w3 : x2 < 9 → Wp k_X12_goOnRead d (163, [some (aR (some (40, 0, 0))), some (aI (iZ x1)), some (aI (iZ x2))], [], am_hp σ, t) Q) : Wp k_X12_goOnRead d (157, [some (aR (some (40, 0, 0))), some (aI (iZ x1)), some (aI (iZ x2))], [], am_hp σ, t) Q := by
  refine w_s (c' := (158, [some (aR (some (40, 0, 0))), some (aI (iZ x1)), some (aI (iZ x2))], [aI (iZ x2)], am_hp σ, t)) rfl rfl ?_
  refine w_psh rfl zc_9 rfl ?_
  exact w_icge rfl h1 (by decide) rfl w2 w3

theorem b_X12_goOnRead_163 {x1 : Int} {x2 : Int} {r1 : Int} {σ σ1 : SG} {t : KT} (c1 : Ca d 183 [aR (some (40, 0, 0)), aI (iZ x2)] (am_hp σ) t (.inl (some (aI (iZ r1))), am_hp σ1, t)) (w2 : Wp k_X12_goOnRead d (183, [some (aR (some (40, 0, 0))), some (aI (iZ x1)), some (aI (iZ x2))], [], am_hp ((sI σ1 (40, 0, 0) (up (σ1.1 (40, 0, 0)) 7 (((10 * (σ.1 (40, 0, 0) 7)) + r1) - 48)))), t) Q) : Wp k_X12_goOnRead d (163, [some (aR (some (40, 0, 0))), some (aI (iZ x1)), some (aI (iZ x2))], [], am_hp σ, t) Q := by
  refine w_s (c' := (164, [some (aR (some (40, 0, 0))), some (aI (iZ x1)), some (aI (iZ x2))], [aR (some (40, 0, 0))], am_hp σ, t)) rfl rfl ?_
  refine w_psh rfl zc_10 rfl ?_
  refine w_s (c' := (167, [some (aR (some (40, 0, 0))), some (aI (iZ x1)), some (aI (iZ x2))], [aR (some (40, 0, 0)), aI (iZ 10), aR (some (40, 0, 0))], am_hp σ, t)) rfl rfl ?_
  refine w_get rfl (hp_40 _ 0) rfl rfl ?_
  refine w_imul rfl rfl ?_
  refine w_s (c' := (172, [some (aR (some (40, 0, 0))), some (aI (iZ x1)), some (aI (iZ x2))], [aR (some (40, 0, 0)), aI (iZ (10 * (σ.1 (40, 0, 0) 7))), aR (some (40, 0, 0))], am_hp σ, t)) rfl rfl ?_
  refine w_s (c' := (173, [some (aR (some (40, 0, 0))), some (aI (iZ x1)), some (aI (iZ x2))], [aI (iZ x2), aR (some (40, 0, 0)), aI (iZ (10 * (σ.1 (40, 0, 0) 7))), aR (some (40, 0, 0))], am_hp σ, t)) rfl rfl ?_
  refine w_c0 (c' := (176, [some (aR (some (40, 0, 0))), some (aI (iZ x1)), some (aI (iZ x2))], [aI (iZ r1), aI (iZ (10 * (σ.1 (40, 0, 0) 7))), aR (some (40, 0, 0))], am_hp σ1, t)) rfl rfl (rcv_of (hp_40 _ 0)) rfl c1 (Nat.le_refl _) rfl ?_
  refine w_iadd rfl rfl ?_
  refine w_psh rfl zc_48 rfl ?_
  refine w_isub rfl rfl ?_
  refine w_putI rfl (hp_40 _ 0) rfl rfl rfl ?_
  exact w2

theorem b_X12_goOnRead_183 {x1 : Int} {x2 : Int} {σ : SG} {t : KT} (w1 : Wp k_X12_goOnRead d (146, [some (aR (some (40, 0, 0))), some (aI (iZ x1)), some (aI (iZ (x2 + 1)))], [], am_hp σ, t) Q) : Wp k_X12_goOnRead d (183, [some (aR (some (40, 0, 0))), some (aI (iZ x1)), some (aI (iZ x2))], [], am_hp σ, t) Q := by
  refine w_inc (a := x2) (ls' := [some (aR (some (40, 0, 0))), some (aI (iZ x1)), some (aI (iZ (x2 + 1)))]) rfl rfl rfl zc_1 rfl rfl ?_
  refine w_s (c' := (146, [some (aR (some (40, 0, 0))), some (aI (iZ x1)), some (aI (iZ (x2 + 1)))], [], am_hp σ, t)) rfl rfl ?_
  exact w1

theorem b_X12_goOnRead_189 {x1 : Int} {x2 : Int} {σ : SG} {t : KT} (h1 : -2147483648 ≤ x2 ∧ x2 < 2147483648) (w2 : x2 ≤ 9 → Wp k_X12_goOnRead d (200, [some (aR (some (40, 0, 0))), some (aI (iZ x1)), some (aI (iZ x2))], [aR (some (40, 0, 0))], am_hp σ, t) Q) (w3 : 9 < x2 → Wp k_X12_goOnRead d (196, [some (aR (some (40, 0, 0))), some (aI (iZ x1)), some (aI (iZ x2))], [aR (some (40, 0, 0))], am_hp σ, t) Q) : Wp k_X12_goOnRead d (189, [some (aR (some (40, 0, 0))), some (aI (iZ x1)), some (aI (iZ x2))], [], am_hp σ, t) Q := by
  refine w_s (c' := (190, [some (aR (some (40, 0, 0))), some (aI (iZ x1)), some (aI (iZ x2))], [aR (some (40, 0, 0))], am_hp σ, t)) rfl rfl ?_
  refine w_s (c' := (191, [some (aR (some (40, 0, 0))), some (aI (iZ x1)), some (aI (iZ x2))], [aI (iZ x2), aR (some (40, 0, 0))], am_hp σ, t)) rfl rfl ?_
  refine w_psh rfl zc_9 rfl ?_
  exact w_icle rfl h1 (by decide) rfl w2 w3

theorem b_X12_goOnRead_196 {x1 : Int} {x2 : Int} {σ : SG} {t : KT} (w1 : Wp k_X12_goOnRead d (201, [some (aR (some (40, 0, 0))), some (aI (iZ x1)), some (aI (iZ x2))], [aI (iZ 4), aR (some (40, 0, 0))], am_hp σ, t) Q) : Wp k_X12_goOnRead d (196, [some (aR (some (40, 0, 0))), some (aI (iZ x1)), some (aI (iZ x2))], [aR (some (40, 0, 0))], am_hp σ, t) Q := by
  refine w_psh rfl zc_4 rfl ?_
  refine w_s (c' := (201, [some (aR (some (40, 0, 0))), some (aI (iZ x1)), some (aI (iZ x2))], [aI (iZ 4), aR (some (40, 0, 0))], am_hp σ, t)) rfl rfl ?_
  exact w1

theorem b_X12_goOnRead_200 {x1 : Int} {x2 : Int} {σ : SG} {t : KT} (w1 : Wp k_X12_goOnRead d (201, [some (aR (some (40, 0, 0))), some (aI (iZ x1)), some (aI (iZ x2))], [aI (iZ 2), aR (some (40, 0, 0))], am_hp σ, t) Q) : Wp k_X12_goOnRead d (200, [some (aR (some (40, 0, 0))), some (aI (iZ x1)), some (aI (iZ x2))], [aR (some (40, 0, 0))], am_hp σ, t) Q := by
  refine w_psh rfl zc_2 rfl ?_
  exact w1

theorem b_X12_goOnRead_201 {x1 : Int} {x2 : Int} {xs0 : Int} {σ : SG} {t : KT} (w1 : Wp k_X12_goOnRead d (241, [some (aR (some (40, 0, 0))), some (aI (iZ x1)), some (aI (iZ x2))], [], am_hp ((sI σ (40, 0, 0) (up (σ.1 (40, 0, 0)) 6 xs0))), t) Q) : Wp k_X12_goOnRead d (201, [some (aR (some (40, 0, 0))), some (aI (iZ x1)), some (aI (iZ x2))], [aI (iZ xs0), aR (some (40, 0, 0))], am_hp σ, t) Q := by
  refine w_putI rfl (hp_40 _ 0) rfl rfl rfl ?_
  refine w_s (c' := (241, [some (aR (some (40, 0, 0))), some (aI (iZ x1)), some (aI (iZ x2))], [], am_hp ((sI σ (40, 0, 0) (up (σ.1 (40, 0, 0)) 6 xs0))), t)) rfl rfl ?_
  exact w1

theorem b_X12_goOnRead_207 {x1 : Int} {x2 : Int} {σ : SG} {t : KT} (h1 : -2147483648 ≤ x1 ∧ x1 < 2147483648) (w2 : x1 = 59 → Wp k_X12_goOnRead d (226, [some (aR (some (40, 0, 0))), some (aI (iZ x1)), some (aI (iZ x2))], [aR (some (40, 0, 0))], am_hp σ, t) Q) (w3 : x1 ≠ 59 → Wp k_X12_goOnRead d (214, [some (aR (some (40, 0, 0))), some (aI (iZ x1)), some (aI (iZ x2))], [aR (some (40, 0, 0))], am_hp σ, t) Q) : Wp k_X12_goOnRead d (207, [some (aR (some (40, 0, 0))), some (aI (iZ x1)), some (aI (iZ x2))], [], am_hp σ, t) Q := by
  refine w_s (c' := (208, [some (aR (some (40, 0, 0))), some (aI (iZ x1)), some (aI (iZ x2))], [aR (some (40, 0, 0))], am_hp σ, t)) rfl rfl ?_
  refine w_s (c' := (209, [some (aR (some (40, 0, 0))), some (aI (iZ x1)), some (aI (iZ x2))], [aI (iZ x1), aR (some (40, 0, 0))], am_hp σ, t)) rfl rfl ?_
  refine w_psh rfl zc_59 rfl ?_
  exact w_iceq rfl h1 (by decide) rfl w2 w3

theorem b_X12_goOnRead_214 {x1 : Int} {x2 : Int} {σ : SG} {t : KT} (h1 : -2147483648 ≤ x1 ∧ x1 < 2147483648) (w2 : x1 = 40 → Wp k_X12_goOnRead d (226, [some (aR (some (40, 0, 0))), some (aI (iZ x1)), some (aI (iZ x2))], [aR (some (40, 0, 0))], am_hp σ, t) Q) (w3 : x1 ≠ 40 → Wp k_X12_goOnRead d (220, [some (aR (some (40, 0, 0))), some (aI (iZ x1)), some (aI (iZ x2))], [aR (some (40, 0, 0))], am_hp σ, t) Q) : Wp k_X12_goOnRead d (214, [some (aR (some (40, 0, 0))), some (aI (iZ x1)), some (aI (iZ x2))], [aR (some (40, 0, 0))], am_hp σ, t) Q := by
  refine w_s (c' := (215, [some (aR (some (40, 0, 0))), some (aI (iZ x1)), some (aI (iZ x2))], [aI (iZ x1), aR (some (40, 0, 0))], am_hp σ, t)) rfl rfl ?_
  refine w_psh rfl zc_40 rfl ?_
  exact w_iceq rfl h1 (by decide) rfl w2 w3

theorem b_X12_goOnRead_220 {x1 : Int} {x2 : Int} {σ : SG} {t : KT} (h1 : -2147483648 ≤ x1 ∧ x1 < 2147483648) (w2 : x1 ≠ 41 → Wp k_X12_goOnRead d (230, [some (aR (some (40, 0, 0))), some (aI (iZ x1)), some (aI (iZ x2))], [aR (some (40, 0, 0))], am_hp σ, t) Q) (w3 : x1 = 41 → Wp k_X12_goOnRead d (226, [some (aR (some (40, 0, 0))), some (aI (iZ x1)), some (aI (iZ x2))], [aR (some (40, 0, 0))], am_hp σ, t) Q) : Wp k_X12_goOnRead d (220, [some (aR (some (40, 0, 0))), some (aI (iZ x1)), some (aI (iZ x2))], [aR (some (40, 0, 0))], am_hp σ, t) Q := by
  refine w_s (c' := (221, [some (aR (some (40, 0, 0))), some (aI (iZ x1)), some (aI (iZ x2))], [aI (iZ x1), aR (some (40, 0, 0))], am_hp σ, t)) rfl rfl ?_
  refine w_psh rfl zc_41 rfl ?_
  exact w_icne rfl h1 (by decide) rfl w2 w3

theorem b_X12_goOnRead_226 {x1 : Int} {x2 : Int} {σ : SG} {t : KT} (w1 : Wp k_X12_goOnRead d (231, [some (aR (some (40, 0, 0))), some (aI (iZ x1)), some (aI (iZ x2))], [aI (iZ 3), aR (some (40, 0, 0))], am_hp σ, t) Q) : Wp k_X12_goOnRead d (226, [some (aR (some (40, 0, 0))), some (aI (iZ x1)), some (aI (iZ x2))], [aR (some (40, 0, 0))], am_hp σ, t) Q := by
  refine w_psh rfl zc_3 rfl ?_
  refine w_s (c' := (231, [some (aR (some (40, 0, 0))), some (aI (iZ x1)), some (aI (iZ x2))], [aI (iZ 3), aR (some (40, 0, 0))], am_hp σ, t)) rfl rfl ?_
  exact w1

theorem b_X12_goOnRead_230 {x1 : Int} {x2 : Int} {σ : SG} {t : KT} (w1 : Wp k_X12_goOnRead d (231, [some (aR (some (40, 0, 0))), some (aI (iZ x1)), some (aI (iZ x2))], [aI (iZ 4), aR (some (40, 0, 0))], am_hp σ, t) Q) : Wp k_X12_goOnRead d (230, [some (aR (some (40, 0, 0))), some (aI (iZ x1)), some (aI (iZ x2))], [aR (some (40, 0, 0))], am_hp σ, t) Q := by
  refine w_psh rfl zc_4 rfl ?_
  exact w1

theorem b_X12_goOnRead_231 {x1 : Int} {x2 : Int} {xs0 : Int} {σ : SG} {t : KT} (w1 : Wp k_X12_goOnRead d (241, [some (aR (some (40, 0, 0))), some (aI (iZ x1)), some (aI (iZ 1))], [], am_hp ((sI (sI σ (40, 0, 0) (up (σ.1 (40, 0, 0)) 6 xs0)) (40, 0, 0) (up (((sI σ (40, 0, 0) (up (σ.1 (40, 0, 0)) 6 xs0))).1 (40, 0, 0)) 7 x1))), t) Q) : Wp k_X12_goOnRead d (231, [some (aR (some (40, 0, 0))), some (aI (iZ x1)), some (aI (iZ x2))], [aI (iZ xs0), aR (some (40, 0, 0))], am_hp σ, t) Q := by
  refine w_putI rfl (hp_40 _ 0) rfl rfl rfl ?_
  refine w_s (c' := (235, [some (aR (some (40, 0, 0))), some (aI (iZ x1)), some (aI (iZ x2))], [aR (some (40, 0, 0))], am_hp ((sI σ (40, 0, 0) (up (σ.1 (40, 0, 0)) 6 xs0))), t)) rfl rfl ?_
  refine w_s (c' := (236, [some (aR (some (40, 0, 0))), some (aI (iZ x1)), some (aI (iZ x2))], [aI (iZ x1), aR (some (40, 0, 0))], am_hp ((sI σ (40, 0, 0) (up (σ.1 (40, 0, 0)) 6 xs0))), t)) rfl rfl ?_
  refine w_putI rfl (hp_40 _ 0) rfl rfl rfl ?_
  refine w_psh rfl zc_1 rfl ?_
  refine w_s (c' := (241, [some (aR (some (40, 0, 0))), some (aI (iZ x1)), some (aI (iZ 1))], [], am_hp ((sI (sI σ (40, 0, 0) (up (σ.1 (40, 0, 0)) 6 xs0)) (40, 0, 0) (up (((sI σ (40, 0, 0) (up (σ.1 (40, 0, 0)) 6 xs0))).1 (40, 0, 0)) 7 x1))), t)) rfl rfl ?_
  exact w1

theorem b_X12_goOnRead_241 {x1 : Int} {x2 : Int} {σ : SG} {t : KT} (q1 : Q (.inl none, am_hp ((sI σ (40, 0, 0) (up (σ.1 (40, 0, 0)) 4 ((σ.1 (40, 0, 0) 4) + x2)))), t)) : Wp k_X12_goOnRead d (241, [some (aR (some (40, 0, 0))), some (aI (iZ x1)), some (aI (iZ x2))], [], am_hp σ, t) Q := by
  refine w_s (c' := (242, [some (aR (some (40, 0, 0))), some (aI (iZ x1)), some (aI (iZ x2))], [aR (some (40, 0, 0))], am_hp σ, t)) rfl rfl ?_
  refine w_s (c' := (243, [some (aR (some (40, 0, 0))), some (aI (iZ x1)), some (aI (iZ x2))], [aR (some (40, 0, 0)), aR (some (40, 0, 0))], am_hp σ, t)) rfl rfl ?_
  refine w_get rfl (hp_40 _ 0) rfl rfl ?_
  refine w_s (c' := (247, [some (aR (some (40, 0, 0))), some (aI (iZ x1)), some (aI (iZ x2))], [aI (iZ x2), aI (iZ (σ.1 (40, 0, 0) 4)), aR (some (40, 0, 0))], am_hp σ, t)) rfl rfl ?_
  refine w_iadd rfl rfl ?_
  refine w_putI rfl (hp_40 _ 0) rfl rfl rfl ?_
  exact w_f rfl rfl q1

theorem b_X12_wrong_0 {x1 : Int} {σ : SG} {t : KT} (h1 : -2147483648 ≤ σ.1 (40, 0, 0) 8 ∧ σ.1 (40, 0, 0) 8 < 2147483648) (w2 : σ.1 (40, 0, 0) 8 ≤ 0 → Wp k_X12_wrong d (8, [some (aR (some (40, 0, 0))), some (aI (iZ x1))], [], am_hp σ, t) Q) (w3 : 0 < σ.1 (40, 0, 0) 8 → Wp k_X12_wrong d (7, [some (aR (some (40, 0, 0))), some (aI (iZ x1))], [], am_hp σ, t) Q) : Wp k_X12_wrong d (0, [some (aR (some (40, 0, 0))), some (aI (iZ x1))], [], am_hp σ, t) Q := by
  refine w_s (c' := (1, [some (aR (some (40, 0, 0))), some (aI (iZ x1))], [aR (some (40, 0, 0))], am_hp σ, t)) rfl rfl ?_
  refine w_get rfl (hp_40 _ 0) rfl rfl ?_
  exact w_ifle rfl h1 rfl w2 w3

theorem e_X12_wrong {x1 : Int} {h : AH} {t : KT} {d : Nat} {P : RS → Prop} (w : Wp k_X12_wrong d (0, [some (aR (some (40, 0, 0))), some (aI (iZ x1))], [], h, t) P) : ∃ r, Ca (d + 1) 187 [aR (some (40, 0, 0)), aI (iZ x1)] h t r ∧ P r := ca_W rfl rfl rfl rfl w

theorem b_X12_wrong_7 {x1 : Int} {σ : SG} {t : KT} (q1 : Q (.inl none, am_hp σ, t)) : Wp k_X12_wrong d (7, [some (aR (some (40, 0, 0))), some (aI (iZ x1))], [], am_hp σ, t) Q := by
  exact w_f rfl rfl q1

theorem b_X12_wrong_8 {x1 : Int} {σ : SG} {t : KT} (h1 : -2147483648 ≤ σ.1 (40, 0, 0) 6 ∧ σ.1 (40, 0, 0) 6 < 2147483648) (w2 : σ.1 (40, 0, 0) 6 ≠ 4 → Wp k_X12_wrong d (21, [some (aR (some (40, 0, 0))), some (aI (iZ x1))], [aR (some (40, 0, 0))], am_hp σ, t) Q) (w3 : σ.1 (40, 0, 0) 6 = 4 → Wp k_X12_wrong d (17, [some (aR (some (40, 0, 0))), some (aI (iZ x1))], [aR (some (40, 0, 0))], am_hp σ, t) Q) : Wp k_X12_wrong d (8, [some (aR (some (40, 0, 0))), some (aI (iZ x1))], [], am_hp σ, t) Q := by
  refine w_s (c' := (9, [some (aR (some (40, 0, 0))), some (aI (iZ x1))], [aR (some (40, 0, 0))], am_hp σ, t)) rfl rfl ?_
  refine w_s (c' := (10, [some (aR (some (40, 0, 0))), some (aI (iZ x1))], [aR (some (40, 0, 0)), aR (some (40, 0, 0))], am_hp σ, t)) rfl rfl ?_
  refine w_get rfl (hp_40 _ 0) rfl rfl ?_
  refine w_psh rfl zc_4 rfl ?_
  exact w_icne rfl h1 (by decide) rfl w2 w3

theorem b_X12_wrong_17 {x1 : Int} {σ : SG} {t : KT} (w1 : Wp k_X12_wrong d (22, [some (aR (some (40, 0, 0))), some (aI (iZ x1))], [aI (iZ 1), aR (some (40, 0, 0))], am_hp σ, t) Q) : Wp k_X12_wrong d (17, [some (aR (some (40, 0, 0))), some (aI (iZ x1))], [aR (some (40, 0, 0))], am_hp σ, t) Q := by
  refine w_psh rfl zc_1 rfl ?_
  refine w_s (c' := (22, [some (aR (some (40, 0, 0))), some (aI (iZ x1))], [aI (iZ 1), aR (some (40, 0, 0))], am_hp σ, t)) rfl rfl ?_
  exact w1

theorem b_X12_wrong_21 {x1 : Int} {σ : SG} {t : KT} (w1 : Wp k_X12_wrong d (22, [some (aR (some (40, 0, 0))), some (aI (iZ x1))], [aI (iZ x1), aR (some (40, 0, 0))], am_hp σ, t) Q) : Wp k_X12_wrong d (21, [some (aR (some (40, 0, 0))), some (aI (iZ x1))], [aR (some (40, 0, 0))], am_hp σ, t) Q := by
  refine w_s (c' := (22, [some (aR (some (40, 0, 0))), some (aI (iZ x1))], [aI (iZ x1), aR (some (40, 0, 0))], am_hp σ, t)) rfl rfl ?_
  exact w1

theorem b_X12_wrong_22 {x1 : Int} {xs0 : Int} {σ : SG} {t : KT} (q1 : Q (.inl none, am_hp ((sI (sI σ (40, 0, 0) (up (σ.1 (40, 0, 0)) 8 xs0)) (40, 0, 0) (up (((sI σ (40, 0, 0) (up (σ.1 (40, 0, 0)) 8 xs0))).1 (40, 0, 0)) 9 (((sI σ (40, 0, 0) (up (σ.1 (40, 0, 0)) 8 xs0))).1 (40, 0, 0) 5)))), t)) : Wp k_X12_wrong d (22, [some (aR (some (40, 0, 0))), some (aI (iZ x1))], [aI (iZ xs0), aR (some (40, 0, 0))], am_hp σ, t) Q := by
  refine w_putI rfl (hp_40 _ 0) rfl rfl rfl ?_
  refine w_s (c' := (26, [some (aR (some (40, 0, 0))), some (aI (iZ x1))], [aR (some (40, 0, 0))], am_hp ((sI σ (40, 0, 0) (up (σ.1 (40, 0, 0)) 8 xs0))), t)) rfl rfl ?_
  refine w_s (c' := (27, [some (aR (some (40, 0, 0))), some (aI (iZ x1))], [aR (some (40, 0, 0)), aR (some (40, 0, 0))], am_hp ((sI σ (40, 0, 0) (up (σ.1 (40, 0, 0)) 8 xs0))), t)) rfl rfl ?_
  refine w_get rfl (hp_40 _ 0) rfl rfl ?_
  refine w_putI rfl (hp_40 _ 0) rfl rfl rfl ?_
  exact w_f rfl rfl q1

theorem b_X12_isGood_0 {σ : SG} {t : KT} (h1 : -2147483648 ≤ σ.1 (40, 0, 0) 8 ∧ σ.1 (40, 0, 0) 8 < 2147483648) (w2 : σ.1 (40, 0, 0) 8 ≠ 0 → Wp k_X12_isGood d (11, [some (aR (some (40, 0, 0)))], [], am_hp σ, t) Q) (w3 : σ.1 (40, 0, 0) 8 = 0 → Wp k_X12_isGood d (7, [some (aR (some (40, 0, 0)))], [], am_hp σ, t) Q) : Wp k_X12_isGood d (0, [some (aR (some (40, 0, 0)))], [], am_hp σ, t) Q := by
  refine w_s (c' := (1, [some (aR (some (40, 0, 0)))], [aR (some (40, 0, 0))], am_hp σ, t)) rfl rfl ?_
  refine w_get rfl (hp_40 _ 0) rfl rfl ?_
  exact w_ifne rfl h1 rfl w2 w3

theorem e_X12_isGood {h : AH} {t : KT} {d : Nat} {P : RS → Prop} (w : Wp k_X12_isGood d (0, [some (aR (some (40, 0, 0)))], [], h, t) P) : ∃ r, Ca (d + 1) 188 [aR (some (40, 0, 0))] h t r ∧ P r := ca_W rfl rfl rfl rfl w

theorem b_X12_isGood_7 {σ : SG} {t : KT} (w1 : Wp k_X12_isGood d (12, [some (aR (some (40, 0, 0)))], [aI (iZ 1)], am_hp σ, t) Q) : Wp k_X12_isGood d (7, [some (aR (some (40, 0, 0)))], [], am_hp σ, t) Q := by
  refine w_psh rfl zc_1 rfl ?_
  refine w_s (c' := (12, [some (aR (some (40, 0, 0)))], [aI (iZ 1)], am_hp σ, t)) rfl rfl ?_
  exact w1

theorem b_X12_isGood_11 {σ : SG} {t : KT} (w1 : Wp k_X12_isGood d (12, [some (aR (some (40, 0, 0)))], [aI (iZ 0)], am_hp σ, t) Q) : Wp k_X12_isGood d (11, [some (aR (some (40, 0, 0)))], [], am_hp σ, t) Q := by
  refine w_psh rfl zc_0 rfl ?_
  exact w1

theorem b_X12_isGood_12 {xs0 : Int} {σ : SG} {t : KT} (h1 : xs0 = 0 ∨ xs0 = 1) (q2 : Q (.inl (some (aI (iZ xs0))), am_hp σ, t)) : Wp k_X12_isGood d (12, [some (aR (some (40, 0, 0)))], [aI (iZ xs0)], am_hp σ, t) Q := by
  exact w_ret rfl (frt_b h1) q2

theorem b_X12_isWord_0 {y1 : Int} {σ : SG} {t : KT} (h1 : -2147483648 ≤ σ.1 (40, 0, 0) 8 ∧ σ.1 (40, 0, 0) 8 < 2147483648) (w2 : σ.1 (40, 0, 0) 8 ≠ 0 → Wp k_X12_isWord d (28, [some (aR (some (40, 0, 0))), some (aL (jZ y1)), none], [], am_hp σ, t) Q) (w3 : σ.1 (40, 0, 0) 8 = 0 → Wp k_X12_isWord d (7, [some (aR (some (40, 0, 0))), some (aL (jZ y1)), none], [], am_hp σ, t) Q) : Wp k_X12_isWord d (0, [some (aR (some (40, 0, 0))), some (aL (jZ y1)), none], [], am_hp σ, t) Q := by
  refine w_s (c' := (1, [some (aR (some (40, 0, 0))), some (aL (jZ y1)), none], [aR (some (40, 0, 0))], am_hp σ, t)) rfl rfl ?_
  refine w_get rfl (hp_40 _ 0) rfl rfl ?_
  exact w_ifne rfl h1 rfl w2 w3

theorem e_X12_isWord {y1 : Int} {h : AH} {t : KT} {d : Nat} {P : RS → Prop} (w : Wp k_X12_isWord d (0, [some (aR (some (40, 0, 0))), some (aL (jZ y1)), none], [], h, t) P) : ∃ r, Ca (d + 1) 189 [aR (some (40, 0, 0)), aL (jZ y1)] h t r ∧ P r := ca_W rfl rfl rfl rfl w

theorem b_X12_isWord_7 {y1 : Int} {σ : SG} {t : KT} (h1 : -2147483648 ≤ σ.1 (40, 0, 0) 6 ∧ σ.1 (40, 0, 0) 6 < 2147483648) (w2 : σ.1 (40, 0, 0) 6 ≠ 1 → Wp k_X12_isWord d (28, [some (aR (some (40, 0, 0))), some (aL (jZ y1)), none], [], am_hp σ, t) Q) (w3 : σ.1 (40, 0, 0) 6 = 1 → Wp k_X12_isWord d (15, [some (aR (some (40, 0, 0))), some (aL (jZ y1)), none], [], am_hp σ, t) Q) : Wp k_X12_isWord d (7, [some (aR (some (40, 0, 0))), some (aL (jZ y1)), none], [], am_hp σ, t) Q := by
  refine w_s (c' := (8, [some (aR (some (40, 0, 0))), some (aL (jZ y1)), none], [aR (some (40, 0, 0))], am_hp σ, t)) rfl rfl ?_
  refine w_get rfl (hp_40 _ 0) rfl rfl ?_
  refine w_psh rfl zc_1 rfl ?_
  exact w_icne rfl h1 (by decide) rfl w2 w3

theorem b_X12_isWord_15 {y1 : Int} {σ : SG} {t : KT} (h1 : -2147483648 ≤ ycmp (σ.2.1 (40, 0, 0) 12) y1 ∧ ycmp (σ.2.1 (40, 0, 0) 12) y1 < 2147483648) (w2 : ycmp (σ.2.1 (40, 0, 0) 12) y1 ≠ 0 → Wp k_X12_isWord d (28, [some (aR (some (40, 0, 0))), some (aL (jZ y1)), none], [], am_hp σ, t) Q) (w3 : ycmp (σ.2.1 (40, 0, 0) 12) y1 = 0 → Wp k_X12_isWord d (24, [some (aR (some (40, 0, 0))), some (aL (jZ y1)), none], [], am_hp σ, t) Q) : Wp k_X12_isWord d (15, [some (aR (some (40, 0, 0))), some (aL (jZ y1)), none], [], am_hp σ, t) Q := by
  refine w_s (c' := (16, [some (aR (some (40, 0, 0))), some (aL (jZ y1)), none], [aR (some (40, 0, 0))], am_hp σ, t)) rfl rfl ?_
  refine w_get rfl (hp_40 _ 0) rfl rfl ?_
  refine w_s (c' := (20, [some (aR (some (40, 0, 0))), some (aL (jZ y1)), none], [aL (jZ y1), aL (jZ (σ.2.1 (40, 0, 0) 12))], am_hp σ, t)) rfl rfl ?_
  refine w_lcmp rfl rfl ?_
  exact w_ifne rfl h1 rfl w2 w3

theorem b_X12_isWord_24 {y1 : Int} {σ : SG} {t : KT} (w1 : Wp k_X12_isWord d (29, [some (aR (some (40, 0, 0))), some (aL (jZ y1)), none], [aI (iZ 1)], am_hp σ, t) Q) : Wp k_X12_isWord d (24, [some (aR (some (40, 0, 0))), some (aL (jZ y1)), none], [], am_hp σ, t) Q := by
  refine w_psh rfl zc_1 rfl ?_
  refine w_s (c' := (29, [some (aR (some (40, 0, 0))), some (aL (jZ y1)), none], [aI (iZ 1)], am_hp σ, t)) rfl rfl ?_
  exact w1

theorem b_X12_isWord_28 {y1 : Int} {σ : SG} {t : KT} (w1 : Wp k_X12_isWord d (29, [some (aR (some (40, 0, 0))), some (aL (jZ y1)), none], [aI (iZ 0)], am_hp σ, t) Q) : Wp k_X12_isWord d (28, [some (aR (some (40, 0, 0))), some (aL (jZ y1)), none], [], am_hp σ, t) Q := by
  refine w_psh rfl zc_0 rfl ?_
  exact w1

theorem b_X12_isWord_29 {y1 : Int} {xs0 : Int} {σ : SG} {t : KT} (h1 : xs0 = 0 ∨ xs0 = 1) (q2 : Q (.inl (some (aI (iZ xs0))), am_hp σ, t)) : Wp k_X12_isWord d (29, [some (aR (some (40, 0, 0))), some (aL (jZ y1)), none], [aI (iZ xs0)], am_hp σ, t) Q := by
  exact w_ret rfl (frt_b h1) q2

theorem b_X12_isSign_0 {x1 : Int} {σ : SG} {t : KT} (h1 : -2147483648 ≤ σ.1 (40, 0, 0) 8 ∧ σ.1 (40, 0, 0) 8 < 2147483648) (w2 : σ.1 (40, 0, 0) 8 ≠ 0 → Wp k_X12_isSign d (27, [some (aR (some (40, 0, 0))), some (aI (iZ x1))], [], am_hp σ, t) Q) (w3 : σ.1 (40, 0, 0) 8 = 0 → Wp k_X12_isSign d (7, [some (aR (some (40, 0, 0))), some (aI (iZ x1))], [], am_hp σ, t) Q) : Wp k_X12_isSign d (0, [some (aR (some (40, 0, 0))), some (aI (iZ x1))], [], am_hp σ, t) Q := by
  refine w_s (c' := (1, [some (aR (some (40, 0, 0))), some (aI (iZ x1))], [aR (some (40, 0, 0))], am_hp σ, t)) rfl rfl ?_
  refine w_get rfl (hp_40 _ 0) rfl rfl ?_
  exact w_ifne rfl h1 rfl w2 w3

theorem e_X12_isSign {x1 : Int} {h : AH} {t : KT} {d : Nat} {P : RS → Prop} (w : Wp k_X12_isSign d (0, [some (aR (some (40, 0, 0))), some (aI (iZ x1))], [], h, t) P) : ∃ r, Ca (d + 1) 190 [aR (some (40, 0, 0)), aI (iZ x1)] h t r ∧ P r := ca_W rfl rfl rfl rfl w

theorem b_X12_isSign_7 {x1 : Int} {σ : SG} {t : KT} (h1 : -2147483648 ≤ σ.1 (40, 0, 0) 6 ∧ σ.1 (40, 0, 0) 6 < 2147483648) (w2 : σ.1 (40, 0, 0) 6 ≠ 3 → Wp k_X12_isSign d (27, [some (aR (some (40, 0, 0))), some (aI (iZ x1))], [], am_hp σ, t) Q) (w3 : σ.1 (40, 0, 0) 6 = 3 → Wp k_X12_isSign d (15, [some (aR (some (40, 0, 0))), some (aI (iZ x1))], [], am_hp σ, t) Q) : Wp k_X12_isSign d (7, [some (aR (some (40, 0, 0))), some (aI (iZ x1))], [], am_hp σ, t) Q := by
  refine w_s (c' := (8, [some (aR (some (40, 0, 0))), some (aI (iZ x1))], [aR (some (40, 0, 0))], am_hp σ, t)) rfl rfl ?_
  refine w_get rfl (hp_40 _ 0) rfl rfl ?_
  refine w_psh rfl zc_3 rfl ?_
  exact w_icne rfl h1 (by decide) rfl w2 w3

theorem b_X12_isSign_15 {x1 : Int} {σ : SG} {t : KT} (h1 : -2147483648 ≤ σ.1 (40, 0, 0) 7 ∧ σ.1 (40, 0, 0) 7 < 2147483648) (h2 : -2147483648 ≤ x1 ∧ x1 < 2147483648) (w3 : σ.1 (40, 0, 0) 7 ≠ x1 → Wp k_X12_isSign d (27, [some (aR (some (40, 0, 0))), some (aI (iZ x1))], [], am_hp σ, t) Q) (w4 : σ.1 (40, 0, 0) 7 = x1 → Wp k_X12_isSign d (23, [some (aR (some (40, 0, 0))), some (aI (iZ x1))], [], am_hp σ, t) Q) : Wp k_X12_isSign d (15, [some (aR (some (40, 0, 0))), some (aI (iZ x1))], [], am_hp σ, t) Q := by
  refine w_s (c' := (16, [some (aR (some (40, 0, 0))), some (aI (iZ x1))], [aR (some (40, 0, 0))], am_hp σ, t)) rfl rfl ?_
  refine w_get rfl (hp_40 _ 0) rfl rfl ?_
  refine w_s (c' := (20, [some (aR (some (40, 0, 0))), some (aI (iZ x1))], [aI (iZ x1), aI (iZ (σ.1 (40, 0, 0) 7))], am_hp σ, t)) rfl rfl ?_
  exact w_icne rfl h1 h2 rfl w3 w4

theorem b_X12_isSign_23 {x1 : Int} {σ : SG} {t : KT} (w1 : Wp k_X12_isSign d (28, [some (aR (some (40, 0, 0))), some (aI (iZ x1))], [aI (iZ 1)], am_hp σ, t) Q) : Wp k_X12_isSign d (23, [some (aR (some (40, 0, 0))), some (aI (iZ x1))], [], am_hp σ, t) Q := by
  refine w_psh rfl zc_1 rfl ?_
  refine w_s (c' := (28, [some (aR (some (40, 0, 0))), some (aI (iZ x1))], [aI (iZ 1)], am_hp σ, t)) rfl rfl ?_
  exact w1

theorem b_X12_isSign_27 {x1 : Int} {σ : SG} {t : KT} (w1 : Wp k_X12_isSign d (28, [some (aR (some (40, 0, 0))), some (aI (iZ x1))], [aI (iZ 0)], am_hp σ, t) Q) : Wp k_X12_isSign d (27, [some (aR (some (40, 0, 0))), some (aI (iZ x1))], [], am_hp σ, t) Q := by
  refine w_psh rfl zc_0 rfl ?_
  exact w1

theorem b_X12_isSign_28 {x1 : Int} {xs0 : Int} {σ : SG} {t : KT} (h1 : xs0 = 0 ∨ xs0 = 1) (q2 : Q (.inl (some (aI (iZ xs0))), am_hp σ, t)) : Wp k_X12_isSign d (28, [some (aR (some (40, 0, 0))), some (aI (iZ x1))], [aI (iZ xs0)], am_hp σ, t) Q := by
  exact w_ret rfl (frt_b h1) q2

theorem b_X12_mustSign_0 {x1 : Int} {r1 : Int} {σ σ1 : SG} {t : KT} (c1 : Ca d 188 [aR (some (40, 0, 0))] (am_hp σ) t (.inl (some (aI (iZ r1))), am_hp σ1, t)) (h2 : -2147483648 ≤ r1 ∧ r1 < 2147483648) (w3 : r1 = 0 → Wp k_X12_mustSign d (20, [some (aR (some (40, 0, 0))), some (aI (iZ x1))], [], am_hp σ1, t) Q) (w4 : r1 ≠ 0 → Wp k_X12_mustSign d (7, [some (aR (some (40, 0, 0))), some (aI (iZ x1))], [], am_hp σ1, t) Q) : Wp k_X12_mustSign d (0, [some (aR (some (40, 0, 0))), some (aI (iZ x1))], [], am_hp σ, t) Q := by
  refine w_s (c' := (1, [some (aR (some (40, 0, 0))), some (aI (iZ x1))], [aR (some (40, 0, 0))], am_hp σ, t)) rfl rfl ?_
  refine w_c0 (c' := (4, [some (aR (some (40, 0, 0))), some (aI (iZ x1))], [aI (iZ r1)], am_hp σ1, t)) rfl rfl (rcv_of (hp_40 _ 0)) rfl c1 (Nat.le_refl _) rfl ?_
  exact w_ifeq rfl h2 rfl w3 w4

theorem e_X12_mustSign {x1 : Int} {h : AH} {t : KT} {d : Nat} {P : RS → Prop} (w : Wp k_X12_mustSign d (0, [some (aR (some (40, 0, 0))), some (aI (iZ x1))], [], h, t) P) : ∃ r, Ca (d + 1) 191 [aR (some (40, 0, 0)), aI (iZ x1)] h t r ∧ P r := ca_W rfl rfl rfl rfl w

theorem b_X12_mustSign_7 {x1 : Int} {r1 : Int} {σ σ1 : SG} {t : KT} (c1 : Ca d 190 [aR (some (40, 0, 0)), aI (iZ x1)] (am_hp σ) t (.inl (some (aI (iZ r1))), am_hp σ1, t)) (h2 : -2147483648 ≤ r1 ∧ r1 < 2147483648) (w3 : r1 ≠ 0 → Wp k_X12_mustSign d (20, [some (aR (some (40, 0, 0))), some (aI (iZ x1))], [], am_hp σ1, t) Q) (w4 : r1 = 0 → Wp k_X12_mustSign d (15, [some (aR (some (40, 0, 0))), some (aI (iZ x1))], [], am_hp σ1, t) Q) : Wp k_X12_mustSign d (7, [some (aR (some (40, 0, 0))), some (aI (iZ x1))], [], am_hp σ, t) Q := by
  refine w_s (c' := (8, [some (aR (some (40, 0, 0))), some (aI (iZ x1))], [aR (some (40, 0, 0))], am_hp σ, t)) rfl rfl ?_
  refine w_s (c' := (9, [some (aR (some (40, 0, 0))), some (aI (iZ x1))], [aI (iZ x1), aR (some (40, 0, 0))], am_hp σ, t)) rfl rfl ?_
  refine w_c0 (c' := (12, [some (aR (some (40, 0, 0))), some (aI (iZ x1))], [aI (iZ r1)], am_hp σ1, t)) rfl rfl (rcv_of (hp_40 _ 0)) rfl c1 (Nat.le_refl _) rfl ?_
  exact w_ifne rfl h2 rfl w3 w4

theorem b_X12_mustSign_15 {x1 : Int} {σ σ1 : SG} {t : KT} (c1 : Ca d 187 [aR (some (40, 0, 0)), aI (iZ 1)] (am_hp σ) t (.inl none, am_hp σ1, t)) (w2 : Wp k_X12_mustSign d (20, [some (aR (some (40, 0, 0))), some (aI (iZ x1))], [], am_hp σ1, t) Q) : Wp k_X12_mustSign d (15, [some (aR (some (40, 0, 0))), some (aI (iZ x1))], [], am_hp σ, t) Q := by
  refine w_s (c' := (16, [some (aR (some (40, 0, 0))), some (aI (iZ x1))], [aR (some (40, 0, 0))], am_hp σ, t)) rfl rfl ?_
  refine w_psh rfl zc_1 rfl ?_
  refine w_c0 (c' := (20, [some (aR (some (40, 0, 0))), some (aI (iZ x1))], [], am_hp σ1, t)) rfl rfl (rcv_of (hp_40 _ 0)) rfl c1 (Nat.le_refl _) rfl ?_
  exact w2

theorem b_X12_mustSign_20 {x1 : Int} {r1 : Int} {σ σ1 : SG} {t : KT} (c1 : Ca d 188 [aR (some (40, 0, 0))] (am_hp σ) t (.inl (some (aI (iZ r1))), am_hp σ1, t)) (h2 : -2147483648 ≤ r1 ∧ r1 < 2147483648) (w3 : r1 = 0 → Wp k_X12_mustSign d (31, [some (aR (some (40, 0, 0))), some (aI (iZ x1))], [], am_hp σ1, t) Q) (w4 : r1 ≠ 0 → Wp k_X12_mustSign d (27, [some (aR (some (40, 0, 0))), some (aI (iZ x1))], [], am_hp σ1, t) Q) : Wp k_X12_mustSign d (20, [some (aR (some (40, 0, 0))), some (aI (iZ x1))], [], am_hp σ, t) Q := by
  refine w_s (c' := (21, [some (aR (some (40, 0, 0))), some (aI (iZ x1))], [aR (some (40, 0, 0))], am_hp σ, t)) rfl rfl ?_
  refine w_c0 (c' := (24, [some (aR (some (40, 0, 0))), some (aI (iZ x1))], [aI (iZ r1)], am_hp σ1, t)) rfl rfl (rcv_of (hp_40 _ 0)) rfl c1 (Nat.le_refl _) rfl ?_
  exact w_ifeq rfl h2 rfl w3 w4

theorem b_X12_mustSign_27 {x1 : Int} {σ σ1 : SG} {t : KT} (c1 : Ca d 186 [aR (some (40, 0, 0))] (am_hp σ) t (.inl none, am_hp σ1, t)) (w2 : Wp k_X12_mustSign d (31, [some (aR (some (40, 0, 0))), some (aI (iZ x1))], [], am_hp σ1, t) Q) : Wp k_X12_mustSign d (27, [some (aR (some (40, 0, 0))), some (aI (iZ x1))], [], am_hp σ, t) Q := by
  refine w_s (c' := (28, [some (aR (some (40, 0, 0))), some (aI (iZ x1))], [aR (some (40, 0, 0))], am_hp σ, t)) rfl rfl ?_
  refine w_c0 (c' := (31, [some (aR (some (40, 0, 0))), some (aI (iZ x1))], [], am_hp σ1, t)) rfl rfl (rcv_of (hp_40 _ 0)) rfl c1 (Nat.le_refl _) rfl ?_
  exact w2

theorem b_X12_mustSign_31 {x1 : Int} {σ : SG} {t : KT} (q1 : Q (.inl none, am_hp σ, t)) : Wp k_X12_mustSign d (31, [some (aR (some (40, 0, 0))), some (aI (iZ x1))], [], am_hp σ, t) Q := by
  exact w_f rfl rfl q1

theorem b_X12_mustWord_0 {y1 : Int} {r1 : Int} {σ σ1 : SG} {t : KT} (c1 : Ca d 188 [aR (some (40, 0, 0))] (am_hp σ) t (.inl (some (aI (iZ r1))), am_hp σ1, t)) (h2 : -2147483648 ≤ r1 ∧ r1 < 2147483648) (w3 : r1 = 0 → Wp k_X12_mustWord d (20, [some (aR (some (40, 0, 0))), some (aL (jZ y1)), none], [], am_hp σ1, t) Q) (w4 : r1 ≠ 0 → Wp k_X12_mustWord d (7, [some (aR (some (40, 0, 0))), some (aL (jZ y1)), none], [], am_hp σ1, t) Q) : Wp k_X12_mustWord d (0, [some (aR (some (40, 0, 0))), some (aL (jZ y1)), none], [], am_hp σ, t) Q := by
  refine w_s (c' := (1, [some (aR (some (40, 0, 0))), some (aL (jZ y1)), none], [aR (some (40, 0, 0))], am_hp σ, t)) rfl rfl ?_
  refine w_c0 (c' := (4, [some (aR (some (40, 0, 0))), some (aL (jZ y1)), none], [aI (iZ r1)], am_hp σ1, t)) rfl rfl (rcv_of (hp_40 _ 0)) rfl c1 (Nat.le_refl _) rfl ?_
  exact w_ifeq rfl h2 rfl w3 w4

theorem e_X12_mustWord {y1 : Int} {h : AH} {t : KT} {d : Nat} {P : RS → Prop} (w : Wp k_X12_mustWord d (0, [some (aR (some (40, 0, 0))), some (aL (jZ y1)), none], [], h, t) P) : ∃ r, Ca (d + 1) 192 [aR (some (40, 0, 0)), aL (jZ y1)] h t r ∧ P r := ca_W rfl rfl rfl rfl w

theorem b_X12_mustWord_7 {y1 : Int} {r1 : Int} {σ σ1 : SG} {t : KT} (c1 : Ca d 189 [aR (some (40, 0, 0)), aL (jZ y1)] (am_hp σ) t (.inl (some (aI (iZ r1))), am_hp σ1, t)) (h2 : -2147483648 ≤ r1 ∧ r1 < 2147483648) (w3 : r1 ≠ 0 → Wp k_X12_mustWord d (20, [some (aR (some (40, 0, 0))), some (aL (jZ y1)), none], [], am_hp σ1, t) Q) (w4 : r1 = 0 → Wp k_X12_mustWord d (15, [some (aR (some (40, 0, 0))), some (aL (jZ y1)), none], [], am_hp σ1, t) Q) : Wp k_X12_mustWord d (7, [some (aR (some (40, 0, 0))), some (aL (jZ y1)), none], [], am_hp σ, t) Q := by
  refine w_s (c' := (8, [some (aR (some (40, 0, 0))), some (aL (jZ y1)), none], [aR (some (40, 0, 0))], am_hp σ, t)) rfl rfl ?_
  refine w_s (c' := (9, [some (aR (some (40, 0, 0))), some (aL (jZ y1)), none], [aL (jZ y1), aR (some (40, 0, 0))], am_hp σ, t)) rfl rfl ?_
  refine w_c0 (c' := (12, [some (aR (some (40, 0, 0))), some (aL (jZ y1)), none], [aI (iZ r1)], am_hp σ1, t)) rfl rfl (rcv_of (hp_40 _ 0)) rfl c1 (Nat.le_refl _) rfl ?_
  exact w_ifne rfl h2 rfl w3 w4

theorem b_X12_mustWord_15 {y1 : Int} {σ σ1 : SG} {t : KT} (c1 : Ca d 187 [aR (some (40, 0, 0)), aI (iZ 1)] (am_hp σ) t (.inl none, am_hp σ1, t)) (w2 : Wp k_X12_mustWord d (20, [some (aR (some (40, 0, 0))), some (aL (jZ y1)), none], [], am_hp σ1, t) Q) : Wp k_X12_mustWord d (15, [some (aR (some (40, 0, 0))), some (aL (jZ y1)), none], [], am_hp σ, t) Q := by
  refine w_s (c' := (16, [some (aR (some (40, 0, 0))), some (aL (jZ y1)), none], [aR (some (40, 0, 0))], am_hp σ, t)) rfl rfl ?_
  refine w_psh rfl zc_1 rfl ?_
  refine w_c0 (c' := (20, [some (aR (some (40, 0, 0))), some (aL (jZ y1)), none], [], am_hp σ1, t)) rfl rfl (rcv_of (hp_40 _ 0)) rfl c1 (Nat.le_refl _) rfl ?_
  exact w2

theorem b_X12_mustWord_20 {y1 : Int} {r1 : Int} {σ σ1 : SG} {t : KT} (c1 : Ca d 188 [aR (some (40, 0, 0))] (am_hp σ) t (.inl (some (aI (iZ r1))), am_hp σ1, t)) (h2 : -2147483648 ≤ r1 ∧ r1 < 2147483648) (w3 : r1 = 0 → Wp k_X12_mustWord d (31, [some (aR (some (40, 0, 0))), some (aL (jZ y1)), none], [], am_hp σ1, t) Q) (w4 : r1 ≠ 0 → Wp k_X12_mustWord d (27, [some (aR (some (40, 0, 0))), some (aL (jZ y1)), none], [], am_hp σ1, t) Q) : Wp k_X12_mustWord d (20, [some (aR (some (40, 0, 0))), some (aL (jZ y1)), none], [], am_hp σ, t) Q := by
  refine w_s (c' := (21, [some (aR (some (40, 0, 0))), some (aL (jZ y1)), none], [aR (some (40, 0, 0))], am_hp σ, t)) rfl rfl ?_
  refine w_c0 (c' := (24, [some (aR (some (40, 0, 0))), some (aL (jZ y1)), none], [aI (iZ r1)], am_hp σ1, t)) rfl rfl (rcv_of (hp_40 _ 0)) rfl c1 (Nat.le_refl _) rfl ?_
  exact w_ifeq rfl h2 rfl w3 w4

theorem b_X12_mustWord_27 {y1 : Int} {σ σ1 : SG} {t : KT} (c1 : Ca d 186 [aR (some (40, 0, 0))] (am_hp σ) t (.inl none, am_hp σ1, t)) (w2 : Wp k_X12_mustWord d (31, [some (aR (some (40, 0, 0))), some (aL (jZ y1)), none], [], am_hp σ1, t) Q) : Wp k_X12_mustWord d (27, [some (aR (some (40, 0, 0))), some (aL (jZ y1)), none], [], am_hp σ, t) Q := by
  refine w_s (c' := (28, [some (aR (some (40, 0, 0))), some (aL (jZ y1)), none], [aR (some (40, 0, 0))], am_hp σ, t)) rfl rfl ?_
  refine w_c0 (c' := (31, [some (aR (some (40, 0, 0))), some (aL (jZ y1)), none], [], am_hp σ1, t)) rfl rfl (rcv_of (hp_40 _ 0)) rfl c1 (Nat.le_refl _) rfl ?_
  exact w2

theorem b_X12_mustWord_31 {y1 : Int} {σ : SG} {t : KT} (q1 : Q (.inl none, am_hp σ, t)) : Wp k_X12_mustWord d (31, [some (aR (some (40, 0, 0))), some (aL (jZ y1)), none], [], am_hp σ, t) Q := by
  exact w_f rfl rfl q1
end PCS
