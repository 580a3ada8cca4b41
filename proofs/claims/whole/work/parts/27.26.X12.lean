/-! PIECES: X12 -/
set_option maxRecDepth 4000
section PCS
variable {d : Nat} {Q : RS → Prop}
theorem b_X12_doesAll_0 {σ : SG} {t : KT} (w1 : Wp k_X12_doesAll d (9, [some (aR (some (40, 0, 0))), some (aI (iZ 0)), some (aI (iZ 0)), some (aI (iZ 0)), some (aI (iZ 1)), none], [], am_hp σ, t) Q) : Wp k_X12_doesAll d (0, [some (aR (some (40, 0, 0))), none, none, none, none, none], [], am_hp σ, t) Q := by
  refine w_psh rfl zc_0 rfl ?_
  refine w_s (c' := (2, [some (aR (some (40, 0, 0))), some (aI (iZ 0)), none, none, none, none], [], am_hp σ, t)) rfl rfl ?_
  refine w_psh rfl zc_0 rfl ?_
  refine w_s (c' := (4, [some (aR (some (40, 0, 0))), some (aI (iZ 0)), some (aI (iZ 0)), none, none, none], [], am_hp σ, t)) rfl rfl ?_
  refine w_psh rfl zc_0 rfl ?_
  refine w_s (c' := (6, [some (aR (some (40, 0, 0))), some (aI (iZ 0)), some (aI (iZ 0)), some (aI (iZ 0)), none, none], [], am_hp σ, t)) rfl rfl ?_
  refine w_psh rfl zc_1 rfl ?_
  refine w_s (c' := (9, [some (aR (some (40, 0, 0))), some (aI (iZ 0)), some (aI (iZ 0)), some (aI (iZ 0)), some (aI (iZ 1)), none], [], am_hp σ, t)) rfl rfl ?_
  exact w1

theorem e_X12_doesAll {h : AH} {t : KT} {d : Nat} {P : RS → Prop} (w : Wp k_X12_doesAll d (0, [some (aR (some (40, 0, 0))), none, none, none, none, none], [], h, t) P) : ∃ r, Ca (d + 1) 330 [aR (some (40, 0, 0))] h t r ∧ P r := ca_W rfl rfl rfl rfl w

theorem b_X12_doesAll_9 {x1 : Int} {x2 : Int} {x3 : Int} {x4 : Int} {u5 : Option AV} {σ : SG} {t : KT} (h1 : -2147483648 ≤ x4 ∧ x4 < 2147483648) (w2 : x4 = 0 → Wp k_X12_doesAll d (180, [some (aR (some (40, 0, 0))), some (aI (iZ x1)), some (aI (iZ x2)), some (aI (iZ x3)), some (aI (iZ x4)), u5], [], am_hp σ, t) Q) (w3 : x4 ≠ 0 → Wp k_X12_doesAll d (14, [some (aR (some (40, 0, 0))), some (aI (iZ x1)), some (aI (iZ x2)), some (aI (iZ x3)), some (aI (iZ x4)), u5], [], am_hp σ, t) Q) : Wp k_X12_doesAll d (9, [some (aR (some (40, 0, 0))), some (aI (iZ x1)), some (aI (iZ x2)), some (aI (iZ x3)), some (aI (iZ x4)), u5], [], am_hp σ, t) Q := by
  refine w_s (c' := (11, [some (aR (some (40, 0, 0))), some (aI (iZ x1)), some (aI (iZ x2)), some (aI (iZ x3)), some (aI (iZ x4)), u5], [aI (iZ x4)], am_hp σ, t)) rfl rfl ?_
  exact w_ifeq rfl h1 rfl w2 w3

theorem b_X12_doesAll_14 {x1 : Int} {x2 : Int} {x3 : Int} {x4 : Int} {u5 : Option AV} {σ : SG} {t : KT} (h1 : -2147483648 ≤ x3 ∧ x3 < 2147483648) (h2 : -2147483648 ≤ σ.1 (40, 0, 0) 43 ∧ σ.1 (40, 0, 0) 43 < 2147483648) (w3 : σ.1 (40, 0, 0) 43 ≤ x3 → Wp k_X12_doesAll d (180, [some (aR (some (40, 0, 0))), some (aI (iZ x1)), some (aI (iZ x2)), some (aI (iZ x3)), some (aI (iZ x4)), u5], [], am_hp σ, t) Q) (w4 : x3 < σ.1 (40, 0, 0) 43 → Wp k_X12_doesAll d (22, [some (aR (some (40, 0, 0))), some (aI (iZ x1)), some (aI (iZ x2)), some (aI (iZ x3)), some (aI (iZ x4)), u5], [], am_hp σ, t) Q) : Wp k_X12_doesAll d (14, [some (aR (some (40, 0, 0))), some (aI (iZ x1)), some (aI (iZ x2)), some (aI (iZ x3)), some (aI (iZ x4)), u5], [], am_hp σ, t) Q := by
  refine w_s (c' := (15, [some (aR (some (40, 0, 0))), some (aI (iZ x1)), some (aI (iZ x2)), some (aI (iZ x3)), some (aI (iZ x4)), u5], [aI (iZ x3)], am_hp σ, t)) rfl rfl ?_
  refine w_s (c' := (16, [some (aR (some (40, 0, 0))), some (aI (iZ x1)), some (aI (iZ x2)), some (aI (iZ x3)), some (aI (iZ x4)), u5], [aR (some (40, 0, 0)), aI (iZ x3)], am_hp σ, t)) rfl rfl ?_
  refine w_get rfl (hp_40 _ 0) rfl rfl ?_
  exact w_icge rfl h1 h2 rfl w3 w4

theorem b_X12_doesAll_22 {x1 : Int} {x2 : Int} {x3 : Int} {x4 : Int} {u5 : Option AV} {σ : SG} {t : KT} (h1 : -2147483648 ≤ x1 ∧ x1 < 2147483648) (w2 : 40 ≤ x1 → Wp k_X12_doesAll d (180, [some (aR (some (40, 0, 0))), some (aI (iZ x1)), some (aI (iZ x2)), some (aI (iZ x3)), some (aI (iZ x4)), u5], [], am_hp σ, t) Q) (w3 : x1 < 40 → Wp k_X12_doesAll d (28, [some (aR (some (40, 0, 0))), some (aI (iZ x1)), some (aI (iZ x2)), some (aI (iZ x3)), some (aI (iZ x4)), u5], [], am_hp σ, t) Q) : Wp k_X12_doesAll d (22, [some (aR (some (40, 0, 0))), some (aI (iZ x1)), some (aI (iZ x2)), some (aI (iZ x3)), some (aI (iZ x4)), u5], [], am_hp σ, t) Q := by
  refine w_s (c' := (23, [some (aR (some (40, 0, 0))), some (aI (iZ x1)), some (aI (iZ x2)), some (aI (iZ x3)), some (aI (iZ x4)), u5], [aI (iZ x1)], am_hp σ, t)) rfl rfl ?_
  refine w_psh rfl zc_40 rfl ?_
  exact w_icge rfl h1 (by decide) rfl w2 w3

theorem b_X12_doesAll_28 {x1 : Int} {x2 : Int} {x3 : Int} {x4 : Int} {u5 : Option AV} {σ : SG} {t : KT} (h1 : 0 ≤ x3 ∧ x3 < 60) (h2 : -2147483648 ≤ σ.1 (55, 0, 0) x3.toNat ∧ σ.1 (55, 0, 0) x3.toNat < 2147483648) (w3 : σ.1 (55, 0, 0) x3.toNat ≠ 9 → Wp k_X12_doesAll d (67, [some (aR (some (40, 0, 0))), some (aI (iZ x1)), some (aI (iZ x2)), some (aI (iZ x3)), some (aI (iZ x4)), u5], [], am_hp σ, t) Q) (w4 : σ.1 (55, 0, 0) x3.toNat = 9 → Wp k_X12_doesAll d (39, [some (aR (some (40, 0, 0))), some (aI (iZ x1)), some (aI (iZ x2)), some (aI (iZ x3)), some (aI (iZ x4)), u5], [], am_hp σ, t) Q) : Wp k_X12_doesAll d (28, [some (aR (some (40, 0, 0))), some (aI (iZ x1)), some (aI (iZ x2)), some (aI (iZ x3)), some (aI (iZ x4)), u5], [], am_hp σ, t) Q := by
  refine w_s (c' := (29, [some (aR (some (40, 0, 0))), some (aI (iZ x1)), some (aI (iZ x2)), some (aI (iZ x3)), some (aI (iZ x4)), u5], [aR (some (40, 0, 0))], am_hp σ, t)) rfl rfl ?_
  refine w_get rfl (hp_40 _ 0) rfl rfl ?_
  refine w_s (c' := (33, [some (aR (some (40, 0, 0))), some (aI (iZ x1)), some (aI (iZ x2)), some (aI (iZ x3)), some (aI (iZ x4)), u5], [aI (iZ x3), aR (some (55, 0, 0))], am_hp σ, t)) rfl rfl ?_
  refine w_ial rfl (hp_55 _ 0 0) h1 rfl rfl ?_
  refine w_psh rfl zc_9 rfl ?_
  exact w_icne rfl h2 (by decide) rfl w3 w4

theorem b_X12_doesAll_39 {x1 : Int} {x2 : Int} {x3 : Int} {x4 : Int} {u5 : Option AV} {σ : SG} {t : KT} (h1 : 0 ≤ x2 ∧ x2 < 2) (h2 : 0 ≤ x3 ∧ x3 < 60) (w3 : Wp k_X12_doesAll d (9, [some (aR (some (40, 0, 0))), some (aI (iZ x1)), some (aI (iZ (x2 + 1))), some (aI (iZ (x3 + 1))), some (aI (iZ x4)), u5], [], am_hp ((sI (sI σ (58, 0, 0) (up (σ.1 (58, 0, 0)) x2.toNat x3)) (59, 0, 0) (up (((sI σ (58, 0, 0) (up (σ.1 (58, 0, 0)) x2.toNat x3))).1 (59, 0, 0)) x2.toNat (((sI σ (58, 0, 0) (up (σ.1 (58, 0, 0)) x2.toNat x3))).1 (56, 0, 0) x3.toNat)))), t) Q) : Wp k_X12_doesAll d (39, [some (aR (some (40, 0, 0))), some (aI (iZ x1)), some (aI (iZ x2)), some (aI (iZ x3)), some (aI (iZ x4)), u5], [], am_hp σ, t) Q := by
  refine w_s (c' := (40, [some (aR (some (40, 0, 0))), some (aI (iZ x1)), some (aI (iZ x2)), some (aI (iZ x3)), some (aI (iZ x4)), u5], [aR (some (40, 0, 0))], am_hp σ, t)) rfl rfl ?_
  refine w_get rfl (hp_40 _ 0) rfl rfl ?_
  refine w_s (c' := (44, [some (aR (some (40, 0, 0))), some (aI (iZ x1)), some (aI (iZ x2)), some (aI (iZ x3)), some (aI (iZ x4)), u5], [aI (iZ x2), aR (some (58, 0, 0))], am_hp σ, t)) rfl rfl ?_
  refine w_s (c' := (45, [some (aR (some (40, 0, 0))), some (aI (iZ x1)), some (aI (iZ x2)), some (aI (iZ x3)), some (aI (iZ x4)), u5], [aI (iZ x3), aI (iZ x2), aR (some (58, 0, 0))], am_hp σ, t)) rfl rfl ?_
  refine w_ias rfl (mk_58 _ 0 0) h1 rfl rfl rfl ?_
  refine w_s (c' := (47, [some (aR (some (40, 0, 0))), some (aI (iZ x1)), some (aI (iZ x2)), some (aI (iZ x3)), some (aI (iZ x4)), u5], [aR (some (40, 0, 0))], am_hp ((sI σ (58, 0, 0) (up (σ.1 (58, 0, 0)) x2.toNat x3))), t)) rfl rfl ?_
  refine w_get rfl (hp_40 _ 0) rfl rfl ?_
  refine w_s (c' := (51, [some (aR (some (40, 0, 0))), some (aI (iZ x1)), some (aI (iZ x2)), some (aI (iZ x3)), some (aI (iZ x4)), u5], [aI (iZ x2), aR (some (59, 0, 0))], am_hp ((sI σ (58, 0, 0) (up (σ.1 (58, 0, 0)) x2.toNat x3))), t)) rfl rfl ?_
  refine w_s (c' := (52, [some (aR (some (40, 0, 0))), some (aI (iZ x1)), some (aI (iZ x2)), some (aI (iZ x3)), some (aI (iZ x4)), u5], [aR (some (40, 0, 0)), aI (iZ x2), aR (some (59, 0, 0))], am_hp ((sI σ (58, 0, 0) (up (σ.1 (58, 0, 0)) x2.toNat x3))), t)) rfl rfl ?_
  refine w_get rfl (hp_40 _ 0) rfl rfl ?_
  refine w_s (c' := (56, [some (aR (some (40, 0, 0))), some (aI (iZ x1)), some (aI (iZ x2)), some (aI (iZ x3)), some (aI (iZ x4)), u5], [aI (iZ x3), aR (some (56, 0, 0)), aI (iZ x2), aR (some (59, 0, 0))], am_hp ((sI σ (58, 0, 0) (up (σ.1 (58, 0, 0)) x2.toNat x3))), t)) rfl rfl ?_
  refine w_ial rfl (hp_56 _ 0 0) h2 rfl rfl ?_
  refine w_ias rfl (mk_59 _ 0 0) h1 rfl rfl rfl ?_
  refine w_inc (a := x2) (ls' := [some (aR (some (40, 0, 0))), some (aI (iZ x1)), some (aI (iZ (x2 + 1))), some (aI (iZ x3)), some (aI (iZ x4)), u5]) rfl rfl rfl zc_1 rfl rfl ?_
  refine w_inc (a := x3) (ls' := [some (aR (some (40, 0, 0))), some (aI (iZ x1)), some (aI (iZ (x2 + 1))), some (aI (iZ (x3 + 1))), some (aI (iZ x4)), u5]) rfl rfl rfl zc_1 rfl rfl ?_
  refine w_s (c' := (9, [some (aR (some (40, 0, 0))), some (aI (iZ x1)), some (aI (iZ (x2 + 1))), some (aI (iZ (x3 + 1))), some (aI (iZ x4)), u5], [], am_hp ((sI (sI σ (58, 0, 0) (up (σ.1 (58, 0, 0)) x2.toNat x3)) (59, 0, 0) (up (((sI σ (58, 0, 0) (up (σ.1 (58, 0, 0)) x2.toNat x3))).1 (59, 0, 0)) x2.toNat (((sI σ (58, 0, 0) (up (σ.1 (58, 0, 0)) x2.toNat x3))).1 (56, 0, 0) x3.toNat)))), t)) rfl rfl ?_
  exact w3

theorem b_X12_doesAll_67 {x1 : Int} {x2 : Int} {x3 : Int} {x4 : Int} {u5 : Option AV} {σ : SG} {t : KT} (h1 : 0 ≤ x3 ∧ x3 < 60) (h2 : -2147483648 ≤ σ.1 (55, 0, 0) x3.toNat ∧ σ.1 (55, 0, 0) x3.toNat < 2147483648) (w3 : σ.1 (55, 0, 0) x3.toNat ≠ 10 → Wp k_X12_doesAll d (149, [some (aR (some (40, 0, 0))), some (aI (iZ x1)), some (aI (iZ x2)), some (aI (iZ x3)), some (aI (iZ x4)), u5], [], am_hp σ, t) Q) (w4 : σ.1 (55, 0, 0) x3.toNat = 10 → Wp k_X12_doesAll d (78, [some (aR (some (40, 0, 0))), some (aI (iZ x1)), some (aI (iZ x2)), some (aI (iZ x3)), some (aI (iZ x4)), u5], [], am_hp σ, t) Q) : Wp k_X12_doesAll d (67, [some (aR (some (40, 0, 0))), some (aI (iZ x1)), some (aI (iZ x2)), some (aI (iZ x3)), some (aI (iZ x4)), u5], [], am_hp σ, t) Q := by
  refine w_s (c' := (68, [some (aR (some (40, 0, 0))), some (aI (iZ x1)), some (aI (iZ x2)), some (aI (iZ x3)), some (aI (iZ x4)), u5], [aR (some (40, 0, 0))], am_hp σ, t)) rfl rfl ?_
  refine w_get rfl (hp_40 _ 0) rfl rfl ?_
  refine w_s (c' := (72, [some (aR (some (40, 0, 0))), some (aI (iZ x1)), some (aI (iZ x2)), some (aI (iZ x3)), some (aI (iZ x4)), u5], [aI (iZ x3), aR (some (55, 0, 0))], am_hp σ, t)) rfl rfl ?_
  refine w_ial rfl (hp_55 _ 0 0) h1 rfl rfl ?_
  refine w_psh rfl zc_10 rfl ?_
  exact w_icne rfl h2 (by decide) rfl w3 w4

theorem b_X12_doesAll_78 {x1 : Int} {x2 : Int} {x3 : Int} {x4 : Int} {u5 : Option AV} {σ : SG} {t : KT} (h1 : 0 ≤ x2 - 1 ∧ x2 - 1 < 2) (h2 : -2147483648 ≤ ((sI σ (59, 0, 0) (up (σ.1 (59, 0, 0)) (x2 - 1).toNat ((σ.1 (59, 0, 0) (x2 - 1).toNat) - 1)))).1 (59, 0, 0) (x2 - 1).toNat ∧ ((sI σ (59, 0, 0) (up (σ.1 (59, 0, 0)) (x2 - 1).toNat ((σ.1 (59, 0, 0) (x2 - 1).toNat) - 1)))).1 (59, 0, 0) (x2 - 1).toNat < 2147483648) (w3 : ((sI σ (59, 0, 0) (up (σ.1 (59, 0, 0)) (x2 - 1).toNat ((σ.1 (59, 0, 0) (x2 - 1).toNat) - 1)))).1 (59, 0, 0) (x2 - 1).toNat ≤ 0 → Wp k_X12_doesAll d (105, [some (aR (some (40, 0, 0))), some (aI (iZ x1)), some (aI (iZ x2)), some (aI (iZ x3)), some (aI (iZ x4)), u5], [], am_hp ((sI σ (59, 0, 0) (up (σ.1 (59, 0, 0)) (x2 - 1).toNat ((σ.1 (59, 0, 0) (x2 - 1).toNat) - 1)))), t) Q) (w4 : 0 < ((sI σ (59, 0, 0) (up (σ.1 (59, 0, 0)) (x2 - 1).toNat ((σ.1 (59, 0, 0) (x2 - 1).toNat) - 1)))).1 (59, 0, 0) (x2 - 1).toNat → Wp k_X12_doesAll d (101, [some (aR (some (40, 0, 0))), some (aI (iZ x1)), some (aI (iZ x2)), some (aI (iZ x3)), some (aI (iZ x4)), u5], [], am_hp ((sI σ (59, 0, 0) (up (σ.1 (59, 0, 0)) (x2 - 1).toNat ((σ.1 (59, 0, 0) (x2 - 1).toNat) - 1)))), t) Q) : Wp k_X12_doesAll d (78, [some (aR (some (40, 0, 0))), some (aI (iZ x1)), some (aI (iZ x2)), some (aI (iZ x3)), some (aI (iZ x4)), u5], [], am_hp σ, t) Q := by
  refine w_s (c' := (79, [some (aR (some (40, 0, 0))), some (aI (iZ x1)), some (aI (iZ x2)), some (aI (iZ x3)), some (aI (iZ x4)), u5], [aR (some (40, 0, 0))], am_hp σ, t)) rfl rfl ?_
  refine w_get rfl (hp_40 _ 0) rfl rfl ?_
  refine w_s (c' := (83, [some (aR (some (40, 0, 0))), some (aI (iZ x1)), some (aI (iZ x2)), some (aI (iZ x3)), some (aI (iZ x4)), u5], [aI (iZ x2), aR (some (59, 0, 0))], am_hp σ, t)) rfl rfl ?_
  refine w_psh rfl zc_1 rfl ?_
  refine w_isub rfl rfl ?_
  refine w_s (c' := (86, [some (aR (some (40, 0, 0))), some (aI (iZ x1)), some (aI (iZ x2)), some (aI (iZ x3)), some (aI (iZ x4)), u5], [aI (iZ (x2 - 1)), aR (some (59, 0, 0)), aI (iZ (x2 - 1)), aR (some (59, 0, 0))], am_hp σ, t)) rfl rfl ?_
  refine w_ial rfl (hp_59 _ 0 0) h1 rfl rfl ?_
  refine w_psh rfl zc_1 rfl ?_
  refine w_isub rfl rfl ?_
  refine w_ias rfl (mk_59 _ 0 0) h1 rfl rfl rfl ?_
  refine w_s (c' := (91, [some (aR (some (40, 0, 0))), some (aI (iZ x1)), some (aI (iZ x2)), some (aI (iZ x3)), some (aI (iZ x4)), u5], [aR (some (40, 0, 0))], am_hp ((sI σ (59, 0, 0) (up (σ.1 (59, 0, 0)) (x2 - 1).toNat ((σ.1 (59, 0, 0) (x2 - 1).toNat) - 1)))), t)) rfl rfl ?_
  refine w_get rfl (hp_40 _ 0) rfl rfl ?_
  refine w_s (c' := (95, [some (aR (some (40, 0, 0))), some (aI (iZ x1)), some (aI (iZ x2)), some (aI (iZ x3)), some (aI (iZ x4)), u5], [aI (iZ x2), aR (some (59, 0, 0))], am_hp ((sI σ (59, 0, 0) (up (σ.1 (59, 0, 0)) (x2 - 1).toNat ((σ.1 (59, 0, 0) (x2 - 1).toNat) - 1)))), t)) rfl rfl ?_
  refine w_psh rfl zc_1 rfl ?_
  refine w_isub rfl rfl ?_
  refine w_ial rfl (hp_59 _ 0 0) h1 rfl rfl ?_
  exact w_ifle rfl h2 rfl w3 w4

theorem b_X12_doesAll_101 {x1 : Int} {x2 : Int} {x3 : Int} {x4 : Int} {u5 : Option AV} {σ : SG} {t : KT} (w1 : Wp k_X12_doesAll d (106, [some (aR (some (40, 0, 0))), some (aI (iZ x1)), some (aI (iZ x2)), some (aI (iZ x3)), some (aI (iZ x4)), u5], [aI (iZ 1)], am_hp σ, t) Q) : Wp k_X12_doesAll d (101, [some (aR (some (40, 0, 0))), some (aI (iZ x1)), some (aI (iZ x2)), some (aI (iZ x3)), some (aI (iZ x4)), u5], [], am_hp σ, t) Q := by
  refine w_psh rfl zc_1 rfl ?_
  refine w_s (c' := (106, [some (aR (some (40, 0, 0))), some (aI (iZ x1)), some (aI (iZ x2)), some (aI (iZ x3)), some (aI (iZ x4)), u5], [aI (iZ 1)], am_hp σ, t)) rfl rfl ?_
  exact w1

theorem b_X12_doesAll_105 {x1 : Int} {x2 : Int} {x3 : Int} {x4 : Int} {u5 : Option AV} {σ : SG} {t : KT} (w1 : Wp k_X12_doesAll d (106, [some (aR (some (40, 0, 0))), some (aI (iZ x1)), some (aI (iZ x2)), some (aI (iZ x3)), some (aI (iZ x4)), u5], [aI (iZ 0)], am_hp σ, t) Q) : Wp k_X12_doesAll d (105, [some (aR (some (40, 0, 0))), some (aI (iZ x1)), some (aI (iZ x2)), some (aI (iZ x3)), some (aI (iZ x4)), u5], [], am_hp σ, t) Q := by
  refine w_psh rfl zc_0 rfl ?_
  exact w1

theorem b_X12_doesAll_106 {x1 : Int} {x2 : Int} {x3 : Int} {x4 : Int} {u5 : Option AV} {xs0 : Int} {σ : SG} {t : KT} (h1 : -2147483648 ≤ xs0 ∧ xs0 < 2147483648) (w2 : xs0 = 0 → Wp k_X12_doesAll d (126, [some (aR (some (40, 0, 0))), some (aI (iZ x1)), some (aI (iZ x2)), some (aI (iZ x3)), some (aI (iZ x4)), some (aI (iZ xs0))], [], am_hp σ, t) Q) (w3 : xs0 ≠ 0 → Wp k_X12_doesAll d (113, [some (aR (some (40, 0, 0))), some (aI (iZ x1)), some (aI (iZ x2)), some (aI (iZ x3)), some (aI (iZ x4)), some (aI (iZ xs0))], [], am_hp σ, t) Q) : Wp k_X12_doesAll d (106, [some (aR (some (40, 0, 0))), some (aI (iZ x1)), some (aI (iZ x2)), some (aI (iZ x3)), some (aI (iZ x4)), u5], [aI (iZ xs0)], am_hp σ, t) Q := by
  refine w_s (c' := (108, [some (aR (some (40, 0, 0))), some (aI (iZ x1)), some (aI (iZ x2)), some (aI (iZ x3)), some (aI (iZ x4)), some (aI (iZ xs0))], [], am_hp σ, t)) rfl rfl ?_
  refine w_s (c' := (110, [some (aR (some (40, 0, 0))), some (aI (iZ x1)), some (aI (iZ x2)), some (aI (iZ x3)), some (aI (iZ x4)), some (aI (iZ xs0))], [aI (iZ xs0)], am_hp σ, t)) rfl rfl ?_
  exact w_ifeq rfl h1 rfl w2 w3

theorem b_X12_doesAll_113 {x1 : Int} {x2 : Int} {x3 : Int} {x4 : Int} {x5 : Int} {σ : SG} {t : KT} (h1 : 0 ≤ x2 - 1 ∧ x2 - 1 < 2) (w2 : Wp k_X12_doesAll d (129, [some (aR (some (40, 0, 0))), some (aI (iZ x1)), some (aI (iZ x2)), some (aI (iZ x3)), some (aI (iZ x4)), some (aI (iZ x5))], [aI (iZ ((σ.1 (58, 0, 0) (x2 - 1).toNat) + 1))], am_hp σ, t) Q) : Wp k_X12_doesAll d (113, [some (aR (some (40, 0, 0))), some (aI (iZ x1)), some (aI (iZ x2)), some (aI (iZ x3)), some (aI (iZ x4)), some (aI (iZ x5))], [], am_hp σ, t) Q := by
  refine w_s (c' := (114, [some (aR (some (40, 0, 0))), some (aI (iZ x1)), some (aI (iZ x2)), some (aI (iZ x3)), some (aI (iZ x4)), some (aI (iZ x5))], [aR (some (40, 0, 0))], am_hp σ, t)) rfl rfl ?_
  refine w_get rfl (hp_40 _ 0) rfl rfl ?_
  refine w_s (c' := (118, [some (aR (some (40, 0, 0))), some (aI (iZ x1)), some (aI (iZ x2)), some (aI (iZ x3)), some (aI (iZ x4)), some (aI (iZ x5))], [aI (iZ x2), aR (some (58, 0, 0))], am_hp σ, t)) rfl rfl ?_
  refine w_psh rfl zc_1 rfl ?_
  refine w_isub rfl rfl ?_
  refine w_ial rfl (hp_58 _ 0 0) h1 rfl rfl ?_
  refine w_psh rfl zc_1 rfl ?_
  refine w_iadd rfl rfl ?_
  refine w_s (c' := (129, [some (aR (some (40, 0, 0))), some (aI (iZ x1)), some (aI (iZ x2)), some (aI (iZ x3)), some (aI (iZ x4)), some (aI (iZ x5))], [aI (iZ ((σ.1 (58, 0, 0) (x2 - 1).toNat) + 1))], am_hp σ, t)) rfl rfl ?_
  exact w2

theorem b_X12_doesAll_126 {x1 : Int} {x2 : Int} {x3 : Int} {x4 : Int} {x5 : Int} {σ : SG} {t : KT} (w1 : Wp k_X12_doesAll d (129, [some (aR (some (40, 0, 0))), some (aI (iZ x1)), some (aI (iZ x2)), some (aI (iZ x3)), some (aI (iZ x4)), some (aI (iZ x5))], [aI (iZ (x3 + 1))], am_hp σ, t) Q) : Wp k_X12_doesAll d (126, [some (aR (some (40, 0, 0))), some (aI (iZ x1)), some (aI (iZ x2)), some (aI (iZ x3)), some (aI (iZ x4)), some (aI (iZ x5))], [], am_hp σ, t) Q := by
  refine w_s (c' := (127, [some (aR (some (40, 0, 0))), some (aI (iZ x1)), some (aI (iZ x2)), some (aI (iZ x3)), some (aI (iZ x4)), some (aI (iZ x5))], [aI (iZ x3)], am_hp σ, t)) rfl rfl ?_
  refine w_psh rfl zc_1 rfl ?_
  refine w_iadd rfl rfl ?_
  exact w1

theorem b_X12_doesAll_129 {x1 : Int} {x2 : Int} {x3 : Int} {x4 : Int} {x5 : Int} {xs0 : Int} {σ : SG} {t : KT} (h1 : -2147483648 ≤ x5 ∧ x5 < 2147483648) (w2 : x5 ≠ 0 → Wp k_X12_doesAll d (140, [some (aR (some (40, 0, 0))), some (aI (iZ x1)), some (aI (iZ x2)), some (aI (iZ xs0)), some (aI (iZ x4)), some (aI (iZ x5))], [aI (iZ x2)], am_hp σ, t) Q) (w3 : x5 = 0 → Wp k_X12_doesAll d (136, [some (aR (some (40, 0, 0))), some (aI (iZ x1)), some (aI (iZ x2)), some (aI (iZ xs0)), some (aI (iZ x4)), some (aI (iZ x5))], [aI (iZ x2)], am_hp σ, t) Q) : Wp k_X12_doesAll d (129, [some (aR (some (40, 0, 0))), some (aI (iZ x1)), some (aI (iZ x2)), some (aI (iZ x3)), some (aI (iZ x4)), some (aI (iZ x5))], [aI (iZ xs0)], am_hp σ, t) Q := by
  refine w_s (c' := (130, [some (aR (some (40, 0, 0))), some (aI (iZ x1)), some (aI (iZ x2)), some (aI (iZ xs0)), some (aI (iZ x4)), some (aI (iZ x5))], [], am_hp σ, t)) rfl rfl ?_
  refine w_s (c' := (131, [some (aR (some (40, 0, 0))), some (aI (iZ x1)), some (aI (iZ x2)), some (aI (iZ xs0)), some (aI (iZ x4)), some (aI (iZ x5))], [aI (iZ x2)], am_hp σ, t)) rfl rfl ?_
  refine w_s (c' := (133, [some (aR (some (40, 0, 0))), some (aI (iZ x1)), some (aI (iZ x2)), some (aI (iZ xs0)), some (aI (iZ x4)), some (aI (iZ x5))], [aI (iZ x5), aI (iZ x2)], am_hp σ, t)) rfl rfl ?_
  exact w_ifne rfl h1 rfl w2 w3

theorem b_X12_doesAll_136 {x1 : Int} {x2 : Int} {x3 : Int} {x4 : Int} {x5 : Int} {xs0 : Int} {σ : SG} {t : KT} (w1 : Wp k_X12_doesAll d (141, [some (aR (some (40, 0, 0))), some (aI (iZ x1)), some (aI (iZ x2)), some (aI (iZ x3)), some (aI (iZ x4)), some (aI (iZ x5))], [aI (iZ 1), aI (iZ xs0)], am_hp σ, t) Q) : Wp k_X12_doesAll d (136, [some (aR (some (40, 0, 0))), some (aI (iZ x1)), some (aI (iZ x2)), some (aI (iZ x3)), some (aI (iZ x4)), some (aI (iZ x5))], [aI (iZ xs0)], am_hp σ, t) Q := by
  refine w_psh rfl zc_1 rfl ?_
  refine w_s (c' := (141, [some (aR (some (40, 0, 0))), some (aI (iZ x1)), some (aI (iZ x2)), some (aI (iZ x3)), some (aI (iZ x4)), some (aI (iZ x5))], [aI (iZ 1), aI (iZ xs0)], am_hp σ, t)) rfl rfl ?_
  exact w1

theorem b_X12_doesAll_140 {x1 : Int} {x2 : Int} {x3 : Int} {x4 : Int} {x5 : Int} {xs0 : Int} {σ : SG} {t : KT} (w1 : Wp k_X12_doesAll d (141, [some (aR (some (40, 0, 0))), some (aI (iZ x1)), some (aI (iZ x2)), some (aI (iZ x3)), some (aI (iZ x4)), some (aI (iZ x5))], [aI (iZ 0), aI (iZ xs0)], am_hp σ, t) Q) : Wp k_X12_doesAll d (140, [some (aR (some (40, 0, 0))), some (aI (iZ x1)), some (aI (iZ x2)), some (aI (iZ x3)), some (aI (iZ x4)), some (aI (iZ x5))], [aI (iZ xs0)], am_hp σ, t) Q := by
  refine w_psh rfl zc_0 rfl ?_
  exact w1

theorem b_X12_doesAll_141 {x1 : Int} {x2 : Int} {x3 : Int} {x4 : Int} {x5 : Int} {xs0 : Int} {xs1 : Int} {r1 : Int} {σ σ1 : SG} {t : KT} (c1 : Ca d 176 [aI (iZ xs0)] (am_hp σ) t (.inl (some (aI (iZ r1))), am_hp σ1, t)) (w2 : Wp k_X12_doesAll d (9, [some (aR (some (40, 0, 0))), some (aI (iZ x1)), some (aI (iZ (xs1 - r1))), some (aI (iZ x3)), some (aI (iZ x4)), some (aI (iZ x5))], [], am_hp σ1, t) Q) : Wp k_X12_doesAll d (141, [some (aR (some (40, 0, 0))), some (aI (iZ x1)), some (aI (iZ x2)), some (aI (iZ x3)), some (aI (iZ x4)), some (aI (iZ x5))], [aI (iZ xs0), aI (iZ xs1)], am_hp σ, t) Q := by
  refine w_c0 (c' := (144, [some (aR (some (40, 0, 0))), some (aI (iZ x1)), some (aI (iZ x2)), some (aI (iZ x3)), some (aI (iZ x4)), some (aI (iZ x5))], [aI (iZ r1), aI (iZ xs1)], am_hp σ1, t)) rfl rfl rfl rfl c1 (Nat.le_refl _) rfl ?_
  refine w_isub rfl rfl ?_
  refine w_s (c' := (146, [some (aR (some (40, 0, 0))), some (aI (iZ x1)), some (aI (iZ (xs1 - r1))), some (aI (iZ x3)), some (aI (iZ x4)), some (aI (iZ x5))], [], am_hp σ1, t)) rfl rfl ?_
  refine w_s (c' := (9, [some (aR (some (40, 0, 0))), some (aI (iZ x1)), some (aI (iZ (xs1 - r1))), some (aI (iZ x3)), some (aI (iZ x4)), some (aI (iZ x5))], [], am_hp σ1, t)) rfl rfl ?_
  exact w2

theorem b_X12_doesAll_149 {x1 : Int} {x2 : Int} {x3 : Int} {x4 : Int} {u5 : Option AV} {r1 : Int} {σ σ1 : SG} {t : KT} (c1 : Ca d 328 [aR (some (40, 0, 0)), aI (iZ x3)] (am_hp σ) t (.inl (some (aI (iZ r1))), am_hp σ1, t)) (h2 : -2147483648 ≤ r1 ∧ r1 < 2147483648) (w3 : r1 = 0 → Wp k_X12_doesAll d (166, [some (aR (some (40, 0, 0))), some (aI (iZ x1)), some (aI (iZ x2)), some (aI (iZ x3)), some (aI (iZ r1)), u5], [], am_hp σ1, t) Q) (w4 : r1 ≠ 0 → Wp k_X12_doesAll d (161, [some (aR (some (40, 0, 0))), some (aI (iZ x1)), some (aI (iZ x2)), some (aI (iZ x3)), some (aI (iZ r1)), u5], [], am_hp σ1, t) Q) : Wp k_X12_doesAll d (149, [some (aR (some (40, 0, 0))), some (aI (iZ x1)), some (aI (iZ x2)), some (aI (iZ x3)), some (aI (iZ x4)), u5], [], am_hp σ, t) Q := by
  refine w_s (c' := (150, [some (aR (some (40, 0, 0))), some (aI (iZ x1)), some (aI (iZ x2)), some (aI (iZ x3)), some (aI (iZ x4)), u5], [aR (some (40, 0, 0))], am_hp σ, t)) rfl rfl ?_
  refine w_s (c' := (151, [some (aR (some (40, 0, 0))), some (aI (iZ x1)), some (aI (iZ x2)), some (aI (iZ x3)), some (aI (iZ x4)), u5], [aI (iZ x3), aR (some (40, 0, 0))], am_hp σ, t)) rfl rfl ?_
  refine w_c0 (c' := (154, [some (aR (some (40, 0, 0))), some (aI (iZ x1)), some (aI (iZ x2)), some (aI (iZ x3)), some (aI (iZ x4)), u5], [aI (iZ r1)], am_hp σ1, t)) rfl rfl (rcv_of (hp_40 _ 0)) rfl c1 (Nat.le_refl _) rfl ?_
  refine w_s (c' := (156, [some (aR (some (40, 0, 0))), some (aI (iZ x1)), some (aI (iZ x2)), some (aI (iZ x3)), some (aI (iZ r1)), u5], [], am_hp σ1, t)) rfl rfl ?_
  refine w_s (c' := (158, [some (aR (some (40, 0, 0))), some (aI (iZ x1)), some (aI (iZ x2)), some (aI (iZ x3)), some (aI (iZ r1)), u5], [aI (iZ r1)], am_hp σ1, t)) rfl rfl ?_
  exact w_ifeq rfl h2 rfl w3 w4

theorem b_X12_doesAll_161 {x1 : Int} {x2 : Int} {x3 : Int} {x4 : Int} {u5 : Option AV} {σ σ1 : SG} {t : KT} (c1 : Ca d 327 [aR (some (40, 0, 0)), aI (iZ x3)] (am_hp σ) t (.inl none, am_hp σ1, t)) (w2 : Wp k_X12_doesAll d (166, [some (aR (some (40, 0, 0))), some (aI (iZ x1)), some (aI (iZ x2)), some (aI (iZ x3)), some (aI (iZ x4)), u5], [], am_hp σ1, t) Q) : Wp k_X12_doesAll d (161, [some (aR (some (40, 0, 0))), some (aI (iZ x1)), some (aI (iZ x2)), some (aI (iZ x3)), some (aI (iZ x4)), u5], [], am_hp σ, t) Q := by
  refine w_s (c' := (162, [some (aR (some (40, 0, 0))), some (aI (iZ x1)), some (aI (iZ x2)), some (aI (iZ x3)), some (aI (iZ x4)), u5], [aR (some (40, 0, 0))], am_hp σ, t)) rfl rfl ?_
  refine w_s (c' := (163, [some (aR (some (40, 0, 0))), some (aI (iZ x1)), some (aI (iZ x2)), some (aI (iZ x3)), some (aI (iZ x4)), u5], [aI (iZ x3), aR (some (40, 0, 0))], am_hp σ, t)) rfl rfl ?_
  refine w_c0 (c' := (166, [some (aR (some (40, 0, 0))), some (aI (iZ x1)), some (aI (iZ x2)), some (aI (iZ x3)), some (aI (iZ x4)), u5], [], am_hp σ1, t)) rfl rfl (rcv_of (hp_40 _ 0)) rfl c1 (Nat.le_refl _) rfl ?_
  exact w2

theorem b_X12_doesAll_166 {x1 : Int} {x2 : Int} {x3 : Int} {x4 : Int} {u5 : Option AV} {r1 : Int} {σ σ1 : SG} {t : KT} (c1 : Ca d 176 [aI (iZ x4)] (am_hp σ) t (.inl (some (aI (iZ r1))), am_hp σ1, t)) (w2 : Wp k_X12_doesAll d (9, [some (aR (some (40, 0, 0))), some (aI (iZ (x1 + r1))), some (aI (iZ x2)), some (aI (iZ (x3 + 1))), some (aI (iZ x4)), u5], [], am_hp σ1, t) Q) : Wp k_X12_doesAll d (166, [some (aR (some (40, 0, 0))), some (aI (iZ x1)), some (aI (iZ x2)), some (aI (iZ x3)), some (aI (iZ x4)), u5], [], am_hp σ, t) Q := by
  refine w_s (c' := (167, [some (aR (some (40, 0, 0))), some (aI (iZ x1)), some (aI (iZ x2)), some (aI (iZ x3)), some (aI (iZ x4)), u5], [aI (iZ x1)], am_hp σ, t)) rfl rfl ?_
  refine w_s (c' := (169, [some (aR (some (40, 0, 0))), some (aI (iZ x1)), some (aI (iZ x2)), some (aI (iZ x3)), some (aI (iZ x4)), u5], [aI (iZ x4), aI (iZ x1)], am_hp σ, t)) rfl rfl ?_
  refine w_c0 (c' := (172, [some (aR (some (40, 0, 0))), some (aI (iZ x1)), some (aI (iZ x2)), some (aI (iZ x3)), some (aI (iZ x4)), u5], [aI (iZ r1), aI (iZ x1)], am_hp σ1, t)) rfl rfl rfl rfl c1 (Nat.le_refl _) rfl ?_
  refine w_iadd rfl rfl ?_
  refine w_s (c' := (174, [some (aR (some (40, 0, 0))), some (aI (iZ (x1 + r1))), some (aI (iZ x2)), some (aI (iZ x3)), some (aI (iZ x4)), u5], [], am_hp σ1, t)) rfl rfl ?_
  refine w_inc (a := x3) (ls' := [some (aR (some (40, 0, 0))), some (aI (iZ (x1 + r1))), some (aI (iZ x2)), some (aI (iZ (x3 + 1))), some (aI (iZ x4)), u5]) rfl rfl rfl zc_1 rfl rfl ?_
  refine w_s (c' := (9, [some (aR (some (40, 0, 0))), some (aI (iZ (x1 + r1))), some (aI (iZ x2)), some (aI (iZ (x3 + 1))), some (aI (iZ x4)), u5], [], am_hp σ1, t)) rfl rfl ?_
  exact w2

theorem b_X12_doesAll_180 {x1 : Int} {x2 : Int} {x3 : Int} {x4 : Int} {u5 : Option AV} {σ : SG} {t : KT} (q1 : Q (.inl (some (aI (iZ x1))), am_hp σ, t)) : Wp k_X12_doesAll d (180, [some (aR (some (40, 0, 0))), some (aI (iZ x1)), some (aI (iZ x2)), some (aI (iZ x3)), some (aI (iZ x4)), u5], [], am_hp σ, t) Q := by
  refine w_s (c' := (181, [some (aR (some (40, 0, 0))), some (aI (iZ x1)), some (aI (iZ x2)), some (aI (iZ x3)), some (aI (iZ x4)), u5], [aI (iZ x1)], am_hp σ, t)) rfl rfl ?_
  exact w_ret rfl rfl q1

theorem b_X12_tell_0 {x1 : Int} {σ : SG} {t : KT} (h1 : 0 ≤ σ.1 (40, 0, 0) 47 ∧ σ.1 (40, 0, 0) 47 < 1200) (q2 : Q (.inl none, am_hp ((sI (sI σ (62, 0, 0) (up (σ.1 (62, 0, 0)) (σ.1 (40, 0, 0) 47).toNat x1)) (40, 0, 0) (up (((sI σ (62, 0, 0) (up (σ.1 (62, 0, 0)) (σ.1 (40, 0, 0) 47).toNat x1))).1 (40, 0, 0)) 47 ((((sI σ (62, 0, 0) (up (σ.1 (62, 0, 0)) (σ.1 (40, 0, 0) 47).toNat x1))).1 (40, 0, 0) 47) + 1)))), t)) : Wp k_X12_tell d (0, [some (aR (some (40, 0, 0))), some (aI (iZ x1))], [], am_hp σ, t) Q := by
  refine w_s (c' := (1, [some (aR (some (40, 0, 0))), some (aI (iZ x1))], [aR (some (40, 0, 0))], am_hp σ, t)) rfl rfl ?_
  refine w_get rfl (hp_40 _ 0) rfl rfl ?_
  refine w_s (c' := (5, [some (aR (some (40, 0, 0))), some (aI (iZ x1))], [aR (some (40, 0, 0)), aR (some (62, 0, 0))], am_hp σ, t)) rfl rfl ?_
  refine w_get rfl (hp_40 _ 0) rfl rfl ?_
  refine w_s (c' := (9, [some (aR (some (40, 0, 0))), some (aI (iZ x1))], [aI (iZ x1), aI (iZ (σ.1 (40, 0, 0) 47)), aR (some (62, 0, 0))], am_hp σ, t)) rfl rfl ?_
  refine w_ias rfl (mk_62 _ 0 0) h1 rfl rfl rfl ?_
  refine w_s (c' := (11, [some (aR (some (40, 0, 0))), some (aI (iZ x1))], [aR (some (40, 0, 0))], am_hp ((sI σ (62, 0, 0) (up (σ.1 (62, 0, 0)) (σ.1 (40, 0, 0) 47).toNat x1))), t)) rfl rfl ?_
  refine w_s (c' := (12, [some (aR (some (40, 0, 0))), some (aI (iZ x1))], [aR (some (40, 0, 0)), aR (some (40, 0, 0))], am_hp ((sI σ (62, 0, 0) (up (σ.1 (62, 0, 0)) (σ.1 (40, 0, 0) 47).toNat x1))), t)) rfl rfl ?_
  refine w_get rfl (hp_40 _ 0) rfl rfl ?_
  refine w_psh rfl zc_1 rfl ?_
  refine w_iadd rfl rfl ?_
  refine w_putI rfl (hp_40 _ 0) rfl rfl rfl ?_
  exact w_f rfl rfl q2

theorem e_X12_tell {x1 : Int} {h : AH} {t : KT} {d : Nat} {P : RS → Prop} (w : Wp k_X12_tell d (0, [some (aR (some (40, 0, 0))), some (aI (iZ x1))], [], h, t) P) : ∃ r, Ca (d + 1) 331 [aR (some (40, 0, 0)), aI (iZ x1)] h t r ∧ P r := ca_W rfl rfl rfl rfl w

theorem b_X12_tellNumber_0 {x1 : Int} {σ : SG} {t : KT} (w1 : Wp k_X12_tellNumber d (2, [some (aR (some (40, 0, 0))), some (aI (iZ x1)), some (aI (iZ 1))], [], am_hp σ, t) Q) : Wp k_X12_tellNumber d (0, [some (aR (some (40, 0, 0))), some (aI (iZ x1)), none], [], am_hp σ, t) Q := by
  refine w_psh rfl zc_1 rfl ?_
  refine w_s (c' := (2, [some (aR (some (40, 0, 0))), some (aI (iZ x1)), some (aI (iZ 1))], [], am_hp σ, t)) rfl rfl ?_
  exact w1

theorem e_X12_tellNumber {x1 : Int} {h : AH} {t : KT} {d : Nat} {P : RS → Prop} (w : Wp k_X12_tellNumber d (0, [some (aR (some (40, 0, 0))), some (aI (iZ x1)), none], [], h, t) P) : ∃ r, Ca (d + 1) 332 [aR (some (40, 0, 0)), aI (iZ x1)] h t r ∧ P r := ca_W rfl rfl rfl rfl w

theorem b_X12_tellNumber_2 {x1 : Int} {x2 : Int} {σ : SG} {t : KT} (h1 : -2147483648 ≤ x2 ∧ x2 < 2147483648 ∧ x2 ≠ 0) (h2 : -2147483648 ≤ zdiv x1 x2 ∧ zdiv x1 x2 < 2147483648) (w3 : zdiv x1 x2 ≤ 9 → Wp k_X12_tellNumber d (18, [some (aR (some (40, 0, 0))), some (aI (iZ x1)), some (aI (iZ x2))], [], am_hp σ, t) Q) (w4 : 9 < zdiv x1 x2 → Wp k_X12_tellNumber d (10, [some (aR (some (40, 0, 0))), some (aI (iZ x1)), some (aI (iZ x2))], [], am_hp σ, t) Q) : Wp k_X12_tellNumber d (2, [some (aR (some (40, 0, 0))), some (aI (iZ x1)), some (aI (iZ x2))], [], am_hp σ, t) Q := by
  refine w_s (c' := (3, [some (aR (some (40, 0, 0))), some (aI (iZ x1)), some (aI (iZ x2))], [aI (iZ x1)], am_hp σ, t)) rfl rfl ?_
  refine w_s (c' := (4, [some (aR (some (40, 0, 0))), some (aI (iZ x1)), some (aI (iZ x2))], [aI (iZ x2), aI (iZ x1)], am_hp σ, t)) rfl rfl ?_
  refine w_idiv rfl rfl h1 ?_
  refine w_psh rfl zc_9 rfl ?_
  exact w_icle rfl h2 (by decide) rfl w3 w4

theorem b_X12_tellNumber_10 {x1 : Int} {x2 : Int} {σ : SG} {t : KT} (w1 : Wp k_X12_tellNumber d (2, [some (aR (some (40, 0, 0))), some (aI (iZ x1)), some (aI (iZ (x2 * 10)))], [], am_hp σ, t) Q) : Wp k_X12_tellNumber d (10, [some (aR (some (40, 0, 0))), some (aI (iZ x1)), some (aI (iZ x2))], [], am_hp σ, t) Q := by
  refine w_s (c' := (11, [some (aR (some (40, 0, 0))), some (aI (iZ x1)), some (aI (iZ x2))], [aI (iZ x2)], am_hp σ, t)) rfl rfl ?_
  refine w_psh rfl zc_10 rfl ?_
  refine w_imul rfl rfl ?_
  refine w_s (c' := (15, [some (aR (some (40, 0, 0))), some (aI (iZ x1)), some (aI (iZ (x2 * 10)))], [], am_hp σ, t)) rfl rfl ?_
  refine w_s (c' := (2, [some (aR (some (40, 0, 0))), some (aI (iZ x1)), some (aI (iZ (x2 * 10)))], [], am_hp σ, t)) rfl rfl ?_
  exact w1

theorem b_X12_tellNumber_18 {x1 : Int} {x2 : Int} {σ : SG} {t : KT} (h1 : -2147483648 ≤ x2 ∧ x2 < 2147483648) (w2 : x2 ≤ 0 → Wp k_X12_tellNumber d (43, [some (aR (some (40, 0, 0))), some (aI (iZ x1)), some (aI (iZ x2))], [], am_hp σ, t) Q) (w3 : 0 < x2 → Wp k_X12_tellNumber d (22, [some (aR (some (40, 0, 0))), some (aI (iZ x1)), some (aI (iZ x2))], [], am_hp σ, t) Q) : Wp k_X12_tellNumber d (18, [some (aR (some (40, 0, 0))), some (aI (iZ x1)), some (aI (iZ x2))], [], am_hp σ, t) Q := by
  refine w_s (c' := (19, [some (aR (some (40, 0, 0))), some (aI (iZ x1)), some (aI (iZ x2))], [aI (iZ x2)], am_hp σ, t)) rfl rfl ?_
  exact w_ifle rfl h1 rfl w2 w3

theorem b_X12_tellNumber_22 {x1 : Int} {x2 : Int} {σ σ1 : SG} {t : KT} (h1 : -2147483648 ≤ x2 ∧ x2 < 2147483648 ∧ x2 ≠ 0) (c2 : Ca d 331 [aR (some (40, 0, 0)), aI (iZ (48 + (zrem (zdiv x1 x2) 10)))] (am_hp σ) t (.inl none, am_hp σ1, t)) (w3 : Wp k_X12_tellNumber d (18, [some (aR (some (40, 0, 0))), some (aI (iZ x1)), some (aI (iZ (zdiv x2 10)))], [], am_hp σ1, t) Q) : Wp k_X12_tellNumber d (22, [some (aR (some (40, 0, 0))), some (aI (iZ x1)), some (aI (iZ x2))], [], am_hp σ, t) Q := by
  refine w_s (c' := (23, [some (aR (some (40, 0, 0))), some (aI (iZ x1)), some (aI (iZ x2))], [aR (some (40, 0, 0))], am_hp σ, t)) rfl rfl ?_
  refine w_psh rfl zc_48 rfl ?_
  refine w_s (c' := (26, [some (aR (some (40, 0, 0))), some (aI (iZ x1)), some (aI (iZ x2))], [aI (iZ x1), aI (iZ 48), aR (some (40, 0, 0))], am_hp σ, t)) rfl rfl ?_
  refine w_s (c' := (27, [some (aR (some (40, 0, 0))), some (aI (iZ x1)), some (aI (iZ x2))], [aI (iZ x2), aI (iZ x1), aI (iZ 48), aR (some (40, 0, 0))], am_hp σ, t)) rfl rfl ?_
  refine w_idiv rfl rfl h1 ?_
  refine w_psh rfl zc_10 rfl ?_
  refine w_irem rfl rfl (by decide) ?_
  refine w_iadd rfl rfl ?_
  refine w_c0 (c' := (35, [some (aR (some (40, 0, 0))), some (aI (iZ x1)), some (aI (iZ x2))], [], am_hp σ1, t)) rfl rfl (rcv_of (hp_40 _ 0)) rfl c2 (Nat.le_refl _) rfl ?_
  refine w_s (c' := (36, [some (aR (some (40, 0, 0))), some (aI (iZ x1)), some (aI (iZ x2))], [aI (iZ x2)], am_hp σ1, t)) rfl rfl ?_
  refine w_psh rfl zc_10 rfl ?_
  refine w_idiv rfl rfl (by decide) ?_
  refine w_s (c' := (40, [some (aR (some (40, 0, 0))), some (aI (iZ x1)), some (aI (iZ (zdiv x2 10)))], [], am_hp σ1, t)) rfl rfl ?_
  refine w_s (c' := (18, [some (aR (some (40, 0, 0))), some (aI (iZ x1)), some (aI (iZ (zdiv x2 10)))], [], am_hp σ1, t)) rfl rfl ?_
  exact w3

theorem b_X12_tellNumber_43 {x1 : Int} {x2 : Int} {σ : SG} {t : KT} (q1 : Q (.inl none, am_hp σ, t)) : Wp k_X12_tellNumber d (43, [some (aR (some (40, 0, 0))), some (aI (iZ x1)), some (aI (iZ x2))], [], am_hp σ, t) Q := by
  exact w_f rfl rfl q1

theorem b_X12_tellWord_0 {x1 : Int} {σ σ1 σ2 : SG} {t : KT} (h1 : 0 ≤ x1 ∧ x1 < 120) (c2 : Ca d 331 [aR (some (40, 0, 0)), aI (iZ (48 + (σ.1 (51, 0, 0) x1.toNat)))] (am_hp σ) t (.inl none, am_hp σ1, t)) (c3 : Ca d 331 [aR (some (40, 0, 0)), aI (iZ 40)] (am_hp σ1) t (.inl none, am_hp σ2, t)) (h4 : 0 ≤ x1 ∧ x1 < 121) (w5 : Wp k_X12_tellWord d (26, [some (aR (some (40, 0, 0))), some (aI (iZ x1)), some (aI (iZ (σ2.1 (52, 0, 0) x1.toNat)))], [], am_hp σ2, t) Q) : Wp k_X12_tellWord d (0, [some (aR (some (40, 0, 0))), some (aI (iZ x1)), none], [], am_hp σ, t) Q := by
  refine w_s (c' := (1, [some (aR (some (40, 0, 0))), some (aI (iZ x1)), none], [aR (some (40, 0, 0))], am_hp σ, t)) rfl rfl ?_
  refine w_psh rfl zc_48 rfl ?_
  refine w_s (c' := (4, [some (aR (some (40, 0, 0))), some (aI (iZ x1)), none], [aR (some (40, 0, 0)), aI (iZ 48), aR (some (40, 0, 0))], am_hp σ, t)) rfl rfl ?_
  refine w_get rfl (hp_40 _ 0) rfl rfl ?_
  refine w_s (c' := (8, [some (aR (some (40, 0, 0))), some (aI (iZ x1)), none], [aI (iZ x1), aR (some (51, 0, 0)), aI (iZ 48), aR (some (40, 0, 0))], am_hp σ, t)) rfl rfl ?_
  refine w_ial rfl (hp_51 _ 0 0) h1 rfl rfl ?_
  refine w_iadd rfl rfl ?_
  refine w_c0 (c' := (13, [some (aR (some (40, 0, 0))), some (aI (iZ x1)), none], [], am_hp σ1, t)) rfl rfl (rcv_of (hp_40 _ 0)) rfl c2 (Nat.le_refl _) rfl ?_
  refine w_s (c' := (14, [some (aR (some (40, 0, 0))), some (aI (iZ x1)), none], [aR (some (40, 0, 0))], am_hp σ1, t)) rfl rfl ?_
  refine w_psh rfl zc_40 rfl ?_
  refine w_c0 (c' := (19, [some (aR (some (40, 0, 0))), some (aI (iZ x1)), none], [], am_hp σ2, t)) rfl rfl (rcv_of (hp_40 _ 0)) rfl c3 (Nat.le_refl _) rfl ?_
  refine w_s (c' := (20, [some (aR (some (40, 0, 0))), some (aI (iZ x1)), none], [aR (some (40, 0, 0))], am_hp σ2, t)) rfl rfl ?_
  refine w_get rfl (hp_40 _ 0) rfl rfl ?_
  refine w_s (c' := (24, [some (aR (some (40, 0, 0))), some (aI (iZ x1)), none], [aI (iZ x1), aR (some (52, 0, 0))], am_hp σ2, t)) rfl rfl ?_
  refine w_ial rfl (hp_52 _ 0 0) h4 rfl rfl ?_
  refine w_s (c' := (26, [some (aR (some (40, 0, 0))), some (aI (iZ x1)), some (aI (iZ (σ2.1 (52, 0, 0) x1.toNat)))], [], am_hp σ2, t)) rfl rfl ?_
  exact w5

theorem e_X12_tellWord {x1 : Int} {h : AH} {t : KT} {d : Nat} {P : RS → Prop} (w : Wp k_X12_tellWord d (0, [some (aR (some (40, 0, 0))), some (aI (iZ x1)), none], [], h, t) P) : ∃ r, Ca (d + 1) 333 [aR (some (40, 0, 0)), aI (iZ x1)] h t r ∧ P r := ca_W rfl rfl rfl rfl w

theorem b_X12_tellWord_26 {x1 : Int} {x2 : Int} {σ : SG} {t : KT} (h1 : 0 ≤ x1 + 1 ∧ x1 + 1 < 121) (h2 : -2147483648 ≤ x2 ∧ x2 < 2147483648) (h3 : -2147483648 ≤ σ.1 (52, 0, 0) (x1 + 1).toNat ∧ σ.1 (52, 0, 0) (x1 + 1).toNat < 2147483648) (w4 : σ.1 (52, 0, 0) (x1 + 1).toNat ≤ x2 → Wp k_X12_tellWord d (70, [some (aR (some (40, 0, 0))), some (aI (iZ x1)), some (aI (iZ x2))], [], am_hp σ, t) Q) (w5 : x2 < σ.1 (52, 0, 0) (x1 + 1).toNat → Wp k_X12_tellWord d (38, [some (aR (some (40, 0, 0))), some (aI (iZ x1)), some (aI (iZ x2))], [], am_hp σ, t) Q) : Wp k_X12_tellWord d (26, [some (aR (some (40, 0, 0))), some (aI (iZ x1)), some (aI (iZ x2))], [], am_hp σ, t) Q := by
  refine w_s (c' := (27, [some (aR (some (40, 0, 0))), some (aI (iZ x1)), some (aI (iZ x2))], [aI (iZ x2)], am_hp σ, t)) rfl rfl ?_
  refine w_s (c' := (28, [some (aR (some (40, 0, 0))), some (aI (iZ x1)), some (aI (iZ x2))], [aR (some (40, 0, 0)), aI (iZ x2)], am_hp σ, t)) rfl rfl ?_
  refine w_get rfl (hp_40 _ 0) rfl rfl ?_
  refine w_s (c' := (32, [some (aR (some (40, 0, 0))), some (aI (iZ x1)), some (aI (iZ x2))], [aI (iZ x1), aR (some (52, 0, 0)), aI (iZ x2)], am_hp σ, t)) rfl rfl ?_
  refine w_psh rfl zc_1 rfl ?_
  refine w_iadd rfl rfl ?_
  refine w_ial rfl (hp_52 _ 0 0) h1 rfl rfl ?_
  exact w_icge rfl h2 h3 rfl w4 w5

theorem b_X12_tellWord_38 {x1 : Int} {x2 : Int} {σ : SG} {t : KT} (h1 : 0 ≤ x1 ∧ x1 < 121) (h2 : -2147483648 ≤ x2 ∧ x2 < 2147483648) (h3 : -2147483648 ≤ σ.1 (52, 0, 0) x1.toNat ∧ σ.1 (52, 0, 0) x1.toNat < 2147483648) (w4 : x2 ≤ σ.1 (52, 0, 0) x1.toNat → Wp k_X12_tellWord d (54, [some (aR (some (40, 0, 0))), some (aI (iZ x1)), some (aI (iZ x2))], [], am_hp σ, t) Q) (w5 : σ.1 (52, 0, 0) x1.toNat < x2 → Wp k_X12_tellWord d (48, [some (aR (some (40, 0, 0))), some (aI (iZ x1)), some (aI (iZ x2))], [], am_hp σ, t) Q) : Wp k_X12_tellWord d (38, [some (aR (some (40, 0, 0))), some (aI (iZ x1)), some (aI (iZ x2))], [], am_hp σ, t) Q := by
  refine w_s (c' := (39, [some (aR (some (40, 0, 0))), some (aI (iZ x1)), some (aI (iZ x2))], [aI (iZ x2)], am_hp σ, t)) rfl rfl ?_
  refine w_s (c' := (40, [some (aR (some (40, 0, 0))), some (aI (iZ x1)), some (aI (iZ x2))], [aR (some (40, 0, 0)), aI (iZ x2)], am_hp σ, t)) rfl rfl ?_
  refine w_get rfl (hp_40 _ 0) rfl rfl ?_
  refine w_s (c' := (44, [some (aR (some (40, 0, 0))), some (aI (iZ x1)), some (aI (iZ x2))], [aI (iZ x1), aR (some (52, 0, 0)), aI (iZ x2)], am_hp σ, t)) rfl rfl ?_
  refine w_ial rfl (hp_52 _ 0 0) h1 rfl rfl ?_
  exact w_icle rfl h2 h3 rfl w4 w5

theorem b_X12_tellWord_48 {x1 : Int} {x2 : Int} {σ σ1 : SG} {t : KT} (c1 : Ca d 331 [aR (some (40, 0, 0)), aI (iZ 44)] (am_hp σ) t (.inl none, am_hp σ1, t)) (w2 : Wp k_X12_tellWord d (54, [some (aR (some (40, 0, 0))), some (aI (iZ x1)), some (aI (iZ x2))], [], am_hp σ1, t) Q) : Wp k_X12_tellWord d (48, [some (aR (some (40, 0, 0))), some (aI (iZ x1)), some (aI (iZ x2))], [], am_hp σ, t) Q := by
  refine w_s (c' := (49, [some (aR (some (40, 0, 0))), some (aI (iZ x1)), some (aI (iZ x2))], [aR (some (40, 0, 0))], am_hp σ, t)) rfl rfl ?_
  refine w_psh rfl zc_44 rfl ?_
  refine w_c0 (c' := (54, [some (aR (some (40, 0, 0))), some (aI (iZ x1)), some (aI (iZ x2))], [], am_hp σ1, t)) rfl rfl (rcv_of (hp_40 _ 0)) rfl c1 (Nat.le_refl _) rfl ?_
  exact w2

theorem b_X12_tellWord_54 {x1 : Int} {x2 : Int} {σ σ1 : SG} {t : KT} (h1 : 0 ≤ x2 ∧ x2 < 120) (c2 : Ca d 332 [aR (some (40, 0, 0)), aI (iZ (σ.1 (48, 0, 0) x2.toNat))] (am_hp σ) t (.inl none, am_hp σ1, t)) (w3 : Wp k_X12_tellWord d (26, [some (aR (some (40, 0, 0))), some (aI (iZ x1)), some (aI (iZ (x2 + 1)))], [], am_hp σ1, t) Q) : Wp k_X12_tellWord d (54, [some (aR (some (40, 0, 0))), some (aI (iZ x1)), some (aI (iZ x2))], [], am_hp σ, t) Q := by
  refine w_s (c' := (55, [some (aR (some (40, 0, 0))), some (aI (iZ x1)), some (aI (iZ x2))], [aR (some (40, 0, 0))], am_hp σ, t)) rfl rfl ?_
  refine w_s (c' := (56, [some (aR (some (40, 0, 0))), some (aI (iZ x1)), some (aI (iZ x2))], [aR (some (40, 0, 0)), aR (some (40, 0, 0))], am_hp σ, t)) rfl rfl ?_
  refine w_get rfl (hp_40 _ 0) rfl rfl ?_
  refine w_s (c' := (60, [some (aR (some (40, 0, 0))), some (aI (iZ x1)), some (aI (iZ x2))], [aI (iZ x2), aR (some (48, 0, 0)), aR (some (40, 0, 0))], am_hp σ, t)) rfl rfl ?_
  refine w_ial rfl (hp_48 _ 0 0) h1 rfl rfl ?_
  refine w_c0 (c' := (64, [some (aR (some (40, 0, 0))), some (aI (iZ x1)), some (aI (iZ x2))], [], am_hp σ1, t)) rfl rfl (rcv_of (hp_40 _ 0)) rfl c2 (Nat.le_refl _) rfl ?_
  refine w_inc (a := x2) (ls' := [some (aR (some (40, 0, 0))), some (aI (iZ x1)), some (aI (iZ (x2 + 1)))]) rfl rfl rfl zc_1 rfl rfl ?_
  refine w_s (c' := (26, [some (aR (some (40, 0, 0))), some (aI (iZ x1)), some (aI (iZ (x2 + 1)))], [], am_hp σ1, t)) rfl rfl ?_
  exact w3

theorem b_X12_tellWord_70 {x1 : Int} {x2 : Int} {σ σ1 : SG} {t : KT} (c1 : Ca d 331 [aR (some (40, 0, 0)), aI (iZ 41)] (am_hp σ) t (.inl none, am_hp σ1, t)) (q2 : Q (.inl none, am_hp σ1, t)) : Wp k_X12_tellWord d (70, [some (aR (some (40, 0, 0))), some (aI (iZ x1)), some (aI (iZ x2))], [], am_hp σ, t) Q := by
  refine w_s (c' := (71, [some (aR (some (40, 0, 0))), some (aI (iZ x1)), some (aI (iZ x2))], [aR (some (40, 0, 0))], am_hp σ, t)) rfl rfl ?_
  refine w_psh rfl zc_41 rfl ?_
  refine w_c0 (c' := (76, [some (aR (some (40, 0, 0))), some (aI (iZ x1)), some (aI (iZ x2))], [], am_hp σ1, t)) rfl rfl (rcv_of (hp_40 _ 0)) rfl c1 (Nat.le_refl _) rfl ?_
  exact w_f rfl rfl q2

theorem b_X12_report_0 {x1 : Int} {r1 : Int} {r2 : Int} {σ σ1 σ2 : SG} {t : KT} (c1 : Ca d 217 [aR (some (40, 0, 0)), aI (iZ x1)] (am_hp σ) t (.inl (some (aI (iZ r1))), am_hp σ1, t)) (c2 : Ca d 178 [aR (some (40, 0, 0)), aI (iZ r1)] (am_hp σ1) t (.inl (some (aI (iZ r2))), am_hp σ2, t)) (h3 : -2147483648 ≤ r2 ∧ r2 < 2147483648) (w4 : r2 ≠ 0 → Wp k_X12_report d (14, [some (aR (some (40, 0, 0))), some (aI (iZ x1)), none, none, none, none], [], am_hp σ2, t) Q) (w5 : r2 = 0 → Wp k_X12_report d (12, [some (aR (some (40, 0, 0))), some (aI (iZ x1)), none, none, none, none], [], am_hp σ2, t) Q) : Wp k_X12_report d (0, [some (aR (some (40, 0, 0))), some (aI (iZ x1)), none, none, none, none], [], am_hp σ, t) Q := by
  refine w_s (c' := (1, [some (aR (some (40, 0, 0))), some (aI (iZ x1)), none, none, none, none], [aR (some (40, 0, 0))], am_hp σ, t)) rfl rfl ?_
  refine w_s (c' := (2, [some (aR (some (40, 0, 0))), some (aI (iZ x1)), none, none, none, none], [aR (some (40, 0, 0)), aR (some (40, 0, 0))], am_hp σ, t)) rfl rfl ?_
  refine w_s (c' := (3, [some (aR (some (40, 0, 0))), some (aI (iZ x1)), none, none, none, none], [aI (iZ x1), aR (some (40, 0, 0)), aR (some (40, 0, 0))], am_hp σ, t)) rfl rfl ?_
  refine w_c0 (c' := (6, [some (aR (some (40, 0, 0))), some (aI (iZ x1)), none, none, none, none], [aI (iZ r1), aR (some (40, 0, 0))], am_hp σ1, t)) rfl rfl (rcv_of (hp_40 _ 0)) rfl c1 (Nat.le_refl _) rfl ?_
  refine w_c0 (c' := (9, [some (aR (some (40, 0, 0))), some (aI (iZ x1)), none, none, none, none], [aI (iZ r2)], am_hp σ2, t)) rfl rfl (rcv_of (hp_40 _ 0)) rfl c2 (Nat.le_refl _) rfl ?_
  exact w_ifne rfl h3 rfl w4 w5

theorem e_X12_report {x1 : Int} {h : AH} {t : KT} {d : Nat} {P : RS → Prop} (w : Wp k_X12_report d (0, [some (aR (some (40, 0, 0))), some (aI (iZ x1)), none, none, none, none], [], h, t) P) : ∃ r, Ca (d + 1) 334 [aR (some (40, 0, 0)), aI (iZ x1)] h t r ∧ P r := ca_W rfl rfl rfl rfl w

theorem b_X12_report_12 {x1 : Int} {σ : SG} {t : KT} (q1 : Q (.inl (some (aI (iZ 0))), am_hp σ, t)) : Wp k_X12_report d (12, [some (aR (some (40, 0, 0))), some (aI (iZ x1)), none, none, none, none], [], am_hp σ, t) Q := by
  refine w_psh rfl zc_0 rfl ?_
  exact w_ret rfl rfl q1

theorem b_X12_report_14 {x1 : Int} {r1 : Int} {r2 : Int} {σ σ1 σ2 : SG} {t : KT} (c1 : Ca d 220 [aR (some (40, 0, 0)), aI (iZ x1)] (am_hp σ) t (.inl (some (aL (jZ r1))), am_hp σ1, t)) (c2 : Ca d 235 [aR (some (40, 0, 0)), aI (iZ x1)] (am_hp σ1) t (.inl (some (aI (iZ r2))), am_hp σ2, t)) (w3 : Wp k_X12_report d (40, [some (aR (some (40, 0, 0))), some (aI (iZ x1)), some (aL (jZ r1)), none, some (aI (iZ r2)), some (aI (iZ 0))], [], am_hp ((sI (sI σ2 (40, 0, 0) (up (σ2.1 (40, 0, 0)) 47 0)) (40, 0, 0) (up (((sI σ2 (40, 0, 0) (up (σ2.1 (40, 0, 0)) 47 0))).1 (40, 0, 0)) 48 1))), t) Q) : Wp k_X12_report d (14, [some (aR (some (40, 0, 0))), some (aI (iZ x1)), none, none, none, none], [], am_hp σ, t) Q := by
  refine w_s (c' := (15, [some (aR (some (40, 0, 0))), some (aI (iZ x1)), none, none, none, none], [aR (some (40, 0, 0))], am_hp σ, t)) rfl rfl ?_
  refine w_s (c' := (16, [some (aR (some (40, 0, 0))), some (aI (iZ x1)), none, none, none, none], [aI (iZ x1), aR (some (40, 0, 0))], am_hp σ, t)) rfl rfl ?_
  refine w_c0 (c' := (19, [some (aR (some (40, 0, 0))), some (aI (iZ x1)), none, none, none, none], [aL (jZ r1)], am_hp σ1, t)) rfl rfl (rcv_of (hp_40 _ 0)) rfl c1 (Nat.le_refl _) rfl ?_
  refine w_s (c' := (20, [some (aR (some (40, 0, 0))), some (aI (iZ x1)), some (aL (jZ r1)), none, none, none], [], am_hp σ1, t)) rfl rfl ?_
  refine w_s (c' := (21, [some (aR (some (40, 0, 0))), some (aI (iZ x1)), some (aL (jZ r1)), none, none, none], [aR (some (40, 0, 0))], am_hp σ1, t)) rfl rfl ?_
  refine w_s (c' := (22, [some (aR (some (40, 0, 0))), some (aI (iZ x1)), some (aL (jZ r1)), none, none, none], [aI (iZ x1), aR (some (40, 0, 0))], am_hp σ1, t)) rfl rfl ?_
  refine w_c0 (c' := (25, [some (aR (some (40, 0, 0))), some (aI (iZ x1)), some (aL (jZ r1)), none, none, none], [aI (iZ r2)], am_hp σ2, t)) rfl rfl (rcv_of (hp_40 _ 0)) rfl c2 (Nat.le_refl _) rfl ?_
  refine w_s (c' := (27, [some (aR (some (40, 0, 0))), some (aI (iZ x1)), some (aL (jZ r1)), none, some (aI (iZ r2)), none], [], am_hp σ2, t)) rfl rfl ?_
  refine w_s (c' := (28, [some (aR (some (40, 0, 0))), some (aI (iZ x1)), some (aL (jZ r1)), none, some (aI (iZ r2)), none], [aR (some (40, 0, 0))], am_hp σ2, t)) rfl rfl ?_
  refine w_psh rfl zc_0 rfl ?_
  refine w_putI rfl (hp_40 _ 0) rfl rfl rfl ?_
  refine w_s (c' := (33, [some (aR (some (40, 0, 0))), some (aI (iZ x1)), some (aL (jZ r1)), none, some (aI (iZ r2)), none], [aR (some (40, 0, 0))], am_hp ((sI σ2 (40, 0, 0) (up (σ2.1 (40, 0, 0)) 47 0))), t)) rfl rfl ?_
  refine w_psh rfl zc_1 rfl ?_
  refine w_putb rfl (Or.inr rfl) (hp_40 _ 0) rfl rfl rfl ?_
  refine w_psh rfl zc_0 rfl ?_
  refine w_s (c' := (40, [some (aR (some (40, 0, 0))), some (aI (iZ x1)), some (aL (jZ r1)), none, some (aI (iZ r2)), some (aI (iZ 0))], [], am_hp ((sI (sI σ2 (40, 0, 0) (up (σ2.1 (40, 0, 0)) 47 0)) (40, 0, 0) (up (((sI σ2 (40, 0, 0) (up (σ2.1 (40, 0, 0)) 47 0))).1 (40, 0, 0)) 48 1))), t)) rfl rfl ?_
  exact w3

theorem b_X12_report_40 {x1 : Int} {y2 : Int} {x4 : Int} {x5 : Int} {r1 : Int} {σ σ1 : SG} {t : KT} (c1 : Ca d 252 [aL (jZ y2)] (am_hp σ) t (.inl (some (aI (iZ r1))), am_hp σ1, t)) (h2 : -2147483648 ≤ x5 ∧ x5 < 2147483648) (h3 : -2147483648 ≤ r1 ∧ r1 < 2147483648) (w4 : r1 ≤ x5 → Wp k_X12_report d (68, [some (aR (some (40, 0, 0))), some (aI (iZ x1)), some (aL (jZ y2)), none, some (aI (iZ x4)), some (aI (iZ x5))], [], am_hp σ1, t) Q) (w5 : x5 < r1 → Wp k_X12_report d (49, [some (aR (some (40, 0, 0))), some (aI (iZ x1)), some (aL (jZ y2)), none, some (aI (iZ x4)), some (aI (iZ x5))], [], am_hp σ1, t) Q) : Wp k_X12_report d (40, [some (aR (some (40, 0, 0))), some (aI (iZ x1)), some (aL (jZ y2)), none, some (aI (iZ x4)), some (aI (iZ x5))], [], am_hp σ, t) Q := by
  refine w_s (c' := (42, [some (aR (some (40, 0, 0))), some (aI (iZ x1)), some (aL (jZ y2)), none, some (aI (iZ x4)), some (aI (iZ x5))], [aI (iZ x5)], am_hp σ, t)) rfl rfl ?_
  refine w_s (c' := (43, [some (aR (some (40, 0, 0))), some (aI (iZ x1)), some (aL (jZ y2)), none, some (aI (iZ x4)), some (aI (iZ x5))], [aL (jZ y2), aI (iZ x5)], am_hp σ, t)) rfl rfl ?_
  refine w_c0 (c' := (46, [some (aR (some (40, 0, 0))), some (aI (iZ x1)), some (aL (jZ y2)), none, some (aI (iZ x4)), some (aI (iZ x5))], [aI (iZ r1), aI (iZ x5)], am_hp σ1, t)) rfl rfl rfl rfl c1 (Nat.le_refl _) rfl ?_
  exact w_icge rfl h2 h3 rfl w4 w5

theorem b_X12_report_49 {x1 : Int} {y2 : Int} {x4 : Int} {x5 : Int} {r1 : Int} {σ σ1 σ2 : SG} {t : KT} (c1 : Ca d 253 [aL (jZ y2), aI (iZ x5)] (am_hp σ) t (.inl (some (aI (iZ r1))), am_hp σ1, t)) (c2 : Ca d 331 [aR (some (40, 0, 0)), aI (iZ (96 + r1))] (am_hp σ1) t (.inl none, am_hp σ2, t)) (w3 : Wp k_X12_report d (40, [some (aR (some (40, 0, 0))), some (aI (iZ x1)), some (aL (jZ y2)), none, some (aI (iZ x4)), some (aI (iZ (x5 + 1)))], [], am_hp σ2, t) Q) : Wp k_X12_report d (49, [some (aR (some (40, 0, 0))), some (aI (iZ x1)), some (aL (jZ y2)), none, some (aI (iZ x4)), some (aI (iZ x5))], [], am_hp σ, t) Q := by
  refine w_s (c' := (50, [some (aR (some (40, 0, 0))), some (aI (iZ x1)), some (aL (jZ y2)), none, some (aI (iZ x4)), some (aI (iZ x5))], [aR (some (40, 0, 0))], am_hp σ, t)) rfl rfl ?_
  refine w_psh rfl zc_96 rfl ?_
  refine w_s (c' := (53, [some (aR (some (40, 0, 0))), some (aI (iZ x1)), some (aL (jZ y2)), none, some (aI (iZ x4)), some (aI (iZ x5))], [aL (jZ y2), aI (iZ 96), aR (some (40, 0, 0))], am_hp σ, t)) rfl rfl ?_
  refine w_s (c' := (55, [some (aR (some (40, 0, 0))), some (aI (iZ x1)), some (aL (jZ y2)), none, some (aI (iZ x4)), some (aI (iZ x5))], [aI (iZ x5), aL (jZ y2), aI (iZ 96), aR (some (40, 0, 0))], am_hp σ, t)) rfl rfl ?_
  refine w_c0 (c' := (58, [some (aR (some (40, 0, 0))), some (aI (iZ x1)), some (aL (jZ y2)), none, some (aI (iZ x4)), some (aI (iZ x5))], [aI (iZ r1), aI (iZ 96), aR (some (40, 0, 0))], am_hp σ1, t)) rfl rfl rfl rfl c1 (Nat.le_refl _) rfl ?_
  refine w_iadd rfl rfl ?_
  refine w_c0 (c' := (62, [some (aR (some (40, 0, 0))), some (aI (iZ x1)), some (aL (jZ y2)), none, some (aI (iZ x4)), some (aI (iZ x5))], [], am_hp σ2, t)) rfl rfl (rcv_of (hp_40 _ 0)) rfl c2 (Nat.le_refl _) rfl ?_
  refine w_inc (a := x5) (ls' := [some (aR (some (40, 0, 0))), some (aI (iZ x1)), some (aL (jZ y2)), none, some (aI (iZ x4)), some (aI (iZ (x5 + 1)))]) rfl rfl rfl zc_1 rfl rfl ?_
  refine w_s (c' := (40, [some (aR (some (40, 0, 0))), some (aI (iZ x1)), some (aL (jZ y2)), none, some (aI (iZ x4)), some (aI (iZ (x5 + 1)))], [], am_hp σ2, t)) rfl rfl ?_
  exact w3

theorem b_X12_report_68 {x1 : Int} {y2 : Int} {x4 : Int} {x5 : Int} {σ σ1 : SG} {t : KT} (c1 : Ca d 331 [aR (some (40, 0, 0)), aI (iZ 58)] (am_hp σ) t (.inl none, am_hp σ1, t)) (w2 : Wp k_X12_report d (77, [some (aR (some (40, 0, 0))), some (aI (iZ x1)), some (aL (jZ y2)), none, some (aI (iZ x4)), some (aI (iZ 0))], [], am_hp σ1, t) Q) : Wp k_X12_report d (68, [some (aR (some (40, 0, 0))), some (aI (iZ x1)), some (aL (jZ y2)), none, some (aI (iZ x4)), some (aI (iZ x5))], [], am_hp σ, t) Q := by
  refine w_s (c' := (69, [some (aR (some (40, 0, 0))), some (aI (iZ x1)), some (aL (jZ y2)), none, some (aI (iZ x4)), some (aI (iZ x5))], [aR (some (40, 0, 0))], am_hp σ, t)) rfl rfl ?_
  refine w_psh rfl zc_58 rfl ?_
  refine w_c0 (c' := (74, [some (aR (some (40, 0, 0))), some (aI (iZ x1)), some (aL (jZ y2)), none, some (aI (iZ x4)), some (aI (iZ x5))], [], am_hp σ1, t)) rfl rfl (rcv_of (hp_40 _ 0)) rfl c1 (Nat.le_refl _) rfl ?_
  refine w_psh rfl zc_0 rfl ?_
  refine w_s (c' := (77, [some (aR (some (40, 0, 0))), some (aI (iZ x1)), some (aL (jZ y2)), none, some (aI (iZ x4)), some (aI (iZ 0))], [], am_hp σ1, t)) rfl rfl ?_
  exact w2

theorem b_X12_report_77 {x1 : Int} {y2 : Int} {x4 : Int} {x5 : Int} {σ : SG} {t : KT} (h1 : -2147483648 ≤ x5 ∧ x5 < 2147483648) (h2 : -2147483648 ≤ x4 ∧ x4 < 2147483648) (w3 : x4 ≤ x5 → Wp k_X12_report d (96, [some (aR (some (40, 0, 0))), some (aI (iZ x1)), some (aL (jZ y2)), none, some (aI (iZ x4)), some (aI (iZ x5))], [], am_hp σ, t) Q) (w4 : x5 < x4 → Wp k_X12_report d (84, [some (aR (some (40, 0, 0))), some (aI (iZ x1)), some (aL (jZ y2)), none, some (aI (iZ x4)), some (aI (iZ x5))], [], am_hp σ, t) Q) : Wp k_X12_report d (77, [some (aR (some (40, 0, 0))), some (aI (iZ x1)), some (aL (jZ y2)), none, some (aI (iZ x4)), some (aI (iZ x5))], [], am_hp σ, t) Q := by
  refine w_s (c' := (79, [some (aR (some (40, 0, 0))), some (aI (iZ x1)), some (aL (jZ y2)), none, some (aI (iZ x4)), some (aI (iZ x5))], [aI (iZ x5)], am_hp σ, t)) rfl rfl ?_
  refine w_s (c' := (81, [some (aR (some (40, 0, 0))), some (aI (iZ x1)), some (aL (jZ y2)), none, some (aI (iZ x4)), some (aI (iZ x5))], [aI (iZ x4), aI (iZ x5)], am_hp σ, t)) rfl rfl ?_
  exact w_icge rfl h1 h2 rfl w3 w4

theorem b_X12_report_84 {x1 : Int} {y2 : Int} {x4 : Int} {x5 : Int} {σ σ1 : SG} {t : KT} (c1 : Ca d 333 [aR (some (40, 0, 0)), aI (iZ x5)] (am_hp σ) t (.inl none, am_hp σ1, t)) (w2 : Wp k_X12_report d (77, [some (aR (some (40, 0, 0))), some (aI (iZ x1)), some (aL (jZ y2)), none, some (aI (iZ x4)), some (aI (iZ (x5 + 1)))], [], am_hp σ1, t) Q) : Wp k_X12_report d (84, [some (aR (some (40, 0, 0))), some (aI (iZ x1)), some (aL (jZ y2)), none, some (aI (iZ x4)), some (aI (iZ x5))], [], am_hp σ, t) Q := by
  refine w_s (c' := (85, [some (aR (some (40, 0, 0))), some (aI (iZ x1)), some (aL (jZ y2)), none, some (aI (iZ x4)), some (aI (iZ x5))], [aR (some (40, 0, 0))], am_hp σ, t)) rfl rfl ?_
  refine w_s (c' := (87, [some (aR (some (40, 0, 0))), some (aI (iZ x1)), some (aL (jZ y2)), none, some (aI (iZ x4)), some (aI (iZ x5))], [aI (iZ x5), aR (some (40, 0, 0))], am_hp σ, t)) rfl rfl ?_
  refine w_c0 (c' := (90, [some (aR (some (40, 0, 0))), some (aI (iZ x1)), some (aL (jZ y2)), none, some (aI (iZ x4)), some (aI (iZ x5))], [], am_hp σ1, t)) rfl rfl (rcv_of (hp_40 _ 0)) rfl c1 (Nat.le_refl _) rfl ?_
  refine w_inc (a := x5) (ls' := [some (aR (some (40, 0, 0))), some (aI (iZ x1)), some (aL (jZ y2)), none, some (aI (iZ x4)), some (aI (iZ (x5 + 1)))]) rfl rfl rfl zc_1 rfl rfl ?_
  refine w_s (c' := (77, [some (aR (some (40, 0, 0))), some (aI (iZ x1)), some (aL (jZ y2)), none, some (aI (iZ x4)), some (aI (iZ (x5 + 1)))], [], am_hp σ1, t)) rfl rfl ?_
  exact w2

theorem b_X12_report_96 {x1 : Int} {y2 : Int} {x4 : Int} {x5 : Int} {σ σ1 : SG} {t : KT} (c1 : Ca d 331 [aR (some (40, 0, 0)), aI (iZ 10)] (am_hp σ) t (.inl none, am_hp σ1, t)) (q2 : Q (.inl (some (aI (iZ (σ1.1 (40, 0, 0) 47)))), am_hp σ1, t)) : Wp k_X12_report d (96, [some (aR (some (40, 0, 0))), some (aI (iZ x1)), some (aL (jZ y2)), none, some (aI (iZ x4)), some (aI (iZ x5))], [], am_hp σ, t) Q := by
  refine w_s (c' := (97, [some (aR (some (40, 0, 0))), some (aI (iZ x1)), some (aL (jZ y2)), none, some (aI (iZ x4)), some (aI (iZ x5))], [aR (some (40, 0, 0))], am_hp σ, t)) rfl rfl ?_
  refine w_psh rfl zc_10 rfl ?_
  refine w_c0 (c' := (102, [some (aR (some (40, 0, 0))), some (aI (iZ x1)), some (aL (jZ y2)), none, some (aI (iZ x4)), some (aI (iZ x5))], [], am_hp σ1, t)) rfl rfl (rcv_of (hp_40 _ 0)) rfl c1 (Nat.le_refl _) rfl ?_
  refine w_s (c' := (103, [some (aR (some (40, 0, 0))), some (aI (iZ x1)), some (aL (jZ y2)), none, some (aI (iZ x4)), some (aI (iZ x5))], [aR (some (40, 0, 0))], am_hp σ1, t)) rfl rfl ?_
  refine w_get rfl (hp_40 _ 0) rfl rfl ?_
  exact w_ret rfl rfl q2

theorem b_X12_reportByte_0 {x1 : Int} {σ : SG} {t : KT} (h1 : -2147483648 ≤ σ.1 (40, 0, 0) 48 ∧ σ.1 (40, 0, 0) 48 < 2147483648) (w2 : σ.1 (40, 0, 0) 48 = 0 → Wp k_X12_reportByte d (28, [some (aR (some (40, 0, 0))), some (aI (iZ x1))], [aR (some (40, 0, 0))], am_hp σ, t) Q) (w3 : σ.1 (40, 0, 0) 48 ≠ 0 → Wp k_X12_reportByte d (8, [some (aR (some (40, 0, 0))), some (aI (iZ x1))], [aR (some (40, 0, 0))], am_hp σ, t) Q) : Wp k_X12_reportByte d (0, [some (aR (some (40, 0, 0))), some (aI (iZ x1))], [], am_hp σ, t) Q := by
  refine w_s (c' := (1, [some (aR (some (40, 0, 0))), some (aI (iZ x1))], [aR (some (40, 0, 0))], am_hp σ, t)) rfl rfl ?_
  refine w_s (c' := (2, [some (aR (some (40, 0, 0))), some (aI (iZ x1))], [aR (some (40, 0, 0)), aR (some (40, 0, 0))], am_hp σ, t)) rfl rfl ?_
  refine w_get rfl (hp_40 _ 0) rfl rfl ?_
  exact w_ifeq rfl h1 rfl w2 w3

theorem e_X12_reportByte {x1 : Int} {h : AH} {t : KT} {d : Nat} {P : RS → Prop} (w : Wp k_X12_reportByte d (0, [some (aR (some (40, 0, 0))), some (aI (iZ x1))], [], h, t) P) : ∃ r, Ca (d + 1) 335 [aR (some (40, 0, 0)), aI (iZ x1)] h t r ∧ P r := ca_W rfl rfl rfl rfl w

theorem b_X12_reportByte_8 {x1 : Int} {r1 : Int} {σ σ1 : SG} {t : KT} (h1 : -2147483648 ≤ x1 ∧ x1 < 2147483648) (h2 : -2147483648 ≤ (σ.1 (40, 0, 0) 47) - 1 ∧ (σ.1 (40, 0, 0) 47) - 1 < 2147483648) (c3 : Ca d 175 [aL (jZ x1), aL (jZ 0), aL (jZ ((σ.1 (40, 0, 0) 47) - 1))] (am_hp σ) t (.inl (some (aI (iZ r1))), am_hp σ1, t)) (h4 : -2147483648 ≤ r1 ∧ r1 < 2147483648) (w5 : r1 = 0 → Wp k_X12_reportByte d (28, [some (aR (some (40, 0, 0))), some (aI (iZ x1))], [aR (some (40, 0, 0))], am_hp σ1, t) Q) (w6 : r1 ≠ 0 → Wp k_X12_reportByte d (24, [some (aR (some (40, 0, 0))), some (aI (iZ x1))], [aR (some (40, 0, 0))], am_hp σ1, t) Q) : Wp k_X12_reportByte d (8, [some (aR (some (40, 0, 0))), some (aI (iZ x1))], [aR (some (40, 0, 0))], am_hp σ, t) Q := by
  refine w_s (c' := (9, [some (aR (some (40, 0, 0))), some (aI (iZ x1))], [aI (iZ x1), aR (some (40, 0, 0))], am_hp σ, t)) rfl rfl ?_
  refine w_i2l rfl rfl h1 ?_
  refine w_psL rfl yc_0 rfl ?_
  refine w_s (c' := (12, [some (aR (some (40, 0, 0))), some (aI (iZ x1))], [aR (some (40, 0, 0)), aL (jZ 0), aL (jZ x1), aR (some (40, 0, 0))], am_hp σ, t)) rfl rfl ?_
  refine w_get rfl (hp_40 _ 0) rfl rfl ?_
  refine w_psh rfl zc_1 rfl ?_
  refine w_isub rfl rfl ?_
  refine w_i2l rfl rfl h2 ?_
  refine w_c0 (c' := (21, [some (aR (some (40, 0, 0))), some (aI (iZ x1))], [aI (iZ r1), aR (some (40, 0, 0))], am_hp σ1, t)) rfl rfl rfl rfl c3 (Nat.le_refl _) rfl ?_
  exact w_ifeq rfl h4 rfl w5 w6

theorem b_X12_reportByte_24 {x1 : Int} {σ : SG} {t : KT} (w1 : Wp k_X12_reportByte d (29, [some (aR (some (40, 0, 0))), some (aI (iZ x1))], [aI (iZ 1), aR (some (40, 0, 0))], am_hp σ, t) Q) : Wp k_X12_reportByte d (24, [some (aR (some (40, 0, 0))), some (aI (iZ x1))], [aR (some (40, 0, 0))], am_hp σ, t) Q := by
  refine w_psh rfl zc_1 rfl ?_
  refine w_s (c' := (29, [some (aR (some (40, 0, 0))), some (aI (iZ x1))], [aI (iZ 1), aR (some (40, 0, 0))], am_hp σ, t)) rfl rfl ?_
  exact w1

theorem b_X12_reportByte_28 {x1 : Int} {σ : SG} {t : KT} (w1 : Wp k_X12_reportByte d (29, [some (aR (some (40, 0, 0))), some (aI (iZ x1))], [aI (iZ 0), aR (some (40, 0, 0))], am_hp σ, t) Q) : Wp k_X12_reportByte d (28, [some (aR (some (40, 0, 0))), some (aI (iZ x1))], [aR (some (40, 0, 0))], am_hp σ, t) Q := by
  refine w_psh rfl zc_0 rfl ?_
  exact w1

theorem b_X12_reportByte_29 {x1 : Int} {xs0 : Int} {r1 : Int} {σ σ1 : SG} {t : KT} (c1 : Ca d 178 [aR (some (40, 0, 0)), aI (iZ xs0)] (am_hp σ) t (.inl (some (aI (iZ r1))), am_hp σ1, t)) (h2 : -2147483648 ≤ r1 ∧ r1 < 2147483648) (w3 : r1 = 0 → Wp k_X12_reportByte d (44, [some (aR (some (40, 0, 0))), some (aI (iZ x1))], [], am_hp σ1, t) Q) (w4 : r1 ≠ 0 → Wp k_X12_reportByte d (35, [some (aR (some (40, 0, 0))), some (aI (iZ x1))], [], am_hp σ1, t) Q) : Wp k_X12_reportByte d (29, [some (aR (some (40, 0, 0))), some (aI (iZ x1))], [aI (iZ xs0), aR (some (40, 0, 0))], am_hp σ, t) Q := by
  refine w_c0 (c' := (32, [some (aR (some (40, 0, 0))), some (aI (iZ x1))], [aI (iZ r1)], am_hp σ1, t)) rfl rfl (rcv_of (hp_40 _ 0)) rfl c1 (Nat.le_refl _) rfl ?_
  exact w_ifeq rfl h2 rfl w3 w4

theorem b_X12_reportByte_35 {x1 : Int} {σ : SG} {t : KT} (h1 : 0 ≤ x1 ∧ x1 < 1200) (w2 : Wp k_X12_reportByte d (45, [some (aR (some (40, 0, 0))), some (aI (iZ x1))], [aI (iZ (σ.1 (62, 0, 0) x1.toNat))], am_hp σ, t) Q) : Wp k_X12_reportByte d (35, [some (aR (some (40, 0, 0))), some (aI (iZ x1))], [], am_hp σ, t) Q := by
  refine w_s (c' := (36, [some (aR (some (40, 0, 0))), some (aI (iZ x1))], [aR (some (40, 0, 0))], am_hp σ, t)) rfl rfl ?_
  refine w_get rfl (hp_40 _ 0) rfl rfl ?_
  refine w_s (c' := (40, [some (aR (some (40, 0, 0))), some (aI (iZ x1))], [aI (iZ x1), aR (some (62, 0, 0))], am_hp σ, t)) rfl rfl ?_
  refine w_ial rfl (hp_62 _ 0 0) h1 rfl rfl ?_
  refine w_s (c' := (45, [some (aR (some (40, 0, 0))), some (aI (iZ x1))], [aI (iZ (σ.1 (62, 0, 0) x1.toNat))], am_hp σ, t)) rfl rfl ?_
  exact w2

theorem b_X12_reportByte_44 {x1 : Int} {σ : SG} {t : KT} (w1 : Wp k_X12_reportByte d (45, [some (aR (some (40, 0, 0))), some (aI (iZ x1))], [aI (iZ 0)], am_hp σ, t) Q) : Wp k_X12_reportByte d (44, [some (aR (some (40, 0, 0))), some (aI (iZ x1))], [], am_hp σ, t) Q := by
  refine w_psh rfl zc_0 rfl ?_
  exact w1

theorem b_X12_reportByte_45 {x1 : Int} {xs0 : Int} {σ : SG} {t : KT} (q1 : Q (.inl (some (aI (iZ xs0))), am_hp σ, t)) : Wp k_X12_reportByte d (45, [some (aR (some (40, 0, 0))), some (aI (iZ x1))], [aI (iZ xs0)], am_hp σ, t) Q := by
  exact w_ret rfl rfl q1
end PCS
