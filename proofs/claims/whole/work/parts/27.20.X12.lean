/-! PIECES: X12 -/
set_option maxRecDepth 4000
section PCS
variable {d : Nat} {Q : RS → Prop}
theorem b_X12_looseBits_0 {σ : SG} {t : KT} (w1 : Wp k_X12_looseBits d (4, [some (aR (some (40, 0, 0))), some (aI (iZ 0)), some (aI (iZ 0)), none], [], am_hp σ, t) Q) : Wp k_X12_looseBits d (0, [some (aR (some (40, 0, 0))), none, none, none], [], am_hp σ, t) Q := by
  refine w_psh rfl zc_0 rfl ?_
  refine w_s (c' := (2, [some (aR (some (40, 0, 0))), some (aI (iZ 0)), none, none], [], am_hp σ, t)) rfl rfl ?_
  refine w_psh rfl zc_0 rfl ?_
  refine w_s (c' := (4, [some (aR (some (40, 0, 0))), some (aI (iZ 0)), some (aI (iZ 0)), none], [], am_hp σ, t)) rfl rfl ?_
  exact w1

theorem e_X12_looseBits {h : AH} {t : KT} {d : Nat} {P : RS → Prop} (w : Wp k_X12_looseBits d (0, [some (aR (some (40, 0, 0))), none, none, none], [], h, t) P) : ∃ r, Ca (d + 1) 259 [aR (some (40, 0, 0))] h t r ∧ P r := ca_W rfl rfl rfl rfl w

theorem b_X12_looseBits_4 {x1 : Int} {x2 : Int} {u3 : Option AV} {σ : SG} {t : KT} (h1 : -2147483648 ≤ x2 ∧ x2 < 2147483648) (h2 : -2147483648 ≤ σ.1 (40, 0, 0) 34 ∧ σ.1 (40, 0, 0) 34 < 2147483648) (w3 : σ.1 (40, 0, 0) 34 ≤ x2 → Wp k_X12_looseBits d (64, [some (aR (some (40, 0, 0))), some (aI (iZ x1)), some (aI (iZ x2)), u3], [], am_hp σ, t) Q) (w4 : x2 < σ.1 (40, 0, 0) 34 → Wp k_X12_looseBits d (12, [some (aR (some (40, 0, 0))), some (aI (iZ x1)), some (aI (iZ x2)), u3], [], am_hp σ, t) Q) : Wp k_X12_looseBits d (4, [some (aR (some (40, 0, 0))), some (aI (iZ x1)), some (aI (iZ x2)), u3], [], am_hp σ, t) Q := by
  refine w_s (c' := (5, [some (aR (some (40, 0, 0))), some (aI (iZ x1)), some (aI (iZ x2)), u3], [aI (iZ x2)], am_hp σ, t)) rfl rfl ?_
  refine w_s (c' := (6, [some (aR (some (40, 0, 0))), some (aI (iZ x1)), some (aI (iZ x2)), u3], [aR (some (40, 0, 0)), aI (iZ x2)], am_hp σ, t)) rfl rfl ?_
  refine w_get rfl (hp_40 _ 0) rfl rfl ?_
  exact w_icge rfl h1 h2 rfl w3 w4

theorem b_X12_looseBits_12 {x1 : Int} {x2 : Int} {u3 : Option AV} {σ : SG} {t : KT} (h1 : 0 ≤ x2 ∧ x2 < 121) (w2 : Wp k_X12_looseBits d (19, [some (aR (some (40, 0, 0))), some (aI (iZ x1)), some (aI (iZ x2)), some (aI (iZ (σ.1 (52, 0, 0) x2.toNat)))], [], am_hp σ, t) Q) : Wp k_X12_looseBits d (12, [some (aR (some (40, 0, 0))), some (aI (iZ x1)), some (aI (iZ x2)), u3], [], am_hp σ, t) Q := by
  refine w_s (c' := (13, [some (aR (some (40, 0, 0))), some (aI (iZ x1)), some (aI (iZ x2)), u3], [aR (some (40, 0, 0))], am_hp σ, t)) rfl rfl ?_
  refine w_get rfl (hp_40 _ 0) rfl rfl ?_
  refine w_s (c' := (17, [some (aR (some (40, 0, 0))), some (aI (iZ x1)), some (aI (iZ x2)), u3], [aI (iZ x2), aR (some (52, 0, 0))], am_hp σ, t)) rfl rfl ?_
  refine w_ial rfl (hp_52 _ 0 0) h1 rfl rfl ?_
  refine w_s (c' := (19, [some (aR (some (40, 0, 0))), some (aI (iZ x1)), some (aI (iZ x2)), some (aI (iZ (σ.1 (52, 0, 0) x2.toNat)))], [], am_hp σ, t)) rfl rfl ?_
  exact w2

theorem b_X12_looseBits_19 {x1 : Int} {x2 : Int} {x3 : Int} {σ : SG} {t : KT} (h1 : 0 ≤ x2 + 1 ∧ x2 + 1 < 121) (h2 : -2147483648 ≤ x3 ∧ x3 < 2147483648) (h3 : -2147483648 ≤ σ.1 (52, 0, 0) (x2 + 1).toNat ∧ σ.1 (52, 0, 0) (x2 + 1).toNat < 2147483648) (w4 : σ.1 (52, 0, 0) (x2 + 1).toNat ≤ x3 → Wp k_X12_looseBits d (58, [some (aR (some (40, 0, 0))), some (aI (iZ x1)), some (aI (iZ x2)), some (aI (iZ x3))], [], am_hp σ, t) Q) (w5 : x3 < σ.1 (52, 0, 0) (x2 + 1).toNat → Wp k_X12_looseBits d (31, [some (aR (some (40, 0, 0))), some (aI (iZ x1)), some (aI (iZ x2)), some (aI (iZ x3))], [], am_hp σ, t) Q) : Wp k_X12_looseBits d (19, [some (aR (some (40, 0, 0))), some (aI (iZ x1)), some (aI (iZ x2)), some (aI (iZ x3))], [], am_hp σ, t) Q := by
  refine w_s (c' := (20, [some (aR (some (40, 0, 0))), some (aI (iZ x1)), some (aI (iZ x2)), some (aI (iZ x3))], [aI (iZ x3)], am_hp σ, t)) rfl rfl ?_
  refine w_s (c' := (21, [some (aR (some (40, 0, 0))), some (aI (iZ x1)), some (aI (iZ x2)), some (aI (iZ x3))], [aR (some (40, 0, 0)), aI (iZ x3)], am_hp σ, t)) rfl rfl ?_
  refine w_get rfl (hp_40 _ 0) rfl rfl ?_
  refine w_s (c' := (25, [some (aR (some (40, 0, 0))), some (aI (iZ x1)), some (aI (iZ x2)), some (aI (iZ x3))], [aI (iZ x2), aR (some (52, 0, 0)), aI (iZ x3)], am_hp σ, t)) rfl rfl ?_
  refine w_psh rfl zc_1 rfl ?_
  refine w_iadd rfl rfl ?_
  refine w_ial rfl (hp_52 _ 0 0) h1 rfl rfl ?_
  exact w_icge rfl h2 h3 rfl w4 w5

theorem b_X12_looseBits_31 {x1 : Int} {x2 : Int} {x3 : Int} {σ : SG} {t : KT} (h1 : 0 ≤ x2 ∧ x2 < 120) (h2 : 0 ≤ σ.1 (51, 0, 0) x2.toNat ∧ σ.1 (51, 0, 0) x2.toNat < 9) (h3 : 0 ≤ x3 ∧ x3 < 120) (w4 : Wp k_X12_looseBits d (19, [some (aR (some (40, 0, 0))), some (aI (iZ (x1 + ((σ.1 (47, 0, 0) (σ.1 (51, 0, 0) x2.toNat).toNat) - (σ.1 (49, 0, 0) x3.toNat))))), some (aI (iZ x2)), some (aI (iZ (x3 + 1)))], [], am_hp σ, t) Q) : Wp k_X12_looseBits d (31, [some (aR (some (40, 0, 0))), some (aI (iZ x1)), some (aI (iZ x2)), some (aI (iZ x3))], [], am_hp σ, t) Q := by
  refine w_s (c' := (32, [some (aR (some (40, 0, 0))), some (aI (iZ x1)), some (aI (iZ x2)), some (aI (iZ x3))], [aI (iZ x1)], am_hp σ, t)) rfl rfl ?_
  refine w_s (c' := (33, [some (aR (some (40, 0, 0))), some (aI (iZ x1)), some (aI (iZ x2)), some (aI (iZ x3))], [aR (some (40, 0, 0)), aI (iZ x1)], am_hp σ, t)) rfl rfl ?_
  refine w_get rfl (hp_40 _ 0) rfl rfl ?_
  refine w_s (c' := (37, [some (aR (some (40, 0, 0))), some (aI (iZ x1)), some (aI (iZ x2)), some (aI (iZ x3))], [aR (some (40, 0, 0)), aR (some (47, 0, 0)), aI (iZ x1)], am_hp σ, t)) rfl rfl ?_
  refine w_get rfl (hp_40 _ 0) rfl rfl ?_
  refine w_s (c' := (41, [some (aR (some (40, 0, 0))), some (aI (iZ x1)), some (aI (iZ x2)), some (aI (iZ x3))], [aI (iZ x2), aR (some (51, 0, 0)), aR (some (47, 0, 0)), aI (iZ x1)], am_hp σ, t)) rfl rfl ?_
  refine w_ial rfl (hp_51 _ 0 0) h1 rfl rfl ?_
  refine w_ial rfl (hp_47 _ 0 0) h2 rfl rfl ?_
  refine w_s (c' := (44, [some (aR (some (40, 0, 0))), some (aI (iZ x1)), some (aI (iZ x2)), some (aI (iZ x3))], [aR (some (40, 0, 0)), aI (iZ (σ.1 (47, 0, 0) (σ.1 (51, 0, 0) x2.toNat).toNat)), aI (iZ x1)], am_hp σ, t)) rfl rfl ?_
  refine w_get rfl (hp_40 _ 0) rfl rfl ?_
  refine w_s (c' := (48, [some (aR (some (40, 0, 0))), some (aI (iZ x1)), some (aI (iZ x2)), some (aI (iZ x3))], [aI (iZ x3), aR (some (49, 0, 0)), aI (iZ (σ.1 (47, 0, 0) (σ.1 (51, 0, 0) x2.toNat).toNat)), aI (iZ x1)], am_hp σ, t)) rfl rfl ?_
  refine w_ial rfl (hp_49 _ 0 0) h3 rfl rfl ?_
  refine w_isub rfl rfl ?_
  refine w_iadd rfl rfl ?_
  refine w_s (c' := (52, [some (aR (some (40, 0, 0))), some (aI (iZ (x1 + ((σ.1 (47, 0, 0) (σ.1 (51, 0, 0) x2.toNat).toNat) - (σ.1 (49, 0, 0) x3.toNat))))), some (aI (iZ x2)), some (aI (iZ x3))], [], am_hp σ, t)) rfl rfl ?_
  refine w_inc (a := x3) (ls' := [some (aR (some (40, 0, 0))), some (aI (iZ (x1 + ((σ.1 (47, 0, 0) (σ.1 (51, 0, 0) x2.toNat).toNat) - (σ.1 (49, 0, 0) x3.toNat))))), some (aI (iZ x2)), some (aI (iZ (x3 + 1)))]) rfl rfl rfl zc_1 rfl rfl ?_
  refine w_s (c' := (19, [some (aR (some (40, 0, 0))), some (aI (iZ (x1 + ((σ.1 (47, 0, 0) (σ.1 (51, 0, 0) x2.toNat).toNat) - (σ.1 (49, 0, 0) x3.toNat))))), some (aI (iZ x2)), some (aI (iZ (x3 + 1)))], [], am_hp σ, t)) rfl rfl ?_
  exact w4

theorem b_X12_looseBits_58 {x1 : Int} {x2 : Int} {x3 : Int} {σ : SG} {t : KT} (w1 : Wp k_X12_looseBits d (4, [some (aR (some (40, 0, 0))), some (aI (iZ x1)), some (aI (iZ (x2 + 1))), some (aI (iZ x3))], [], am_hp σ, t) Q) : Wp k_X12_looseBits d (58, [some (aR (some (40, 0, 0))), some (aI (iZ x1)), some (aI (iZ x2)), some (aI (iZ x3))], [], am_hp σ, t) Q := by
  refine w_inc (a := x2) (ls' := [some (aR (some (40, 0, 0))), some (aI (iZ x1)), some (aI (iZ (x2 + 1))), some (aI (iZ x3))]) rfl rfl rfl zc_1 rfl rfl ?_
  refine w_s (c' := (4, [some (aR (some (40, 0, 0))), some (aI (iZ x1)), some (aI (iZ (x2 + 1))), some (aI (iZ x3))], [], am_hp σ, t)) rfl rfl ?_
  exact w1

theorem b_X12_looseBits_64 {x1 : Int} {x2 : Int} {u3 : Option AV} {σ : SG} {t : KT} (q1 : Q (.inl (some (aI (iZ x1))), am_hp σ, t)) : Wp k_X12_looseBits d (64, [some (aR (some (40, 0, 0))), some (aI (iZ x1)), some (aI (iZ x2)), u3], [], am_hp σ, t) Q := by
  refine w_s (c' := (65, [some (aR (some (40, 0, 0))), some (aI (iZ x1)), some (aI (iZ x2)), u3], [aI (iZ x1)], am_hp σ, t)) rfl rfl ?_
  exact w_ret rfl rfl q1

theorem b_X12_waySet_0 {σ : SG} {t : KT} (w1 : Wp k_X12_waySet d (4, [some (aR (some (40, 0, 0))), some (aI (iZ 0)), some (aI (iZ 0))], [], am_hp σ, t) Q) : Wp k_X12_waySet d (0, [some (aR (some (40, 0, 0))), none, none], [], am_hp σ, t) Q := by
  refine w_psh rfl zc_0 rfl ?_
  refine w_s (c' := (2, [some (aR (some (40, 0, 0))), some (aI (iZ 0)), none], [], am_hp σ, t)) rfl rfl ?_
  refine w_psh rfl zc_0 rfl ?_
  refine w_s (c' := (4, [some (aR (some (40, 0, 0))), some (aI (iZ 0)), some (aI (iZ 0))], [], am_hp σ, t)) rfl rfl ?_
  exact w1

theorem e_X12_waySet {h : AH} {t : KT} {d : Nat} {P : RS → Prop} (w : Wp k_X12_waySet d (0, [some (aR (some (40, 0, 0))), none, none], [], h, t) P) : ∃ r, Ca (d + 1) 260 [aR (some (40, 0, 0))] h t r ∧ P r := ca_W rfl rfl rfl rfl w

theorem b_X12_waySet_4 {x1 : Int} {x2 : Int} {σ : SG} {t : KT} (h1 : -2147483648 ≤ x2 ∧ x2 < 2147483648) (h2 : -2147483648 ≤ σ.1 (40, 0, 0) 34 ∧ σ.1 (40, 0, 0) 34 < 2147483648) (w3 : σ.1 (40, 0, 0) 34 ≤ x2 → Wp k_X12_waySet d (29, [some (aR (some (40, 0, 0))), some (aI (iZ x1)), some (aI (iZ x2))], [], am_hp σ, t) Q) (w4 : x2 < σ.1 (40, 0, 0) 34 → Wp k_X12_waySet d (12, [some (aR (some (40, 0, 0))), some (aI (iZ x1)), some (aI (iZ x2))], [], am_hp σ, t) Q) : Wp k_X12_waySet d (4, [some (aR (some (40, 0, 0))), some (aI (iZ x1)), some (aI (iZ x2))], [], am_hp σ, t) Q := by
  refine w_s (c' := (5, [some (aR (some (40, 0, 0))), some (aI (iZ x1)), some (aI (iZ x2))], [aI (iZ x2)], am_hp σ, t)) rfl rfl ?_
  refine w_s (c' := (6, [some (aR (some (40, 0, 0))), some (aI (iZ x1)), some (aI (iZ x2))], [aR (some (40, 0, 0)), aI (iZ x2)], am_hp σ, t)) rfl rfl ?_
  refine w_get rfl (hp_40 _ 0) rfl rfl ?_
  exact w_icge rfl h1 h2 rfl w3 w4

theorem b_X12_waySet_12 {x1 : Int} {x2 : Int} {σ : SG} {t : KT} (h1 : 0 ≤ x2 ∧ x2 < 120) (w2 : Wp k_X12_waySet d (4, [some (aR (some (40, 0, 0))), some (aI (iZ (zor x1 (zshl 1 (σ.1 (51, 0, 0) x2.toNat))))), some (aI (iZ (x2 + 1)))], [], am_hp σ, t) Q) : Wp k_X12_waySet d (12, [some (aR (some (40, 0, 0))), some (aI (iZ x1)), some (aI (iZ x2))], [], am_hp σ, t) Q := by
  refine w_s (c' := (13, [some (aR (some (40, 0, 0))), some (aI (iZ x1)), some (aI (iZ x2))], [aI (iZ x1)], am_hp σ, t)) rfl rfl ?_
  refine w_psh rfl zc_1 rfl ?_
  refine w_s (c' := (15, [some (aR (some (40, 0, 0))), some (aI (iZ x1)), some (aI (iZ x2))], [aR (some (40, 0, 0)), aI (iZ 1), aI (iZ x1)], am_hp σ, t)) rfl rfl ?_
  refine w_get rfl (hp_40 _ 0) rfl rfl ?_
  refine w_s (c' := (19, [some (aR (some (40, 0, 0))), some (aI (iZ x1)), some (aI (iZ x2))], [aI (iZ x2), aR (some (51, 0, 0)), aI (iZ 1), aI (iZ x1)], am_hp σ, t)) rfl rfl ?_
  refine w_ial rfl (hp_51 _ 0 0) h1 rfl rfl ?_
  refine w_ishl rfl rfl ?_
  refine w_ior rfl rfl ?_
  refine w_s (c' := (23, [some (aR (some (40, 0, 0))), some (aI (iZ (zor x1 (zshl 1 (σ.1 (51, 0, 0) x2.toNat))))), some (aI (iZ x2))], [], am_hp σ, t)) rfl rfl ?_
  refine w_inc (a := x2) (ls' := [some (aR (some (40, 0, 0))), some (aI (iZ (zor x1 (zshl 1 (σ.1 (51, 0, 0) x2.toNat))))), some (aI (iZ (x2 + 1)))]) rfl rfl rfl zc_1 rfl rfl ?_
  refine w_s (c' := (4, [some (aR (some (40, 0, 0))), some (aI (iZ (zor x1 (zshl 1 (σ.1 (51, 0, 0) x2.toNat))))), some (aI (iZ (x2 + 1)))], [], am_hp σ, t)) rfl rfl ?_
  exact w2

theorem b_X12_waySet_29 {x1 : Int} {x2 : Int} {σ : SG} {t : KT} (q1 : Q (.inl (some (aI (iZ x1))), am_hp σ, t)) : Wp k_X12_waySet d (29, [some (aR (some (40, 0, 0))), some (aI (iZ x1)), some (aI (iZ x2))], [], am_hp σ, t) Q := by
  refine w_s (c' := (30, [some (aR (some (40, 0, 0))), some (aI (iZ x1)), some (aI (iZ x2))], [aI (iZ x1)], am_hp σ, t)) rfl rfl ?_
  exact w_ret rfl rfl q1

theorem b_X12_entriesNow_0 {σ : SG} {t : KT} (h1 : -2147483648 ≤ σ.1 (42, 0, 0) 2 ∧ σ.1 (42, 0, 0) 2 < 2147483648 ∧ σ.1 (42, 0, 0) 2 ≠ 0) (q2 : Q (.inl (some (aI (iZ (zdiv (((σ.1 (40, 0, 0) 34) + (σ.1 (42, 0, 0) 2)) - 1) (σ.1 (42, 0, 0) 2))))), am_hp σ, t)) : Wp k_X12_entriesNow d (0, [some (aR (some (40, 0, 0)))], [], am_hp σ, t) Q := by
  refine w_s (c' := (1, [some (aR (some (40, 0, 0)))], [aR (some (40, 0, 0))], am_hp σ, t)) rfl rfl ?_
  refine w_get rfl (hp_40 _ 0) rfl rfl ?_
  refine w_s (c' := (5, [some (aR (some (40, 0, 0)))], [aR (some (40, 0, 0)), aI (iZ (σ.1 (40, 0, 0) 34))], am_hp σ, t)) rfl rfl ?_
  refine w_get rfl (hp_40 _ 0) rfl rfl ?_
  refine w_psh rfl zc_2 rfl ?_
  refine w_ial rfl (hp_42 _ 0 0) (by decide) rfl rfl ?_
  refine w_e (c' := (10, [some (aR (some (40, 0, 0)))], [aI (iZ (σ.1 (42, 0, 0) 2)), aI (iZ (σ.1 (40, 0, 0) 34))], am_hp σ, t)) rfl ?_
  refine w_iadd rfl rfl ?_
  refine w_psh rfl zc_1 rfl ?_
  refine w_isub rfl rfl ?_
  refine w_s (c' := (14, [some (aR (some (40, 0, 0)))], [aR (some (40, 0, 0)), aI (iZ (((σ.1 (40, 0, 0) 34) + (σ.1 (42, 0, 0) 2)) - 1))], am_hp σ, t)) rfl rfl ?_
  refine w_get rfl (hp_40 _ 0) rfl rfl ?_
  refine w_psh rfl zc_2 rfl ?_
  refine w_ial rfl (hp_42 _ 0 0) (by decide) rfl rfl ?_
  refine w_e (c' := (19, [some (aR (some (40, 0, 0)))], [aI (iZ (σ.1 (42, 0, 0) 2)), aI (iZ (((σ.1 (40, 0, 0) 34) + (σ.1 (42, 0, 0) 2)) - 1))], am_hp σ, t)) rfl ?_
  refine w_idiv rfl rfl h1 ?_
  exact w_ret rfl rfl q2

theorem e_X12_entriesNow {h : AH} {t : KT} {d : Nat} {P : RS → Prop} (w : Wp k_X12_entriesNow d (0, [some (aR (some (40, 0, 0)))], [], h, t) P) : ∃ r, Ca (d + 1) 261 [aR (some (40, 0, 0))] h t r ∧ P r := ca_W rfl rfl rfl rfl w

theorem b_X12_row_0 {x1 : Int} {x2 : Int} {r1 : Int} {r2 : Int} {r3 : Int} {σ σ1 σ2 σ3 : SG} {t : KT} (c1 : Ca d 217 [aR (some (40, 0, 0)), aI (iZ x1)] (am_hp σ) t (.inl (some (aI (iZ r1))), am_hp σ1, t)) (h2 : -2147483648 ≤ x2 ∧ x2 < 2147483648) (c3 : Ca d 175 [aL (jZ x2), aL (jZ 0), aL (jZ 6)] (am_hp σ1) t (.inl (some (aI (iZ r2))), am_hp σ2, t)) (c4 : Ca d 179 [aR (some (40, 0, 0)), aI (iZ r1), aI (iZ r2)] (am_hp σ2) t (.inl (some (aI (iZ r3))), am_hp σ3, t)) (h5 : -2147483648 ≤ r3 ∧ r3 < 2147483648) (w6 : r3 ≠ 0 → Wp k_X12_row d (23, [some (aR (some (40, 0, 0))), some (aI (iZ x1)), some (aI (iZ x2)), none], [], am_hp σ3, t) Q) (w7 : r3 = 0 → Wp k_X12_row d (21, [some (aR (some (40, 0, 0))), some (aI (iZ x1)), some (aI (iZ x2)), none], [], am_hp σ3, t) Q) : Wp k_X12_row d (0, [some (aR (some (40, 0, 0))), some (aI (iZ x1)), some (aI (iZ x2)), none], [], am_hp σ, t) Q := by
  refine w_s (c' := (1, [some (aR (some (40, 0, 0))), some (aI (iZ x1)), some (aI (iZ x2)), none], [aR (some (40, 0, 0))], am_hp σ, t)) rfl rfl ?_
  refine w_s (c' := (2, [some (aR (some (40, 0, 0))), some (aI (iZ x1)), some (aI (iZ x2)), none], [aR (some (40, 0, 0)), aR (some (40, 0, 0))], am_hp σ, t)) rfl rfl ?_
  refine w_s (c' := (3, [some (aR (some (40, 0, 0))), some (aI (iZ x1)), some (aI (iZ x2)), none], [aI (iZ x1), aR (some (40, 0, 0)), aR (some (40, 0, 0))], am_hp σ, t)) rfl rfl ?_
  refine w_c0 (c' := (6, [some (aR (some (40, 0, 0))), some (aI (iZ x1)), some (aI (iZ x2)), none], [aI (iZ r1), aR (some (40, 0, 0))], am_hp σ1, t)) rfl rfl (rcv_of (hp_40 _ 0)) rfl c1 (Nat.le_refl _) rfl ?_
  refine w_s (c' := (7, [some (aR (some (40, 0, 0))), some (aI (iZ x1)), some (aI (iZ x2)), none], [aI (iZ x2), aI (iZ r1), aR (some (40, 0, 0))], am_hp σ1, t)) rfl rfl ?_
  refine w_i2l rfl rfl h2 ?_
  refine w_psL rfl yc_0 rfl ?_
  refine w_psL rfl yc_6 rfl ?_
  refine w_c0 (c' := (15, [some (aR (some (40, 0, 0))), some (aI (iZ x1)), some (aI (iZ x2)), none], [aI (iZ r2), aI (iZ r1), aR (some (40, 0, 0))], am_hp σ2, t)) rfl rfl rfl rfl c3 (Nat.le_refl _) rfl ?_
  refine w_c0 (c' := (18, [some (aR (some (40, 0, 0))), some (aI (iZ x1)), some (aI (iZ x2)), none], [aI (iZ r3)], am_hp σ3, t)) rfl rfl (rcv_of (hp_40 _ 0)) rfl c4 (Nat.le_refl _) rfl ?_
  exact w_ifne rfl h5 rfl w6 w7

theorem e_X12_row {x1 : Int} {x2 : Int} {h : AH} {t : KT} {d : Nat} {P : RS → Prop} (w : Wp k_X12_row d (0, [some (aR (some (40, 0, 0))), some (aI (iZ x1)), some (aI (iZ x2)), none], [], h, t) P) : ∃ r, Ca (d + 1) 262 [aR (some (40, 0, 0)), aI (iZ x1), aI (iZ x2)] h t r ∧ P r := ca_W rfl rfl rfl rfl w

theorem b_X12_row_21 {x1 : Int} {x2 : Int} {σ : SG} {t : KT} (q1 : Q (.inl (some (aI (iZ 0))), am_hp σ, t)) : Wp k_X12_row d (21, [some (aR (some (40, 0, 0))), some (aI (iZ x1)), some (aI (iZ x2)), none], [], am_hp σ, t) Q := by
  refine w_psh rfl zc_0 rfl ?_
  exact w_ret rfl rfl q1

theorem b_X12_row_23 {x1 : Int} {x2 : Int} {r1 : Int} {σ σ1 : SG} {t : KT} (c1 : Ca d 235 [aR (some (40, 0, 0)), aI (iZ x1)] (am_hp σ) t (.inl (some (aI (iZ r1))), am_hp σ1, t)) (h2 : -2147483648 ≤ x2 ∧ x2 < 2147483648) (w3 : x2 = 0 → Wp k_X12_row d (68, [some (aR (some (40, 0, 0))), some (aI (iZ x1)), some (aI (iZ x2)), some (aI (iZ r1))], [], am_hp σ1, t) Q) (w4 : x2 = 1 → Wp k_X12_row d (73, [some (aR (some (40, 0, 0))), some (aI (iZ x1)), some (aI (iZ x2)), some (aI (iZ r1))], [], am_hp σ1, t) Q) (w5 : x2 = 2 → Wp k_X12_row d (75, [some (aR (some (40, 0, 0))), some (aI (iZ x1)), some (aI (iZ x2)), some (aI (iZ r1))], [], am_hp σ1, t) Q) (w6 : x2 = 3 → Wp k_X12_row d (80, [some (aR (some (40, 0, 0))), some (aI (iZ x1)), some (aI (iZ x2)), some (aI (iZ r1))], [], am_hp σ1, t) Q) (w7 : x2 = 4 → Wp k_X12_row d (85, [some (aR (some (40, 0, 0))), some (aI (iZ x1)), some (aI (iZ x2)), some (aI (iZ r1))], [], am_hp σ1, t) Q) (w8 : x2 = 5 → Wp k_X12_row d (90, [some (aR (some (40, 0, 0))), some (aI (iZ x1)), some (aI (iZ x2)), some (aI (iZ r1))], [], am_hp σ1, t) Q) (w9 : (x2 < 0 ∨ 6 ≤ x2) → Wp k_X12_row d (95, [some (aR (some (40, 0, 0))), some (aI (iZ x1)), some (aI (iZ x2)), some (aI (iZ r1))], [], am_hp σ1, t) Q) : Wp k_X12_row d (23, [some (aR (some (40, 0, 0))), some (aI (iZ x1)), some (aI (iZ x2)), none], [], am_hp σ, t) Q := by
  refine w_s (c' := (24, [some (aR (some (40, 0, 0))), some (aI (iZ x1)), some (aI (iZ x2)), none], [aR (some (40, 0, 0))], am_hp σ, t)) rfl rfl ?_
  refine w_s (c' := (25, [some (aR (some (40, 0, 0))), some (aI (iZ x1)), some (aI (iZ x2)), none], [aI (iZ x1), aR (some (40, 0, 0))], am_hp σ, t)) rfl rfl ?_
  refine w_c0 (c' := (28, [some (aR (some (40, 0, 0))), some (aI (iZ x1)), some (aI (iZ x2)), none], [aI (iZ r1)], am_hp σ1, t)) rfl rfl (rcv_of (hp_40 _ 0)) rfl c1 (Nat.le_refl _) rfl ?_
  refine w_s (c' := (29, [some (aR (some (40, 0, 0))), some (aI (iZ x1)), some (aI (iZ x2)), some (aI (iZ r1))], [], am_hp σ1, t)) rfl rfl ?_
  refine w_s (c' := (30, [some (aR (some (40, 0, 0))), some (aI (iZ x1)), some (aI (iZ x2)), some (aI (iZ r1))], [aI (iZ x2)], am_hp σ1, t)) rfl rfl ?_
  refine w_tab rfl h2 ?_
  rcases (by omega : x2 = 0 ∨ x2 = 1 ∨ x2 = 2 ∨ x2 = 3 ∨ x2 = 4 ∨ x2 = 5 ∨ (x2 < 0 ∨ 6 ≤ x2)) with hd | hd | hd | hd | hd | hd | hd
  · rw [show (if x2 < (0 : Int) then 95 else [68, 73, 75, 80, 85, 90].getD (x2 - 0).toNat 95) = 68 by rw [hd]; rfl]; exact w3 hd
  · rw [show (if x2 < (0 : Int) then 95 else [68, 73, 75, 80, 85, 90].getD (x2 - 0).toNat 95) = 73 by rw [hd]; rfl]; exact w4 hd
  · rw [show (if x2 < (0 : Int) then 95 else [68, 73, 75, 80, 85, 90].getD (x2 - 0).toNat 95) = 75 by rw [hd]; rfl]; exact w5 hd
  · rw [show (if x2 < (0 : Int) then 95 else [68, 73, 75, 80, 85, 90].getD (x2 - 0).toNat 95) = 80 by rw [hd]; rfl]; exact w6 hd
  · rw [show (if x2 < (0 : Int) then 95 else [68, 73, 75, 80, 85, 90].getD (x2 - 0).toNat 95) = 85 by rw [hd]; rfl]; exact w7 hd
  · rw [show (if x2 < (0 : Int) then 95 else [68, 73, 75, 80, 85, 90].getD (x2 - 0).toNat 95) = 90 by rw [hd]; rfl]; exact w8 hd
  · rw [show (if x2 < (0 : Int) then 95 else [68, 73, 75, 80, 85, 90].getD (x2 - 0).toNat 95) = 95 by exact tgt_df [68, 73, 75, 80, 85, 90] _ (by decide) hd]; exact w9 hd

theorem b_X12_row_68 {x1 : Int} {x2 : Int} {x3 : Int} {σ : SG} {t : KT} (q1 : Q (.inl (some (aI (iZ (σ.1 (40, 0, 0) 33)))), am_hp σ, t)) : Wp k_X12_row d (68, [some (aR (some (40, 0, 0))), some (aI (iZ x1)), some (aI (iZ x2)), some (aI (iZ x3))], [], am_hp σ, t) Q := by
  refine w_s (c' := (69, [some (aR (some (40, 0, 0))), some (aI (iZ x1)), some (aI (iZ x2)), some (aI (iZ x3))], [aR (some (40, 0, 0))], am_hp σ, t)) rfl rfl ?_
  refine w_get rfl (hp_40 _ 0) rfl rfl ?_
  exact w_ret rfl rfl q1

theorem b_X12_row_73 {x1 : Int} {x2 : Int} {x3 : Int} {σ : SG} {t : KT} (q1 : Q (.inl (some (aI (iZ x3))), am_hp σ, t)) : Wp k_X12_row d (73, [some (aR (some (40, 0, 0))), some (aI (iZ x1)), some (aI (iZ x2)), some (aI (iZ x3))], [], am_hp σ, t) Q := by
  refine w_s (c' := (74, [some (aR (some (40, 0, 0))), some (aI (iZ x1)), some (aI (iZ x2)), some (aI (iZ x3))], [aI (iZ x3)], am_hp σ, t)) rfl rfl ?_
  exact w_ret rfl rfl q1

theorem b_X12_row_75 {x1 : Int} {x2 : Int} {x3 : Int} {r1 : Int} {σ σ1 : SG} {t : KT} (c1 : Ca d 239 [aR (some (40, 0, 0))] (am_hp σ) t (.inl (some (aI (iZ r1))), am_hp σ1, t)) (q2 : Q (.inl (some (aI (iZ r1))), am_hp σ1, t)) : Wp k_X12_row d (75, [some (aR (some (40, 0, 0))), some (aI (iZ x1)), some (aI (iZ x2)), some (aI (iZ x3))], [], am_hp σ, t) Q := by
  refine w_s (c' := (76, [some (aR (some (40, 0, 0))), some (aI (iZ x1)), some (aI (iZ x2)), some (aI (iZ x3))], [aR (some (40, 0, 0))], am_hp σ, t)) rfl rfl ?_
  refine w_c0 (c' := (79, [some (aR (some (40, 0, 0))), some (aI (iZ x1)), some (aI (iZ x2)), some (aI (iZ x3))], [aI (iZ r1)], am_hp σ1, t)) rfl rfl (rcv_of (hp_40 _ 0)) rfl c1 (Nat.le_refl _) rfl ?_
  exact w_ret rfl rfl q2

theorem b_X12_row_80 {x1 : Int} {x2 : Int} {x3 : Int} {r1 : Int} {σ σ1 : SG} {t : KT} (c1 : Ca d 261 [aR (some (40, 0, 0))] (am_hp σ) t (.inl (some (aI (iZ r1))), am_hp σ1, t)) (q2 : Q (.inl (some (aI (iZ r1))), am_hp σ1, t)) : Wp k_X12_row d (80, [some (aR (some (40, 0, 0))), some (aI (iZ x1)), some (aI (iZ x2)), some (aI (iZ x3))], [], am_hp σ, t) Q := by
  refine w_s (c' := (81, [some (aR (some (40, 0, 0))), some (aI (iZ x1)), some (aI (iZ x2)), some (aI (iZ x3))], [aR (some (40, 0, 0))], am_hp σ, t)) rfl rfl ?_
  refine w_c0 (c' := (84, [some (aR (some (40, 0, 0))), some (aI (iZ x1)), some (aI (iZ x2)), some (aI (iZ x3))], [aI (iZ r1)], am_hp σ1, t)) rfl rfl (rcv_of (hp_40 _ 0)) rfl c1 (Nat.le_refl _) rfl ?_
  exact w_ret rfl rfl q2

theorem b_X12_row_85 {x1 : Int} {x2 : Int} {x3 : Int} {r1 : Int} {σ σ1 : SG} {t : KT} (c1 : Ca d 258 [aR (some (40, 0, 0))] (am_hp σ) t (.inl (some (aI (iZ r1))), am_hp σ1, t)) (q2 : Q (.inl (some (aI (iZ r1))), am_hp σ1, t)) : Wp k_X12_row d (85, [some (aR (some (40, 0, 0))), some (aI (iZ x1)), some (aI (iZ x2)), some (aI (iZ x3))], [], am_hp σ, t) Q := by
  refine w_s (c' := (86, [some (aR (some (40, 0, 0))), some (aI (iZ x1)), some (aI (iZ x2)), some (aI (iZ x3))], [aR (some (40, 0, 0))], am_hp σ, t)) rfl rfl ?_
  refine w_c0 (c' := (89, [some (aR (some (40, 0, 0))), some (aI (iZ x1)), some (aI (iZ x2)), some (aI (iZ x3))], [aI (iZ r1)], am_hp σ1, t)) rfl rfl (rcv_of (hp_40 _ 0)) rfl c1 (Nat.le_refl _) rfl ?_
  exact w_ret rfl rfl q2

theorem b_X12_row_90 {x1 : Int} {x2 : Int} {x3 : Int} {r1 : Int} {σ σ1 : SG} {t : KT} (c1 : Ca d 259 [aR (some (40, 0, 0))] (am_hp σ) t (.inl (some (aI (iZ r1))), am_hp σ1, t)) (q2 : Q (.inl (some (aI (iZ r1))), am_hp σ1, t)) : Wp k_X12_row d (90, [some (aR (some (40, 0, 0))), some (aI (iZ x1)), some (aI (iZ x2)), some (aI (iZ x3))], [], am_hp σ, t) Q := by
  refine w_s (c' := (91, [some (aR (some (40, 0, 0))), some (aI (iZ x1)), some (aI (iZ x2)), some (aI (iZ x3))], [aR (some (40, 0, 0))], am_hp σ, t)) rfl rfl ?_
  refine w_c0 (c' := (94, [some (aR (some (40, 0, 0))), some (aI (iZ x1)), some (aI (iZ x2)), some (aI (iZ x3))], [aI (iZ r1)], am_hp σ1, t)) rfl rfl (rcv_of (hp_40 _ 0)) rfl c1 (Nat.le_refl _) rfl ?_
  exact w_ret rfl rfl q2

theorem b_X12_row_95 {x1 : Int} {x2 : Int} {x3 : Int} {r1 : Int} {σ σ1 : SG} {t : KT} (c1 : Ca d 260 [aR (some (40, 0, 0))] (am_hp σ) t (.inl (some (aI (iZ r1))), am_hp σ1, t)) (q2 : Q (.inl (some (aI (iZ r1))), am_hp σ1, t)) : Wp k_X12_row d (95, [some (aR (some (40, 0, 0))), some (aI (iZ x1)), some (aI (iZ x2)), some (aI (iZ x3))], [], am_hp σ, t) Q := by
  refine w_s (c' := (96, [some (aR (some (40, 0, 0))), some (aI (iZ x1)), some (aI (iZ x2)), some (aI (iZ x3))], [aR (some (40, 0, 0))], am_hp σ, t)) rfl rfl ?_
  refine w_c0 (c' := (99, [some (aR (some (40, 0, 0))), some (aI (iZ x1)), some (aI (iZ x2)), some (aI (iZ x3))], [aI (iZ r1)], am_hp σ1, t)) rfl rfl (rcv_of (hp_40 _ 0)) rfl c1 (Nat.le_refl _) rfl ?_
  exact w_ret rfl rfl q2

theorem b_X12_wordAsInt_0 {x1 : Int} {σ : SG} {t : KT} (h1 : 0 ≤ x1 ∧ x1 < 120) (w2 : Wp k_X12_wordAsInt d (12, [some (aR (some (40, 0, 0))), some (aI (iZ x1)), some (aI (iZ (zshl (σ.1 (51, 0, 0) x1.toNat) 28))), some (aI (iZ 0))], [], am_hp σ, t) Q) : Wp k_X12_wordAsInt d (0, [some (aR (some (40, 0, 0))), some (aI (iZ x1)), none, none], [], am_hp σ, t) Q := by
  refine w_s (c' := (1, [some (aR (some (40, 0, 0))), some (aI (iZ x1)), none, none], [aR (some (40, 0, 0))], am_hp σ, t)) rfl rfl ?_
  refine w_get rfl (hp_40 _ 0) rfl rfl ?_
  refine w_s (c' := (5, [some (aR (some (40, 0, 0))), some (aI (iZ x1)), none, none], [aI (iZ x1), aR (some (51, 0, 0))], am_hp σ, t)) rfl rfl ?_
  refine w_ial rfl (hp_51 _ 0 0) h1 rfl rfl ?_
  refine w_psh rfl zc_28 rfl ?_
  refine w_ishl rfl rfl ?_
  refine w_s (c' := (10, [some (aR (some (40, 0, 0))), some (aI (iZ x1)), some (aI (iZ (zshl (σ.1 (51, 0, 0) x1.toNat) 28))), none], [], am_hp σ, t)) rfl rfl ?_
  refine w_psh rfl zc_0 rfl ?_
  refine w_s (c' := (12, [some (aR (some (40, 0, 0))), some (aI (iZ x1)), some (aI (iZ (zshl (σ.1 (51, 0, 0) x1.toNat) 28))), some (aI (iZ 0))], [], am_hp σ, t)) rfl rfl ?_
  exact w2

theorem e_X12_wordAsInt {x1 : Int} {h : AH} {t : KT} {d : Nat} {P : RS → Prop} (w : Wp k_X12_wordAsInt d (0, [some (aR (some (40, 0, 0))), some (aI (iZ x1)), none, none], [], h, t) P) : ∃ r, Ca (d + 1) 263 [aR (some (40, 0, 0)), aI (iZ x1)] h t r ∧ P r := ca_W rfl rfl rfl rfl w

theorem b_X12_wordAsInt_12 {x1 : Int} {x2 : Int} {x3 : Int} {r1 : Int} {σ σ1 : SG} {t : KT} (c1 : Ca d 237 [aR (some (40, 0, 0)), aI (iZ x1)] (am_hp σ) t (.inl (some (aI (iZ r1))), am_hp σ1, t)) (h2 : -2147483648 ≤ x3 ∧ x3 < 2147483648) (h3 : -2147483648 ≤ r1 ∧ r1 < 2147483648) (w4 : r1 ≤ x3 → Wp k_X12_wordAsInt d (57, [some (aR (some (40, 0, 0))), some (aI (iZ x1)), some (aI (iZ x2)), some (aI (iZ x3))], [], am_hp σ1, t) Q) (w5 : x3 < r1 → Wp k_X12_wordAsInt d (21, [some (aR (some (40, 0, 0))), some (aI (iZ x1)), some (aI (iZ x2)), some (aI (iZ x3))], [], am_hp σ1, t) Q) : Wp k_X12_wordAsInt d (12, [some (aR (some (40, 0, 0))), some (aI (iZ x1)), some (aI (iZ x2)), some (aI (iZ x3))], [], am_hp σ, t) Q := by
  refine w_s (c' := (13, [some (aR (some (40, 0, 0))), some (aI (iZ x1)), some (aI (iZ x2)), some (aI (iZ x3))], [aI (iZ x3)], am_hp σ, t)) rfl rfl ?_
  refine w_s (c' := (14, [some (aR (some (40, 0, 0))), some (aI (iZ x1)), some (aI (iZ x2)), some (aI (iZ x3))], [aR (some (40, 0, 0)), aI (iZ x3)], am_hp σ, t)) rfl rfl ?_
  refine w_s (c' := (15, [some (aR (some (40, 0, 0))), some (aI (iZ x1)), some (aI (iZ x2)), some (aI (iZ x3))], [aI (iZ x1), aR (some (40, 0, 0)), aI (iZ x3)], am_hp σ, t)) rfl rfl ?_
  refine w_c0 (c' := (18, [some (aR (some (40, 0, 0))), some (aI (iZ x1)), some (aI (iZ x2)), some (aI (iZ x3))], [aI (iZ r1), aI (iZ x3)], am_hp σ1, t)) rfl rfl (rcv_of (hp_40 _ 0)) rfl c1 (Nat.le_refl _) rfl ?_
  exact w_icge rfl h2 h3 rfl w4 w5

theorem b_X12_wordAsInt_21 {x1 : Int} {x2 : Int} {x3 : Int} {σ : SG} {t : KT} (h1 : 0 ≤ x1 ∧ x1 < 121) (h2 : 0 ≤ (σ.1 (52, 0, 0) x1.toNat) + x3 ∧ (σ.1 (52, 0, 0) x1.toNat) + x3 < 120) (h3 : 0 ≤ x1 ∧ x1 < 120) (h4 : 0 ≤ σ.1 (51, 0, 0) x1.toNat ∧ σ.1 (51, 0, 0) x1.toNat < 9) (w5 : Wp k_X12_wordAsInt d (12, [some (aR (some (40, 0, 0))), some (aI (iZ x1)), some (aI (iZ (zor x2 (zshl (σ.1 (48, 0, 0) ((σ.1 (52, 0, 0) x1.toNat) + x3).toNat) (x3 * (σ.1 (47, 0, 0) (σ.1 (51, 0, 0) x1.toNat).toNat)))))), some (aI (iZ (x3 + 1)))], [], am_hp σ, t) Q) : Wp k_X12_wordAsInt d (21, [some (aR (some (40, 0, 0))), some (aI (iZ x1)), some (aI (iZ x2)), some (aI (iZ x3))], [], am_hp σ, t) Q := by
  refine w_s (c' := (22, [some (aR (some (40, 0, 0))), some (aI (iZ x1)), some (aI (iZ x2)), some (aI (iZ x3))], [aI (iZ x2)], am_hp σ, t)) rfl rfl ?_
  refine w_s (c' := (23, [some (aR (some (40, 0, 0))), some (aI (iZ x1)), some (aI (iZ x2)), some (aI (iZ x3))], [aR (some (40, 0, 0)), aI (iZ x2)], am_hp σ, t)) rfl rfl ?_
  refine w_get rfl (hp_40 _ 0) rfl rfl ?_
  refine w_s (c' := (27, [some (aR (some (40, 0, 0))), some (aI (iZ x1)), some (aI (iZ x2)), some (aI (iZ x3))], [aR (some (40, 0, 0)), aR (some (48, 0, 0)), aI (iZ x2)], am_hp σ, t)) rfl rfl ?_
  refine w_get rfl (hp_40 _ 0) rfl rfl ?_
  refine w_s (c' := (31, [some (aR (some (40, 0, 0))), some (aI (iZ x1)), some (aI (iZ x2)), some (aI (iZ x3))], [aI (iZ x1), aR (some (52, 0, 0)), aR (some (48, 0, 0)), aI (iZ x2)], am_hp σ, t)) rfl rfl ?_
  refine w_ial rfl (hp_52 _ 0 0) h1 rfl rfl ?_
  refine w_s (c' := (33, [some (aR (some (40, 0, 0))), some (aI (iZ x1)), some (aI (iZ x2)), some (aI (iZ x3))], [aI (iZ x3), aI (iZ (σ.1 (52, 0, 0) x1.toNat)), aR (some (48, 0, 0)), aI (iZ x2)], am_hp σ, t)) rfl rfl ?_
  refine w_iadd rfl rfl ?_
  refine w_ial rfl (hp_48 _ 0 0) h2 rfl rfl ?_
  refine w_s (c' := (36, [some (aR (some (40, 0, 0))), some (aI (iZ x1)), some (aI (iZ x2)), some (aI (iZ x3))], [aI (iZ x3), aI (iZ (σ.1 (48, 0, 0) ((σ.1 (52, 0, 0) x1.toNat) + x3).toNat)), aI (iZ x2)], am_hp σ, t)) rfl rfl ?_
  refine w_s (c' := (37, [some (aR (some (40, 0, 0))), some (aI (iZ x1)), some (aI (iZ x2)), some (aI (iZ x3))], [aR (some (40, 0, 0)), aI (iZ x3), aI (iZ (σ.1 (48, 0, 0) ((σ.1 (52, 0, 0) x1.toNat) + x3).toNat)), aI (iZ x2)], am_hp σ, t)) rfl rfl ?_
  refine w_get rfl (hp_40 _ 0) rfl rfl ?_
  refine w_s (c' := (41, [some (aR (some (40, 0, 0))), some (aI (iZ x1)), some (aI (iZ x2)), some (aI (iZ x3))], [aR (some (40, 0, 0)), aR (some (47, 0, 0)), aI (iZ x3), aI (iZ (σ.1 (48, 0, 0) ((σ.1 (52, 0, 0) x1.toNat) + x3).toNat)), aI (iZ x2)], am_hp σ, t)) rfl rfl ?_
  refine w_get rfl (hp_40 _ 0) rfl rfl ?_
  refine w_s (c' := (45, [some (aR (some (40, 0, 0))), some (aI (iZ x1)), some (aI (iZ x2)), some (aI (iZ x3))], [aI (iZ x1), aR (some (51, 0, 0)), aR (some (47, 0, 0)), aI (iZ x3), aI (iZ (σ.1 (48, 0, 0) ((σ.1 (52, 0, 0) x1.toNat) + x3).toNat)), aI (iZ x2)], am_hp σ, t)) rfl rfl ?_
  refine w_ial rfl (hp_51 _ 0 0) h3 rfl rfl ?_
  refine w_ial rfl (hp_47 _ 0 0) h4 rfl rfl ?_
  refine w_imul rfl rfl ?_
  refine w_ishl rfl rfl ?_
  refine w_ior rfl rfl ?_
  refine w_s (c' := (51, [some (aR (some (40, 0, 0))), some (aI (iZ x1)), some (aI (iZ (zor x2 (zshl (σ.1 (48, 0, 0) ((σ.1 (52, 0, 0) x1.toNat) + x3).toNat) (x3 * (σ.1 (47, 0, 0) (σ.1 (51, 0, 0) x1.toNat).toNat)))))), some (aI (iZ x3))], [], am_hp σ, t)) rfl rfl ?_
  refine w_inc (a := x3) (ls' := [some (aR (some (40, 0, 0))), some (aI (iZ x1)), some (aI (iZ (zor x2 (zshl (σ.1 (48, 0, 0) ((σ.1 (52, 0, 0) x1.toNat) + x3).toNat) (x3 * (σ.1 (47, 0, 0) (σ.1 (51, 0, 0) x1.toNat).toNat)))))), some (aI (iZ (x3 + 1)))]) rfl rfl rfl zc_1 rfl rfl ?_
  refine w_s (c' := (12, [some (aR (some (40, 0, 0))), some (aI (iZ x1)), some (aI (iZ (zor x2 (zshl (σ.1 (48, 0, 0) ((σ.1 (52, 0, 0) x1.toNat) + x3).toNat) (x3 * (σ.1 (47, 0, 0) (σ.1 (51, 0, 0) x1.toNat).toNat)))))), some (aI (iZ (x3 + 1)))], [], am_hp σ, t)) rfl rfl ?_
  exact w5

theorem b_X12_wordAsInt_57 {x1 : Int} {x2 : Int} {x3 : Int} {σ : SG} {t : KT} (q1 : Q (.inl (some (aI (iZ x2))), am_hp σ, t)) : Wp k_X12_wordAsInt d (57, [some (aR (some (40, 0, 0))), some (aI (iZ x1)), some (aI (iZ x2)), some (aI (iZ x3))], [], am_hp σ, t) Q := by
  refine w_s (c' := (58, [some (aR (some (40, 0, 0))), some (aI (iZ x1)), some (aI (iZ x2)), some (aI (iZ x3))], [aI (iZ x2)], am_hp σ, t)) rfl rfl ?_
  exact w_ret rfl rfl q1

theorem b_X12_word_0 {x1 : Int} {x2 : Int} {r1 : Int} {r2 : Int} {σ σ1 σ2 : SG} {t : KT} (c1 : Ca d 236 [aR (some (40, 0, 0)), aI (iZ x1), aI (iZ x2)] (am_hp σ) t (.inl (some (aI (iZ r1))), am_hp σ1, t)) (c2 : Ca d 178 [aR (some (40, 0, 0)), aI (iZ r1)] (am_hp σ1) t (.inl (some (aI (iZ r2))), am_hp σ2, t)) (h3 : -2147483648 ≤ r2 ∧ r2 < 2147483648) (w4 : r2 = 0 → Wp k_X12_word d (21, [some (aR (some (40, 0, 0))), some (aI (iZ x1)), some (aI (iZ x2))], [], am_hp σ2, t) Q) (w5 : r2 ≠ 0 → Wp k_X12_word d (13, [some (aR (some (40, 0, 0))), some (aI (iZ x1)), some (aI (iZ x2))], [], am_hp σ2, t) Q) : Wp k_X12_word d (0, [some (aR (some (40, 0, 0))), some (aI (iZ x1)), some (aI (iZ x2))], [], am_hp σ, t) Q := by
  refine w_s (c' := (1, [some (aR (some (40, 0, 0))), some (aI (iZ x1)), some (aI (iZ x2))], [aR (some (40, 0, 0))], am_hp σ, t)) rfl rfl ?_
  refine w_s (c' := (2, [some (aR (some (40, 0, 0))), some (aI (iZ x1)), some (aI (iZ x2))], [aR (some (40, 0, 0)), aR (some (40, 0, 0))], am_hp σ, t)) rfl rfl ?_
  refine w_s (c' := (3, [some (aR (some (40, 0, 0))), some (aI (iZ x1)), some (aI (iZ x2))], [aI (iZ x1), aR (some (40, 0, 0)), aR (some (40, 0, 0))], am_hp σ, t)) rfl rfl ?_
  refine w_s (c' := (4, [some (aR (some (40, 0, 0))), some (aI (iZ x1)), some (aI (iZ x2))], [aI (iZ x2), aI (iZ x1), aR (some (40, 0, 0)), aR (some (40, 0, 0))], am_hp σ, t)) rfl rfl ?_
  refine w_c0 (c' := (7, [some (aR (some (40, 0, 0))), some (aI (iZ x1)), some (aI (iZ x2))], [aI (iZ r1), aR (some (40, 0, 0))], am_hp σ1, t)) rfl rfl (rcv_of (hp_40 _ 0)) rfl c1 (Nat.le_refl _) rfl ?_
  refine w_c0 (c' := (10, [some (aR (some (40, 0, 0))), some (aI (iZ x1)), some (aI (iZ x2))], [aI (iZ r2)], am_hp σ2, t)) rfl rfl (rcv_of (hp_40 _ 0)) rfl c2 (Nat.le_refl _) rfl ?_
  exact w_ifeq rfl h3 rfl w4 w5

theorem e_X12_word {x1 : Int} {x2 : Int} {h : AH} {t : KT} {d : Nat} {P : RS → Prop} (w : Wp k_X12_word d (0, [some (aR (some (40, 0, 0))), some (aI (iZ x1)), some (aI (iZ x2))], [], h, t) P) : ∃ r, Ca (d + 1) 264 [aR (some (40, 0, 0)), aI (iZ x1), aI (iZ x2)] h t r ∧ P r := ca_W rfl rfl rfl rfl w

theorem b_X12_word_13 {x1 : Int} {x2 : Int} {r1 : Int} {σ σ1 : SG} {t : KT} (c1 : Ca d 263 [aR (some (40, 0, 0)), aI (iZ x2)] (am_hp σ) t (.inl (some (aI (iZ r1))), am_hp σ1, t)) (w2 : Wp k_X12_word d (22, [some (aR (some (40, 0, 0))), some (aI (iZ x1)), some (aI (iZ x2))], [aI (iZ r1)], am_hp σ1, t) Q) : Wp k_X12_word d (13, [some (aR (some (40, 0, 0))), some (aI (iZ x1)), some (aI (iZ x2))], [], am_hp σ, t) Q := by
  refine w_s (c' := (14, [some (aR (some (40, 0, 0))), some (aI (iZ x1)), some (aI (iZ x2))], [aR (some (40, 0, 0))], am_hp σ, t)) rfl rfl ?_
  refine w_s (c' := (15, [some (aR (some (40, 0, 0))), some (aI (iZ x1)), some (aI (iZ x2))], [aI (iZ x2), aR (some (40, 0, 0))], am_hp σ, t)) rfl rfl ?_
  refine w_c0 (c' := (18, [some (aR (some (40, 0, 0))), some (aI (iZ x1)), some (aI (iZ x2))], [aI (iZ r1)], am_hp σ1, t)) rfl rfl (rcv_of (hp_40 _ 0)) rfl c1 (Nat.le_refl _) rfl ?_
  refine w_s (c' := (22, [some (aR (some (40, 0, 0))), some (aI (iZ x1)), some (aI (iZ x2))], [aI (iZ r1)], am_hp σ1, t)) rfl rfl ?_
  exact w2

theorem b_X12_word_21 {x1 : Int} {x2 : Int} {σ : SG} {t : KT} (w1 : Wp k_X12_word d (22, [some (aR (some (40, 0, 0))), some (aI (iZ x1)), some (aI (iZ x2))], [aI (iZ 0)], am_hp σ, t) Q) : Wp k_X12_word d (21, [some (aR (some (40, 0, 0))), some (aI (iZ x1)), some (aI (iZ x2))], [], am_hp σ, t) Q := by
  refine w_psh rfl zc_0 rfl ?_
  exact w1

theorem b_X12_word_22 {x1 : Int} {x2 : Int} {xs0 : Int} {σ : SG} {t : KT} (q1 : Q (.inl (some (aI (iZ xs0))), am_hp σ, t)) : Wp k_X12_word d (22, [some (aR (some (40, 0, 0))), some (aI (iZ x1)), some (aI (iZ x2))], [aI (iZ xs0)], am_hp σ, t) Q := by
  exact w_ret rfl rfl q1

theorem b_X12_wordPart_0 {x1 : Int} {x2 : Int} {x3 : Int} {r1 : Int} {r2 : Int} {r3 : Int} {σ σ1 σ2 σ3 : SG} {t : KT} (c1 : Ca d 236 [aR (some (40, 0, 0)), aI (iZ x1), aI (iZ x2)] (am_hp σ) t (.inl (some (aI (iZ r1))), am_hp σ1, t)) (h2 : -2147483648 ≤ x3 ∧ x3 < 2147483648) (c3 : Ca d 175 [aL (jZ x3), aL (jZ 0), aL (jZ 3)] (am_hp σ1) t (.inl (some (aI (iZ r2))), am_hp σ2, t)) (c4 : Ca d 179 [aR (some (40, 0, 0)), aI (iZ r1), aI (iZ r2)] (am_hp σ2) t (.inl (some (aI (iZ r3))), am_hp σ3, t)) (h5 : -2147483648 ≤ r3 ∧ r3 < 2147483648) (w6 : r3 ≠ 0 → Wp k_X12_wordPart d (24, [some (aR (some (40, 0, 0))), some (aI (iZ x1)), some (aI (iZ x2)), some (aI (iZ x3))], [], am_hp σ3, t) Q) (w7 : r3 = 0 → Wp k_X12_wordPart d (22, [some (aR (some (40, 0, 0))), some (aI (iZ x1)), some (aI (iZ x2)), some (aI (iZ x3))], [], am_hp σ3, t) Q) : Wp k_X12_wordPart d (0, [some (aR (some (40, 0, 0))), some (aI (iZ x1)), some (aI (iZ x2)), some (aI (iZ x3))], [], am_hp σ, t) Q := by
  refine w_s (c' := (1, [some (aR (some (40, 0, 0))), some (aI (iZ x1)), some (aI (iZ x2)), some (aI (iZ x3))], [aR (some (40, 0, 0))], am_hp σ, t)) rfl rfl ?_
  refine w_s (c' := (2, [some (aR (some (40, 0, 0))), some (aI (iZ x1)), some (aI (iZ x2)), some (aI (iZ x3))], [aR (some (40, 0, 0)), aR (some (40, 0, 0))], am_hp σ, t)) rfl rfl ?_
  refine w_s (c' := (3, [some (aR (some (40, 0, 0))), some (aI (iZ x1)), some (aI (iZ x2)), some (aI (iZ x3))], [aI (iZ x1), aR (some (40, 0, 0)), aR (some (40, 0, 0))], am_hp σ, t)) rfl rfl ?_
  refine w_s (c' := (4, [some (aR (some (40, 0, 0))), some (aI (iZ x1)), some (aI (iZ x2)), some (aI (iZ x3))], [aI (iZ x2), aI (iZ x1), aR (some (40, 0, 0)), aR (some (40, 0, 0))], am_hp σ, t)) rfl rfl ?_
  refine w_c0 (c' := (7, [some (aR (some (40, 0, 0))), some (aI (iZ x1)), some (aI (iZ x2)), some (aI (iZ x3))], [aI (iZ r1), aR (some (40, 0, 0))], am_hp σ1, t)) rfl rfl (rcv_of (hp_40 _ 0)) rfl c1 (Nat.le_refl _) rfl ?_
  refine w_s (c' := (8, [some (aR (some (40, 0, 0))), some (aI (iZ x1)), some (aI (iZ x2)), some (aI (iZ x3))], [aI (iZ x3), aI (iZ r1), aR (some (40, 0, 0))], am_hp σ1, t)) rfl rfl ?_
  refine w_i2l rfl rfl h2 ?_
  refine w_psL rfl yc_0 rfl ?_
  refine w_psL rfl yc_3 rfl ?_
  refine w_c0 (c' := (16, [some (aR (some (40, 0, 0))), some (aI (iZ x1)), some (aI (iZ x2)), some (aI (iZ x3))], [aI (iZ r2), aI (iZ r1), aR (some (40, 0, 0))], am_hp σ2, t)) rfl rfl rfl rfl c3 (Nat.le_refl _) rfl ?_
  refine w_c0 (c' := (19, [some (aR (some (40, 0, 0))), some (aI (iZ x1)), some (aI (iZ x2)), some (aI (iZ x3))], [aI (iZ r3)], am_hp σ3, t)) rfl rfl (rcv_of (hp_40 _ 0)) rfl c4 (Nat.le_refl _) rfl ?_
  exact w_ifne rfl h5 rfl w6 w7

theorem e_X12_wordPart {x1 : Int} {x2 : Int} {x3 : Int} {h : AH} {t : KT} {d : Nat} {P : RS → Prop} (w : Wp k_X12_wordPart d (0, [some (aR (some (40, 0, 0))), some (aI (iZ x1)), some (aI (iZ x2)), some (aI (iZ x3))], [], h, t) P) : ∃ r, Ca (d + 1) 265 [aR (some (40, 0, 0)), aI (iZ x1), aI (iZ x2), aI (iZ x3)] h t r ∧ P r := ca_W rfl rfl rfl rfl w

theorem b_X12_wordPart_22 {x1 : Int} {x2 : Int} {x3 : Int} {σ : SG} {t : KT} (q1 : Q (.inl (some (aI (iZ 0))), am_hp σ, t)) : Wp k_X12_wordPart d (22, [some (aR (some (40, 0, 0))), some (aI (iZ x1)), some (aI (iZ x2)), some (aI (iZ x3))], [], am_hp σ, t) Q := by
  refine w_psh rfl zc_0 rfl ?_
  exact w_ret rfl rfl q1

theorem b_X12_wordPart_24 {x1 : Int} {x2 : Int} {x3 : Int} {σ : SG} {t : KT} (h1 : -2147483648 ≤ x3 ∧ x3 < 2147483648) (w2 : x3 = 0 → Wp k_X12_wordPart d (52, [some (aR (some (40, 0, 0))), some (aI (iZ x1)), some (aI (iZ x2)), some (aI (iZ x3))], [], am_hp σ, t) Q) (w3 : x3 = 1 → Wp k_X12_wordPart d (59, [some (aR (some (40, 0, 0))), some (aI (iZ x1)), some (aI (iZ x2)), some (aI (iZ x3))], [], am_hp σ, t) Q) (w4 : x3 = 2 → Wp k_X12_wordPart d (65, [some (aR (some (40, 0, 0))), some (aI (iZ x1)), some (aI (iZ x2)), some (aI (iZ x3))], [], am_hp σ, t) Q) (w5 : (x3 < 0 ∨ 3 ≤ x3) → Wp k_X12_wordPart d (72, [some (aR (some (40, 0, 0))), some (aI (iZ x1)), some (aI (iZ x2)), some (aI (iZ x3))], [], am_hp σ, t) Q) : Wp k_X12_wordPart d (24, [some (aR (some (40, 0, 0))), some (aI (iZ x1)), some (aI (iZ x2)), some (aI (iZ x3))], [], am_hp σ, t) Q := by
  refine w_s (c' := (25, [some (aR (some (40, 0, 0))), some (aI (iZ x1)), some (aI (iZ x2)), some (aI (iZ x3))], [aI (iZ x3)], am_hp σ, t)) rfl rfl ?_
  refine w_tab rfl h1 ?_
  rcases (by omega : x3 = 0 ∨ x3 = 1 ∨ x3 = 2 ∨ (x3 < 0 ∨ 3 ≤ x3)) with hd | hd | hd | hd
  · rw [show (if x3 < (0 : Int) then 72 else [52, 59, 65].getD (x3 - 0).toNat 72) = 52 by rw [hd]; rfl]; exact w2 hd
  · rw [show (if x3 < (0 : Int) then 72 else [52, 59, 65].getD (x3 - 0).toNat 72) = 59 by rw [hd]; rfl]; exact w3 hd
  · rw [show (if x3 < (0 : Int) then 72 else [52, 59, 65].getD (x3 - 0).toNat 72) = 65 by rw [hd]; rfl]; exact w4 hd
  · rw [show (if x3 < (0 : Int) then 72 else [52, 59, 65].getD (x3 - 0).toNat 72) = 72 by exact tgt_df [52, 59, 65] _ (by decide) hd]; exact w5 hd

theorem b_X12_wordPart_52 {x1 : Int} {x2 : Int} {x3 : Int} {σ : SG} {t : KT} (h1 : 0 ≤ x2 ∧ x2 < 120) (q2 : Q (.inl (some (aI (iZ (σ.1 (51, 0, 0) x2.toNat)))), am_hp σ, t)) : Wp k_X12_wordPart d (52, [some (aR (some (40, 0, 0))), some (aI (iZ x1)), some (aI (iZ x2)), some (aI (iZ x3))], [], am_hp σ, t) Q := by
  refine w_s (c' := (53, [some (aR (some (40, 0, 0))), some (aI (iZ x1)), some (aI (iZ x2)), some (aI (iZ x3))], [aR (some (40, 0, 0))], am_hp σ, t)) rfl rfl ?_
  refine w_get rfl (hp_40 _ 0) rfl rfl ?_
  refine w_s (c' := (57, [some (aR (some (40, 0, 0))), some (aI (iZ x1)), some (aI (iZ x2)), some (aI (iZ x3))], [aI (iZ x2), aR (some (51, 0, 0))], am_hp σ, t)) rfl rfl ?_
  refine w_ial rfl (hp_51 _ 0 0) h1 rfl rfl ?_
  exact w_ret rfl rfl q2

theorem b_X12_wordPart_59 {x1 : Int} {x2 : Int} {x3 : Int} {r1 : Int} {σ σ1 : SG} {t : KT} (c1 : Ca d 237 [aR (some (40, 0, 0)), aI (iZ x2)] (am_hp σ) t (.inl (some (aI (iZ r1))), am_hp σ1, t)) (q2 : Q (.inl (some (aI (iZ r1))), am_hp σ1, t)) : Wp k_X12_wordPart d (59, [some (aR (some (40, 0, 0))), some (aI (iZ x1)), some (aI (iZ x2)), some (aI (iZ x3))], [], am_hp σ, t) Q := by
  refine w_s (c' := (60, [some (aR (some (40, 0, 0))), some (aI (iZ x1)), some (aI (iZ x2)), some (aI (iZ x3))], [aR (some (40, 0, 0))], am_hp σ, t)) rfl rfl ?_
  refine w_s (c' := (61, [some (aR (some (40, 0, 0))), some (aI (iZ x1)), some (aI (iZ x2)), some (aI (iZ x3))], [aI (iZ x2), aR (some (40, 0, 0))], am_hp σ, t)) rfl rfl ?_
  refine w_c0 (c' := (64, [some (aR (some (40, 0, 0))), some (aI (iZ x1)), some (aI (iZ x2)), some (aI (iZ x3))], [aI (iZ r1)], am_hp σ1, t)) rfl rfl (rcv_of (hp_40 _ 0)) rfl c1 (Nat.le_refl _) rfl ?_
  exact w_ret rfl rfl q2

theorem b_X12_wordPart_65 {x1 : Int} {x2 : Int} {x3 : Int} {σ : SG} {t : KT} (h1 : 0 ≤ x2 ∧ x2 < 121) (q2 : Q (.inl (some (aI (iZ (σ.1 (52, 0, 0) x2.toNat)))), am_hp σ, t)) : Wp k_X12_wordPart d (65, [some (aR (some (40, 0, 0))), some (aI (iZ x1)), some (aI (iZ x2)), some (aI (iZ x3))], [], am_hp σ, t) Q := by
  refine w_s (c' := (66, [some (aR (some (40, 0, 0))), some (aI (iZ x1)), some (aI (iZ x2)), some (aI (iZ x3))], [aR (some (40, 0, 0))], am_hp σ, t)) rfl rfl ?_
  refine w_get rfl (hp_40 _ 0) rfl rfl ?_
  refine w_s (c' := (70, [some (aR (some (40, 0, 0))), some (aI (iZ x1)), some (aI (iZ x2)), some (aI (iZ x3))], [aI (iZ x2), aR (some (52, 0, 0))], am_hp σ, t)) rfl rfl ?_
  refine w_ial rfl (hp_52 _ 0 0) h1 rfl rfl ?_
  exact w_ret rfl rfl q2

theorem b_X12_wordPart_72 {x1 : Int} {x2 : Int} {x3 : Int} {r1 : Int} {σ σ1 : SG} {t : KT} (c1 : Ca d 257 [aR (some (40, 0, 0)), aI (iZ x2)] (am_hp σ) t (.inl (some (aI (iZ r1))), am_hp σ1, t)) (q2 : Q (.inl (some (aI (iZ r1))), am_hp σ1, t)) : Wp k_X12_wordPart d (72, [some (aR (some (40, 0, 0))), some (aI (iZ x1)), some (aI (iZ x2)), some (aI (iZ x3))], [], am_hp σ, t) Q := by
  refine w_s (c' := (73, [some (aR (some (40, 0, 0))), some (aI (iZ x1)), some (aI (iZ x2)), some (aI (iZ x3))], [aR (some (40, 0, 0))], am_hp σ, t)) rfl rfl ?_
  refine w_s (c' := (74, [some (aR (some (40, 0, 0))), some (aI (iZ x1)), some (aI (iZ x2)), some (aI (iZ x3))], [aI (iZ x2), aR (some (40, 0, 0))], am_hp σ, t)) rfl rfl ?_
  refine w_c0 (c' := (77, [some (aR (some (40, 0, 0))), some (aI (iZ x1)), some (aI (iZ x2)), some (aI (iZ x3))], [aI (iZ r1)], am_hp σ1, t)) rfl rfl (rcv_of (hp_40 _ 0)) rfl c1 (Nat.le_refl _) rfl ?_
  exact w_ret rfl rfl q2

theorem b_X12_sumOf_0 {x1 : Int} {x2 : Int} {σ : SG} {t : KT} (w1 : Wp k_X12_sumOf d (5, [some (aR (some (40, 0, 0))), some (aI (iZ x1)), some (aI (iZ x2)), some (aL (jZ 0)), none, some (aI (iZ x1))], [], am_hp σ, t) Q) : Wp k_X12_sumOf d (0, [some (aR (some (40, 0, 0))), some (aI (iZ x1)), some (aI (iZ x2)), none, none, none], [], am_hp σ, t) Q := by
  refine w_psL rfl yc_0 rfl ?_
  refine w_s (c' := (2, [some (aR (some (40, 0, 0))), some (aI (iZ x1)), some (aI (iZ x2)), some (aL (jZ 0)), none, none], [], am_hp σ, t)) rfl rfl ?_
  refine w_s (c' := (3, [some (aR (some (40, 0, 0))), some (aI (iZ x1)), some (aI (iZ x2)), some (aL (jZ 0)), none, none], [aI (iZ x1)], am_hp σ, t)) rfl rfl ?_
  refine w_s (c' := (5, [some (aR (some (40, 0, 0))), some (aI (iZ x1)), some (aI (iZ x2)), some (aL (jZ 0)), none, some (aI (iZ x1))], [], am_hp σ, t)) rfl rfl ?_
  exact w1

theorem e_X12_sumOf {x1 : Int} {x2 : Int} {h : AH} {t : KT} {d : Nat} {P : RS → Prop} (w : Wp k_X12_sumOf d (0, [some (aR (some (40, 0, 0))), some (aI (iZ x1)), some (aI (iZ x2)), none, none, none], [], h, t) P) : ∃ r, Ca (d + 1) 266 [aR (some (40, 0, 0)), aI (iZ x1), aI (iZ x2)] h t r ∧ P r := ca_W rfl rfl rfl rfl w

theorem b_X12_sumOf_5 {x1 : Int} {x2 : Int} {y3 : Int} {x5 : Int} {σ : SG} {t : KT} (h1 : -2147483648 ≤ x5 ∧ x5 < 2147483648) (h2 : -2147483648 ≤ x2 ∧ x2 < 2147483648) (w3 : x2 ≤ x5 → Wp k_X12_sumOf d (28, [some (aR (some (40, 0, 0))), some (aI (iZ x1)), some (aI (iZ x2)), some (aL (jZ y3)), none, some (aI (iZ x5))], [], am_hp σ, t) Q) (w4 : x5 < x2 → Wp k_X12_sumOf d (11, [some (aR (some (40, 0, 0))), some (aI (iZ x1)), some (aI (iZ x2)), some (aL (jZ y3)), none, some (aI (iZ x5))], [], am_hp σ, t) Q) : Wp k_X12_sumOf d (5, [some (aR (some (40, 0, 0))), some (aI (iZ x1)), some (aI (iZ x2)), some (aL (jZ y3)), none, some (aI (iZ x5))], [], am_hp σ, t) Q := by
  refine w_s (c' := (7, [some (aR (some (40, 0, 0))), some (aI (iZ x1)), some (aI (iZ x2)), some (aL (jZ y3)), none, some (aI (iZ x5))], [aI (iZ x5)], am_hp σ, t)) rfl rfl ?_
  refine w_s (c' := (8, [some (aR (some (40, 0, 0))), some (aI (iZ x1)), some (aI (iZ x2)), some (aL (jZ y3)), none, some (aI (iZ x5))], [aI (iZ x2), aI (iZ x5)], am_hp σ, t)) rfl rfl ?_
  exact w_icge rfl h1 h2 rfl w3 w4

theorem b_X12_sumOf_11 {x1 : Int} {x2 : Int} {y3 : Int} {x5 : Int} {σ : SG} {t : KT} (h1 : 0 ≤ x5 ∧ x5 < 120) (h2 : -2147483648 ≤ σ.1 (48, 0, 0) x5.toNat ∧ σ.1 (48, 0, 0) x5.toNat < 2147483648) (w3 : Wp k_X12_sumOf d (5, [some (aR (some (40, 0, 0))), some (aI (iZ x1)), some (aI (iZ x2)), some (aL (jZ (y3 + (σ.1 (48, 0, 0) x5.toNat)))), none, some (aI (iZ (x5 + 1)))], [], am_hp σ, t) Q) : Wp k_X12_sumOf d (11, [some (aR (some (40, 0, 0))), some (aI (iZ x1)), some (aI (iZ x2)), some (aL (jZ y3)), none, some (aI (iZ x5))], [], am_hp σ, t) Q := by
  refine w_s (c' := (12, [some (aR (some (40, 0, 0))), some (aI (iZ x1)), some (aI (iZ x2)), some (aL (jZ y3)), none, some (aI (iZ x5))], [aL (jZ y3)], am_hp σ, t)) rfl rfl ?_
  refine w_s (c' := (13, [some (aR (some (40, 0, 0))), some (aI (iZ x1)), some (aI (iZ x2)), some (aL (jZ y3)), none, some (aI (iZ x5))], [aR (some (40, 0, 0)), aL (jZ y3)], am_hp σ, t)) rfl rfl ?_
  refine w_get rfl (hp_40 _ 0) rfl rfl ?_
  refine w_s (c' := (18, [some (aR (some (40, 0, 0))), some (aI (iZ x1)), some (aI (iZ x2)), some (aL (jZ y3)), none, some (aI (iZ x5))], [aI (iZ x5), aR (some (48, 0, 0)), aL (jZ y3)], am_hp σ, t)) rfl rfl ?_
  refine w_ial rfl (hp_48 _ 0 0) h1 rfl rfl ?_
  refine w_i2l rfl rfl h2 ?_
  refine w_ladd rfl rfl ?_
  refine w_s (c' := (22, [some (aR (some (40, 0, 0))), some (aI (iZ x1)), some (aI (iZ x2)), some (aL (jZ (y3 + (σ.1 (48, 0, 0) x5.toNat)))), none, some (aI (iZ x5))], [], am_hp σ, t)) rfl rfl ?_
  refine w_inc (a := x5) (ls' := [some (aR (some (40, 0, 0))), some (aI (iZ x1)), some (aI (iZ x2)), some (aL (jZ (y3 + (σ.1 (48, 0, 0) x5.toNat)))), none, some (aI (iZ (x5 + 1)))]) rfl rfl rfl zc_1 rfl rfl ?_
  refine w_s (c' := (5, [some (aR (some (40, 0, 0))), some (aI (iZ x1)), some (aI (iZ x2)), some (aL (jZ (y3 + (σ.1 (48, 0, 0) x5.toNat)))), none, some (aI (iZ (x5 + 1)))], [], am_hp σ, t)) rfl rfl ?_
  exact w3

theorem b_X12_sumOf_28 {x1 : Int} {x2 : Int} {y3 : Int} {x5 : Int} {σ : SG} {t : KT} (q1 : Q (.inl (some (aL (jZ y3))), am_hp σ, t)) : Wp k_X12_sumOf d (28, [some (aR (some (40, 0, 0))), some (aI (iZ x1)), some (aI (iZ x2)), some (aL (jZ y3)), none, some (aI (iZ x5))], [], am_hp σ, t) Q := by
  refine w_s (c' := (29, [some (aR (some (40, 0, 0))), some (aI (iZ x1)), some (aI (iZ x2)), some (aL (jZ y3)), none, some (aI (iZ x5))], [aL (jZ y3)], am_hp σ, t)) rfl rfl ?_
  exact w_ret rfl rfl q1

theorem b_X12_wordSum_0 {x1 : Int} {x2 : Int} {r1 : Int} {r2 : Int} {σ σ1 σ2 : SG} {t : KT} (c1 : Ca d 236 [aR (some (40, 0, 0)), aI (iZ x1), aI (iZ x2)] (am_hp σ) t (.inl (some (aI (iZ r1))), am_hp σ1, t)) (c2 : Ca d 178 [aR (some (40, 0, 0)), aI (iZ r1)] (am_hp σ1) t (.inl (some (aI (iZ r2))), am_hp σ2, t)) (h3 : -2147483648 ≤ r2 ∧ r2 < 2147483648) (w4 : r2 = 0 → Wp k_X12_wordSum d (34, [some (aR (some (40, 0, 0))), some (aI (iZ x1)), some (aI (iZ x2))], [], am_hp σ2, t) Q) (w5 : r2 ≠ 0 → Wp k_X12_wordSum d (13, [some (aR (some (40, 0, 0))), some (aI (iZ x1)), some (aI (iZ x2))], [], am_hp σ2, t) Q) : Wp k_X12_wordSum d (0, [some (aR (some (40, 0, 0))), some (aI (iZ x1)), some (aI (iZ x2))], [], am_hp σ, t) Q := by
  refine w_s (c' := (1, [some (aR (some (40, 0, 0))), some (aI (iZ x1)), some (aI (iZ x2))], [aR (some (40, 0, 0))], am_hp σ, t)) rfl rfl ?_
  refine w_s (c' := (2, [some (aR (some (40, 0, 0))), some (aI (iZ x1)), some (aI (iZ x2))], [aR (some (40, 0, 0)), aR (some (40, 0, 0))], am_hp σ, t)) rfl rfl ?_
  refine w_s (c' := (3, [some (aR (some (40, 0, 0))), some (aI (iZ x1)), some (aI (iZ x2))], [aI (iZ x1), aR (some (40, 0, 0)), aR (some (40, 0, 0))], am_hp σ, t)) rfl rfl ?_
  refine w_s (c' := (4, [some (aR (some (40, 0, 0))), some (aI (iZ x1)), some (aI (iZ x2))], [aI (iZ x2), aI (iZ x1), aR (some (40, 0, 0)), aR (some (40, 0, 0))], am_hp σ, t)) rfl rfl ?_
  refine w_c0 (c' := (7, [some (aR (some (40, 0, 0))), some (aI (iZ x1)), some (aI (iZ x2))], [aI (iZ r1), aR (some (40, 0, 0))], am_hp σ1, t)) rfl rfl (rcv_of (hp_40 _ 0)) rfl c1 (Nat.le_refl _) rfl ?_
  refine w_c0 (c' := (10, [some (aR (some (40, 0, 0))), some (aI (iZ x1)), some (aI (iZ x2))], [aI (iZ r2)], am_hp σ2, t)) rfl rfl (rcv_of (hp_40 _ 0)) rfl c2 (Nat.le_refl _) rfl ?_
  exact w_ifeq rfl h3 rfl w4 w5

theorem e_X12_wordSum {x1 : Int} {x2 : Int} {h : AH} {t : KT} {d : Nat} {P : RS → Prop} (w : Wp k_X12_wordSum d (0, [some (aR (some (40, 0, 0))), some (aI (iZ x1)), some (aI (iZ x2))], [], h, t) P) : ∃ r, Ca (d + 1) 267 [aR (some (40, 0, 0)), aI (iZ x1), aI (iZ x2)] h t r ∧ P r := ca_W rfl rfl rfl rfl w

theorem b_X12_wordSum_13 {x1 : Int} {x2 : Int} {r1 : Int} {σ σ1 : SG} {t : KT} (h1 : 0 ≤ x2 ∧ x2 < 121) (h2 : 0 ≤ x2 + 1 ∧ x2 + 1 < 121) (c3 : Ca d 266 [aR (some (40, 0, 0)), aI (iZ (σ.1 (52, 0, 0) x2.toNat)), aI (iZ (σ.1 (52, 0, 0) (x2 + 1).toNat))] (am_hp σ) t (.inl (some (aL (jZ r1))), am_hp σ1, t)) (w4 : Wp k_X12_wordSum d (35, [some (aR (some (40, 0, 0))), some (aI (iZ x1)), some (aI (iZ x2))], [aL (jZ r1)], am_hp σ1, t) Q) : Wp k_X12_wordSum d (13, [some (aR (some (40, 0, 0))), some (aI (iZ x1)), some (aI (iZ x2))], [], am_hp σ, t) Q := by
  refine w_s (c' := (14, [some (aR (some (40, 0, 0))), some (aI (iZ x1)), some (aI (iZ x2))], [aR (some (40, 0, 0))], am_hp σ, t)) rfl rfl ?_
  refine w_s (c' := (15, [some (aR (some (40, 0, 0))), some (aI (iZ x1)), some (aI (iZ x2))], [aR (some (40, 0, 0)), aR (some (40, 0, 0))], am_hp σ, t)) rfl rfl ?_
  refine w_get rfl (hp_40 _ 0) rfl rfl ?_
  refine w_s (c' := (19, [some (aR (some (40, 0, 0))), some (aI (iZ x1)), some (aI (iZ x2))], [aI (iZ x2), aR (some (52, 0, 0)), aR (some (40, 0, 0))], am_hp σ, t)) rfl rfl ?_
  refine w_ial rfl (hp_52 _ 0 0) h1 rfl rfl ?_
  refine w_s (c' := (21, [some (aR (some (40, 0, 0))), some (aI (iZ x1)), some (aI (iZ x2))], [aR (some (40, 0, 0)), aI (iZ (σ.1 (52, 0, 0) x2.toNat)), aR (some (40, 0, 0))], am_hp σ, t)) rfl rfl ?_
  refine w_get rfl (hp_40 _ 0) rfl rfl ?_
  refine w_s (c' := (25, [some (aR (some (40, 0, 0))), some (aI (iZ x1)), some (aI (iZ x2))], [aI (iZ x2), aR (some (52, 0, 0)), aI (iZ (σ.1 (52, 0, 0) x2.toNat)), aR (some (40, 0, 0))], am_hp σ, t)) rfl rfl ?_
  refine w_psh rfl zc_1 rfl ?_
  refine w_iadd rfl rfl ?_
  refine w_ial rfl (hp_52 _ 0 0) h2 rfl rfl ?_
  refine w_c0 (c' := (31, [some (aR (some (40, 0, 0))), some (aI (iZ x1)), some (aI (iZ x2))], [aL (jZ r1)], am_hp σ1, t)) rfl rfl (rcv_of (hp_40 _ 0)) rfl c3 (Nat.le_refl _) rfl ?_
  refine w_s (c' := (35, [some (aR (some (40, 0, 0))), some (aI (iZ x1)), some (aI (iZ x2))], [aL (jZ r1)], am_hp σ1, t)) rfl rfl ?_
  exact w4

theorem b_X12_wordSum_34 {x1 : Int} {x2 : Int} {σ : SG} {t : KT} (w1 : Wp k_X12_wordSum d (35, [some (aR (some (40, 0, 0))), some (aI (iZ x1)), some (aI (iZ x2))], [aL (jZ 0)], am_hp σ, t) Q) : Wp k_X12_wordSum d (34, [some (aR (some (40, 0, 0))), some (aI (iZ x1)), some (aI (iZ x2))], [], am_hp σ, t) Q := by
  refine w_psL rfl yc_0 rfl ?_
  exact w1

theorem b_X12_wordSum_35 {x1 : Int} {x2 : Int} {ys0 : Int} {σ : SG} {t : KT} (q1 : Q (.inl (some (aL (jZ ys0))), am_hp σ, t)) : Wp k_X12_wordSum d (35, [some (aR (some (40, 0, 0))), some (aI (iZ x1)), some (aI (iZ x2))], [aL (jZ ys0)], am_hp σ, t) Q := by
  exact w_ret rfl rfl q1

theorem b_X12_isEntry_0 {x1 : Int} {x2 : Int} {r1 : Int} {r2 : Int} {r3 : Int} {σ σ1 σ2 σ3 : SG} {t : KT} (c1 : Ca d 235 [aR (some (40, 0, 0)), aI (iZ x1)] (am_hp σ) t (.inl (some (aI (iZ r1))), am_hp σ1, t)) (h2 : -2147483648 ≤ x2 ∧ x2 < 2147483648) (c3 : Ca d 261 [aR (some (40, 0, 0))] (am_hp σ1) t (.inl (some (aI (iZ r2))), am_hp σ2, t)) (h4 : -2147483648 ≤ r2 - 1 ∧ r2 - 1 < 2147483648) (c5 : Ca d 175 [aL (jZ x2), aL (jZ 0), aL (jZ (r2 - 1))] (am_hp σ2) t (.inl (some (aI (iZ r3))), am_hp σ3, t)) (h6 : -2147483648 ≤ r3 ∧ r3 < 2147483648) (w7 : r3 = 0 → Wp k_X12_isEntry d (30, [some (aR (some (40, 0, 0))), some (aI (iZ x1)), some (aI (iZ x2)), some (aI (iZ r1))], [], am_hp σ3, t) Q) (w8 : r3 ≠ 0 → Wp k_X12_isEntry d (22, [some (aR (some (40, 0, 0))), some (aI (iZ x1)), some (aI (iZ x2)), some (aI (iZ r1))], [], am_hp σ3, t) Q) : Wp k_X12_isEntry d (0, [some (aR (some (40, 0, 0))), some (aI (iZ x1)), some (aI (iZ x2)), none], [], am_hp σ, t) Q := by
  refine w_s (c' := (1, [some (aR (some (40, 0, 0))), some (aI (iZ x1)), some (aI (iZ x2)), none], [aR (some (40, 0, 0))], am_hp σ, t)) rfl rfl ?_
  refine w_s (c' := (2, [some (aR (some (40, 0, 0))), some (aI (iZ x1)), some (aI (iZ x2)), none], [aI (iZ x1), aR (some (40, 0, 0))], am_hp σ, t)) rfl rfl ?_
  refine w_c0 (c' := (5, [some (aR (some (40, 0, 0))), some (aI (iZ x1)), some (aI (iZ x2)), none], [aI (iZ r1)], am_hp σ1, t)) rfl rfl (rcv_of (hp_40 _ 0)) rfl c1 (Nat.le_refl _) rfl ?_
  refine w_s (c' := (6, [some (aR (some (40, 0, 0))), some (aI (iZ x1)), some (aI (iZ x2)), some (aI (iZ r1))], [], am_hp σ1, t)) rfl rfl ?_
  refine w_s (c' := (7, [some (aR (some (40, 0, 0))), some (aI (iZ x1)), some (aI (iZ x2)), some (aI (iZ r1))], [aI (iZ x2)], am_hp σ1, t)) rfl rfl ?_
  refine w_i2l rfl rfl h2 ?_
  refine w_psL rfl yc_0 rfl ?_
  refine w_s (c' := (10, [some (aR (some (40, 0, 0))), some (aI (iZ x1)), some (aI (iZ x2)), some (aI (iZ r1))], [aR (some (40, 0, 0)), aL (jZ 0), aL (jZ x2)], am_hp σ1, t)) rfl rfl ?_
  refine w_c0 (c' := (13, [some (aR (some (40, 0, 0))), some (aI (iZ x1)), some (aI (iZ x2)), some (aI (iZ r1))], [aI (iZ r2), aL (jZ 0), aL (jZ x2)], am_hp σ2, t)) rfl rfl (rcv_of (hp_40 _ 0)) rfl c3 (Nat.le_refl _) rfl ?_
  refine w_psh rfl zc_1 rfl ?_
  refine w_isub rfl rfl ?_
  refine w_i2l rfl rfl h4 ?_
  refine w_c0 (c' := (19, [some (aR (some (40, 0, 0))), some (aI (iZ x1)), some (aI (iZ x2)), some (aI (iZ r1))], [aI (iZ r3)], am_hp σ3, t)) rfl rfl rfl rfl c5 (Nat.le_refl _) rfl ?_
  exact w_ifeq rfl h6 rfl w7 w8

theorem e_X12_isEntry {x1 : Int} {x2 : Int} {h : AH} {t : KT} {d : Nat} {P : RS → Prop} (w : Wp k_X12_isEntry d (0, [some (aR (some (40, 0, 0))), some (aI (iZ x1)), some (aI (iZ x2)), none], [], h, t) P) : ∃ r, Ca (d + 1) 268 [aR (some (40, 0, 0)), aI (iZ x1), aI (iZ x2)] h t r ∧ P r := ca_W rfl rfl rfl rfl w

theorem b_X12_isEntry_22 {x1 : Int} {x2 : Int} {x3 : Int} {σ : SG} {t : KT} (h1 : -2147483648 ≤ x3 ∧ x3 < 2147483648) (w2 : x3 ≤ 0 → Wp k_X12_isEntry d (30, [some (aR (some (40, 0, 0))), some (aI (iZ x1)), some (aI (iZ x2)), some (aI (iZ x3))], [], am_hp σ, t) Q) (w3 : 0 < x3 → Wp k_X12_isEntry d (26, [some (aR (some (40, 0, 0))), some (aI (iZ x1)), some (aI (iZ x2)), some (aI (iZ x3))], [], am_hp σ, t) Q) : Wp k_X12_isEntry d (22, [some (aR (some (40, 0, 0))), some (aI (iZ x1)), some (aI (iZ x2)), some (aI (iZ x3))], [], am_hp σ, t) Q := by
  refine w_s (c' := (23, [some (aR (some (40, 0, 0))), some (aI (iZ x1)), some (aI (iZ x2)), some (aI (iZ x3))], [aI (iZ x3)], am_hp σ, t)) rfl rfl ?_
  exact w_ifle rfl h1 rfl w2 w3

theorem b_X12_isEntry_26 {x1 : Int} {x2 : Int} {x3 : Int} {σ : SG} {t : KT} (w1 : Wp k_X12_isEntry d (31, [some (aR (some (40, 0, 0))), some (aI (iZ x1)), some (aI (iZ x2)), some (aI (iZ x3))], [aI (iZ 1)], am_hp σ, t) Q) : Wp k_X12_isEntry d (26, [some (aR (some (40, 0, 0))), some (aI (iZ x1)), some (aI (iZ x2)), some (aI (iZ x3))], [], am_hp σ, t) Q := by
  refine w_psh rfl zc_1 rfl ?_
  refine w_s (c' := (31, [some (aR (some (40, 0, 0))), some (aI (iZ x1)), some (aI (iZ x2)), some (aI (iZ x3))], [aI (iZ 1)], am_hp σ, t)) rfl rfl ?_
  exact w1

theorem b_X12_isEntry_30 {x1 : Int} {x2 : Int} {x3 : Int} {σ : SG} {t : KT} (w1 : Wp k_X12_isEntry d (31, [some (aR (some (40, 0, 0))), some (aI (iZ x1)), some (aI (iZ x2)), some (aI (iZ x3))], [aI (iZ 0)], am_hp σ, t) Q) : Wp k_X12_isEntry d (30, [some (aR (some (40, 0, 0))), some (aI (iZ x1)), some (aI (iZ x2)), some (aI (iZ x3))], [], am_hp σ, t) Q := by
  refine w_psh rfl zc_0 rfl ?_
  exact w1

theorem b_X12_isEntry_31 {x1 : Int} {x2 : Int} {x3 : Int} {xs0 : Int} {σ : SG} {t : KT} (h1 : xs0 = 0 ∨ xs0 = 1) (q2 : Q (.inl (some (aI (iZ xs0))), am_hp σ, t)) : Wp k_X12_isEntry d (31, [some (aR (some (40, 0, 0))), some (aI (iZ x1)), some (aI (iZ x2)), some (aI (iZ x3))], [aI (iZ xs0)], am_hp σ, t) Q := by
  exact w_ret rfl (frt_b h1) q2

theorem b_X12_entryStart_0 {x1 : Int} {x2 : Int} {r1 : Int} {r2 : Int} {σ σ1 σ2 : SG} {t : KT} (c1 : Ca d 217 [aR (some (40, 0, 0)), aI (iZ x1)] (am_hp σ) t (.inl (some (aI (iZ r1))), am_hp σ1, t)) (c2 : Ca d 178 [aR (some (40, 0, 0)), aI (iZ r1)] (am_hp σ1) t (.inl (some (aI (iZ r2))), am_hp σ2, t)) (h3 : -2147483648 ≤ r2 ∧ r2 < 2147483648) (w4 : r2 ≠ 0 → Wp k_X12_entryStart d (14, [some (aR (some (40, 0, 0))), some (aI (iZ x1)), some (aI (iZ x2))], [], am_hp σ2, t) Q) (w5 : r2 = 0 → Wp k_X12_entryStart d (12, [some (aR (some (40, 0, 0))), some (aI (iZ x1)), some (aI (iZ x2))], [], am_hp σ2, t) Q) : Wp k_X12_entryStart d (0, [some (aR (some (40, 0, 0))), some (aI (iZ x1)), some (aI (iZ x2))], [], am_hp σ, t) Q := by
  refine w_s (c' := (1, [some (aR (some (40, 0, 0))), some (aI (iZ x1)), some (aI (iZ x2))], [aR (some (40, 0, 0))], am_hp σ, t)) rfl rfl ?_
  refine w_s (c' := (2, [some (aR (some (40, 0, 0))), some (aI (iZ x1)), some (aI (iZ x2))], [aR (some (40, 0, 0)), aR (some (40, 0, 0))], am_hp σ, t)) rfl rfl ?_
  refine w_s (c' := (3, [some (aR (some (40, 0, 0))), some (aI (iZ x1)), some (aI (iZ x2))], [aI (iZ x1), aR (some (40, 0, 0)), aR (some (40, 0, 0))], am_hp σ, t)) rfl rfl ?_
  refine w_c0 (c' := (6, [some (aR (some (40, 0, 0))), some (aI (iZ x1)), some (aI (iZ x2))], [aI (iZ r1), aR (some (40, 0, 0))], am_hp σ1, t)) rfl rfl (rcv_of (hp_40 _ 0)) rfl c1 (Nat.le_refl _) rfl ?_
  refine w_c0 (c' := (9, [some (aR (some (40, 0, 0))), some (aI (iZ x1)), some (aI (iZ x2))], [aI (iZ r2)], am_hp σ2, t)) rfl rfl (rcv_of (hp_40 _ 0)) rfl c2 (Nat.le_refl _) rfl ?_
  exact w_ifne rfl h3 rfl w4 w5

theorem e_X12_entryStart {x1 : Int} {x2 : Int} {h : AH} {t : KT} {d : Nat} {P : RS → Prop} (w : Wp k_X12_entryStart d (0, [some (aR (some (40, 0, 0))), some (aI (iZ x1)), some (aI (iZ x2))], [], h, t) P) : ∃ r, Ca (d + 1) 269 [aR (some (40, 0, 0)), aI (iZ x1), aI (iZ x2)] h t r ∧ P r := ca_W rfl rfl rfl rfl w

theorem b_X12_entryStart_12 {x1 : Int} {x2 : Int} {σ : SG} {t : KT} (q1 : Q (.inl (some (aI (iZ 0))), am_hp σ, t)) : Wp k_X12_entryStart d (12, [some (aR (some (40, 0, 0))), some (aI (iZ x1)), some (aI (iZ x2))], [], am_hp σ, t) Q := by
  refine w_psh rfl zc_0 rfl ?_
  exact w_ret rfl rfl q1

theorem b_X12_entryStart_14 {x1 : Int} {x2 : Int} {r1 : Int} {σ σ1 : SG} {t : KT} (c1 : Ca d 268 [aR (some (40, 0, 0)), aI (iZ x1), aI (iZ x2)] (am_hp σ) t (.inl (some (aI (iZ r1))), am_hp σ1, t)) (h2 : -2147483648 ≤ r1 ∧ r1 < 2147483648) (w3 : r1 = 0 → Wp k_X12_entryStart d (39, [some (aR (some (40, 0, 0))), some (aI (iZ x1)), some (aI (iZ x2))], [], am_hp σ1, t) Q) (w4 : r1 ≠ 0 → Wp k_X12_entryStart d (23, [some (aR (some (40, 0, 0))), some (aI (iZ x1)), some (aI (iZ x2))], [], am_hp σ1, t) Q) : Wp k_X12_entryStart d (14, [some (aR (some (40, 0, 0))), some (aI (iZ x1)), some (aI (iZ x2))], [], am_hp σ, t) Q := by
  refine w_s (c' := (15, [some (aR (some (40, 0, 0))), some (aI (iZ x1)), some (aI (iZ x2))], [aR (some (40, 0, 0))], am_hp σ, t)) rfl rfl ?_
  refine w_s (c' := (16, [some (aR (some (40, 0, 0))), some (aI (iZ x1)), some (aI (iZ x2))], [aI (iZ x1), aR (some (40, 0, 0))], am_hp σ, t)) rfl rfl ?_
  refine w_s (c' := (17, [some (aR (some (40, 0, 0))), some (aI (iZ x1)), some (aI (iZ x2))], [aI (iZ x2), aI (iZ x1), aR (some (40, 0, 0))], am_hp σ, t)) rfl rfl ?_
  refine w_c0 (c' := (20, [some (aR (some (40, 0, 0))), some (aI (iZ x1)), some (aI (iZ x2))], [aI (iZ r1)], am_hp σ1, t)) rfl rfl (rcv_of (hp_40 _ 0)) rfl c1 (Nat.le_refl _) rfl ?_
  exact w_ifeq rfl h2 rfl w3 w4

theorem b_X12_entryStart_23 {x1 : Int} {x2 : Int} {σ : SG} {t : KT} (h1 : 0 ≤ x2 * (σ.1 (42, 0, 0) 2) ∧ x2 * (σ.1 (42, 0, 0) 2) < 121) (w2 : Wp k_X12_entryStart d (40, [some (aR (some (40, 0, 0))), some (aI (iZ x1)), some (aI (iZ x2))], [aI (iZ (σ.1 (52, 0, 0) (x2 * (σ.1 (42, 0, 0) 2)).toNat))], am_hp σ, t) Q) : Wp k_X12_entryStart d (23, [some (aR (some (40, 0, 0))), some (aI (iZ x1)), some (aI (iZ x2))], [], am_hp σ, t) Q := by
  refine w_s (c' := (24, [some (aR (some (40, 0, 0))), some (aI (iZ x1)), some (aI (iZ x2))], [aR (some (40, 0, 0))], am_hp σ, t)) rfl rfl ?_
  refine w_get rfl (hp_40 _ 0) rfl rfl ?_
  refine w_s (c' := (28, [some (aR (some (40, 0, 0))), some (aI (iZ x1)), some (aI (iZ x2))], [aI (iZ x2), aR (some (52, 0, 0))], am_hp σ, t)) rfl rfl ?_
  refine w_s (c' := (29, [some (aR (some (40, 0, 0))), some (aI (iZ x1)), some (aI (iZ x2))], [aR (some (40, 0, 0)), aI (iZ x2), aR (some (52, 0, 0))], am_hp σ, t)) rfl rfl ?_
  refine w_get rfl (hp_40 _ 0) rfl rfl ?_
  refine w_psh rfl zc_2 rfl ?_
  refine w_ial rfl (hp_42 _ 0 0) (by decide) rfl rfl ?_
  refine w_e (c' := (34, [some (aR (some (40, 0, 0))), some (aI (iZ x1)), some (aI (iZ x2))], [aI (iZ (σ.1 (42, 0, 0) 2)), aI (iZ x2), aR (some (52, 0, 0))], am_hp σ, t)) rfl ?_
  refine w_imul rfl rfl ?_
  refine w_ial rfl (hp_52 _ 0 0) h1 rfl rfl ?_
  refine w_s (c' := (40, [some (aR (some (40, 0, 0))), some (aI (iZ x1)), some (aI (iZ x2))], [aI (iZ (σ.1 (52, 0, 0) (x2 * (σ.1 (42, 0, 0) 2)).toNat))], am_hp σ, t)) rfl rfl ?_
  exact w2

theorem b_X12_entryStart_39 {x1 : Int} {x2 : Int} {σ : SG} {t : KT} (w1 : Wp k_X12_entryStart d (40, [some (aR (some (40, 0, 0))), some (aI (iZ x1)), some (aI (iZ x2))], [aI (iZ (-1))], am_hp σ, t) Q) : Wp k_X12_entryStart d (39, [some (aR (some (40, 0, 0))), some (aI (iZ x1)), some (aI (iZ x2))], [], am_hp σ, t) Q := by
  refine w_psh rfl zc_m1 rfl ?_
  exact w1

theorem b_X12_entryStart_40 {x1 : Int} {x2 : Int} {xs0 : Int} {σ : SG} {t : KT} (q1 : Q (.inl (some (aI (iZ xs0))), am_hp σ, t)) : Wp k_X12_entryStart d (40, [some (aR (some (40, 0, 0))), some (aI (iZ x1)), some (aI (iZ x2))], [aI (iZ xs0)], am_hp σ, t) Q := by
  exact w_ret rfl rfl q1

theorem b_X12_entrySum_0 {x1 : Int} {x2 : Int} {r1 : Int} {r2 : Int} {σ σ1 σ2 : SG} {t : KT} (c1 : Ca d 217 [aR (some (40, 0, 0)), aI (iZ x1)] (am_hp σ) t (.inl (some (aI (iZ r1))), am_hp σ1, t)) (c2 : Ca d 178 [aR (some (40, 0, 0)), aI (iZ r1)] (am_hp σ1) t (.inl (some (aI (iZ r2))), am_hp σ2, t)) (h3 : -2147483648 ≤ r2 ∧ r2 < 2147483648) (w4 : r2 ≠ 0 → Wp k_X12_entrySum d (14, [some (aR (some (40, 0, 0))), some (aI (iZ x1)), some (aI (iZ x2))], [], am_hp σ2, t) Q) (w5 : r2 = 0 → Wp k_X12_entrySum d (12, [some (aR (some (40, 0, 0))), some (aI (iZ x1)), some (aI (iZ x2))], [], am_hp σ2, t) Q) : Wp k_X12_entrySum d (0, [some (aR (some (40, 0, 0))), some (aI (iZ x1)), some (aI (iZ x2))], [], am_hp σ, t) Q := by
  refine w_s (c' := (1, [some (aR (some (40, 0, 0))), some (aI (iZ x1)), some (aI (iZ x2))], [aR (some (40, 0, 0))], am_hp σ, t)) rfl rfl ?_
  refine w_s (c' := (2, [some (aR (some (40, 0, 0))), some (aI (iZ x1)), some (aI (iZ x2))], [aR (some (40, 0, 0)), aR (some (40, 0, 0))], am_hp σ, t)) rfl rfl ?_
  refine w_s (c' := (3, [some (aR (some (40, 0, 0))), some (aI (iZ x1)), some (aI (iZ x2))], [aI (iZ x1), aR (some (40, 0, 0)), aR (some (40, 0, 0))], am_hp σ, t)) rfl rfl ?_
  refine w_c0 (c' := (6, [some (aR (some (40, 0, 0))), some (aI (iZ x1)), some (aI (iZ x2))], [aI (iZ r1), aR (some (40, 0, 0))], am_hp σ1, t)) rfl rfl (rcv_of (hp_40 _ 0)) rfl c1 (Nat.le_refl _) rfl ?_
  refine w_c0 (c' := (9, [some (aR (some (40, 0, 0))), some (aI (iZ x1)), some (aI (iZ x2))], [aI (iZ r2)], am_hp σ2, t)) rfl rfl (rcv_of (hp_40 _ 0)) rfl c2 (Nat.le_refl _) rfl ?_
  exact w_ifne rfl h3 rfl w4 w5

theorem e_X12_entrySum {x1 : Int} {x2 : Int} {h : AH} {t : KT} {d : Nat} {P : RS → Prop} (w : Wp k_X12_entrySum d (0, [some (aR (some (40, 0, 0))), some (aI (iZ x1)), some (aI (iZ x2))], [], h, t) P) : ∃ r, Ca (d + 1) 270 [aR (some (40, 0, 0)), aI (iZ x1), aI (iZ x2)] h t r ∧ P r := ca_W rfl rfl rfl rfl w

theorem b_X12_entrySum_12 {x1 : Int} {x2 : Int} {σ : SG} {t : KT} (q1 : Q (.inl (some (aL (jZ 0))), am_hp σ, t)) : Wp k_X12_entrySum d (12, [some (aR (some (40, 0, 0))), some (aI (iZ x1)), some (aI (iZ x2))], [], am_hp σ, t) Q := by
  refine w_psL rfl yc_0 rfl ?_
  exact w_ret rfl rfl q1

theorem b_X12_entrySum_14 {x1 : Int} {x2 : Int} {r1 : Int} {σ σ1 : SG} {t : KT} (c1 : Ca d 268 [aR (some (40, 0, 0)), aI (iZ x1), aI (iZ x2)] (am_hp σ) t (.inl (some (aI (iZ r1))), am_hp σ1, t)) (h2 : -2147483648 ≤ r1 ∧ r1 < 2147483648) (w3 : r1 = 0 → Wp k_X12_entrySum d (44, [some (aR (some (40, 0, 0))), some (aI (iZ x1)), some (aI (iZ x2))], [], am_hp σ1, t) Q) (w4 : r1 ≠ 0 → Wp k_X12_entrySum d (23, [some (aR (some (40, 0, 0))), some (aI (iZ x1)), some (aI (iZ x2))], [], am_hp σ1, t) Q) : Wp k_X12_entrySum d (14, [some (aR (some (40, 0, 0))), some (aI (iZ x1)), some (aI (iZ x2))], [], am_hp σ, t) Q := by
  refine w_s (c' := (15, [some (aR (some (40, 0, 0))), some (aI (iZ x1)), some (aI (iZ x2))], [aR (some (40, 0, 0))], am_hp σ, t)) rfl rfl ?_
  refine w_s (c' := (16, [some (aR (some (40, 0, 0))), some (aI (iZ x1)), some (aI (iZ x2))], [aI (iZ x1), aR (some (40, 0, 0))], am_hp σ, t)) rfl rfl ?_
  refine w_s (c' := (17, [some (aR (some (40, 0, 0))), some (aI (iZ x1)), some (aI (iZ x2))], [aI (iZ x2), aI (iZ x1), aR (some (40, 0, 0))], am_hp σ, t)) rfl rfl ?_
  refine w_c0 (c' := (20, [some (aR (some (40, 0, 0))), some (aI (iZ x1)), some (aI (iZ x2))], [aI (iZ r1)], am_hp σ1, t)) rfl rfl (rcv_of (hp_40 _ 0)) rfl c1 (Nat.le_refl _) rfl ?_
  exact w_ifeq rfl h2 rfl w3 w4

theorem b_X12_entrySum_23 {x1 : Int} {x2 : Int} {r1 : Int} {σ σ1 : SG} {t : KT} (h1 : 0 ≤ x2 * (σ.1 (42, 0, 0) 2) ∧ x2 * (σ.1 (42, 0, 0) 2) < 121) (c2 : Ca d 266 [aR (some (40, 0, 0)), aI (iZ 0), aI (iZ (σ.1 (52, 0, 0) (x2 * (σ.1 (42, 0, 0) 2)).toNat))] (am_hp σ) t (.inl (some (aL (jZ r1))), am_hp σ1, t)) (w3 : Wp k_X12_entrySum d (47, [some (aR (some (40, 0, 0))), some (aI (iZ x1)), some (aI (iZ x2))], [aL (jZ r1)], am_hp σ1, t) Q) : Wp k_X12_entrySum d (23, [some (aR (some (40, 0, 0))), some (aI (iZ x1)), some (aI (iZ x2))], [], am_hp σ, t) Q := by
  refine w_s (c' := (24, [some (aR (some (40, 0, 0))), some (aI (iZ x1)), some (aI (iZ x2))], [aR (some (40, 0, 0))], am_hp σ, t)) rfl rfl ?_
  refine w_psh rfl zc_0 rfl ?_
  refine w_s (c' := (26, [some (aR (some (40, 0, 0))), some (aI (iZ x1)), some (aI (iZ x2))], [aR (some (40, 0, 0)), aI (iZ 0), aR (some (40, 0, 0))], am_hp σ, t)) rfl rfl ?_
  refine w_get rfl (hp_40 _ 0) rfl rfl ?_
  refine w_s (c' := (30, [some (aR (some (40, 0, 0))), some (aI (iZ x1)), some (aI (iZ x2))], [aI (iZ x2), aR (some (52, 0, 0)), aI (iZ 0), aR (some (40, 0, 0))], am_hp σ, t)) rfl rfl ?_
  refine w_s (c' := (31, [some (aR (some (40, 0, 0))), some (aI (iZ x1)), some (aI (iZ x2))], [aR (some (40, 0, 0)), aI (iZ x2), aR (some (52, 0, 0)), aI (iZ 0), aR (some (40, 0, 0))], am_hp σ, t)) rfl rfl ?_
  refine w_get rfl (hp_40 _ 0) rfl rfl ?_
  refine w_psh rfl zc_2 rfl ?_
  refine w_ial rfl (hp_42 _ 0 0) (by decide) rfl rfl ?_
  refine w_e (c' := (36, [some (aR (some (40, 0, 0))), some (aI (iZ x1)), some (aI (iZ x2))], [aI (iZ (σ.1 (42, 0, 0) 2)), aI (iZ x2), aR (some (52, 0, 0)), aI (iZ 0), aR (some (40, 0, 0))], am_hp σ, t)) rfl ?_
  refine w_imul rfl rfl ?_
  refine w_ial rfl (hp_52 _ 0 0) h1 rfl rfl ?_
  refine w_c0 (c' := (41, [some (aR (some (40, 0, 0))), some (aI (iZ x1)), some (aI (iZ x2))], [aL (jZ r1)], am_hp σ1, t)) rfl rfl (rcv_of (hp_40 _ 0)) rfl c2 (Nat.le_refl _) rfl ?_
  refine w_s (c' := (47, [some (aR (some (40, 0, 0))), some (aI (iZ x1)), some (aI (iZ x2))], [aL (jZ r1)], am_hp σ1, t)) rfl rfl ?_
  exact w3

theorem b_X12_entrySum_44 {x1 : Int} {x2 : Int} {σ : SG} {t : KT} (w1 : Wp k_X12_entrySum d (47, [some (aR (some (40, 0, 0))), some (aI (iZ x1)), some (aI (iZ x2))], [aL (jZ (-1))], am_hp σ, t) Q) : Wp k_X12_entrySum d (44, [some (aR (some (40, 0, 0))), some (aI (iZ x1)), some (aI (iZ x2))], [], am_hp σ, t) Q := by
  refine w_psL rfl yc_m1 rfl ?_
  exact w1

theorem b_X12_entrySum_47 {x1 : Int} {x2 : Int} {ys0 : Int} {σ : SG} {t : KT} (q1 : Q (.inl (some (aL (jZ ys0))), am_hp σ, t)) : Wp k_X12_entrySum d (47, [some (aR (some (40, 0, 0))), some (aI (iZ x1)), some (aI (iZ x2))], [aL (jZ ys0)], am_hp σ, t) Q := by
  exact w_ret rfl rfl q1

theorem b_X12_why_0 {x1 : Int} {x2 : Int} {x3 : Int} {r1 : Int} {σ σ1 : SG} {t : KT} (c1 : Ca d 236 [aR (some (40, 0, 0)), aI (iZ x1), aI (iZ x2)] (am_hp σ) t (.inl (some (aI (iZ r1))), am_hp σ1, t)) (h2 : -2147483648 ≤ r1 ∧ r1 < 2147483648) (w3 : r1 = 0 → Wp k_X12_why d (21, [some (aR (some (40, 0, 0))), some (aI (iZ x1)), some (aI (iZ x2)), some (aI (iZ x3))], [aR (some (40, 0, 0))], am_hp σ1, t) Q) (w4 : r1 ≠ 0 → Wp k_X12_why d (10, [some (aR (some (40, 0, 0))), some (aI (iZ x1)), some (aI (iZ x2)), some (aI (iZ x3))], [aR (some (40, 0, 0))], am_hp σ1, t) Q) : Wp k_X12_why d (0, [some (aR (some (40, 0, 0))), some (aI (iZ x1)), some (aI (iZ x2)), some (aI (iZ x3))], [], am_hp σ, t) Q := by
  refine w_s (c' := (1, [some (aR (some (40, 0, 0))), some (aI (iZ x1)), some (aI (iZ x2)), some (aI (iZ x3))], [aR (some (40, 0, 0))], am_hp σ, t)) rfl rfl ?_
  refine w_s (c' := (2, [some (aR (some (40, 0, 0))), some (aI (iZ x1)), some (aI (iZ x2)), some (aI (iZ x3))], [aR (some (40, 0, 0)), aR (some (40, 0, 0))], am_hp σ, t)) rfl rfl ?_
  refine w_s (c' := (3, [some (aR (some (40, 0, 0))), some (aI (iZ x1)), some (aI (iZ x2)), some (aI (iZ x3))], [aI (iZ x1), aR (some (40, 0, 0)), aR (some (40, 0, 0))], am_hp σ, t)) rfl rfl ?_
  refine w_s (c' := (4, [some (aR (some (40, 0, 0))), some (aI (iZ x1)), some (aI (iZ x2)), some (aI (iZ x3))], [aI (iZ x2), aI (iZ x1), aR (some (40, 0, 0)), aR (some (40, 0, 0))], am_hp σ, t)) rfl rfl ?_
  refine w_c0 (c' := (7, [some (aR (some (40, 0, 0))), some (aI (iZ x1)), some (aI (iZ x2)), some (aI (iZ x3))], [aI (iZ r1), aR (some (40, 0, 0))], am_hp σ1, t)) rfl rfl (rcv_of (hp_40 _ 0)) rfl c1 (Nat.le_refl _) rfl ?_
  exact w_ifeq rfl h2 rfl w3 w4

theorem e_X12_why {x1 : Int} {x2 : Int} {x3 : Int} {h : AH} {t : KT} {d : Nat} {P : RS → Prop} (w : Wp k_X12_why d (0, [some (aR (some (40, 0, 0))), some (aI (iZ x1)), some (aI (iZ x2)), some (aI (iZ x3))], [], h, t) P) : ∃ r, Ca (d + 1) 271 [aR (some (40, 0, 0)), aI (iZ x1), aI (iZ x2), aI (iZ x3)] h t r ∧ P r := ca_W rfl rfl rfl rfl w

theorem b_X12_why_10 {x1 : Int} {x2 : Int} {x3 : Int} {r1 : Int} {σ σ1 : SG} {t : KT} (c1 : Ca d 223 [aI (iZ x3)] (am_hp σ) t (.inl (some (aI (iZ r1))), am_hp σ1, t)) (h2 : -2147483648 ≤ r1 ∧ r1 < 2147483648) (w3 : r1 = 0 → Wp k_X12_why d (21, [some (aR (some (40, 0, 0))), some (aI (iZ x1)), some (aI (iZ x2)), some (aI (iZ x3))], [aR (some (40, 0, 0))], am_hp σ1, t) Q) (w4 : r1 ≠ 0 → Wp k_X12_why d (17, [some (aR (some (40, 0, 0))), some (aI (iZ x1)), some (aI (iZ x2)), some (aI (iZ x3))], [aR (some (40, 0, 0))], am_hp σ1, t) Q) : Wp k_X12_why d (10, [some (aR (some (40, 0, 0))), some (aI (iZ x1)), some (aI (iZ x2)), some (aI (iZ x3))], [aR (some (40, 0, 0))], am_hp σ, t) Q := by
  refine w_s (c' := (11, [some (aR (some (40, 0, 0))), some (aI (iZ x1)), some (aI (iZ x2)), some (aI (iZ x3))], [aI (iZ x3), aR (some (40, 0, 0))], am_hp σ, t)) rfl rfl ?_
  refine w_c0 (c' := (14, [some (aR (some (40, 0, 0))), some (aI (iZ x1)), some (aI (iZ x2)), some (aI (iZ x3))], [aI (iZ r1), aR (some (40, 0, 0))], am_hp σ1, t)) rfl rfl rfl rfl c1 (Nat.le_refl _) rfl ?_
  exact w_ifeq rfl h2 rfl w3 w4

theorem b_X12_why_17 {x1 : Int} {x2 : Int} {x3 : Int} {σ : SG} {t : KT} (w1 : Wp k_X12_why d (22, [some (aR (some (40, 0, 0))), some (aI (iZ x1)), some (aI (iZ x2)), some (aI (iZ x3))], [aI (iZ 1), aR (some (40, 0, 0))], am_hp σ, t) Q) : Wp k_X12_why d (17, [some (aR (some (40, 0, 0))), some (aI (iZ x1)), some (aI (iZ x2)), some (aI (iZ x3))], [aR (some (40, 0, 0))], am_hp σ, t) Q := by
  refine w_psh rfl zc_1 rfl ?_
  refine w_s (c' := (22, [some (aR (some (40, 0, 0))), some (aI (iZ x1)), some (aI (iZ x2)), some (aI (iZ x3))], [aI (iZ 1), aR (some (40, 0, 0))], am_hp σ, t)) rfl rfl ?_
  exact w1

theorem b_X12_why_21 {x1 : Int} {x2 : Int} {x3 : Int} {σ : SG} {t : KT} (w1 : Wp k_X12_why d (22, [some (aR (some (40, 0, 0))), some (aI (iZ x1)), some (aI (iZ x2)), some (aI (iZ x3))], [aI (iZ 0), aR (some (40, 0, 0))], am_hp σ, t) Q) : Wp k_X12_why d (21, [some (aR (some (40, 0, 0))), some (aI (iZ x1)), some (aI (iZ x2)), some (aI (iZ x3))], [aR (some (40, 0, 0))], am_hp σ, t) Q := by
  refine w_psh rfl zc_0 rfl ?_
  exact w1

theorem b_X12_why_22 {x1 : Int} {x2 : Int} {x3 : Int} {xs0 : Int} {r1 : Int} {σ σ1 : SG} {t : KT} (c1 : Ca d 178 [aR (some (40, 0, 0)), aI (iZ xs0)] (am_hp σ) t (.inl (some (aI (iZ r1))), am_hp σ1, t)) (h2 : -2147483648 ≤ r1 ∧ r1 < 2147483648) (w3 : r1 ≠ 0 → Wp k_X12_why d (30, [some (aR (some (40, 0, 0))), some (aI (iZ x1)), some (aI (iZ x2)), some (aI (iZ x3))], [], am_hp σ1, t) Q) (w4 : r1 = 0 → Wp k_X12_why d (28, [some (aR (some (40, 0, 0))), some (aI (iZ x1)), some (aI (iZ x2)), some (aI (iZ x3))], [], am_hp σ1, t) Q) : Wp k_X12_why d (22, [some (aR (some (40, 0, 0))), some (aI (iZ x1)), some (aI (iZ x2)), some (aI (iZ x3))], [aI (iZ xs0), aR (some (40, 0, 0))], am_hp σ, t) Q := by
  refine w_c0 (c' := (25, [some (aR (some (40, 0, 0))), some (aI (iZ x1)), some (aI (iZ x2)), some (aI (iZ x3))], [aI (iZ r1)], am_hp σ1, t)) rfl rfl (rcv_of (hp_40 _ 0)) rfl c1 (Nat.le_refl _) rfl ?_
  exact w_ifne rfl h2 rfl w3 w4

theorem b_X12_why_28 {x1 : Int} {x2 : Int} {x3 : Int} {σ : SG} {t : KT} (q1 : Q (.inl (some (aI (iZ 0))), am_hp σ, t)) : Wp k_X12_why d (28, [some (aR (some (40, 0, 0))), some (aI (iZ x1)), some (aI (iZ x2)), some (aI (iZ x3))], [], am_hp σ, t) Q := by
  refine w_psh rfl zc_0 rfl ?_
  exact w_ret rfl rfl q1

theorem b_X12_why_30 {x1 : Int} {x2 : Int} {x3 : Int} {σ : SG} {t : KT} (h1 : 0 ≤ x2 ∧ x2 < 120) (h2 : -2147483648 ≤ σ.1 (51, 0, 0) x2.toNat ∧ σ.1 (51, 0, 0) x2.toNat < 2147483648) (h3 : -2147483648 ≤ x3 ∧ x3 < 2147483648) (w4 : σ.1 (51, 0, 0) x2.toNat ≠ x3 → Wp k_X12_why d (44, [some (aR (some (40, 0, 0))), some (aI (iZ x1)), some (aI (iZ x2)), some (aI (iZ x3))], [], am_hp σ, t) Q) (w5 : σ.1 (51, 0, 0) x2.toNat = x3 → Wp k_X12_why d (40, [some (aR (some (40, 0, 0))), some (aI (iZ x1)), some (aI (iZ x2)), some (aI (iZ x3))], [], am_hp σ, t) Q) : Wp k_X12_why d (30, [some (aR (some (40, 0, 0))), some (aI (iZ x1)), some (aI (iZ x2)), some (aI (iZ x3))], [], am_hp σ, t) Q := by
  refine w_s (c' := (31, [some (aR (some (40, 0, 0))), some (aI (iZ x1)), some (aI (iZ x2)), some (aI (iZ x3))], [aR (some (40, 0, 0))], am_hp σ, t)) rfl rfl ?_
  refine w_get rfl (hp_40 _ 0) rfl rfl ?_
  refine w_s (c' := (35, [some (aR (some (40, 0, 0))), some (aI (iZ x1)), some (aI (iZ x2)), some (aI (iZ x3))], [aI (iZ x2), aR (some (51, 0, 0))], am_hp σ, t)) rfl rfl ?_
  refine w_ial rfl (hp_51 _ 0 0) h1 rfl rfl ?_
  refine w_s (c' := (37, [some (aR (some (40, 0, 0))), some (aI (iZ x1)), some (aI (iZ x2)), some (aI (iZ x3))], [aI (iZ x3), aI (iZ (σ.1 (51, 0, 0) x2.toNat))], am_hp σ, t)) rfl rfl ?_
  exact w_icne rfl h2 h3 rfl w4 w5

theorem b_X12_why_40 {x1 : Int} {x2 : Int} {x3 : Int} {σ : SG} {t : KT} (w1 : Wp k_X12_why d (63, [some (aR (some (40, 0, 0))), some (aI (iZ x1)), some (aI (iZ x2)), some (aI (iZ x3))], [aI (iZ 0)], am_hp σ, t) Q) : Wp k_X12_why d (40, [some (aR (some (40, 0, 0))), some (aI (iZ x1)), some (aI (iZ x2)), some (aI (iZ x3))], [], am_hp σ, t) Q := by
  refine w_psh rfl zc_0 rfl ?_
  refine w_s (c' := (63, [some (aR (some (40, 0, 0))), some (aI (iZ x1)), some (aI (iZ x2)), some (aI (iZ x3))], [aI (iZ 0)], am_hp σ, t)) rfl rfl ?_
  exact w1

theorem b_X12_why_44 {x1 : Int} {x2 : Int} {x3 : Int} {r1 : Int} {σ σ1 : SG} {t : KT} (h1 : 0 ≤ x2 ∧ x2 < 121) (c2 : Ca d 228 [aR (some (40, 0, 0)), aI (iZ (σ.1 (52, 0, 0) x2.toNat)), aI (iZ x3)] (am_hp σ) t (.inl (some (aI (iZ r1))), am_hp σ1, t)) (h3 : -2147483648 ≤ r1 ∧ r1 < 2147483648) (w4 : r1 = 0 → Wp k_X12_why d (62, [some (aR (some (40, 0, 0))), some (aI (iZ x1)), some (aI (iZ x2)), some (aI (iZ x3))], [], am_hp σ1, t) Q) (w5 : r1 ≠ 0 → Wp k_X12_why d (58, [some (aR (some (40, 0, 0))), some (aI (iZ x1)), some (aI (iZ x2)), some (aI (iZ x3))], [], am_hp σ1, t) Q) : Wp k_X12_why d (44, [some (aR (some (40, 0, 0))), some (aI (iZ x1)), some (aI (iZ x2)), some (aI (iZ x3))], [], am_hp σ, t) Q := by
  refine w_s (c' := (45, [some (aR (some (40, 0, 0))), some (aI (iZ x1)), some (aI (iZ x2)), some (aI (iZ x3))], [aR (some (40, 0, 0))], am_hp σ, t)) rfl rfl ?_
  refine w_s (c' := (46, [some (aR (some (40, 0, 0))), some (aI (iZ x1)), some (aI (iZ x2)), some (aI (iZ x3))], [aR (some (40, 0, 0)), aR (some (40, 0, 0))], am_hp σ, t)) rfl rfl ?_
  refine w_get rfl (hp_40 _ 0) rfl rfl ?_
  refine w_s (c' := (50, [some (aR (some (40, 0, 0))), some (aI (iZ x1)), some (aI (iZ x2)), some (aI (iZ x3))], [aI (iZ x2), aR (some (52, 0, 0)), aR (some (40, 0, 0))], am_hp σ, t)) rfl rfl ?_
  refine w_ial rfl (hp_52 _ 0 0) h1 rfl rfl ?_
  refine w_s (c' := (52, [some (aR (some (40, 0, 0))), some (aI (iZ x1)), some (aI (iZ x2)), some (aI (iZ x3))], [aI (iZ x3), aI (iZ (σ.1 (52, 0, 0) x2.toNat)), aR (some (40, 0, 0))], am_hp σ, t)) rfl rfl ?_
  refine w_c0 (c' := (55, [some (aR (some (40, 0, 0))), some (aI (iZ x1)), some (aI (iZ x2)), some (aI (iZ x3))], [aI (iZ r1)], am_hp σ1, t)) rfl rfl (rcv_of (hp_40 _ 0)) rfl c2 (Nat.le_refl _) rfl ?_
  exact w_ifeq rfl h3 rfl w4 w5

theorem b_X12_why_58 {x1 : Int} {x2 : Int} {x3 : Int} {σ : SG} {t : KT} (w1 : Wp k_X12_why d (63, [some (aR (some (40, 0, 0))), some (aI (iZ x1)), some (aI (iZ x2)), some (aI (iZ x3))], [aI (iZ 2)], am_hp σ, t) Q) : Wp k_X12_why d (58, [some (aR (some (40, 0, 0))), some (aI (iZ x1)), some (aI (iZ x2)), some (aI (iZ x3))], [], am_hp σ, t) Q := by
  refine w_psh rfl zc_2 rfl ?_
  refine w_s (c' := (63, [some (aR (some (40, 0, 0))), some (aI (iZ x1)), some (aI (iZ x2)), some (aI (iZ x3))], [aI (iZ 2)], am_hp σ, t)) rfl rfl ?_
  exact w1

theorem b_X12_why_62 {x1 : Int} {x2 : Int} {x3 : Int} {σ : SG} {t : KT} (w1 : Wp k_X12_why d (63, [some (aR (some (40, 0, 0))), some (aI (iZ x1)), some (aI (iZ x2)), some (aI (iZ x3))], [aI (iZ 1)], am_hp σ, t) Q) : Wp k_X12_why d (62, [some (aR (some (40, 0, 0))), some (aI (iZ x1)), some (aI (iZ x2)), some (aI (iZ x3))], [], am_hp σ, t) Q := by
  refine w_psh rfl zc_1 rfl ?_
  exact w1

theorem b_X12_why_63 {x1 : Int} {x2 : Int} {x3 : Int} {xs0 : Int} {σ : SG} {t : KT} (q1 : Q (.inl (some (aI (iZ xs0))), am_hp σ, t)) : Wp k_X12_why d (63, [some (aR (some (40, 0, 0))), some (aI (iZ x1)), some (aI (iZ x2)), some (aI (iZ x3))], [aI (iZ xs0)], am_hp σ, t) Q := by
  exact w_ret rfl rfl q1

theorem b_X12_unpacked_0 {x1 : Int} {x2 : Int} {r1 : Int} {σ σ1 : SG} {t : KT} (h1 : 0 ≤ x1 ∧ x1 < 120) (c2 : Ca d 263 [aR (some (40, 0, 0)), aI (iZ x1)] (am_hp σ) t (.inl (some (aI (iZ r1))), am_hp σ1, t)) (h3 : 0 ≤ σ.1 (51, 0, 0) x1.toNat ∧ σ.1 (51, 0, 0) x1.toNat < 9) (q4 : Q (.inl (some (aI (iZ (zand (zshr r1 (x2 * (σ1.1 (47, 0, 0) (σ.1 (51, 0, 0) x1.toNat).toNat))) ((zshl 1 (σ1.1 (47, 0, 0) (σ.1 (51, 0, 0) x1.toNat).toNat)) - 1))))), am_hp σ1, t)) : Wp k_X12_unpacked d (0, [some (aR (some (40, 0, 0))), some (aI (iZ x1)), some (aI (iZ x2)), none], [], am_hp σ, t) Q := by
  refine w_s (c' := (1, [some (aR (some (40, 0, 0))), some (aI (iZ x1)), some (aI (iZ x2)), none], [aR (some (40, 0, 0))], am_hp σ, t)) rfl rfl ?_
  refine w_get rfl (hp_40 _ 0) rfl rfl ?_
  refine w_s (c' := (5, [some (aR (some (40, 0, 0))), some (aI (iZ x1)), some (aI (iZ x2)), none], [aI (iZ x1), aR (some (51, 0, 0))], am_hp σ, t)) rfl rfl ?_
  refine w_ial rfl (hp_51 _ 0 0) h1 rfl rfl ?_
  refine w_s (c' := (7, [some (aR (some (40, 0, 0))), some (aI (iZ x1)), some (aI (iZ x2)), some (aI (iZ (σ.1 (51, 0, 0) x1.toNat)))], [], am_hp σ, t)) rfl rfl ?_
  refine w_s (c' := (8, [some (aR (some (40, 0, 0))), some (aI (iZ x1)), some (aI (iZ x2)), some (aI (iZ (σ.1 (51, 0, 0) x1.toNat)))], [aR (some (40, 0, 0))], am_hp σ, t)) rfl rfl ?_
  refine w_s (c' := (9, [some (aR (some (40, 0, 0))), some (aI (iZ x1)), some (aI (iZ x2)), some (aI (iZ (σ.1 (51, 0, 0) x1.toNat)))], [aI (iZ x1), aR (some (40, 0, 0))], am_hp σ, t)) rfl rfl ?_
  refine w_c0 (c' := (12, [some (aR (some (40, 0, 0))), some (aI (iZ x1)), some (aI (iZ x2)), some (aI (iZ (σ.1 (51, 0, 0) x1.toNat)))], [aI (iZ r1)], am_hp σ1, t)) rfl rfl (rcv_of (hp_40 _ 0)) rfl c2 (Nat.le_refl _) rfl ?_
  refine w_s (c' := (13, [some (aR (some (40, 0, 0))), some (aI (iZ x1)), some (aI (iZ x2)), some (aI (iZ (σ.1 (51, 0, 0) x1.toNat)))], [aI (iZ x2), aI (iZ r1)], am_hp σ1, t)) rfl rfl ?_
  refine w_s (c' := (14, [some (aR (some (40, 0, 0))), some (aI (iZ x1)), some (aI (iZ x2)), some (aI (iZ (σ.1 (51, 0, 0) x1.toNat)))], [aR (some (40, 0, 0)), aI (iZ x2), aI (iZ r1)], am_hp σ1, t)) rfl rfl ?_
  refine w_get rfl (hp_40 _ 0) rfl rfl ?_
  refine w_s (c' := (18, [some (aR (some (40, 0, 0))), some (aI (iZ x1)), some (aI (iZ x2)), some (aI (iZ (σ.1 (51, 0, 0) x1.toNat)))], [aI (iZ (σ.1 (51, 0, 0) x1.toNat)), aR (some (47, 0, 0)), aI (iZ x2), aI (iZ r1)], am_hp σ1, t)) rfl rfl ?_
  refine w_ial rfl (hp_47 _ 0 0) h3 rfl rfl ?_
  refine w_imul rfl rfl ?_
  refine w_ishr rfl rfl ?_
  refine w_psh rfl zc_1 rfl ?_
  refine w_s (c' := (23, [some (aR (some (40, 0, 0))), some (aI (iZ x1)), some (aI (iZ x2)), some (aI (iZ (σ.1 (51, 0, 0) x1.toNat)))], [aR (some (40, 0, 0)), aI (iZ 1), aI (iZ (zshr r1 (x2 * (σ1.1 (47, 0, 0) (σ.1 (51, 0, 0) x1.toNat).toNat))))], am_hp σ1, t)) rfl rfl ?_
  refine w_get rfl (hp_40 _ 0) rfl rfl ?_
  refine w_s (c' := (27, [some (aR (some (40, 0, 0))), some (aI (iZ x1)), some (aI (iZ x2)), some (aI (iZ (σ.1 (51, 0, 0) x1.toNat)))], [aI (iZ (σ.1 (51, 0, 0) x1.toNat)), aR (some (47, 0, 0)), aI (iZ 1), aI (iZ (zshr r1 (x2 * (σ1.1 (47, 0, 0) (σ.1 (51, 0, 0) x1.toNat).toNat))))], am_hp σ1, t)) rfl rfl ?_
  refine w_ial rfl (hp_47 _ 0 0) h3 rfl rfl ?_
  refine w_ishl rfl rfl ?_
  refine w_psh rfl zc_1 rfl ?_
  refine w_isub rfl rfl ?_
  refine w_iand rfl rfl ?_
  exact w_ret rfl rfl q4

theorem e_X12_unpacked {x1 : Int} {x2 : Int} {h : AH} {t : KT} {d : Nat} {P : RS → Prop} (w : Wp k_X12_unpacked d (0, [some (aR (some (40, 0, 0))), some (aI (iZ x1)), some (aI (iZ x2)), none], [], h, t) P) : ∃ r, Ca (d + 1) 272 [aR (some (40, 0, 0)), aI (iZ x1), aI (iZ x2)] h t r ∧ P r := ca_W rfl rfl rfl rfl w
end PCS
