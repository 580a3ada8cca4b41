/-! PIECES: X11 -/
set_option maxRecDepth 4000
section PCS
variable {d : Nat} {Q : RS → Prop}
theorem b_X11_gap_0 {σ : SG} {t : KT} (w1 : Wp k_X11_gap d (4, [some (aR (some (1, 0, 0))), some (aI (iZ 0)), some (aI (iZ 0)), none], [], am_hp σ, t) Q) : Wp k_X11_gap d (0, [some (aR (some (1, 0, 0))), none, none, none], [], am_hp σ, t) Q := by
  refine w_psh rfl zc_0 rfl ?_
  refine w_s (c' := (2, [some (aR (some (1, 0, 0))), some (aI (iZ 0)), none, none], [], am_hp σ, t)) rfl rfl ?_
  refine w_psh rfl zc_0 rfl ?_
  refine w_s (c' := (4, [some (aR (some (1, 0, 0))), some (aI (iZ 0)), some (aI (iZ 0)), none], [], am_hp σ, t)) rfl rfl ?_
  exact w1

theorem e_X11_gap {h : AH} {t : KT} {d : Nat} {P : RS → Prop} (w : Wp k_X11_gap d (0, [some (aR (some (1, 0, 0))), none, none, none], [], h, t) P) : ∃ r, Ca (d + 1) 105 [aR (some (1, 0, 0))] h t r ∧ P r := ca_W rfl rfl rfl rfl w

theorem b_X11_gap_4 {x1 : Int} {x2 : Int} {u3 : Option AV} {σ : SG} {t : KT} (h1 : -2147483648 ≤ x2 ∧ x2 < 2147483648) (h2 : -2147483648 ≤ σ.1 (8, 0, 0) 4 ∧ σ.1 (8, 0, 0) 4 < 2147483648) (w3 : σ.1 (8, 0, 0) 4 ≤ x2 → Wp k_X11_gap d (69, [some (aR (some (1, 0, 0))), some (aI (iZ x1)), some (aI (iZ x2)), u3], [], am_hp σ, t) Q) (w4 : x2 < σ.1 (8, 0, 0) 4 → Wp k_X11_gap d (15, [some (aR (some (1, 0, 0))), some (aI (iZ x1)), some (aI (iZ x2)), u3], [], am_hp σ, t) Q) : Wp k_X11_gap d (4, [some (aR (some (1, 0, 0))), some (aI (iZ x1)), some (aI (iZ x2)), u3], [], am_hp σ, t) Q := by
  refine w_s (c' := (5, [some (aR (some (1, 0, 0))), some (aI (iZ x1)), some (aI (iZ x2)), u3], [aI (iZ x2)], am_hp σ, t)) rfl rfl ?_
  refine w_s (c' := (6, [some (aR (some (1, 0, 0))), some (aI (iZ x1)), some (aI (iZ x2)), u3], [aR (some (1, 0, 0)), aI (iZ x2)], am_hp σ, t)) rfl rfl ?_
  refine w_get rfl (hp_1 _ 0) rfl rfl ?_
  refine w_get rfl (hp_8 _ 0) rfl rfl ?_
  exact w_icge rfl h1 h2 rfl w3 w4

theorem b_X11_gap_15 {x1 : Int} {x2 : Int} {u3 : Option AV} {σ : SG} {t : KT} (w1 : Wp k_X11_gap d (17, [some (aR (some (1, 0, 0))), some (aI (iZ x1)), some (aI (iZ x2)), some (aI (iZ 0))], [], am_hp σ, t) Q) : Wp k_X11_gap d (15, [some (aR (some (1, 0, 0))), some (aI (iZ x1)), some (aI (iZ x2)), u3], [], am_hp σ, t) Q := by
  refine w_psh rfl zc_0 rfl ?_
  refine w_s (c' := (17, [some (aR (some (1, 0, 0))), some (aI (iZ x1)), some (aI (iZ x2)), some (aI (iZ 0))], [], am_hp σ, t)) rfl rfl ?_
  exact w1

theorem b_X11_gap_17 {x1 : Int} {x2 : Int} {x3 : Int} {σ : SG} {t : KT} (h1 : 0 ≤ x2 ∧ x2 < 4) (h2 : -2147483648 ≤ x3 ∧ x3 < 2147483648) (h3 : -2147483648 ≤ σ.1 (10, 0, 0) x2.toNat ∧ σ.1 (10, 0, 0) x2.toNat < 2147483648) (w4 : σ.1 (10, 0, 0) x2.toNat ≤ x3 → Wp k_X11_gap d (63, [some (aR (some (1, 0, 0))), some (aI (iZ x1)), some (aI (iZ x2)), some (aI (iZ x3))], [], am_hp σ, t) Q) (w5 : x3 < σ.1 (10, 0, 0) x2.toNat → Wp k_X11_gap d (30, [some (aR (some (1, 0, 0))), some (aI (iZ x1)), some (aI (iZ x2)), some (aI (iZ x3))], [], am_hp σ, t) Q) : Wp k_X11_gap d (17, [some (aR (some (1, 0, 0))), some (aI (iZ x1)), some (aI (iZ x2)), some (aI (iZ x3))], [], am_hp σ, t) Q := by
  refine w_s (c' := (18, [some (aR (some (1, 0, 0))), some (aI (iZ x1)), some (aI (iZ x2)), some (aI (iZ x3))], [aI (iZ x3)], am_hp σ, t)) rfl rfl ?_
  refine w_s (c' := (19, [some (aR (some (1, 0, 0))), some (aI (iZ x1)), some (aI (iZ x2)), some (aI (iZ x3))], [aR (some (1, 0, 0)), aI (iZ x3)], am_hp σ, t)) rfl rfl ?_
  refine w_get rfl (hp_1 _ 0) rfl rfl ?_
  refine w_get rfl (hp_8 _ 0) rfl rfl ?_
  refine w_s (c' := (26, [some (aR (some (1, 0, 0))), some (aI (iZ x1)), some (aI (iZ x2)), some (aI (iZ x3))], [aI (iZ x2), aR (some (10, 0, 0)), aI (iZ x3)], am_hp σ, t)) rfl rfl ?_
  refine w_ial rfl (hp_10 _ 0 0) h1 rfl rfl ?_
  exact w_icge rfl h2 h3 rfl w4 w5

theorem b_X11_gap_30 {x1 : Int} {x2 : Int} {x3 : Int} {r1 : Int} {σ σ1 : SG} {t : KT} (h1 : 0 ≤ x2 ∧ x2 < 4) (c2 : Ca d 18 [aR (some (28, x2.toNat, 0)), aI (iZ x3)] (am_hp σ) t (.inl (some (aI (iZ r1))), am_hp σ1, t)) (h3 : 0 ≤ x3 ∧ x3 < 60) (h4 : -2147483648 ≤ r1 ∧ r1 < 2147483648) (h5 : -2147483648 ≤ σ1.1 (12, 0, x2.toNat) x3.toNat ∧ σ1.1 (12, 0, x2.toNat) x3.toNat < 2147483648) (w6 : r1 = σ1.1 (12, 0, x2.toNat) x3.toNat → Wp k_X11_gap d (57, [some (aR (some (1, 0, 0))), some (aI (iZ x1)), some (aI (iZ x2)), some (aI (iZ x3))], [], am_hp σ1, t) Q) (w7 : r1 ≠ σ1.1 (12, 0, x2.toNat) x3.toNat → Wp k_X11_gap d (54, [some (aR (some (1, 0, 0))), some (aI (iZ x1)), some (aI (iZ x2)), some (aI (iZ x3))], [], am_hp σ1, t) Q) : Wp k_X11_gap d (30, [some (aR (some (1, 0, 0))), some (aI (iZ x1)), some (aI (iZ x2)), some (aI (iZ x3))], [], am_hp σ, t) Q := by
  refine w_s (c' := (31, [some (aR (some (1, 0, 0))), some (aI (iZ x1)), some (aI (iZ x2)), some (aI (iZ x3))], [aR (some (1, 0, 0))], am_hp σ, t)) rfl rfl ?_
  refine w_get rfl (hp_1 _ 0) rfl rfl ?_
  refine w_s (c' := (35, [some (aR (some (1, 0, 0))), some (aI (iZ x1)), some (aI (iZ x2)), some (aI (iZ x3))], [aI (iZ x2), aR (some (17, 0, 0))], am_hp σ, t)) rfl rfl ?_
  refine w_aal rfl (hp_17 _ 0) h1 rfl rfl ?_
  refine w_s (c' := (37, [some (aR (some (1, 0, 0))), some (aI (iZ x1)), some (aI (iZ x2)), some (aI (iZ x3))], [aI (iZ x3), aR (some (28, x2.toNat, 0))], am_hp σ, t)) rfl rfl ?_
  refine w_c0 (c' := (40, [some (aR (some (1, 0, 0))), some (aI (iZ x1)), some (aI (iZ x2)), some (aI (iZ x3))], [aI (iZ r1)], am_hp σ1, t)) rfl rfl (rcv_of (hp_28 _ x2.toNat)) rfl c2 (Nat.le_refl _) rfl ?_
  refine w_s (c' := (41, [some (aR (some (1, 0, 0))), some (aI (iZ x1)), some (aI (iZ x2)), some (aI (iZ x3))], [aR (some (1, 0, 0)), aI (iZ r1)], am_hp σ1, t)) rfl rfl ?_
  refine w_get rfl (hp_1 _ 0) rfl rfl ?_
  refine w_get rfl (hp_8 _ 0) rfl rfl ?_
  refine w_s (c' := (48, [some (aR (some (1, 0, 0))), some (aI (iZ x1)), some (aI (iZ x2)), some (aI (iZ x3))], [aI (iZ x2), aR (some (11, 0, 0)), aI (iZ r1)], am_hp σ1, t)) rfl rfl ?_
  refine w_aal rfl (hp_11 _ 0) h1 rfl rfl ?_
  refine w_s (c' := (50, [some (aR (some (1, 0, 0))), some (aI (iZ x1)), some (aI (iZ x2)), some (aI (iZ x3))], [aI (iZ x3), aR (some (12, 0, x2.toNat)), aI (iZ r1)], am_hp σ1, t)) rfl rfl ?_
  refine w_ial rfl (hp_12 _ 0 x2.toNat) h3 rfl rfl ?_
  exact w_iceq rfl h4 h5 rfl w6 w7

theorem b_X11_gap_54 {x1 : Int} {x2 : Int} {x3 : Int} {σ : SG} {t : KT} (w1 : Wp k_X11_gap d (57, [some (aR (some (1, 0, 0))), some (aI (iZ (x1 + 1))), some (aI (iZ x2)), some (aI (iZ x3))], [], am_hp σ, t) Q) : Wp k_X11_gap d (54, [some (aR (some (1, 0, 0))), some (aI (iZ x1)), some (aI (iZ x2)), some (aI (iZ x3))], [], am_hp σ, t) Q := by
  refine w_inc (a := x1) (ls' := [some (aR (some (1, 0, 0))), some (aI (iZ (x1 + 1))), some (aI (iZ x2)), some (aI (iZ x3))]) rfl rfl rfl zc_1 rfl rfl ?_
  exact w1

theorem b_X11_gap_57 {x1 : Int} {x2 : Int} {x3 : Int} {σ : SG} {t : KT} (w1 : Wp k_X11_gap d (17, [some (aR (some (1, 0, 0))), some (aI (iZ x1)), some (aI (iZ x2)), some (aI (iZ (x3 + 1)))], [], am_hp σ, t) Q) : Wp k_X11_gap d (57, [some (aR (some (1, 0, 0))), some (aI (iZ x1)), some (aI (iZ x2)), some (aI (iZ x3))], [], am_hp σ, t) Q := by
  refine w_inc (a := x3) (ls' := [some (aR (some (1, 0, 0))), some (aI (iZ x1)), some (aI (iZ x2)), some (aI (iZ (x3 + 1)))]) rfl rfl rfl zc_1 rfl rfl ?_
  refine w_s (c' := (17, [some (aR (some (1, 0, 0))), some (aI (iZ x1)), some (aI (iZ x2)), some (aI (iZ (x3 + 1)))], [], am_hp σ, t)) rfl rfl ?_
  exact w1

theorem b_X11_gap_63 {x1 : Int} {x2 : Int} {x3 : Int} {σ : SG} {t : KT} (w1 : Wp k_X11_gap d (4, [some (aR (some (1, 0, 0))), some (aI (iZ x1)), some (aI (iZ (x2 + 1))), some (aI (iZ x3))], [], am_hp σ, t) Q) : Wp k_X11_gap d (63, [some (aR (some (1, 0, 0))), some (aI (iZ x1)), some (aI (iZ x2)), some (aI (iZ x3))], [], am_hp σ, t) Q := by
  refine w_inc (a := x2) (ls' := [some (aR (some (1, 0, 0))), some (aI (iZ x1)), some (aI (iZ (x2 + 1))), some (aI (iZ x3))]) rfl rfl rfl zc_1 rfl rfl ?_
  refine w_s (c' := (4, [some (aR (some (1, 0, 0))), some (aI (iZ x1)), some (aI (iZ (x2 + 1))), some (aI (iZ x3))], [], am_hp σ, t)) rfl rfl ?_
  exact w1

theorem b_X11_gap_69 {x1 : Int} {x2 : Int} {u3 : Option AV} {σ : SG} {t : KT} (q1 : Q (.inl (some (aI (iZ x1))), am_hp σ, t)) : Wp k_X11_gap d (69, [some (aR (some (1, 0, 0))), some (aI (iZ x1)), some (aI (iZ x2)), u3], [], am_hp σ, t) Q := by
  refine w_s (c' := (70, [some (aR (some (1, 0, 0))), some (aI (iZ x1)), some (aI (iZ x2)), u3], [aI (iZ x1)], am_hp σ, t)) rfl rfl ?_
  exact w_ret rfl rfl q1

theorem b_X11_find_0 {r1 : Int} {r2 : Int} {σ σ1 σ2 : SG} {t : KT} (c1 : Ca d 77 [aR (some (2, 0, 0))] (am_hp σ) t (.inl (some (aL (jZ r1))), am_hp σ1, t)) (c2 : Ca d 46 [aR (some (8, 0, 0)), aL (jZ r1)] (am_hp σ1) t (.inl (some (aI (iZ r2))), am_hp σ2, t)) (q3 : Q (.inl (some (aI (iZ r2))), am_hp σ2, t)) : Wp k_X11_find d (0, [some (aR (some (1, 0, 0)))], [], am_hp σ, t) Q := by
  refine w_s (c' := (1, [some (aR (some (1, 0, 0)))], [aR (some (1, 0, 0))], am_hp σ, t)) rfl rfl ?_
  refine w_get rfl (hp_1 _ 0) rfl rfl ?_
  refine w_s (c' := (5, [some (aR (some (1, 0, 0)))], [aR (some (1, 0, 0)), aR (some (8, 0, 0))], am_hp σ, t)) rfl rfl ?_
  refine w_get rfl (hp_1 _ 0) rfl rfl ?_
  refine w_c0 (c' := (11, [some (aR (some (1, 0, 0)))], [aL (jZ r1), aR (some (8, 0, 0))], am_hp σ1, t)) rfl rfl (rcv_of (hp_2 _ 0)) rfl c1 (Nat.le_refl _) rfl ?_
  refine w_c0 (c' := (14, [some (aR (some (1, 0, 0)))], [aI (iZ r2)], am_hp σ2, t)) rfl rfl (rcv_of (hp_8 _ 0)) rfl c2 (Nat.le_refl _) rfl ?_
  exact w_ret rfl rfl q3

theorem e_X11_find {h : AH} {t : KT} {d : Nat} {P : RS → Prop} (w : Wp k_X11_find d (0, [some (aR (some (1, 0, 0)))], [], h, t) P) : ∃ r, Ca (d + 1) 106 [aR (some (1, 0, 0))] h t r ∧ P r := ca_W rfl rfl rfl rfl w

theorem b_X11_read_0 {x1 : Int} {x2 : Int} {r2 : Int} {r3 : Int} {σ σ1 σ2 σ3 : SG} {t : KT} (c1 : Ca d 139 [aR (some (1, 0, 0)), aI (iZ x1), aI (iZ x2)] (am_hp σ) t (.inl none, am_hp σ1, t)) (c2 : Ca d 158 [aR (some (1, 0, 0)), aI (iZ x1), aI (iZ x2), aI (iZ (σ1.1 (8, 0, 0) 6))] (am_hp σ1) t (.inl (some (aI (iZ r2))), am_hp σ2, t)) (h3 : 0 ≤ x1 ∧ x1 < 4) (c4 : Ca d 18 [aR (some (28, x1.toNat, 0)), aI (iZ x2)] (am_hp ((sI σ2 (27, 0, 0) (up (σ2.1 (27, 0, 0)) (3 : Int).toNat ((σ1.1 (27, 0, 0) 3) + r2))))) t (.inl (some (aI (iZ r3))), am_hp σ3, t)) (q5 : Q (.inl (some (aI (iZ r3))), am_hp σ3, t)) : Wp k_X11_read d (0, [some (aR (some (1, 0, 0))), some (aI (iZ x1)), some (aI (iZ x2))], [], am_hp σ, t) Q := by
  refine w_s (c' := (1, [some (aR (some (1, 0, 0))), some (aI (iZ x1)), some (aI (iZ x2))], [aR (some (1, 0, 0))], am_hp σ, t)) rfl rfl ?_
  refine w_s (c' := (2, [some (aR (some (1, 0, 0))), some (aI (iZ x1)), some (aI (iZ x2))], [aI (iZ x1), aR (some (1, 0, 0))], am_hp σ, t)) rfl rfl ?_
  refine w_s (c' := (3, [some (aR (some (1, 0, 0))), some (aI (iZ x1)), some (aI (iZ x2))], [aI (iZ x2), aI (iZ x1), aR (some (1, 0, 0))], am_hp σ, t)) rfl rfl ?_
  refine w_c0 (c' := (6, [some (aR (some (1, 0, 0))), some (aI (iZ x1)), some (aI (iZ x2))], [], am_hp σ1, t)) rfl rfl (rcv_of (hp_1 _ 0)) rfl c1 (Nat.le_refl _) rfl ?_
  refine w_s (c' := (7, [some (aR (some (1, 0, 0))), some (aI (iZ x1)), some (aI (iZ x2))], [aR (some (1, 0, 0))], am_hp σ1, t)) rfl rfl ?_
  refine w_get rfl (hp_1 _ 0) rfl rfl ?_
  refine w_psh rfl zc_3 rfl ?_
  refine w_s (c' := (12, [some (aR (some (1, 0, 0))), some (aI (iZ x1)), some (aI (iZ x2))], [aI (iZ 3), aR (some (27, 0, 0)), aI (iZ 3), aR (some (27, 0, 0))], am_hp σ1, t)) rfl rfl ?_
  refine w_ial rfl (hp_27 _ 0 0) (by decide) rfl rfl ?_
  refine w_e (c' := (13, [some (aR (some (1, 0, 0))), some (aI (iZ x1)), some (aI (iZ x2))], [aI (iZ (σ1.1 (27, 0, 0) 3)), aI (iZ 3), aR (some (27, 0, 0))], am_hp σ1, t)) rfl ?_
  refine w_s (c' := (14, [some (aR (some (1, 0, 0))), some (aI (iZ x1)), some (aI (iZ x2))], [aR (some (1, 0, 0)), aI (iZ (σ1.1 (27, 0, 0) 3)), aI (iZ 3), aR (some (27, 0, 0))], am_hp σ1, t)) rfl rfl ?_
  refine w_s (c' := (15, [some (aR (some (1, 0, 0))), some (aI (iZ x1)), some (aI (iZ x2))], [aI (iZ x1), aR (some (1, 0, 0)), aI (iZ (σ1.1 (27, 0, 0) 3)), aI (iZ 3), aR (some (27, 0, 0))], am_hp σ1, t)) rfl rfl ?_
  refine w_s (c' := (16, [some (aR (some (1, 0, 0))), some (aI (iZ x1)), some (aI (iZ x2))], [aI (iZ x2), aI (iZ x1), aR (some (1, 0, 0)), aI (iZ (σ1.1 (27, 0, 0) 3)), aI (iZ 3), aR (some (27, 0, 0))], am_hp σ1, t)) rfl rfl ?_
  refine w_s (c' := (17, [some (aR (some (1, 0, 0))), some (aI (iZ x1)), some (aI (iZ x2))], [aR (some (1, 0, 0)), aI (iZ x2), aI (iZ x1), aR (some (1, 0, 0)), aI (iZ (σ1.1 (27, 0, 0) 3)), aI (iZ 3), aR (some (27, 0, 0))], am_hp σ1, t)) rfl rfl ?_
  refine w_get rfl (hp_1 _ 0) rfl rfl ?_
  refine w_get rfl (hp_8 _ 0) rfl rfl ?_
  refine w_c0 (c' := (26, [some (aR (some (1, 0, 0))), some (aI (iZ x1)), some (aI (iZ x2))], [aI (iZ r2), aI (iZ (σ1.1 (27, 0, 0) 3)), aI (iZ 3), aR (some (27, 0, 0))], am_hp σ2, t)) rfl rfl (rcv_of (hp_1 _ 0)) rfl c2 (Nat.le_refl _) rfl ?_
  refine w_iadd rfl rfl ?_
  refine w_ias rfl (mk_27 _ 0 0) (by decide) rfl rfl rfl ?_
  refine w_s (c' := (29, [some (aR (some (1, 0, 0))), some (aI (iZ x1)), some (aI (iZ x2))], [aR (some (1, 0, 0))], am_hp ((sI σ2 (27, 0, 0) (up (σ2.1 (27, 0, 0)) (3 : Int).toNat ((σ1.1 (27, 0, 0) 3) + r2)))), t)) rfl rfl ?_
  refine w_get rfl (hp_1 _ 0) rfl rfl ?_
  refine w_s (c' := (33, [some (aR (some (1, 0, 0))), some (aI (iZ x1)), some (aI (iZ x2))], [aI (iZ x1), aR (some (17, 0, 0))], am_hp ((sI σ2 (27, 0, 0) (up (σ2.1 (27, 0, 0)) (3 : Int).toNat ((σ1.1 (27, 0, 0) 3) + r2)))), t)) rfl rfl ?_
  refine w_aal rfl (hp_17 _ 0) h3 rfl rfl ?_
  refine w_s (c' := (35, [some (aR (some (1, 0, 0))), some (aI (iZ x1)), some (aI (iZ x2))], [aI (iZ x2), aR (some (28, x1.toNat, 0))], am_hp ((sI σ2 (27, 0, 0) (up (σ2.1 (27, 0, 0)) (3 : Int).toNat ((σ1.1 (27, 0, 0) 3) + r2)))), t)) rfl rfl ?_
  refine w_c0 (c' := (38, [some (aR (some (1, 0, 0))), some (aI (iZ x1)), some (aI (iZ x2))], [aI (iZ r3)], am_hp σ3, t)) rfl rfl (rcv_of (hp_28 _ x1.toNat)) rfl c4 (Nat.le_refl _) rfl ?_
  exact w_ret rfl rfl q5

theorem bx_X11_read_0_1 {x1 : Int} {x2 : Int} {E : Nat} {σ σ1 σ2 σ3 : SG} {t t' : KT} (c1 : Ca d 139 [aR (some (1, 0, 0)), aI (iZ x1), aI (iZ x2)] (am_hp σ) t (.inr E, am_hp σ1, t')) (q2 : Q (.inr E, am_hp σ1, t')) : Wp k_X11_read d (0, [some (aR (some (1, 0, 0))), some (aI (iZ x1)), some (aI (iZ x2))], [], am_hp σ, t) Q := by
  refine w_s (c' := (1, [some (aR (some (1, 0, 0))), some (aI (iZ x1)), some (aI (iZ x2))], [aR (some (1, 0, 0))], am_hp σ, t)) rfl rfl ?_
  refine w_s (c' := (2, [some (aR (some (1, 0, 0))), some (aI (iZ x1)), some (aI (iZ x2))], [aI (iZ x1), aR (some (1, 0, 0))], am_hp σ, t)) rfl rfl ?_
  refine w_s (c' := (3, [some (aR (some (1, 0, 0))), some (aI (iZ x1)), some (aI (iZ x2))], [aI (iZ x2), aI (iZ x1), aR (some (1, 0, 0))], am_hp σ, t)) rfl rfl ?_
  exact w_x rfl rfl (rcv_of (hp_1 _ 0)) rfl c1 (Nat.le_refl _) rfl q2

theorem e_X11_read {x1 : Int} {x2 : Int} {h : AH} {t : KT} {d : Nat} {P : RS → Prop} (w : Wp k_X11_read d (0, [some (aR (some (1, 0, 0))), some (aI (iZ x1)), some (aI (iZ x2))], [], h, t) P) : ∃ r, Ca (d + 1) 107 [aR (some (1, 0, 0)), aI (iZ x1), aI (iZ x2)] h t r ∧ P r := ca_W rfl rfl rfl rfl w

theorem b_X11_sum_0 {x1 : Int} {x2 : Int} {x3 : Int} {σ σ1 : SG} {t : KT} (c1 : Ca d 138 [aR (some (1, 0, 0)), aI (iZ x1)] (am_hp σ) t (.inl none, am_hp σ1, t)) (h2 : -2147483648 ≤ x2 ∧ x2 < 2147483648) (w3 : x2 < 0 → Wp k_X11_sum d (27, [some (aR (some (1, 0, 0))), some (aI (iZ x1)), some (aI (iZ x2)), some (aI (iZ x3))], [], am_hp σ1, t) Q) (w4 : 0 ≤ x2 → Wp k_X11_sum d (9, [some (aR (some (1, 0, 0))), some (aI (iZ x1)), some (aI (iZ x2)), some (aI (iZ x3))], [], am_hp σ1, t) Q) : Wp k_X11_sum d (0, [some (aR (some (1, 0, 0))), some (aI (iZ x1)), some (aI (iZ x2)), some (aI (iZ x3))], [], am_hp σ, t) Q := by
  refine w_s (c' := (1, [some (aR (some (1, 0, 0))), some (aI (iZ x1)), some (aI (iZ x2)), some (aI (iZ x3))], [aR (some (1, 0, 0))], am_hp σ, t)) rfl rfl ?_
  refine w_s (c' := (2, [some (aR (some (1, 0, 0))), some (aI (iZ x1)), some (aI (iZ x2)), some (aI (iZ x3))], [aI (iZ x1), aR (some (1, 0, 0))], am_hp σ, t)) rfl rfl ?_
  refine w_c0 (c' := (5, [some (aR (some (1, 0, 0))), some (aI (iZ x1)), some (aI (iZ x2)), some (aI (iZ x3))], [], am_hp σ1, t)) rfl rfl (rcv_of (hp_1 _ 0)) rfl c1 (Nat.le_refl _) rfl ?_
  refine w_s (c' := (6, [some (aR (some (1, 0, 0))), some (aI (iZ x1)), some (aI (iZ x2)), some (aI (iZ x3))], [aI (iZ x2)], am_hp σ1, t)) rfl rfl ?_
  exact w_iflt rfl h2 rfl w3 w4

theorem bx_X11_sum_0_1 {x1 : Int} {x2 : Int} {x3 : Int} {E : Nat} {σ σ1 : SG} {t t' : KT} (c1 : Ca d 138 [aR (some (1, 0, 0)), aI (iZ x1)] (am_hp σ) t (.inr E, am_hp σ1, t')) (q2 : Q (.inr E, am_hp σ1, t')) : Wp k_X11_sum d (0, [some (aR (some (1, 0, 0))), some (aI (iZ x1)), some (aI (iZ x2)), some (aI (iZ x3))], [], am_hp σ, t) Q := by
  refine w_s (c' := (1, [some (aR (some (1, 0, 0))), some (aI (iZ x1)), some (aI (iZ x2)), some (aI (iZ x3))], [aR (some (1, 0, 0))], am_hp σ, t)) rfl rfl ?_
  refine w_s (c' := (2, [some (aR (some (1, 0, 0))), some (aI (iZ x1)), some (aI (iZ x2)), some (aI (iZ x3))], [aI (iZ x1), aR (some (1, 0, 0))], am_hp σ, t)) rfl rfl ?_
  exact w_x rfl rfl (rcv_of (hp_1 _ 0)) rfl c1 (Nat.le_refl _) rfl q2

theorem e_X11_sum {x1 : Int} {x2 : Int} {x3 : Int} {h : AH} {t : KT} {d : Nat} {P : RS → Prop} (w : Wp k_X11_sum d (0, [some (aR (some (1, 0, 0))), some (aI (iZ x1)), some (aI (iZ x2)), some (aI (iZ x3))], [], h, t) P) : ∃ r, Ca (d + 1) 108 [aR (some (1, 0, 0)), aI (iZ x1), aI (iZ x2), aI (iZ x3)] h t r ∧ P r := ca_W rfl rfl rfl rfl w

theorem b_X11_sum_9 {x1 : Int} {x2 : Int} {x3 : Int} {σ : SG} {t : KT} (h1 : -2147483648 ≤ x2 ∧ x2 < 2147483648) (h2 : -2147483648 ≤ x3 ∧ x3 < 2147483648) (w3 : x3 < x2 → Wp k_X11_sum d (27, [some (aR (some (1, 0, 0))), some (aI (iZ x1)), some (aI (iZ x2)), some (aI (iZ x3))], [], am_hp σ, t) Q) (w4 : x2 ≤ x3 → Wp k_X11_sum d (14, [some (aR (some (1, 0, 0))), some (aI (iZ x1)), some (aI (iZ x2)), some (aI (iZ x3))], [], am_hp σ, t) Q) : Wp k_X11_sum d (9, [some (aR (some (1, 0, 0))), some (aI (iZ x1)), some (aI (iZ x2)), some (aI (iZ x3))], [], am_hp σ, t) Q := by
  refine w_s (c' := (10, [some (aR (some (1, 0, 0))), some (aI (iZ x1)), some (aI (iZ x2)), some (aI (iZ x3))], [aI (iZ x2)], am_hp σ, t)) rfl rfl ?_
  refine w_s (c' := (11, [some (aR (some (1, 0, 0))), some (aI (iZ x1)), some (aI (iZ x2)), some (aI (iZ x3))], [aI (iZ x3), aI (iZ x2)], am_hp σ, t)) rfl rfl ?_
  exact w_icgt rfl h1 h2 rfl w3 w4

theorem b_X11_sum_14 {x1 : Int} {x2 : Int} {x3 : Int} {σ : SG} {t : KT} (h1 : 0 ≤ x1 ∧ x1 < 4) (h2 : -2147483648 ≤ x3 ∧ x3 < 2147483648) (h3 : -2147483648 ≤ σ.1 (10, 0, 0) x1.toNat ∧ σ.1 (10, 0, 0) x1.toNat < 2147483648) (w4 : x3 ≤ σ.1 (10, 0, 0) x1.toNat → Wp k_X11_sum d (35, [some (aR (some (1, 0, 0))), some (aI (iZ x1)), some (aI (iZ x2)), some (aI (iZ x3))], [], am_hp σ, t) Q) (w5 : σ.1 (10, 0, 0) x1.toNat < x3 → Wp k_X11_sum d (27, [some (aR (some (1, 0, 0))), some (aI (iZ x1)), some (aI (iZ x2)), some (aI (iZ x3))], [], am_hp σ, t) Q) : Wp k_X11_sum d (14, [some (aR (some (1, 0, 0))), some (aI (iZ x1)), some (aI (iZ x2)), some (aI (iZ x3))], [], am_hp σ, t) Q := by
  refine w_s (c' := (15, [some (aR (some (1, 0, 0))), some (aI (iZ x1)), some (aI (iZ x2)), some (aI (iZ x3))], [aI (iZ x3)], am_hp σ, t)) rfl rfl ?_
  refine w_s (c' := (16, [some (aR (some (1, 0, 0))), some (aI (iZ x1)), some (aI (iZ x2)), some (aI (iZ x3))], [aR (some (1, 0, 0)), aI (iZ x3)], am_hp σ, t)) rfl rfl ?_
  refine w_get rfl (hp_1 _ 0) rfl rfl ?_
  refine w_get rfl (hp_8 _ 0) rfl rfl ?_
  refine w_s (c' := (23, [some (aR (some (1, 0, 0))), some (aI (iZ x1)), some (aI (iZ x2)), some (aI (iZ x3))], [aI (iZ x1), aR (some (10, 0, 0)), aI (iZ x3)], am_hp σ, t)) rfl rfl ?_
  refine w_ial rfl (hp_10 _ 0 0) h1 rfl rfl ?_
  exact w_icle rfl h2 h3 rfl w4 w5

theorem b_X11_sum_27 {x1 : Int} {x2 : Int} {x3 : Int} {σ : SG} {t : KT} (q1 : Q (.inr 1, am_hp σ, (t.1, t.2.1 + 1, t.2.2 + 6))) : Wp k_X11_sum d (27, [some (aR (some (1, 0, 0))), some (aI (iZ x1)), some (aI (iZ x2)), some (aI (iZ x3))], [], am_hp σ, t) Q := by
  exact w_f rfl rfl q1

theorem b_X11_sum_35 {x1 : Int} {x2 : Int} {x3 : Int} {r1 : Int} {r2 : Int} {r3 : Int} {r4 : Int} {σ σ1 σ2 σ3 σ4 : SG} {t : KT} (c1 : Ca d 160 [aR (some (1, 0, 0)), aI (iZ x1), aI (iZ x2)] (am_hp σ) t (.inl (some (aI (iZ r1))), am_hp σ1, t)) (c2 : Ca d 160 [aR (some (1, 0, 0)), aI (iZ x1), aI (iZ x3)] (am_hp σ1) t (.inl (some (aI (iZ r2))), am_hp σ2, t)) (c3 : Ca d 48 [aR (some (8, 0, 0)), aI (iZ x1), aI (iZ 0), aI (iZ x3)] (am_hp ((sI σ2 (27, 0, 0) (up (σ2.1 (27, 0, 0)) (3 : Int).toNat ((σ.1 (27, 0, 0) 3) + (r1 + r2)))))) t (.inl (some (aL (jZ r3))), am_hp σ3, t)) (c4 : Ca d 48 [aR (some (8, 0, 0)), aI (iZ x1), aI (iZ 0), aI (iZ x2)] (am_hp σ3) t (.inl (some (aL (jZ r4))), am_hp σ4, t)) (q5 : Q (.inl (some (aL (jZ (r3 - r4)))), am_hp σ4, t)) : Wp k_X11_sum d (35, [some (aR (some (1, 0, 0))), some (aI (iZ x1)), some (aI (iZ x2)), some (aI (iZ x3))], [], am_hp σ, t) Q := by
  refine w_s (c' := (36, [some (aR (some (1, 0, 0))), some (aI (iZ x1)), some (aI (iZ x2)), some (aI (iZ x3))], [aR (some (1, 0, 0))], am_hp σ, t)) rfl rfl ?_
  refine w_get rfl (hp_1 _ 0) rfl rfl ?_
  refine w_psh rfl zc_3 rfl ?_
  refine w_s (c' := (41, [some (aR (some (1, 0, 0))), some (aI (iZ x1)), some (aI (iZ x2)), some (aI (iZ x3))], [aI (iZ 3), aR (some (27, 0, 0)), aI (iZ 3), aR (some (27, 0, 0))], am_hp σ, t)) rfl rfl ?_
  refine w_ial rfl (hp_27 _ 0 0) (by decide) rfl rfl ?_
  refine w_e (c' := (42, [some (aR (some (1, 0, 0))), some (aI (iZ x1)), some (aI (iZ x2)), some (aI (iZ x3))], [aI (iZ (σ.1 (27, 0, 0) 3)), aI (iZ 3), aR (some (27, 0, 0))], am_hp σ, t)) rfl ?_
  refine w_s (c' := (43, [some (aR (some (1, 0, 0))), some (aI (iZ x1)), some (aI (iZ x2)), some (aI (iZ x3))], [aR (some (1, 0, 0)), aI (iZ (σ.1 (27, 0, 0) 3)), aI (iZ 3), aR (some (27, 0, 0))], am_hp σ, t)) rfl rfl ?_
  refine w_s (c' := (44, [some (aR (some (1, 0, 0))), some (aI (iZ x1)), some (aI (iZ x2)), some (aI (iZ x3))], [aI (iZ x1), aR (some (1, 0, 0)), aI (iZ (σ.1 (27, 0, 0) 3)), aI (iZ 3), aR (some (27, 0, 0))], am_hp σ, t)) rfl rfl ?_
  refine w_s (c' := (45, [some (aR (some (1, 0, 0))), some (aI (iZ x1)), some (aI (iZ x2)), some (aI (iZ x3))], [aI (iZ x2), aI (iZ x1), aR (some (1, 0, 0)), aI (iZ (σ.1 (27, 0, 0) 3)), aI (iZ 3), aR (some (27, 0, 0))], am_hp σ, t)) rfl rfl ?_
  refine w_c0 (c' := (48, [some (aR (some (1, 0, 0))), some (aI (iZ x1)), some (aI (iZ x2)), some (aI (iZ x3))], [aI (iZ r1), aI (iZ (σ.1 (27, 0, 0) 3)), aI (iZ 3), aR (some (27, 0, 0))], am_hp σ1, t)) rfl rfl (rcv_of (hp_1 _ 0)) rfl c1 (Nat.le_refl _) rfl ?_
  refine w_s (c' := (49, [some (aR (some (1, 0, 0))), some (aI (iZ x1)), some (aI (iZ x2)), some (aI (iZ x3))], [aR (some (1, 0, 0)), aI (iZ r1), aI (iZ (σ.1 (27, 0, 0) 3)), aI (iZ 3), aR (some (27, 0, 0))], am_hp σ1, t)) rfl rfl ?_
  refine w_s (c' := (50, [some (aR (some (1, 0, 0))), some (aI (iZ x1)), some (aI (iZ x2)), some (aI (iZ x3))], [aI (iZ x1), aR (some (1, 0, 0)), aI (iZ r1), aI (iZ (σ.1 (27, 0, 0) 3)), aI (iZ 3), aR (some (27, 0, 0))], am_hp σ1, t)) rfl rfl ?_
  refine w_s (c' := (51, [some (aR (some (1, 0, 0))), some (aI (iZ x1)), some (aI (iZ x2)), some (aI (iZ x3))], [aI (iZ x3), aI (iZ x1), aR (some (1, 0, 0)), aI (iZ r1), aI (iZ (σ.1 (27, 0, 0) 3)), aI (iZ 3), aR (some (27, 0, 0))], am_hp σ1, t)) rfl rfl ?_
  refine w_c0 (c' := (54, [some (aR (some (1, 0, 0))), some (aI (iZ x1)), some (aI (iZ x2)), some (aI (iZ x3))], [aI (iZ r2), aI (iZ r1), aI (iZ (σ.1 (27, 0, 0) 3)), aI (iZ 3), aR (some (27, 0, 0))], am_hp σ2, t)) rfl rfl (rcv_of (hp_1 _ 0)) rfl c2 (Nat.le_refl _) rfl ?_
  refine w_iadd rfl rfl ?_
  refine w_iadd rfl rfl ?_
  refine w_ias rfl (mk_27 _ 0 0) (by decide) rfl rfl rfl ?_
  refine w_s (c' := (58, [some (aR (some (1, 0, 0))), some (aI (iZ x1)), some (aI (iZ x2)), some (aI (iZ x3))], [aR (some (1, 0, 0))], am_hp ((sI σ2 (27, 0, 0) (up (σ2.1 (27, 0, 0)) (3 : Int).toNat ((σ.1 (27, 0, 0) 3) + (r1 + r2))))), t)) rfl rfl ?_
  refine w_get rfl (hp_1 _ 0) rfl rfl ?_
  refine w_s (c' := (62, [some (aR (some (1, 0, 0))), some (aI (iZ x1)), some (aI (iZ x2)), some (aI (iZ x3))], [aI (iZ x1), aR (some (8, 0, 0))], am_hp ((sI σ2 (27, 0, 0) (up (σ2.1 (27, 0, 0)) (3 : Int).toNat ((σ.1 (27, 0, 0) 3) + (r1 + r2))))), t)) rfl rfl ?_
  refine w_psh rfl zc_0 rfl ?_
  refine w_s (c' := (64, [some (aR (some (1, 0, 0))), some (aI (iZ x1)), some (aI (iZ x2)), some (aI (iZ x3))], [aI (iZ x3), aI (iZ 0), aI (iZ x1), aR (some (8, 0, 0))], am_hp ((sI σ2 (27, 0, 0) (up (σ2.1 (27, 0, 0)) (3 : Int).toNat ((σ.1 (27, 0, 0) 3) + (r1 + r2))))), t)) rfl rfl ?_
  refine w_c0 (c' := (67, [some (aR (some (1, 0, 0))), some (aI (iZ x1)), some (aI (iZ x2)), some (aI (iZ x3))], [aL (jZ r3)], am_hp σ3, t)) rfl rfl (rcv_of (hp_8 _ 0)) rfl c3 (Nat.le_refl _) rfl ?_
  refine w_s (c' := (68, [some (aR (some (1, 0, 0))), some (aI (iZ x1)), some (aI (iZ x2)), some (aI (iZ x3))], [aR (some (1, 0, 0)), aL (jZ r3)], am_hp σ3, t)) rfl rfl ?_
  refine w_get rfl (hp_1 _ 0) rfl rfl ?_
  refine w_s (c' := (72, [some (aR (some (1, 0, 0))), some (aI (iZ x1)), some (aI (iZ x2)), some (aI (iZ x3))], [aI (iZ x1), aR (some (8, 0, 0)), aL (jZ r3)], am_hp σ3, t)) rfl rfl ?_
  refine w_psh rfl zc_0 rfl ?_
  refine w_s (c' := (74, [some (aR (some (1, 0, 0))), some (aI (iZ x1)), some (aI (iZ x2)), some (aI (iZ x3))], [aI (iZ x2), aI (iZ 0), aI (iZ x1), aR (some (8, 0, 0)), aL (jZ r3)], am_hp σ3, t)) rfl rfl ?_
  refine w_c0 (c' := (77, [some (aR (some (1, 0, 0))), some (aI (iZ x1)), some (aI (iZ x2)), some (aI (iZ x3))], [aL (jZ r4), aL (jZ r3)], am_hp σ4, t)) rfl rfl (rcv_of (hp_8 _ 0)) rfl c4 (Nat.le_refl _) rfl ?_
  refine w_lsub rfl rfl ?_
  exact w_ret rfl rfl q5

theorem b_X11_first_0 {x1 : Int} {x2 : Int} {σ σ1 : SG} {t : KT} (c1 : Ca d 138 [aR (some (1, 0, 0)), aI (iZ x1)] (am_hp σ) t (.inl none, am_hp σ1, t)) (h2 : 0 ≤ x1 ∧ x1 < 4) (w3 : Wp k_X11_first d (15, [some (aR (some (1, 0, 0))), some (aI (iZ x1)), some (aI (iZ x2)), some (aR (some (28, x1.toNat, 0))), some (aI (iZ 0)), none], [], am_hp σ1, t) Q) : Wp k_X11_first d (0, [some (aR (some (1, 0, 0))), some (aI (iZ x1)), some (aI (iZ x2)), none, none, none], [], am_hp σ, t) Q := by
  refine w_s (c' := (1, [some (aR (some (1, 0, 0))), some (aI (iZ x1)), some (aI (iZ x2)), none, none, none], [aR (some (1, 0, 0))], am_hp σ, t)) rfl rfl ?_
  refine w_s (c' := (2, [some (aR (some (1, 0, 0))), some (aI (iZ x1)), some (aI (iZ x2)), none, none, none], [aI (iZ x1), aR (some (1, 0, 0))], am_hp σ, t)) rfl rfl ?_
  refine w_c0 (c' := (5, [some (aR (some (1, 0, 0))), some (aI (iZ x1)), some (aI (iZ x2)), none, none, none], [], am_hp σ1, t)) rfl rfl (rcv_of (hp_1 _ 0)) rfl c1 (Nat.le_refl _) rfl ?_
  refine w_s (c' := (6, [some (aR (some (1, 0, 0))), some (aI (iZ x1)), some (aI (iZ x2)), none, none, none], [aR (some (1, 0, 0))], am_hp σ1, t)) rfl rfl ?_
  refine w_get rfl (hp_1 _ 0) rfl rfl ?_
  refine w_s (c' := (10, [some (aR (some (1, 0, 0))), some (aI (iZ x1)), some (aI (iZ x2)), none, none, none], [aI (iZ x1), aR (some (17, 0, 0))], am_hp σ1, t)) rfl rfl ?_
  refine w_aal rfl (hp_17 _ 0) h2 rfl rfl ?_
  refine w_s (c' := (12, [some (aR (some (1, 0, 0))), some (aI (iZ x1)), some (aI (iZ x2)), some (aR (some (28, x1.toNat, 0))), none, none], [], am_hp σ1, t)) rfl rfl ?_
  refine w_psh rfl zc_0 rfl ?_
  refine w_s (c' := (15, [some (aR (some (1, 0, 0))), some (aI (iZ x1)), some (aI (iZ x2)), some (aR (some (28, x1.toNat, 0))), some (aI (iZ 0)), none], [], am_hp σ1, t)) rfl rfl ?_
  exact w3

theorem bx_X11_first_0_1 {x1 : Int} {x2 : Int} {E : Nat} {σ σ1 : SG} {t t' : KT} (c1 : Ca d 138 [aR (some (1, 0, 0)), aI (iZ x1)] (am_hp σ) t (.inr E, am_hp σ1, t')) (q2 : Q (.inr E, am_hp σ1, t')) : Wp k_X11_first d (0, [some (aR (some (1, 0, 0))), some (aI (iZ x1)), some (aI (iZ x2)), none, none, none], [], am_hp σ, t) Q := by
  refine w_s (c' := (1, [some (aR (some (1, 0, 0))), some (aI (iZ x1)), some (aI (iZ x2)), none, none, none], [aR (some (1, 0, 0))], am_hp σ, t)) rfl rfl ?_
  refine w_s (c' := (2, [some (aR (some (1, 0, 0))), some (aI (iZ x1)), some (aI (iZ x2)), none, none, none], [aI (iZ x1), aR (some (1, 0, 0))], am_hp σ, t)) rfl rfl ?_
  exact w_x rfl rfl (rcv_of (hp_1 _ 0)) rfl c1 (Nat.le_refl _) rfl q2

theorem e_X11_first {x1 : Int} {x2 : Int} {h : AH} {t : KT} {d : Nat} {P : RS → Prop} (w : Wp k_X11_first d (0, [some (aR (some (1, 0, 0))), some (aI (iZ x1)), some (aI (iZ x2)), none, none, none], [], h, t) P) : ∃ r, Ca (d + 1) 109 [aR (some (1, 0, 0)), aI (iZ x1), aI (iZ x2)] h t r ∧ P r := ca_W rfl rfl rfl rfl w

theorem b_X11_first_15 {x1 : Int} {x2 : Int} {p3 : Nat} {x4 : Int} {u5 : Option AV} {σ : SG} {t : KT} (h1 : -2147483648 ≤ x4 ∧ x4 < 2147483648) (h2 : -2147483648 ≤ σ.1 (28, p3, 0) 2 ∧ σ.1 (28, p3, 0) 2 < 2147483648) (w3 : σ.1 (28, p3, 0) 2 ≤ x4 → Wp k_X11_first d (71, [some (aR (some (1, 0, 0))), some (aI (iZ x1)), some (aI (iZ x2)), some (aR (some (28, p3, 0))), some (aI (iZ x4)), u5], [], am_hp σ, t) Q) (w4 : x4 < σ.1 (28, p3, 0) 2 → Wp k_X11_first d (24, [some (aR (some (1, 0, 0))), some (aI (iZ x1)), some (aI (iZ x2)), some (aR (some (28, p3, 0))), some (aI (iZ x4)), u5], [], am_hp σ, t) Q) : Wp k_X11_first d (15, [some (aR (some (1, 0, 0))), some (aI (iZ x1)), some (aI (iZ x2)), some (aR (some (28, p3, 0))), some (aI (iZ x4)), u5], [], am_hp σ, t) Q := by
  refine w_s (c' := (17, [some (aR (some (1, 0, 0))), some (aI (iZ x1)), some (aI (iZ x2)), some (aR (some (28, p3, 0))), some (aI (iZ x4)), u5], [aI (iZ x4)], am_hp σ, t)) rfl rfl ?_
  refine w_s (c' := (18, [some (aR (some (1, 0, 0))), some (aI (iZ x1)), some (aI (iZ x2)), some (aR (some (28, p3, 0))), some (aI (iZ x4)), u5], [aR (some (28, p3, 0)), aI (iZ x4)], am_hp σ, t)) rfl rfl ?_
  refine w_get rfl (hp_28 _ p3) rfl rfl ?_
  exact w_icge rfl h1 h2 rfl w3 w4

theorem b_X11_first_24 {x1 : Int} {x2 : Int} {p3 : Nat} {x4 : Int} {u5 : Option AV} {r1 : Int} {r2 : Int} {σ σ1 σ2 : SG} {t : KT} (c1 : Ca d 8 [aR (some (28, p3, 0)), aI (iZ x4)] (am_hp σ) t (.inl (some (aI (iZ r1))), am_hp σ1, t)) (c2 : Ca d 146 [aI (iZ x2), aI (iZ r1)] (am_hp σ1) t (.inl (some (aI (iZ r2))), am_hp σ2, t)) (h3 : -2147483648 ≤ r2 ∧ r2 < 2147483648) (w4 : r2 = 0 → Wp k_X11_first d (65, [some (aR (some (1, 0, 0))), some (aI (iZ x1)), some (aI (iZ x2)), some (aR (some (28, p3, 0))), some (aI (iZ x4)), u5], [], am_hp σ2, t) Q) (w5 : r2 ≠ 0 → Wp k_X11_first d (37, [some (aR (some (1, 0, 0))), some (aI (iZ x1)), some (aI (iZ x2)), some (aR (some (28, p3, 0))), some (aI (iZ x4)), u5], [], am_hp σ2, t) Q) : Wp k_X11_first d (24, [some (aR (some (1, 0, 0))), some (aI (iZ x1)), some (aI (iZ x2)), some (aR (some (28, p3, 0))), some (aI (iZ x4)), u5], [], am_hp σ, t) Q := by
  refine w_s (c' := (25, [some (aR (some (1, 0, 0))), some (aI (iZ x1)), some (aI (iZ x2)), some (aR (some (28, p3, 0))), some (aI (iZ x4)), u5], [aI (iZ x2)], am_hp σ, t)) rfl rfl ?_
  refine w_s (c' := (26, [some (aR (some (1, 0, 0))), some (aI (iZ x1)), some (aI (iZ x2)), some (aR (some (28, p3, 0))), some (aI (iZ x4)), u5], [aR (some (28, p3, 0)), aI (iZ x2)], am_hp σ, t)) rfl rfl ?_
  refine w_s (c' := (28, [some (aR (some (1, 0, 0))), some (aI (iZ x1)), some (aI (iZ x2)), some (aR (some (28, p3, 0))), some (aI (iZ x4)), u5], [aI (iZ x4), aR (some (28, p3, 0)), aI (iZ x2)], am_hp σ, t)) rfl rfl ?_
  refine w_c0 (c' := (31, [some (aR (some (1, 0, 0))), some (aI (iZ x1)), some (aI (iZ x2)), some (aR (some (28, p3, 0))), some (aI (iZ x4)), u5], [aI (iZ r1), aI (iZ x2)], am_hp σ1, t)) rfl rfl (rcv_of (hp_28 _ p3)) rfl c1 (Nat.le_refl _) rfl ?_
  refine w_c0 (c' := (34, [some (aR (some (1, 0, 0))), some (aI (iZ x1)), some (aI (iZ x2)), some (aR (some (28, p3, 0))), some (aI (iZ x4)), u5], [aI (iZ r2)], am_hp σ2, t)) rfl rfl rfl rfl c2 (Nat.le_refl _) rfl ?_
  exact w_ifeq rfl h3 rfl w4 w5

theorem b_X11_first_37 {x1 : Int} {x2 : Int} {p3 : Nat} {x4 : Int} {u5 : Option AV} {r1 : Int} {σ σ1 : SG} {t : KT} (c1 : Ca d 19 [aR (some (28, p3, 0)), aI (iZ x4), aI (iZ x2)] (am_hp ((sI σ (27, 0, 0) (up (σ.1 (27, 0, 0)) (3 : Int).toNat ((σ.1 (27, 0, 0) 3) + 1))))) t (.inl (some (aI (iZ r1))), am_hp σ1, t)) (h2 : -2147483648 ≤ r1 ∧ r1 < 2147483648) (w3 : r1 = -1 → Wp k_X11_first d (65, [some (aR (some (1, 0, 0))), some (aI (iZ x1)), some (aI (iZ x2)), some (aR (some (28, p3, 0))), some (aI (iZ x4)), some (aI (iZ r1))], [], am_hp σ1, t) Q) (w4 : r1 ≠ -1 → Wp k_X11_first d (62, [some (aR (some (1, 0, 0))), some (aI (iZ x1)), some (aI (iZ x2)), some (aR (some (28, p3, 0))), some (aI (iZ x4)), some (aI (iZ r1))], [], am_hp σ1, t) Q) : Wp k_X11_first d (37, [some (aR (some (1, 0, 0))), some (aI (iZ x1)), some (aI (iZ x2)), some (aR (some (28, p3, 0))), some (aI (iZ x4)), u5], [], am_hp σ, t) Q := by
  refine w_s (c' := (38, [some (aR (some (1, 0, 0))), some (aI (iZ x1)), some (aI (iZ x2)), some (aR (some (28, p3, 0))), some (aI (iZ x4)), u5], [aR (some (1, 0, 0))], am_hp σ, t)) rfl rfl ?_
  refine w_get rfl (hp_1 _ 0) rfl rfl ?_
  refine w_psh rfl zc_3 rfl ?_
  refine w_s (c' := (43, [some (aR (some (1, 0, 0))), some (aI (iZ x1)), some (aI (iZ x2)), some (aR (some (28, p3, 0))), some (aI (iZ x4)), u5], [aI (iZ 3), aR (some (27, 0, 0)), aI (iZ 3), aR (some (27, 0, 0))], am_hp σ, t)) rfl rfl ?_
  refine w_ial rfl (hp_27 _ 0 0) (by decide) rfl rfl ?_
  refine w_e (c' := (44, [some (aR (some (1, 0, 0))), some (aI (iZ x1)), some (aI (iZ x2)), some (aR (some (28, p3, 0))), some (aI (iZ x4)), u5], [aI (iZ (σ.1 (27, 0, 0) 3)), aI (iZ 3), aR (some (27, 0, 0))], am_hp σ, t)) rfl ?_
  refine w_psh rfl zc_1 rfl ?_
  refine w_iadd rfl rfl ?_
  refine w_ias rfl (mk_27 _ 0 0) (by decide) rfl rfl rfl ?_
  refine w_s (c' := (48, [some (aR (some (1, 0, 0))), some (aI (iZ x1)), some (aI (iZ x2)), some (aR (some (28, p3, 0))), some (aI (iZ x4)), u5], [aR (some (28, p3, 0))], am_hp ((sI σ (27, 0, 0) (up (σ.1 (27, 0, 0)) (3 : Int).toNat ((σ.1 (27, 0, 0) 3) + 1)))), t)) rfl rfl ?_
  refine w_s (c' := (50, [some (aR (some (1, 0, 0))), some (aI (iZ x1)), some (aI (iZ x2)), some (aR (some (28, p3, 0))), some (aI (iZ x4)), u5], [aI (iZ x4), aR (some (28, p3, 0))], am_hp ((sI σ (27, 0, 0) (up (σ.1 (27, 0, 0)) (3 : Int).toNat ((σ.1 (27, 0, 0) 3) + 1)))), t)) rfl rfl ?_
  refine w_s (c' := (51, [some (aR (some (1, 0, 0))), some (aI (iZ x1)), some (aI (iZ x2)), some (aR (some (28, p3, 0))), some (aI (iZ x4)), u5], [aI (iZ x2), aI (iZ x4), aR (some (28, p3, 0))], am_hp ((sI σ (27, 0, 0) (up (σ.1 (27, 0, 0)) (3 : Int).toNat ((σ.1 (27, 0, 0) 3) + 1)))), t)) rfl rfl ?_
  refine w_c0 (c' := (54, [some (aR (some (1, 0, 0))), some (aI (iZ x1)), some (aI (iZ x2)), some (aR (some (28, p3, 0))), some (aI (iZ x4)), u5], [aI (iZ r1)], am_hp σ1, t)) rfl rfl (rcv_of (hp_28 _ p3)) rfl c1 (Nat.le_refl _) rfl ?_
  refine w_s (c' := (56, [some (aR (some (1, 0, 0))), some (aI (iZ x1)), some (aI (iZ x2)), some (aR (some (28, p3, 0))), some (aI (iZ x4)), some (aI (iZ r1))], [], am_hp σ1, t)) rfl rfl ?_
  refine w_s (c' := (58, [some (aR (some (1, 0, 0))), some (aI (iZ x1)), some (aI (iZ x2)), some (aR (some (28, p3, 0))), some (aI (iZ x4)), some (aI (iZ r1))], [aI (iZ r1)], am_hp σ1, t)) rfl rfl ?_
  refine w_psh rfl zc_m1 rfl ?_
  exact w_iceq rfl h2 (by decide) rfl w3 w4

theorem b_X11_first_62 {x1 : Int} {x2 : Int} {p3 : Nat} {x4 : Int} {x5 : Int} {σ : SG} {t : KT} (q1 : Q (.inl (some (aI (iZ x5))), am_hp σ, t)) : Wp k_X11_first d (62, [some (aR (some (1, 0, 0))), some (aI (iZ x1)), some (aI (iZ x2)), some (aR (some (28, p3, 0))), some (aI (iZ x4)), some (aI (iZ x5))], [], am_hp σ, t) Q := by
  refine w_s (c' := (64, [some (aR (some (1, 0, 0))), some (aI (iZ x1)), some (aI (iZ x2)), some (aR (some (28, p3, 0))), some (aI (iZ x4)), some (aI (iZ x5))], [aI (iZ x5)], am_hp σ, t)) rfl rfl ?_
  exact w_ret rfl rfl q1

theorem b_X11_first_65 {x1 : Int} {x2 : Int} {p3 : Nat} {x4 : Int} {u5 : Option AV} {σ : SG} {t : KT} (w1 : Wp k_X11_first d (15, [some (aR (some (1, 0, 0))), some (aI (iZ x1)), some (aI (iZ x2)), some (aR (some (28, p3, 0))), some (aI (iZ (x4 + 1))), u5], [], am_hp σ, t) Q) : Wp k_X11_first d (65, [some (aR (some (1, 0, 0))), some (aI (iZ x1)), some (aI (iZ x2)), some (aR (some (28, p3, 0))), some (aI (iZ x4)), u5], [], am_hp σ, t) Q := by
  refine w_inc (a := x4) (ls' := [some (aR (some (1, 0, 0))), some (aI (iZ x1)), some (aI (iZ x2)), some (aR (some (28, p3, 0))), some (aI (iZ (x4 + 1))), u5]) rfl rfl rfl zc_1 rfl rfl ?_
  refine w_s (c' := (15, [some (aR (some (1, 0, 0))), some (aI (iZ x1)), some (aI (iZ x2)), some (aR (some (28, p3, 0))), some (aI (iZ (x4 + 1))), u5], [], am_hp σ, t)) rfl rfl ?_
  exact w1

theorem b_X11_first_71 {x1 : Int} {x2 : Int} {p3 : Nat} {x4 : Int} {u5 : Option AV} {σ : SG} {t : KT} (q1 : Q (.inl (some (aI (iZ (-1)))), am_hp σ, t)) : Wp k_X11_first d (71, [some (aR (some (1, 0, 0))), some (aI (iZ x1)), some (aI (iZ x2)), some (aR (some (28, p3, 0))), some (aI (iZ x4)), u5], [], am_hp σ, t) Q := by
  refine w_psh rfl zc_m1 rfl ?_
  exact w_ret rfl rfl q1

theorem b_X11_many_0 {x1 : Int} {x2 : Int} {σ σ1 : SG} {t : KT} (c1 : Ca d 138 [aR (some (1, 0, 0)), aI (iZ x1)] (am_hp σ) t (.inl none, am_hp σ1, t)) (h2 : 0 ≤ x1 ∧ x1 < 4) (w3 : Wp k_X11_many d (18, [some (aR (some (1, 0, 0))), some (aI (iZ x1)), some (aI (iZ x2)), some (aR (some (28, x1.toNat, 0))), some (aI (iZ 0)), some (aI (iZ 0))], [], am_hp σ1, t) Q) : Wp k_X11_many d (0, [some (aR (some (1, 0, 0))), some (aI (iZ x1)), some (aI (iZ x2)), none, none, none], [], am_hp σ, t) Q := by
  refine w_s (c' := (1, [some (aR (some (1, 0, 0))), some (aI (iZ x1)), some (aI (iZ x2)), none, none, none], [aR (some (1, 0, 0))], am_hp σ, t)) rfl rfl ?_
  refine w_s (c' := (2, [some (aR (some (1, 0, 0))), some (aI (iZ x1)), some (aI (iZ x2)), none, none, none], [aI (iZ x1), aR (some (1, 0, 0))], am_hp σ, t)) rfl rfl ?_
  refine w_c0 (c' := (5, [some (aR (some (1, 0, 0))), some (aI (iZ x1)), some (aI (iZ x2)), none, none, none], [], am_hp σ1, t)) rfl rfl (rcv_of (hp_1 _ 0)) rfl c1 (Nat.le_refl _) rfl ?_
  refine w_s (c' := (6, [some (aR (some (1, 0, 0))), some (aI (iZ x1)), some (aI (iZ x2)), none, none, none], [aR (some (1, 0, 0))], am_hp σ1, t)) rfl rfl ?_
  refine w_get rfl (hp_1 _ 0) rfl rfl ?_
  refine w_s (c' := (10, [some (aR (some (1, 0, 0))), some (aI (iZ x1)), some (aI (iZ x2)), none, none, none], [aI (iZ x1), aR (some (17, 0, 0))], am_hp σ1, t)) rfl rfl ?_
  refine w_aal rfl (hp_17 _ 0) h2 rfl rfl ?_
  refine w_s (c' := (12, [some (aR (some (1, 0, 0))), some (aI (iZ x1)), some (aI (iZ x2)), some (aR (some (28, x1.toNat, 0))), none, none], [], am_hp σ1, t)) rfl rfl ?_
  refine w_psh rfl zc_0 rfl ?_
  refine w_s (c' := (15, [some (aR (some (1, 0, 0))), some (aI (iZ x1)), some (aI (iZ x2)), some (aR (some (28, x1.toNat, 0))), some (aI (iZ 0)), none], [], am_hp σ1, t)) rfl rfl ?_
  refine w_psh rfl zc_0 rfl ?_
  refine w_s (c' := (18, [some (aR (some (1, 0, 0))), some (aI (iZ x1)), some (aI (iZ x2)), some (aR (some (28, x1.toNat, 0))), some (aI (iZ 0)), some (aI (iZ 0))], [], am_hp σ1, t)) rfl rfl ?_
  exact w3

theorem bx_X11_many_0_1 {x1 : Int} {x2 : Int} {E : Nat} {σ σ1 : SG} {t t' : KT} (c1 : Ca d 138 [aR (some (1, 0, 0)), aI (iZ x1)] (am_hp σ) t (.inr E, am_hp σ1, t')) (q2 : Q (.inr E, am_hp σ1, t')) : Wp k_X11_many d (0, [some (aR (some (1, 0, 0))), some (aI (iZ x1)), some (aI (iZ x2)), none, none, none], [], am_hp σ, t) Q := by
  refine w_s (c' := (1, [some (aR (some (1, 0, 0))), some (aI (iZ x1)), some (aI (iZ x2)), none, none, none], [aR (some (1, 0, 0))], am_hp σ, t)) rfl rfl ?_
  refine w_s (c' := (2, [some (aR (some (1, 0, 0))), some (aI (iZ x1)), some (aI (iZ x2)), none, none, none], [aI (iZ x1), aR (some (1, 0, 0))], am_hp σ, t)) rfl rfl ?_
  exact w_x rfl rfl (rcv_of (hp_1 _ 0)) rfl c1 (Nat.le_refl _) rfl q2

theorem e_X11_many {x1 : Int} {x2 : Int} {h : AH} {t : KT} {d : Nat} {P : RS → Prop} (w : Wp k_X11_many d (0, [some (aR (some (1, 0, 0))), some (aI (iZ x1)), some (aI (iZ x2)), none, none, none], [], h, t) P) : ∃ r, Ca (d + 1) 110 [aR (some (1, 0, 0)), aI (iZ x1), aI (iZ x2)] h t r ∧ P r := ca_W rfl rfl rfl rfl w

theorem b_X11_many_18 {x1 : Int} {x2 : Int} {p3 : Nat} {x4 : Int} {x5 : Int} {σ : SG} {t : KT} (h1 : -2147483648 ≤ x5 ∧ x5 < 2147483648) (h2 : -2147483648 ≤ σ.1 (28, p3, 0) 2 ∧ σ.1 (28, p3, 0) 2 < 2147483648) (w3 : σ.1 (28, p3, 0) 2 ≤ x5 → Wp k_X11_many d (68, [some (aR (some (1, 0, 0))), some (aI (iZ x1)), some (aI (iZ x2)), some (aR (some (28, p3, 0))), some (aI (iZ x4)), some (aI (iZ x5))], [], am_hp σ, t) Q) (w4 : x5 < σ.1 (28, p3, 0) 2 → Wp k_X11_many d (27, [some (aR (some (1, 0, 0))), some (aI (iZ x1)), some (aI (iZ x2)), some (aR (some (28, p3, 0))), some (aI (iZ x4)), some (aI (iZ x5))], [], am_hp σ, t) Q) : Wp k_X11_many d (18, [some (aR (some (1, 0, 0))), some (aI (iZ x1)), some (aI (iZ x2)), some (aR (some (28, p3, 0))), some (aI (iZ x4)), some (aI (iZ x5))], [], am_hp σ, t) Q := by
  refine w_s (c' := (20, [some (aR (some (1, 0, 0))), some (aI (iZ x1)), some (aI (iZ x2)), some (aR (some (28, p3, 0))), some (aI (iZ x4)), some (aI (iZ x5))], [aI (iZ x5)], am_hp σ, t)) rfl rfl ?_
  refine w_s (c' := (21, [some (aR (some (1, 0, 0))), some (aI (iZ x1)), some (aI (iZ x2)), some (aR (some (28, p3, 0))), some (aI (iZ x4)), some (aI (iZ x5))], [aR (some (28, p3, 0)), aI (iZ x5)], am_hp σ, t)) rfl rfl ?_
  refine w_get rfl (hp_28 _ p3) rfl rfl ?_
  exact w_icge rfl h1 h2 rfl w3 w4

theorem b_X11_many_27 {x1 : Int} {x2 : Int} {p3 : Nat} {x4 : Int} {x5 : Int} {r1 : Int} {r2 : Int} {σ σ1 σ2 : SG} {t : KT} (c1 : Ca d 8 [aR (some (28, p3, 0)), aI (iZ x5)] (am_hp σ) t (.inl (some (aI (iZ r1))), am_hp σ1, t)) (c2 : Ca d 146 [aI (iZ x2), aI (iZ r1)] (am_hp σ1) t (.inl (some (aI (iZ r2))), am_hp σ2, t)) (h3 : -2147483648 ≤ r2 ∧ r2 < 2147483648) (w4 : r2 = 0 → Wp k_X11_many d (62, [some (aR (some (1, 0, 0))), some (aI (iZ x1)), some (aI (iZ x2)), some (aR (some (28, p3, 0))), some (aI (iZ x4)), some (aI (iZ x5))], [], am_hp σ2, t) Q) (w5 : r2 ≠ 0 → Wp k_X11_many d (40, [some (aR (some (1, 0, 0))), some (aI (iZ x1)), some (aI (iZ x2)), some (aR (some (28, p3, 0))), some (aI (iZ x4)), some (aI (iZ x5))], [], am_hp σ2, t) Q) : Wp k_X11_many d (27, [some (aR (some (1, 0, 0))), some (aI (iZ x1)), some (aI (iZ x2)), some (aR (some (28, p3, 0))), some (aI (iZ x4)), some (aI (iZ x5))], [], am_hp σ, t) Q := by
  refine w_s (c' := (28, [some (aR (some (1, 0, 0))), some (aI (iZ x1)), some (aI (iZ x2)), some (aR (some (28, p3, 0))), some (aI (iZ x4)), some (aI (iZ x5))], [aI (iZ x2)], am_hp σ, t)) rfl rfl ?_
  refine w_s (c' := (29, [some (aR (some (1, 0, 0))), some (aI (iZ x1)), some (aI (iZ x2)), some (aR (some (28, p3, 0))), some (aI (iZ x4)), some (aI (iZ x5))], [aR (some (28, p3, 0)), aI (iZ x2)], am_hp σ, t)) rfl rfl ?_
  refine w_s (c' := (31, [some (aR (some (1, 0, 0))), some (aI (iZ x1)), some (aI (iZ x2)), some (aR (some (28, p3, 0))), some (aI (iZ x4)), some (aI (iZ x5))], [aI (iZ x5), aR (some (28, p3, 0)), aI (iZ x2)], am_hp σ, t)) rfl rfl ?_
  refine w_c0 (c' := (34, [some (aR (some (1, 0, 0))), some (aI (iZ x1)), some (aI (iZ x2)), some (aR (some (28, p3, 0))), some (aI (iZ x4)), some (aI (iZ x5))], [aI (iZ r1), aI (iZ x2)], am_hp σ1, t)) rfl rfl (rcv_of (hp_28 _ p3)) rfl c1 (Nat.le_refl _) rfl ?_
  refine w_c0 (c' := (37, [some (aR (some (1, 0, 0))), some (aI (iZ x1)), some (aI (iZ x2)), some (aR (some (28, p3, 0))), some (aI (iZ x4)), some (aI (iZ x5))], [aI (iZ r2)], am_hp σ2, t)) rfl rfl rfl rfl c2 (Nat.le_refl _) rfl ?_
  exact w_ifeq rfl h3 rfl w4 w5

theorem b_X11_many_40 {x1 : Int} {x2 : Int} {p3 : Nat} {x4 : Int} {x5 : Int} {r1 : Int} {σ σ1 : SG} {t : KT} (c1 : Ca d 20 [aR (some (28, p3, 0)), aI (iZ x5), aI (iZ x2)] (am_hp ((sI σ (27, 0, 0) (up (σ.1 (27, 0, 0)) (3 : Int).toNat ((σ.1 (27, 0, 0) 3) + 1))))) t (.inl (some (aI (iZ r1))), am_hp σ1, t)) (w2 : Wp k_X11_many d (62, [some (aR (some (1, 0, 0))), some (aI (iZ x1)), some (aI (iZ x2)), some (aR (some (28, p3, 0))), some (aI (iZ (x4 + r1))), some (aI (iZ x5))], [], am_hp σ1, t) Q) : Wp k_X11_many d (40, [some (aR (some (1, 0, 0))), some (aI (iZ x1)), some (aI (iZ x2)), some (aR (some (28, p3, 0))), some (aI (iZ x4)), some (aI (iZ x5))], [], am_hp σ, t) Q := by
  refine w_s (c' := (41, [some (aR (some (1, 0, 0))), some (aI (iZ x1)), some (aI (iZ x2)), some (aR (some (28, p3, 0))), some (aI (iZ x4)), some (aI (iZ x5))], [aR (some (1, 0, 0))], am_hp σ, t)) rfl rfl ?_
  refine w_get rfl (hp_1 _ 0) rfl rfl ?_
  refine w_psh rfl zc_3 rfl ?_
  refine w_s (c' := (46, [some (aR (some (1, 0, 0))), some (aI (iZ x1)), some (aI (iZ x2)), some (aR (some (28, p3, 0))), some (aI (iZ x4)), some (aI (iZ x5))], [aI (iZ 3), aR (some (27, 0, 0)), aI (iZ 3), aR (some (27, 0, 0))], am_hp σ, t)) rfl rfl ?_
  refine w_ial rfl (hp_27 _ 0 0) (by decide) rfl rfl ?_
  refine w_e (c' := (47, [some (aR (some (1, 0, 0))), some (aI (iZ x1)), some (aI (iZ x2)), some (aR (some (28, p3, 0))), some (aI (iZ x4)), some (aI (iZ x5))], [aI (iZ (σ.1 (27, 0, 0) 3)), aI (iZ 3), aR (some (27, 0, 0))], am_hp σ, t)) rfl ?_
  refine w_psh rfl zc_1 rfl ?_
  refine w_iadd rfl rfl ?_
  refine w_ias rfl (mk_27 _ 0 0) (by decide) rfl rfl rfl ?_
  refine w_s (c' := (52, [some (aR (some (1, 0, 0))), some (aI (iZ x1)), some (aI (iZ x2)), some (aR (some (28, p3, 0))), some (aI (iZ x4)), some (aI (iZ x5))], [aI (iZ x4)], am_hp ((sI σ (27, 0, 0) (up (σ.1 (27, 0, 0)) (3 : Int).toNat ((σ.1 (27, 0, 0) 3) + 1)))), t)) rfl rfl ?_
  refine w_s (c' := (53, [some (aR (some (1, 0, 0))), some (aI (iZ x1)), some (aI (iZ x2)), some (aR (some (28, p3, 0))), some (aI (iZ x4)), some (aI (iZ x5))], [aR (some (28, p3, 0)), aI (iZ x4)], am_hp ((sI σ (27, 0, 0) (up (σ.1 (27, 0, 0)) (3 : Int).toNat ((σ.1 (27, 0, 0) 3) + 1)))), t)) rfl rfl ?_
  refine w_s (c' := (55, [some (aR (some (1, 0, 0))), some (aI (iZ x1)), some (aI (iZ x2)), some (aR (some (28, p3, 0))), some (aI (iZ x4)), some (aI (iZ x5))], [aI (iZ x5), aR (some (28, p3, 0)), aI (iZ x4)], am_hp ((sI σ (27, 0, 0) (up (σ.1 (27, 0, 0)) (3 : Int).toNat ((σ.1 (27, 0, 0) 3) + 1)))), t)) rfl rfl ?_
  refine w_s (c' := (56, [some (aR (some (1, 0, 0))), some (aI (iZ x1)), some (aI (iZ x2)), some (aR (some (28, p3, 0))), some (aI (iZ x4)), some (aI (iZ x5))], [aI (iZ x2), aI (iZ x5), aR (some (28, p3, 0)), aI (iZ x4)], am_hp ((sI σ (27, 0, 0) (up (σ.1 (27, 0, 0)) (3 : Int).toNat ((σ.1 (27, 0, 0) 3) + 1)))), t)) rfl rfl ?_
  refine w_c0 (c' := (59, [some (aR (some (1, 0, 0))), some (aI (iZ x1)), some (aI (iZ x2)), some (aR (some (28, p3, 0))), some (aI (iZ x4)), some (aI (iZ x5))], [aI (iZ r1), aI (iZ x4)], am_hp σ1, t)) rfl rfl (rcv_of (hp_28 _ p3)) rfl c1 (Nat.le_refl _) rfl ?_
  refine w_iadd rfl rfl ?_
  refine w_s (c' := (62, [some (aR (some (1, 0, 0))), some (aI (iZ x1)), some (aI (iZ x2)), some (aR (some (28, p3, 0))), some (aI (iZ (x4 + r1))), some (aI (iZ x5))], [], am_hp σ1, t)) rfl rfl ?_
  exact w2

theorem b_X11_many_62 {x1 : Int} {x2 : Int} {p3 : Nat} {x4 : Int} {x5 : Int} {σ : SG} {t : KT} (w1 : Wp k_X11_many d (18, [some (aR (some (1, 0, 0))), some (aI (iZ x1)), some (aI (iZ x2)), some (aR (some (28, p3, 0))), some (aI (iZ x4)), some (aI (iZ (x5 + 1)))], [], am_hp σ, t) Q) : Wp k_X11_many d (62, [some (aR (some (1, 0, 0))), some (aI (iZ x1)), some (aI (iZ x2)), some (aR (some (28, p3, 0))), some (aI (iZ x4)), some (aI (iZ x5))], [], am_hp σ, t) Q := by
  refine w_inc (a := x5) (ls' := [some (aR (some (1, 0, 0))), some (aI (iZ x1)), some (aI (iZ x2)), some (aR (some (28, p3, 0))), some (aI (iZ x4)), some (aI (iZ (x5 + 1)))]) rfl rfl rfl zc_1 rfl rfl ?_
  refine w_s (c' := (18, [some (aR (some (1, 0, 0))), some (aI (iZ x1)), some (aI (iZ x2)), some (aR (some (28, p3, 0))), some (aI (iZ x4)), some (aI (iZ (x5 + 1)))], [], am_hp σ, t)) rfl rfl ?_
  exact w1

theorem b_X11_many_68 {x1 : Int} {x2 : Int} {p3 : Nat} {x4 : Int} {x5 : Int} {σ : SG} {t : KT} (q1 : Q (.inl (some (aI (iZ x4))), am_hp σ, t)) : Wp k_X11_many d (68, [some (aR (some (1, 0, 0))), some (aI (iZ x1)), some (aI (iZ x2)), some (aR (some (28, p3, 0))), some (aI (iZ x4)), some (aI (iZ x5))], [], am_hp σ, t) Q := by
  refine w_s (c' := (70, [some (aR (some (1, 0, 0))), some (aI (iZ x1)), some (aI (iZ x2)), some (aR (some (28, p3, 0))), some (aI (iZ x4)), some (aI (iZ x5))], [aI (iZ x4)], am_hp σ, t)) rfl rfl ?_
  exact w_ret rfl rfl q1

theorem b_X11_readsFor_0 {x1 : Int} {x2 : Int} {r2 : Int} {σ σ1 σ2 : SG} {t : KT} (c1 : Ca d 139 [aR (some (1, 0, 0)), aI (iZ x1), aI (iZ x2)] (am_hp σ) t (.inl none, am_hp σ1, t)) (c2 : Ca d 158 [aR (some (1, 0, 0)), aI (iZ x1), aI (iZ x2), aI (iZ (σ1.1 (8, 0, 0) 6))] (am_hp σ1) t (.inl (some (aI (iZ r2))), am_hp σ2, t)) (q3 : Q (.inl (some (aI (iZ r2))), am_hp σ2, t)) : Wp k_X11_readsFor d (0, [some (aR (some (1, 0, 0))), some (aI (iZ x1)), some (aI (iZ x2))], [], am_hp σ, t) Q := by
  refine w_s (c' := (1, [some (aR (some (1, 0, 0))), some (aI (iZ x1)), some (aI (iZ x2))], [aR (some (1, 0, 0))], am_hp σ, t)) rfl rfl ?_
  refine w_s (c' := (2, [some (aR (some (1, 0, 0))), some (aI (iZ x1)), some (aI (iZ x2))], [aI (iZ x1), aR (some (1, 0, 0))], am_hp σ, t)) rfl rfl ?_
  refine w_s (c' := (3, [some (aR (some (1, 0, 0))), some (aI (iZ x1)), some (aI (iZ x2))], [aI (iZ x2), aI (iZ x1), aR (some (1, 0, 0))], am_hp σ, t)) rfl rfl ?_
  refine w_c0 (c' := (6, [some (aR (some (1, 0, 0))), some (aI (iZ x1)), some (aI (iZ x2))], [], am_hp σ1, t)) rfl rfl (rcv_of (hp_1 _ 0)) rfl c1 (Nat.le_refl _) rfl ?_
  refine w_s (c' := (7, [some (aR (some (1, 0, 0))), some (aI (iZ x1)), some (aI (iZ x2))], [aR (some (1, 0, 0))], am_hp σ1, t)) rfl rfl ?_
  refine w_s (c' := (8, [some (aR (some (1, 0, 0))), some (aI (iZ x1)), some (aI (iZ x2))], [aI (iZ x1), aR (some (1, 0, 0))], am_hp σ1, t)) rfl rfl ?_
  refine w_s (c' := (9, [some (aR (some (1, 0, 0))), some (aI (iZ x1)), some (aI (iZ x2))], [aI (iZ x2), aI (iZ x1), aR (some (1, 0, 0))], am_hp σ1, t)) rfl rfl ?_
  refine w_s (c' := (10, [some (aR (some (1, 0, 0))), some (aI (iZ x1)), some (aI (iZ x2))], [aR (some (1, 0, 0)), aI (iZ x2), aI (iZ x1), aR (some (1, 0, 0))], am_hp σ1, t)) rfl rfl ?_
  refine w_get rfl (hp_1 _ 0) rfl rfl ?_
  refine w_get rfl (hp_8 _ 0) rfl rfl ?_
  refine w_c0 (c' := (19, [some (aR (some (1, 0, 0))), some (aI (iZ x1)), some (aI (iZ x2))], [aI (iZ r2)], am_hp σ2, t)) rfl rfl (rcv_of (hp_1 _ 0)) rfl c2 (Nat.le_refl _) rfl ?_
  exact w_ret rfl rfl q3

theorem bx_X11_readsFor_0_1 {x1 : Int} {x2 : Int} {E : Nat} {σ σ1 σ2 : SG} {t t' : KT} (c1 : Ca d 139 [aR (some (1, 0, 0)), aI (iZ x1), aI (iZ x2)] (am_hp σ) t (.inr E, am_hp σ1, t')) (q2 : Q (.inr E, am_hp σ1, t')) : Wp k_X11_readsFor d (0, [some (aR (some (1, 0, 0))), some (aI (iZ x1)), some (aI (iZ x2))], [], am_hp σ, t) Q := by
  refine w_s (c' := (1, [some (aR (some (1, 0, 0))), some (aI (iZ x1)), some (aI (iZ x2))], [aR (some (1, 0, 0))], am_hp σ, t)) rfl rfl ?_
  refine w_s (c' := (2, [some (aR (some (1, 0, 0))), some (aI (iZ x1)), some (aI (iZ x2))], [aI (iZ x1), aR (some (1, 0, 0))], am_hp σ, t)) rfl rfl ?_
  refine w_s (c' := (3, [some (aR (some (1, 0, 0))), some (aI (iZ x1)), some (aI (iZ x2))], [aI (iZ x2), aI (iZ x1), aR (some (1, 0, 0))], am_hp σ, t)) rfl rfl ?_
  exact w_x rfl rfl (rcv_of (hp_1 _ 0)) rfl c1 (Nat.le_refl _) rfl q2

theorem e_X11_readsFor {x1 : Int} {x2 : Int} {h : AH} {t : KT} {d : Nat} {P : RS → Prop} (w : Wp k_X11_readsFor d (0, [some (aR (some (1, 0, 0))), some (aI (iZ x1)), some (aI (iZ x2))], [], h, t) P) : ∃ r, Ca (d + 1) 111 [aR (some (1, 0, 0)), aI (iZ x1), aI (iZ x2)] h t r ∧ P r := ca_W rfl rfl rfl rfl w

theorem b_X11_greatest_0 {x1 : Int} {σ σ1 : SG} {t : KT} (c1 : Ca d 138 [aR (some (1, 0, 0)), aI (iZ x1)] (am_hp σ) t (.inl none, am_hp σ1, t)) (w2 : Wp k_X11_greatest d (9, [some (aR (some (1, 0, 0))), some (aI (iZ x1)), some (aI (iZ (-1))), some (aI (iZ 0))], [], am_hp σ1, t) Q) : Wp k_X11_greatest d (0, [some (aR (some (1, 0, 0))), some (aI (iZ x1)), none, none], [], am_hp σ, t) Q := by
  refine w_s (c' := (1, [some (aR (some (1, 0, 0))), some (aI (iZ x1)), none, none], [aR (some (1, 0, 0))], am_hp σ, t)) rfl rfl ?_
  refine w_s (c' := (2, [some (aR (some (1, 0, 0))), some (aI (iZ x1)), none, none], [aI (iZ x1), aR (some (1, 0, 0))], am_hp σ, t)) rfl rfl ?_
  refine w_c0 (c' := (5, [some (aR (some (1, 0, 0))), some (aI (iZ x1)), none, none], [], am_hp σ1, t)) rfl rfl (rcv_of (hp_1 _ 0)) rfl c1 (Nat.le_refl _) rfl ?_
  refine w_psh rfl zc_m1 rfl ?_
  refine w_s (c' := (7, [some (aR (some (1, 0, 0))), some (aI (iZ x1)), some (aI (iZ (-1))), none], [], am_hp σ1, t)) rfl rfl ?_
  refine w_psh rfl zc_0 rfl ?_
  refine w_s (c' := (9, [some (aR (some (1, 0, 0))), some (aI (iZ x1)), some (aI (iZ (-1))), some (aI (iZ 0))], [], am_hp σ1, t)) rfl rfl ?_
  exact w2

theorem bx_X11_greatest_0_1 {x1 : Int} {E : Nat} {σ σ1 : SG} {t t' : KT} (c1 : Ca d 138 [aR (some (1, 0, 0)), aI (iZ x1)] (am_hp σ) t (.inr E, am_hp σ1, t')) (q2 : Q (.inr E, am_hp σ1, t')) : Wp k_X11_greatest d (0, [some (aR (some (1, 0, 0))), some (aI (iZ x1)), none, none], [], am_hp σ, t) Q := by
  refine w_s (c' := (1, [some (aR (some (1, 0, 0))), some (aI (iZ x1)), none, none], [aR (some (1, 0, 0))], am_hp σ, t)) rfl rfl ?_
  refine w_s (c' := (2, [some (aR (some (1, 0, 0))), some (aI (iZ x1)), none, none], [aI (iZ x1), aR (some (1, 0, 0))], am_hp σ, t)) rfl rfl ?_
  exact w_x rfl rfl (rcv_of (hp_1 _ 0)) rfl c1 (Nat.le_refl _) rfl q2

theorem e_X11_greatest {x1 : Int} {h : AH} {t : KT} {d : Nat} {P : RS → Prop} (w : Wp k_X11_greatest d (0, [some (aR (some (1, 0, 0))), some (aI (iZ x1)), none, none], [], h, t) P) : ∃ r, Ca (d + 1) 112 [aR (some (1, 0, 0)), aI (iZ x1)] h t r ∧ P r := ca_W rfl rfl rfl rfl w

theorem b_X11_greatest_9 {x1 : Int} {x2 : Int} {x3 : Int} {σ : SG} {t : KT} (h1 : 0 ≤ x1 ∧ x1 < 4) (h2 : -2147483648 ≤ x3 ∧ x3 < 2147483648) (h3 : -2147483648 ≤ σ.1 (10, 0, 0) x1.toNat ∧ σ.1 (10, 0, 0) x1.toNat < 2147483648) (w4 : σ.1 (10, 0, 0) x1.toNat ≤ x3 → Wp k_X11_greatest d (44, [some (aR (some (1, 0, 0))), some (aI (iZ x1)), some (aI (iZ x2)), some (aI (iZ x3))], [], am_hp σ, t) Q) (w5 : x3 < σ.1 (10, 0, 0) x1.toNat → Wp k_X11_greatest d (22, [some (aR (some (1, 0, 0))), some (aI (iZ x1)), some (aI (iZ x2)), some (aI (iZ x3))], [], am_hp σ, t) Q) : Wp k_X11_greatest d (9, [some (aR (some (1, 0, 0))), some (aI (iZ x1)), some (aI (iZ x2)), some (aI (iZ x3))], [], am_hp σ, t) Q := by
  refine w_s (c' := (10, [some (aR (some (1, 0, 0))), some (aI (iZ x1)), some (aI (iZ x2)), some (aI (iZ x3))], [aI (iZ x3)], am_hp σ, t)) rfl rfl ?_
  refine w_s (c' := (11, [some (aR (some (1, 0, 0))), some (aI (iZ x1)), some (aI (iZ x2)), some (aI (iZ x3))], [aR (some (1, 0, 0)), aI (iZ x3)], am_hp σ, t)) rfl rfl ?_
  refine w_get rfl (hp_1 _ 0) rfl rfl ?_
  refine w_get rfl (hp_8 _ 0) rfl rfl ?_
  refine w_s (c' := (18, [some (aR (some (1, 0, 0))), some (aI (iZ x1)), some (aI (iZ x2)), some (aI (iZ x3))], [aI (iZ x1), aR (some (10, 0, 0)), aI (iZ x3)], am_hp σ, t)) rfl rfl ?_
  refine w_ial rfl (hp_10 _ 0 0) h1 rfl rfl ?_
  exact w_icge rfl h2 h3 rfl w4 w5

theorem b_X11_greatest_22 {x1 : Int} {x2 : Int} {x3 : Int} {σ : SG} {t : KT} (h1 : 0 ≤ x1 ∧ x1 < 4) (h2 : 0 ≤ x3 ∧ x3 < 60) (h3 : -2147483648 ≤ x2 ∧ x2 < 2147483648) (h4 : -2147483648 ≤ σ.1 (12, 0, x1.toNat) x3.toNat ∧ σ.1 (12, 0, x1.toNat) x3.toNat < 2147483648) (w5 : Wp k_X11_greatest d (9, [some (aR (some (1, 0, 0))), some (aI (iZ x1)), some (aI (iZ (max x2 (σ.1 (12, 0, x1.toNat) x3.toNat)))), some (aI (iZ (x3 + 1)))], [], am_hp σ, t) Q) : Wp k_X11_greatest d (22, [some (aR (some (1, 0, 0))), some (aI (iZ x1)), some (aI (iZ x2)), some (aI (iZ x3))], [], am_hp σ, t) Q := by
  refine w_s (c' := (23, [some (aR (some (1, 0, 0))), some (aI (iZ x1)), some (aI (iZ x2)), some (aI (iZ x3))], [aI (iZ x2)], am_hp σ, t)) rfl rfl ?_
  refine w_s (c' := (24, [some (aR (some (1, 0, 0))), some (aI (iZ x1)), some (aI (iZ x2)), some (aI (iZ x3))], [aR (some (1, 0, 0)), aI (iZ x2)], am_hp σ, t)) rfl rfl ?_
  refine w_get rfl (hp_1 _ 0) rfl rfl ?_
  refine w_get rfl (hp_8 _ 0) rfl rfl ?_
  refine w_s (c' := (31, [some (aR (some (1, 0, 0))), some (aI (iZ x1)), some (aI (iZ x2)), some (aI (iZ x3))], [aI (iZ x1), aR (some (11, 0, 0)), aI (iZ x2)], am_hp σ, t)) rfl rfl ?_
  refine w_aal rfl (hp_11 _ 0) h1 rfl rfl ?_
  refine w_s (c' := (33, [some (aR (some (1, 0, 0))), some (aI (iZ x1)), some (aI (iZ x2)), some (aI (iZ x3))], [aI (iZ x3), aR (some (12, 0, x1.toNat)), aI (iZ x2)], am_hp σ, t)) rfl rfl ?_
  refine w_ial rfl (hp_12 _ 0 x1.toNat) h2 rfl rfl ?_
  refine w_max rfl h3 h4 rfl rfl ?_
  refine w_s (c' := (38, [some (aR (some (1, 0, 0))), some (aI (iZ x1)), some (aI (iZ (max x2 (σ.1 (12, 0, x1.toNat) x3.toNat)))), some (aI (iZ x3))], [], am_hp σ, t)) rfl rfl ?_
  refine w_inc (a := x3) (ls' := [some (aR (some (1, 0, 0))), some (aI (iZ x1)), some (aI (iZ (max x2 (σ.1 (12, 0, x1.toNat) x3.toNat)))), some (aI (iZ (x3 + 1)))]) rfl rfl rfl zc_1 rfl rfl ?_
  refine w_s (c' := (9, [some (aR (some (1, 0, 0))), some (aI (iZ x1)), some (aI (iZ (max x2 (σ.1 (12, 0, x1.toNat) x3.toNat)))), some (aI (iZ (x3 + 1)))], [], am_hp σ, t)) rfl rfl ?_
  exact w5

theorem b_X11_greatest_44 {x1 : Int} {x2 : Int} {x3 : Int} {σ : SG} {t : KT} (q1 : Q (.inl (some (aI (iZ x2))), am_hp σ, t)) : Wp k_X11_greatest d (44, [some (aR (some (1, 0, 0))), some (aI (iZ x1)), some (aI (iZ x2)), some (aI (iZ x3))], [], am_hp σ, t) Q := by
  refine w_s (c' := (45, [some (aR (some (1, 0, 0))), some (aI (iZ x1)), some (aI (iZ x2)), some (aI (iZ x3))], [aI (iZ x2)], am_hp σ, t)) rfl rfl ?_
  exact w_ret rfl rfl q1

theorem b_X11_filled_0 {r1 : Int} {σ σ1 : SG} {t : KT} (c1 : Ca d 152 [aR (some (1, 0, 0))] (am_hp σ) t (.inl (some (aI (iZ r1))), am_hp σ1, t)) (h2 : -2147483648 ≤ r1 ∧ r1 < 2147483648) (w3 : r1 ≠ 0 → Wp k_X11_filled d (11, [some (aR (some (1, 0, 0))), some (aI (iZ r1)), none, none], [], am_hp σ1, t) Q) (w4 : r1 = 0 → Wp k_X11_filled d (9, [some (aR (some (1, 0, 0))), some (aI (iZ r1)), none, none], [], am_hp σ1, t) Q) : Wp k_X11_filled d (0, [some (aR (some (1, 0, 0))), none, none, none], [], am_hp σ, t) Q := by
  refine w_s (c' := (1, [some (aR (some (1, 0, 0))), none, none, none], [aR (some (1, 0, 0))], am_hp σ, t)) rfl rfl ?_
  refine w_c0 (c' := (4, [some (aR (some (1, 0, 0))), none, none, none], [aI (iZ r1)], am_hp σ1, t)) rfl rfl (rcv_of (hp_1 _ 0)) rfl c1 (Nat.le_refl _) rfl ?_
  refine w_s (c' := (5, [some (aR (some (1, 0, 0))), some (aI (iZ r1)), none, none], [], am_hp σ1, t)) rfl rfl ?_
  refine w_s (c' := (6, [some (aR (some (1, 0, 0))), some (aI (iZ r1)), none, none], [aI (iZ r1)], am_hp σ1, t)) rfl rfl ?_
  exact w_ifne rfl h2 rfl w3 w4

theorem e_X11_filled {h : AH} {t : KT} {d : Nat} {P : RS → Prop} (w : Wp k_X11_filled d (0, [some (aR (some (1, 0, 0))), none, none, none], [], h, t) P) : ∃ r, Ca (d + 1) 113 [aR (some (1, 0, 0))] h t r ∧ P r := ca_W rfl rfl rfl rfl w

theorem b_X11_filled_9 {x1 : Int} {σ : SG} {t : KT} (q1 : Q (.inl (some (aF FP.fconst1)), am_hp σ, t)) : Wp k_X11_filled d (9, [some (aR (some (1, 0, 0))), some (aI (iZ x1)), none, none], [], am_hp σ, t) Q := by
  refine w_s (c' := (10, [some (aR (some (1, 0, 0))), some (aI (iZ x1)), none, none], [aF FP.fconst1], am_hp σ, t)) rfl rfl ?_
  exact w_ret rfl rfl q1

theorem b_X11_filled_11 {x1 : Int} {σ : SG} {t : KT} (w1 : Wp k_X11_filled d (15, [some (aR (some (1, 0, 0))), some (aI (iZ x1)), some (aI (iZ 0)), some (aI (iZ 0))], [], am_hp σ, t) Q) : Wp k_X11_filled d (11, [some (aR (some (1, 0, 0))), some (aI (iZ x1)), none, none], [], am_hp σ, t) Q := by
  refine w_psh rfl zc_0 rfl ?_
  refine w_s (c' := (13, [some (aR (some (1, 0, 0))), some (aI (iZ x1)), some (aI (iZ 0)), none], [], am_hp σ, t)) rfl rfl ?_
  refine w_psh rfl zc_0 rfl ?_
  refine w_s (c' := (15, [some (aR (some (1, 0, 0))), some (aI (iZ x1)), some (aI (iZ 0)), some (aI (iZ 0))], [], am_hp σ, t)) rfl rfl ?_
  exact w1

theorem b_X11_filled_15 {x1 : Int} {x2 : Int} {x3 : Int} {σ : SG} {t : KT} (h1 : -2147483648 ≤ x3 ∧ x3 < 2147483648) (h2 : -2147483648 ≤ σ.1 (8, 0, 0) 4 ∧ σ.1 (8, 0, 0) 4 < 2147483648) (w3 : σ.1 (8, 0, 0) 4 ≤ x3 → Wp k_X11_filled d (43, [some (aR (some (1, 0, 0))), some (aI (iZ x1)), some (aI (iZ x2)), some (aI (iZ x3))], [], am_hp σ, t) Q) (w4 : x3 < σ.1 (8, 0, 0) 4 → Wp k_X11_filled d (26, [some (aR (some (1, 0, 0))), some (aI (iZ x1)), some (aI (iZ x2)), some (aI (iZ x3))], [], am_hp σ, t) Q) : Wp k_X11_filled d (15, [some (aR (some (1, 0, 0))), some (aI (iZ x1)), some (aI (iZ x2)), some (aI (iZ x3))], [], am_hp σ, t) Q := by
  refine w_s (c' := (16, [some (aR (some (1, 0, 0))), some (aI (iZ x1)), some (aI (iZ x2)), some (aI (iZ x3))], [aI (iZ x3)], am_hp σ, t)) rfl rfl ?_
  refine w_s (c' := (17, [some (aR (some (1, 0, 0))), some (aI (iZ x1)), some (aI (iZ x2)), some (aI (iZ x3))], [aR (some (1, 0, 0)), aI (iZ x3)], am_hp σ, t)) rfl rfl ?_
  refine w_get rfl (hp_1 _ 0) rfl rfl ?_
  refine w_get rfl (hp_8 _ 0) rfl rfl ?_
  exact w_icge rfl h1 h2 rfl w3 w4

theorem b_X11_filled_26 {x1 : Int} {x2 : Int} {x3 : Int} {r1 : Int} {σ σ1 : SG} {t : KT} (c1 : Ca d 49 [aR (some (8, 0, 0)), aI (iZ x3)] (am_hp σ) t (.inl (some (aI (iZ r1))), am_hp σ1, t)) (w2 : Wp k_X11_filled d (15, [some (aR (some (1, 0, 0))), some (aI (iZ x1)), some (aI (iZ (x2 + r1))), some (aI (iZ (x3 + 1)))], [], am_hp σ1, t) Q) : Wp k_X11_filled d (26, [some (aR (some (1, 0, 0))), some (aI (iZ x1)), some (aI (iZ x2)), some (aI (iZ x3))], [], am_hp σ, t) Q := by
  refine w_s (c' := (27, [some (aR (some (1, 0, 0))), some (aI (iZ x1)), some (aI (iZ x2)), some (aI (iZ x3))], [aI (iZ x2)], am_hp σ, t)) rfl rfl ?_
  refine w_s (c' := (28, [some (aR (some (1, 0, 0))), some (aI (iZ x1)), some (aI (iZ x2)), some (aI (iZ x3))], [aR (some (1, 0, 0)), aI (iZ x2)], am_hp σ, t)) rfl rfl ?_
  refine w_get rfl (hp_1 _ 0) rfl rfl ?_
  refine w_s (c' := (32, [some (aR (some (1, 0, 0))), some (aI (iZ x1)), some (aI (iZ x2)), some (aI (iZ x3))], [aI (iZ x3), aR (some (8, 0, 0)), aI (iZ x2)], am_hp σ, t)) rfl rfl ?_
  refine w_c0 (c' := (35, [some (aR (some (1, 0, 0))), some (aI (iZ x1)), some (aI (iZ x2)), some (aI (iZ x3))], [aI (iZ r1), aI (iZ x2)], am_hp σ1, t)) rfl rfl (rcv_of (hp_8 _ 0)) rfl c1 (Nat.le_refl _) rfl ?_
  refine w_iadd rfl rfl ?_
  refine w_s (c' := (37, [some (aR (some (1, 0, 0))), some (aI (iZ x1)), some (aI (iZ (x2 + r1))), some (aI (iZ x3))], [], am_hp σ1, t)) rfl rfl ?_
  refine w_inc (a := x3) (ls' := [some (aR (some (1, 0, 0))), some (aI (iZ x1)), some (aI (iZ (x2 + r1))), some (aI (iZ (x3 + 1)))]) rfl rfl rfl zc_1 rfl rfl ?_
  refine w_s (c' := (15, [some (aR (some (1, 0, 0))), some (aI (iZ x1)), some (aI (iZ (x2 + r1))), some (aI (iZ (x3 + 1)))], [], am_hp σ1, t)) rfl rfl ?_
  exact w2

theorem b_X11_filled_43 {x1 : Int} {x2 : Int} {x3 : Int} {σ : SG} {t : KT} (h1 : FP.fdiv (FP.i2f (iZ x2)) (FP.i2f (iZ (32 * x1))) &&& 0x7fffffff ≤ 0x7f800000) (q2 : Q (.inl (some (aF (FP.fdiv (FP.i2f (iZ x2)) (FP.i2f (iZ (32 * x1)))))), am_hp σ, t)) : Wp k_X11_filled d (43, [some (aR (some (1, 0, 0))), some (aI (iZ x1)), some (aI (iZ x2)), some (aI (iZ x3))], [], am_hp σ, t) Q := by
  refine w_s (c' := (44, [some (aR (some (1, 0, 0))), some (aI (iZ x1)), some (aI (iZ x2)), some (aI (iZ x3))], [aI (iZ x2)], am_hp σ, t)) rfl rfl ?_
  refine w_s (c' := (45, [some (aR (some (1, 0, 0))), some (aI (iZ x1)), some (aI (iZ x2)), some (aI (iZ x3))], [aF (FP.i2f (iZ x2))], am_hp σ, t)) rfl rfl ?_
  refine w_psh rfl zc_32 rfl ?_
  refine w_s (c' := (48, [some (aR (some (1, 0, 0))), some (aI (iZ x1)), some (aI (iZ x2)), some (aI (iZ x3))], [aI (iZ x1), aI (iZ 32), aF (FP.i2f (iZ x2))], am_hp σ, t)) rfl rfl ?_
  refine w_imul rfl rfl ?_
  refine w_s (c' := (50, [some (aR (some (1, 0, 0))), some (aI (iZ x1)), some (aI (iZ x2)), some (aI (iZ x3))], [aF (FP.i2f (iZ (32 * x1))), aF (FP.i2f (iZ x2))], am_hp σ, t)) rfl rfl ?_
  refine w_s (c' := (51, [some (aR (some (1, 0, 0))), some (aI (iZ x1)), some (aI (iZ x2)), some (aI (iZ x3))], [aF (FP.fdiv (FP.i2f (iZ x2)) (FP.i2f (iZ (32 * x1))))], am_hp σ, t)) rfl (by unfold o_stk f_fdv; dsimp only; rw [if_pos h1]) ?_
  exact w_ret rfl rfl q2

theorem b_X11_meanHeld_0 {x1 : Int} {σ σ1 : SG} {t : KT} (c1 : Ca d 138 [aR (some (1, 0, 0)), aI (iZ x1)] (am_hp σ) t (.inl none, am_hp σ1, t)) (h2 : 0 ≤ x1 ∧ x1 < 4) (h3 : -2147483648 ≤ σ1.1 (28, x1.toNat, 0) 2 ∧ σ1.1 (28, x1.toNat, 0) 2 < 2147483648) (w4 : σ1.1 (28, x1.toNat, 0) 2 ≠ 0 → Wp k_X11_meanHeld d (21, [some (aR (some (1, 0, 0))), some (aI (iZ x1)), some (aI (iZ (σ1.1 (28, x1.toNat, 0) 2)))], [], am_hp σ1, t) Q) (w5 : σ1.1 (28, x1.toNat, 0) 2 = 0 → Wp k_X11_meanHeld d (19, [some (aR (some (1, 0, 0))), some (aI (iZ x1)), some (aI (iZ (σ1.1 (28, x1.toNat, 0) 2)))], [], am_hp σ1, t) Q) : Wp k_X11_meanHeld d (0, [some (aR (some (1, 0, 0))), some (aI (iZ x1)), none], [], am_hp σ, t) Q := by
  refine w_s (c' := (1, [some (aR (some (1, 0, 0))), some (aI (iZ x1)), none], [aR (some (1, 0, 0))], am_hp σ, t)) rfl rfl ?_
  refine w_s (c' := (2, [some (aR (some (1, 0, 0))), some (aI (iZ x1)), none], [aI (iZ x1), aR (some (1, 0, 0))], am_hp σ, t)) rfl rfl ?_
  refine w_c0 (c' := (5, [some (aR (some (1, 0, 0))), some (aI (iZ x1)), none], [], am_hp σ1, t)) rfl rfl (rcv_of (hp_1 _ 0)) rfl c1 (Nat.le_refl _) rfl ?_
  refine w_s (c' := (6, [some (aR (some (1, 0, 0))), some (aI (iZ x1)), none], [aR (some (1, 0, 0))], am_hp σ1, t)) rfl rfl ?_
  refine w_get rfl (hp_1 _ 0) rfl rfl ?_
  refine w_s (c' := (10, [some (aR (some (1, 0, 0))), some (aI (iZ x1)), none], [aI (iZ x1), aR (some (17, 0, 0))], am_hp σ1, t)) rfl rfl ?_
  refine w_aal rfl (hp_17 _ 0) h2 rfl rfl ?_
  refine w_get rfl (hp_28 _ x1.toNat) rfl rfl ?_
  refine w_s (c' := (15, [some (aR (some (1, 0, 0))), some (aI (iZ x1)), some (aI (iZ (σ1.1 (28, x1.toNat, 0) 2)))], [], am_hp σ1, t)) rfl rfl ?_
  refine w_s (c' := (16, [some (aR (some (1, 0, 0))), some (aI (iZ x1)), some (aI (iZ (σ1.1 (28, x1.toNat, 0) 2)))], [aI (iZ (σ1.1 (28, x1.toNat, 0) 2))], am_hp σ1, t)) rfl rfl ?_
  exact w_ifne rfl h3 rfl w4 w5

theorem bx_X11_meanHeld_0_1 {x1 : Int} {E : Nat} {σ σ1 : SG} {t t' : KT} (c1 : Ca d 138 [aR (some (1, 0, 0)), aI (iZ x1)] (am_hp σ) t (.inr E, am_hp σ1, t')) (q2 : Q (.inr E, am_hp σ1, t')) : Wp k_X11_meanHeld d (0, [some (aR (some (1, 0, 0))), some (aI (iZ x1)), none], [], am_hp σ, t) Q := by
  refine w_s (c' := (1, [some (aR (some (1, 0, 0))), some (aI (iZ x1)), none], [aR (some (1, 0, 0))], am_hp σ, t)) rfl rfl ?_
  refine w_s (c' := (2, [some (aR (some (1, 0, 0))), some (aI (iZ x1)), none], [aI (iZ x1), aR (some (1, 0, 0))], am_hp σ, t)) rfl rfl ?_
  exact w_x rfl rfl (rcv_of (hp_1 _ 0)) rfl c1 (Nat.le_refl _) rfl q2

theorem e_X11_meanHeld {x1 : Int} {h : AH} {t : KT} {d : Nat} {P : RS → Prop} (w : Wp k_X11_meanHeld d (0, [some (aR (some (1, 0, 0))), some (aI (iZ x1)), none], [], h, t) P) : ∃ r, Ca (d + 1) 114 [aR (some (1, 0, 0)), aI (iZ x1)] h t r ∧ P r := ca_W rfl rfl rfl rfl w

theorem b_X11_meanHeld_19 {x1 : Int} {x2 : Int} {σ : SG} {t : KT} (q1 : Q (.inl (some (aD FP.dconst0)), am_hp σ, t)) : Wp k_X11_meanHeld d (19, [some (aR (some (1, 0, 0))), some (aI (iZ x1)), some (aI (iZ x2))], [], am_hp σ, t) Q := by
  refine w_s (c' := (20, [some (aR (some (1, 0, 0))), some (aI (iZ x1)), some (aI (iZ x2))], [aD FP.dconst0], am_hp σ, t)) rfl rfl ?_
  exact w_ret rfl rfl q1

theorem b_X11_meanHeld_21 {x1 : Int} {x2 : Int} {σ : SG} {t : KT} (h1 : 0 ≤ x1 ∧ x1 < 4) (h2 : FP.ddiv (FP.i2d (iZ (σ.1 (10, 0, 0) x1.toNat))) (FP.i2d (iZ x2)) &&& 0x7fffffffffffffff ≤ 0x7ff0000000000000) (q3 : Q (.inl (some (aD (FP.ddiv (FP.i2d (iZ (σ.1 (10, 0, 0) x1.toNat))) (FP.i2d (iZ x2))))), am_hp σ, t)) : Wp k_X11_meanHeld d (21, [some (aR (some (1, 0, 0))), some (aI (iZ x1)), some (aI (iZ x2))], [], am_hp σ, t) Q := by
  refine w_s (c' := (22, [some (aR (some (1, 0, 0))), some (aI (iZ x1)), some (aI (iZ x2))], [aR (some (1, 0, 0))], am_hp σ, t)) rfl rfl ?_
  refine w_get rfl (hp_1 _ 0) rfl rfl ?_
  refine w_get rfl (hp_8 _ 0) rfl rfl ?_
  refine w_s (c' := (29, [some (aR (some (1, 0, 0))), some (aI (iZ x1)), some (aI (iZ x2))], [aI (iZ x1), aR (some (10, 0, 0))], am_hp σ, t)) rfl rfl ?_
  refine w_ial rfl (hp_10 _ 0 0) h1 rfl rfl ?_
  refine w_s (c' := (31, [some (aR (some (1, 0, 0))), some (aI (iZ x1)), some (aI (iZ x2))], [aD (FP.i2d (iZ (σ.1 (10, 0, 0) x1.toNat)))], am_hp σ, t)) rfl rfl ?_
  refine w_s (c' := (32, [some (aR (some (1, 0, 0))), some (aI (iZ x1)), some (aI (iZ x2))], [aI (iZ x2), aD (FP.i2d (iZ (σ.1 (10, 0, 0) x1.toNat)))], am_hp σ, t)) rfl rfl ?_
  refine w_s (c' := (33, [some (aR (some (1, 0, 0))), some (aI (iZ x1)), some (aI (iZ x2))], [aD (FP.i2d (iZ x2)), aD (FP.i2d (iZ (σ.1 (10, 0, 0) x1.toNat)))], am_hp σ, t)) rfl rfl ?_
  refine w_s (c' := (34, [some (aR (some (1, 0, 0))), some (aI (iZ x1)), some (aI (iZ x2))], [aD (FP.ddiv (FP.i2d (iZ (σ.1 (10, 0, 0) x1.toNat))) (FP.i2d (iZ x2)))], am_hp σ, t)) rfl (by unfold o_stk f_ddv; dsimp only; rw [if_pos h2]) ?_
  exact w_ret rfl rfl q3

theorem b_X11_wordsBy_0 {x1 : Int} {x2 : Int} {r5 : Int} {σ σ1 σ2 σ3 σ4 σ5 : SG} {t : KT} (c1 : Ca d 138 [aR (some (1, 0, 0)), aI (iZ x1)] (am_hp σ) t (.inl none, am_hp σ1, t)) (c2 : Ca d 142 [aI (iZ x2), aI (iZ 0), aI (iZ 2)] (am_hp σ1) t (.inl none, am_hp σ2, t)) (c3 : Ca d 22 [aR (some (18, 0, 0)), aR (some (8, 0, 0)), aI (iZ x1)] (am_hp σ2) t (.inl none, am_hp σ3, t)) (c4 : Ca d 28 [aR (some (18, 0, 0)), aI (iZ x2), aR (some (13, 0, 0))] (am_hp σ3) t (.inl none, am_hp σ4, t)) (c5 : Ca d 32 [aR (some (18, 0, 0))] (am_hp σ4) t (.inl (some (aI (iZ r5))), am_hp σ5, t)) (q6 : Q (.inl (some (aI (iZ r5))), am_hp σ5, t)) : Wp k_X11_wordsBy d (0, [some (aR (some (1, 0, 0))), some (aI (iZ x1)), some (aI (iZ x2))], [], am_hp σ, t) Q := by
  refine w_s (c' := (1, [some (aR (some (1, 0, 0))), some (aI (iZ x1)), some (aI (iZ x2))], [aR (some (1, 0, 0))], am_hp σ, t)) rfl rfl ?_
  refine w_s (c' := (2, [some (aR (some (1, 0, 0))), some (aI (iZ x1)), some (aI (iZ x2))], [aI (iZ x1), aR (some (1, 0, 0))], am_hp σ, t)) rfl rfl ?_
  refine w_c0 (c' := (5, [some (aR (some (1, 0, 0))), some (aI (iZ x1)), some (aI (iZ x2))], [], am_hp σ1, t)) rfl rfl (rcv_of (hp_1 _ 0)) rfl c1 (Nat.le_refl _) rfl ?_
  refine w_s (c' := (6, [some (aR (some (1, 0, 0))), some (aI (iZ x1)), some (aI (iZ x2))], [aI (iZ x2)], am_hp σ1, t)) rfl rfl ?_
  refine w_psh rfl zc_0 rfl ?_
  refine w_psh rfl zc_2 rfl ?_
  refine w_c0 (c' := (11, [some (aR (some (1, 0, 0))), some (aI (iZ x1)), some (aI (iZ x2))], [], am_hp σ2, t)) rfl rfl rfl rfl c2 (Nat.le_refl _) rfl ?_
  refine w_s (c' := (12, [some (aR (some (1, 0, 0))), some (aI (iZ x1)), some (aI (iZ x2))], [aR (some (1, 0, 0))], am_hp σ2, t)) rfl rfl ?_
  refine w_get rfl (hp_1 _ 0) rfl rfl ?_
  refine w_s (c' := (16, [some (aR (some (1, 0, 0))), some (aI (iZ x1)), some (aI (iZ x2))], [aR (some (1, 0, 0)), aR (some (18, 0, 0))], am_hp σ2, t)) rfl rfl ?_
  refine w_get rfl (hp_1 _ 0) rfl rfl ?_
  refine w_s (c' := (20, [some (aR (some (1, 0, 0))), some (aI (iZ x1)), some (aI (iZ x2))], [aI (iZ x1), aR (some (8, 0, 0)), aR (some (18, 0, 0))], am_hp σ2, t)) rfl rfl ?_
  refine w_c0 (c' := (23, [some (aR (some (1, 0, 0))), some (aI (iZ x1)), some (aI (iZ x2))], [], am_hp σ3, t)) rfl rfl (rcv_of (hp_18 _ 0)) rfl c3 (Nat.le_refl _) rfl ?_
  refine w_s (c' := (24, [some (aR (some (1, 0, 0))), some (aI (iZ x1)), some (aI (iZ x2))], [aR (some (1, 0, 0))], am_hp σ3, t)) rfl rfl ?_
  refine w_get rfl (hp_1 _ 0) rfl rfl ?_
  refine w_s (c' := (28, [some (aR (some (1, 0, 0))), some (aI (iZ x1)), some (aI (iZ x2))], [aI (iZ x2), aR (some (18, 0, 0))], am_hp σ3, t)) rfl rfl ?_
  refine w_s (c' := (29, [some (aR (some (1, 0, 0))), some (aI (iZ x1)), some (aI (iZ x2))], [aR (some (1, 0, 0)), aI (iZ x2), aR (some (18, 0, 0))], am_hp σ3, t)) rfl rfl ?_
  refine w_get rfl (hp_1 _ 0) rfl rfl ?_
  refine w_get rfl (hp_8 _ 0) rfl rfl ?_
  refine w_c0 (c' := (38, [some (aR (some (1, 0, 0))), some (aI (iZ x1)), some (aI (iZ x2))], [], am_hp σ4, t)) rfl rfl (rcv_of (hp_18 _ 0)) rfl c4 (Nat.le_refl _) rfl ?_
  refine w_s (c' := (39, [some (aR (some (1, 0, 0))), some (aI (iZ x1)), some (aI (iZ x2))], [aR (some (1, 0, 0))], am_hp σ4, t)) rfl rfl ?_
  refine w_get rfl (hp_1 _ 0) rfl rfl ?_
  refine w_c0 (c' := (45, [some (aR (some (1, 0, 0))), some (aI (iZ x1)), some (aI (iZ x2))], [aI (iZ r5)], am_hp σ5, t)) rfl rfl (rcv_of (hp_18 _ 0)) rfl c5 (Nat.le_refl _) rfl ?_
  exact w_ret rfl rfl q6

theorem bx_X11_wordsBy_0_1 {x1 : Int} {x2 : Int} {E : Nat} {σ σ1 σ2 σ3 σ4 σ5 : SG} {t t' : KT} (c1 : Ca d 138 [aR (some (1, 0, 0)), aI (iZ x1)] (am_hp σ) t (.inr E, am_hp σ1, t')) (q2 : Q (.inr E, am_hp σ1, t')) : Wp k_X11_wordsBy d (0, [some (aR (some (1, 0, 0))), some (aI (iZ x1)), some (aI (iZ x2))], [], am_hp σ, t) Q := by
  refine w_s (c' := (1, [some (aR (some (1, 0, 0))), some (aI (iZ x1)), some (aI (iZ x2))], [aR (some (1, 0, 0))], am_hp σ, t)) rfl rfl ?_
  refine w_s (c' := (2, [some (aR (some (1, 0, 0))), some (aI (iZ x1)), some (aI (iZ x2))], [aI (iZ x1), aR (some (1, 0, 0))], am_hp σ, t)) rfl rfl ?_
  exact w_x rfl rfl (rcv_of (hp_1 _ 0)) rfl c1 (Nat.le_refl _) rfl q2

theorem bx_X11_wordsBy_0_2 {x1 : Int} {x2 : Int} {E : Nat} {σ σ1 σ2 σ3 σ4 σ5 : SG} {t t' : KT} (c1 : Ca d 138 [aR (some (1, 0, 0)), aI (iZ x1)] (am_hp σ) t (.inl none, am_hp σ1, t)) (c2 : Ca d 142 [aI (iZ x2), aI (iZ 0), aI (iZ 2)] (am_hp σ1) t (.inr E, am_hp σ2, t')) (q3 : Q (.inr E, am_hp σ2, t')) : Wp k_X11_wordsBy d (0, [some (aR (some (1, 0, 0))), some (aI (iZ x1)), some (aI (iZ x2))], [], am_hp σ, t) Q := by
  refine w_s (c' := (1, [some (aR (some (1, 0, 0))), some (aI (iZ x1)), some (aI (iZ x2))], [aR (some (1, 0, 0))], am_hp σ, t)) rfl rfl ?_
  refine w_s (c' := (2, [some (aR (some (1, 0, 0))), some (aI (iZ x1)), some (aI (iZ x2))], [aI (iZ x1), aR (some (1, 0, 0))], am_hp σ, t)) rfl rfl ?_
  refine w_c0 (c' := (5, [some (aR (some (1, 0, 0))), some (aI (iZ x1)), some (aI (iZ x2))], [], am_hp σ1, t)) rfl rfl (rcv_of (hp_1 _ 0)) rfl c1 (Nat.le_refl _) rfl ?_
  refine w_s (c' := (6, [some (aR (some (1, 0, 0))), some (aI (iZ x1)), some (aI (iZ x2))], [aI (iZ x2)], am_hp σ1, t)) rfl rfl ?_
  refine w_psh rfl zc_0 rfl ?_
  refine w_psh rfl zc_2 rfl ?_
  exact w_x rfl rfl rfl rfl c2 (Nat.le_refl _) rfl q3

theorem e_X11_wordsBy {x1 : Int} {x2 : Int} {h : AH} {t : KT} {d : Nat} {P : RS → Prop} (w : Wp k_X11_wordsBy d (0, [some (aR (some (1, 0, 0))), some (aI (iZ x1)), some (aI (iZ x2))], [], h, t) P) : ∃ r, Ca (d + 1) 115 [aR (some (1, 0, 0)), aI (iZ x1), aI (iZ x2)] h t r ∧ P r := ca_W rfl rfl rfl rfl w

theorem b_X11_priceBy_0 {x1 : Int} {x2 : Int} {r5 : Int} {σ σ1 σ2 σ3 σ4 σ5 : SG} {t : KT} (c1 : Ca d 138 [aR (some (1, 0, 0)), aI (iZ x1)] (am_hp σ) t (.inl none, am_hp σ1, t)) (c2 : Ca d 142 [aI (iZ x2), aI (iZ 0), aI (iZ 2)] (am_hp σ1) t (.inl none, am_hp σ2, t)) (c3 : Ca d 22 [aR (some (18, 0, 0)), aR (some (8, 0, 0)), aI (iZ x1)] (am_hp σ2) t (.inl none, am_hp σ3, t)) (c4 : Ca d 28 [aR (some (18, 0, 0)), aI (iZ x2), aR (some (13, 0, 0))] (am_hp σ3) t (.inl none, am_hp σ4, t)) (c5 : Ca d 33 [aR (some (18, 0, 0)), aR (some (13, 0, 0))] (am_hp σ4) t (.inl (some (aI (iZ r5))), am_hp σ5, t)) (q6 : Q (.inl (some (aI (iZ r5))), am_hp σ5, t)) : Wp k_X11_priceBy d (0, [some (aR (some (1, 0, 0))), some (aI (iZ x1)), some (aI (iZ x2))], [], am_hp σ, t) Q := by
  refine w_s (c' := (1, [some (aR (some (1, 0, 0))), some (aI (iZ x1)), some (aI (iZ x2))], [aR (some (1, 0, 0))], am_hp σ, t)) rfl rfl ?_
  refine w_s (c' := (2, [some (aR (some (1, 0, 0))), some (aI (iZ x1)), some (aI (iZ x2))], [aI (iZ x1), aR (some (1, 0, 0))], am_hp σ, t)) rfl rfl ?_
  refine w_c0 (c' := (5, [some (aR (some (1, 0, 0))), some (aI (iZ x1)), some (aI (iZ x2))], [], am_hp σ1, t)) rfl rfl (rcv_of (hp_1 _ 0)) rfl c1 (Nat.le_refl _) rfl ?_
  refine w_s (c' := (6, [some (aR (some (1, 0, 0))), some (aI (iZ x1)), some (aI (iZ x2))], [aI (iZ x2)], am_hp σ1, t)) rfl rfl ?_
  refine w_psh rfl zc_0 rfl ?_
  refine w_psh rfl zc_2 rfl ?_
  refine w_c0 (c' := (11, [some (aR (some (1, 0, 0))), some (aI (iZ x1)), some (aI (iZ x2))], [], am_hp σ2, t)) rfl rfl rfl rfl c2 (Nat.le_refl _) rfl ?_
  refine w_s (c' := (12, [some (aR (some (1, 0, 0))), some (aI (iZ x1)), some (aI (iZ x2))], [aR (some (1, 0, 0))], am_hp σ2, t)) rfl rfl ?_
  refine w_get rfl (hp_1 _ 0) rfl rfl ?_
  refine w_s (c' := (16, [some (aR (some (1, 0, 0))), some (aI (iZ x1)), some (aI (iZ x2))], [aR (some (1, 0, 0)), aR (some (18, 0, 0))], am_hp σ2, t)) rfl rfl ?_
  refine w_get rfl (hp_1 _ 0) rfl rfl ?_
  refine w_s (c' := (20, [some (aR (some (1, 0, 0))), some (aI (iZ x1)), some (aI (iZ x2))], [aI (iZ x1), aR (some (8, 0, 0)), aR (some (18, 0, 0))], am_hp σ2, t)) rfl rfl ?_
  refine w_c0 (c' := (23, [some (aR (some (1, 0, 0))), some (aI (iZ x1)), some (aI (iZ x2))], [], am_hp σ3, t)) rfl rfl (rcv_of (hp_18 _ 0)) rfl c3 (Nat.le_refl _) rfl ?_
  refine w_s (c' := (24, [some (aR (some (1, 0, 0))), some (aI (iZ x1)), some (aI (iZ x2))], [aR (some (1, 0, 0))], am_hp σ3, t)) rfl rfl ?_
  refine w_get rfl (hp_1 _ 0) rfl rfl ?_
  refine w_s (c' := (28, [some (aR (some (1, 0, 0))), some (aI (iZ x1)), some (aI (iZ x2))], [aI (iZ x2), aR (some (18, 0, 0))], am_hp σ3, t)) rfl rfl ?_
  refine w_s (c' := (29, [some (aR (some (1, 0, 0))), some (aI (iZ x1)), some (aI (iZ x2))], [aR (some (1, 0, 0)), aI (iZ x2), aR (some (18, 0, 0))], am_hp σ3, t)) rfl rfl ?_
  refine w_get rfl (hp_1 _ 0) rfl rfl ?_
  refine w_get rfl (hp_8 _ 0) rfl rfl ?_
  refine w_c0 (c' := (38, [some (aR (some (1, 0, 0))), some (aI (iZ x1)), some (aI (iZ x2))], [], am_hp σ4, t)) rfl rfl (rcv_of (hp_18 _ 0)) rfl c4 (Nat.le_refl _) rfl ?_
  refine w_s (c' := (39, [some (aR (some (1, 0, 0))), some (aI (iZ x1)), some (aI (iZ x2))], [aR (some (1, 0, 0))], am_hp σ4, t)) rfl rfl ?_
  refine w_get rfl (hp_1 _ 0) rfl rfl ?_
  refine w_s (c' := (43, [some (aR (some (1, 0, 0))), some (aI (iZ x1)), some (aI (iZ x2))], [aR (some (1, 0, 0)), aR (some (18, 0, 0))], am_hp σ4, t)) rfl rfl ?_
  refine w_get rfl (hp_1 _ 0) rfl rfl ?_
  refine w_get rfl (hp_8 _ 0) rfl rfl ?_
  refine w_c0 (c' := (52, [some (aR (some (1, 0, 0))), some (aI (iZ x1)), some (aI (iZ x2))], [aI (iZ r5)], am_hp σ5, t)) rfl rfl (rcv_of (hp_18 _ 0)) rfl c5 (Nat.le_refl _) rfl ?_
  exact w_ret rfl rfl q6

theorem bx_X11_priceBy_0_1 {x1 : Int} {x2 : Int} {E : Nat} {σ σ1 σ2 σ3 σ4 σ5 : SG} {t t' : KT} (c1 : Ca d 138 [aR (some (1, 0, 0)), aI (iZ x1)] (am_hp σ) t (.inr E, am_hp σ1, t')) (q2 : Q (.inr E, am_hp σ1, t')) : Wp k_X11_priceBy d (0, [some (aR (some (1, 0, 0))), some (aI (iZ x1)), some (aI (iZ x2))], [], am_hp σ, t) Q := by
  refine w_s (c' := (1, [some (aR (some (1, 0, 0))), some (aI (iZ x1)), some (aI (iZ x2))], [aR (some (1, 0, 0))], am_hp σ, t)) rfl rfl ?_
  refine w_s (c' := (2, [some (aR (some (1, 0, 0))), some (aI (iZ x1)), some (aI (iZ x2))], [aI (iZ x1), aR (some (1, 0, 0))], am_hp σ, t)) rfl rfl ?_
  exact w_x rfl rfl (rcv_of (hp_1 _ 0)) rfl c1 (Nat.le_refl _) rfl q2

theorem bx_X11_priceBy_0_2 {x1 : Int} {x2 : Int} {E : Nat} {σ σ1 σ2 σ3 σ4 σ5 : SG} {t t' : KT} (c1 : Ca d 138 [aR (some (1, 0, 0)), aI (iZ x1)] (am_hp σ) t (.inl none, am_hp σ1, t)) (c2 : Ca d 142 [aI (iZ x2), aI (iZ 0), aI (iZ 2)] (am_hp σ1) t (.inr E, am_hp σ2, t')) (q3 : Q (.inr E, am_hp σ2, t')) : Wp k_X11_priceBy d (0, [some (aR (some (1, 0, 0))), some (aI (iZ x1)), some (aI (iZ x2))], [], am_hp σ, t) Q := by
  refine w_s (c' := (1, [some (aR (some (1, 0, 0))), some (aI (iZ x1)), some (aI (iZ x2))], [aR (some (1, 0, 0))], am_hp σ, t)) rfl rfl ?_
  refine w_s (c' := (2, [some (aR (some (1, 0, 0))), some (aI (iZ x1)), some (aI (iZ x2))], [aI (iZ x1), aR (some (1, 0, 0))], am_hp σ, t)) rfl rfl ?_
  refine w_c0 (c' := (5, [some (aR (some (1, 0, 0))), some (aI (iZ x1)), some (aI (iZ x2))], [], am_hp σ1, t)) rfl rfl (rcv_of (hp_1 _ 0)) rfl c1 (Nat.le_refl _) rfl ?_
  refine w_s (c' := (6, [some (aR (some (1, 0, 0))), some (aI (iZ x1)), some (aI (iZ x2))], [aI (iZ x2)], am_hp σ1, t)) rfl rfl ?_
  refine w_psh rfl zc_0 rfl ?_
  refine w_psh rfl zc_2 rfl ?_
  exact w_x rfl rfl rfl rfl c2 (Nat.le_refl _) rfl q3

theorem e_X11_priceBy {x1 : Int} {x2 : Int} {h : AH} {t : KT} {d : Nat} {P : RS → Prop} (w : Wp k_X11_priceBy d (0, [some (aR (some (1, 0, 0))), some (aI (iZ x1)), some (aI (iZ x2))], [], h, t) P) : ∃ r, Ca (d + 1) 116 [aR (some (1, 0, 0)), aI (iZ x1), aI (iZ x2)] h t r ∧ P r := ca_W rfl rfl rfl rfl w

theorem b_X11_wordsIf_0 {x1 : Int} {x2 : Int} {x3 : Int} {r6 : Int} {σ σ1 σ2 σ3 σ4 σ5 σ6 : SG} {t : KT} (c1 : Ca d 139 [aR (some (1, 0, 0)), aI (iZ x1), aI (iZ x2)] (am_hp σ) t (.inl none, am_hp σ1, t)) (c2 : Ca d 142 [aI (iZ x3), aI (iZ 0), aI (iZ 268435455)] (am_hp σ1) t (.inl none, am_hp σ2, t)) (c3 : Ca d 22 [aR (some (18, 0, 0)), aR (some (8, 0, 0)), aI (iZ x1)] (am_hp σ2) t (.inl none, am_hp σ3, t)) (c4 : Ca d 24 [aR (some (18, 0, 0)), aI (iZ x2), aI (iZ x3)] (am_hp σ3) t (.inl none, am_hp σ4, t)) (c5 : Ca d 28 [aR (some (18, 0, 0)), aI (iZ (σ4.1 (8, 0, 0) 5)), aR (some (13, 0, 0))] (am_hp σ4) t (.inl none, am_hp σ5, t)) (c6 : Ca d 32 [aR (some (18, 0, 0))] (am_hp σ5) t (.inl (some (aI (iZ r6))), am_hp σ6, t)) (q7 : Q (.inl (some (aI (iZ r6))), am_hp σ6, t)) : Wp k_X11_wordsIf d (0, [some (aR (some (1, 0, 0))), some (aI (iZ x1)), some (aI (iZ x2)), some (aI (iZ x3))], [], am_hp σ, t) Q := by
  refine w_s (c' := (1, [some (aR (some (1, 0, 0))), some (aI (iZ x1)), some (aI (iZ x2)), some (aI (iZ x3))], [aR (some (1, 0, 0))], am_hp σ, t)) rfl rfl ?_
  refine w_s (c' := (2, [some (aR (some (1, 0, 0))), some (aI (iZ x1)), some (aI (iZ x2)), some (aI (iZ x3))], [aI (iZ x1), aR (some (1, 0, 0))], am_hp σ, t)) rfl rfl ?_
  refine w_s (c' := (3, [some (aR (some (1, 0, 0))), some (aI (iZ x1)), some (aI (iZ x2)), some (aI (iZ x3))], [aI (iZ x2), aI (iZ x1), aR (some (1, 0, 0))], am_hp σ, t)) rfl rfl ?_
  refine w_c0 (c' := (6, [some (aR (some (1, 0, 0))), some (aI (iZ x1)), some (aI (iZ x2)), some (aI (iZ x3))], [], am_hp σ1, t)) rfl rfl (rcv_of (hp_1 _ 0)) rfl c1 (Nat.le_refl _) rfl ?_
  refine w_s (c' := (7, [some (aR (some (1, 0, 0))), some (aI (iZ x1)), some (aI (iZ x2)), some (aI (iZ x3))], [aI (iZ x3)], am_hp σ1, t)) rfl rfl ?_
  refine w_psh rfl zc_0 rfl ?_
  refine w_psh rfl zc_268435455 rfl ?_
  refine w_c0 (c' := (14, [some (aR (some (1, 0, 0))), some (aI (iZ x1)), some (aI (iZ x2)), some (aI (iZ x3))], [], am_hp σ2, t)) rfl rfl rfl rfl c2 (Nat.le_refl _) rfl ?_
  refine w_s (c' := (15, [some (aR (some (1, 0, 0))), some (aI (iZ x1)), some (aI (iZ x2)), some (aI (iZ x3))], [aR (some (1, 0, 0))], am_hp σ2, t)) rfl rfl ?_
  refine w_get rfl (hp_1 _ 0) rfl rfl ?_
  refine w_s (c' := (19, [some (aR (some (1, 0, 0))), some (aI (iZ x1)), some (aI (iZ x2)), some (aI (iZ x3))], [aR (some (1, 0, 0)), aR (some (18, 0, 0))], am_hp σ2, t)) rfl rfl ?_
  refine w_get rfl (hp_1 _ 0) rfl rfl ?_
  refine w_s (c' := (23, [some (aR (some (1, 0, 0))), some (aI (iZ x1)), some (aI (iZ x2)), some (aI (iZ x3))], [aI (iZ x1), aR (some (8, 0, 0)), aR (some (18, 0, 0))], am_hp σ2, t)) rfl rfl ?_
  refine w_c0 (c' := (26, [some (aR (some (1, 0, 0))), some (aI (iZ x1)), some (aI (iZ x2)), some (aI (iZ x3))], [], am_hp σ3, t)) rfl rfl (rcv_of (hp_18 _ 0)) rfl c3 (Nat.le_refl _) rfl ?_
  refine w_s (c' := (27, [some (aR (some (1, 0, 0))), some (aI (iZ x1)), some (aI (iZ x2)), some (aI (iZ x3))], [aR (some (1, 0, 0))], am_hp σ3, t)) rfl rfl ?_
  refine w_get rfl (hp_1 _ 0) rfl rfl ?_
  refine w_s (c' := (31, [some (aR (some (1, 0, 0))), some (aI (iZ x1)), some (aI (iZ x2)), some (aI (iZ x3))], [aI (iZ x2), aR (some (18, 0, 0))], am_hp σ3, t)) rfl rfl ?_
  refine w_s (c' := (32, [some (aR (some (1, 0, 0))), some (aI (iZ x1)), some (aI (iZ x2)), some (aI (iZ x3))], [aI (iZ x3), aI (iZ x2), aR (some (18, 0, 0))], am_hp σ3, t)) rfl rfl ?_
  refine w_c0 (c' := (35, [some (aR (some (1, 0, 0))), some (aI (iZ x1)), some (aI (iZ x2)), some (aI (iZ x3))], [], am_hp σ4, t)) rfl rfl (rcv_of (hp_18 _ 0)) rfl c4 (Nat.le_refl _) rfl ?_
  refine w_s (c' := (36, [some (aR (some (1, 0, 0))), some (aI (iZ x1)), some (aI (iZ x2)), some (aI (iZ x3))], [aR (some (1, 0, 0))], am_hp σ4, t)) rfl rfl ?_
  refine w_get rfl (hp_1 _ 0) rfl rfl ?_
  refine w_s (c' := (40, [some (aR (some (1, 0, 0))), some (aI (iZ x1)), some (aI (iZ x2)), some (aI (iZ x3))], [aR (some (1, 0, 0)), aR (some (18, 0, 0))], am_hp σ4, t)) rfl rfl ?_
  refine w_get rfl (hp_1 _ 0) rfl rfl ?_
  refine w_get rfl (hp_8 _ 0) rfl rfl ?_
  refine w_s (c' := (47, [some (aR (some (1, 0, 0))), some (aI (iZ x1)), some (aI (iZ x2)), some (aI (iZ x3))], [aR (some (1, 0, 0)), aI (iZ (σ4.1 (8, 0, 0) 5)), aR (some (18, 0, 0))], am_hp σ4, t)) rfl rfl ?_
  refine w_get rfl (hp_1 _ 0) rfl rfl ?_
  refine w_get rfl (hp_8 _ 0) rfl rfl ?_
  refine w_c0 (c' := (56, [some (aR (some (1, 0, 0))), some (aI (iZ x1)), some (aI (iZ x2)), some (aI (iZ x3))], [], am_hp σ5, t)) rfl rfl (rcv_of (hp_18 _ 0)) rfl c5 (Nat.le_refl _) rfl ?_
  refine w_s (c' := (57, [some (aR (some (1, 0, 0))), some (aI (iZ x1)), some (aI (iZ x2)), some (aI (iZ x3))], [aR (some (1, 0, 0))], am_hp σ5, t)) rfl rfl ?_
  refine w_get rfl (hp_1 _ 0) rfl rfl ?_
  refine w_c0 (c' := (63, [some (aR (some (1, 0, 0))), some (aI (iZ x1)), some (aI (iZ x2)), some (aI (iZ x3))], [aI (iZ r6)], am_hp σ6, t)) rfl rfl (rcv_of (hp_18 _ 0)) rfl c6 (Nat.le_refl _) rfl ?_
  exact w_ret rfl rfl q7

theorem bx_X11_wordsIf_0_1 {x1 : Int} {x2 : Int} {x3 : Int} {E : Nat} {σ σ1 σ2 σ3 σ4 σ5 σ6 : SG} {t t' : KT} (c1 : Ca d 139 [aR (some (1, 0, 0)), aI (iZ x1), aI (iZ x2)] (am_hp σ) t (.inr E, am_hp σ1, t')) (q2 : Q (.inr E, am_hp σ1, t')) : Wp k_X11_wordsIf d (0, [some (aR (some (1, 0, 0))), some (aI (iZ x1)), some (aI (iZ x2)), some (aI (iZ x3))], [], am_hp σ, t) Q := by
  refine w_s (c' := (1, [some (aR (some (1, 0, 0))), some (aI (iZ x1)), some (aI (iZ x2)), some (aI (iZ x3))], [aR (some (1, 0, 0))], am_hp σ, t)) rfl rfl ?_
  refine w_s (c' := (2, [some (aR (some (1, 0, 0))), some (aI (iZ x1)), some (aI (iZ x2)), some (aI (iZ x3))], [aI (iZ x1), aR (some (1, 0, 0))], am_hp σ, t)) rfl rfl ?_
  refine w_s (c' := (3, [some (aR (some (1, 0, 0))), some (aI (iZ x1)), some (aI (iZ x2)), some (aI (iZ x3))], [aI (iZ x2), aI (iZ x1), aR (some (1, 0, 0))], am_hp σ, t)) rfl rfl ?_
  exact w_x rfl rfl (rcv_of (hp_1 _ 0)) rfl c1 (Nat.le_refl _) rfl q2

theorem bx_X11_wordsIf_0_2 {x1 : Int} {x2 : Int} {x3 : Int} {E : Nat} {σ σ1 σ2 σ3 σ4 σ5 σ6 : SG} {t t' : KT} (c1 : Ca d 139 [aR (some (1, 0, 0)), aI (iZ x1), aI (iZ x2)] (am_hp σ) t (.inl none, am_hp σ1, t)) (c2 : Ca d 142 [aI (iZ x3), aI (iZ 0), aI (iZ 268435455)] (am_hp σ1) t (.inr E, am_hp σ2, t')) (q3 : Q (.inr E, am_hp σ2, t')) : Wp k_X11_wordsIf d (0, [some (aR (some (1, 0, 0))), some (aI (iZ x1)), some (aI (iZ x2)), some (aI (iZ x3))], [], am_hp σ, t) Q := by
  refine w_s (c' := (1, [some (aR (some (1, 0, 0))), some (aI (iZ x1)), some (aI (iZ x2)), some (aI (iZ x3))], [aR (some (1, 0, 0))], am_hp σ, t)) rfl rfl ?_
  refine w_s (c' := (2, [some (aR (some (1, 0, 0))), some (aI (iZ x1)), some (aI (iZ x2)), some (aI (iZ x3))], [aI (iZ x1), aR (some (1, 0, 0))], am_hp σ, t)) rfl rfl ?_
  refine w_s (c' := (3, [some (aR (some (1, 0, 0))), some (aI (iZ x1)), some (aI (iZ x2)), some (aI (iZ x3))], [aI (iZ x2), aI (iZ x1), aR (some (1, 0, 0))], am_hp σ, t)) rfl rfl ?_
  refine w_c0 (c' := (6, [some (aR (some (1, 0, 0))), some (aI (iZ x1)), some (aI (iZ x2)), some (aI (iZ x3))], [], am_hp σ1, t)) rfl rfl (rcv_of (hp_1 _ 0)) rfl c1 (Nat.le_refl _) rfl ?_
  refine w_s (c' := (7, [some (aR (some (1, 0, 0))), some (aI (iZ x1)), some (aI (iZ x2)), some (aI (iZ x3))], [aI (iZ x3)], am_hp σ1, t)) rfl rfl ?_
  refine w_psh rfl zc_0 rfl ?_
  refine w_psh rfl zc_268435455 rfl ?_
  exact w_x rfl rfl rfl rfl c2 (Nat.le_refl _) rfl q3

theorem e_X11_wordsIf {x1 : Int} {x2 : Int} {x3 : Int} {h : AH} {t : KT} {d : Nat} {P : RS → Prop} (w : Wp k_X11_wordsIf d (0, [some (aR (some (1, 0, 0))), some (aI (iZ x1)), some (aI (iZ x2)), some (aI (iZ x3))], [], h, t) P) : ∃ r, Ca (d + 1) 117 [aR (some (1, 0, 0)), aI (iZ x1), aI (iZ x2), aI (iZ x3)] h t r ∧ P r := ca_W rfl rfl rfl rfl w
end PCS
