/-! PIECES: X11 -/
set_option maxRecDepth 4000
section PCS
variable {d : Nat} {Q : RS → Prop}
theorem b_X11_bestRemove_0 {x1 : Int} {σ σ1 : SG} {t : KT} (c1 : Ca d 138 [aR (some (1, 0, 0)), aI (iZ x1)] (am_hp σ) t (.inl none, am_hp σ1, t)) (w2 : Wp k_X11_bestRemove d (13, [some (aR (some (1, 0, 0))), some (aI (iZ x1)), some (aI (iZ (-1))), some (aI (iZ 60)), some (aI (iZ 0)), none], [], am_hp σ1, t) Q) : Wp k_X11_bestRemove d (0, [some (aR (some (1, 0, 0))), some (aI (iZ x1)), none, none, none, none], [], am_hp σ, t) Q := by
  refine w_s (c' := (1, [some (aR (some (1, 0, 0))), some (aI (iZ x1)), none, none, none, none], [aR (some (1, 0, 0))], am_hp σ, t)) rfl rfl ?_
  refine w_s (c' := (2, [some (aR (some (1, 0, 0))), some (aI (iZ x1)), none, none, none, none], [aI (iZ x1), aR (some (1, 0, 0))], am_hp σ, t)) rfl rfl ?_
  refine w_c0 (c' := (5, [some (aR (some (1, 0, 0))), some (aI (iZ x1)), none, none, none, none], [], am_hp σ1, t)) rfl rfl (rcv_of (hp_1 _ 0)) rfl c1 (Nat.le_refl _) rfl ?_
  refine w_psh rfl zc_m1 rfl ?_
  refine w_s (c' := (7, [some (aR (some (1, 0, 0))), some (aI (iZ x1)), some (aI (iZ (-1))), none, none, none], [], am_hp σ1, t)) rfl rfl ?_
  refine w_psh rfl zc_60 rfl ?_
  refine w_s (c' := (10, [some (aR (some (1, 0, 0))), some (aI (iZ x1)), some (aI (iZ (-1))), some (aI (iZ 60)), none, none], [], am_hp σ1, t)) rfl rfl ?_
  refine w_psh rfl zc_0 rfl ?_
  refine w_s (c' := (13, [some (aR (some (1, 0, 0))), some (aI (iZ x1)), some (aI (iZ (-1))), some (aI (iZ 60)), some (aI (iZ 0)), none], [], am_hp σ1, t)) rfl rfl ?_
  exact w2

theorem bx_X11_bestRemove_0_1 {x1 : Int} {E : Nat} {σ σ1 : SG} {t t' : KT} (c1 : Ca d 138 [aR (some (1, 0, 0)), aI (iZ x1)] (am_hp σ) t (.inr E, am_hp σ1, t')) (q2 : Q (.inr E, am_hp σ1, t')) : Wp k_X11_bestRemove d (0, [some (aR (some (1, 0, 0))), some (aI (iZ x1)), none, none, none, none], [], am_hp σ, t) Q := by
  refine w_s (c' := (1, [some (aR (some (1, 0, 0))), some (aI (iZ x1)), none, none, none, none], [aR (some (1, 0, 0))], am_hp σ, t)) rfl rfl ?_
  refine w_s (c' := (2, [some (aR (some (1, 0, 0))), some (aI (iZ x1)), none, none, none, none], [aI (iZ x1), aR (some (1, 0, 0))], am_hp σ, t)) rfl rfl ?_
  exact w_x rfl rfl (rcv_of (hp_1 _ 0)) rfl c1 (Nat.le_refl _) rfl q2

theorem e_X11_bestRemove {x1 : Int} {h : AH} {t : KT} {d : Nat} {P : RS → Prop} (w : Wp k_X11_bestRemove d (0, [some (aR (some (1, 0, 0))), some (aI (iZ x1)), none, none, none, none], [], h, t) P) : ∃ r, Ca (d + 1) 118 [aR (some (1, 0, 0)), aI (iZ x1)] h t r ∧ P r := ca_W rfl rfl rfl rfl w

theorem b_X11_bestRemove_13 {x1 : Int} {x2 : Int} {x3 : Int} {x4 : Int} {u5 : Option AV} {σ : SG} {t : KT} (h1 : 0 ≤ x1 ∧ x1 < 4) (h2 : -2147483648 ≤ x4 ∧ x4 < 2147483648) (h3 : -2147483648 ≤ σ.1 (10, 0, 0) x1.toNat ∧ σ.1 (10, 0, 0) x1.toNat < 2147483648) (w4 : σ.1 (10, 0, 0) x1.toNat ≤ x4 → Wp k_X11_bestRemove d (96, [some (aR (some (1, 0, 0))), some (aI (iZ x1)), some (aI (iZ x2)), some (aI (iZ x3)), some (aI (iZ x4)), u5], [], am_hp σ, t) Q) (w5 : x4 < σ.1 (10, 0, 0) x1.toNat → Wp k_X11_bestRemove d (27, [some (aR (some (1, 0, 0))), some (aI (iZ x1)), some (aI (iZ x2)), some (aI (iZ x3)), some (aI (iZ x4)), u5], [], am_hp σ, t) Q) : Wp k_X11_bestRemove d (13, [some (aR (some (1, 0, 0))), some (aI (iZ x1)), some (aI (iZ x2)), some (aI (iZ x3)), some (aI (iZ x4)), u5], [], am_hp σ, t) Q := by
  refine w_s (c' := (15, [some (aR (some (1, 0, 0))), some (aI (iZ x1)), some (aI (iZ x2)), some (aI (iZ x3)), some (aI (iZ x4)), u5], [aI (iZ x4)], am_hp σ, t)) rfl rfl ?_
  refine w_s (c' := (16, [some (aR (some (1, 0, 0))), some (aI (iZ x1)), some (aI (iZ x2)), some (aI (iZ x3)), some (aI (iZ x4)), u5], [aR (some (1, 0, 0)), aI (iZ x4)], am_hp σ, t)) rfl rfl ?_
  refine w_get rfl (hp_1 _ 0) rfl rfl ?_
  refine w_get rfl (hp_8 _ 0) rfl rfl ?_
  refine w_s (c' := (23, [some (aR (some (1, 0, 0))), some (aI (iZ x1)), some (aI (iZ x2)), some (aI (iZ x3)), some (aI (iZ x4)), u5], [aI (iZ x1), aR (some (10, 0, 0)), aI (iZ x4)], am_hp σ, t)) rfl rfl ?_
  refine w_ial rfl (hp_10 _ 0 0) h1 rfl rfl ?_
  exact w_icge rfl h2 h3 rfl w4 w5

theorem b_X11_bestRemove_27 {x1 : Int} {x2 : Int} {x3 : Int} {x4 : Int} {u5 : Option AV} {r4 : Int} {σ σ1 σ2 σ3 σ4 : SG} {t : KT} (c1 : Ca d 22 [aR (some (18, 0, 0)), aR (some (8, 0, 0)), aI (iZ x1)] (am_hp σ) t (.inl none, am_hp σ1, t)) (c2 : Ca d 25 [aR (some (18, 0, 0)), aI (iZ x4)] (am_hp σ1) t (.inl none, am_hp σ2, t)) (c3 : Ca d 28 [aR (some (18, 0, 0)), aI (iZ (σ2.1 (8, 0, 0) 5)), aR (some (13, 0, 0))] (am_hp σ2) t (.inl none, am_hp σ3, t)) (c4 : Ca d 32 [aR (some (18, 0, 0))] (am_hp σ3) t (.inl (some (aI (iZ r4))), am_hp σ4, t)) (h5 : -2147483648 ≤ r4 ∧ r4 < 2147483648) (h6 : -2147483648 ≤ x3 ∧ x3 < 2147483648) (w7 : x3 ≤ r4 → Wp k_X11_bestRemove d (90, [some (aR (some (1, 0, 0))), some (aI (iZ x1)), some (aI (iZ x2)), some (aI (iZ x3)), some (aI (iZ x4)), some (aI (iZ r4))], [], am_hp σ4, t) Q) (w8 : r4 < x3 → Wp k_X11_bestRemove d (84, [some (aR (some (1, 0, 0))), some (aI (iZ x1)), some (aI (iZ x2)), some (aI (iZ x3)), some (aI (iZ x4)), some (aI (iZ r4))], [], am_hp σ4, t) Q) : Wp k_X11_bestRemove d (27, [some (aR (some (1, 0, 0))), some (aI (iZ x1)), some (aI (iZ x2)), some (aI (iZ x3)), some (aI (iZ x4)), u5], [], am_hp σ, t) Q := by
  refine w_s (c' := (28, [some (aR (some (1, 0, 0))), some (aI (iZ x1)), some (aI (iZ x2)), some (aI (iZ x3)), some (aI (iZ x4)), u5], [aR (some (1, 0, 0))], am_hp σ, t)) rfl rfl ?_
  refine w_get rfl (hp_1 _ 0) rfl rfl ?_
  refine w_s (c' := (32, [some (aR (some (1, 0, 0))), some (aI (iZ x1)), some (aI (iZ x2)), some (aI (iZ x3)), some (aI (iZ x4)), u5], [aR (some (1, 0, 0)), aR (some (18, 0, 0))], am_hp σ, t)) rfl rfl ?_
  refine w_get rfl (hp_1 _ 0) rfl rfl ?_
  refine w_s (c' := (36, [some (aR (some (1, 0, 0))), some (aI (iZ x1)), some (aI (iZ x2)), some (aI (iZ x3)), some (aI (iZ x4)), u5], [aI (iZ x1), aR (some (8, 0, 0)), aR (some (18, 0, 0))], am_hp σ, t)) rfl rfl ?_
  refine w_c0 (c' := (39, [some (aR (some (1, 0, 0))), some (aI (iZ x1)), some (aI (iZ x2)), some (aI (iZ x3)), some (aI (iZ x4)), u5], [], am_hp σ1, t)) rfl rfl (rcv_of (hp_18 _ 0)) rfl c1 (Nat.le_refl _) rfl ?_
  refine w_s (c' := (40, [some (aR (some (1, 0, 0))), some (aI (iZ x1)), some (aI (iZ x2)), some (aI (iZ x3)), some (aI (iZ x4)), u5], [aR (some (1, 0, 0))], am_hp σ1, t)) rfl rfl ?_
  refine w_get rfl (hp_1 _ 0) rfl rfl ?_
  refine w_s (c' := (45, [some (aR (some (1, 0, 0))), some (aI (iZ x1)), some (aI (iZ x2)), some (aI (iZ x3)), some (aI (iZ x4)), u5], [aI (iZ x4), aR (some (18, 0, 0))], am_hp σ1, t)) rfl rfl ?_
  refine w_c0 (c' := (48, [some (aR (some (1, 0, 0))), some (aI (iZ x1)), some (aI (iZ x2)), some (aI (iZ x3)), some (aI (iZ x4)), u5], [], am_hp σ2, t)) rfl rfl (rcv_of (hp_18 _ 0)) rfl c2 (Nat.le_refl _) rfl ?_
  refine w_s (c' := (49, [some (aR (some (1, 0, 0))), some (aI (iZ x1)), some (aI (iZ x2)), some (aI (iZ x3)), some (aI (iZ x4)), u5], [aR (some (1, 0, 0))], am_hp σ2, t)) rfl rfl ?_
  refine w_get rfl (hp_1 _ 0) rfl rfl ?_
  refine w_s (c' := (53, [some (aR (some (1, 0, 0))), some (aI (iZ x1)), some (aI (iZ x2)), some (aI (iZ x3)), some (aI (iZ x4)), u5], [aR (some (1, 0, 0)), aR (some (18, 0, 0))], am_hp σ2, t)) rfl rfl ?_
  refine w_get rfl (hp_1 _ 0) rfl rfl ?_
  refine w_get rfl (hp_8 _ 0) rfl rfl ?_
  refine w_s (c' := (60, [some (aR (some (1, 0, 0))), some (aI (iZ x1)), some (aI (iZ x2)), some (aI (iZ x3)), some (aI (iZ x4)), u5], [aR (some (1, 0, 0)), aI (iZ (σ2.1 (8, 0, 0) 5)), aR (some (18, 0, 0))], am_hp σ2, t)) rfl rfl ?_
  refine w_get rfl (hp_1 _ 0) rfl rfl ?_
  refine w_get rfl (hp_8 _ 0) rfl rfl ?_
  refine w_c0 (c' := (69, [some (aR (some (1, 0, 0))), some (aI (iZ x1)), some (aI (iZ x2)), some (aI (iZ x3)), some (aI (iZ x4)), u5], [], am_hp σ3, t)) rfl rfl (rcv_of (hp_18 _ 0)) rfl c3 (Nat.le_refl _) rfl ?_
  refine w_s (c' := (70, [some (aR (some (1, 0, 0))), some (aI (iZ x1)), some (aI (iZ x2)), some (aI (iZ x3)), some (aI (iZ x4)), u5], [aR (some (1, 0, 0))], am_hp σ3, t)) rfl rfl ?_
  refine w_get rfl (hp_1 _ 0) rfl rfl ?_
  refine w_c0 (c' := (76, [some (aR (some (1, 0, 0))), some (aI (iZ x1)), some (aI (iZ x2)), some (aI (iZ x3)), some (aI (iZ x4)), u5], [aI (iZ r4)], am_hp σ4, t)) rfl rfl (rcv_of (hp_18 _ 0)) rfl c4 (Nat.le_refl _) rfl ?_
  refine w_s (c' := (78, [some (aR (some (1, 0, 0))), some (aI (iZ x1)), some (aI (iZ x2)), some (aI (iZ x3)), some (aI (iZ x4)), some (aI (iZ r4))], [], am_hp σ4, t)) rfl rfl ?_
  refine w_s (c' := (80, [some (aR (some (1, 0, 0))), some (aI (iZ x1)), some (aI (iZ x2)), some (aI (iZ x3)), some (aI (iZ x4)), some (aI (iZ r4))], [aI (iZ r4)], am_hp σ4, t)) rfl rfl ?_
  refine w_s (c' := (81, [some (aR (some (1, 0, 0))), some (aI (iZ x1)), some (aI (iZ x2)), some (aI (iZ x3)), some (aI (iZ x4)), some (aI (iZ r4))], [aI (iZ x3), aI (iZ r4)], am_hp σ4, t)) rfl rfl ?_
  exact w_icge rfl h5 h6 rfl w7 w8

theorem b_X11_bestRemove_84 {x1 : Int} {x2 : Int} {x3 : Int} {x4 : Int} {x5 : Int} {σ : SG} {t : KT} (w1 : Wp k_X11_bestRemove d (90, [some (aR (some (1, 0, 0))), some (aI (iZ x1)), some (aI (iZ x4)), some (aI (iZ x5)), some (aI (iZ x4)), some (aI (iZ x5))], [], am_hp σ, t) Q) : Wp k_X11_bestRemove d (84, [some (aR (some (1, 0, 0))), some (aI (iZ x1)), some (aI (iZ x2)), some (aI (iZ x3)), some (aI (iZ x4)), some (aI (iZ x5))], [], am_hp σ, t) Q := by
  refine w_s (c' := (86, [some (aR (some (1, 0, 0))), some (aI (iZ x1)), some (aI (iZ x2)), some (aI (iZ x3)), some (aI (iZ x4)), some (aI (iZ x5))], [aI (iZ x4)], am_hp σ, t)) rfl rfl ?_
  refine w_s (c' := (87, [some (aR (some (1, 0, 0))), some (aI (iZ x1)), some (aI (iZ x4)), some (aI (iZ x3)), some (aI (iZ x4)), some (aI (iZ x5))], [], am_hp σ, t)) rfl rfl ?_
  refine w_s (c' := (89, [some (aR (some (1, 0, 0))), some (aI (iZ x1)), some (aI (iZ x4)), some (aI (iZ x3)), some (aI (iZ x4)), some (aI (iZ x5))], [aI (iZ x5)], am_hp σ, t)) rfl rfl ?_
  refine w_s (c' := (90, [some (aR (some (1, 0, 0))), some (aI (iZ x1)), some (aI (iZ x4)), some (aI (iZ x5)), some (aI (iZ x4)), some (aI (iZ x5))], [], am_hp σ, t)) rfl rfl ?_
  exact w1

theorem b_X11_bestRemove_90 {x1 : Int} {x2 : Int} {x3 : Int} {x4 : Int} {x5 : Int} {σ : SG} {t : KT} (w1 : Wp k_X11_bestRemove d (13, [some (aR (some (1, 0, 0))), some (aI (iZ x1)), some (aI (iZ x2)), some (aI (iZ x3)), some (aI (iZ (x4 + 1))), some (aI (iZ x5))], [], am_hp σ, t) Q) : Wp k_X11_bestRemove d (90, [some (aR (some (1, 0, 0))), some (aI (iZ x1)), some (aI (iZ x2)), some (aI (iZ x3)), some (aI (iZ x4)), some (aI (iZ x5))], [], am_hp σ, t) Q := by
  refine w_inc (a := x4) (ls' := [some (aR (some (1, 0, 0))), some (aI (iZ x1)), some (aI (iZ x2)), some (aI (iZ x3)), some (aI (iZ (x4 + 1))), some (aI (iZ x5))]) rfl rfl rfl zc_1 rfl rfl ?_
  refine w_s (c' := (13, [some (aR (some (1, 0, 0))), some (aI (iZ x1)), some (aI (iZ x2)), some (aI (iZ x3)), some (aI (iZ (x4 + 1))), some (aI (iZ x5))], [], am_hp σ, t)) rfl rfl ?_
  exact w1

theorem b_X11_bestRemove_96 {x1 : Int} {x2 : Int} {x3 : Int} {x4 : Int} {u5 : Option AV} {σ : SG} {t : KT} (q1 : Q (.inl (some (aI (iZ x2))), am_hp σ, t)) : Wp k_X11_bestRemove d (96, [some (aR (some (1, 0, 0))), some (aI (iZ x1)), some (aI (iZ x2)), some (aI (iZ x3)), some (aI (iZ x4)), u5], [], am_hp σ, t) Q := by
  refine w_s (c' := (97, [some (aR (some (1, 0, 0))), some (aI (iZ x1)), some (aI (iZ x2)), some (aI (iZ x3)), some (aI (iZ x4)), u5], [aI (iZ x2)], am_hp σ, t)) rfl rfl ?_
  exact w_ret rfl rfl q1

theorem b_X11_dearWay_0 {x1 : Int} {r4 : Int} {r6 : Int} {σ σ1 σ2 σ3 σ4 σ5 σ6 : SG} {t : KT} (c1 : Ca d 138 [aR (some (1, 0, 0)), aI (iZ x1)] (am_hp σ) t (.inl none, am_hp σ1, t)) (c2 : Ca d 22 [aR (some (18, 0, 0)), aR (some (8, 0, 0)), aI (iZ x1)] (am_hp σ1) t (.inl none, am_hp σ2, t)) (c3 : Ca d 28 [aR (some (18, 0, 0)), aI (iZ 1), aR (some (13, 0, 0))] (am_hp σ2) t (.inl none, am_hp σ3, t)) (c4 : Ca d 32 [aR (some (18, 0, 0))] (am_hp σ3) t (.inl (some (aI (iZ r4))), am_hp σ4, t)) (c5 : Ca d 28 [aR (some (18, 0, 0)), aI (iZ 2), aR (some (13, 0, 0))] (am_hp σ4) t (.inl none, am_hp σ5, t)) (c6 : Ca d 32 [aR (some (18, 0, 0))] (am_hp σ5) t (.inl (some (aI (iZ r6))), am_hp σ6, t)) (h7 : -2147483648 ≤ r6 ∧ r6 < 2147483648) (h8 : -2147483648 ≤ r4 ∧ r4 < 2147483648) (w9 : r6 ≠ r4 → Wp k_X11_dearWay d (70, [some (aR (some (1, 0, 0))), some (aI (iZ x1)), some (aI (iZ r4)), some (aI (iZ r6)), none], [], am_hp σ6, t) Q) (w10 : r6 = r4 → Wp k_X11_dearWay d (68, [some (aR (some (1, 0, 0))), some (aI (iZ x1)), some (aI (iZ r4)), some (aI (iZ r6)), none], [], am_hp σ6, t) Q) : Wp k_X11_dearWay d (0, [some (aR (some (1, 0, 0))), some (aI (iZ x1)), none, none, none], [], am_hp σ, t) Q := by
  refine w_s (c' := (1, [some (aR (some (1, 0, 0))), some (aI (iZ x1)), none, none, none], [aR (some (1, 0, 0))], am_hp σ, t)) rfl rfl ?_
  refine w_s (c' := (2, [some (aR (some (1, 0, 0))), some (aI (iZ x1)), none, none, none], [aI (iZ x1), aR (some (1, 0, 0))], am_hp σ, t)) rfl rfl ?_
  refine w_c0 (c' := (5, [some (aR (some (1, 0, 0))), some (aI (iZ x1)), none, none, none], [], am_hp σ1, t)) rfl rfl (rcv_of (hp_1 _ 0)) rfl c1 (Nat.le_refl _) rfl ?_
  refine w_s (c' := (6, [some (aR (some (1, 0, 0))), some (aI (iZ x1)), none, none, none], [aR (some (1, 0, 0))], am_hp σ1, t)) rfl rfl ?_
  refine w_get rfl (hp_1 _ 0) rfl rfl ?_
  refine w_s (c' := (10, [some (aR (some (1, 0, 0))), some (aI (iZ x1)), none, none, none], [aR (some (1, 0, 0)), aR (some (18, 0, 0))], am_hp σ1, t)) rfl rfl ?_
  refine w_get rfl (hp_1 _ 0) rfl rfl ?_
  refine w_s (c' := (14, [some (aR (some (1, 0, 0))), some (aI (iZ x1)), none, none, none], [aI (iZ x1), aR (some (8, 0, 0)), aR (some (18, 0, 0))], am_hp σ1, t)) rfl rfl ?_
  refine w_c0 (c' := (17, [some (aR (some (1, 0, 0))), some (aI (iZ x1)), none, none, none], [], am_hp σ2, t)) rfl rfl (rcv_of (hp_18 _ 0)) rfl c2 (Nat.le_refl _) rfl ?_
  refine w_s (c' := (18, [some (aR (some (1, 0, 0))), some (aI (iZ x1)), none, none, none], [aR (some (1, 0, 0))], am_hp σ2, t)) rfl rfl ?_
  refine w_get rfl (hp_1 _ 0) rfl rfl ?_
  refine w_psh rfl zc_1 rfl ?_
  refine w_s (c' := (23, [some (aR (some (1, 0, 0))), some (aI (iZ x1)), none, none, none], [aR (some (1, 0, 0)), aI (iZ 1), aR (some (18, 0, 0))], am_hp σ2, t)) rfl rfl ?_
  refine w_get rfl (hp_1 _ 0) rfl rfl ?_
  refine w_get rfl (hp_8 _ 0) rfl rfl ?_
  refine w_c0 (c' := (32, [some (aR (some (1, 0, 0))), some (aI (iZ x1)), none, none, none], [], am_hp σ3, t)) rfl rfl (rcv_of (hp_18 _ 0)) rfl c3 (Nat.le_refl _) rfl ?_
  refine w_s (c' := (33, [some (aR (some (1, 0, 0))), some (aI (iZ x1)), none, none, none], [aR (some (1, 0, 0))], am_hp σ3, t)) rfl rfl ?_
  refine w_get rfl (hp_1 _ 0) rfl rfl ?_
  refine w_c0 (c' := (39, [some (aR (some (1, 0, 0))), some (aI (iZ x1)), none, none, none], [aI (iZ r4)], am_hp σ4, t)) rfl rfl (rcv_of (hp_18 _ 0)) rfl c4 (Nat.le_refl _) rfl ?_
  refine w_s (c' := (40, [some (aR (some (1, 0, 0))), some (aI (iZ x1)), some (aI (iZ r4)), none, none], [], am_hp σ4, t)) rfl rfl ?_
  refine w_s (c' := (41, [some (aR (some (1, 0, 0))), some (aI (iZ x1)), some (aI (iZ r4)), none, none], [aR (some (1, 0, 0))], am_hp σ4, t)) rfl rfl ?_
  refine w_get rfl (hp_1 _ 0) rfl rfl ?_
  refine w_psh rfl zc_2 rfl ?_
  refine w_s (c' := (46, [some (aR (some (1, 0, 0))), some (aI (iZ x1)), some (aI (iZ r4)), none, none], [aR (some (1, 0, 0)), aI (iZ 2), aR (some (18, 0, 0))], am_hp σ4, t)) rfl rfl ?_
  refine w_get rfl (hp_1 _ 0) rfl rfl ?_
  refine w_get rfl (hp_8 _ 0) rfl rfl ?_
  refine w_c0 (c' := (55, [some (aR (some (1, 0, 0))), some (aI (iZ x1)), some (aI (iZ r4)), none, none], [], am_hp σ5, t)) rfl rfl (rcv_of (hp_18 _ 0)) rfl c5 (Nat.le_refl _) rfl ?_
  refine w_s (c' := (56, [some (aR (some (1, 0, 0))), some (aI (iZ x1)), some (aI (iZ r4)), none, none], [aR (some (1, 0, 0))], am_hp σ5, t)) rfl rfl ?_
  refine w_get rfl (hp_1 _ 0) rfl rfl ?_
  refine w_c0 (c' := (62, [some (aR (some (1, 0, 0))), some (aI (iZ x1)), some (aI (iZ r4)), none, none], [aI (iZ r6)], am_hp σ6, t)) rfl rfl (rcv_of (hp_18 _ 0)) rfl c6 (Nat.le_refl _) rfl ?_
  refine w_s (c' := (63, [some (aR (some (1, 0, 0))), some (aI (iZ x1)), some (aI (iZ r4)), some (aI (iZ r6)), none], [], am_hp σ6, t)) rfl rfl ?_
  refine w_s (c' := (64, [some (aR (some (1, 0, 0))), some (aI (iZ x1)), some (aI (iZ r4)), some (aI (iZ r6)), none], [aI (iZ r6)], am_hp σ6, t)) rfl rfl ?_
  refine w_s (c' := (65, [some (aR (some (1, 0, 0))), some (aI (iZ x1)), some (aI (iZ r4)), some (aI (iZ r6)), none], [aI (iZ r4), aI (iZ r6)], am_hp σ6, t)) rfl rfl ?_
  exact w_icne rfl h7 h8 rfl w9 w10

theorem bx_X11_dearWay_0_1 {x1 : Int} {E : Nat} {σ σ1 σ2 σ3 σ4 σ5 σ6 : SG} {t t' : KT} (c1 : Ca d 138 [aR (some (1, 0, 0)), aI (iZ x1)] (am_hp σ) t (.inr E, am_hp σ1, t')) (q2 : Q (.inr E, am_hp σ1, t')) : Wp k_X11_dearWay d (0, [some (aR (some (1, 0, 0))), some (aI (iZ x1)), none, none, none], [], am_hp σ, t) Q := by
  refine w_s (c' := (1, [some (aR (some (1, 0, 0))), some (aI (iZ x1)), none, none, none], [aR (some (1, 0, 0))], am_hp σ, t)) rfl rfl ?_
  refine w_s (c' := (2, [some (aR (some (1, 0, 0))), some (aI (iZ x1)), none, none, none], [aI (iZ x1), aR (some (1, 0, 0))], am_hp σ, t)) rfl rfl ?_
  exact w_x rfl rfl (rcv_of (hp_1 _ 0)) rfl c1 (Nat.le_refl _) rfl q2

theorem e_X11_dearWay {x1 : Int} {h : AH} {t : KT} {d : Nat} {P : RS → Prop} (w : Wp k_X11_dearWay d (0, [some (aR (some (1, 0, 0))), some (aI (iZ x1)), none, none, none], [], h, t) P) : ∃ r, Ca (d + 1) 119 [aR (some (1, 0, 0)), aI (iZ x1)] h t r ∧ P r := ca_W rfl rfl rfl rfl w

theorem b_X11_dearWay_68 {x1 : Int} {x2 : Int} {x3 : Int} {σ : SG} {t : KT} (q1 : Q (.inl (some (aI (iZ (-1)))), am_hp σ, t)) : Wp k_X11_dearWay d (68, [some (aR (some (1, 0, 0))), some (aI (iZ x1)), some (aI (iZ x2)), some (aI (iZ x3)), none], [], am_hp σ, t) Q := by
  refine w_psh rfl zc_m1 rfl ?_
  exact w_ret rfl rfl q1

theorem b_X11_dearWay_70 {x1 : Int} {x2 : Int} {x3 : Int} {σ : SG} {t : KT} (w1 : Wp k_X11_dearWay d (73, [some (aR (some (1, 0, 0))), some (aI (iZ x1)), some (aI (iZ x2)), some (aI (iZ x3)), some (aI (iZ 0))], [], am_hp σ, t) Q) : Wp k_X11_dearWay d (70, [some (aR (some (1, 0, 0))), some (aI (iZ x1)), some (aI (iZ x2)), some (aI (iZ x3)), none], [], am_hp σ, t) Q := by
  refine w_psh rfl zc_0 rfl ?_
  refine w_s (c' := (73, [some (aR (some (1, 0, 0))), some (aI (iZ x1)), some (aI (iZ x2)), some (aI (iZ x3)), some (aI (iZ 0))], [], am_hp σ, t)) rfl rfl ?_
  exact w1

theorem b_X11_dearWay_73 {x1 : Int} {x2 : Int} {x3 : Int} {x4 : Int} {σ : SG} {t : KT} (h1 : -2147483648 ≤ x4 ∧ x4 < 2147483648) (w2 : 9 ≤ x4 → Wp k_X11_dearWay d (102, [some (aR (some (1, 0, 0))), some (aI (iZ x1)), some (aI (iZ x2)), some (aI (iZ x3)), some (aI (iZ x4))], [], am_hp σ, t) Q) (w3 : x4 < 9 → Wp k_X11_dearWay d (80, [some (aR (some (1, 0, 0))), some (aI (iZ x1)), some (aI (iZ x2)), some (aI (iZ x3)), some (aI (iZ x4))], [], am_hp σ, t) Q) : Wp k_X11_dearWay d (73, [some (aR (some (1, 0, 0))), some (aI (iZ x1)), some (aI (iZ x2)), some (aI (iZ x3)), some (aI (iZ x4))], [], am_hp σ, t) Q := by
  refine w_s (c' := (75, [some (aR (some (1, 0, 0))), some (aI (iZ x1)), some (aI (iZ x2)), some (aI (iZ x3)), some (aI (iZ x4))], [aI (iZ x4)], am_hp σ, t)) rfl rfl ?_
  refine w_psh rfl zc_9 rfl ?_
  exact w_icge rfl h1 (by decide) rfl w2 w3

theorem b_X11_dearWay_80 {x1 : Int} {x2 : Int} {x3 : Int} {x4 : Int} {r1 : Int} {σ σ1 : SG} {t : KT} (c1 : Ca d 31 [aR (some (18, 0, 0)), aI (iZ x3), aI (iZ x4)] (am_hp σ) t (.inl (some (aI (iZ r1))), am_hp σ1, t)) (h2 : -2147483648 ≤ r1 ∧ r1 < 2147483648) (w3 : r1 = 0 → Wp k_X11_dearWay d (96, [some (aR (some (1, 0, 0))), some (aI (iZ x1)), some (aI (iZ x2)), some (aI (iZ x3)), some (aI (iZ x4))], [], am_hp σ1, t) Q) (w4 : r1 ≠ 0 → Wp k_X11_dearWay d (93, [some (aR (some (1, 0, 0))), some (aI (iZ x1)), some (aI (iZ x2)), some (aI (iZ x3)), some (aI (iZ x4))], [], am_hp σ1, t) Q) : Wp k_X11_dearWay d (80, [some (aR (some (1, 0, 0))), some (aI (iZ x1)), some (aI (iZ x2)), some (aI (iZ x3)), some (aI (iZ x4))], [], am_hp σ, t) Q := by
  refine w_s (c' := (81, [some (aR (some (1, 0, 0))), some (aI (iZ x1)), some (aI (iZ x2)), some (aI (iZ x3)), some (aI (iZ x4))], [aR (some (1, 0, 0))], am_hp σ, t)) rfl rfl ?_
  refine w_get rfl (hp_1 _ 0) rfl rfl ?_
  refine w_s (c' := (85, [some (aR (some (1, 0, 0))), some (aI (iZ x1)), some (aI (iZ x2)), some (aI (iZ x3)), some (aI (iZ x4))], [aI (iZ x3), aR (some (18, 0, 0))], am_hp σ, t)) rfl rfl ?_
  refine w_s (c' := (87, [some (aR (some (1, 0, 0))), some (aI (iZ x1)), some (aI (iZ x2)), some (aI (iZ x3)), some (aI (iZ x4))], [aI (iZ x4), aI (iZ x3), aR (some (18, 0, 0))], am_hp σ, t)) rfl rfl ?_
  refine w_c0 (c' := (90, [some (aR (some (1, 0, 0))), some (aI (iZ x1)), some (aI (iZ x2)), some (aI (iZ x3)), some (aI (iZ x4))], [aI (iZ r1)], am_hp σ1, t)) rfl rfl (rcv_of (hp_18 _ 0)) rfl c1 (Nat.le_refl _) rfl ?_
  exact w_ifeq rfl h2 rfl w3 w4

theorem b_X11_dearWay_93 {x1 : Int} {x2 : Int} {x3 : Int} {x4 : Int} {σ : SG} {t : KT} (q1 : Q (.inl (some (aI (iZ x4))), am_hp σ, t)) : Wp k_X11_dearWay d (93, [some (aR (some (1, 0, 0))), some (aI (iZ x1)), some (aI (iZ x2)), some (aI (iZ x3)), some (aI (iZ x4))], [], am_hp σ, t) Q := by
  refine w_s (c' := (95, [some (aR (some (1, 0, 0))), some (aI (iZ x1)), some (aI (iZ x2)), some (aI (iZ x3)), some (aI (iZ x4))], [aI (iZ x4)], am_hp σ, t)) rfl rfl ?_
  exact w_ret rfl rfl q1

theorem b_X11_dearWay_96 {x1 : Int} {x2 : Int} {x3 : Int} {x4 : Int} {σ : SG} {t : KT} (w1 : Wp k_X11_dearWay d (73, [some (aR (some (1, 0, 0))), some (aI (iZ x1)), some (aI (iZ x2)), some (aI (iZ x3)), some (aI (iZ (x4 + 1)))], [], am_hp σ, t) Q) : Wp k_X11_dearWay d (96, [some (aR (some (1, 0, 0))), some (aI (iZ x1)), some (aI (iZ x2)), some (aI (iZ x3)), some (aI (iZ x4))], [], am_hp σ, t) Q := by
  refine w_inc (a := x4) (ls' := [some (aR (some (1, 0, 0))), some (aI (iZ x1)), some (aI (iZ x2)), some (aI (iZ x3)), some (aI (iZ (x4 + 1)))]) rfl rfl rfl zc_1 rfl rfl ?_
  refine w_s (c' := (73, [some (aR (some (1, 0, 0))), some (aI (iZ x1)), some (aI (iZ x2)), some (aI (iZ x3)), some (aI (iZ (x4 + 1)))], [], am_hp σ, t)) rfl rfl ?_
  exact w1

theorem b_X11_dearWay_102 {x1 : Int} {x2 : Int} {x3 : Int} {x4 : Int} {σ : SG} {t : KT} (q1 : Q (.inl (some (aI (iZ (-1)))), am_hp σ, t)) : Wp k_X11_dearWay d (102, [some (aR (some (1, 0, 0))), some (aI (iZ x1)), some (aI (iZ x2)), some (aI (iZ x3)), some (aI (iZ x4))], [], am_hp σ, t) Q := by
  refine w_psh rfl zc_m1 rfl ?_
  exact w_ret rfl rfl q1

theorem b_X11_wordsTogether_0 {x1 : Int} {x2 : Int} {r6 : Int} {σ σ1 σ2 σ3 σ4 σ5 σ6 : SG} {t : KT} (c1 : Ca d 138 [aR (some (1, 0, 0)), aI (iZ x1)] (am_hp σ) t (.inl none, am_hp σ1, t)) (c2 : Ca d 138 [aR (some (1, 0, 0)), aI (iZ x2)] (am_hp σ1) t (.inl none, am_hp σ2, t)) (c3 : Ca d 22 [aR (some (18, 0, 0)), aR (some (8, 0, 0)), aI (iZ x1)] (am_hp σ2) t (.inl none, am_hp σ3, t)) (c4 : Ca d 23 [aR (some (18, 0, 0)), aR (some (8, 0, 0)), aI (iZ x2)] (am_hp σ3) t (.inl none, am_hp σ4, t)) (c5 : Ca d 28 [aR (some (18, 0, 0)), aI (iZ (σ4.1 (8, 0, 0) 5)), aR (some (13, 0, 0))] (am_hp σ4) t (.inl none, am_hp σ5, t)) (c6 : Ca d 32 [aR (some (18, 0, 0))] (am_hp σ5) t (.inl (some (aI (iZ r6))), am_hp σ6, t)) (q7 : Q (.inl (some (aI (iZ r6))), am_hp σ6, t)) : Wp k_X11_wordsTogether d (0, [some (aR (some (1, 0, 0))), some (aI (iZ x1)), some (aI (iZ x2))], [], am_hp σ, t) Q := by
  refine w_s (c' := (1, [some (aR (some (1, 0, 0))), some (aI (iZ x1)), some (aI (iZ x2))], [aR (some (1, 0, 0))], am_hp σ, t)) rfl rfl ?_
  refine w_s (c' := (2, [some (aR (some (1, 0, 0))), some (aI (iZ x1)), some (aI (iZ x2))], [aI (iZ x1), aR (some (1, 0, 0))], am_hp σ, t)) rfl rfl ?_
  refine w_c0 (c' := (5, [some (aR (some (1, 0, 0))), some (aI (iZ x1)), some (aI (iZ x2))], [], am_hp σ1, t)) rfl rfl (rcv_of (hp_1 _ 0)) rfl c1 (Nat.le_refl _) rfl ?_
  refine w_s (c' := (6, [some (aR (some (1, 0, 0))), some (aI (iZ x1)), some (aI (iZ x2))], [aR (some (1, 0, 0))], am_hp σ1, t)) rfl rfl ?_
  refine w_s (c' := (7, [some (aR (some (1, 0, 0))), some (aI (iZ x1)), some (aI (iZ x2))], [aI (iZ x2), aR (some (1, 0, 0))], am_hp σ1, t)) rfl rfl ?_
  refine w_c0 (c' := (10, [some (aR (some (1, 0, 0))), some (aI (iZ x1)), some (aI (iZ x2))], [], am_hp σ2, t)) rfl rfl (rcv_of (hp_1 _ 0)) rfl c2 (Nat.le_refl _) rfl ?_
  refine w_s (c' := (11, [some (aR (some (1, 0, 0))), some (aI (iZ x1)), some (aI (iZ x2))], [aR (some (1, 0, 0))], am_hp σ2, t)) rfl rfl ?_
  refine w_get rfl (hp_1 _ 0) rfl rfl ?_
  refine w_s (c' := (15, [some (aR (some (1, 0, 0))), some (aI (iZ x1)), some (aI (iZ x2))], [aR (some (1, 0, 0)), aR (some (18, 0, 0))], am_hp σ2, t)) rfl rfl ?_
  refine w_get rfl (hp_1 _ 0) rfl rfl ?_
  refine w_s (c' := (19, [some (aR (some (1, 0, 0))), some (aI (iZ x1)), some (aI (iZ x2))], [aI (iZ x1), aR (some (8, 0, 0)), aR (some (18, 0, 0))], am_hp σ2, t)) rfl rfl ?_
  refine w_c0 (c' := (22, [some (aR (some (1, 0, 0))), some (aI (iZ x1)), some (aI (iZ x2))], [], am_hp σ3, t)) rfl rfl (rcv_of (hp_18 _ 0)) rfl c3 (Nat.le_refl _) rfl ?_
  refine w_s (c' := (23, [some (aR (some (1, 0, 0))), some (aI (iZ x1)), some (aI (iZ x2))], [aR (some (1, 0, 0))], am_hp σ3, t)) rfl rfl ?_
  refine w_get rfl (hp_1 _ 0) rfl rfl ?_
  refine w_s (c' := (27, [some (aR (some (1, 0, 0))), some (aI (iZ x1)), some (aI (iZ x2))], [aR (some (1, 0, 0)), aR (some (18, 0, 0))], am_hp σ3, t)) rfl rfl ?_
  refine w_get rfl (hp_1 _ 0) rfl rfl ?_
  refine w_s (c' := (31, [some (aR (some (1, 0, 0))), some (aI (iZ x1)), some (aI (iZ x2))], [aI (iZ x2), aR (some (8, 0, 0)), aR (some (18, 0, 0))], am_hp σ3, t)) rfl rfl ?_
  refine w_c0 (c' := (34, [some (aR (some (1, 0, 0))), some (aI (iZ x1)), some (aI (iZ x2))], [], am_hp σ4, t)) rfl rfl (rcv_of (hp_18 _ 0)) rfl c4 (Nat.le_refl _) rfl ?_
  refine w_s (c' := (35, [some (aR (some (1, 0, 0))), some (aI (iZ x1)), some (aI (iZ x2))], [aR (some (1, 0, 0))], am_hp σ4, t)) rfl rfl ?_
  refine w_get rfl (hp_1 _ 0) rfl rfl ?_
  refine w_s (c' := (39, [some (aR (some (1, 0, 0))), some (aI (iZ x1)), some (aI (iZ x2))], [aR (some (1, 0, 0)), aR (some (18, 0, 0))], am_hp σ4, t)) rfl rfl ?_
  refine w_get rfl (hp_1 _ 0) rfl rfl ?_
  refine w_get rfl (hp_8 _ 0) rfl rfl ?_
  refine w_s (c' := (46, [some (aR (some (1, 0, 0))), some (aI (iZ x1)), some (aI (iZ x2))], [aR (some (1, 0, 0)), aI (iZ (σ4.1 (8, 0, 0) 5)), aR (some (18, 0, 0))], am_hp σ4, t)) rfl rfl ?_
  refine w_get rfl (hp_1 _ 0) rfl rfl ?_
  refine w_get rfl (hp_8 _ 0) rfl rfl ?_
  refine w_c0 (c' := (55, [some (aR (some (1, 0, 0))), some (aI (iZ x1)), some (aI (iZ x2))], [], am_hp σ5, t)) rfl rfl (rcv_of (hp_18 _ 0)) rfl c5 (Nat.le_refl _) rfl ?_
  refine w_s (c' := (56, [some (aR (some (1, 0, 0))), some (aI (iZ x1)), some (aI (iZ x2))], [aR (some (1, 0, 0))], am_hp σ5, t)) rfl rfl ?_
  refine w_get rfl (hp_1 _ 0) rfl rfl ?_
  refine w_c0 (c' := (62, [some (aR (some (1, 0, 0))), some (aI (iZ x1)), some (aI (iZ x2))], [aI (iZ r6)], am_hp σ6, t)) rfl rfl (rcv_of (hp_18 _ 0)) rfl c6 (Nat.le_refl _) rfl ?_
  exact w_ret rfl rfl q7

theorem bx_X11_wordsTogether_0_1 {x1 : Int} {x2 : Int} {E : Nat} {σ σ1 σ2 σ3 σ4 σ5 σ6 : SG} {t t' : KT} (c1 : Ca d 138 [aR (some (1, 0, 0)), aI (iZ x1)] (am_hp σ) t (.inr E, am_hp σ1, t')) (q2 : Q (.inr E, am_hp σ1, t')) : Wp k_X11_wordsTogether d (0, [some (aR (some (1, 0, 0))), some (aI (iZ x1)), some (aI (iZ x2))], [], am_hp σ, t) Q := by
  refine w_s (c' := (1, [some (aR (some (1, 0, 0))), some (aI (iZ x1)), some (aI (iZ x2))], [aR (some (1, 0, 0))], am_hp σ, t)) rfl rfl ?_
  refine w_s (c' := (2, [some (aR (some (1, 0, 0))), some (aI (iZ x1)), some (aI (iZ x2))], [aI (iZ x1), aR (some (1, 0, 0))], am_hp σ, t)) rfl rfl ?_
  exact w_x rfl rfl (rcv_of (hp_1 _ 0)) rfl c1 (Nat.le_refl _) rfl q2

theorem bx_X11_wordsTogether_0_2 {x1 : Int} {x2 : Int} {E : Nat} {σ σ1 σ2 σ3 σ4 σ5 σ6 : SG} {t t' : KT} (c1 : Ca d 138 [aR (some (1, 0, 0)), aI (iZ x1)] (am_hp σ) t (.inl none, am_hp σ1, t)) (c2 : Ca d 138 [aR (some (1, 0, 0)), aI (iZ x2)] (am_hp σ1) t (.inr E, am_hp σ2, t')) (q3 : Q (.inr E, am_hp σ2, t')) : Wp k_X11_wordsTogether d (0, [some (aR (some (1, 0, 0))), some (aI (iZ x1)), some (aI (iZ x2))], [], am_hp σ, t) Q := by
  refine w_s (c' := (1, [some (aR (some (1, 0, 0))), some (aI (iZ x1)), some (aI (iZ x2))], [aR (some (1, 0, 0))], am_hp σ, t)) rfl rfl ?_
  refine w_s (c' := (2, [some (aR (some (1, 0, 0))), some (aI (iZ x1)), some (aI (iZ x2))], [aI (iZ x1), aR (some (1, 0, 0))], am_hp σ, t)) rfl rfl ?_
  refine w_c0 (c' := (5, [some (aR (some (1, 0, 0))), some (aI (iZ x1)), some (aI (iZ x2))], [], am_hp σ1, t)) rfl rfl (rcv_of (hp_1 _ 0)) rfl c1 (Nat.le_refl _) rfl ?_
  refine w_s (c' := (6, [some (aR (some (1, 0, 0))), some (aI (iZ x1)), some (aI (iZ x2))], [aR (some (1, 0, 0))], am_hp σ1, t)) rfl rfl ?_
  refine w_s (c' := (7, [some (aR (some (1, 0, 0))), some (aI (iZ x1)), some (aI (iZ x2))], [aI (iZ x2), aR (some (1, 0, 0))], am_hp σ1, t)) rfl rfl ?_
  exact w_x rfl rfl (rcv_of (hp_1 _ 0)) rfl c2 (Nat.le_refl _) rfl q3

theorem e_X11_wordsTogether {x1 : Int} {x2 : Int} {h : AH} {t : KT} {d : Nat} {P : RS → Prop} (w : Wp k_X11_wordsTogether d (0, [some (aR (some (1, 0, 0))), some (aI (iZ x1)), some (aI (iZ x2))], [], h, t) P) : ∃ r, Ca (d + 1) 120 [aR (some (1, 0, 0)), aI (iZ x1), aI (iZ x2)] h t r ∧ P r := ca_W rfl rfl rfl rfl w

theorem b_X11_bestSkip_0 {x1 : Int} {σ σ1 : SG} {t : KT} (c1 : Ca d 138 [aR (some (1, 0, 0)), aI (iZ x1)] (am_hp σ) t (.inl none, am_hp σ1, t)) (h2 : 0 ≤ x1 ∧ x1 < 4) (h3 : -2147483648 ≤ σ1.1 (10, 0, 0) x1.toNat ∧ σ1.1 (10, 0, 0) x1.toNat < 2147483648) (w4 : σ1.1 (10, 0, 0) x1.toNat ≠ 0 → Wp k_X11_bestSkip d (21, [some (aR (some (1, 0, 0))), some (aI (iZ x1)), some (aI (iZ (σ1.1 (10, 0, 0) x1.toNat))), none, none, none, none], [], am_hp σ1, t) Q) (w5 : σ1.1 (10, 0, 0) x1.toNat = 0 → Wp k_X11_bestSkip d (19, [some (aR (some (1, 0, 0))), some (aI (iZ x1)), some (aI (iZ (σ1.1 (10, 0, 0) x1.toNat))), none, none, none, none], [], am_hp σ1, t) Q) : Wp k_X11_bestSkip d (0, [some (aR (some (1, 0, 0))), some (aI (iZ x1)), none, none, none, none, none], [], am_hp σ, t) Q := by
  refine w_s (c' := (1, [some (aR (some (1, 0, 0))), some (aI (iZ x1)), none, none, none, none, none], [aR (some (1, 0, 0))], am_hp σ, t)) rfl rfl ?_
  refine w_s (c' := (2, [some (aR (some (1, 0, 0))), some (aI (iZ x1)), none, none, none, none, none], [aI (iZ x1), aR (some (1, 0, 0))], am_hp σ, t)) rfl rfl ?_
  refine w_c0 (c' := (5, [some (aR (some (1, 0, 0))), some (aI (iZ x1)), none, none, none, none, none], [], am_hp σ1, t)) rfl rfl (rcv_of (hp_1 _ 0)) rfl c1 (Nat.le_refl _) rfl ?_
  refine w_s (c' := (6, [some (aR (some (1, 0, 0))), some (aI (iZ x1)), none, none, none, none, none], [aR (some (1, 0, 0))], am_hp σ1, t)) rfl rfl ?_
  refine w_get rfl (hp_1 _ 0) rfl rfl ?_
  refine w_get rfl (hp_8 _ 0) rfl rfl ?_
  refine w_s (c' := (13, [some (aR (some (1, 0, 0))), some (aI (iZ x1)), none, none, none, none, none], [aI (iZ x1), aR (some (10, 0, 0))], am_hp σ1, t)) rfl rfl ?_
  refine w_ial rfl (hp_10 _ 0 0) h2 rfl rfl ?_
  refine w_s (c' := (15, [some (aR (some (1, 0, 0))), some (aI (iZ x1)), some (aI (iZ (σ1.1 (10, 0, 0) x1.toNat))), none, none, none, none], [], am_hp σ1, t)) rfl rfl ?_
  refine w_s (c' := (16, [some (aR (some (1, 0, 0))), some (aI (iZ x1)), some (aI (iZ (σ1.1 (10, 0, 0) x1.toNat))), none, none, none, none], [aI (iZ (σ1.1 (10, 0, 0) x1.toNat))], am_hp σ1, t)) rfl rfl ?_
  exact w_ifne rfl h3 rfl w4 w5

theorem bx_X11_bestSkip_0_1 {x1 : Int} {E : Nat} {σ σ1 : SG} {t t' : KT} (c1 : Ca d 138 [aR (some (1, 0, 0)), aI (iZ x1)] (am_hp σ) t (.inr E, am_hp σ1, t')) (q2 : Q (.inr E, am_hp σ1, t')) : Wp k_X11_bestSkip d (0, [some (aR (some (1, 0, 0))), some (aI (iZ x1)), none, none, none, none, none], [], am_hp σ, t) Q := by
  refine w_s (c' := (1, [some (aR (some (1, 0, 0))), some (aI (iZ x1)), none, none, none, none, none], [aR (some (1, 0, 0))], am_hp σ, t)) rfl rfl ?_
  refine w_s (c' := (2, [some (aR (some (1, 0, 0))), some (aI (iZ x1)), none, none, none, none, none], [aI (iZ x1), aR (some (1, 0, 0))], am_hp σ, t)) rfl rfl ?_
  exact w_x rfl rfl (rcv_of (hp_1 _ 0)) rfl c1 (Nat.le_refl _) rfl q2

theorem e_X11_bestSkip {x1 : Int} {h : AH} {t : KT} {d : Nat} {P : RS → Prop} (w : Wp k_X11_bestSkip d (0, [some (aR (some (1, 0, 0))), some (aI (iZ x1)), none, none, none, none, none], [], h, t) P) : ∃ r, Ca (d + 1) 121 [aR (some (1, 0, 0)), aI (iZ x1)] h t r ∧ P r := ca_W rfl rfl rfl rfl w

theorem b_X11_bestSkip_19 {x1 : Int} {x2 : Int} {σ : SG} {t : KT} (q1 : Q (.inl (some (aI (iZ (-1)))), am_hp σ, t)) : Wp k_X11_bestSkip d (19, [some (aR (some (1, 0, 0))), some (aI (iZ x1)), some (aI (iZ x2)), none, none, none, none], [], am_hp σ, t) Q := by
  refine w_psh rfl zc_m1 rfl ?_
  exact w_ret rfl rfl q1

theorem b_X11_bestSkip_21 {x1 : Int} {x2 : Int} {r1 : Int} {σ σ1 : SG} {t : KT} (c1 : Ca d 159 [aR (some (1, 0, 0)), aI (iZ x1), aI (iZ 1)] (am_hp σ) t (.inl (some (aI (iZ r1))), am_hp σ1, t)) (w2 : Wp k_X11_bestSkip d (34, [some (aR (some (1, 0, 0))), some (aI (iZ x1)), some (aI (iZ x2)), some (aI (iZ 1)), some (aI (iZ r1)), some (aI (iZ 2)), none], [], am_hp σ1, t) Q) : Wp k_X11_bestSkip d (21, [some (aR (some (1, 0, 0))), some (aI (iZ x1)), some (aI (iZ x2)), none, none, none, none], [], am_hp σ, t) Q := by
  refine w_psh rfl zc_1 rfl ?_
  refine w_s (c' := (23, [some (aR (some (1, 0, 0))), some (aI (iZ x1)), some (aI (iZ x2)), some (aI (iZ 1)), none, none, none], [], am_hp σ, t)) rfl rfl ?_
  refine w_s (c' := (24, [some (aR (some (1, 0, 0))), some (aI (iZ x1)), some (aI (iZ x2)), some (aI (iZ 1)), none, none, none], [aR (some (1, 0, 0))], am_hp σ, t)) rfl rfl ?_
  refine w_s (c' := (25, [some (aR (some (1, 0, 0))), some (aI (iZ x1)), some (aI (iZ x2)), some (aI (iZ 1)), none, none, none], [aI (iZ x1), aR (some (1, 0, 0))], am_hp σ, t)) rfl rfl ?_
  refine w_psh rfl zc_1 rfl ?_
  refine w_c0 (c' := (29, [some (aR (some (1, 0, 0))), some (aI (iZ x1)), some (aI (iZ x2)), some (aI (iZ 1)), none, none, none], [aI (iZ r1)], am_hp σ1, t)) rfl rfl (rcv_of (hp_1 _ 0)) rfl c1 (Nat.le_refl _) rfl ?_
  refine w_s (c' := (31, [some (aR (some (1, 0, 0))), some (aI (iZ x1)), some (aI (iZ x2)), some (aI (iZ 1)), some (aI (iZ r1)), none, none], [], am_hp σ1, t)) rfl rfl ?_
  refine w_psh rfl zc_2 rfl ?_
  refine w_s (c' := (34, [some (aR (some (1, 0, 0))), some (aI (iZ x1)), some (aI (iZ x2)), some (aI (iZ 1)), some (aI (iZ r1)), some (aI (iZ 2)), none], [], am_hp σ1, t)) rfl rfl ?_
  exact w2

theorem b_X11_bestSkip_34 {x1 : Int} {x2 : Int} {x3 : Int} {x4 : Int} {x5 : Int} {u6 : Option AV} {σ : SG} {t : KT} (h1 : -2147483648 ≤ x5 ∧ x5 < 2147483648) (w2 : 9 < x5 → Wp k_X11_bestSkip d (70, [some (aR (some (1, 0, 0))), some (aI (iZ x1)), some (aI (iZ x2)), some (aI (iZ x3)), some (aI (iZ x4)), some (aI (iZ x5)), u6], [], am_hp σ, t) Q) (w3 : x5 ≤ 9 → Wp k_X11_bestSkip d (41, [some (aR (some (1, 0, 0))), some (aI (iZ x1)), some (aI (iZ x2)), some (aI (iZ x3)), some (aI (iZ x4)), some (aI (iZ x5)), u6], [], am_hp σ, t) Q) : Wp k_X11_bestSkip d (34, [some (aR (some (1, 0, 0))), some (aI (iZ x1)), some (aI (iZ x2)), some (aI (iZ x3)), some (aI (iZ x4)), some (aI (iZ x5)), u6], [], am_hp σ, t) Q := by
  refine w_s (c' := (36, [some (aR (some (1, 0, 0))), some (aI (iZ x1)), some (aI (iZ x2)), some (aI (iZ x3)), some (aI (iZ x4)), some (aI (iZ x5)), u6], [aI (iZ x5)], am_hp σ, t)) rfl rfl ?_
  refine w_psh rfl zc_9 rfl ?_
  exact w_icgt rfl h1 (by decide) rfl w2 w3

theorem b_X11_bestSkip_41 {x1 : Int} {x2 : Int} {x3 : Int} {x4 : Int} {x5 : Int} {u6 : Option AV} {r1 : Int} {σ σ1 : SG} {t : KT} (c1 : Ca d 159 [aR (some (1, 0, 0)), aI (iZ x1), aI (iZ x5)] (am_hp σ) t (.inl (some (aI (iZ r1))), am_hp σ1, t)) (h2 : -2147483648 ≤ r1 ∧ r1 < 2147483648) (h3 : -2147483648 ≤ x4 ∧ x4 < 2147483648) (w4 : x4 < r1 → Wp k_X11_bestSkip d (64, [some (aR (some (1, 0, 0))), some (aI (iZ x1)), some (aI (iZ x2)), some (aI (iZ x3)), some (aI (iZ x4)), some (aI (iZ x5)), some (aI (iZ r1))], [], am_hp σ1, t) Q) (w5 : r1 ≤ x4 → Wp k_X11_bestSkip d (57, [some (aR (some (1, 0, 0))), some (aI (iZ x1)), some (aI (iZ x2)), some (aI (iZ x3)), some (aI (iZ x4)), some (aI (iZ x5)), some (aI (iZ r1))], [], am_hp σ1, t) Q) : Wp k_X11_bestSkip d (41, [some (aR (some (1, 0, 0))), some (aI (iZ x1)), some (aI (iZ x2)), some (aI (iZ x3)), some (aI (iZ x4)), some (aI (iZ x5)), u6], [], am_hp σ, t) Q := by
  refine w_s (c' := (42, [some (aR (some (1, 0, 0))), some (aI (iZ x1)), some (aI (iZ x2)), some (aI (iZ x3)), some (aI (iZ x4)), some (aI (iZ x5)), u6], [aR (some (1, 0, 0))], am_hp σ, t)) rfl rfl ?_
  refine w_s (c' := (43, [some (aR (some (1, 0, 0))), some (aI (iZ x1)), some (aI (iZ x2)), some (aI (iZ x3)), some (aI (iZ x4)), some (aI (iZ x5)), u6], [aI (iZ x1), aR (some (1, 0, 0))], am_hp σ, t)) rfl rfl ?_
  refine w_s (c' := (45, [some (aR (some (1, 0, 0))), some (aI (iZ x1)), some (aI (iZ x2)), some (aI (iZ x3)), some (aI (iZ x4)), some (aI (iZ x5)), u6], [aI (iZ x5), aI (iZ x1), aR (some (1, 0, 0))], am_hp σ, t)) rfl rfl ?_
  refine w_c0 (c' := (48, [some (aR (some (1, 0, 0))), some (aI (iZ x1)), some (aI (iZ x2)), some (aI (iZ x3)), some (aI (iZ x4)), some (aI (iZ x5)), u6], [aI (iZ r1)], am_hp σ1, t)) rfl rfl (rcv_of (hp_1 _ 0)) rfl c1 (Nat.le_refl _) rfl ?_
  refine w_s (c' := (50, [some (aR (some (1, 0, 0))), some (aI (iZ x1)), some (aI (iZ x2)), some (aI (iZ x3)), some (aI (iZ x4)), some (aI (iZ x5)), some (aI (iZ r1))], [], am_hp σ1, t)) rfl rfl ?_
  refine w_s (c' := (52, [some (aR (some (1, 0, 0))), some (aI (iZ x1)), some (aI (iZ x2)), some (aI (iZ x3)), some (aI (iZ x4)), some (aI (iZ x5)), some (aI (iZ r1))], [aI (iZ r1)], am_hp σ1, t)) rfl rfl ?_
  refine w_s (c' := (54, [some (aR (some (1, 0, 0))), some (aI (iZ x1)), some (aI (iZ x2)), some (aI (iZ x3)), some (aI (iZ x4)), some (aI (iZ x5)), some (aI (iZ r1))], [aI (iZ x4), aI (iZ r1)], am_hp σ1, t)) rfl rfl ?_
  exact w_icgt rfl h2 h3 rfl w4 w5

theorem b_X11_bestSkip_57 {x1 : Int} {x2 : Int} {x3 : Int} {x4 : Int} {x5 : Int} {x6 : Int} {σ : SG} {t : KT} (w1 : Wp k_X11_bestSkip d (64, [some (aR (some (1, 0, 0))), some (aI (iZ x1)), some (aI (iZ x2)), some (aI (iZ x5)), some (aI (iZ x6)), some (aI (iZ x5)), some (aI (iZ x6))], [], am_hp σ, t) Q) : Wp k_X11_bestSkip d (57, [some (aR (some (1, 0, 0))), some (aI (iZ x1)), some (aI (iZ x2)), some (aI (iZ x3)), some (aI (iZ x4)), some (aI (iZ x5)), some (aI (iZ x6))], [], am_hp σ, t) Q := by
  refine w_s (c' := (59, [some (aR (some (1, 0, 0))), some (aI (iZ x1)), some (aI (iZ x2)), some (aI (iZ x3)), some (aI (iZ x4)), some (aI (iZ x5)), some (aI (iZ x6))], [aI (iZ x5)], am_hp σ, t)) rfl rfl ?_
  refine w_s (c' := (60, [some (aR (some (1, 0, 0))), some (aI (iZ x1)), some (aI (iZ x2)), some (aI (iZ x5)), some (aI (iZ x4)), some (aI (iZ x5)), some (aI (iZ x6))], [], am_hp σ, t)) rfl rfl ?_
  refine w_s (c' := (62, [some (aR (some (1, 0, 0))), some (aI (iZ x1)), some (aI (iZ x2)), some (aI (iZ x5)), some (aI (iZ x4)), some (aI (iZ x5)), some (aI (iZ x6))], [aI (iZ x6)], am_hp σ, t)) rfl rfl ?_
  refine w_s (c' := (64, [some (aR (some (1, 0, 0))), some (aI (iZ x1)), some (aI (iZ x2)), some (aI (iZ x5)), some (aI (iZ x6)), some (aI (iZ x5)), some (aI (iZ x6))], [], am_hp σ, t)) rfl rfl ?_
  exact w1

theorem b_X11_bestSkip_64 {x1 : Int} {x2 : Int} {x3 : Int} {x4 : Int} {x5 : Int} {x6 : Int} {σ : SG} {t : KT} (w1 : Wp k_X11_bestSkip d (34, [some (aR (some (1, 0, 0))), some (aI (iZ x1)), some (aI (iZ x2)), some (aI (iZ x3)), some (aI (iZ x4)), some (aI (iZ (x5 + 1))), some (aI (iZ x6))], [], am_hp σ, t) Q) : Wp k_X11_bestSkip d (64, [some (aR (some (1, 0, 0))), some (aI (iZ x1)), some (aI (iZ x2)), some (aI (iZ x3)), some (aI (iZ x4)), some (aI (iZ x5)), some (aI (iZ x6))], [], am_hp σ, t) Q := by
  refine w_inc (a := x5) (ls' := [some (aR (some (1, 0, 0))), some (aI (iZ x1)), some (aI (iZ x2)), some (aI (iZ x3)), some (aI (iZ x4)), some (aI (iZ (x5 + 1))), some (aI (iZ x6))]) rfl rfl rfl zc_1 rfl rfl ?_
  refine w_s (c' := (34, [some (aR (some (1, 0, 0))), some (aI (iZ x1)), some (aI (iZ x2)), some (aI (iZ x3)), some (aI (iZ x4)), some (aI (iZ (x5 + 1))), some (aI (iZ x6))], [], am_hp σ, t)) rfl rfl ?_
  exact w1

theorem b_X11_bestSkip_70 {x1 : Int} {x2 : Int} {x3 : Int} {x4 : Int} {x5 : Int} {u6 : Option AV} {σ : SG} {t : KT} (q1 : Q (.inl (some (aI (iZ x3))), am_hp σ, t)) : Wp k_X11_bestSkip d (70, [some (aR (some (1, 0, 0))), some (aI (iZ x1)), some (aI (iZ x2)), some (aI (iZ x3)), some (aI (iZ x4)), some (aI (iZ x5)), u6], [], am_hp σ, t) Q := by
  refine w_s (c' := (71, [some (aR (some (1, 0, 0))), some (aI (iZ x1)), some (aI (iZ x2)), some (aI (iZ x3)), some (aI (iZ x4)), some (aI (iZ x5)), u6], [aI (iZ x3)], am_hp σ, t)) rfl rfl ?_
  exact w_ret rfl rfl q1

theorem b_X11_add_0 {r1 : Int} {r2 : Int} {σ σ1 σ2 : SG} {t : KT} (c1 : Ca d 77 [aR (some (2, 0, 0))] (am_hp ((sC σ (7, 30, 0) 0))) t (.inl (some (aL (jZ r1))), am_hp σ1, t)) (c2 : Ca d 162 [aR (some (1, 0, 0))] (am_hp ((sJ σ1 (7, 30, 0) (up (σ1.2.1 (7, 30, 0)) 1 r1)))) t (.inl (some (aI (iZ r2))), am_hp σ2, t)) (h3 : -2147483648 ≤ r2 ∧ r2 < 2147483648) (w4 : r2 = 0 → Wp k_X11_add d (35, [some (aR (some (1, 0, 0))), some (aI (iZ r2))], [], am_hp σ2, t) Q) (w5 : r2 ≠ 0 → Wp k_X11_add d (33, [some (aR (some (1, 0, 0))), some (aI (iZ r2))], [], am_hp σ2, t) Q) : Wp k_X11_add d (0, [some (aR (some (1, 0, 0))), none], [], am_hp σ, t) Q := by
  refine w_s (c' := (1, [some (aR (some (1, 0, 0))), none], [aR (some (1, 0, 0))], am_hp σ, t)) rfl rfl ?_
  refine w_get rfl (hp_1 _ 0) rfl rfl ?_
  refine w_s (c' := (7, [some (aR (some (1, 0, 0))), none], [aR (some (91, 0, 0)), aR (some (7, 30, 0))], am_hp σ, t)) rfl rfl ?_
  refine w_putC rfl (hp_7 _ 30) rfl rfl rfl ?_
  refine w_s (c' := (11, [some (aR (some (1, 0, 0))), none], [aR (some (1, 0, 0))], am_hp ((sC σ (7, 30, 0) 0)), t)) rfl rfl ?_
  refine w_get rfl (hp_1 _ 0) rfl rfl ?_
  refine w_s (c' := (15, [some (aR (some (1, 0, 0))), none], [aR (some (1, 0, 0)), aR (some (7, 30, 0))], am_hp ((sC σ (7, 30, 0) 0)), t)) rfl rfl ?_
  refine w_get rfl (hp_1 _ 0) rfl rfl ?_
  refine w_c0 (c' := (21, [some (aR (some (1, 0, 0))), none], [aL (jZ r1), aR (some (7, 30, 0))], am_hp σ1, t)) rfl rfl (rcv_of (hp_2 _ 0)) rfl c1 (Nat.le_refl _) rfl ?_
  refine w_putJ rfl (hp_7 _ 30) rfl rfl rfl ?_
  refine w_s (c' := (25, [some (aR (some (1, 0, 0))), none], [aR (some (1, 0, 0))], am_hp ((sJ σ1 (7, 30, 0) (up (σ1.2.1 (7, 30, 0)) 1 r1))), t)) rfl rfl ?_
  refine w_c0 (c' := (28, [some (aR (some (1, 0, 0))), none], [aI (iZ r2)], am_hp σ2, t)) rfl rfl (rcv_of (hp_1 _ 0)) rfl c2 (Nat.le_refl _) rfl ?_
  refine w_s (c' := (29, [some (aR (some (1, 0, 0))), some (aI (iZ r2))], [], am_hp σ2, t)) rfl rfl ?_
  refine w_s (c' := (30, [some (aR (some (1, 0, 0))), some (aI (iZ r2))], [aI (iZ r2)], am_hp σ2, t)) rfl rfl ?_
  exact w_ifeq rfl h3 rfl w4 w5

theorem bx_X11_add_0_1 {r1 : Int} {E : Nat} {σ σ1 σ2 : SG} {t t' : KT} (c1 : Ca d 77 [aR (some (2, 0, 0))] (am_hp ((sC σ (7, 30, 0) 0))) t (.inl (some (aL (jZ r1))), am_hp σ1, t)) (c2 : Ca d 162 [aR (some (1, 0, 0))] (am_hp ((sJ σ1 (7, 30, 0) (up (σ1.2.1 (7, 30, 0)) 1 r1)))) t (.inr E, am_hp σ2, t')) (q3 : Q (.inr E, am_hp σ2, t')) : Wp k_X11_add d (0, [some (aR (some (1, 0, 0))), none], [], am_hp σ, t) Q := by
  refine w_s (c' := (1, [some (aR (some (1, 0, 0))), none], [aR (some (1, 0, 0))], am_hp σ, t)) rfl rfl ?_
  refine w_get rfl (hp_1 _ 0) rfl rfl ?_
  refine w_s (c' := (7, [some (aR (some (1, 0, 0))), none], [aR (some (91, 0, 0)), aR (some (7, 30, 0))], am_hp σ, t)) rfl rfl ?_
  refine w_putC rfl (hp_7 _ 30) rfl rfl rfl ?_
  refine w_s (c' := (11, [some (aR (some (1, 0, 0))), none], [aR (some (1, 0, 0))], am_hp ((sC σ (7, 30, 0) 0)), t)) rfl rfl ?_
  refine w_get rfl (hp_1 _ 0) rfl rfl ?_
  refine w_s (c' := (15, [some (aR (some (1, 0, 0))), none], [aR (some (1, 0, 0)), aR (some (7, 30, 0))], am_hp ((sC σ (7, 30, 0) 0)), t)) rfl rfl ?_
  refine w_get rfl (hp_1 _ 0) rfl rfl ?_
  refine w_c0 (c' := (21, [some (aR (some (1, 0, 0))), none], [aL (jZ r1), aR (some (7, 30, 0))], am_hp σ1, t)) rfl rfl (rcv_of (hp_2 _ 0)) rfl c1 (Nat.le_refl _) rfl ?_
  refine w_putJ rfl (hp_7 _ 30) rfl rfl rfl ?_
  refine w_s (c' := (25, [some (aR (some (1, 0, 0))), none], [aR (some (1, 0, 0))], am_hp ((sJ σ1 (7, 30, 0) (up (σ1.2.1 (7, 30, 0)) 1 r1))), t)) rfl rfl ?_
  exact w_x rfl rfl (rcv_of (hp_1 _ 0)) rfl c2 (Nat.le_refl _) rfl q3

theorem e_X11_add {h : AH} {t : KT} {d : Nat} {P : RS → Prop} (w : Wp k_X11_add d (0, [some (aR (some (1, 0, 0))), none], [], h, t) P) : ∃ r, Ca (d + 1) 122 [aR (some (1, 0, 0))] h t r ∧ P r := ca_W rfl rfl rfl rfl w

theorem b_X11_add_33 {x1 : Int} {σ : SG} {t : KT} (q1 : Q (.inl (some (aI (iZ x1))), am_hp σ, t)) : Wp k_X11_add d (33, [some (aR (some (1, 0, 0))), some (aI (iZ x1))], [], am_hp σ, t) Q := by
  refine w_s (c' := (34, [some (aR (some (1, 0, 0))), some (aI (iZ x1))], [aI (iZ x1)], am_hp σ, t)) rfl rfl ?_
  exact w_ret rfl rfl q1

theorem b_X11_add_35 {x1 : Int} {σ : SG} {t : KT} (q1 : Q (.inl (some (aI (iZ ((((sI σ (2, 0, 0) (up (σ.1 (2, 0, 0)) 1 0))).1 (8, 0, 0) 4) - 1)))), am_hp ((sI σ (2, 0, 0) (up (σ.1 (2, 0, 0)) 1 0))), t)) : Wp k_X11_add d (35, [some (aR (some (1, 0, 0))), some (aI (iZ x1))], [], am_hp σ, t) Q := by
  refine w_s (c' := (36, [some (aR (some (1, 0, 0))), some (aI (iZ x1))], [aR (some (1, 0, 0))], am_hp σ, t)) rfl rfl ?_
  refine w_get rfl (hp_1 _ 0) rfl rfl ?_
  refine w_psh rfl zc_0 rfl ?_
  refine w_putI rfl (hp_2 _ 0) rfl rfl rfl ?_
  refine w_s (c' := (44, [some (aR (some (1, 0, 0))), some (aI (iZ x1))], [aR (some (1, 0, 0))], am_hp ((sI σ (2, 0, 0) (up (σ.1 (2, 0, 0)) 1 0))), t)) rfl rfl ?_
  refine w_get rfl (hp_1 _ 0) rfl rfl ?_
  refine w_get rfl (hp_8 _ 0) rfl rfl ?_
  refine w_psh rfl zc_1 rfl ?_
  refine w_isub rfl rfl ?_
  exact w_ret rfl rfl q1

theorem b_X11_append_0 {x1 : Int} {x2 : Int} {r1 : Int} {σ σ1 : SG} {t : KT} (c1 : Ca d 161 [aR (some (1, 0, 0))] (am_hp ((sI (sI (sC σ (7, 30, 0) 1) (7, 30, 0) (up (((sC σ (7, 30, 0) 1)).1 (7, 30, 0)) 3 x1)) (7, 30, 0) (up (((sI (sC σ (7, 30, 0) 1) (7, 30, 0) (up (((sC σ (7, 30, 0) 1)).1 (7, 30, 0)) 3 x1))).1 (7, 30, 0)) 6 x2)))) t (.inl (some (aI (iZ r1))), am_hp σ1, t)) (q2 : Q (.inl (some (aI (iZ r1))), am_hp σ1, t)) : Wp k_X11_append d (0, [some (aR (some (1, 0, 0))), some (aI (iZ x1)), some (aI (iZ x2))], [], am_hp σ, t) Q := by
  refine w_s (c' := (1, [some (aR (some (1, 0, 0))), some (aI (iZ x1)), some (aI (iZ x2))], [aR (some (1, 0, 0))], am_hp σ, t)) rfl rfl ?_
  refine w_get rfl (hp_1 _ 0) rfl rfl ?_
  refine w_s (c' := (7, [some (aR (some (1, 0, 0))), some (aI (iZ x1)), some (aI (iZ x2))], [aR (some (91, 1, 0)), aR (some (7, 30, 0))], am_hp σ, t)) rfl rfl ?_
  refine w_putC rfl (hp_7 _ 30) rfl rfl rfl ?_
  refine w_s (c' := (11, [some (aR (some (1, 0, 0))), some (aI (iZ x1)), some (aI (iZ x2))], [aR (some (1, 0, 0))], am_hp ((sC σ (7, 30, 0) 1)), t)) rfl rfl ?_
  refine w_get rfl (hp_1 _ 0) rfl rfl ?_
  refine w_s (c' := (15, [some (aR (some (1, 0, 0))), some (aI (iZ x1)), some (aI (iZ x2))], [aI (iZ x1), aR (some (7, 30, 0))], am_hp ((sC σ (7, 30, 0) 1)), t)) rfl rfl ?_
  refine w_putI rfl (hp_7 _ 30) rfl rfl rfl ?_
  refine w_s (c' := (19, [some (aR (some (1, 0, 0))), some (aI (iZ x1)), some (aI (iZ x2))], [aR (some (1, 0, 0))], am_hp ((sI (sC σ (7, 30, 0) 1) (7, 30, 0) (up (((sC σ (7, 30, 0) 1)).1 (7, 30, 0)) 3 x1))), t)) rfl rfl ?_
  refine w_get rfl (hp_1 _ 0) rfl rfl ?_
  refine w_s (c' := (23, [some (aR (some (1, 0, 0))), some (aI (iZ x1)), some (aI (iZ x2))], [aI (iZ x2), aR (some (7, 30, 0))], am_hp ((sI (sC σ (7, 30, 0) 1) (7, 30, 0) (up (((sC σ (7, 30, 0) 1)).1 (7, 30, 0)) 3 x1))), t)) rfl rfl ?_
  refine w_putI rfl (hp_7 _ 30) rfl rfl rfl ?_
  refine w_s (c' := (27, [some (aR (some (1, 0, 0))), some (aI (iZ x1)), some (aI (iZ x2))], [aR (some (1, 0, 0))], am_hp ((sI (sI (sC σ (7, 30, 0) 1) (7, 30, 0) (up (((sC σ (7, 30, 0) 1)).1 (7, 30, 0)) 3 x1)) (7, 30, 0) (up (((sI (sC σ (7, 30, 0) 1) (7, 30, 0) (up (((sC σ (7, 30, 0) 1)).1 (7, 30, 0)) 3 x1))).1 (7, 30, 0)) 6 x2))), t)) rfl rfl ?_
  refine w_c0 (c' := (30, [some (aR (some (1, 0, 0))), some (aI (iZ x1)), some (aI (iZ x2))], [aI (iZ r1)], am_hp σ1, t)) rfl rfl (rcv_of (hp_1 _ 0)) rfl c1 (Nat.le_refl _) rfl ?_
  exact w_ret rfl rfl q2

theorem bx_X11_append_0_1 {x1 : Int} {x2 : Int} {E : Nat} {σ σ1 : SG} {t t' : KT} (c1 : Ca d 161 [aR (some (1, 0, 0))] (am_hp ((sI (sI (sC σ (7, 30, 0) 1) (7, 30, 0) (up (((sC σ (7, 30, 0) 1)).1 (7, 30, 0)) 3 x1)) (7, 30, 0) (up (((sI (sC σ (7, 30, 0) 1) (7, 30, 0) (up (((sC σ (7, 30, 0) 1)).1 (7, 30, 0)) 3 x1))).1 (7, 30, 0)) 6 x2)))) t (.inr E, am_hp σ1, t')) (q2 : Q (.inr E, am_hp σ1, t')) : Wp k_X11_append d (0, [some (aR (some (1, 0, 0))), some (aI (iZ x1)), some (aI (iZ x2))], [], am_hp σ, t) Q := by
  refine w_s (c' := (1, [some (aR (some (1, 0, 0))), some (aI (iZ x1)), some (aI (iZ x2))], [aR (some (1, 0, 0))], am_hp σ, t)) rfl rfl ?_
  refine w_get rfl (hp_1 _ 0) rfl rfl ?_
  refine w_s (c' := (7, [some (aR (some (1, 0, 0))), some (aI (iZ x1)), some (aI (iZ x2))], [aR (some (91, 1, 0)), aR (some (7, 30, 0))], am_hp σ, t)) rfl rfl ?_
  refine w_putC rfl (hp_7 _ 30) rfl rfl rfl ?_
  refine w_s (c' := (11, [some (aR (some (1, 0, 0))), some (aI (iZ x1)), some (aI (iZ x2))], [aR (some (1, 0, 0))], am_hp ((sC σ (7, 30, 0) 1)), t)) rfl rfl ?_
  refine w_get rfl (hp_1 _ 0) rfl rfl ?_
  refine w_s (c' := (15, [some (aR (some (1, 0, 0))), some (aI (iZ x1)), some (aI (iZ x2))], [aI (iZ x1), aR (some (7, 30, 0))], am_hp ((sC σ (7, 30, 0) 1)), t)) rfl rfl ?_
  refine w_putI rfl (hp_7 _ 30) rfl rfl rfl ?_
  refine w_s (c' := (19, [some (aR (some (1, 0, 0))), some (aI (iZ x1)), some (aI (iZ x2))], [aR (some (1, 0, 0))], am_hp ((sI (sC σ (7, 30, 0) 1) (7, 30, 0) (up (((sC σ (7, 30, 0) 1)).1 (7, 30, 0)) 3 x1))), t)) rfl rfl ?_
  refine w_get rfl (hp_1 _ 0) rfl rfl ?_
  refine w_s (c' := (23, [some (aR (some (1, 0, 0))), some (aI (iZ x1)), some (aI (iZ x2))], [aI (iZ x2), aR (some (7, 30, 0))], am_hp ((sI (sC σ (7, 30, 0) 1) (7, 30, 0) (up (((sC σ (7, 30, 0) 1)).1 (7, 30, 0)) 3 x1))), t)) rfl rfl ?_
  refine w_putI rfl (hp_7 _ 30) rfl rfl rfl ?_
  refine w_s (c' := (27, [some (aR (some (1, 0, 0))), some (aI (iZ x1)), some (aI (iZ x2))], [aR (some (1, 0, 0))], am_hp ((sI (sI (sC σ (7, 30, 0) 1) (7, 30, 0) (up (((sC σ (7, 30, 0) 1)).1 (7, 30, 0)) 3 x1)) (7, 30, 0) (up (((sI (sC σ (7, 30, 0) 1) (7, 30, 0) (up (((sC σ (7, 30, 0) 1)).1 (7, 30, 0)) 3 x1))).1 (7, 30, 0)) 6 x2))), t)) rfl rfl ?_
  exact w_x rfl rfl (rcv_of (hp_1 _ 0)) rfl c1 (Nat.le_refl _) rfl q2

theorem e_X11_append {x1 : Int} {x2 : Int} {h : AH} {t : KT} {d : Nat} {P : RS → Prop} (w : Wp k_X11_append d (0, [some (aR (some (1, 0, 0))), some (aI (iZ x1)), some (aI (iZ x2))], [], h, t) P) : ∃ r, Ca (d + 1) 123 [aR (some (1, 0, 0)), aI (iZ x1), aI (iZ x2)] h t r ∧ P r := ca_W rfl rfl rfl rfl w

theorem b_X11_put_0 {x1 : Int} {x2 : Int} {x3 : Int} {r1 : Int} {σ τ1 τ2 τ3 τ4 σ1 : SG} {t : KT} (e1 : τ1 = (sC σ (7, 30, 0) 2)) (e2 : τ2 = (sI τ1 (7, 30, 0) (up (τ1.1 (7, 30, 0)) 3 x1))) (e3 : τ3 = (sI τ2 (7, 30, 0) (up (τ2.1 (7, 30, 0)) 5 x2))) (e4 : τ4 = (sI τ3 (7, 30, 0) (up (τ3.1 (7, 30, 0)) 6 x3))) (c5 : Ca d 161 [aR (some (1, 0, 0))] (am_hp τ4) t (.inl (some (aI (iZ r1))), am_hp σ1, t)) (q6 : Q (.inl (some (aI (iZ r1))), am_hp σ1, t)) : Wp k_X11_put d (0, [some (aR (some (1, 0, 0))), some (aI (iZ x1)), some (aI (iZ x2)), some (aI (iZ x3))], [], am_hp σ, t) Q := by
  refine w_s (c' := (1, [some (aR (some (1, 0, 0))), some (aI (iZ x1)), some (aI (iZ x2)), some (aI (iZ x3))], [aR (some (1, 0, 0))], am_hp σ, t)) rfl rfl ?_
  refine w_get rfl (hp_1 _ 0) rfl rfl ?_
  refine w_s (c' := (7, [some (aR (some (1, 0, 0))), some (aI (iZ x1)), some (aI (iZ x2)), some (aI (iZ x3))], [aR (some (91, 2, 0)), aR (some (7, 30, 0))], am_hp σ, t)) rfl rfl ?_
  refine w_putC rfl (hp_7 _ 30) rfl rfl rfl ?_
  rw [← e1]
  refine w_s (c' := (11, [some (aR (some (1, 0, 0))), some (aI (iZ x1)), some (aI (iZ x2)), some (aI (iZ x3))], [aR (some (1, 0, 0))], am_hp τ1, t)) rfl rfl ?_
  refine w_get rfl (hp_1 _ 0) rfl rfl ?_
  refine w_s (c' := (15, [some (aR (some (1, 0, 0))), some (aI (iZ x1)), some (aI (iZ x2)), some (aI (iZ x3))], [aI (iZ x1), aR (some (7, 30, 0))], am_hp τ1, t)) rfl rfl ?_
  refine w_putI rfl (hp_7 _ 30) rfl rfl rfl ?_
  rw [← e2]
  refine w_s (c' := (19, [some (aR (some (1, 0, 0))), some (aI (iZ x1)), some (aI (iZ x2)), some (aI (iZ x3))], [aR (some (1, 0, 0))], am_hp τ2, t)) rfl rfl ?_
  refine w_get rfl (hp_1 _ 0) rfl rfl ?_
  refine w_s (c' := (23, [some (aR (some (1, 0, 0))), some (aI (iZ x1)), some (aI (iZ x2)), some (aI (iZ x3))], [aI (iZ x2), aR (some (7, 30, 0))], am_hp τ2, t)) rfl rfl ?_
  refine w_putI rfl (hp_7 _ 30) rfl rfl rfl ?_
  rw [← e3]
  refine w_s (c' := (27, [some (aR (some (1, 0, 0))), some (aI (iZ x1)), some (aI (iZ x2)), some (aI (iZ x3))], [aR (some (1, 0, 0))], am_hp τ3, t)) rfl rfl ?_
  refine w_get rfl (hp_1 _ 0) rfl rfl ?_
  refine w_s (c' := (31, [some (aR (some (1, 0, 0))), some (aI (iZ x1)), some (aI (iZ x2)), some (aI (iZ x3))], [aI (iZ x3), aR (some (7, 30, 0))], am_hp τ3, t)) rfl rfl ?_
  refine w_putI rfl (hp_7 _ 30) rfl rfl rfl ?_
  rw [← e4]
  refine w_s (c' := (35, [some (aR (some (1, 0, 0))), some (aI (iZ x1)), some (aI (iZ x2)), some (aI (iZ x3))], [aR (some (1, 0, 0))], am_hp τ4, t)) rfl rfl ?_
  refine w_c0 (c' := (38, [some (aR (some (1, 0, 0))), some (aI (iZ x1)), some (aI (iZ x2)), some (aI (iZ x3))], [aI (iZ r1)], am_hp σ1, t)) rfl rfl (rcv_of (hp_1 _ 0)) rfl c5 (Nat.le_refl _) rfl ?_
  exact w_ret rfl rfl q6

theorem bx_X11_put_0_1 {x1 : Int} {x2 : Int} {x3 : Int} {E : Nat} {σ τ1 τ2 τ3 τ4 σ1 : SG} {t t' : KT} (e1 : τ1 = (sC σ (7, 30, 0) 2)) (e2 : τ2 = (sI τ1 (7, 30, 0) (up (τ1.1 (7, 30, 0)) 3 x1))) (e3 : τ3 = (sI τ2 (7, 30, 0) (up (τ2.1 (7, 30, 0)) 5 x2))) (e4 : τ4 = (sI τ3 (7, 30, 0) (up (τ3.1 (7, 30, 0)) 6 x3))) (c5 : Ca d 161 [aR (some (1, 0, 0))] (am_hp τ4) t (.inr E, am_hp σ1, t')) (q6 : Q (.inr E, am_hp σ1, t')) : Wp k_X11_put d (0, [some (aR (some (1, 0, 0))), some (aI (iZ x1)), some (aI (iZ x2)), some (aI (iZ x3))], [], am_hp σ, t) Q := by
  refine w_s (c' := (1, [some (aR (some (1, 0, 0))), some (aI (iZ x1)), some (aI (iZ x2)), some (aI (iZ x3))], [aR (some (1, 0, 0))], am_hp σ, t)) rfl rfl ?_
  refine w_get rfl (hp_1 _ 0) rfl rfl ?_
  refine w_s (c' := (7, [some (aR (some (1, 0, 0))), some (aI (iZ x1)), some (aI (iZ x2)), some (aI (iZ x3))], [aR (some (91, 2, 0)), aR (some (7, 30, 0))], am_hp σ, t)) rfl rfl ?_
  refine w_putC rfl (hp_7 _ 30) rfl rfl rfl ?_
  rw [← e1]
  refine w_s (c' := (11, [some (aR (some (1, 0, 0))), some (aI (iZ x1)), some (aI (iZ x2)), some (aI (iZ x3))], [aR (some (1, 0, 0))], am_hp τ1, t)) rfl rfl ?_
  refine w_get rfl (hp_1 _ 0) rfl rfl ?_
  refine w_s (c' := (15, [some (aR (some (1, 0, 0))), some (aI (iZ x1)), some (aI (iZ x2)), some (aI (iZ x3))], [aI (iZ x1), aR (some (7, 30, 0))], am_hp τ1, t)) rfl rfl ?_
  refine w_putI rfl (hp_7 _ 30) rfl rfl rfl ?_
  rw [← e2]
  refine w_s (c' := (19, [some (aR (some (1, 0, 0))), some (aI (iZ x1)), some (aI (iZ x2)), some (aI (iZ x3))], [aR (some (1, 0, 0))], am_hp τ2, t)) rfl rfl ?_
  refine w_get rfl (hp_1 _ 0) rfl rfl ?_
  refine w_s (c' := (23, [some (aR (some (1, 0, 0))), some (aI (iZ x1)), some (aI (iZ x2)), some (aI (iZ x3))], [aI (iZ x2), aR (some (7, 30, 0))], am_hp τ2, t)) rfl rfl ?_
  refine w_putI rfl (hp_7 _ 30) rfl rfl rfl ?_
  rw [← e3]
  refine w_s (c' := (27, [some (aR (some (1, 0, 0))), some (aI (iZ x1)), some (aI (iZ x2)), some (aI (iZ x3))], [aR (some (1, 0, 0))], am_hp τ3, t)) rfl rfl ?_
  refine w_get rfl (hp_1 _ 0) rfl rfl ?_
  refine w_s (c' := (31, [some (aR (some (1, 0, 0))), some (aI (iZ x1)), some (aI (iZ x2)), some (aI (iZ x3))], [aI (iZ x3), aR (some (7, 30, 0))], am_hp τ3, t)) rfl rfl ?_
  refine w_putI rfl (hp_7 _ 30) rfl rfl rfl ?_
  rw [← e4]
  refine w_s (c' := (35, [some (aR (some (1, 0, 0))), some (aI (iZ x1)), some (aI (iZ x2)), some (aI (iZ x3))], [aR (some (1, 0, 0))], am_hp τ4, t)) rfl rfl ?_
  exact w_x rfl rfl (rcv_of (hp_1 _ 0)) rfl c5 (Nat.le_refl _) rfl q6

theorem e_X11_put {x1 : Int} {x2 : Int} {x3 : Int} {h : AH} {t : KT} {d : Nat} {P : RS → Prop} (w : Wp k_X11_put d (0, [some (aR (some (1, 0, 0))), some (aI (iZ x1)), some (aI (iZ x2)), some (aI (iZ x3))], [], h, t) P) : ∃ r, Ca (d + 1) 124 [aR (some (1, 0, 0)), aI (iZ x1), aI (iZ x2), aI (iZ x3)] h t r ∧ P r := ca_W rfl rfl rfl rfl w

theorem b_X11_insert_0 {x1 : Int} {x2 : Int} {x3 : Int} {r1 : Int} {σ τ1 τ2 τ3 τ4 σ1 : SG} {t : KT} (e1 : τ1 = (sC σ (7, 30, 0) 3)) (e2 : τ2 = (sI τ1 (7, 30, 0) (up (τ1.1 (7, 30, 0)) 3 x1))) (e3 : τ3 = (sI τ2 (7, 30, 0) (up (τ2.1 (7, 30, 0)) 5 x2))) (e4 : τ4 = (sI τ3 (7, 30, 0) (up (τ3.1 (7, 30, 0)) 6 x3))) (c5 : Ca d 161 [aR (some (1, 0, 0))] (am_hp τ4) t (.inl (some (aI (iZ r1))), am_hp σ1, t)) (q6 : Q (.inl (some (aI (iZ r1))), am_hp σ1, t)) : Wp k_X11_insert d (0, [some (aR (some (1, 0, 0))), some (aI (iZ x1)), some (aI (iZ x2)), some (aI (iZ x3))], [], am_hp σ, t) Q := by
  refine w_s (c' := (1, [some (aR (some (1, 0, 0))), some (aI (iZ x1)), some (aI (iZ x2)), some (aI (iZ x3))], [aR (some (1, 0, 0))], am_hp σ, t)) rfl rfl ?_
  refine w_get rfl (hp_1 _ 0) rfl rfl ?_
  refine w_s (c' := (7, [some (aR (some (1, 0, 0))), some (aI (iZ x1)), some (aI (iZ x2)), some (aI (iZ x3))], [aR (some (91, 3, 0)), aR (some (7, 30, 0))], am_hp σ, t)) rfl rfl ?_
  refine w_putC rfl (hp_7 _ 30) rfl rfl rfl ?_
  rw [← e1]
  refine w_s (c' := (11, [some (aR (some (1, 0, 0))), some (aI (iZ x1)), some (aI (iZ x2)), some (aI (iZ x3))], [aR (some (1, 0, 0))], am_hp τ1, t)) rfl rfl ?_
  refine w_get rfl (hp_1 _ 0) rfl rfl ?_
  refine w_s (c' := (15, [some (aR (some (1, 0, 0))), some (aI (iZ x1)), some (aI (iZ x2)), some (aI (iZ x3))], [aI (iZ x1), aR (some (7, 30, 0))], am_hp τ1, t)) rfl rfl ?_
  refine w_putI rfl (hp_7 _ 30) rfl rfl rfl ?_
  rw [← e2]
  refine w_s (c' := (19, [some (aR (some (1, 0, 0))), some (aI (iZ x1)), some (aI (iZ x2)), some (aI (iZ x3))], [aR (some (1, 0, 0))], am_hp τ2, t)) rfl rfl ?_
  refine w_get rfl (hp_1 _ 0) rfl rfl ?_
  refine w_s (c' := (23, [some (aR (some (1, 0, 0))), some (aI (iZ x1)), some (aI (iZ x2)), some (aI (iZ x3))], [aI (iZ x2), aR (some (7, 30, 0))], am_hp τ2, t)) rfl rfl ?_
  refine w_putI rfl (hp_7 _ 30) rfl rfl rfl ?_
  rw [← e3]
  refine w_s (c' := (27, [some (aR (some (1, 0, 0))), some (aI (iZ x1)), some (aI (iZ x2)), some (aI (iZ x3))], [aR (some (1, 0, 0))], am_hp τ3, t)) rfl rfl ?_
  refine w_get rfl (hp_1 _ 0) rfl rfl ?_
  refine w_s (c' := (31, [some (aR (some (1, 0, 0))), some (aI (iZ x1)), some (aI (iZ x2)), some (aI (iZ x3))], [aI (iZ x3), aR (some (7, 30, 0))], am_hp τ3, t)) rfl rfl ?_
  refine w_putI rfl (hp_7 _ 30) rfl rfl rfl ?_
  rw [← e4]
  refine w_s (c' := (35, [some (aR (some (1, 0, 0))), some (aI (iZ x1)), some (aI (iZ x2)), some (aI (iZ x3))], [aR (some (1, 0, 0))], am_hp τ4, t)) rfl rfl ?_
  refine w_c0 (c' := (38, [some (aR (some (1, 0, 0))), some (aI (iZ x1)), some (aI (iZ x2)), some (aI (iZ x3))], [aI (iZ r1)], am_hp σ1, t)) rfl rfl (rcv_of (hp_1 _ 0)) rfl c5 (Nat.le_refl _) rfl ?_
  exact w_ret rfl rfl q6

theorem bx_X11_insert_0_1 {x1 : Int} {x2 : Int} {x3 : Int} {E : Nat} {σ τ1 τ2 τ3 τ4 σ1 : SG} {t t' : KT} (e1 : τ1 = (sC σ (7, 30, 0) 3)) (e2 : τ2 = (sI τ1 (7, 30, 0) (up (τ1.1 (7, 30, 0)) 3 x1))) (e3 : τ3 = (sI τ2 (7, 30, 0) (up (τ2.1 (7, 30, 0)) 5 x2))) (e4 : τ4 = (sI τ3 (7, 30, 0) (up (τ3.1 (7, 30, 0)) 6 x3))) (c5 : Ca d 161 [aR (some (1, 0, 0))] (am_hp τ4) t (.inr E, am_hp σ1, t')) (q6 : Q (.inr E, am_hp σ1, t')) : Wp k_X11_insert d (0, [some (aR (some (1, 0, 0))), some (aI (iZ x1)), some (aI (iZ x2)), some (aI (iZ x3))], [], am_hp σ, t) Q := by
  refine w_s (c' := (1, [some (aR (some (1, 0, 0))), some (aI (iZ x1)), some (aI (iZ x2)), some (aI (iZ x3))], [aR (some (1, 0, 0))], am_hp σ, t)) rfl rfl ?_
  refine w_get rfl (hp_1 _ 0) rfl rfl ?_
  refine w_s (c' := (7, [some (aR (some (1, 0, 0))), some (aI (iZ x1)), some (aI (iZ x2)), some (aI (iZ x3))], [aR (some (91, 3, 0)), aR (some (7, 30, 0))], am_hp σ, t)) rfl rfl ?_
  refine w_putC rfl (hp_7 _ 30) rfl rfl rfl ?_
  rw [← e1]
  refine w_s (c' := (11, [some (aR (some (1, 0, 0))), some (aI (iZ x1)), some (aI (iZ x2)), some (aI (iZ x3))], [aR (some (1, 0, 0))], am_hp τ1, t)) rfl rfl ?_
  refine w_get rfl (hp_1 _ 0) rfl rfl ?_
  refine w_s (c' := (15, [some (aR (some (1, 0, 0))), some (aI (iZ x1)), some (aI (iZ x2)), some (aI (iZ x3))], [aI (iZ x1), aR (some (7, 30, 0))], am_hp τ1, t)) rfl rfl ?_
  refine w_putI rfl (hp_7 _ 30) rfl rfl rfl ?_
  rw [← e2]
  refine w_s (c' := (19, [some (aR (some (1, 0, 0))), some (aI (iZ x1)), some (aI (iZ x2)), some (aI (iZ x3))], [aR (some (1, 0, 0))], am_hp τ2, t)) rfl rfl ?_
  refine w_get rfl (hp_1 _ 0) rfl rfl ?_
  refine w_s (c' := (23, [some (aR (some (1, 0, 0))), some (aI (iZ x1)), some (aI (iZ x2)), some (aI (iZ x3))], [aI (iZ x2), aR (some (7, 30, 0))], am_hp τ2, t)) rfl rfl ?_
  refine w_putI rfl (hp_7 _ 30) rfl rfl rfl ?_
  rw [← e3]
  refine w_s (c' := (27, [some (aR (some (1, 0, 0))), some (aI (iZ x1)), some (aI (iZ x2)), some (aI (iZ x3))], [aR (some (1, 0, 0))], am_hp τ3, t)) rfl rfl ?_
  refine w_get rfl (hp_1 _ 0) rfl rfl ?_
  refine w_s (c' := (31, [some (aR (some (1, 0, 0))), some (aI (iZ x1)), some (aI (iZ x2)), some (aI (iZ x3))], [aI (iZ x3), aR (some (7, 30, 0))], am_hp τ3, t)) rfl rfl ?_
  refine w_putI rfl (hp_7 _ 30) rfl rfl rfl ?_
  rw [← e4]
  refine w_s (c' := (35, [some (aR (some (1, 0, 0))), some (aI (iZ x1)), some (aI (iZ x2)), some (aI (iZ x3))], [aR (some (1, 0, 0))], am_hp τ4, t)) rfl rfl ?_
  exact w_x rfl rfl (rcv_of (hp_1 _ 0)) rfl c5 (Nat.le_refl _) rfl q6

theorem e_X11_insert {x1 : Int} {x2 : Int} {x3 : Int} {h : AH} {t : KT} {d : Nat} {P : RS → Prop} (w : Wp k_X11_insert d (0, [some (aR (some (1, 0, 0))), some (aI (iZ x1)), some (aI (iZ x2)), some (aI (iZ x3))], [], h, t) P) : ∃ r, Ca (d + 1) 125 [aR (some (1, 0, 0)), aI (iZ x1), aI (iZ x2), aI (iZ x3)] h t r ∧ P r := ca_W rfl rfl rfl rfl w

theorem b_X11_remove_0 {x1 : Int} {x2 : Int} {r1 : Int} {σ σ1 : SG} {t : KT} (c1 : Ca d 161 [aR (some (1, 0, 0))] (am_hp ((sI (sI (sC σ (7, 30, 0) 4) (7, 30, 0) (up (((sC σ (7, 30, 0) 4)).1 (7, 30, 0)) 3 x1)) (7, 30, 0) (up (((sI (sC σ (7, 30, 0) 4) (7, 30, 0) (up (((sC σ (7, 30, 0) 4)).1 (7, 30, 0)) 3 x1))).1 (7, 30, 0)) 5 x2)))) t (.inl (some (aI (iZ r1))), am_hp σ1, t)) (q2 : Q (.inl (some (aI (iZ r1))), am_hp σ1, t)) : Wp k_X11_remove d (0, [some (aR (some (1, 0, 0))), some (aI (iZ x1)), some (aI (iZ x2))], [], am_hp σ, t) Q := by
  refine w_s (c' := (1, [some (aR (some (1, 0, 0))), some (aI (iZ x1)), some (aI (iZ x2))], [aR (some (1, 0, 0))], am_hp σ, t)) rfl rfl ?_
  refine w_get rfl (hp_1 _ 0) rfl rfl ?_
  refine w_s (c' := (7, [some (aR (some (1, 0, 0))), some (aI (iZ x1)), some (aI (iZ x2))], [aR (some (91, 4, 0)), aR (some (7, 30, 0))], am_hp σ, t)) rfl rfl ?_
  refine w_putC rfl (hp_7 _ 30) rfl rfl rfl ?_
  refine w_s (c' := (11, [some (aR (some (1, 0, 0))), some (aI (iZ x1)), some (aI (iZ x2))], [aR (some (1, 0, 0))], am_hp ((sC σ (7, 30, 0) 4)), t)) rfl rfl ?_
  refine w_get rfl (hp_1 _ 0) rfl rfl ?_
  refine w_s (c' := (15, [some (aR (some (1, 0, 0))), some (aI (iZ x1)), some (aI (iZ x2))], [aI (iZ x1), aR (some (7, 30, 0))], am_hp ((sC σ (7, 30, 0) 4)), t)) rfl rfl ?_
  refine w_putI rfl (hp_7 _ 30) rfl rfl rfl ?_
  refine w_s (c' := (19, [some (aR (some (1, 0, 0))), some (aI (iZ x1)), some (aI (iZ x2))], [aR (some (1, 0, 0))], am_hp ((sI (sC σ (7, 30, 0) 4) (7, 30, 0) (up (((sC σ (7, 30, 0) 4)).1 (7, 30, 0)) 3 x1))), t)) rfl rfl ?_
  refine w_get rfl (hp_1 _ 0) rfl rfl ?_
  refine w_s (c' := (23, [some (aR (some (1, 0, 0))), some (aI (iZ x1)), some (aI (iZ x2))], [aI (iZ x2), aR (some (7, 30, 0))], am_hp ((sI (sC σ (7, 30, 0) 4) (7, 30, 0) (up (((sC σ (7, 30, 0) 4)).1 (7, 30, 0)) 3 x1))), t)) rfl rfl ?_
  refine w_putI rfl (hp_7 _ 30) rfl rfl rfl ?_
  refine w_s (c' := (27, [some (aR (some (1, 0, 0))), some (aI (iZ x1)), some (aI (iZ x2))], [aR (some (1, 0, 0))], am_hp ((sI (sI (sC σ (7, 30, 0) 4) (7, 30, 0) (up (((sC σ (7, 30, 0) 4)).1 (7, 30, 0)) 3 x1)) (7, 30, 0) (up (((sI (sC σ (7, 30, 0) 4) (7, 30, 0) (up (((sC σ (7, 30, 0) 4)).1 (7, 30, 0)) 3 x1))).1 (7, 30, 0)) 5 x2))), t)) rfl rfl ?_
  refine w_c0 (c' := (30, [some (aR (some (1, 0, 0))), some (aI (iZ x1)), some (aI (iZ x2))], [aI (iZ r1)], am_hp σ1, t)) rfl rfl (rcv_of (hp_1 _ 0)) rfl c1 (Nat.le_refl _) rfl ?_
  exact w_ret rfl rfl q2

theorem bx_X11_remove_0_1 {x1 : Int} {x2 : Int} {E : Nat} {σ σ1 : SG} {t t' : KT} (c1 : Ca d 161 [aR (some (1, 0, 0))] (am_hp ((sI (sI (sC σ (7, 30, 0) 4) (7, 30, 0) (up (((sC σ (7, 30, 0) 4)).1 (7, 30, 0)) 3 x1)) (7, 30, 0) (up (((sI (sC σ (7, 30, 0) 4) (7, 30, 0) (up (((sC σ (7, 30, 0) 4)).1 (7, 30, 0)) 3 x1))).1 (7, 30, 0)) 5 x2)))) t (.inr E, am_hp σ1, t')) (q2 : Q (.inr E, am_hp σ1, t')) : Wp k_X11_remove d (0, [some (aR (some (1, 0, 0))), some (aI (iZ x1)), some (aI (iZ x2))], [], am_hp σ, t) Q := by
  refine w_s (c' := (1, [some (aR (some (1, 0, 0))), some (aI (iZ x1)), some (aI (iZ x2))], [aR (some (1, 0, 0))], am_hp σ, t)) rfl rfl ?_
  refine w_get rfl (hp_1 _ 0) rfl rfl ?_
  refine w_s (c' := (7, [some (aR (some (1, 0, 0))), some (aI (iZ x1)), some (aI (iZ x2))], [aR (some (91, 4, 0)), aR (some (7, 30, 0))], am_hp σ, t)) rfl rfl ?_
  refine w_putC rfl (hp_7 _ 30) rfl rfl rfl ?_
  refine w_s (c' := (11, [some (aR (some (1, 0, 0))), some (aI (iZ x1)), some (aI (iZ x2))], [aR (some (1, 0, 0))], am_hp ((sC σ (7, 30, 0) 4)), t)) rfl rfl ?_
  refine w_get rfl (hp_1 _ 0) rfl rfl ?_
  refine w_s (c' := (15, [some (aR (some (1, 0, 0))), some (aI (iZ x1)), some (aI (iZ x2))], [aI (iZ x1), aR (some (7, 30, 0))], am_hp ((sC σ (7, 30, 0) 4)), t)) rfl rfl ?_
  refine w_putI rfl (hp_7 _ 30) rfl rfl rfl ?_
  refine w_s (c' := (19, [some (aR (some (1, 0, 0))), some (aI (iZ x1)), some (aI (iZ x2))], [aR (some (1, 0, 0))], am_hp ((sI (sC σ (7, 30, 0) 4) (7, 30, 0) (up (((sC σ (7, 30, 0) 4)).1 (7, 30, 0)) 3 x1))), t)) rfl rfl ?_
  refine w_get rfl (hp_1 _ 0) rfl rfl ?_
  refine w_s (c' := (23, [some (aR (some (1, 0, 0))), some (aI (iZ x1)), some (aI (iZ x2))], [aI (iZ x2), aR (some (7, 30, 0))], am_hp ((sI (sC σ (7, 30, 0) 4) (7, 30, 0) (up (((sC σ (7, 30, 0) 4)).1 (7, 30, 0)) 3 x1))), t)) rfl rfl ?_
  refine w_putI rfl (hp_7 _ 30) rfl rfl rfl ?_
  refine w_s (c' := (27, [some (aR (some (1, 0, 0))), some (aI (iZ x1)), some (aI (iZ x2))], [aR (some (1, 0, 0))], am_hp ((sI (sI (sC σ (7, 30, 0) 4) (7, 30, 0) (up (((sC σ (7, 30, 0) 4)).1 (7, 30, 0)) 3 x1)) (7, 30, 0) (up (((sI (sC σ (7, 30, 0) 4) (7, 30, 0) (up (((sC σ (7, 30, 0) 4)).1 (7, 30, 0)) 3 x1))).1 (7, 30, 0)) 5 x2))), t)) rfl rfl ?_
  exact w_x rfl rfl (rcv_of (hp_1 _ 0)) rfl c1 (Nat.le_refl _) rfl q2

theorem e_X11_remove {x1 : Int} {x2 : Int} {h : AH} {t : KT} {d : Nat} {P : RS → Prop} (w : Wp k_X11_remove d (0, [some (aR (some (1, 0, 0))), some (aI (iZ x1)), some (aI (iZ x2))], [], h, t) P) : ∃ r, Ca (d + 1) 126 [aR (some (1, 0, 0)), aI (iZ x1), aI (iZ x2)] h t r ∧ P r := ca_W rfl rfl rfl rfl w

theorem b_X11_join_0 {x1 : Int} {x2 : Int} {r1 : Int} {σ σ1 : SG} {t : KT} (c1 : Ca d 161 [aR (some (1, 0, 0))] (am_hp ((sI (sI (sC σ (7, 30, 0) 5) (7, 30, 0) (up (((sC σ (7, 30, 0) 5)).1 (7, 30, 0)) 3 x1)) (7, 30, 0) (up (((sI (sC σ (7, 30, 0) 5) (7, 30, 0) (up (((sC σ (7, 30, 0) 5)).1 (7, 30, 0)) 3 x1))).1 (7, 30, 0)) 4 x2)))) t (.inl (some (aI (iZ r1))), am_hp σ1, t)) (q2 : Q (.inl (some (aI (iZ r1))), am_hp σ1, t)) : Wp k_X11_join d (0, [some (aR (some (1, 0, 0))), some (aI (iZ x1)), some (aI (iZ x2))], [], am_hp σ, t) Q := by
  refine w_s (c' := (1, [some (aR (some (1, 0, 0))), some (aI (iZ x1)), some (aI (iZ x2))], [aR (some (1, 0, 0))], am_hp σ, t)) rfl rfl ?_
  refine w_get rfl (hp_1 _ 0) rfl rfl ?_
  refine w_s (c' := (7, [some (aR (some (1, 0, 0))), some (aI (iZ x1)), some (aI (iZ x2))], [aR (some (91, 5, 0)), aR (some (7, 30, 0))], am_hp σ, t)) rfl rfl ?_
  refine w_putC rfl (hp_7 _ 30) rfl rfl rfl ?_
  refine w_s (c' := (11, [some (aR (some (1, 0, 0))), some (aI (iZ x1)), some (aI (iZ x2))], [aR (some (1, 0, 0))], am_hp ((sC σ (7, 30, 0) 5)), t)) rfl rfl ?_
  refine w_get rfl (hp_1 _ 0) rfl rfl ?_
  refine w_s (c' := (15, [some (aR (some (1, 0, 0))), some (aI (iZ x1)), some (aI (iZ x2))], [aI (iZ x1), aR (some (7, 30, 0))], am_hp ((sC σ (7, 30, 0) 5)), t)) rfl rfl ?_
  refine w_putI rfl (hp_7 _ 30) rfl rfl rfl ?_
  refine w_s (c' := (19, [some (aR (some (1, 0, 0))), some (aI (iZ x1)), some (aI (iZ x2))], [aR (some (1, 0, 0))], am_hp ((sI (sC σ (7, 30, 0) 5) (7, 30, 0) (up (((sC σ (7, 30, 0) 5)).1 (7, 30, 0)) 3 x1))), t)) rfl rfl ?_
  refine w_get rfl (hp_1 _ 0) rfl rfl ?_
  refine w_s (c' := (23, [some (aR (some (1, 0, 0))), some (aI (iZ x1)), some (aI (iZ x2))], [aI (iZ x2), aR (some (7, 30, 0))], am_hp ((sI (sC σ (7, 30, 0) 5) (7, 30, 0) (up (((sC σ (7, 30, 0) 5)).1 (7, 30, 0)) 3 x1))), t)) rfl rfl ?_
  refine w_putI rfl (hp_7 _ 30) rfl rfl rfl ?_
  refine w_s (c' := (27, [some (aR (some (1, 0, 0))), some (aI (iZ x1)), some (aI (iZ x2))], [aR (some (1, 0, 0))], am_hp ((sI (sI (sC σ (7, 30, 0) 5) (7, 30, 0) (up (((sC σ (7, 30, 0) 5)).1 (7, 30, 0)) 3 x1)) (7, 30, 0) (up (((sI (sC σ (7, 30, 0) 5) (7, 30, 0) (up (((sC σ (7, 30, 0) 5)).1 (7, 30, 0)) 3 x1))).1 (7, 30, 0)) 4 x2))), t)) rfl rfl ?_
  refine w_c0 (c' := (30, [some (aR (some (1, 0, 0))), some (aI (iZ x1)), some (aI (iZ x2))], [aI (iZ r1)], am_hp σ1, t)) rfl rfl (rcv_of (hp_1 _ 0)) rfl c1 (Nat.le_refl _) rfl ?_
  exact w_ret rfl rfl q2

theorem bx_X11_join_0_1 {x1 : Int} {x2 : Int} {E : Nat} {σ σ1 : SG} {t t' : KT} (c1 : Ca d 161 [aR (some (1, 0, 0))] (am_hp ((sI (sI (sC σ (7, 30, 0) 5) (7, 30, 0) (up (((sC σ (7, 30, 0) 5)).1 (7, 30, 0)) 3 x1)) (7, 30, 0) (up (((sI (sC σ (7, 30, 0) 5) (7, 30, 0) (up (((sC σ (7, 30, 0) 5)).1 (7, 30, 0)) 3 x1))).1 (7, 30, 0)) 4 x2)))) t (.inr E, am_hp σ1, t')) (q2 : Q (.inr E, am_hp σ1, t')) : Wp k_X11_join d (0, [some (aR (some (1, 0, 0))), some (aI (iZ x1)), some (aI (iZ x2))], [], am_hp σ, t) Q := by
  refine w_s (c' := (1, [some (aR (some (1, 0, 0))), some (aI (iZ x1)), some (aI (iZ x2))], [aR (some (1, 0, 0))], am_hp σ, t)) rfl rfl ?_
  refine w_get rfl (hp_1 _ 0) rfl rfl ?_
  refine w_s (c' := (7, [some (aR (some (1, 0, 0))), some (aI (iZ x1)), some (aI (iZ x2))], [aR (some (91, 5, 0)), aR (some (7, 30, 0))], am_hp σ, t)) rfl rfl ?_
  refine w_putC rfl (hp_7 _ 30) rfl rfl rfl ?_
  refine w_s (c' := (11, [some (aR (some (1, 0, 0))), some (aI (iZ x1)), some (aI (iZ x2))], [aR (some (1, 0, 0))], am_hp ((sC σ (7, 30, 0) 5)), t)) rfl rfl ?_
  refine w_get rfl (hp_1 _ 0) rfl rfl ?_
  refine w_s (c' := (15, [some (aR (some (1, 0, 0))), some (aI (iZ x1)), some (aI (iZ x2))], [aI (iZ x1), aR (some (7, 30, 0))], am_hp ((sC σ (7, 30, 0) 5)), t)) rfl rfl ?_
  refine w_putI rfl (hp_7 _ 30) rfl rfl rfl ?_
  refine w_s (c' := (19, [some (aR (some (1, 0, 0))), some (aI (iZ x1)), some (aI (iZ x2))], [aR (some (1, 0, 0))], am_hp ((sI (sC σ (7, 30, 0) 5) (7, 30, 0) (up (((sC σ (7, 30, 0) 5)).1 (7, 30, 0)) 3 x1))), t)) rfl rfl ?_
  refine w_get rfl (hp_1 _ 0) rfl rfl ?_
  refine w_s (c' := (23, [some (aR (some (1, 0, 0))), some (aI (iZ x1)), some (aI (iZ x2))], [aI (iZ x2), aR (some (7, 30, 0))], am_hp ((sI (sC σ (7, 30, 0) 5) (7, 30, 0) (up (((sC σ (7, 30, 0) 5)).1 (7, 30, 0)) 3 x1))), t)) rfl rfl ?_
  refine w_putI rfl (hp_7 _ 30) rfl rfl rfl ?_
  refine w_s (c' := (27, [some (aR (some (1, 0, 0))), some (aI (iZ x1)), some (aI (iZ x2))], [aR (some (1, 0, 0))], am_hp ((sI (sI (sC σ (7, 30, 0) 5) (7, 30, 0) (up (((sC σ (7, 30, 0) 5)).1 (7, 30, 0)) 3 x1)) (7, 30, 0) (up (((sI (sC σ (7, 30, 0) 5) (7, 30, 0) (up (((sC σ (7, 30, 0) 5)).1 (7, 30, 0)) 3 x1))).1 (7, 30, 0)) 4 x2))), t)) rfl rfl ?_
  exact w_x rfl rfl (rcv_of (hp_1 _ 0)) rfl c1 (Nat.le_refl _) rfl q2

theorem e_X11_join {x1 : Int} {x2 : Int} {h : AH} {t : KT} {d : Nat} {P : RS → Prop} (w : Wp k_X11_join d (0, [some (aR (some (1, 0, 0))), some (aI (iZ x1)), some (aI (iZ x2))], [], h, t) P) : ∃ r, Ca (d + 1) 127 [aR (some (1, 0, 0)), aI (iZ x1), aI (iZ x2)] h t r ∧ P r := ca_W rfl rfl rfl rfl w

theorem b_X11_setRule_0 {x1 : Int} {r1 : Int} {σ σ1 : SG} {t : KT} (c1 : Ca d 162 [aR (some (1, 0, 0))] (am_hp ((sI (sC σ (7, 30, 0) 6) (7, 30, 0) (up (((sC σ (7, 30, 0) 6)).1 (7, 30, 0)) 6 x1)))) t (.inl (some (aI (iZ r1))), am_hp σ1, t)) (q2 : Q (.inl (some (aI (iZ (σ.1 (8, 0, 0) 5)))), am_hp σ1, t)) : Wp k_X11_setRule d (0, [some (aR (some (1, 0, 0))), some (aI (iZ x1)), none], [], am_hp σ, t) Q := by
  refine w_s (c' := (1, [some (aR (some (1, 0, 0))), some (aI (iZ x1)), none], [aR (some (1, 0, 0))], am_hp σ, t)) rfl rfl ?_
  refine w_get rfl (hp_1 _ 0) rfl rfl ?_
  refine w_get rfl (hp_8 _ 0) rfl rfl ?_
  refine w_s (c' := (8, [some (aR (some (1, 0, 0))), some (aI (iZ x1)), some (aI (iZ (σ.1 (8, 0, 0) 5)))], [], am_hp σ, t)) rfl rfl ?_
  refine w_s (c' := (9, [some (aR (some (1, 0, 0))), some (aI (iZ x1)), some (aI (iZ (σ.1 (8, 0, 0) 5)))], [aR (some (1, 0, 0))], am_hp σ, t)) rfl rfl ?_
  refine w_get rfl (hp_1 _ 0) rfl rfl ?_
  refine w_s (c' := (15, [some (aR (some (1, 0, 0))), some (aI (iZ x1)), some (aI (iZ (σ.1 (8, 0, 0) 5)))], [aR (some (91, 6, 0)), aR (some (7, 30, 0))], am_hp σ, t)) rfl rfl ?_
  refine w_putC rfl (hp_7 _ 30) rfl rfl rfl ?_
  refine w_s (c' := (19, [some (aR (some (1, 0, 0))), some (aI (iZ x1)), some (aI (iZ (σ.1 (8, 0, 0) 5)))], [aR (some (1, 0, 0))], am_hp ((sC σ (7, 30, 0) 6)), t)) rfl rfl ?_
  refine w_get rfl (hp_1 _ 0) rfl rfl ?_
  refine w_s (c' := (23, [some (aR (some (1, 0, 0))), some (aI (iZ x1)), some (aI (iZ (σ.1 (8, 0, 0) 5)))], [aI (iZ x1), aR (some (7, 30, 0))], am_hp ((sC σ (7, 30, 0) 6)), t)) rfl rfl ?_
  refine w_putI rfl (hp_7 _ 30) rfl rfl rfl ?_
  refine w_s (c' := (27, [some (aR (some (1, 0, 0))), some (aI (iZ x1)), some (aI (iZ (σ.1 (8, 0, 0) 5)))], [aR (some (1, 0, 0))], am_hp ((sI (sC σ (7, 30, 0) 6) (7, 30, 0) (up (((sC σ (7, 30, 0) 6)).1 (7, 30, 0)) 6 x1))), t)) rfl rfl ?_
  refine w_c0 (c' := (30, [some (aR (some (1, 0, 0))), some (aI (iZ x1)), some (aI (iZ (σ.1 (8, 0, 0) 5)))], [aI (iZ r1)], am_hp σ1, t)) rfl rfl (rcv_of (hp_1 _ 0)) rfl c1 (Nat.le_refl _) rfl ?_
  refine w_s (c' := (31, [some (aR (some (1, 0, 0))), some (aI (iZ x1)), some (aI (iZ (σ.1 (8, 0, 0) 5)))], [], am_hp σ1, t)) rfl rfl ?_
  refine w_s (c' := (32, [some (aR (some (1, 0, 0))), some (aI (iZ x1)), some (aI (iZ (σ.1 (8, 0, 0) 5)))], [aI (iZ (σ.1 (8, 0, 0) 5))], am_hp σ1, t)) rfl rfl ?_
  exact w_ret rfl rfl q2

theorem bx_X11_setRule_0_1 {x1 : Int} {E : Nat} {σ σ1 : SG} {t t' : KT} (c1 : Ca d 162 [aR (some (1, 0, 0))] (am_hp ((sI (sC σ (7, 30, 0) 6) (7, 30, 0) (up (((sC σ (7, 30, 0) 6)).1 (7, 30, 0)) 6 x1)))) t (.inr E, am_hp σ1, t')) (q2 : Q (.inr E, am_hp σ1, t')) : Wp k_X11_setRule d (0, [some (aR (some (1, 0, 0))), some (aI (iZ x1)), none], [], am_hp σ, t) Q := by
  refine w_s (c' := (1, [some (aR (some (1, 0, 0))), some (aI (iZ x1)), none], [aR (some (1, 0, 0))], am_hp σ, t)) rfl rfl ?_
  refine w_get rfl (hp_1 _ 0) rfl rfl ?_
  refine w_get rfl (hp_8 _ 0) rfl rfl ?_
  refine w_s (c' := (8, [some (aR (some (1, 0, 0))), some (aI (iZ x1)), some (aI (iZ (σ.1 (8, 0, 0) 5)))], [], am_hp σ, t)) rfl rfl ?_
  refine w_s (c' := (9, [some (aR (some (1, 0, 0))), some (aI (iZ x1)), some (aI (iZ (σ.1 (8, 0, 0) 5)))], [aR (some (1, 0, 0))], am_hp σ, t)) rfl rfl ?_
  refine w_get rfl (hp_1 _ 0) rfl rfl ?_
  refine w_s (c' := (15, [some (aR (some (1, 0, 0))), some (aI (iZ x1)), some (aI (iZ (σ.1 (8, 0, 0) 5)))], [aR (some (91, 6, 0)), aR (some (7, 30, 0))], am_hp σ, t)) rfl rfl ?_
  refine w_putC rfl (hp_7 _ 30) rfl rfl rfl ?_
  refine w_s (c' := (19, [some (aR (some (1, 0, 0))), some (aI (iZ x1)), some (aI (iZ (σ.1 (8, 0, 0) 5)))], [aR (some (1, 0, 0))], am_hp ((sC σ (7, 30, 0) 6)), t)) rfl rfl ?_
  refine w_get rfl (hp_1 _ 0) rfl rfl ?_
  refine w_s (c' := (23, [some (aR (some (1, 0, 0))), some (aI (iZ x1)), some (aI (iZ (σ.1 (8, 0, 0) 5)))], [aI (iZ x1), aR (some (7, 30, 0))], am_hp ((sC σ (7, 30, 0) 6)), t)) rfl rfl ?_
  refine w_putI rfl (hp_7 _ 30) rfl rfl rfl ?_
  refine w_s (c' := (27, [some (aR (some (1, 0, 0))), some (aI (iZ x1)), some (aI (iZ (σ.1 (8, 0, 0) 5)))], [aR (some (1, 0, 0))], am_hp ((sI (sC σ (7, 30, 0) 6) (7, 30, 0) (up (((sC σ (7, 30, 0) 6)).1 (7, 30, 0)) 6 x1))), t)) rfl rfl ?_
  exact w_x rfl rfl (rcv_of (hp_1 _ 0)) rfl c1 (Nat.le_refl _) rfl q2

theorem e_X11_setRule {x1 : Int} {h : AH} {t : KT} {d : Nat} {P : RS → Prop} (w : Wp k_X11_setRule d (0, [some (aR (some (1, 0, 0))), some (aI (iZ x1)), none], [], h, t) P) : ∃ r, Ca (d + 1) 128 [aR (some (1, 0, 0)), aI (iZ x1)] h t r ∧ P r := ca_W rfl rfl rfl rfl w

theorem b_X11_setSkip_0 {x1 : Int} {r1 : Int} {σ σ1 : SG} {t : KT} (c1 : Ca d 162 [aR (some (1, 0, 0))] (am_hp ((sI (sC σ (7, 30, 0) 7) (7, 30, 0) (up (((sC σ (7, 30, 0) 7)).1 (7, 30, 0)) 6 x1)))) t (.inl (some (aI (iZ r1))), am_hp σ1, t)) (q2 : Q (.inl (some (aI (iZ (σ.1 (8, 0, 0) 6)))), am_hp σ1, t)) : Wp k_X11_setSkip d (0, [some (aR (some (1, 0, 0))), some (aI (iZ x1)), none], [], am_hp σ, t) Q := by
  refine w_s (c' := (1, [some (aR (some (1, 0, 0))), some (aI (iZ x1)), none], [aR (some (1, 0, 0))], am_hp σ, t)) rfl rfl ?_
  refine w_get rfl (hp_1 _ 0) rfl rfl ?_
  refine w_get rfl (hp_8 _ 0) rfl rfl ?_
  refine w_s (c' := (8, [some (aR (some (1, 0, 0))), some (aI (iZ x1)), some (aI (iZ (σ.1 (8, 0, 0) 6)))], [], am_hp σ, t)) rfl rfl ?_
  refine w_s (c' := (9, [some (aR (some (1, 0, 0))), some (aI (iZ x1)), some (aI (iZ (σ.1 (8, 0, 0) 6)))], [aR (some (1, 0, 0))], am_hp σ, t)) rfl rfl ?_
  refine w_get rfl (hp_1 _ 0) rfl rfl ?_
  refine w_s (c' := (15, [some (aR (some (1, 0, 0))), some (aI (iZ x1)), some (aI (iZ (σ.1 (8, 0, 0) 6)))], [aR (some (91, 7, 0)), aR (some (7, 30, 0))], am_hp σ, t)) rfl rfl ?_
  refine w_putC rfl (hp_7 _ 30) rfl rfl rfl ?_
  refine w_s (c' := (19, [some (aR (some (1, 0, 0))), some (aI (iZ x1)), some (aI (iZ (σ.1 (8, 0, 0) 6)))], [aR (some (1, 0, 0))], am_hp ((sC σ (7, 30, 0) 7)), t)) rfl rfl ?_
  refine w_get rfl (hp_1 _ 0) rfl rfl ?_
  refine w_s (c' := (23, [some (aR (some (1, 0, 0))), some (aI (iZ x1)), some (aI (iZ (σ.1 (8, 0, 0) 6)))], [aI (iZ x1), aR (some (7, 30, 0))], am_hp ((sC σ (7, 30, 0) 7)), t)) rfl rfl ?_
  refine w_putI rfl (hp_7 _ 30) rfl rfl rfl ?_
  refine w_s (c' := (27, [some (aR (some (1, 0, 0))), some (aI (iZ x1)), some (aI (iZ (σ.1 (8, 0, 0) 6)))], [aR (some (1, 0, 0))], am_hp ((sI (sC σ (7, 30, 0) 7) (7, 30, 0) (up (((sC σ (7, 30, 0) 7)).1 (7, 30, 0)) 6 x1))), t)) rfl rfl ?_
  refine w_c0 (c' := (30, [some (aR (some (1, 0, 0))), some (aI (iZ x1)), some (aI (iZ (σ.1 (8, 0, 0) 6)))], [aI (iZ r1)], am_hp σ1, t)) rfl rfl (rcv_of (hp_1 _ 0)) rfl c1 (Nat.le_refl _) rfl ?_
  refine w_s (c' := (31, [some (aR (some (1, 0, 0))), some (aI (iZ x1)), some (aI (iZ (σ.1 (8, 0, 0) 6)))], [], am_hp σ1, t)) rfl rfl ?_
  refine w_s (c' := (32, [some (aR (some (1, 0, 0))), some (aI (iZ x1)), some (aI (iZ (σ.1 (8, 0, 0) 6)))], [aI (iZ (σ.1 (8, 0, 0) 6))], am_hp σ1, t)) rfl rfl ?_
  exact w_ret rfl rfl q2

theorem bx_X11_setSkip_0_1 {x1 : Int} {E : Nat} {σ σ1 : SG} {t t' : KT} (c1 : Ca d 162 [aR (some (1, 0, 0))] (am_hp ((sI (sC σ (7, 30, 0) 7) (7, 30, 0) (up (((sC σ (7, 30, 0) 7)).1 (7, 30, 0)) 6 x1)))) t (.inr E, am_hp σ1, t')) (q2 : Q (.inr E, am_hp σ1, t')) : Wp k_X11_setSkip d (0, [some (aR (some (1, 0, 0))), some (aI (iZ x1)), none], [], am_hp σ, t) Q := by
  refine w_s (c' := (1, [some (aR (some (1, 0, 0))), some (aI (iZ x1)), none], [aR (some (1, 0, 0))], am_hp σ, t)) rfl rfl ?_
  refine w_get rfl (hp_1 _ 0) rfl rfl ?_
  refine w_get rfl (hp_8 _ 0) rfl rfl ?_
  refine w_s (c' := (8, [some (aR (some (1, 0, 0))), some (aI (iZ x1)), some (aI (iZ (σ.1 (8, 0, 0) 6)))], [], am_hp σ, t)) rfl rfl ?_
  refine w_s (c' := (9, [some (aR (some (1, 0, 0))), some (aI (iZ x1)), some (aI (iZ (σ.1 (8, 0, 0) 6)))], [aR (some (1, 0, 0))], am_hp σ, t)) rfl rfl ?_
  refine w_get rfl (hp_1 _ 0) rfl rfl ?_
  refine w_s (c' := (15, [some (aR (some (1, 0, 0))), some (aI (iZ x1)), some (aI (iZ (σ.1 (8, 0, 0) 6)))], [aR (some (91, 7, 0)), aR (some (7, 30, 0))], am_hp σ, t)) rfl rfl ?_
  refine w_putC rfl (hp_7 _ 30) rfl rfl rfl ?_
  refine w_s (c' := (19, [some (aR (some (1, 0, 0))), some (aI (iZ x1)), some (aI (iZ (σ.1 (8, 0, 0) 6)))], [aR (some (1, 0, 0))], am_hp ((sC σ (7, 30, 0) 7)), t)) rfl rfl ?_
  refine w_get rfl (hp_1 _ 0) rfl rfl ?_
  refine w_s (c' := (23, [some (aR (some (1, 0, 0))), some (aI (iZ x1)), some (aI (iZ (σ.1 (8, 0, 0) 6)))], [aI (iZ x1), aR (some (7, 30, 0))], am_hp ((sC σ (7, 30, 0) 7)), t)) rfl rfl ?_
  refine w_putI rfl (hp_7 _ 30) rfl rfl rfl ?_
  refine w_s (c' := (27, [some (aR (some (1, 0, 0))), some (aI (iZ x1)), some (aI (iZ (σ.1 (8, 0, 0) 6)))], [aR (some (1, 0, 0))], am_hp ((sI (sC σ (7, 30, 0) 7) (7, 30, 0) (up (((sC σ (7, 30, 0) 7)).1 (7, 30, 0)) 6 x1))), t)) rfl rfl ?_
  exact w_x rfl rfl (rcv_of (hp_1 _ 0)) rfl c1 (Nat.le_refl _) rfl q2

theorem e_X11_setSkip {x1 : Int} {h : AH} {t : KT} {d : Nat} {P : RS → Prop} (w : Wp k_X11_setSkip d (0, [some (aR (some (1, 0, 0))), some (aI (iZ x1)), none], [], h, t) P) : ∃ r, Ca (d + 1) 129 [aR (some (1, 0, 0)), aI (iZ x1)] h t r ∧ P r := ca_W rfl rfl rfl rfl w

theorem b_X11_setPrice_0 {x1 : Int} {x2 : Int} {r2 : Int} {σ σ1 σ2 : SG} {t : KT} (c1 : Ca d 141 [aI (iZ x1)] (am_hp σ) t (.inl none, am_hp σ1, t)) (h2 : 0 ≤ x1 ∧ x1 < 9) (c3 : Ca d 162 [aR (some (1, 0, 0))] (am_hp ((sI (sI (sC σ1 (7, 30, 0) 8) (7, 30, 0) (up (((sC σ1 (7, 30, 0) 8)).1 (7, 30, 0)) 5 x1)) (7, 30, 0) (up (((sI (sC σ1 (7, 30, 0) 8) (7, 30, 0) (up (((sC σ1 (7, 30, 0) 8)).1 (7, 30, 0)) 5 x1))).1 (7, 30, 0)) 6 x2)))) t (.inl (some (aI (iZ r2))), am_hp σ2, t)) (q4 : Q (.inl (some (aI (iZ (σ1.1 (13, 0, 0) x1.toNat)))), am_hp σ2, t)) : Wp k_X11_setPrice d (0, [some (aR (some (1, 0, 0))), some (aI (iZ x1)), some (aI (iZ x2)), none], [], am_hp σ, t) Q := by
  refine w_s (c' := (1, [some (aR (some (1, 0, 0))), some (aI (iZ x1)), some (aI (iZ x2)), none], [aI (iZ x1)], am_hp σ, t)) rfl rfl ?_
  refine w_c0 (c' := (4, [some (aR (some (1, 0, 0))), some (aI (iZ x1)), some (aI (iZ x2)), none], [], am_hp σ1, t)) rfl rfl rfl rfl c1 (Nat.le_refl _) rfl ?_
  refine w_s (c' := (5, [some (aR (some (1, 0, 0))), some (aI (iZ x1)), some (aI (iZ x2)), none], [aR (some (1, 0, 0))], am_hp σ1, t)) rfl rfl ?_
  refine w_get rfl (hp_1 _ 0) rfl rfl ?_
  refine w_get rfl (hp_8 _ 0) rfl rfl ?_
  refine w_s (c' := (12, [some (aR (some (1, 0, 0))), some (aI (iZ x1)), some (aI (iZ x2)), none], [aI (iZ x1), aR (some (13, 0, 0))], am_hp σ1, t)) rfl rfl ?_
  refine w_ial rfl (hp_13 _ 0 0) h2 rfl rfl ?_
  refine w_s (c' := (14, [some (aR (some (1, 0, 0))), some (aI (iZ x1)), some (aI (iZ x2)), some (aI (iZ (σ1.1 (13, 0, 0) x1.toNat)))], [], am_hp σ1, t)) rfl rfl ?_
  refine w_s (c' := (15, [some (aR (some (1, 0, 0))), some (aI (iZ x1)), some (aI (iZ x2)), some (aI (iZ (σ1.1 (13, 0, 0) x1.toNat)))], [aR (some (1, 0, 0))], am_hp σ1, t)) rfl rfl ?_
  refine w_get rfl (hp_1 _ 0) rfl rfl ?_
  refine w_s (c' := (21, [some (aR (some (1, 0, 0))), some (aI (iZ x1)), some (aI (iZ x2)), some (aI (iZ (σ1.1 (13, 0, 0) x1.toNat)))], [aR (some (91, 8, 0)), aR (some (7, 30, 0))], am_hp σ1, t)) rfl rfl ?_
  refine w_putC rfl (hp_7 _ 30) rfl rfl rfl ?_
  refine w_s (c' := (25, [some (aR (some (1, 0, 0))), some (aI (iZ x1)), some (aI (iZ x2)), some (aI (iZ (σ1.1 (13, 0, 0) x1.toNat)))], [aR (some (1, 0, 0))], am_hp ((sC σ1 (7, 30, 0) 8)), t)) rfl rfl ?_
  refine w_get rfl (hp_1 _ 0) rfl rfl ?_
  refine w_s (c' := (29, [some (aR (some (1, 0, 0))), some (aI (iZ x1)), some (aI (iZ x2)), some (aI (iZ (σ1.1 (13, 0, 0) x1.toNat)))], [aI (iZ x1), aR (some (7, 30, 0))], am_hp ((sC σ1 (7, 30, 0) 8)), t)) rfl rfl ?_
  refine w_putI rfl (hp_7 _ 30) rfl rfl rfl ?_
  refine w_s (c' := (33, [some (aR (some (1, 0, 0))), some (aI (iZ x1)), some (aI (iZ x2)), some (aI (iZ (σ1.1 (13, 0, 0) x1.toNat)))], [aR (some (1, 0, 0))], am_hp ((sI (sC σ1 (7, 30, 0) 8) (7, 30, 0) (up (((sC σ1 (7, 30, 0) 8)).1 (7, 30, 0)) 5 x1))), t)) rfl rfl ?_
  refine w_get rfl (hp_1 _ 0) rfl rfl ?_
  refine w_s (c' := (37, [some (aR (some (1, 0, 0))), some (aI (iZ x1)), some (aI (iZ x2)), some (aI (iZ (σ1.1 (13, 0, 0) x1.toNat)))], [aI (iZ x2), aR (some (7, 30, 0))], am_hp ((sI (sC σ1 (7, 30, 0) 8) (7, 30, 0) (up (((sC σ1 (7, 30, 0) 8)).1 (7, 30, 0)) 5 x1))), t)) rfl rfl ?_
  refine w_putI rfl (hp_7 _ 30) rfl rfl rfl ?_
  refine w_s (c' := (41, [some (aR (some (1, 0, 0))), some (aI (iZ x1)), some (aI (iZ x2)), some (aI (iZ (σ1.1 (13, 0, 0) x1.toNat)))], [aR (some (1, 0, 0))], am_hp ((sI (sI (sC σ1 (7, 30, 0) 8) (7, 30, 0) (up (((sC σ1 (7, 30, 0) 8)).1 (7, 30, 0)) 5 x1)) (7, 30, 0) (up (((sI (sC σ1 (7, 30, 0) 8) (7, 30, 0) (up (((sC σ1 (7, 30, 0) 8)).1 (7, 30, 0)) 5 x1))).1 (7, 30, 0)) 6 x2))), t)) rfl rfl ?_
  refine w_c0 (c' := (44, [some (aR (some (1, 0, 0))), some (aI (iZ x1)), some (aI (iZ x2)), some (aI (iZ (σ1.1 (13, 0, 0) x1.toNat)))], [aI (iZ r2)], am_hp σ2, t)) rfl rfl (rcv_of (hp_1 _ 0)) rfl c3 (Nat.le_refl _) rfl ?_
  refine w_s (c' := (45, [some (aR (some (1, 0, 0))), some (aI (iZ x1)), some (aI (iZ x2)), some (aI (iZ (σ1.1 (13, 0, 0) x1.toNat)))], [], am_hp σ2, t)) rfl rfl ?_
  refine w_s (c' := (46, [some (aR (some (1, 0, 0))), some (aI (iZ x1)), some (aI (iZ x2)), some (aI (iZ (σ1.1 (13, 0, 0) x1.toNat)))], [aI (iZ (σ1.1 (13, 0, 0) x1.toNat))], am_hp σ2, t)) rfl rfl ?_
  exact w_ret rfl rfl q4

theorem bx_X11_setPrice_0_1 {x1 : Int} {x2 : Int} {E : Nat} {σ σ1 σ2 : SG} {t t' : KT} (c1 : Ca d 141 [aI (iZ x1)] (am_hp σ) t (.inr E, am_hp σ1, t')) (q2 : Q (.inr E, am_hp σ1, t')) : Wp k_X11_setPrice d (0, [some (aR (some (1, 0, 0))), some (aI (iZ x1)), some (aI (iZ x2)), none], [], am_hp σ, t) Q := by
  refine w_s (c' := (1, [some (aR (some (1, 0, 0))), some (aI (iZ x1)), some (aI (iZ x2)), none], [aI (iZ x1)], am_hp σ, t)) rfl rfl ?_
  exact w_x rfl rfl rfl rfl c1 (Nat.le_refl _) rfl q2

theorem bx_X11_setPrice_0_2 {x1 : Int} {x2 : Int} {E : Nat} {σ σ1 σ2 : SG} {t t' : KT} (c1 : Ca d 141 [aI (iZ x1)] (am_hp σ) t (.inl none, am_hp σ1, t)) (h2 : 0 ≤ x1 ∧ x1 < 9) (c3 : Ca d 162 [aR (some (1, 0, 0))] (am_hp ((sI (sI (sC σ1 (7, 30, 0) 8) (7, 30, 0) (up (((sC σ1 (7, 30, 0) 8)).1 (7, 30, 0)) 5 x1)) (7, 30, 0) (up (((sI (sC σ1 (7, 30, 0) 8) (7, 30, 0) (up (((sC σ1 (7, 30, 0) 8)).1 (7, 30, 0)) 5 x1))).1 (7, 30, 0)) 6 x2)))) t (.inr E, am_hp σ2, t')) (q4 : Q (.inr E, am_hp σ2, t')) : Wp k_X11_setPrice d (0, [some (aR (some (1, 0, 0))), some (aI (iZ x1)), some (aI (iZ x2)), none], [], am_hp σ, t) Q := by
  refine w_s (c' := (1, [some (aR (some (1, 0, 0))), some (aI (iZ x1)), some (aI (iZ x2)), none], [aI (iZ x1)], am_hp σ, t)) rfl rfl ?_
  refine w_c0 (c' := (4, [some (aR (some (1, 0, 0))), some (aI (iZ x1)), some (aI (iZ x2)), none], [], am_hp σ1, t)) rfl rfl rfl rfl c1 (Nat.le_refl _) rfl ?_
  refine w_s (c' := (5, [some (aR (some (1, 0, 0))), some (aI (iZ x1)), some (aI (iZ x2)), none], [aR (some (1, 0, 0))], am_hp σ1, t)) rfl rfl ?_
  refine w_get rfl (hp_1 _ 0) rfl rfl ?_
  refine w_get rfl (hp_8 _ 0) rfl rfl ?_
  refine w_s (c' := (12, [some (aR (some (1, 0, 0))), some (aI (iZ x1)), some (aI (iZ x2)), none], [aI (iZ x1), aR (some (13, 0, 0))], am_hp σ1, t)) rfl rfl ?_
  refine w_ial rfl (hp_13 _ 0 0) h2 rfl rfl ?_
  refine w_s (c' := (14, [some (aR (some (1, 0, 0))), some (aI (iZ x1)), some (aI (iZ x2)), some (aI (iZ (σ1.1 (13, 0, 0) x1.toNat)))], [], am_hp σ1, t)) rfl rfl ?_
  refine w_s (c' := (15, [some (aR (some (1, 0, 0))), some (aI (iZ x1)), some (aI (iZ x2)), some (aI (iZ (σ1.1 (13, 0, 0) x1.toNat)))], [aR (some (1, 0, 0))], am_hp σ1, t)) rfl rfl ?_
  refine w_get rfl (hp_1 _ 0) rfl rfl ?_
  refine w_s (c' := (21, [some (aR (some (1, 0, 0))), some (aI (iZ x1)), some (aI (iZ x2)), some (aI (iZ (σ1.1 (13, 0, 0) x1.toNat)))], [aR (some (91, 8, 0)), aR (some (7, 30, 0))], am_hp σ1, t)) rfl rfl ?_
  refine w_putC rfl (hp_7 _ 30) rfl rfl rfl ?_
  refine w_s (c' := (25, [some (aR (some (1, 0, 0))), some (aI (iZ x1)), some (aI (iZ x2)), some (aI (iZ (σ1.1 (13, 0, 0) x1.toNat)))], [aR (some (1, 0, 0))], am_hp ((sC σ1 (7, 30, 0) 8)), t)) rfl rfl ?_
  refine w_get rfl (hp_1 _ 0) rfl rfl ?_
  refine w_s (c' := (29, [some (aR (some (1, 0, 0))), some (aI (iZ x1)), some (aI (iZ x2)), some (aI (iZ (σ1.1 (13, 0, 0) x1.toNat)))], [aI (iZ x1), aR (some (7, 30, 0))], am_hp ((sC σ1 (7, 30, 0) 8)), t)) rfl rfl ?_
  refine w_putI rfl (hp_7 _ 30) rfl rfl rfl ?_
  refine w_s (c' := (33, [some (aR (some (1, 0, 0))), some (aI (iZ x1)), some (aI (iZ x2)), some (aI (iZ (σ1.1 (13, 0, 0) x1.toNat)))], [aR (some (1, 0, 0))], am_hp ((sI (sC σ1 (7, 30, 0) 8) (7, 30, 0) (up (((sC σ1 (7, 30, 0) 8)).1 (7, 30, 0)) 5 x1))), t)) rfl rfl ?_
  refine w_get rfl (hp_1 _ 0) rfl rfl ?_
  refine w_s (c' := (37, [some (aR (some (1, 0, 0))), some (aI (iZ x1)), some (aI (iZ x2)), some (aI (iZ (σ1.1 (13, 0, 0) x1.toNat)))], [aI (iZ x2), aR (some (7, 30, 0))], am_hp ((sI (sC σ1 (7, 30, 0) 8) (7, 30, 0) (up (((sC σ1 (7, 30, 0) 8)).1 (7, 30, 0)) 5 x1))), t)) rfl rfl ?_
  refine w_putI rfl (hp_7 _ 30) rfl rfl rfl ?_
  refine w_s (c' := (41, [some (aR (some (1, 0, 0))), some (aI (iZ x1)), some (aI (iZ x2)), some (aI (iZ (σ1.1 (13, 0, 0) x1.toNat)))], [aR (some (1, 0, 0))], am_hp ((sI (sI (sC σ1 (7, 30, 0) 8) (7, 30, 0) (up (((sC σ1 (7, 30, 0) 8)).1 (7, 30, 0)) 5 x1)) (7, 30, 0) (up (((sI (sC σ1 (7, 30, 0) 8) (7, 30, 0) (up (((sC σ1 (7, 30, 0) 8)).1 (7, 30, 0)) 5 x1))).1 (7, 30, 0)) 6 x2))), t)) rfl rfl ?_
  exact w_x rfl rfl (rcv_of (hp_1 _ 0)) rfl c3 (Nat.le_refl _) rfl q4

theorem e_X11_setPrice {x1 : Int} {x2 : Int} {h : AH} {t : KT} {d : Nat} {P : RS → Prop} (w : Wp k_X11_setPrice d (0, [some (aR (some (1, 0, 0))), some (aI (iZ x1)), some (aI (iZ x2)), none], [], h, t) P) : ∃ r, Ca (d + 1) 130 [aR (some (1, 0, 0)), aI (iZ x1), aI (iZ x2)] h t r ∧ P r := ca_W rfl rfl rfl rfl w
end PCS
