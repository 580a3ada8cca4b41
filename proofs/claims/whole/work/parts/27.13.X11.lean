/-! PIECES: X11 -/
set_option maxRecDepth 4000
section PCS
variable {d : Nat} {Q : RS → Prop}
theorem b_X11_readsAhead_0 {x1 : Int} {x2 : Int} {r1 : Int} {r2 : Int} {σ σ1 σ2 : SG} {t : KT} (h1 : 0 ≤ x1 ∧ x1 < 4) (c2 : Ca d 16 [aR (some (28, x1.toNat, 0)), aI (iZ x2)] (am_hp σ) t (.inl (some (aI (iZ r1))), am_hp σ1, t)) (c3 : Ca d 157 [aI (iZ r1), aI (iZ (σ1.1 (8, 0, 0) 6))] (am_hp σ1) t (.inl (some (aI (iZ r2))), am_hp σ2, t)) (w4 : Wp k_X11_readsAhead d (34, [some (aR (some (1, 0, 0))), some (aI (iZ x1)), some (aI (iZ x2)), some (aR (some (28, x1.toNat, 0))), some (aI (iZ r1)), some (aI (iZ 0)), some (aI (iZ (r1 - r2)))], [], am_hp σ2, t) Q) : Wp k_X11_readsAhead d (0, [some (aR (some (1, 0, 0))), some (aI (iZ x1)), some (aI (iZ x2)), none, none, none, none], [], am_hp σ, t) Q := by
  refine w_s (c' := (1, [some (aR (some (1, 0, 0))), some (aI (iZ x1)), some (aI (iZ x2)), none, none, none, none], [aR (some (1, 0, 0))], am_hp σ, t)) rfl rfl ?_
  refine w_get rfl (hp_1 _ 0) rfl rfl ?_
  refine w_s (c' := (5, [some (aR (some (1, 0, 0))), some (aI (iZ x1)), some (aI (iZ x2)), none, none, none, none], [aI (iZ x1), aR (some (17, 0, 0))], am_hp σ, t)) rfl rfl ?_
  refine w_aal rfl (hp_17 _ 0) h1 rfl rfl ?_
  refine w_s (c' := (7, [some (aR (some (1, 0, 0))), some (aI (iZ x1)), some (aI (iZ x2)), some (aR (some (28, x1.toNat, 0))), none, none, none], [], am_hp σ, t)) rfl rfl ?_
  refine w_s (c' := (8, [some (aR (some (1, 0, 0))), some (aI (iZ x1)), some (aI (iZ x2)), some (aR (some (28, x1.toNat, 0))), none, none, none], [aR (some (28, x1.toNat, 0))], am_hp σ, t)) rfl rfl ?_
  refine w_s (c' := (9, [some (aR (some (1, 0, 0))), some (aI (iZ x1)), some (aI (iZ x2)), some (aR (some (28, x1.toNat, 0))), none, none, none], [aI (iZ x2), aR (some (28, x1.toNat, 0))], am_hp σ, t)) rfl rfl ?_
  refine w_c0 (c' := (12, [some (aR (some (1, 0, 0))), some (aI (iZ x1)), some (aI (iZ x2)), some (aR (some (28, x1.toNat, 0))), none, none, none], [aI (iZ r1)], am_hp σ1, t)) rfl rfl (rcv_of (hp_28 _ x1.toNat)) rfl c2 (Nat.le_refl _) rfl ?_
  refine w_s (c' := (14, [some (aR (some (1, 0, 0))), some (aI (iZ x1)), some (aI (iZ x2)), some (aR (some (28, x1.toNat, 0))), some (aI (iZ r1)), none, none], [], am_hp σ1, t)) rfl rfl ?_
  refine w_psh rfl zc_0 rfl ?_
  refine w_s (c' := (17, [some (aR (some (1, 0, 0))), some (aI (iZ x1)), some (aI (iZ x2)), some (aR (some (28, x1.toNat, 0))), some (aI (iZ r1)), some (aI (iZ 0)), none], [], am_hp σ1, t)) rfl rfl ?_
  refine w_s (c' := (19, [some (aR (some (1, 0, 0))), some (aI (iZ x1)), some (aI (iZ x2)), some (aR (some (28, x1.toNat, 0))), some (aI (iZ r1)), some (aI (iZ 0)), none], [aI (iZ r1)], am_hp σ1, t)) rfl rfl ?_
  refine w_s (c' := (21, [some (aR (some (1, 0, 0))), some (aI (iZ x1)), some (aI (iZ x2)), some (aR (some (28, x1.toNat, 0))), some (aI (iZ r1)), some (aI (iZ 0)), none], [aI (iZ r1), aI (iZ r1)], am_hp σ1, t)) rfl rfl ?_
  refine w_s (c' := (22, [some (aR (some (1, 0, 0))), some (aI (iZ x1)), some (aI (iZ x2)), some (aR (some (28, x1.toNat, 0))), some (aI (iZ r1)), some (aI (iZ 0)), none], [aR (some (1, 0, 0)), aI (iZ r1), aI (iZ r1)], am_hp σ1, t)) rfl rfl ?_
  refine w_get rfl (hp_1 _ 0) rfl rfl ?_
  refine w_get rfl (hp_8 _ 0) rfl rfl ?_
  refine w_c0 (c' := (31, [some (aR (some (1, 0, 0))), some (aI (iZ x1)), some (aI (iZ x2)), some (aR (some (28, x1.toNat, 0))), some (aI (iZ r1)), some (aI (iZ 0)), none], [aI (iZ r2), aI (iZ r1)], am_hp σ2, t)) rfl rfl rfl rfl c3 (Nat.le_refl _) rfl ?_
  refine w_isub rfl rfl ?_
  refine w_s (c' := (34, [some (aR (some (1, 0, 0))), some (aI (iZ x1)), some (aI (iZ x2)), some (aR (some (28, x1.toNat, 0))), some (aI (iZ r1)), some (aI (iZ 0)), some (aI (iZ (r1 - r2)))], [], am_hp σ2, t)) rfl rfl ?_
  exact w4

theorem e_X11_readsAhead {x1 : Int} {x2 : Int} {h : AH} {t : KT} {d : Nat} {P : RS → Prop} (w : Wp k_X11_readsAhead d (0, [some (aR (some (1, 0, 0))), some (aI (iZ x1)), some (aI (iZ x2)), none, none, none, none], [], h, t) P) : ∃ r, Ca (d + 1) 160 [aR (some (1, 0, 0)), aI (iZ x1), aI (iZ x2)] h t r ∧ P r := ca_W rfl rfl rfl rfl w

theorem b_X11_readsAhead_34 {x1 : Int} {x2 : Int} {p3 : Nat} {x4 : Int} {x5 : Int} {x6 : Int} {σ : SG} {t : KT} (h1 : -2147483648 ≤ x6 ∧ x6 < 2147483648) (h2 : -2147483648 ≤ σ.1 (28, p3, 0) 2 ∧ σ.1 (28, p3, 0) 2 < 2147483648) (w3 : σ.1 (28, p3, 0) 2 ≤ x6 → Wp k_X11_readsAhead d (62, [some (aR (some (1, 0, 0))), some (aI (iZ x1)), some (aI (iZ x2)), some (aR (some (28, p3, 0))), some (aI (iZ x4)), some (aI (iZ x5)), some (aI (iZ x6))], [], am_hp σ, t) Q) (w4 : x6 < σ.1 (28, p3, 0) 2 → Wp k_X11_readsAhead d (43, [some (aR (some (1, 0, 0))), some (aI (iZ x1)), some (aI (iZ x2)), some (aR (some (28, p3, 0))), some (aI (iZ x4)), some (aI (iZ x5)), some (aI (iZ x6))], [], am_hp σ, t) Q) : Wp k_X11_readsAhead d (34, [some (aR (some (1, 0, 0))), some (aI (iZ x1)), some (aI (iZ x2)), some (aR (some (28, p3, 0))), some (aI (iZ x4)), some (aI (iZ x5)), some (aI (iZ x6))], [], am_hp σ, t) Q := by
  refine w_s (c' := (36, [some (aR (some (1, 0, 0))), some (aI (iZ x1)), some (aI (iZ x2)), some (aR (some (28, p3, 0))), some (aI (iZ x4)), some (aI (iZ x5)), some (aI (iZ x6))], [aI (iZ x6)], am_hp σ, t)) rfl rfl ?_
  refine w_s (c' := (37, [some (aR (some (1, 0, 0))), some (aI (iZ x1)), some (aI (iZ x2)), some (aR (some (28, p3, 0))), some (aI (iZ x4)), some (aI (iZ x5)), some (aI (iZ x6))], [aR (some (28, p3, 0)), aI (iZ x6)], am_hp σ, t)) rfl rfl ?_
  refine w_get rfl (hp_28 _ p3) rfl rfl ?_
  exact w_icge rfl h1 h2 rfl w3 w4

theorem b_X11_readsAhead_43 {x1 : Int} {x2 : Int} {p3 : Nat} {x4 : Int} {x5 : Int} {x6 : Int} {r1 : Int} {σ σ1 : SG} {t : KT} (c1 : Ca d 7 [aR (some (28, p3, 0)), aI (iZ x6)] (am_hp σ) t (.inl (some (aI (iZ r1))), am_hp σ1, t)) (h2 : -2147483648 ≤ r1 ∧ r1 < 2147483648) (h3 : -2147483648 ≤ x2 ∧ x2 < 2147483648) (w4 : x2 ≤ r1 → Wp k_X11_readsAhead d (62, [some (aR (some (1, 0, 0))), some (aI (iZ x1)), some (aI (iZ x2)), some (aR (some (28, p3, 0))), some (aI (iZ x4)), some (aI (iZ x5)), some (aI (iZ x6))], [], am_hp σ1, t) Q) (w5 : r1 < x2 → Wp k_X11_readsAhead d (53, [some (aR (some (1, 0, 0))), some (aI (iZ x1)), some (aI (iZ x2)), some (aR (some (28, p3, 0))), some (aI (iZ x4)), some (aI (iZ x5)), some (aI (iZ x6))], [], am_hp σ1, t) Q) : Wp k_X11_readsAhead d (43, [some (aR (some (1, 0, 0))), some (aI (iZ x1)), some (aI (iZ x2)), some (aR (some (28, p3, 0))), some (aI (iZ x4)), some (aI (iZ x5)), some (aI (iZ x6))], [], am_hp σ, t) Q := by
  refine w_s (c' := (44, [some (aR (some (1, 0, 0))), some (aI (iZ x1)), some (aI (iZ x2)), some (aR (some (28, p3, 0))), some (aI (iZ x4)), some (aI (iZ x5)), some (aI (iZ x6))], [aR (some (28, p3, 0))], am_hp σ, t)) rfl rfl ?_
  refine w_s (c' := (46, [some (aR (some (1, 0, 0))), some (aI (iZ x1)), some (aI (iZ x2)), some (aR (some (28, p3, 0))), some (aI (iZ x4)), some (aI (iZ x5)), some (aI (iZ x6))], [aI (iZ x6), aR (some (28, p3, 0))], am_hp σ, t)) rfl rfl ?_
  refine w_c0 (c' := (49, [some (aR (some (1, 0, 0))), some (aI (iZ x1)), some (aI (iZ x2)), some (aR (some (28, p3, 0))), some (aI (iZ x4)), some (aI (iZ x5)), some (aI (iZ x6))], [aI (iZ r1)], am_hp σ1, t)) rfl rfl (rcv_of (hp_28 _ p3)) rfl c1 (Nat.le_refl _) rfl ?_
  refine w_s (c' := (50, [some (aR (some (1, 0, 0))), some (aI (iZ x1)), some (aI (iZ x2)), some (aR (some (28, p3, 0))), some (aI (iZ x4)), some (aI (iZ x5)), some (aI (iZ x6))], [aI (iZ x2), aI (iZ r1)], am_hp σ1, t)) rfl rfl ?_
  exact w_icge rfl h2 h3 rfl w4 w5

theorem b_X11_readsAhead_53 {x1 : Int} {x2 : Int} {p3 : Nat} {x4 : Int} {x5 : Int} {x6 : Int} {σ : SG} {t : KT} (w1 : Wp k_X11_readsAhead d (34, [some (aR (some (1, 0, 0))), some (aI (iZ x1)), some (aI (iZ x2)), some (aR (some (28, p3, 0))), some (aI (iZ x4)), some (aI (iZ (x5 + 1))), some (aI (iZ (x6 + 1)))], [], am_hp σ, t) Q) : Wp k_X11_readsAhead d (53, [some (aR (some (1, 0, 0))), some (aI (iZ x1)), some (aI (iZ x2)), some (aR (some (28, p3, 0))), some (aI (iZ x4)), some (aI (iZ x5)), some (aI (iZ x6))], [], am_hp σ, t) Q := by
  refine w_inc (a := x5) (ls' := [some (aR (some (1, 0, 0))), some (aI (iZ x1)), some (aI (iZ x2)), some (aR (some (28, p3, 0))), some (aI (iZ x4)), some (aI (iZ (x5 + 1))), some (aI (iZ x6))]) rfl rfl rfl zc_1 rfl rfl ?_
  refine w_inc (a := x6) (ls' := [some (aR (some (1, 0, 0))), some (aI (iZ x1)), some (aI (iZ x2)), some (aR (some (28, p3, 0))), some (aI (iZ x4)), some (aI (iZ (x5 + 1))), some (aI (iZ (x6 + 1)))]) rfl rfl rfl zc_1 rfl rfl ?_
  refine w_s (c' := (34, [some (aR (some (1, 0, 0))), some (aI (iZ x1)), some (aI (iZ x2)), some (aR (some (28, p3, 0))), some (aI (iZ x4)), some (aI (iZ (x5 + 1))), some (aI (iZ (x6 + 1)))], [], am_hp σ, t)) rfl rfl ?_
  exact w1

theorem b_X11_readsAhead_62 {x1 : Int} {x2 : Int} {p3 : Nat} {x4 : Int} {x5 : Int} {x6 : Int} {σ : SG} {t : KT} (q1 : Q (.inl (some (aI (iZ x5))), am_hp σ, t)) : Wp k_X11_readsAhead d (62, [some (aR (some (1, 0, 0))), some (aI (iZ x1)), some (aI (iZ x2)), some (aR (some (28, p3, 0))), some (aI (iZ x4)), some (aI (iZ x5)), some (aI (iZ x6))], [], am_hp σ, t) Q := by
  refine w_s (c' := (64, [some (aR (some (1, 0, 0))), some (aI (iZ x1)), some (aI (iZ x2)), some (aR (some (28, p3, 0))), some (aI (iZ x4)), some (aI (iZ x5)), some (aI (iZ x6))], [aI (iZ x5)], am_hp σ, t)) rfl rfl ?_
  exact w_ret rfl rfl q1

theorem b_X11_wordsAfterCall_0 {r1 : Int} {σ σ1 : SG} {t : KT} (c1 : Ca d 162 [aR (some (1, 0, 0))] (am_hp σ) t (.inl (some (aI (iZ r1))), am_hp σ1, t)) (h2 : -2147483648 ≤ r1 ∧ r1 < 2147483648) (w3 : r1 ≠ 0 → Wp k_X11_wordsAfterCall d (26, [some (aR (some (1, 0, 0))), some (aI (iZ r1))], [], am_hp σ1, t) Q) (w4 : r1 = 0 → Wp k_X11_wordsAfterCall d (9, [some (aR (some (1, 0, 0))), some (aI (iZ r1))], [], am_hp σ1, t) Q) : Wp k_X11_wordsAfterCall d (0, [some (aR (some (1, 0, 0))), none], [], am_hp σ, t) Q := by
  refine w_s (c' := (1, [some (aR (some (1, 0, 0))), none], [aR (some (1, 0, 0))], am_hp σ, t)) rfl rfl ?_
  refine w_c0 (c' := (4, [some (aR (some (1, 0, 0))), none], [aI (iZ r1)], am_hp σ1, t)) rfl rfl (rcv_of (hp_1 _ 0)) rfl c1 (Nat.le_refl _) rfl ?_
  refine w_s (c' := (5, [some (aR (some (1, 0, 0))), some (aI (iZ r1))], [], am_hp σ1, t)) rfl rfl ?_
  refine w_s (c' := (6, [some (aR (some (1, 0, 0))), some (aI (iZ r1))], [aI (iZ r1)], am_hp σ1, t)) rfl rfl ?_
  exact w_ifne rfl h2 rfl w3 w4

theorem bx_X11_wordsAfterCall_0_1 {E : Nat} {σ σ1 : SG} {t t' : KT} (c1 : Ca d 162 [aR (some (1, 0, 0))] (am_hp σ) t (.inr E, am_hp σ1, t')) (q2 : Q (.inr E, am_hp σ1, t')) : Wp k_X11_wordsAfterCall d (0, [some (aR (some (1, 0, 0))), none], [], am_hp σ, t) Q := by
  refine w_s (c' := (1, [some (aR (some (1, 0, 0))), none], [aR (some (1, 0, 0))], am_hp σ, t)) rfl rfl ?_
  exact w_x rfl rfl (rcv_of (hp_1 _ 0)) rfl c1 (Nat.le_refl _) rfl q2

theorem e_X11_wordsAfterCall {h : AH} {t : KT} {d : Nat} {P : RS → Prop} (w : Wp k_X11_wordsAfterCall d (0, [some (aR (some (1, 0, 0))), none], [], h, t) P) : ∃ r, Ca (d + 1) 161 [aR (some (1, 0, 0))] h t r ∧ P r := ca_W rfl rfl rfl rfl w

theorem b_X11_wordsAfterCall_9 {x1 : Int} {r1 : Int} {σ σ1 : SG} {t : KT} (c1 : Ca d 43 [aR (some (8, 0, 0)), aI (iZ (σ.1 (7, 30, 0) 3))] (am_hp σ) t (.inl (some (aI (iZ r1))), am_hp σ1, t)) (h2 : -2147483648 ≤ r1 ∧ r1 < 2147483648) (w3 : r1 ≠ 0 → Wp k_X11_wordsAfterCall d (30, [some (aR (some (1, 0, 0))), some (aI (iZ x1))], [], am_hp σ1, t) Q) (w4 : r1 = 0 → Wp k_X11_wordsAfterCall d (26, [some (aR (some (1, 0, 0))), some (aI (iZ x1))], [], am_hp σ1, t) Q) : Wp k_X11_wordsAfterCall d (9, [some (aR (some (1, 0, 0))), some (aI (iZ x1))], [], am_hp σ, t) Q := by
  refine w_s (c' := (10, [some (aR (some (1, 0, 0))), some (aI (iZ x1))], [aR (some (1, 0, 0))], am_hp σ, t)) rfl rfl ?_
  refine w_get rfl (hp_1 _ 0) rfl rfl ?_
  refine w_s (c' := (14, [some (aR (some (1, 0, 0))), some (aI (iZ x1))], [aR (some (1, 0, 0)), aR (some (8, 0, 0))], am_hp σ, t)) rfl rfl ?_
  refine w_get rfl (hp_1 _ 0) rfl rfl ?_
  refine w_get rfl (hp_7 _ 30) rfl rfl ?_
  refine w_c0 (c' := (23, [some (aR (some (1, 0, 0))), some (aI (iZ x1))], [aI (iZ r1)], am_hp σ1, t)) rfl rfl (rcv_of (hp_8 _ 0)) rfl c1 (Nat.le_refl _) rfl ?_
  exact w_ifne rfl h2 rfl w3 w4

theorem b_X11_wordsAfterCall_26 {x1 : Int} {σ : SG} {t : KT} (w1 : Wp k_X11_wordsAfterCall d (45, [some (aR (some (1, 0, 0))), some (aI (iZ x1))], [aI (iZ x1)], am_hp σ, t) Q) : Wp k_X11_wordsAfterCall d (26, [some (aR (some (1, 0, 0))), some (aI (iZ x1))], [], am_hp σ, t) Q := by
  refine w_s (c' := (27, [some (aR (some (1, 0, 0))), some (aI (iZ x1))], [aI (iZ x1)], am_hp σ, t)) rfl rfl ?_
  refine w_s (c' := (45, [some (aR (some (1, 0, 0))), some (aI (iZ x1))], [aI (iZ x1)], am_hp σ, t)) rfl rfl ?_
  exact w1

theorem b_X11_wordsAfterCall_30 {x1 : Int} {σ : SG} {t : KT} (h1 : 0 ≤ σ.1 (7, 30, 0) 3 ∧ σ.1 (7, 30, 0) 3 < 4) (w2 : Wp k_X11_wordsAfterCall d (45, [some (aR (some (1, 0, 0))), some (aI (iZ x1))], [aI (iZ (σ.1 (28, (σ.1 (7, 30, 0) 3).toNat, 0) 2))], am_hp σ, t) Q) : Wp k_X11_wordsAfterCall d (30, [some (aR (some (1, 0, 0))), some (aI (iZ x1))], [], am_hp σ, t) Q := by
  refine w_s (c' := (31, [some (aR (some (1, 0, 0))), some (aI (iZ x1))], [aR (some (1, 0, 0))], am_hp σ, t)) rfl rfl ?_
  refine w_get rfl (hp_1 _ 0) rfl rfl ?_
  refine w_s (c' := (35, [some (aR (some (1, 0, 0))), some (aI (iZ x1))], [aR (some (1, 0, 0)), aR (some (17, 0, 0))], am_hp σ, t)) rfl rfl ?_
  refine w_get rfl (hp_1 _ 0) rfl rfl ?_
  refine w_get rfl (hp_7 _ 30) rfl rfl ?_
  refine w_aal rfl (hp_17 _ 0) h1 rfl rfl ?_
  refine w_get rfl (hp_28 _ (σ.1 (7, 30, 0) 3).toNat) rfl rfl ?_
  exact w2

theorem b_X11_wordsAfterCall_45 {x1 : Int} {xs0 : Int} {σ : SG} {t : KT} (q1 : Q (.inl (some (aI (iZ xs0))), am_hp σ, t)) : Wp k_X11_wordsAfterCall d (45, [some (aR (some (1, 0, 0))), some (aI (iZ x1))], [aI (iZ xs0)], am_hp σ, t) Q := by
  exact w_ret rfl rfl q1

theorem b_X11_doCall_0 {r1 : Int} {σ σ1 : SG} {t : KT} (c1 : Ca d 167 [aR (some (1, 0, 0)), aR (some (7, 30, 0))] (am_hp σ) t (.inl (some (aI (iZ r1))), am_hp σ1, t)) (h2 : -2147483648 ≤ r1 ∧ r1 < 2147483648) (w3 : r1 ≠ 1 → Wp k_X11_doCall d (22, [some (aR (some (1, 0, 0))), some (aI (iZ r1))], [], am_hp σ1, t) Q) (w4 : r1 = 1 → Wp k_X11_doCall d (14, [some (aR (some (1, 0, 0))), some (aI (iZ r1))], [], am_hp σ1, t) Q) : Wp k_X11_doCall d (0, [some (aR (some (1, 0, 0))), none], [], am_hp σ, t) Q := by
  refine w_s (c' := (1, [some (aR (some (1, 0, 0))), none], [aR (some (1, 0, 0))], am_hp σ, t)) rfl rfl ?_
  refine w_s (c' := (2, [some (aR (some (1, 0, 0))), none], [aR (some (1, 0, 0)), aR (some (1, 0, 0))], am_hp σ, t)) rfl rfl ?_
  refine w_get rfl (hp_1 _ 0) rfl rfl ?_
  refine w_c0 (c' := (8, [some (aR (some (1, 0, 0))), none], [aI (iZ r1)], am_hp σ1, t)) rfl rfl (rcv_of (hp_1 _ 0)) rfl c1 (Nat.le_refl _) rfl ?_
  refine w_s (c' := (9, [some (aR (some (1, 0, 0))), some (aI (iZ r1))], [], am_hp σ1, t)) rfl rfl ?_
  refine w_s (c' := (10, [some (aR (some (1, 0, 0))), some (aI (iZ r1))], [aI (iZ r1)], am_hp σ1, t)) rfl rfl ?_
  refine w_psh rfl zc_1 rfl ?_
  exact w_icne rfl h2 (by decide) rfl w3 w4

theorem e_X11_doCall {h : AH} {t : KT} {d : Nat} {P : RS → Prop} (w : Wp k_X11_doCall d (0, [some (aR (some (1, 0, 0))), none], [], h, t) P) : ∃ r, Ca (d + 1) 162 [aR (some (1, 0, 0))] h t r ∧ P r := ca_W rfl rfl rfl rfl w

theorem b_X11_doCall_14 {x1 : Int} {σ : SG} {t : KT} (q1 : Q (.inr 2, am_hp σ, (t.1, t.2.1 + 1, t.2.2 + 6))) : Wp k_X11_doCall d (14, [some (aR (some (1, 0, 0))), some (aI (iZ x1))], [], am_hp σ, t) Q := by
  exact w_f rfl rfl q1

theorem b_X11_doCall_22 {x1 : Int} {σ : SG} {t : KT} (h1 : -2147483648 ≤ x1 ∧ x1 < 2147483648) (w2 : x1 ≠ 2 → Wp k_X11_doCall d (35, [some (aR (some (1, 0, 0))), some (aI (iZ x1))], [], am_hp σ, t) Q) (w3 : x1 = 2 → Wp k_X11_doCall d (27, [some (aR (some (1, 0, 0))), some (aI (iZ x1))], [], am_hp σ, t) Q) : Wp k_X11_doCall d (22, [some (aR (some (1, 0, 0))), some (aI (iZ x1))], [], am_hp σ, t) Q := by
  refine w_s (c' := (23, [some (aR (some (1, 0, 0))), some (aI (iZ x1))], [aI (iZ x1)], am_hp σ, t)) rfl rfl ?_
  refine w_psh rfl zc_2 rfl ?_
  exact w_icne rfl h1 (by decide) rfl w2 w3

theorem b_X11_doCall_27 {x1 : Int} {σ : SG} {t : KT} (q1 : Q (.inr 1, am_hp σ, (t.1, t.2.1 + 1, t.2.2 + 6))) : Wp k_X11_doCall d (27, [some (aR (some (1, 0, 0))), some (aI (iZ x1))], [], am_hp σ, t) Q := by
  exact w_f rfl rfl q1

theorem b_X11_doCall_35 {x1 : Int} {σ : SG} {t : KT} (h1 : -2147483648 ≤ x1 ∧ x1 < 2147483648) (w2 : x1 = 0 → Wp k_X11_doCall d (47, [some (aR (some (1, 0, 0))), some (aI (iZ x1))], [], am_hp σ, t) Q) (w3 : x1 ≠ 0 → Wp k_X11_doCall d (39, [some (aR (some (1, 0, 0))), some (aI (iZ x1))], [], am_hp σ, t) Q) : Wp k_X11_doCall d (35, [some (aR (some (1, 0, 0))), some (aI (iZ x1))], [], am_hp σ, t) Q := by
  refine w_s (c' := (36, [some (aR (some (1, 0, 0))), some (aI (iZ x1))], [aI (iZ x1)], am_hp σ, t)) rfl rfl ?_
  exact w_ifeq rfl h1 rfl w2 w3

theorem b_X11_doCall_39 {x1 : Int} {σ σ1 : SG} {t : KT} (c1 : Ca d 166 [aR (some (1, 0, 0)), aI (iZ x1)] (am_hp σ) t (.inl none, am_hp σ1, t)) (q2 : Q (.inl (some (aI (iZ (-x1)))), am_hp σ1, t)) : Wp k_X11_doCall d (39, [some (aR (some (1, 0, 0))), some (aI (iZ x1))], [], am_hp σ, t) Q := by
  refine w_s (c' := (40, [some (aR (some (1, 0, 0))), some (aI (iZ x1))], [aR (some (1, 0, 0))], am_hp σ, t)) rfl rfl ?_
  refine w_s (c' := (41, [some (aR (some (1, 0, 0))), some (aI (iZ x1))], [aI (iZ x1), aR (some (1, 0, 0))], am_hp σ, t)) rfl rfl ?_
  refine w_c0 (c' := (44, [some (aR (some (1, 0, 0))), some (aI (iZ x1))], [], am_hp σ1, t)) rfl rfl (rcv_of (hp_1 _ 0)) rfl c1 (Nat.le_refl _) rfl ?_
  refine w_s (c' := (45, [some (aR (some (1, 0, 0))), some (aI (iZ x1))], [aI (iZ x1)], am_hp σ1, t)) rfl rfl ?_
  refine w_ineg rfl rfl ?_
  exact w_ret rfl rfl q2

theorem b_X11_doCall_47 {x1 : Int} {σ σ1 σ2 σ3 : SG} {t : KT} (c1 : Ca d 3 [aR (some (15, 0, 0)), aR (some (8, 0, 0))] (am_hp σ) t (.inl none, am_hp σ1, t)) (c2 : Ca d 172 [aR (some (1, 0, 0)), aR (some (7, 30, 0))] (am_hp σ1) t (.inl none, am_hp σ2, t)) (c3 : Ca d 151 [aR (some (1, 0, 0))] (am_hp σ2) t (.inl none, am_hp σ3, t)) (q4 : Q (.inl (some (aI (iZ 0))), am_hp σ3, t)) : Wp k_X11_doCall d (47, [some (aR (some (1, 0, 0))), some (aI (iZ x1))], [], am_hp σ, t) Q := by
  refine w_s (c' := (48, [some (aR (some (1, 0, 0))), some (aI (iZ x1))], [aR (some (1, 0, 0))], am_hp σ, t)) rfl rfl ?_
  refine w_get rfl (hp_1 _ 0) rfl rfl ?_
  refine w_s (c' := (52, [some (aR (some (1, 0, 0))), some (aI (iZ x1))], [aR (some (1, 0, 0)), aR (some (15, 0, 0))], am_hp σ, t)) rfl rfl ?_
  refine w_get rfl (hp_1 _ 0) rfl rfl ?_
  refine w_c0 (c' := (58, [some (aR (some (1, 0, 0))), some (aI (iZ x1))], [], am_hp σ1, t)) rfl rfl (rcv_of (hp_15 _ 0)) rfl c1 (Nat.le_refl _) rfl ?_
  refine w_s (c' := (59, [some (aR (some (1, 0, 0))), some (aI (iZ x1))], [aR (some (1, 0, 0))], am_hp σ1, t)) rfl rfl ?_
  refine w_s (c' := (60, [some (aR (some (1, 0, 0))), some (aI (iZ x1))], [aR (some (1, 0, 0)), aR (some (1, 0, 0))], am_hp σ1, t)) rfl rfl ?_
  refine w_get rfl (hp_1 _ 0) rfl rfl ?_
  refine w_c0 (c' := (66, [some (aR (some (1, 0, 0))), some (aI (iZ x1))], [], am_hp σ2, t)) rfl rfl (rcv_of (hp_1 _ 0)) rfl c2 (Nat.le_refl _) rfl ?_
  refine w_s (c' := (67, [some (aR (some (1, 0, 0))), some (aI (iZ x1))], [aR (some (1, 0, 0))], am_hp σ2, t)) rfl rfl ?_
  refine w_c0 (c' := (70, [some (aR (some (1, 0, 0))), some (aI (iZ x1))], [], am_hp σ3, t)) rfl rfl (rcv_of (hp_1 _ 0)) rfl c3 (Nat.le_refl _) rfl ?_
  refine w_psh rfl zc_0 rfl ?_
  exact w_ret rfl rfl q4

theorem b_X11_doSteps_0 {x1 : Int} {x2 : Int} {x3 : Int} {σ : SG} {t : KT} (w1 : Wp k_X11_doSteps d (3, [some (aR (some (1, 0, 0))), some (aI (iZ x1)), some (aI (iZ x2)), some (aI (iZ x3)), some (aI (iZ x1)), none], [], am_hp σ, t) Q) : Wp k_X11_doSteps d (0, [some (aR (some (1, 0, 0))), some (aI (iZ x1)), some (aI (iZ x2)), some (aI (iZ x3)), none, none], [], am_hp σ, t) Q := by
  refine w_s (c' := (1, [some (aR (some (1, 0, 0))), some (aI (iZ x1)), some (aI (iZ x2)), some (aI (iZ x3)), none, none], [aI (iZ x1)], am_hp σ, t)) rfl rfl ?_
  refine w_s (c' := (3, [some (aR (some (1, 0, 0))), some (aI (iZ x1)), some (aI (iZ x2)), some (aI (iZ x3)), some (aI (iZ x1)), none], [], am_hp σ, t)) rfl rfl ?_
  exact w1

theorem e_X11_doSteps {x1 : Int} {x2 : Int} {x3 : Int} {h : AH} {t : KT} {d : Nat} {P : RS → Prop} (w : Wp k_X11_doSteps d (0, [some (aR (some (1, 0, 0))), some (aI (iZ x1)), some (aI (iZ x2)), some (aI (iZ x3)), none, none], [], h, t) P) : ∃ r, Ca (d + 1) 163 [aR (some (1, 0, 0)), aI (iZ x1), aI (iZ x2), aI (iZ x3)] h t r ∧ P r := ca_W rfl rfl rfl rfl w

theorem b_X11_doSteps_3 {x1 : Int} {x2 : Int} {x3 : Int} {x4 : Int} {u5 : Option AV} {σ : SG} {t : KT} (h1 : -2147483648 ≤ x4 ∧ x4 < 2147483648) (h2 : -2147483648 ≤ x2 ∧ x2 < 2147483648) (w3 : x2 ≤ x4 → Wp k_X11_doSteps d (99, [some (aR (some (1, 0, 0))), some (aI (iZ x1)), some (aI (iZ x2)), some (aI (iZ x3)), some (aI (iZ x4)), u5], [], am_hp σ, t) Q) (w4 : x4 < x2 → Wp k_X11_doSteps d (9, [some (aR (some (1, 0, 0))), some (aI (iZ x1)), some (aI (iZ x2)), some (aI (iZ x3)), some (aI (iZ x4)), u5], [], am_hp σ, t) Q) : Wp k_X11_doSteps d (3, [some (aR (some (1, 0, 0))), some (aI (iZ x1)), some (aI (iZ x2)), some (aI (iZ x3)), some (aI (iZ x4)), u5], [], am_hp σ, t) Q := by
  refine w_s (c' := (5, [some (aR (some (1, 0, 0))), some (aI (iZ x1)), some (aI (iZ x2)), some (aI (iZ x3)), some (aI (iZ x4)), u5], [aI (iZ x4)], am_hp σ, t)) rfl rfl ?_
  refine w_s (c' := (6, [some (aR (some (1, 0, 0))), some (aI (iZ x1)), some (aI (iZ x2)), some (aI (iZ x3)), some (aI (iZ x4)), u5], [aI (iZ x2), aI (iZ x4)], am_hp σ, t)) rfl rfl ?_
  exact w_icge rfl h1 h2 rfl w3 w4

theorem b_X11_doSteps_9 {x1 : Int} {x2 : Int} {x3 : Int} {x4 : Int} {u5 : Option AV} {σ : SG} {t : KT} (h1 : -2147483648 ≤ x4 ∧ x4 < 2147483648) (h2 : -2147483648 ≤ σ.1 (4, 0, 0) 3 ∧ σ.1 (4, 0, 0) 3 < 2147483648) (w3 : σ.1 (4, 0, 0) 3 ≤ x4 → Wp k_X11_doSteps d (99, [some (aR (some (1, 0, 0))), some (aI (iZ x1)), some (aI (iZ x2)), some (aI (iZ x3)), some (aI (iZ x4)), u5], [], am_hp σ, t) Q) (w4 : x4 < σ.1 (4, 0, 0) 3 → Wp k_X11_doSteps d (21, [some (aR (some (1, 0, 0))), some (aI (iZ x1)), some (aI (iZ x2)), some (aI (iZ x3)), some (aI (iZ x4)), u5], [], am_hp σ, t) Q) : Wp k_X11_doSteps d (9, [some (aR (some (1, 0, 0))), some (aI (iZ x1)), some (aI (iZ x2)), some (aI (iZ x3)), some (aI (iZ x4)), u5], [], am_hp σ, t) Q := by
  refine w_s (c' := (11, [some (aR (some (1, 0, 0))), some (aI (iZ x1)), some (aI (iZ x2)), some (aI (iZ x3)), some (aI (iZ x4)), u5], [aI (iZ x4)], am_hp σ, t)) rfl rfl ?_
  refine w_s (c' := (12, [some (aR (some (1, 0, 0))), some (aI (iZ x1)), some (aI (iZ x2)), some (aI (iZ x3)), some (aI (iZ x4)), u5], [aR (some (1, 0, 0)), aI (iZ x4)], am_hp σ, t)) rfl rfl ?_
  refine w_get rfl (hp_1 _ 0) rfl rfl ?_
  refine w_get rfl (hp_4 _ 0) rfl rfl ?_
  exact w_icge rfl h1 h2 rfl w3 w4

theorem b_X11_doSteps_21 {x1 : Int} {x2 : Int} {x3 : Int} {x4 : Int} {u5 : Option AV} {σ : SG} {t : KT} (h1 : -2147483648 ≤ σ.1 (4, 0, 0) 5 ∧ σ.1 (4, 0, 0) 5 < 2147483648) (w2 : σ.1 (4, 0, 0) 5 = 0 → Wp k_X11_doSteps d (99, [some (aR (some (1, 0, 0))), some (aI (iZ x1)), some (aI (iZ x2)), some (aI (iZ x3)), some (aI (iZ x4)), u5], [], am_hp σ, t) Q) (w3 : σ.1 (4, 0, 0) 5 ≠ 0 → Wp k_X11_doSteps d (31, [some (aR (some (1, 0, 0))), some (aI (iZ x1)), some (aI (iZ x2)), some (aI (iZ x3)), some (aI (iZ x4)), u5], [], am_hp σ, t) Q) : Wp k_X11_doSteps d (21, [some (aR (some (1, 0, 0))), some (aI (iZ x1)), some (aI (iZ x2)), some (aI (iZ x3)), some (aI (iZ x4)), u5], [], am_hp σ, t) Q := by
  refine w_s (c' := (22, [some (aR (some (1, 0, 0))), some (aI (iZ x1)), some (aI (iZ x2)), some (aI (iZ x3)), some (aI (iZ x4)), u5], [aR (some (1, 0, 0))], am_hp σ, t)) rfl rfl ?_
  refine w_get rfl (hp_1 _ 0) rfl rfl ?_
  refine w_get rfl (hp_4 _ 0) rfl rfl ?_
  exact w_ifeq rfl h1 rfl w2 w3

theorem b_X11_doSteps_31 {x1 : Int} {x2 : Int} {x3 : Int} {x4 : Int} {u5 : Option AV} {σ : SG} {t : KT} (h1 : 0 ≤ x4 ∧ x4 < 30) (w2 : (some (91, (σ.2.2.2.1 (7, x4.toNat, 0)), 0) : Option Lc) ≠ some (91, 9, 0) → Wp k_X11_doSteps d (68, [some (aR (some (1, 0, 0))), some (aI (iZ x1)), some (aI (iZ x2)), some (aI (iZ x3)), some (aI (iZ x4)), some (aR (some (7, x4.toNat, 0)))], [], am_hp σ, t) Q) (w3 : (some (91, (σ.2.2.2.1 (7, x4.toNat, 0)), 0) : Option Lc) = some (91, 9, 0) → Wp k_X11_doSteps d (54, [some (aR (some (1, 0, 0))), some (aI (iZ x1)), some (aI (iZ x2)), some (aI (iZ x3)), some (aI (iZ x4)), some (aR (some (7, x4.toNat, 0)))], [], am_hp σ, t) Q) : Wp k_X11_doSteps d (31, [some (aR (some (1, 0, 0))), some (aI (iZ x1)), some (aI (iZ x2)), some (aI (iZ x3)), some (aI (iZ x4)), u5], [], am_hp σ, t) Q := by
  refine w_s (c' := (32, [some (aR (some (1, 0, 0))), some (aI (iZ x1)), some (aI (iZ x2)), some (aI (iZ x3)), some (aI (iZ x4)), u5], [aR (some (1, 0, 0))], am_hp σ, t)) rfl rfl ?_
  refine w_get rfl (hp_1 _ 0) rfl rfl ?_
  refine w_get rfl (hp_4 _ 0) rfl rfl ?_
  refine w_s (c' := (40, [some (aR (some (1, 0, 0))), some (aI (iZ x1)), some (aI (iZ x2)), some (aI (iZ x3)), some (aI (iZ x4)), u5], [aI (iZ x4), aR (some (5, 0, 0))], am_hp σ, t)) rfl rfl ?_
  refine w_aal rfl (hp_5 _ 0) h1 rfl rfl ?_
  refine w_s (c' := (43, [some (aR (some (1, 0, 0))), some (aI (iZ x1)), some (aI (iZ x2)), some (aI (iZ x3)), some (aI (iZ x4)), some (aR (some (7, x4.toNat, 0)))], [], am_hp σ, t)) rfl rfl ?_
  refine w_s (c' := (45, [some (aR (some (1, 0, 0))), some (aI (iZ x1)), some (aI (iZ x2)), some (aI (iZ x3)), some (aI (iZ x4)), some (aR (some (7, x4.toNat, 0)))], [aR (some (7, x4.toNat, 0))], am_hp σ, t)) rfl rfl ?_
  refine w_get rfl (hp_7 _ x4.toNat) rfl rfl ?_
  refine w_s (c' := (51, [some (aR (some (1, 0, 0))), some (aI (iZ x1)), some (aI (iZ x2)), some (aI (iZ x3)), some (aI (iZ x4)), some (aR (some (7, x4.toNat, 0)))], [aR (some (91, 9, 0)), aR (some (91, (σ.2.2.2.1 (7, x4.toNat, 0)), 0))], am_hp σ, t)) rfl rfl ?_
  exact w_acn rfl rfl rfl rfl w2 w3

theorem b_X11_doSteps_54 {x1 : Int} {x2 : Int} {x3 : Int} {x4 : Int} {p5 : Nat} {σ σ1 : SG} {t : KT} (c1 : Ca d 164 [aR (some (1, 0, 0)), aR (some (7, p5, 0)), aI (iZ (x4 + 1)), aI (iZ x3)] (am_hp σ) t (.inl none, am_hp σ1, t)) (w2 : Wp k_X11_doSteps d (74, [some (aR (some (1, 0, 0))), some (aI (iZ x1)), some (aI (iZ x2)), some (aI (iZ x3)), some (aI (iZ x4)), some (aR (some (7, p5, 0)))], [], am_hp σ1, t) Q) : Wp k_X11_doSteps d (54, [some (aR (some (1, 0, 0))), some (aI (iZ x1)), some (aI (iZ x2)), some (aI (iZ x3)), some (aI (iZ x4)), some (aR (some (7, p5, 0)))], [], am_hp σ, t) Q := by
  refine w_s (c' := (55, [some (aR (some (1, 0, 0))), some (aI (iZ x1)), some (aI (iZ x2)), some (aI (iZ x3)), some (aI (iZ x4)), some (aR (some (7, p5, 0)))], [aR (some (1, 0, 0))], am_hp σ, t)) rfl rfl ?_
  refine w_s (c' := (57, [some (aR (some (1, 0, 0))), some (aI (iZ x1)), some (aI (iZ x2)), some (aI (iZ x3)), some (aI (iZ x4)), some (aR (some (7, p5, 0)))], [aR (some (7, p5, 0)), aR (some (1, 0, 0))], am_hp σ, t)) rfl rfl ?_
  refine w_s (c' := (59, [some (aR (some (1, 0, 0))), some (aI (iZ x1)), some (aI (iZ x2)), some (aI (iZ x3)), some (aI (iZ x4)), some (aR (some (7, p5, 0)))], [aI (iZ x4), aR (some (7, p5, 0)), aR (some (1, 0, 0))], am_hp σ, t)) rfl rfl ?_
  refine w_psh rfl zc_1 rfl ?_
  refine w_iadd rfl rfl ?_
  refine w_s (c' := (62, [some (aR (some (1, 0, 0))), some (aI (iZ x1)), some (aI (iZ x2)), some (aI (iZ x3)), some (aI (iZ x4)), some (aR (some (7, p5, 0)))], [aI (iZ x3), aI (iZ (x4 + 1)), aR (some (7, p5, 0)), aR (some (1, 0, 0))], am_hp σ, t)) rfl rfl ?_
  refine w_c0 (c' := (65, [some (aR (some (1, 0, 0))), some (aI (iZ x1)), some (aI (iZ x2)), some (aI (iZ x3)), some (aI (iZ x4)), some (aR (some (7, p5, 0)))], [], am_hp σ1, t)) rfl rfl (rcv_of (hp_1 _ 0)) rfl c1 (Nat.le_refl _) rfl ?_
  refine w_s (c' := (74, [some (aR (some (1, 0, 0))), some (aI (iZ x1)), some (aI (iZ x2)), some (aI (iZ x3)), some (aI (iZ x4)), some (aR (some (7, p5, 0)))], [], am_hp σ1, t)) rfl rfl ?_
  exact w2

theorem b_X11_doSteps_68 {x1 : Int} {x2 : Int} {x3 : Int} {x4 : Int} {p5 : Nat} {σ σ1 : SG} {t : KT} (c1 : Ca d 165 [aR (some (1, 0, 0)), aR (some (7, p5, 0))] (am_hp σ) t (.inl none, am_hp σ1, t)) (w2 : Wp k_X11_doSteps d (74, [some (aR (some (1, 0, 0))), some (aI (iZ x1)), some (aI (iZ x2)), some (aI (iZ x3)), some (aI (iZ x4)), some (aR (some (7, p5, 0)))], [], am_hp σ1, t) Q) : Wp k_X11_doSteps d (68, [some (aR (some (1, 0, 0))), some (aI (iZ x1)), some (aI (iZ x2)), some (aI (iZ x3)), some (aI (iZ x4)), some (aR (some (7, p5, 0)))], [], am_hp σ, t) Q := by
  refine w_s (c' := (69, [some (aR (some (1, 0, 0))), some (aI (iZ x1)), some (aI (iZ x2)), some (aI (iZ x3)), some (aI (iZ x4)), some (aR (some (7, p5, 0)))], [aR (some (1, 0, 0))], am_hp σ, t)) rfl rfl ?_
  refine w_s (c' := (71, [some (aR (some (1, 0, 0))), some (aI (iZ x1)), some (aI (iZ x2)), some (aI (iZ x3)), some (aI (iZ x4)), some (aR (some (7, p5, 0)))], [aR (some (7, p5, 0)), aR (some (1, 0, 0))], am_hp σ, t)) rfl rfl ?_
  refine w_c0 (c' := (74, [some (aR (some (1, 0, 0))), some (aI (iZ x1)), some (aI (iZ x2)), some (aI (iZ x3)), some (aI (iZ x4)), some (aR (some (7, p5, 0)))], [], am_hp σ1, t)) rfl rfl (rcv_of (hp_1 _ 0)) rfl c1 (Nat.le_refl _) rfl ?_
  exact w2

theorem b_X11_doSteps_74 {x1 : Int} {x2 : Int} {x3 : Int} {x4 : Int} {p5 : Nat} {σ : SG} {t : KT} (h1 : 0 ≤ x4 ∧ x4 < 30) (h2 : -2147483648 ≤ x4 + 1 ∧ x4 + 1 < 2147483648) (h3 : -2147483648 ≤ σ.1 (7, x4.toNat, 0) 7 ∧ σ.1 (7, x4.toNat, 0) 7 < 2147483648) (w4 : Wp k_X11_doSteps d (3, [some (aR (some (1, 0, 0))), some (aI (iZ x1)), some (aI (iZ x2)), some (aI (iZ x3)), some (aI (iZ (max (x4 + 1) (σ.1 (7, x4.toNat, 0) 7)))), some (aR (some (7, p5, 0)))], [], am_hp σ, t) Q) : Wp k_X11_doSteps d (74, [some (aR (some (1, 0, 0))), some (aI (iZ x1)), some (aI (iZ x2)), some (aI (iZ x3)), some (aI (iZ x4)), some (aR (some (7, p5, 0)))], [], am_hp σ, t) Q := by
  refine w_s (c' := (76, [some (aR (some (1, 0, 0))), some (aI (iZ x1)), some (aI (iZ x2)), some (aI (iZ x3)), some (aI (iZ x4)), some (aR (some (7, p5, 0)))], [aI (iZ x4)], am_hp σ, t)) rfl rfl ?_
  refine w_psh rfl zc_1 rfl ?_
  refine w_iadd rfl rfl ?_
  refine w_s (c' := (79, [some (aR (some (1, 0, 0))), some (aI (iZ x1)), some (aI (iZ x2)), some (aI (iZ x3)), some (aI (iZ x4)), some (aR (some (7, p5, 0)))], [aR (some (1, 0, 0)), aI (iZ (x4 + 1))], am_hp σ, t)) rfl rfl ?_
  refine w_get rfl (hp_1 _ 0) rfl rfl ?_
  refine w_get rfl (hp_4 _ 0) rfl rfl ?_
  refine w_s (c' := (87, [some (aR (some (1, 0, 0))), some (aI (iZ x1)), some (aI (iZ x2)), some (aI (iZ x3)), some (aI (iZ x4)), some (aR (some (7, p5, 0)))], [aI (iZ x4), aR (some (5, 0, 0)), aI (iZ (x4 + 1))], am_hp σ, t)) rfl rfl ?_
  refine w_aal rfl (hp_5 _ 0) h1 rfl rfl ?_
  refine w_get rfl (hp_7 _ x4.toNat) rfl rfl ?_
  refine w_max rfl h2 h3 rfl rfl ?_
  refine w_s (c' := (96, [some (aR (some (1, 0, 0))), some (aI (iZ x1)), some (aI (iZ x2)), some (aI (iZ x3)), some (aI (iZ (max (x4 + 1) (σ.1 (7, x4.toNat, 0) 7)))), some (aR (some (7, p5, 0)))], [], am_hp σ, t)) rfl rfl ?_
  refine w_s (c' := (3, [some (aR (some (1, 0, 0))), some (aI (iZ x1)), some (aI (iZ x2)), some (aI (iZ x3)), some (aI (iZ (max (x4 + 1) (σ.1 (7, x4.toNat, 0) 7)))), some (aR (some (7, p5, 0)))], [], am_hp σ, t)) rfl rfl ?_
  exact w4

theorem b_X11_doSteps_99 {x1 : Int} {x2 : Int} {x3 : Int} {x4 : Int} {u5 : Option AV} {σ : SG} {t : KT} (q1 : Q (.inl none, am_hp σ, t)) : Wp k_X11_doSteps d (99, [some (aR (some (1, 0, 0))), some (aI (iZ x1)), some (aI (iZ x2)), some (aI (iZ x3)), some (aI (iZ x4)), u5], [], am_hp σ, t) Q := by
  exact w_f rfl rfl q1

theorem b_X11_doRepeat_0 {p1 : Nat} {x2 : Int} {x3 : Int} {σ : SG} {t : KT} (h1 : -2147483648 ≤ x3 ∧ x3 < 2147483648) (w2 : x3 < 2 → Wp k_X11_doRepeat d (6, [some (aR (some (1, 0, 0))), some (aR (some (7, p1, 0))), some (aI (iZ x2)), some (aI (iZ x3)), none], [], am_hp σ, t) Q) (w3 : 2 ≤ x3 → Wp k_X11_doRepeat d (5, [some (aR (some (1, 0, 0))), some (aR (some (7, p1, 0))), some (aI (iZ x2)), some (aI (iZ x3)), none], [], am_hp σ, t) Q) : Wp k_X11_doRepeat d (0, [some (aR (some (1, 0, 0))), some (aR (some (7, p1, 0))), some (aI (iZ x2)), some (aI (iZ x3)), none], [], am_hp σ, t) Q := by
  refine w_s (c' := (1, [some (aR (some (1, 0, 0))), some (aR (some (7, p1, 0))), some (aI (iZ x2)), some (aI (iZ x3)), none], [aI (iZ x3)], am_hp σ, t)) rfl rfl ?_
  refine w_psh rfl zc_2 rfl ?_
  exact w_iclt rfl h1 (by decide) rfl w2 w3

theorem e_X11_doRepeat {p1 : Nat} {x2 : Int} {x3 : Int} {h : AH} {t : KT} {d : Nat} {P : RS → Prop} (w : Wp k_X11_doRepeat d (0, [some (aR (some (1, 0, 0))), some (aR (some (7, p1, 0))), some (aI (iZ x2)), some (aI (iZ x3)), none], [], h, t) P) : ∃ r, Ca (d + 1) 164 [aR (some (1, 0, 0)), aR (some (7, p1, 0)), aI (iZ x2), aI (iZ x3)] h t r ∧ P r := ca_W rfl rfl rfl rfl w

theorem b_X11_doRepeat_5 {p1 : Nat} {x2 : Int} {x3 : Int} {σ : SG} {t : KT} (q1 : Q (.inl none, am_hp σ, t)) : Wp k_X11_doRepeat d (5, [some (aR (some (1, 0, 0))), some (aR (some (7, p1, 0))), some (aI (iZ x2)), some (aI (iZ x3)), none], [], am_hp σ, t) Q := by
  exact w_f rfl rfl q1

theorem b_X11_doRepeat_6 {p1 : Nat} {x2 : Int} {x3 : Int} {σ : SG} {t : KT} (w1 : Wp k_X11_doRepeat d (9, [some (aR (some (1, 0, 0))), some (aR (some (7, p1, 0))), some (aI (iZ x2)), some (aI (iZ x3)), some (aI (iZ 0))], [], am_hp σ, t) Q) : Wp k_X11_doRepeat d (6, [some (aR (some (1, 0, 0))), some (aR (some (7, p1, 0))), some (aI (iZ x2)), some (aI (iZ x3)), none], [], am_hp σ, t) Q := by
  refine w_psh rfl zc_0 rfl ?_
  refine w_s (c' := (9, [some (aR (some (1, 0, 0))), some (aR (some (7, p1, 0))), some (aI (iZ x2)), some (aI (iZ x3)), some (aI (iZ 0))], [], am_hp σ, t)) rfl rfl ?_
  exact w1

theorem b_X11_doRepeat_9 {p1 : Nat} {x2 : Int} {x3 : Int} {x4 : Int} {σ : SG} {t : KT} (h1 : -2147483648 ≤ x4 ∧ x4 < 2147483648) (h2 : -2147483648 ≤ σ.1 (7, p1, 0) 6 ∧ σ.1 (7, p1, 0) 6 < 2147483648) (w3 : σ.1 (7, p1, 0) 6 ≤ x4 → Wp k_X11_doRepeat d (46, [some (aR (some (1, 0, 0))), some (aR (some (7, p1, 0))), some (aI (iZ x2)), some (aI (iZ x3)), some (aI (iZ x4))], [], am_hp σ, t) Q) (w4 : x4 < σ.1 (7, p1, 0) 6 → Wp k_X11_doRepeat d (18, [some (aR (some (1, 0, 0))), some (aR (some (7, p1, 0))), some (aI (iZ x2)), some (aI (iZ x3)), some (aI (iZ x4))], [], am_hp σ, t) Q) : Wp k_X11_doRepeat d (9, [some (aR (some (1, 0, 0))), some (aR (some (7, p1, 0))), some (aI (iZ x2)), some (aI (iZ x3)), some (aI (iZ x4))], [], am_hp σ, t) Q := by
  refine w_s (c' := (11, [some (aR (some (1, 0, 0))), some (aR (some (7, p1, 0))), some (aI (iZ x2)), some (aI (iZ x3)), some (aI (iZ x4))], [aI (iZ x4)], am_hp σ, t)) rfl rfl ?_
  refine w_s (c' := (12, [some (aR (some (1, 0, 0))), some (aR (some (7, p1, 0))), some (aI (iZ x2)), some (aI (iZ x3)), some (aI (iZ x4))], [aR (some (7, p1, 0)), aI (iZ x4)], am_hp σ, t)) rfl rfl ?_
  refine w_get rfl (hp_7 _ p1) rfl rfl ?_
  exact w_icge rfl h1 h2 rfl w3 w4

theorem b_X11_doRepeat_18 {p1 : Nat} {x2 : Int} {x3 : Int} {x4 : Int} {σ : SG} {t : KT} (h1 : -2147483648 ≤ σ.1 (4, 0, 0) 5 ∧ σ.1 (4, 0, 0) 5 < 2147483648) (w2 : σ.1 (4, 0, 0) 5 = 0 → Wp k_X11_doRepeat d (46, [some (aR (some (1, 0, 0))), some (aR (some (7, p1, 0))), some (aI (iZ x2)), some (aI (iZ x3)), some (aI (iZ x4))], [], am_hp σ, t) Q) (w3 : σ.1 (4, 0, 0) 5 ≠ 0 → Wp k_X11_doRepeat d (28, [some (aR (some (1, 0, 0))), some (aR (some (7, p1, 0))), some (aI (iZ x2)), some (aI (iZ x3)), some (aI (iZ x4))], [], am_hp σ, t) Q) : Wp k_X11_doRepeat d (18, [some (aR (some (1, 0, 0))), some (aR (some (7, p1, 0))), some (aI (iZ x2)), some (aI (iZ x3)), some (aI (iZ x4))], [], am_hp σ, t) Q := by
  refine w_s (c' := (19, [some (aR (some (1, 0, 0))), some (aR (some (7, p1, 0))), some (aI (iZ x2)), some (aI (iZ x3)), some (aI (iZ x4))], [aR (some (1, 0, 0))], am_hp σ, t)) rfl rfl ?_
  refine w_get rfl (hp_1 _ 0) rfl rfl ?_
  refine w_get rfl (hp_4 _ 0) rfl rfl ?_
  exact w_ifeq rfl h1 rfl w2 w3

theorem b_X11_doRepeat_28 {p1 : Nat} {x2 : Int} {x3 : Int} {x4 : Int} {σ σ1 : SG} {t : KT} (c1 : Ca d 163 [aR (some (1, 0, 0)), aI (iZ x2), aI (iZ (σ.1 (7, p1, 0) 7)), aI (iZ (x3 + 1))] (am_hp σ) t (.inl none, am_hp σ1, t)) (w2 : Wp k_X11_doRepeat d (9, [some (aR (some (1, 0, 0))), some (aR (some (7, p1, 0))), some (aI (iZ x2)), some (aI (iZ x3)), some (aI (iZ (x4 + 1)))], [], am_hp σ1, t) Q) : Wp k_X11_doRepeat d (28, [some (aR (some (1, 0, 0))), some (aR (some (7, p1, 0))), some (aI (iZ x2)), some (aI (iZ x3)), some (aI (iZ x4))], [], am_hp σ, t) Q := by
  refine w_s (c' := (29, [some (aR (some (1, 0, 0))), some (aR (some (7, p1, 0))), some (aI (iZ x2)), some (aI (iZ x3)), some (aI (iZ x4))], [aR (some (1, 0, 0))], am_hp σ, t)) rfl rfl ?_
  refine w_s (c' := (30, [some (aR (some (1, 0, 0))), some (aR (some (7, p1, 0))), some (aI (iZ x2)), some (aI (iZ x3)), some (aI (iZ x4))], [aI (iZ x2), aR (some (1, 0, 0))], am_hp σ, t)) rfl rfl ?_
  refine w_s (c' := (31, [some (aR (some (1, 0, 0))), some (aR (some (7, p1, 0))), some (aI (iZ x2)), some (aI (iZ x3)), some (aI (iZ x4))], [aR (some (7, p1, 0)), aI (iZ x2), aR (some (1, 0, 0))], am_hp σ, t)) rfl rfl ?_
  refine w_get rfl (hp_7 _ p1) rfl rfl ?_
  refine w_s (c' := (35, [some (aR (some (1, 0, 0))), some (aR (some (7, p1, 0))), some (aI (iZ x2)), some (aI (iZ x3)), some (aI (iZ x4))], [aI (iZ x3), aI (iZ (σ.1 (7, p1, 0) 7)), aI (iZ x2), aR (some (1, 0, 0))], am_hp σ, t)) rfl rfl ?_
  refine w_psh rfl zc_1 rfl ?_
  refine w_iadd rfl rfl ?_
  refine w_c0 (c' := (40, [some (aR (some (1, 0, 0))), some (aR (some (7, p1, 0))), some (aI (iZ x2)), some (aI (iZ x3)), some (aI (iZ x4))], [], am_hp σ1, t)) rfl rfl (rcv_of (hp_1 _ 0)) rfl c1 (Nat.le_refl _) rfl ?_
  refine w_inc (a := x4) (ls' := [some (aR (some (1, 0, 0))), some (aR (some (7, p1, 0))), some (aI (iZ x2)), some (aI (iZ x3)), some (aI (iZ (x4 + 1)))]) rfl rfl rfl zc_1 rfl rfl ?_
  refine w_s (c' := (9, [some (aR (some (1, 0, 0))), some (aR (some (7, p1, 0))), some (aI (iZ x2)), some (aI (iZ x3)), some (aI (iZ (x4 + 1)))], [], am_hp σ1, t)) rfl rfl ?_
  exact w2

theorem b_X11_doRepeat_46 {p1 : Nat} {x2 : Int} {x3 : Int} {x4 : Int} {σ : SG} {t : KT} (q1 : Q (.inl none, am_hp σ, t)) : Wp k_X11_doRepeat d (46, [some (aR (some (1, 0, 0))), some (aR (some (7, p1, 0))), some (aI (iZ x2)), some (aI (iZ x3)), some (aI (iZ x4))], [], am_hp σ, t) Q := by
  exact w_f rfl rfl q1

theorem b_X11_doStep_0 {p1 : Nat} {r1 : Int} {r2 : Int} {r3 : Int} {σ σ1 σ2 σ3 : SG} {t : KT} (c1 : Ca d 46 [aR (some (8, 0, 0)), aL (jZ (σ.2.1 (7, p1, 0) 1))] (am_hp σ) t (.inl (some (aI (iZ r1))), am_hp σ1, t)) (c2 : Ca d 46 [aR (some (8, 0, 0)), aL (jZ (((sI σ1 (7, p1, 0) (up (σ1.1 (7, p1, 0)) 3 r1))).2.1 (7, p1, 0) 2))] (am_hp ((sI σ1 (7, p1, 0) (up (σ1.1 (7, p1, 0)) 3 r1)))) t (.inl (some (aI (iZ r2))), am_hp σ2, t)) (c3 : Ca d 167 [aR (some (1, 0, 0)), aR (some (7, p1, 0))] (am_hp ((sI σ2 (7, p1, 0) (up (σ2.1 (7, p1, 0)) 4 r2)))) t (.inl (some (aI (iZ r3))), am_hp σ3, t)) (h4 : -2147483648 ≤ r3 ∧ r3 < 2147483648) (w5 : r3 ≠ 0 → Wp k_X11_doStep d (83, [some (aR (some (1, 0, 0))), some (aR (some (7, p1, 0))), some (aI (iZ r3))], [], am_hp σ3, t) Q) (w6 : r3 = 0 → Wp k_X11_doStep d (40, [some (aR (some (1, 0, 0))), some (aR (some (7, p1, 0))), some (aI (iZ r3))], [], am_hp σ3, t) Q) : Wp k_X11_doStep d (0, [some (aR (some (1, 0, 0))), some (aR (some (7, p1, 0))), none], [], am_hp σ, t) Q := by
  refine w_s (c' := (1, [some (aR (some (1, 0, 0))), some (aR (some (7, p1, 0))), none], [aR (some (7, p1, 0))], am_hp σ, t)) rfl rfl ?_
  refine w_s (c' := (2, [some (aR (some (1, 0, 0))), some (aR (some (7, p1, 0))), none], [aR (some (1, 0, 0)), aR (some (7, p1, 0))], am_hp σ, t)) rfl rfl ?_
  refine w_get rfl (hp_1 _ 0) rfl rfl ?_
  refine w_s (c' := (6, [some (aR (some (1, 0, 0))), some (aR (some (7, p1, 0))), none], [aR (some (7, p1, 0)), aR (some (8, 0, 0)), aR (some (7, p1, 0))], am_hp σ, t)) rfl rfl ?_
  refine w_get rfl (hp_7 _ p1) rfl rfl ?_
  refine w_c0 (c' := (12, [some (aR (some (1, 0, 0))), some (aR (some (7, p1, 0))), none], [aI (iZ r1), aR (some (7, p1, 0))], am_hp σ1, t)) rfl rfl (rcv_of (hp_8 _ 0)) rfl c1 (Nat.le_refl _) rfl ?_
  refine w_putI rfl (hp_7 _ p1) rfl rfl rfl ?_
  refine w_s (c' := (16, [some (aR (some (1, 0, 0))), some (aR (some (7, p1, 0))), none], [aR (some (7, p1, 0))], am_hp ((sI σ1 (7, p1, 0) (up (σ1.1 (7, p1, 0)) 3 r1))), t)) rfl rfl ?_
  refine w_s (c' := (17, [some (aR (some (1, 0, 0))), some (aR (some (7, p1, 0))), none], [aR (some (1, 0, 0)), aR (some (7, p1, 0))], am_hp ((sI σ1 (7, p1, 0) (up (σ1.1 (7, p1, 0)) 3 r1))), t)) rfl rfl ?_
  refine w_get rfl (hp_1 _ 0) rfl rfl ?_
  refine w_s (c' := (21, [some (aR (some (1, 0, 0))), some (aR (some (7, p1, 0))), none], [aR (some (7, p1, 0)), aR (some (8, 0, 0)), aR (some (7, p1, 0))], am_hp ((sI σ1 (7, p1, 0) (up (σ1.1 (7, p1, 0)) 3 r1))), t)) rfl rfl ?_
  refine w_get rfl (hp_7 _ p1) rfl rfl ?_
  refine w_c0 (c' := (27, [some (aR (some (1, 0, 0))), some (aR (some (7, p1, 0))), none], [aI (iZ r2), aR (some (7, p1, 0))], am_hp σ2, t)) rfl rfl (rcv_of (hp_8 _ 0)) rfl c2 (Nat.le_refl _) rfl ?_
  refine w_putI rfl (hp_7 _ p1) rfl rfl rfl ?_
  refine w_s (c' := (31, [some (aR (some (1, 0, 0))), some (aR (some (7, p1, 0))), none], [aR (some (1, 0, 0))], am_hp ((sI σ2 (7, p1, 0) (up (σ2.1 (7, p1, 0)) 4 r2))), t)) rfl rfl ?_
  refine w_s (c' := (32, [some (aR (some (1, 0, 0))), some (aR (some (7, p1, 0))), none], [aR (some (7, p1, 0)), aR (some (1, 0, 0))], am_hp ((sI σ2 (7, p1, 0) (up (σ2.1 (7, p1, 0)) 4 r2))), t)) rfl rfl ?_
  refine w_c0 (c' := (35, [some (aR (some (1, 0, 0))), some (aR (some (7, p1, 0))), none], [aI (iZ r3)], am_hp σ3, t)) rfl rfl (rcv_of (hp_1 _ 0)) rfl c3 (Nat.le_refl _) rfl ?_
  refine w_s (c' := (36, [some (aR (some (1, 0, 0))), some (aR (some (7, p1, 0))), some (aI (iZ r3))], [], am_hp σ3, t)) rfl rfl ?_
  refine w_s (c' := (37, [some (aR (some (1, 0, 0))), some (aR (some (7, p1, 0))), some (aI (iZ r3))], [aI (iZ r3)], am_hp σ3, t)) rfl rfl ?_
  exact w_ifne rfl h4 rfl w5 w6

theorem e_X11_doStep {p1 : Nat} {h : AH} {t : KT} {d : Nat} {P : RS → Prop} (w : Wp k_X11_doStep d (0, [some (aR (some (1, 0, 0))), some (aR (some (7, p1, 0))), none], [], h, t) P) : ∃ r, Ca (d + 1) 165 [aR (some (1, 0, 0)), aR (some (7, p1, 0))] h t r ∧ P r := ca_W rfl rfl rfl rfl w

theorem b_X11_doStep_40 {p1 : Nat} {x2 : Int} {σ σ1 : SG} {t : KT} (c1 : Ca d 172 [aR (some (1, 0, 0)), aR (some (7, p1, 0))] (am_hp σ) t (.inl none, am_hp σ1, t)) (h2 : -2147483648 ≤ ((sI σ1 (4, 0, 0) (up (σ1.1 (4, 0, 0)) 4 ((σ1.1 (4, 0, 0) 4) + 1)))).1 (4, 0, 0) 4 ∧ ((sI σ1 (4, 0, 0) (up (σ1.1 (4, 0, 0)) 4 ((σ1.1 (4, 0, 0) 4) + 1)))).1 (4, 0, 0) 4 < 2147483648) (w3 : 40 ≤ ((sI σ1 (4, 0, 0) (up (σ1.1 (4, 0, 0)) 4 ((σ1.1 (4, 0, 0) 4) + 1)))).1 (4, 0, 0) 4 → Wp k_X11_doStep d (78, [some (aR (some (1, 0, 0))), some (aR (some (7, p1, 0))), some (aI (iZ x2))], [aR (some (4, 0, 0))], am_hp ((sI σ1 (4, 0, 0) (up (σ1.1 (4, 0, 0)) 4 ((σ1.1 (4, 0, 0) 4) + 1)))), t) Q) (w4 : ((sI σ1 (4, 0, 0) (up (σ1.1 (4, 0, 0)) 4 ((σ1.1 (4, 0, 0) 4) + 1)))).1 (4, 0, 0) 4 < 40 → Wp k_X11_doStep d (74, [some (aR (some (1, 0, 0))), some (aR (some (7, p1, 0))), some (aI (iZ x2))], [aR (some (4, 0, 0))], am_hp ((sI σ1 (4, 0, 0) (up (σ1.1 (4, 0, 0)) 4 ((σ1.1 (4, 0, 0) 4) + 1)))), t) Q) : Wp k_X11_doStep d (40, [some (aR (some (1, 0, 0))), some (aR (some (7, p1, 0))), some (aI (iZ x2))], [], am_hp σ, t) Q := by
  refine w_s (c' := (41, [some (aR (some (1, 0, 0))), some (aR (some (7, p1, 0))), some (aI (iZ x2))], [aR (some (1, 0, 0))], am_hp σ, t)) rfl rfl ?_
  refine w_s (c' := (42, [some (aR (some (1, 0, 0))), some (aR (some (7, p1, 0))), some (aI (iZ x2))], [aR (some (7, p1, 0)), aR (some (1, 0, 0))], am_hp σ, t)) rfl rfl ?_
  refine w_c0 (c' := (45, [some (aR (some (1, 0, 0))), some (aR (some (7, p1, 0))), some (aI (iZ x2))], [], am_hp σ1, t)) rfl rfl (rcv_of (hp_1 _ 0)) rfl c1 (Nat.le_refl _) rfl ?_
  refine w_s (c' := (46, [some (aR (some (1, 0, 0))), some (aR (some (7, p1, 0))), some (aI (iZ x2))], [aR (some (1, 0, 0))], am_hp σ1, t)) rfl rfl ?_
  refine w_get rfl (hp_1 _ 0) rfl rfl ?_
  refine w_s (c' := (50, [some (aR (some (1, 0, 0))), some (aR (some (7, p1, 0))), some (aI (iZ x2))], [aR (some (4, 0, 0)), aR (some (4, 0, 0))], am_hp σ1, t)) rfl rfl ?_
  refine w_get rfl (hp_4 _ 0) rfl rfl ?_
  refine w_psh rfl zc_1 rfl ?_
  refine w_iadd rfl rfl ?_
  refine w_putI rfl (hp_4 _ 0) rfl rfl rfl ?_
  refine w_s (c' := (59, [some (aR (some (1, 0, 0))), some (aR (some (7, p1, 0))), some (aI (iZ x2))], [aR (some (1, 0, 0))], am_hp ((sI σ1 (4, 0, 0) (up (σ1.1 (4, 0, 0)) 4 ((σ1.1 (4, 0, 0) 4) + 1)))), t)) rfl rfl ?_
  refine w_get rfl (hp_1 _ 0) rfl rfl ?_
  refine w_s (c' := (63, [some (aR (some (1, 0, 0))), some (aR (some (7, p1, 0))), some (aI (iZ x2))], [aR (some (1, 0, 0)), aR (some (4, 0, 0))], am_hp ((sI σ1 (4, 0, 0) (up (σ1.1 (4, 0, 0)) 4 ((σ1.1 (4, 0, 0) 4) + 1)))), t)) rfl rfl ?_
  refine w_get rfl (hp_1 _ 0) rfl rfl ?_
  refine w_get rfl (hp_4 _ 0) rfl rfl ?_
  refine w_psh rfl zc_40 rfl ?_
  exact w_icge rfl h2 (by decide) rfl w3 w4

theorem b_X11_doStep_74 {p1 : Nat} {x2 : Int} {σ : SG} {t : KT} (w1 : Wp k_X11_doStep d (79, [some (aR (some (1, 0, 0))), some (aR (some (7, p1, 0))), some (aI (iZ x2))], [aI (iZ 1), aR (some (4, 0, 0))], am_hp σ, t) Q) : Wp k_X11_doStep d (74, [some (aR (some (1, 0, 0))), some (aR (some (7, p1, 0))), some (aI (iZ x2))], [aR (some (4, 0, 0))], am_hp σ, t) Q := by
  refine w_psh rfl zc_1 rfl ?_
  refine w_s (c' := (79, [some (aR (some (1, 0, 0))), some (aR (some (7, p1, 0))), some (aI (iZ x2))], [aI (iZ 1), aR (some (4, 0, 0))], am_hp σ, t)) rfl rfl ?_
  exact w1

theorem b_X11_doStep_78 {p1 : Nat} {x2 : Int} {σ : SG} {t : KT} (w1 : Wp k_X11_doStep d (79, [some (aR (some (1, 0, 0))), some (aR (some (7, p1, 0))), some (aI (iZ x2))], [aI (iZ 0), aR (some (4, 0, 0))], am_hp σ, t) Q) : Wp k_X11_doStep d (78, [some (aR (some (1, 0, 0))), some (aR (some (7, p1, 0))), some (aI (iZ x2))], [aR (some (4, 0, 0))], am_hp σ, t) Q := by
  refine w_psh rfl zc_0 rfl ?_
  exact w1

theorem b_X11_doStep_79 {p1 : Nat} {x2 : Int} {xs0 : Int} {σ : SG} {t : KT} (h1 : xs0 = 0 ∨ xs0 = 1) (q2 : Q (.inl none, am_hp ((sI σ (4, 0, 0) (up (σ.1 (4, 0, 0)) 5 xs0))), t)) : Wp k_X11_doStep d (79, [some (aR (some (1, 0, 0))), some (aR (some (7, p1, 0))), some (aI (iZ x2))], [aI (iZ xs0), aR (some (4, 0, 0))], am_hp σ, t) Q := by
  refine w_putb rfl h1 (hp_4 _ 0) rfl rfl rfl ?_
  exact w_f rfl rfl q2

theorem b_X11_doStep_83 {p1 : Nat} {x2 : Int} {σ : SG} {t : KT} (h1 : -2147483648 ≤ x2 ∧ x2 < 2147483648) (w2 : x2 = 1 → Wp k_X11_doStep d (106, [some (aR (some (1, 0, 0))), some (aR (some (7, p1, 0))), some (aI (iZ x2))], [], am_hp ((sI σ (4, 0, 0) (up (σ.1 (4, 0, 0)) 5 0))), t) Q) (w3 : x2 ≠ 1 → Wp k_X11_doStep d (96, [some (aR (some (1, 0, 0))), some (aR (some (7, p1, 0))), some (aI (iZ x2))], [], am_hp ((sI σ (4, 0, 0) (up (σ.1 (4, 0, 0)) 5 0))), t) Q) : Wp k_X11_doStep d (83, [some (aR (some (1, 0, 0))), some (aR (some (7, p1, 0))), some (aI (iZ x2))], [], am_hp σ, t) Q := by
  refine w_s (c' := (84, [some (aR (some (1, 0, 0))), some (aR (some (7, p1, 0))), some (aI (iZ x2))], [aR (some (1, 0, 0))], am_hp σ, t)) rfl rfl ?_
  refine w_get rfl (hp_1 _ 0) rfl rfl ?_
  refine w_psh rfl zc_0 rfl ?_
  refine w_putb rfl (Or.inl rfl) (hp_4 _ 0) rfl rfl rfl ?_
  refine w_s (c' := (92, [some (aR (some (1, 0, 0))), some (aR (some (7, p1, 0))), some (aI (iZ x2))], [aI (iZ x2)], am_hp ((sI σ (4, 0, 0) (up (σ.1 (4, 0, 0)) 5 0))), t)) rfl rfl ?_
  refine w_psh rfl zc_1 rfl ?_
  exact w_iceq rfl h1 (by decide) rfl w2 w3

theorem b_X11_doStep_96 {p1 : Nat} {x2 : Int} {σ : SG} {t : KT} (h1 : -2147483648 ≤ x2 ∧ x2 < 2147483648) (w2 : x2 = 2 → Wp k_X11_doStep d (106, [some (aR (some (1, 0, 0))), some (aR (some (7, p1, 0))), some (aI (iZ x2))], [], am_hp σ, t) Q) (w3 : x2 ≠ 2 → Wp k_X11_doStep d (101, [some (aR (some (1, 0, 0))), some (aR (some (7, p1, 0))), some (aI (iZ x2))], [], am_hp σ, t) Q) : Wp k_X11_doStep d (96, [some (aR (some (1, 0, 0))), some (aR (some (7, p1, 0))), some (aI (iZ x2))], [], am_hp σ, t) Q := by
  refine w_s (c' := (97, [some (aR (some (1, 0, 0))), some (aR (some (7, p1, 0))), some (aI (iZ x2))], [aI (iZ x2)], am_hp σ, t)) rfl rfl ?_
  refine w_psh rfl zc_2 rfl ?_
  exact w_iceq rfl h1 (by decide) rfl w2 w3

theorem b_X11_doStep_101 {p1 : Nat} {x2 : Int} {σ σ1 : SG} {t : KT} (c1 : Ca d 166 [aR (some (1, 0, 0)), aI (iZ x2)] (am_hp σ) t (.inl none, am_hp σ1, t)) (w2 : Wp k_X11_doStep d (106, [some (aR (some (1, 0, 0))), some (aR (some (7, p1, 0))), some (aI (iZ x2))], [], am_hp σ1, t) Q) : Wp k_X11_doStep d (101, [some (aR (some (1, 0, 0))), some (aR (some (7, p1, 0))), some (aI (iZ x2))], [], am_hp σ, t) Q := by
  refine w_s (c' := (102, [some (aR (some (1, 0, 0))), some (aR (some (7, p1, 0))), some (aI (iZ x2))], [aR (some (1, 0, 0))], am_hp σ, t)) rfl rfl ?_
  refine w_s (c' := (103, [some (aR (some (1, 0, 0))), some (aR (some (7, p1, 0))), some (aI (iZ x2))], [aI (iZ x2), aR (some (1, 0, 0))], am_hp σ, t)) rfl rfl ?_
  refine w_c0 (c' := (106, [some (aR (some (1, 0, 0))), some (aR (some (7, p1, 0))), some (aI (iZ x2))], [], am_hp σ1, t)) rfl rfl (rcv_of (hp_1 _ 0)) rfl c1 (Nat.le_refl _) rfl ?_
  exact w2

theorem b_X11_doStep_106 {p1 : Nat} {x2 : Int} {σ : SG} {t : KT} (q1 : Q (.inl none, am_hp σ, t)) : Wp k_X11_doStep d (106, [some (aR (some (1, 0, 0))), some (aR (some (7, p1, 0))), some (aI (iZ x2))], [], am_hp σ, t) Q := by
  exact w_f rfl rfl q1

theorem b_X11_noteRefusal_0 {x1 : Int} {σ : SG} {t : KT} (q1 : Q (.inl none, am_hp ((sI (sI σ (1, 0, 0) (up (σ.1 (1, 0, 0)) 11 x1)) (27, 0, 0) (up (((sI σ (1, 0, 0) (up (σ.1 (1, 0, 0)) 11 x1))).1 (27, 0, 0)) (1 : Int).toNat ((((sI σ (1, 0, 0) (up (σ.1 (1, 0, 0)) 11 x1))).1 (27, 0, 0) 1) + 1)))), t)) : Wp k_X11_noteRefusal d (0, [some (aR (some (1, 0, 0))), some (aI (iZ x1))], [], am_hp σ, t) Q := by
  refine w_s (c' := (1, [some (aR (some (1, 0, 0))), some (aI (iZ x1))], [aR (some (1, 0, 0))], am_hp σ, t)) rfl rfl ?_
  refine w_s (c' := (2, [some (aR (some (1, 0, 0))), some (aI (iZ x1))], [aI (iZ x1), aR (some (1, 0, 0))], am_hp σ, t)) rfl rfl ?_
  refine w_putI rfl (hp_1 _ 0) rfl rfl rfl ?_
  refine w_s (c' := (6, [some (aR (some (1, 0, 0))), some (aI (iZ x1))], [aR (some (1, 0, 0))], am_hp ((sI σ (1, 0, 0) (up (σ.1 (1, 0, 0)) 11 x1))), t)) rfl rfl ?_
  refine w_get rfl (hp_1 _ 0) rfl rfl ?_
  refine w_psh rfl zc_1 rfl ?_
  refine w_s (c' := (11, [some (aR (some (1, 0, 0))), some (aI (iZ x1))], [aI (iZ 1), aR (some (27, 0, 0)), aI (iZ 1), aR (some (27, 0, 0))], am_hp ((sI σ (1, 0, 0) (up (σ.1 (1, 0, 0)) 11 x1))), t)) rfl rfl ?_
  refine w_ial rfl (hp_27 _ 0 0) (by decide) rfl rfl ?_
  refine w_e (c' := (12, [some (aR (some (1, 0, 0))), some (aI (iZ x1))], [aI (iZ (((sI σ (1, 0, 0) (up (σ.1 (1, 0, 0)) 11 x1))).1 (27, 0, 0) 1)), aI (iZ 1), aR (some (27, 0, 0))], am_hp ((sI σ (1, 0, 0) (up (σ.1 (1, 0, 0)) 11 x1))), t)) rfl ?_
  refine w_psh rfl zc_1 rfl ?_
  refine w_iadd rfl rfl ?_
  refine w_ias rfl (mk_27 _ 0 0) (by decide) rfl rfl rfl ?_
  exact w_f rfl rfl q1

theorem e_X11_noteRefusal {x1 : Int} {h : AH} {t : KT} {d : Nat} {P : RS → Prop} (w : Wp k_X11_noteRefusal d (0, [some (aR (some (1, 0, 0))), some (aI (iZ x1))], [], h, t) P) : ∃ r, Ca (d + 1) 166 [aR (some (1, 0, 0)), aI (iZ x1)] h t r ∧ P r := ca_W rfl rfl rfl rfl w

theorem b_X11_verdictOn_0 {p1 : Nat} {r1 : Int} {σ σ1 : SG} {t : KT} (c1 : Ca d 336 [aR (some (91, (σ.2.2.2.1 (7, p1, 0)), 0))] (am_hp σ) t (.inl (some (aI (iZ r1))), am_hp σ1, t)) (h2 : 0 ≤ r1 ∧ r1 < 10) (h3 : -2147483648 ≤ swmZ r1.toNat ∧ swmZ r1.toNat < 2147483648) (w4 : swmZ r1.toNat = 1 → Wp k_X11_verdictOn d (60, [some (aR (some (1, 0, 0))), some (aR (some (7, p1, 0)))], [], am_hp σ1, t) Q) (w5 : swmZ r1.toNat = 2 → Wp k_X11_verdictOn d (69, [some (aR (some (1, 0, 0))), some (aR (some (7, p1, 0)))], [], am_hp σ1, t) Q) (w6 : swmZ r1.toNat = 3 → Wp k_X11_verdictOn d (93, [some (aR (some (1, 0, 0))), some (aR (some (7, p1, 0)))], [], am_hp σ1, t) Q) (w7 : swmZ r1.toNat = 4 → Wp k_X11_verdictOn d (110, [some (aR (some (1, 0, 0))), some (aR (some (7, p1, 0)))], [], am_hp σ1, t) Q) (w8 : swmZ r1.toNat = 5 → Wp k_X11_verdictOn d (144, [some (aR (some (1, 0, 0))), some (aR (some (7, p1, 0)))], [], am_hp σ1, t) Q) (w9 : swmZ r1.toNat = 6 → Wp k_X11_verdictOn d (168, [some (aR (some (1, 0, 0))), some (aR (some (7, p1, 0)))], [], am_hp σ1, t) Q) (w10 : swmZ r1.toNat = 7 → Wp k_X11_verdictOn d (181, [some (aR (some (1, 0, 0))), some (aR (some (7, p1, 0)))], [], am_hp σ1, t) Q) (w11 : swmZ r1.toNat = 8 → Wp k_X11_verdictOn d (191, [some (aR (some (1, 0, 0))), some (aR (some (7, p1, 0)))], [], am_hp σ1, t) Q) (w12 : swmZ r1.toNat = 9 → Wp k_X11_verdictOn d (202, [some (aR (some (1, 0, 0))), some (aR (some (7, p1, 0)))], [], am_hp σ1, t) Q) (w13 : (swmZ r1.toNat < 1 ∨ 10 ≤ swmZ r1.toNat) → Wp k_X11_verdictOn d (233, [some (aR (some (1, 0, 0))), some (aR (some (7, p1, 0)))], [], am_hp σ1, t) Q) : Wp k_X11_verdictOn d (0, [some (aR (some (1, 0, 0))), some (aR (some (7, p1, 0)))], [], am_hp σ, t) Q := by
  refine w_s (c' := (3, [some (aR (some (1, 0, 0))), some (aR (some (7, p1, 0)))], [aR (some (90, 2, 0))], am_hp σ, t)) rfl rfl ?_
  refine w_s (c' := (4, [some (aR (some (1, 0, 0))), some (aR (some (7, p1, 0)))], [aR (some (7, p1, 0)), aR (some (90, 2, 0))], am_hp σ, t)) rfl rfl ?_
  refine w_get rfl (hp_7 _ p1) rfl rfl ?_
  refine w_c0 (c' := (10, [some (aR (some (1, 0, 0))), some (aR (some (7, p1, 0)))], [aI (iZ r1), aR (some (90, 2, 0))], am_hp σ1, t)) rfl rfl (rcv_of (hp_91 _ (σ.2.2.2.1 (7, p1, 0)))) rfl c1 (Nat.le_refl _) rfl ?_
  refine w_ial rfl (hp_90_2 _) h2 rfl rfl ?_
  refine w_tab rfl h3 ?_
  rcases (by omega : swmZ r1.toNat = 1 ∨ swmZ r1.toNat = 2 ∨ swmZ r1.toNat = 3 ∨ swmZ r1.toNat = 4 ∨ swmZ r1.toNat = 5 ∨ swmZ r1.toNat = 6 ∨ swmZ r1.toNat = 7 ∨ swmZ r1.toNat = 8 ∨ swmZ r1.toNat = 9 ∨ (swmZ r1.toNat < 1 ∨ 10 ≤ swmZ r1.toNat)) with hd | hd | hd | hd | hd | hd | hd | hd | hd | hd
  · rw [show (if swmZ r1.toNat < (1 : Int) then 233 else [60, 69, 93, 110, 144, 168, 181, 191, 202].getD (swmZ r1.toNat - 1).toNat 233) = 60 by rw [hd]; rfl]; exact w4 hd
  · rw [show (if swmZ r1.toNat < (1 : Int) then 233 else [60, 69, 93, 110, 144, 168, 181, 191, 202].getD (swmZ r1.toNat - 1).toNat 233) = 69 by rw [hd]; rfl]; exact w5 hd
  · rw [show (if swmZ r1.toNat < (1 : Int) then 233 else [60, 69, 93, 110, 144, 168, 181, 191, 202].getD (swmZ r1.toNat - 1).toNat 233) = 93 by rw [hd]; rfl]; exact w6 hd
  · rw [show (if swmZ r1.toNat < (1 : Int) then 233 else [60, 69, 93, 110, 144, 168, 181, 191, 202].getD (swmZ r1.toNat - 1).toNat 233) = 110 by rw [hd]; rfl]; exact w7 hd
  · rw [show (if swmZ r1.toNat < (1 : Int) then 233 else [60, 69, 93, 110, 144, 168, 181, 191, 202].getD (swmZ r1.toNat - 1).toNat 233) = 144 by rw [hd]; rfl]; exact w8 hd
  · rw [show (if swmZ r1.toNat < (1 : Int) then 233 else [60, 69, 93, 110, 144, 168, 181, 191, 202].getD (swmZ r1.toNat - 1).toNat 233) = 168 by rw [hd]; rfl]; exact w9 hd
  · rw [show (if swmZ r1.toNat < (1 : Int) then 233 else [60, 69, 93, 110, 144, 168, 181, 191, 202].getD (swmZ r1.toNat - 1).toNat 233) = 181 by rw [hd]; rfl]; exact w10 hd
  · rw [show (if swmZ r1.toNat < (1 : Int) then 233 else [60, 69, 93, 110, 144, 168, 181, 191, 202].getD (swmZ r1.toNat - 1).toNat 233) = 191 by rw [hd]; rfl]; exact w11 hd
  · rw [show (if swmZ r1.toNat < (1 : Int) then 233 else [60, 69, 93, 110, 144, 168, 181, 191, 202].getD (swmZ r1.toNat - 1).toNat 233) = 202 by rw [hd]; rfl]; exact w12 hd
  · rw [show (if swmZ r1.toNat < (1 : Int) then 233 else [60, 69, 93, 110, 144, 168, 181, 191, 202].getD (swmZ r1.toNat - 1).toNat 233) = 233 by exact tgt_df [60, 69, 93, 110, 144, 168, 181, 191, 202] _ (by decide) hd]; exact w13 hd

theorem e_X11_verdictOn {p1 : Nat} {h : AH} {t : KT} {d : Nat} {P : RS → Prop} (w : Wp k_X11_verdictOn d (0, [some (aR (some (1, 0, 0))), some (aR (some (7, p1, 0)))], [], h, t) P) : ∃ r, Ca (d + 1) 167 [aR (some (1, 0, 0)), aR (some (7, p1, 0))] h t r ∧ P r := ca_W rfl rfl rfl rfl w

theorem b_X11_verdictOn_60 {p1 : Nat} {r1 : Int} {σ σ1 : SG} {t : KT} (c1 : Ca d 168 [aR (some (1, 0, 0)), aL (jZ (σ.2.1 (7, p1, 0) 1))] (am_hp σ) t (.inl (some (aI (iZ r1))), am_hp σ1, t)) (q2 : Q (.inl (some (aI (iZ r1))), am_hp σ1, t)) : Wp k_X11_verdictOn d (60, [some (aR (some (1, 0, 0))), some (aR (some (7, p1, 0)))], [], am_hp σ, t) Q := by
  refine w_s (c' := (61, [some (aR (some (1, 0, 0))), some (aR (some (7, p1, 0)))], [aR (some (1, 0, 0))], am_hp σ, t)) rfl rfl ?_
  refine w_s (c' := (62, [some (aR (some (1, 0, 0))), some (aR (some (7, p1, 0)))], [aR (some (7, p1, 0)), aR (some (1, 0, 0))], am_hp σ, t)) rfl rfl ?_
  refine w_get rfl (hp_7 _ p1) rfl rfl ?_
  refine w_c0 (c' := (68, [some (aR (some (1, 0, 0))), some (aR (some (7, p1, 0)))], [aI (iZ r1)], am_hp σ1, t)) rfl rfl (rcv_of (hp_1 _ 0)) rfl c1 (Nat.le_refl _) rfl ?_
  exact w_ret rfl rfl q2

theorem b_X11_verdictOn_69 {p1 : Nat} {r1 : Int} {r2 : Int} {σ σ1 σ2 : SG} {t : KT} (c1 : Ca d 44 [aR (some (8, 0, 0)), aI (iZ (σ.1 (7, p1, 0) 3))] (am_hp σ) t (.inl (some (aI (iZ r1))), am_hp σ1, t)) (c2 : Ca d 169 [aR (some (1, 0, 0)), aI (iZ (σ.1 (7, p1, 0) 3)), aI (iZ r1), aI (iZ (σ1.1 (7, p1, 0) 6))] (am_hp σ1) t (.inl (some (aI (iZ r2))), am_hp σ2, t)) (q3 : Q (.inl (some (aI (iZ r2))), am_hp σ2, t)) : Wp k_X11_verdictOn d (69, [some (aR (some (1, 0, 0))), some (aR (some (7, p1, 0)))], [], am_hp σ, t) Q := by
  refine w_s (c' := (70, [some (aR (some (1, 0, 0))), some (aR (some (7, p1, 0)))], [aR (some (1, 0, 0))], am_hp σ, t)) rfl rfl ?_
  refine w_s (c' := (71, [some (aR (some (1, 0, 0))), some (aR (some (7, p1, 0)))], [aR (some (7, p1, 0)), aR (some (1, 0, 0))], am_hp σ, t)) rfl rfl ?_
  refine w_get rfl (hp_7 _ p1) rfl rfl ?_
  refine w_s (c' := (75, [some (aR (some (1, 0, 0))), some (aR (some (7, p1, 0)))], [aR (some (1, 0, 0)), aI (iZ (σ.1 (7, p1, 0) 3)), aR (some (1, 0, 0))], am_hp σ, t)) rfl rfl ?_
  refine w_get rfl (hp_1 _ 0) rfl rfl ?_
  refine w_s (c' := (79, [some (aR (some (1, 0, 0))), some (aR (some (7, p1, 0)))], [aR (some (7, p1, 0)), aR (some (8, 0, 0)), aI (iZ (σ.1 (7, p1, 0) 3)), aR (some (1, 0, 0))], am_hp σ, t)) rfl rfl ?_
  refine w_get rfl (hp_7 _ p1) rfl rfl ?_
  refine w_c0 (c' := (85, [some (aR (some (1, 0, 0))), some (aR (some (7, p1, 0)))], [aI (iZ r1), aI (iZ (σ.1 (7, p1, 0) 3)), aR (some (1, 0, 0))], am_hp σ1, t)) rfl rfl (rcv_of (hp_8 _ 0)) rfl c1 (Nat.le_refl _) rfl ?_
  refine w_s (c' := (86, [some (aR (some (1, 0, 0))), some (aR (some (7, p1, 0)))], [aR (some (7, p1, 0)), aI (iZ r1), aI (iZ (σ.1 (7, p1, 0) 3)), aR (some (1, 0, 0))], am_hp σ1, t)) rfl rfl ?_
  refine w_get rfl (hp_7 _ p1) rfl rfl ?_
  refine w_c0 (c' := (92, [some (aR (some (1, 0, 0))), some (aR (some (7, p1, 0)))], [aI (iZ r2)], am_hp σ2, t)) rfl rfl (rcv_of (hp_1 _ 0)) rfl c2 (Nat.le_refl _) rfl ?_
  exact w_ret rfl rfl q3

theorem b_X11_verdictOn_93 {p1 : Nat} {r1 : Int} {σ σ1 : SG} {t : KT} (c1 : Ca d 169 [aR (some (1, 0, 0)), aI (iZ (σ.1 (7, p1, 0) 3)), aI (iZ (σ.1 (7, p1, 0) 5)), aI (iZ (σ.1 (7, p1, 0) 6))] (am_hp σ) t (.inl (some (aI (iZ r1))), am_hp σ1, t)) (q2 : Q (.inl (some (aI (iZ r1))), am_hp σ1, t)) : Wp k_X11_verdictOn d (93, [some (aR (some (1, 0, 0))), some (aR (some (7, p1, 0)))], [], am_hp σ, t) Q := by
  refine w_s (c' := (94, [some (aR (some (1, 0, 0))), some (aR (some (7, p1, 0)))], [aR (some (1, 0, 0))], am_hp σ, t)) rfl rfl ?_
  refine w_s (c' := (95, [some (aR (some (1, 0, 0))), some (aR (some (7, p1, 0)))], [aR (some (7, p1, 0)), aR (some (1, 0, 0))], am_hp σ, t)) rfl rfl ?_
  refine w_get rfl (hp_7 _ p1) rfl rfl ?_
  refine w_s (c' := (99, [some (aR (some (1, 0, 0))), some (aR (some (7, p1, 0)))], [aR (some (7, p1, 0)), aI (iZ (σ.1 (7, p1, 0) 3)), aR (some (1, 0, 0))], am_hp σ, t)) rfl rfl ?_
  refine w_get rfl (hp_7 _ p1) rfl rfl ?_
  refine w_s (c' := (103, [some (aR (some (1, 0, 0))), some (aR (some (7, p1, 0)))], [aR (some (7, p1, 0)), aI (iZ (σ.1 (7, p1, 0) 5)), aI (iZ (σ.1 (7, p1, 0) 3)), aR (some (1, 0, 0))], am_hp σ, t)) rfl rfl ?_
  refine w_get rfl (hp_7 _ p1) rfl rfl ?_
  refine w_c0 (c' := (109, [some (aR (some (1, 0, 0))), some (aR (some (7, p1, 0)))], [aI (iZ r1)], am_hp σ1, t)) rfl rfl (rcv_of (hp_1 _ 0)) rfl c1 (Nat.le_refl _) rfl ?_
  exact w_ret rfl rfl q2

theorem b_X11_verdictOn_110 {p1 : Nat} {r1 : Int} {σ σ1 : SG} {t : KT} (c1 : Ca d 45 [aR (some (8, 0, 0)), aI (iZ (σ.1 (7, p1, 0) 3)), aI (iZ (σ.1 (7, p1, 0) 5))] (am_hp σ) t (.inl (some (aI (iZ r1))), am_hp σ1, t)) (h2 : -2147483648 ≤ r1 ∧ r1 < 2147483648) (w3 : r1 = 0 → Wp k_X11_verdictOn d (142, [some (aR (some (1, 0, 0))), some (aR (some (7, p1, 0)))], [], am_hp σ1, t) Q) (w4 : r1 ≠ 0 → Wp k_X11_verdictOn d (128, [some (aR (some (1, 0, 0))), some (aR (some (7, p1, 0)))], [], am_hp σ1, t) Q) : Wp k_X11_verdictOn d (110, [some (aR (some (1, 0, 0))), some (aR (some (7, p1, 0)))], [], am_hp σ, t) Q := by
  refine w_s (c' := (111, [some (aR (some (1, 0, 0))), some (aR (some (7, p1, 0)))], [aR (some (1, 0, 0))], am_hp σ, t)) rfl rfl ?_
  refine w_get rfl (hp_1 _ 0) rfl rfl ?_
  refine w_s (c' := (115, [some (aR (some (1, 0, 0))), some (aR (some (7, p1, 0)))], [aR (some (7, p1, 0)), aR (some (8, 0, 0))], am_hp σ, t)) rfl rfl ?_
  refine w_get rfl (hp_7 _ p1) rfl rfl ?_
  refine w_s (c' := (119, [some (aR (some (1, 0, 0))), some (aR (some (7, p1, 0)))], [aR (some (7, p1, 0)), aI (iZ (σ.1 (7, p1, 0) 3)), aR (some (8, 0, 0))], am_hp σ, t)) rfl rfl ?_
  refine w_get rfl (hp_7 _ p1) rfl rfl ?_
  refine w_c0 (c' := (125, [some (aR (some (1, 0, 0))), some (aR (some (7, p1, 0)))], [aI (iZ r1)], am_hp σ1, t)) rfl rfl (rcv_of (hp_8 _ 0)) rfl c1 (Nat.le_refl _) rfl ?_
  exact w_ifeq rfl h2 rfl w3 w4

theorem b_X11_verdictOn_128 {p1 : Nat} {r1 : Int} {σ σ1 : SG} {t : KT} (c1 : Ca d 171 [aI (iZ (σ.1 (7, p1, 0) 6)), aI (iZ 0), aI (iZ 268435455)] (am_hp σ) t (.inl (some (aI (iZ r1))), am_hp σ1, t)) (w2 : Wp k_X11_verdictOn d (143, [some (aR (some (1, 0, 0))), some (aR (some (7, p1, 0)))], [aI (iZ r1)], am_hp σ1, t) Q) : Wp k_X11_verdictOn d (128, [some (aR (some (1, 0, 0))), some (aR (some (7, p1, 0)))], [], am_hp σ, t) Q := by
  refine w_s (c' := (129, [some (aR (some (1, 0, 0))), some (aR (some (7, p1, 0)))], [aR (some (7, p1, 0))], am_hp σ, t)) rfl rfl ?_
  refine w_get rfl (hp_7 _ p1) rfl rfl ?_
  refine w_psh rfl zc_0 rfl ?_
  refine w_psh rfl zc_268435455 rfl ?_
  refine w_c0 (c' := (139, [some (aR (some (1, 0, 0))), some (aR (some (7, p1, 0)))], [aI (iZ r1)], am_hp σ1, t)) rfl rfl rfl rfl c1 (Nat.le_refl _) rfl ?_
  refine w_s (c' := (143, [some (aR (some (1, 0, 0))), some (aR (some (7, p1, 0)))], [aI (iZ r1)], am_hp σ1, t)) rfl rfl ?_
  exact w2

theorem b_X11_verdictOn_142 {p1 : Nat} {σ : SG} {t : KT} (w1 : Wp k_X11_verdictOn d (143, [some (aR (some (1, 0, 0))), some (aR (some (7, p1, 0)))], [aI (iZ 1)], am_hp σ, t) Q) : Wp k_X11_verdictOn d (142, [some (aR (some (1, 0, 0))), some (aR (some (7, p1, 0)))], [], am_hp σ, t) Q := by
  refine w_psh rfl zc_1 rfl ?_
  exact w1

theorem b_X11_verdictOn_143 {p1 : Nat} {xs0 : Int} {σ : SG} {t : KT} (q1 : Q (.inl (some (aI (iZ xs0))), am_hp σ, t)) : Wp k_X11_verdictOn d (143, [some (aR (some (1, 0, 0))), some (aR (some (7, p1, 0)))], [aI (iZ xs0)], am_hp σ, t) Q := by
  exact w_ret rfl rfl q1

theorem b_X11_verdictOn_144 {p1 : Nat} {r1 : Int} {σ σ1 : SG} {t : KT} (c1 : Ca d 45 [aR (some (8, 0, 0)), aI (iZ (σ.1 (7, p1, 0) 3)), aI (iZ (σ.1 (7, p1, 0) 5))] (am_hp σ) t (.inl (some (aI (iZ r1))), am_hp σ1, t)) (h2 : -2147483648 ≤ r1 ∧ r1 < 2147483648) (w3 : r1 = 0 → Wp k_X11_verdictOn d (166, [some (aR (some (1, 0, 0))), some (aR (some (7, p1, 0)))], [], am_hp σ1, t) Q) (w4 : r1 ≠ 0 → Wp k_X11_verdictOn d (162, [some (aR (some (1, 0, 0))), some (aR (some (7, p1, 0)))], [], am_hp σ1, t) Q) : Wp k_X11_verdictOn d (144, [some (aR (some (1, 0, 0))), some (aR (some (7, p1, 0)))], [], am_hp σ, t) Q := by
  refine w_s (c' := (145, [some (aR (some (1, 0, 0))), some (aR (some (7, p1, 0)))], [aR (some (1, 0, 0))], am_hp σ, t)) rfl rfl ?_
  refine w_get rfl (hp_1 _ 0) rfl rfl ?_
  refine w_s (c' := (149, [some (aR (some (1, 0, 0))), some (aR (some (7, p1, 0)))], [aR (some (7, p1, 0)), aR (some (8, 0, 0))], am_hp σ, t)) rfl rfl ?_
  refine w_get rfl (hp_7 _ p1) rfl rfl ?_
  refine w_s (c' := (153, [some (aR (some (1, 0, 0))), some (aR (some (7, p1, 0)))], [aR (some (7, p1, 0)), aI (iZ (σ.1 (7, p1, 0) 3)), aR (some (8, 0, 0))], am_hp σ, t)) rfl rfl ?_
  refine w_get rfl (hp_7 _ p1) rfl rfl ?_
  refine w_c0 (c' := (159, [some (aR (some (1, 0, 0))), some (aR (some (7, p1, 0)))], [aI (iZ r1)], am_hp σ1, t)) rfl rfl (rcv_of (hp_8 _ 0)) rfl c1 (Nat.le_refl _) rfl ?_
  exact w_ifeq rfl h2 rfl w3 w4

theorem b_X11_verdictOn_162 {p1 : Nat} {σ : SG} {t : KT} (w1 : Wp k_X11_verdictOn d (167, [some (aR (some (1, 0, 0))), some (aR (some (7, p1, 0)))], [aI (iZ 0)], am_hp σ, t) Q) : Wp k_X11_verdictOn d (162, [some (aR (some (1, 0, 0))), some (aR (some (7, p1, 0)))], [], am_hp σ, t) Q := by
  refine w_psh rfl zc_0 rfl ?_
  refine w_s (c' := (167, [some (aR (some (1, 0, 0))), some (aR (some (7, p1, 0)))], [aI (iZ 0)], am_hp σ, t)) rfl rfl ?_
  exact w1

theorem b_X11_verdictOn_166 {p1 : Nat} {σ : SG} {t : KT} (w1 : Wp k_X11_verdictOn d (167, [some (aR (some (1, 0, 0))), some (aR (some (7, p1, 0)))], [aI (iZ 1)], am_hp σ, t) Q) : Wp k_X11_verdictOn d (166, [some (aR (some (1, 0, 0))), some (aR (some (7, p1, 0)))], [], am_hp σ, t) Q := by
  refine w_psh rfl zc_1 rfl ?_
  exact w1

theorem b_X11_verdictOn_167 {p1 : Nat} {xs0 : Int} {σ : SG} {t : KT} (q1 : Q (.inl (some (aI (iZ xs0))), am_hp σ, t)) : Wp k_X11_verdictOn d (167, [some (aR (some (1, 0, 0))), some (aR (some (7, p1, 0)))], [aI (iZ xs0)], am_hp σ, t) Q := by
  exact w_ret rfl rfl q1

theorem b_X11_verdictOn_168 {p1 : Nat} {r1 : Int} {σ σ1 : SG} {t : KT} (c1 : Ca d 170 [aR (some (1, 0, 0)), aI (iZ (σ.1 (7, p1, 0) 3)), aI (iZ (σ.1 (7, p1, 0) 4))] (am_hp σ) t (.inl (some (aI (iZ r1))), am_hp σ1, t)) (q2 : Q (.inl (some (aI (iZ r1))), am_hp σ1, t)) : Wp k_X11_verdictOn d (168, [some (aR (some (1, 0, 0))), some (aR (some (7, p1, 0)))], [], am_hp σ, t) Q := by
  refine w_s (c' := (169, [some (aR (some (1, 0, 0))), some (aR (some (7, p1, 0)))], [aR (some (1, 0, 0))], am_hp σ, t)) rfl rfl ?_
  refine w_s (c' := (170, [some (aR (some (1, 0, 0))), some (aR (some (7, p1, 0)))], [aR (some (7, p1, 0)), aR (some (1, 0, 0))], am_hp σ, t)) rfl rfl ?_
  refine w_get rfl (hp_7 _ p1) rfl rfl ?_
  refine w_s (c' := (174, [some (aR (some (1, 0, 0))), some (aR (some (7, p1, 0)))], [aR (some (7, p1, 0)), aI (iZ (σ.1 (7, p1, 0) 3)), aR (some (1, 0, 0))], am_hp σ, t)) rfl rfl ?_
  refine w_get rfl (hp_7 _ p1) rfl rfl ?_
  refine w_c0 (c' := (180, [some (aR (some (1, 0, 0))), some (aR (some (7, p1, 0)))], [aI (iZ r1)], am_hp σ1, t)) rfl rfl (rcv_of (hp_1 _ 0)) rfl c1 (Nat.le_refl _) rfl ?_
  exact w_ret rfl rfl q2

theorem b_X11_verdictOn_181 {p1 : Nat} {r1 : Int} {σ σ1 : SG} {t : KT} (c1 : Ca d 171 [aI (iZ (σ.1 (7, p1, 0) 6)), aI (iZ 0), aI (iZ 2)] (am_hp σ) t (.inl (some (aI (iZ r1))), am_hp σ1, t)) (q2 : Q (.inl (some (aI (iZ r1))), am_hp σ1, t)) : Wp k_X11_verdictOn d (181, [some (aR (some (1, 0, 0))), some (aR (some (7, p1, 0)))], [], am_hp σ, t) Q := by
  refine w_s (c' := (182, [some (aR (some (1, 0, 0))), some (aR (some (7, p1, 0)))], [aR (some (7, p1, 0))], am_hp σ, t)) rfl rfl ?_
  refine w_get rfl (hp_7 _ p1) rfl rfl ?_
  refine w_psh rfl zc_0 rfl ?_
  refine w_psh rfl zc_2 rfl ?_
  refine w_c0 (c' := (190, [some (aR (some (1, 0, 0))), some (aR (some (7, p1, 0)))], [aI (iZ r1)], am_hp σ1, t)) rfl rfl rfl rfl c1 (Nat.le_refl _) rfl ?_
  exact w_ret rfl rfl q2

theorem b_X11_verdictOn_191 {p1 : Nat} {r1 : Int} {σ σ1 : SG} {t : KT} (c1 : Ca d 171 [aI (iZ (σ.1 (7, p1, 0) 6)), aI (iZ 1), aI (iZ 9)] (am_hp σ) t (.inl (some (aI (iZ r1))), am_hp σ1, t)) (q2 : Q (.inl (some (aI (iZ r1))), am_hp σ1, t)) : Wp k_X11_verdictOn d (191, [some (aR (some (1, 0, 0))), some (aR (some (7, p1, 0)))], [], am_hp σ, t) Q := by
  refine w_s (c' := (192, [some (aR (some (1, 0, 0))), some (aR (some (7, p1, 0)))], [aR (some (7, p1, 0))], am_hp σ, t)) rfl rfl ?_
  refine w_get rfl (hp_7 _ p1) rfl rfl ?_
  refine w_psh rfl zc_1 rfl ?_
  refine w_psh rfl zc_9 rfl ?_
  refine w_c0 (c' := (201, [some (aR (some (1, 0, 0))), some (aR (some (7, p1, 0)))], [aI (iZ r1)], am_hp σ1, t)) rfl rfl rfl rfl c1 (Nat.le_refl _) rfl ?_
  exact w_ret rfl rfl q2

theorem b_X11_verdictOn_202 {p1 : Nat} {σ : SG} {t : KT} (h1 : -2147483648 ≤ σ.1 (7, p1, 0) 5 ∧ σ.1 (7, p1, 0) 5 < 2147483648) (w2 : σ.1 (7, p1, 0) 5 < 0 → Wp k_X11_verdictOn d (218, [some (aR (some (1, 0, 0))), some (aR (some (7, p1, 0)))], [], am_hp σ, t) Q) (w3 : 0 ≤ σ.1 (7, p1, 0) 5 → Wp k_X11_verdictOn d (209, [some (aR (some (1, 0, 0))), some (aR (some (7, p1, 0)))], [], am_hp σ, t) Q) : Wp k_X11_verdictOn d (202, [some (aR (some (1, 0, 0))), some (aR (some (7, p1, 0)))], [], am_hp σ, t) Q := by
  refine w_s (c' := (203, [some (aR (some (1, 0, 0))), some (aR (some (7, p1, 0)))], [aR (some (7, p1, 0))], am_hp σ, t)) rfl rfl ?_
  refine w_get rfl (hp_7 _ p1) rfl rfl ?_
  exact w_iflt rfl h1 rfl w2 w3

theorem b_X11_verdictOn_209 {p1 : Nat} {σ : SG} {t : KT} (h1 : -2147483648 ≤ σ.1 (7, p1, 0) 5 ∧ σ.1 (7, p1, 0) 5 < 2147483648) (w2 : σ.1 (7, p1, 0) 5 < 9 → Wp k_X11_verdictOn d (222, [some (aR (some (1, 0, 0))), some (aR (some (7, p1, 0)))], [], am_hp σ, t) Q) (w3 : 9 ≤ σ.1 (7, p1, 0) 5 → Wp k_X11_verdictOn d (218, [some (aR (some (1, 0, 0))), some (aR (some (7, p1, 0)))], [], am_hp σ, t) Q) : Wp k_X11_verdictOn d (209, [some (aR (some (1, 0, 0))), some (aR (some (7, p1, 0)))], [], am_hp σ, t) Q := by
  refine w_s (c' := (210, [some (aR (some (1, 0, 0))), some (aR (some (7, p1, 0)))], [aR (some (7, p1, 0))], am_hp σ, t)) rfl rfl ?_
  refine w_get rfl (hp_7 _ p1) rfl rfl ?_
  refine w_psh rfl zc_9 rfl ?_
  exact w_iclt rfl h1 (by decide) rfl w2 w3

theorem b_X11_verdictOn_218 {p1 : Nat} {σ : SG} {t : KT} (w1 : Wp k_X11_verdictOn d (232, [some (aR (some (1, 0, 0))), some (aR (some (7, p1, 0)))], [aI (iZ 1)], am_hp σ, t) Q) : Wp k_X11_verdictOn d (218, [some (aR (some (1, 0, 0))), some (aR (some (7, p1, 0)))], [], am_hp σ, t) Q := by
  refine w_psh rfl zc_1 rfl ?_
  refine w_s (c' := (232, [some (aR (some (1, 0, 0))), some (aR (some (7, p1, 0)))], [aI (iZ 1)], am_hp σ, t)) rfl rfl ?_
  exact w1

theorem b_X11_verdictOn_222 {p1 : Nat} {r1 : Int} {σ σ1 : SG} {t : KT} (c1 : Ca d 171 [aI (iZ (σ.1 (7, p1, 0) 6)), aI (iZ 0), aI (iZ 99)] (am_hp σ) t (.inl (some (aI (iZ r1))), am_hp σ1, t)) (w2 : Wp k_X11_verdictOn d (232, [some (aR (some (1, 0, 0))), some (aR (some (7, p1, 0)))], [aI (iZ r1)], am_hp σ1, t) Q) : Wp k_X11_verdictOn d (222, [some (aR (some (1, 0, 0))), some (aR (some (7, p1, 0)))], [], am_hp σ, t) Q := by
  refine w_s (c' := (223, [some (aR (some (1, 0, 0))), some (aR (some (7, p1, 0)))], [aR (some (7, p1, 0))], am_hp σ, t)) rfl rfl ?_
  refine w_get rfl (hp_7 _ p1) rfl rfl ?_
  refine w_psh rfl zc_0 rfl ?_
  refine w_psh rfl zc_99 rfl ?_
  refine w_c0 (c' := (232, [some (aR (some (1, 0, 0))), some (aR (some (7, p1, 0)))], [aI (iZ r1)], am_hp σ1, t)) rfl rfl rfl rfl c1 (Nat.le_refl _) rfl ?_
  exact w2

theorem b_X11_verdictOn_232 {p1 : Nat} {xs0 : Int} {σ : SG} {t : KT} (q1 : Q (.inl (some (aI (iZ xs0))), am_hp σ, t)) : Wp k_X11_verdictOn d (232, [some (aR (some (1, 0, 0))), some (aR (some (7, p1, 0)))], [aI (iZ xs0)], am_hp σ, t) Q := by
  exact w_ret rfl rfl q1

theorem b_X11_verdictOn_233 {p1 : Nat} {σ : SG} {t : KT} (q1 : Q (.inl (some (aI (iZ 2))), am_hp σ, t)) : Wp k_X11_verdictOn d (233, [some (aR (some (1, 0, 0))), some (aR (some (7, p1, 0)))], [], am_hp σ, t) Q := by
  refine w_psh rfl zc_2 rfl ?_
  exact w_ret rfl rfl q1

theorem b_X11_verdictOnNew_0 {y1 : Int} {σ : SG} {t : KT} (h1 : -2147483648 ≤ σ.1 (8, 0, 0) 4 ∧ σ.1 (8, 0, 0) 4 < 2147483648) (w2 : σ.1 (8, 0, 0) 4 < 4 → Wp k_X11_verdictOnNew d (14, [some (aR (some (1, 0, 0))), some (aL (jZ y1)), none], [], am_hp σ, t) Q) (w3 : 4 ≤ σ.1 (8, 0, 0) 4 → Wp k_X11_verdictOnNew d (11, [some (aR (some (1, 0, 0))), some (aL (jZ y1)), none], [], am_hp σ, t) Q) : Wp k_X11_verdictOnNew d (0, [some (aR (some (1, 0, 0))), some (aL (jZ y1)), none], [], am_hp σ, t) Q := by
  refine w_s (c' := (1, [some (aR (some (1, 0, 0))), some (aL (jZ y1)), none], [aR (some (1, 0, 0))], am_hp σ, t)) rfl rfl ?_
  refine w_get rfl (hp_1 _ 0) rfl rfl ?_
  refine w_get rfl (hp_8 _ 0) rfl rfl ?_
  refine w_psh rfl zc_4 rfl ?_
  exact w_iclt rfl h1 (by decide) rfl w2 w3

theorem e_X11_verdictOnNew {y1 : Int} {h : AH} {t : KT} {d : Nat} {P : RS → Prop} (w : Wp k_X11_verdictOnNew d (0, [some (aR (some (1, 0, 0))), some (aL (jZ y1)), none], [], h, t) P) : ∃ r, Ca (d + 1) 168 [aR (some (1, 0, 0)), aL (jZ y1)] h t r ∧ P r := ca_W rfl rfl rfl rfl w

theorem b_X11_verdictOnNew_11 {y1 : Int} {σ : SG} {t : KT} (q1 : Q (.inl (some (aI (iZ 101))), am_hp σ, t)) : Wp k_X11_verdictOnNew d (11, [some (aR (some (1, 0, 0))), some (aL (jZ y1)), none], [], am_hp σ, t) Q := by
  refine w_psh rfl zc_101 rfl ?_
  exact w_ret rfl rfl q1

theorem b_X11_verdictOnNew_14 {y1 : Int} {σ : SG} {t : KT} (h1 : -2147483648 ≤ ycmp y1 0 ∧ ycmp y1 0 < 2147483648) (w2 : ycmp y1 0 = 0 → Wp k_X11_verdictOnNew d (32, [some (aR (some (1, 0, 0))), some (aL (jZ y1)), none], [], am_hp σ, t) Q) (w3 : ycmp y1 0 ≠ 0 → Wp k_X11_verdictOnNew d (20, [some (aR (some (1, 0, 0))), some (aL (jZ y1)), none], [], am_hp σ, t) Q) : Wp k_X11_verdictOnNew d (14, [some (aR (some (1, 0, 0))), some (aL (jZ y1)), none], [], am_hp σ, t) Q := by
  refine w_s (c' := (15, [some (aR (some (1, 0, 0))), some (aL (jZ y1)), none], [aL (jZ y1)], am_hp σ, t)) rfl rfl ?_
  refine w_psL rfl yc_0 rfl ?_
  refine w_lcmp rfl rfl ?_
  exact w_ifeq rfl h1 rfl w2 w3

theorem b_X11_verdictOnNew_20 {y1 : Int} {r1 : Int} {σ σ1 : SG} {t : KT} (c1 : Ca d 46 [aR (some (8, 0, 0)), aL (jZ y1)] (am_hp σ) t (.inl (some (aI (iZ r1))), am_hp σ1, t)) (h2 : -2147483648 ≤ r1 ∧ r1 < 2147483648) (w3 : r1 = -1 → Wp k_X11_verdictOnNew d (37, [some (aR (some (1, 0, 0))), some (aL (jZ y1)), none], [], am_hp σ1, t) Q) (w4 : r1 ≠ -1 → Wp k_X11_verdictOnNew d (32, [some (aR (some (1, 0, 0))), some (aL (jZ y1)), none], [], am_hp σ1, t) Q) : Wp k_X11_verdictOnNew d (20, [some (aR (some (1, 0, 0))), some (aL (jZ y1)), none], [], am_hp σ, t) Q := by
  refine w_s (c' := (21, [some (aR (some (1, 0, 0))), some (aL (jZ y1)), none], [aR (some (1, 0, 0))], am_hp σ, t)) rfl rfl ?_
  refine w_get rfl (hp_1 _ 0) rfl rfl ?_
  refine w_s (c' := (25, [some (aR (some (1, 0, 0))), some (aL (jZ y1)), none], [aL (jZ y1), aR (some (8, 0, 0))], am_hp σ, t)) rfl rfl ?_
  refine w_c0 (c' := (28, [some (aR (some (1, 0, 0))), some (aL (jZ y1)), none], [aI (iZ r1)], am_hp σ1, t)) rfl rfl (rcv_of (hp_8 _ 0)) rfl c1 (Nat.le_refl _) rfl ?_
  refine w_psh rfl zc_m1 rfl ?_
  exact w_iceq rfl h2 (by decide) rfl w3 w4

theorem b_X11_verdictOnNew_32 {y1 : Int} {σ : SG} {t : KT} (w1 : Wp k_X11_verdictOnNew d (38, [some (aR (some (1, 0, 0))), some (aL (jZ y1)), none], [aI (iZ 102)], am_hp σ, t) Q) : Wp k_X11_verdictOnNew d (32, [some (aR (some (1, 0, 0))), some (aL (jZ y1)), none], [], am_hp σ, t) Q := by
  refine w_psh rfl zc_102 rfl ?_
  refine w_s (c' := (38, [some (aR (some (1, 0, 0))), some (aL (jZ y1)), none], [aI (iZ 102)], am_hp σ, t)) rfl rfl ?_
  exact w1

theorem b_X11_verdictOnNew_37 {y1 : Int} {σ : SG} {t : KT} (w1 : Wp k_X11_verdictOnNew d (38, [some (aR (some (1, 0, 0))), some (aL (jZ y1)), none], [aI (iZ 0)], am_hp σ, t) Q) : Wp k_X11_verdictOnNew d (37, [some (aR (some (1, 0, 0))), some (aL (jZ y1)), none], [], am_hp σ, t) Q := by
  refine w_psh rfl zc_0 rfl ?_
  exact w1

theorem b_X11_verdictOnNew_38 {y1 : Int} {xs0 : Int} {σ : SG} {t : KT} (q1 : Q (.inl (some (aI (iZ xs0))), am_hp σ, t)) : Wp k_X11_verdictOnNew d (38, [some (aR (some (1, 0, 0))), some (aL (jZ y1)), none], [aI (iZ xs0)], am_hp σ, t) Q := by
  exact w_ret rfl rfl q1

theorem b_X11_verdictOnInsert_0 {x1 : Int} {x2 : Int} {x3 : Int} {r1 : Int} {σ σ1 : SG} {t : KT} (c1 : Ca d 43 [aR (some (8, 0, 0)), aI (iZ x1)] (am_hp σ) t (.inl (some (aI (iZ r1))), am_hp σ1, t)) (h2 : -2147483648 ≤ r1 ∧ r1 < 2147483648) (w3 : r1 = 0 → Wp k_X11_verdictOnInsert d (27, [some (aR (some (1, 0, 0))), some (aI (iZ x1)), some (aI (iZ x2)), some (aI (iZ x3))], [], am_hp σ1, t) Q) (w4 : r1 ≠ 0 → Wp k_X11_verdictOnInsert d (11, [some (aR (some (1, 0, 0))), some (aI (iZ x1)), some (aI (iZ x2)), some (aI (iZ x3))], [], am_hp σ1, t) Q) : Wp k_X11_verdictOnInsert d (0, [some (aR (some (1, 0, 0))), some (aI (iZ x1)), some (aI (iZ x2)), some (aI (iZ x3))], [], am_hp σ, t) Q := by
  refine w_s (c' := (1, [some (aR (some (1, 0, 0))), some (aI (iZ x1)), some (aI (iZ x2)), some (aI (iZ x3))], [aR (some (1, 0, 0))], am_hp σ, t)) rfl rfl ?_
  refine w_get rfl (hp_1 _ 0) rfl rfl ?_
  refine w_s (c' := (5, [some (aR (some (1, 0, 0))), some (aI (iZ x1)), some (aI (iZ x2)), some (aI (iZ x3))], [aI (iZ x1), aR (some (8, 0, 0))], am_hp σ, t)) rfl rfl ?_
  refine w_c0 (c' := (8, [some (aR (some (1, 0, 0))), some (aI (iZ x1)), some (aI (iZ x2)), some (aI (iZ x3))], [aI (iZ r1)], am_hp σ1, t)) rfl rfl (rcv_of (hp_8 _ 0)) rfl c1 (Nat.le_refl _) rfl ?_
  exact w_ifeq rfl h2 rfl w3 w4

theorem e_X11_verdictOnInsert {x1 : Int} {x2 : Int} {x3 : Int} {h : AH} {t : KT} {d : Nat} {P : RS → Prop} (w : Wp k_X11_verdictOnInsert d (0, [some (aR (some (1, 0, 0))), some (aI (iZ x1)), some (aI (iZ x2)), some (aI (iZ x3))], [], h, t) P) : ∃ r, Ca (d + 1) 169 [aR (some (1, 0, 0)), aI (iZ x1), aI (iZ x2), aI (iZ x3)] h t r ∧ P r := ca_W rfl rfl rfl rfl w

theorem b_X11_verdictOnInsert_11 {x1 : Int} {x2 : Int} {x3 : Int} {σ : SG} {t : KT} (h1 : -2147483648 ≤ x2 ∧ x2 < 2147483648) (w2 : x2 < 0 → Wp k_X11_verdictOnInsert d (27, [some (aR (some (1, 0, 0))), some (aI (iZ x1)), some (aI (iZ x2)), some (aI (iZ x3))], [], am_hp σ, t) Q) (w3 : 0 ≤ x2 → Wp k_X11_verdictOnInsert d (15, [some (aR (some (1, 0, 0))), some (aI (iZ x1)), some (aI (iZ x2)), some (aI (iZ x3))], [], am_hp σ, t) Q) : Wp k_X11_verdictOnInsert d (11, [some (aR (some (1, 0, 0))), some (aI (iZ x1)), some (aI (iZ x2)), some (aI (iZ x3))], [], am_hp σ, t) Q := by
  refine w_s (c' := (12, [some (aR (some (1, 0, 0))), some (aI (iZ x1)), some (aI (iZ x2)), some (aI (iZ x3))], [aI (iZ x2)], am_hp σ, t)) rfl rfl ?_
  exact w_iflt rfl h1 rfl w2 w3

theorem b_X11_verdictOnInsert_15 {x1 : Int} {x2 : Int} {x3 : Int} {r1 : Int} {σ σ1 : SG} {t : KT} (c1 : Ca d 44 [aR (some (8, 0, 0)), aI (iZ x1)] (am_hp σ) t (.inl (some (aI (iZ r1))), am_hp σ1, t)) (h2 : -2147483648 ≤ x2 ∧ x2 < 2147483648) (h3 : -2147483648 ≤ r1 ∧ r1 < 2147483648) (w4 : x2 ≤ r1 → Wp k_X11_verdictOnInsert d (29, [some (aR (some (1, 0, 0))), some (aI (iZ x1)), some (aI (iZ x2)), some (aI (iZ x3))], [], am_hp σ1, t) Q) (w5 : r1 < x2 → Wp k_X11_verdictOnInsert d (27, [some (aR (some (1, 0, 0))), some (aI (iZ x1)), some (aI (iZ x2)), some (aI (iZ x3))], [], am_hp σ1, t) Q) : Wp k_X11_verdictOnInsert d (15, [some (aR (some (1, 0, 0))), some (aI (iZ x1)), some (aI (iZ x2)), some (aI (iZ x3))], [], am_hp σ, t) Q := by
  refine w_s (c' := (16, [some (aR (some (1, 0, 0))), some (aI (iZ x1)), some (aI (iZ x2)), some (aI (iZ x3))], [aI (iZ x2)], am_hp σ, t)) rfl rfl ?_
  refine w_s (c' := (17, [some (aR (some (1, 0, 0))), some (aI (iZ x1)), some (aI (iZ x2)), some (aI (iZ x3))], [aR (some (1, 0, 0)), aI (iZ x2)], am_hp σ, t)) rfl rfl ?_
  refine w_get rfl (hp_1 _ 0) rfl rfl ?_
  refine w_s (c' := (21, [some (aR (some (1, 0, 0))), some (aI (iZ x1)), some (aI (iZ x2)), some (aI (iZ x3))], [aI (iZ x1), aR (some (8, 0, 0)), aI (iZ x2)], am_hp σ, t)) rfl rfl ?_
  refine w_c0 (c' := (24, [some (aR (some (1, 0, 0))), some (aI (iZ x1)), some (aI (iZ x2)), some (aI (iZ x3))], [aI (iZ r1), aI (iZ x2)], am_hp σ1, t)) rfl rfl (rcv_of (hp_8 _ 0)) rfl c1 (Nat.le_refl _) rfl ?_
  exact w_icle rfl h2 h3 rfl w4 w5

theorem b_X11_verdictOnInsert_27 {x1 : Int} {x2 : Int} {x3 : Int} {σ : SG} {t : KT} (q1 : Q (.inl (some (aI (iZ 1))), am_hp σ, t)) : Wp k_X11_verdictOnInsert d (27, [some (aR (some (1, 0, 0))), some (aI (iZ x1)), some (aI (iZ x2)), some (aI (iZ x3))], [], am_hp σ, t) Q := by
  refine w_psh rfl zc_1 rfl ?_
  exact w_ret rfl rfl q1

theorem b_X11_verdictOnInsert_29 {x1 : Int} {x2 : Int} {x3 : Int} {σ : SG} {t : KT} (h1 : -2147483648 ≤ x3 ∧ x3 < 2147483648) (w2 : x3 < 0 → Wp k_X11_verdictOnInsert d (40, [some (aR (some (1, 0, 0))), some (aI (iZ x1)), some (aI (iZ x2)), some (aI (iZ x3))], [], am_hp σ, t) Q) (w3 : 0 ≤ x3 → Wp k_X11_verdictOnInsert d (33, [some (aR (some (1, 0, 0))), some (aI (iZ x1)), some (aI (iZ x2)), some (aI (iZ x3))], [], am_hp σ, t) Q) : Wp k_X11_verdictOnInsert d (29, [some (aR (some (1, 0, 0))), some (aI (iZ x1)), some (aI (iZ x2)), some (aI (iZ x3))], [], am_hp σ, t) Q := by
  refine w_s (c' := (30, [some (aR (some (1, 0, 0))), some (aI (iZ x1)), some (aI (iZ x2)), some (aI (iZ x3))], [aI (iZ x3)], am_hp σ, t)) rfl rfl ?_
  exact w_iflt rfl h1 rfl w2 w3

theorem b_X11_verdictOnInsert_33 {x1 : Int} {x2 : Int} {x3 : Int} {σ : SG} {t : KT} (h1 : -2147483648 ≤ x3 ∧ x3 < 2147483648) (w2 : x3 ≤ 268435455 → Wp k_X11_verdictOnInsert d (42, [some (aR (some (1, 0, 0))), some (aI (iZ x1)), some (aI (iZ x2)), some (aI (iZ x3))], [], am_hp σ, t) Q) (w3 : 268435455 < x3 → Wp k_X11_verdictOnInsert d (40, [some (aR (some (1, 0, 0))), some (aI (iZ x1)), some (aI (iZ x2)), some (aI (iZ x3))], [], am_hp σ, t) Q) : Wp k_X11_verdictOnInsert d (33, [some (aR (some (1, 0, 0))), some (aI (iZ x1)), some (aI (iZ x2)), some (aI (iZ x3))], [], am_hp σ, t) Q := by
  refine w_s (c' := (34, [some (aR (some (1, 0, 0))), some (aI (iZ x1)), some (aI (iZ x2)), some (aI (iZ x3))], [aI (iZ x3)], am_hp σ, t)) rfl rfl ?_
  refine w_psh rfl zc_268435455 rfl ?_
  exact w_icle rfl h1 (by decide) rfl w2 w3

theorem b_X11_verdictOnInsert_40 {x1 : Int} {x2 : Int} {x3 : Int} {σ : SG} {t : KT} (q1 : Q (.inl (some (aI (iZ 2))), am_hp σ, t)) : Wp k_X11_verdictOnInsert d (40, [some (aR (some (1, 0, 0))), some (aI (iZ x1)), some (aI (iZ x2)), some (aI (iZ x3))], [], am_hp σ, t) Q := by
  refine w_psh rfl zc_2 rfl ?_
  exact w_ret rfl rfl q1

theorem b_X11_verdictOnInsert_42 {x1 : Int} {x2 : Int} {x3 : Int} {r1 : Int} {σ σ1 : SG} {t : KT} (c1 : Ca d 44 [aR (some (8, 0, 0)), aI (iZ x1)] (am_hp σ) t (.inl (some (aI (iZ r1))), am_hp σ1, t)) (h2 : -2147483648 ≤ r1 ∧ r1 < 2147483648) (w3 : r1 < 60 → Wp k_X11_verdictOnInsert d (60, [some (aR (some (1, 0, 0))), some (aI (iZ x1)), some (aI (iZ x2)), some (aI (iZ x3))], [], am_hp σ1, t) Q) (w4 : 60 ≤ r1 → Wp k_X11_verdictOnInsert d (55, [some (aR (some (1, 0, 0))), some (aI (iZ x1)), some (aI (iZ x2)), some (aI (iZ x3))], [], am_hp σ1, t) Q) : Wp k_X11_verdictOnInsert d (42, [some (aR (some (1, 0, 0))), some (aI (iZ x1)), some (aI (iZ x2)), some (aI (iZ x3))], [], am_hp σ, t) Q := by
  refine w_s (c' := (43, [some (aR (some (1, 0, 0))), some (aI (iZ x1)), some (aI (iZ x2)), some (aI (iZ x3))], [aR (some (1, 0, 0))], am_hp σ, t)) rfl rfl ?_
  refine w_get rfl (hp_1 _ 0) rfl rfl ?_
  refine w_s (c' := (47, [some (aR (some (1, 0, 0))), some (aI (iZ x1)), some (aI (iZ x2)), some (aI (iZ x3))], [aI (iZ x1), aR (some (8, 0, 0))], am_hp σ, t)) rfl rfl ?_
  refine w_c0 (c' := (50, [some (aR (some (1, 0, 0))), some (aI (iZ x1)), some (aI (iZ x2)), some (aI (iZ x3))], [aI (iZ r1)], am_hp σ1, t)) rfl rfl (rcv_of (hp_8 _ 0)) rfl c1 (Nat.le_refl _) rfl ?_
  refine w_psh rfl zc_60 rfl ?_
  exact w_iclt rfl h2 (by decide) rfl w3 w4

theorem b_X11_verdictOnInsert_55 {x1 : Int} {x2 : Int} {x3 : Int} {σ : SG} {t : KT} (w1 : Wp k_X11_verdictOnInsert d (61, [some (aR (some (1, 0, 0))), some (aI (iZ x1)), some (aI (iZ x2)), some (aI (iZ x3))], [aI (iZ 103)], am_hp σ, t) Q) : Wp k_X11_verdictOnInsert d (55, [some (aR (some (1, 0, 0))), some (aI (iZ x1)), some (aI (iZ x2)), some (aI (iZ x3))], [], am_hp σ, t) Q := by
  refine w_psh rfl zc_103 rfl ?_
  refine w_s (c' := (61, [some (aR (some (1, 0, 0))), some (aI (iZ x1)), some (aI (iZ x2)), some (aI (iZ x3))], [aI (iZ 103)], am_hp σ, t)) rfl rfl ?_
  exact w1

theorem b_X11_verdictOnInsert_60 {x1 : Int} {x2 : Int} {x3 : Int} {σ : SG} {t : KT} (w1 : Wp k_X11_verdictOnInsert d (61, [some (aR (some (1, 0, 0))), some (aI (iZ x1)), some (aI (iZ x2)), some (aI (iZ x3))], [aI (iZ 0)], am_hp σ, t) Q) : Wp k_X11_verdictOnInsert d (60, [some (aR (some (1, 0, 0))), some (aI (iZ x1)), some (aI (iZ x2)), some (aI (iZ x3))], [], am_hp σ, t) Q := by
  refine w_psh rfl zc_0 rfl ?_
  exact w1

theorem b_X11_verdictOnInsert_61 {x1 : Int} {x2 : Int} {x3 : Int} {xs0 : Int} {σ : SG} {t : KT} (q1 : Q (.inl (some (aI (iZ xs0))), am_hp σ, t)) : Wp k_X11_verdictOnInsert d (61, [some (aR (some (1, 0, 0))), some (aI (iZ x1)), some (aI (iZ x2)), some (aI (iZ x3))], [aI (iZ xs0)], am_hp σ, t) Q := by
  exact w_ret rfl rfl q1
end PCS
