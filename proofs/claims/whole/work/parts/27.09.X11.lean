/-! PIECES: X11 -/
set_option maxRecDepth 4000
section PCS
variable {d : Nat} {Q : RS → Prop}
theorem b_X11_feed_0 {x1 : Int} {x2 : Int} {x3 : Int} {x4 : Int} {x5 : Int} {σ : SG} {t : KT} (h1 : -2147483648 ≤ (σ.1 (2, 0, 0) 1) + 20 ∧ (σ.1 (2, 0, 0) 1) + 20 < 2147483648) (w2 : (σ.1 (2, 0, 0) 1) + 20 ≤ 600 → Wp k_X11_feed d (24, [some (aR (some (1, 0, 0))), some (aI (iZ x1)), some (aI (iZ x2)), some (aI (iZ x3)), some (aI (iZ x4)), some (aI (iZ x5))], [], am_hp σ, t) Q) (w3 : 600 < (σ.1 (2, 0, 0) 1) + 20 → Wp k_X11_feed d (16, [some (aR (some (1, 0, 0))), some (aI (iZ x1)), some (aI (iZ x2)), some (aI (iZ x3)), some (aI (iZ x4)), some (aI (iZ x5))], [], am_hp σ, t) Q) : Wp k_X11_feed d (0, [some (aR (some (1, 0, 0))), some (aI (iZ x1)), some (aI (iZ x2)), some (aI (iZ x3)), some (aI (iZ x4)), some (aI (iZ x5))], [], am_hp σ, t) Q := by
  refine w_s (c' := (1, [some (aR (some (1, 0, 0))), some (aI (iZ x1)), some (aI (iZ x2)), some (aI (iZ x3)), some (aI (iZ x4)), some (aI (iZ x5))], [aR (some (1, 0, 0))], am_hp σ, t)) rfl rfl ?_
  refine w_get rfl (hp_1 _ 0) rfl rfl ?_
  refine w_get rfl (hp_2 _ 0) rfl rfl ?_
  refine w_psh rfl zc_20 rfl ?_
  refine w_iadd rfl rfl ?_
  refine w_psh rfl zc_600 rfl ?_
  exact w_icle rfl h1 (by decide) rfl w2 w3

theorem e_X11_feed {x1 : Int} {x2 : Int} {x3 : Int} {x4 : Int} {x5 : Int} {h : AH} {t : KT} {d : Nat} {P : RS → Prop} (w : Wp k_X11_feed d (0, [some (aR (some (1, 0, 0))), some (aI (iZ x1)), some (aI (iZ x2)), some (aI (iZ x3)), some (aI (iZ x4)), some (aI (iZ x5))], [], h, t) P) : ∃ r, Ca (d + 1) 89 [aR (some (1, 0, 0)), aI (iZ x1), aI (iZ x2), aI (iZ x3), aI (iZ x4), aI (iZ x5)] h t r ∧ P r := ca_W rfl rfl rfl rfl w

theorem b_X11_feed_16 {x1 : Int} {x2 : Int} {x3 : Int} {x4 : Int} {x5 : Int} {σ : SG} {t : KT} (q1 : Q (.inr 0, am_hp σ, (t.1, t.2.1 + 1, t.2.2 + 6))) : Wp k_X11_feed d (16, [some (aR (some (1, 0, 0))), some (aI (iZ x1)), some (aI (iZ x2)), some (aI (iZ x3)), some (aI (iZ x4)), some (aI (iZ x5))], [], am_hp σ, t) Q := by
  exact w_f rfl rfl q1

theorem b_X11_feed_24 {x1 : Int} {x2 : Int} {x3 : Int} {x4 : Int} {x5 : Int} {σ σ1 σ2 σ3 σ4 σ5 : SG} {t : KT} (c1 : Ca d 72 [aR (some (2, 0, 0)), aI (iZ x1)] (am_hp σ) t (.inl none, am_hp σ1, t)) (c2 : Ca d 72 [aR (some (2, 0, 0)), aI (iZ x2)] (am_hp σ1) t (.inl none, am_hp σ2, t)) (c3 : Ca d 72 [aR (some (2, 0, 0)), aI (iZ x3)] (am_hp σ2) t (.inl none, am_hp σ3, t)) (c4 : Ca d 72 [aR (some (2, 0, 0)), aI (iZ x4)] (am_hp σ3) t (.inl none, am_hp σ4, t)) (c5 : Ca d 72 [aR (some (2, 0, 0)), aI (iZ x5)] (am_hp σ4) t (.inl none, am_hp σ5, t)) (q6 : Q (.inl (some (aI (iZ (σ5.1 (2, 0, 0) 1)))), am_hp σ5, t)) : Wp k_X11_feed d (24, [some (aR (some (1, 0, 0))), some (aI (iZ x1)), some (aI (iZ x2)), some (aI (iZ x3)), some (aI (iZ x4)), some (aI (iZ x5))], [], am_hp σ, t) Q := by
  refine w_s (c' := (25, [some (aR (some (1, 0, 0))), some (aI (iZ x1)), some (aI (iZ x2)), some (aI (iZ x3)), some (aI (iZ x4)), some (aI (iZ x5))], [aR (some (1, 0, 0))], am_hp σ, t)) rfl rfl ?_
  refine w_get rfl (hp_1 _ 0) rfl rfl ?_
  refine w_s (c' := (29, [some (aR (some (1, 0, 0))), some (aI (iZ x1)), some (aI (iZ x2)), some (aI (iZ x3)), some (aI (iZ x4)), some (aI (iZ x5))], [aI (iZ x1), aR (some (2, 0, 0))], am_hp σ, t)) rfl rfl ?_
  refine w_c0 (c' := (32, [some (aR (some (1, 0, 0))), some (aI (iZ x1)), some (aI (iZ x2)), some (aI (iZ x3)), some (aI (iZ x4)), some (aI (iZ x5))], [], am_hp σ1, t)) rfl rfl (rcv_of (hp_2 _ 0)) rfl c1 (Nat.le_refl _) rfl ?_
  refine w_s (c' := (33, [some (aR (some (1, 0, 0))), some (aI (iZ x1)), some (aI (iZ x2)), some (aI (iZ x3)), some (aI (iZ x4)), some (aI (iZ x5))], [aR (some (1, 0, 0))], am_hp σ1, t)) rfl rfl ?_
  refine w_get rfl (hp_1 _ 0) rfl rfl ?_
  refine w_s (c' := (37, [some (aR (some (1, 0, 0))), some (aI (iZ x1)), some (aI (iZ x2)), some (aI (iZ x3)), some (aI (iZ x4)), some (aI (iZ x5))], [aI (iZ x2), aR (some (2, 0, 0))], am_hp σ1, t)) rfl rfl ?_
  refine w_c0 (c' := (40, [some (aR (some (1, 0, 0))), some (aI (iZ x1)), some (aI (iZ x2)), some (aI (iZ x3)), some (aI (iZ x4)), some (aI (iZ x5))], [], am_hp σ2, t)) rfl rfl (rcv_of (hp_2 _ 0)) rfl c2 (Nat.le_refl _) rfl ?_
  refine w_s (c' := (41, [some (aR (some (1, 0, 0))), some (aI (iZ x1)), some (aI (iZ x2)), some (aI (iZ x3)), some (aI (iZ x4)), some (aI (iZ x5))], [aR (some (1, 0, 0))], am_hp σ2, t)) rfl rfl ?_
  refine w_get rfl (hp_1 _ 0) rfl rfl ?_
  refine w_s (c' := (45, [some (aR (some (1, 0, 0))), some (aI (iZ x1)), some (aI (iZ x2)), some (aI (iZ x3)), some (aI (iZ x4)), some (aI (iZ x5))], [aI (iZ x3), aR (some (2, 0, 0))], am_hp σ2, t)) rfl rfl ?_
  refine w_c0 (c' := (48, [some (aR (some (1, 0, 0))), some (aI (iZ x1)), some (aI (iZ x2)), some (aI (iZ x3)), some (aI (iZ x4)), some (aI (iZ x5))], [], am_hp σ3, t)) rfl rfl (rcv_of (hp_2 _ 0)) rfl c3 (Nat.le_refl _) rfl ?_
  refine w_s (c' := (49, [some (aR (some (1, 0, 0))), some (aI (iZ x1)), some (aI (iZ x2)), some (aI (iZ x3)), some (aI (iZ x4)), some (aI (iZ x5))], [aR (some (1, 0, 0))], am_hp σ3, t)) rfl rfl ?_
  refine w_get rfl (hp_1 _ 0) rfl rfl ?_
  refine w_s (c' := (54, [some (aR (some (1, 0, 0))), some (aI (iZ x1)), some (aI (iZ x2)), some (aI (iZ x3)), some (aI (iZ x4)), some (aI (iZ x5))], [aI (iZ x4), aR (some (2, 0, 0))], am_hp σ3, t)) rfl rfl ?_
  refine w_c0 (c' := (57, [some (aR (some (1, 0, 0))), some (aI (iZ x1)), some (aI (iZ x2)), some (aI (iZ x3)), some (aI (iZ x4)), some (aI (iZ x5))], [], am_hp σ4, t)) rfl rfl (rcv_of (hp_2 _ 0)) rfl c4 (Nat.le_refl _) rfl ?_
  refine w_s (c' := (58, [some (aR (some (1, 0, 0))), some (aI (iZ x1)), some (aI (iZ x2)), some (aI (iZ x3)), some (aI (iZ x4)), some (aI (iZ x5))], [aR (some (1, 0, 0))], am_hp σ4, t)) rfl rfl ?_
  refine w_get rfl (hp_1 _ 0) rfl rfl ?_
  refine w_s (c' := (63, [some (aR (some (1, 0, 0))), some (aI (iZ x1)), some (aI (iZ x2)), some (aI (iZ x3)), some (aI (iZ x4)), some (aI (iZ x5))], [aI (iZ x5), aR (some (2, 0, 0))], am_hp σ4, t)) rfl rfl ?_
  refine w_c0 (c' := (66, [some (aR (some (1, 0, 0))), some (aI (iZ x1)), some (aI (iZ x2)), some (aI (iZ x3)), some (aI (iZ x4)), some (aI (iZ x5))], [], am_hp σ5, t)) rfl rfl (rcv_of (hp_2 _ 0)) rfl c5 (Nat.le_refl _) rfl ?_
  refine w_s (c' := (67, [some (aR (some (1, 0, 0))), some (aI (iZ x1)), some (aI (iZ x2)), some (aI (iZ x3)), some (aI (iZ x4)), some (aI (iZ x5))], [aR (some (1, 0, 0))], am_hp σ5, t)) rfl rfl ?_
  refine w_get rfl (hp_1 _ 0) rfl rfl ?_
  refine w_get rfl (hp_2 _ 0) rfl rfl ?_
  exact w_ret rfl rfl q6

theorem b_X11_truncate_0 {x1 : Int} {σ : SG} {t : KT} (h1 : -2147483648 ≤ x1 ∧ x1 < 2147483648) (w2 : x1 < 0 → Wp k_X11_truncate d (15, [some (aR (some (1, 0, 0))), some (aI (iZ x1))], [], am_hp σ, t) Q) (w3 : 0 ≤ x1 → Wp k_X11_truncate d (4, [some (aR (some (1, 0, 0))), some (aI (iZ x1))], [], am_hp σ, t) Q) : Wp k_X11_truncate d (0, [some (aR (some (1, 0, 0))), some (aI (iZ x1))], [], am_hp σ, t) Q := by
  refine w_s (c' := (1, [some (aR (some (1, 0, 0))), some (aI (iZ x1))], [aI (iZ x1)], am_hp σ, t)) rfl rfl ?_
  exact w_iflt rfl h1 rfl w2 w3

theorem e_X11_truncate {x1 : Int} {h : AH} {t : KT} {d : Nat} {P : RS → Prop} (w : Wp k_X11_truncate d (0, [some (aR (some (1, 0, 0))), some (aI (iZ x1))], [], h, t) P) : ∃ r, Ca (d + 1) 90 [aR (some (1, 0, 0)), aI (iZ x1)] h t r ∧ P r := ca_W rfl rfl rfl rfl w

theorem b_X11_truncate_4 {x1 : Int} {σ : SG} {t : KT} (h1 : -2147483648 ≤ x1 ∧ x1 < 2147483648) (h2 : -2147483648 ≤ σ.1 (2, 0, 0) 1 ∧ σ.1 (2, 0, 0) 1 < 2147483648) (w3 : x1 ≤ σ.1 (2, 0, 0) 1 → Wp k_X11_truncate d (23, [some (aR (some (1, 0, 0))), some (aI (iZ x1))], [], am_hp σ, t) Q) (w4 : σ.1 (2, 0, 0) 1 < x1 → Wp k_X11_truncate d (15, [some (aR (some (1, 0, 0))), some (aI (iZ x1))], [], am_hp σ, t) Q) : Wp k_X11_truncate d (4, [some (aR (some (1, 0, 0))), some (aI (iZ x1))], [], am_hp σ, t) Q := by
  refine w_s (c' := (5, [some (aR (some (1, 0, 0))), some (aI (iZ x1))], [aI (iZ x1)], am_hp σ, t)) rfl rfl ?_
  refine w_s (c' := (6, [some (aR (some (1, 0, 0))), some (aI (iZ x1))], [aR (some (1, 0, 0)), aI (iZ x1)], am_hp σ, t)) rfl rfl ?_
  refine w_get rfl (hp_1 _ 0) rfl rfl ?_
  refine w_get rfl (hp_2 _ 0) rfl rfl ?_
  exact w_icle rfl h1 h2 rfl w3 w4

theorem b_X11_truncate_15 {x1 : Int} {σ : SG} {t : KT} (q1 : Q (.inr 1, am_hp σ, (t.1, t.2.1 + 1, t.2.2 + 6))) : Wp k_X11_truncate d (15, [some (aR (some (1, 0, 0))), some (aI (iZ x1))], [], am_hp σ, t) Q := by
  exact w_f rfl rfl q1

theorem b_X11_truncate_23 {x1 : Int} {σ : SG} {t : KT} (q1 : Q (.inl (some (aI (iZ x1))), am_hp ((sI σ (2, 0, 0) (up (σ.1 (2, 0, 0)) 1 x1))), t)) : Wp k_X11_truncate d (23, [some (aR (some (1, 0, 0))), some (aI (iZ x1))], [], am_hp σ, t) Q := by
  refine w_s (c' := (24, [some (aR (some (1, 0, 0))), some (aI (iZ x1))], [aR (some (1, 0, 0))], am_hp σ, t)) rfl rfl ?_
  refine w_get rfl (hp_1 _ 0) rfl rfl ?_
  refine w_s (c' := (28, [some (aR (some (1, 0, 0))), some (aI (iZ x1))], [aI (iZ x1), aR (some (2, 0, 0))], am_hp σ, t)) rfl rfl ?_
  refine w_putI rfl (hp_2 _ 0) rfl rfl rfl ?_
  refine w_s (c' := (32, [some (aR (some (1, 0, 0))), some (aI (iZ x1))], [aI (iZ x1)], am_hp ((sI σ (2, 0, 0) (up (σ.1 (2, 0, 0)) 1 x1))), t)) rfl rfl ?_
  exact w_ret rfl rfl q1

theorem b_X11_readText_0 {r1 : Int} {σ σ1 : SG} {t : KT} (c1 : Ca d 64 [aR (some (14, 0, 0)), aR (some (2, 0, 0))] (am_hp σ) t (.inl (some (aI (iZ r1))), am_hp σ1, t)) (h2 : -2147483648 ≤ r1 ∧ r1 < 2147483648) (w3 : r1 ≠ 0 → Wp k_X11_readText d (32, [some (aR (some (1, 0, 0))), some (aI (iZ r1))], [], am_hp ((sI σ1 (2, 0, 0) (up (σ1.1 (2, 0, 0)) 1 0))), t) Q) (w4 : r1 = 0 → Wp k_X11_readText d (24, [some (aR (some (1, 0, 0))), some (aI (iZ r1))], [], am_hp ((sI σ1 (2, 0, 0) (up (σ1.1 (2, 0, 0)) 1 0))), t) Q) : Wp k_X11_readText d (0, [some (aR (some (1, 0, 0))), none], [], am_hp σ, t) Q := by
  refine w_s (c' := (1, [some (aR (some (1, 0, 0))), none], [aR (some (1, 0, 0))], am_hp σ, t)) rfl rfl ?_
  refine w_get rfl (hp_1 _ 0) rfl rfl ?_
  refine w_s (c' := (5, [some (aR (some (1, 0, 0))), none], [aR (some (1, 0, 0)), aR (some (14, 0, 0))], am_hp σ, t)) rfl rfl ?_
  refine w_get rfl (hp_1 _ 0) rfl rfl ?_
  refine w_c0 (c' := (11, [some (aR (some (1, 0, 0))), none], [aI (iZ r1)], am_hp σ1, t)) rfl rfl (rcv_of (hp_14 _ 0)) rfl c1 (Nat.le_refl _) rfl ?_
  refine w_s (c' := (12, [some (aR (some (1, 0, 0))), some (aI (iZ r1))], [], am_hp σ1, t)) rfl rfl ?_
  refine w_s (c' := (13, [some (aR (some (1, 0, 0))), some (aI (iZ r1))], [aR (some (1, 0, 0))], am_hp σ1, t)) rfl rfl ?_
  refine w_get rfl (hp_1 _ 0) rfl rfl ?_
  refine w_psh rfl zc_0 rfl ?_
  refine w_putI rfl (hp_2 _ 0) rfl rfl rfl ?_
  refine w_s (c' := (21, [some (aR (some (1, 0, 0))), some (aI (iZ r1))], [aI (iZ r1)], am_hp ((sI σ1 (2, 0, 0) (up (σ1.1 (2, 0, 0)) 1 0))), t)) rfl rfl ?_
  exact w_ifne rfl h2 rfl w3 w4

theorem e_X11_readText {h : AH} {t : KT} {d : Nat} {P : RS → Prop} (w : Wp k_X11_readText d (0, [some (aR (some (1, 0, 0))), none], [], h, t) P) : ∃ r, Ca (d + 1) 91 [aR (some (1, 0, 0))] h t r ∧ P r := ca_W rfl rfl rfl rfl w

theorem b_X11_readText_24 {x1 : Int} {σ : SG} {t : KT} (q1 : Q (.inr 1, am_hp σ, (t.1, t.2.1 + 1, t.2.2 + 6))) : Wp k_X11_readText d (24, [some (aR (some (1, 0, 0))), some (aI (iZ x1))], [], am_hp σ, t) Q := by
  exact w_f rfl rfl q1

theorem b_X11_readText_32 {x1 : Int} {σ σ1 σ2 σ3 : SG} {t : KT} (c1 : Ca d 42 [aR (some (8, 0, 0)), aR (some (8, 1, 0))] (am_hp σ) t (.inl none, am_hp σ1, t)) (c2 : Ca d 2 [aR (some (15, 0, 0))] (am_hp σ1) t (.inl none, am_hp σ2, t)) (c3 : Ca d 151 [aR (some (1, 0, 0))] (am_hp σ2) t (.inl none, am_hp σ3, t)) (q4 : Q (.inl (some (aI (iZ (σ3.1 (8, 0, 0) 4)))), am_hp σ3, t)) : Wp k_X11_readText d (32, [some (aR (some (1, 0, 0))), some (aI (iZ x1))], [], am_hp σ, t) Q := by
  refine w_s (c' := (33, [some (aR (some (1, 0, 0))), some (aI (iZ x1))], [aR (some (1, 0, 0))], am_hp σ, t)) rfl rfl ?_
  refine w_get rfl (hp_1 _ 0) rfl rfl ?_
  refine w_s (c' := (37, [some (aR (some (1, 0, 0))), some (aI (iZ x1))], [aR (some (1, 0, 0)), aR (some (8, 0, 0))], am_hp σ, t)) rfl rfl ?_
  refine w_get rfl (hp_1 _ 0) rfl rfl ?_
  refine w_get rfl (hp_14 _ 0) rfl rfl ?_
  refine w_c0 (c' := (46, [some (aR (some (1, 0, 0))), some (aI (iZ x1))], [], am_hp σ1, t)) rfl rfl (rcv_of (hp_8 _ 0)) rfl c1 (Nat.le_refl _) rfl ?_
  refine w_s (c' := (47, [some (aR (some (1, 0, 0))), some (aI (iZ x1))], [aR (some (1, 0, 0))], am_hp σ1, t)) rfl rfl ?_
  refine w_get rfl (hp_1 _ 0) rfl rfl ?_
  refine w_c0 (c' := (53, [some (aR (some (1, 0, 0))), some (aI (iZ x1))], [], am_hp σ2, t)) rfl rfl (rcv_of (hp_15 _ 0)) rfl c2 (Nat.le_refl _) rfl ?_
  refine w_s (c' := (54, [some (aR (some (1, 0, 0))), some (aI (iZ x1))], [aR (some (1, 0, 0))], am_hp σ2, t)) rfl rfl ?_
  refine w_c0 (c' := (57, [some (aR (some (1, 0, 0))), some (aI (iZ x1))], [], am_hp σ3, t)) rfl rfl (rcv_of (hp_1 _ 0)) rfl c3 (Nat.le_refl _) rfl ?_
  refine w_s (c' := (58, [some (aR (some (1, 0, 0))), some (aI (iZ x1))], [aR (some (1, 0, 0))], am_hp σ3, t)) rfl rfl ?_
  refine w_get rfl (hp_1 _ 0) rfl rfl ?_
  refine w_get rfl (hp_8 _ 0) rfl rfl ?_
  exact w_ret rfl rfl q4

theorem b_X11_runScript_0 {r1 : Int} {σ σ1 : SG} {t : KT} (c1 : Ca d 57 [aR (some (4, 0, 0)), aR (some (2, 0, 0))] (am_hp σ) t (.inl (some (aI (iZ r1))), am_hp σ1, t)) (h2 : -2147483648 ≤ r1 ∧ r1 < 2147483648) (w3 : r1 ≠ 0 → Wp k_X11_runScript d (32, [some (aR (some (1, 0, 0))), some (aI (iZ r1))], [], am_hp ((sI σ1 (2, 0, 0) (up (σ1.1 (2, 0, 0)) 1 0))), t) Q) (w4 : r1 = 0 → Wp k_X11_runScript d (24, [some (aR (some (1, 0, 0))), some (aI (iZ r1))], [], am_hp ((sI σ1 (2, 0, 0) (up (σ1.1 (2, 0, 0)) 1 0))), t) Q) : Wp k_X11_runScript d (0, [some (aR (some (1, 0, 0))), none], [], am_hp σ, t) Q := by
  refine w_s (c' := (1, [some (aR (some (1, 0, 0))), none], [aR (some (1, 0, 0))], am_hp σ, t)) rfl rfl ?_
  refine w_get rfl (hp_1 _ 0) rfl rfl ?_
  refine w_s (c' := (5, [some (aR (some (1, 0, 0))), none], [aR (some (1, 0, 0)), aR (some (4, 0, 0))], am_hp σ, t)) rfl rfl ?_
  refine w_get rfl (hp_1 _ 0) rfl rfl ?_
  refine w_c0 (c' := (11, [some (aR (some (1, 0, 0))), none], [aI (iZ r1)], am_hp σ1, t)) rfl rfl (rcv_of (hp_4 _ 0)) rfl c1 (Nat.le_refl _) rfl ?_
  refine w_s (c' := (12, [some (aR (some (1, 0, 0))), some (aI (iZ r1))], [], am_hp σ1, t)) rfl rfl ?_
  refine w_s (c' := (13, [some (aR (some (1, 0, 0))), some (aI (iZ r1))], [aR (some (1, 0, 0))], am_hp σ1, t)) rfl rfl ?_
  refine w_get rfl (hp_1 _ 0) rfl rfl ?_
  refine w_psh rfl zc_0 rfl ?_
  refine w_putI rfl (hp_2 _ 0) rfl rfl rfl ?_
  refine w_s (c' := (21, [some (aR (some (1, 0, 0))), some (aI (iZ r1))], [aI (iZ r1)], am_hp ((sI σ1 (2, 0, 0) (up (σ1.1 (2, 0, 0)) 1 0))), t)) rfl rfl ?_
  exact w_ifne rfl h2 rfl w3 w4

theorem e_X11_runScript {h : AH} {t : KT} {d : Nat} {P : RS → Prop} (w : Wp k_X11_runScript d (0, [some (aR (some (1, 0, 0))), none], [], h, t) P) : ∃ r, Ca (d + 1) 92 [aR (some (1, 0, 0))] h t r ∧ P r := ca_W rfl rfl rfl rfl w

theorem b_X11_runScript_24 {x1 : Int} {σ : SG} {t : KT} (q1 : Q (.inr 1, am_hp σ, (t.1, t.2.1 + 1, t.2.2 + 6))) : Wp k_X11_runScript d (24, [some (aR (some (1, 0, 0))), some (aI (iZ x1))], [], am_hp σ, t) Q := by
  exact w_f rfl rfl q1

theorem b_X11_runScript_32 {x1 : Int} {σ σ1 σ2 σ3 : SG} {t : KT} (c1 : Ca d 3 [aR (some (15, 0, 0)), aR (some (8, 0, 0))] (am_hp σ) t (.inl none, am_hp σ1, t)) (c2 : Ca d 163 [aR (some (1, 0, 0)), aI (iZ 0), aI (iZ (((sI (sI σ1 (4, 0, 0) (up (σ1.1 (4, 0, 0)) 4 0)) (4, 0, 0) (up (((sI σ1 (4, 0, 0) (up (σ1.1 (4, 0, 0)) 4 0))).1 (4, 0, 0)) 5 1))).1 (4, 0, 0) 3)), aI (iZ 0)] (am_hp ((sI (sI σ1 (4, 0, 0) (up (σ1.1 (4, 0, 0)) 4 0)) (4, 0, 0) (up (((sI σ1 (4, 0, 0) (up (σ1.1 (4, 0, 0)) 4 0))).1 (4, 0, 0)) 5 1)))) t (.inl none, am_hp σ2, t)) (c3 : Ca d 151 [aR (some (1, 0, 0))] (am_hp σ2) t (.inl none, am_hp σ3, t)) (q4 : Q (.inl (some (aI (iZ (σ3.1 (4, 0, 0) 4)))), am_hp σ3, t)) : Wp k_X11_runScript d (32, [some (aR (some (1, 0, 0))), some (aI (iZ x1))], [], am_hp σ, t) Q := by
  refine w_s (c' := (33, [some (aR (some (1, 0, 0))), some (aI (iZ x1))], [aR (some (1, 0, 0))], am_hp σ, t)) rfl rfl ?_
  refine w_get rfl (hp_1 _ 0) rfl rfl ?_
  refine w_s (c' := (37, [some (aR (some (1, 0, 0))), some (aI (iZ x1))], [aR (some (1, 0, 0)), aR (some (15, 0, 0))], am_hp σ, t)) rfl rfl ?_
  refine w_get rfl (hp_1 _ 0) rfl rfl ?_
  refine w_c0 (c' := (43, [some (aR (some (1, 0, 0))), some (aI (iZ x1))], [], am_hp σ1, t)) rfl rfl (rcv_of (hp_15 _ 0)) rfl c1 (Nat.le_refl _) rfl ?_
  refine w_s (c' := (44, [some (aR (some (1, 0, 0))), some (aI (iZ x1))], [aR (some (1, 0, 0))], am_hp σ1, t)) rfl rfl ?_
  refine w_get rfl (hp_1 _ 0) rfl rfl ?_
  refine w_psh rfl zc_0 rfl ?_
  refine w_putI rfl (hp_4 _ 0) rfl rfl rfl ?_
  refine w_s (c' := (52, [some (aR (some (1, 0, 0))), some (aI (iZ x1))], [aR (some (1, 0, 0))], am_hp ((sI σ1 (4, 0, 0) (up (σ1.1 (4, 0, 0)) 4 0))), t)) rfl rfl ?_
  refine w_get rfl (hp_1 _ 0) rfl rfl ?_
  refine w_psh rfl zc_1 rfl ?_
  refine w_putb rfl (Or.inr rfl) (hp_4 _ 0) rfl rfl rfl ?_
  refine w_s (c' := (60, [some (aR (some (1, 0, 0))), some (aI (iZ x1))], [aR (some (1, 0, 0))], am_hp ((sI (sI σ1 (4, 0, 0) (up (σ1.1 (4, 0, 0)) 4 0)) (4, 0, 0) (up (((sI σ1 (4, 0, 0) (up (σ1.1 (4, 0, 0)) 4 0))).1 (4, 0, 0)) 5 1))), t)) rfl rfl ?_
  refine w_psh rfl zc_0 rfl ?_
  refine w_s (c' := (62, [some (aR (some (1, 0, 0))), some (aI (iZ x1))], [aR (some (1, 0, 0)), aI (iZ 0), aR (some (1, 0, 0))], am_hp ((sI (sI σ1 (4, 0, 0) (up (σ1.1 (4, 0, 0)) 4 0)) (4, 0, 0) (up (((sI σ1 (4, 0, 0) (up (σ1.1 (4, 0, 0)) 4 0))).1 (4, 0, 0)) 5 1))), t)) rfl rfl ?_
  refine w_get rfl (hp_1 _ 0) rfl rfl ?_
  refine w_get rfl (hp_4 _ 0) rfl rfl ?_
  refine w_psh rfl zc_0 rfl ?_
  refine w_c0 (c' := (72, [some (aR (some (1, 0, 0))), some (aI (iZ x1))], [], am_hp σ2, t)) rfl rfl (rcv_of (hp_1 _ 0)) rfl c2 (Nat.le_refl _) rfl ?_
  refine w_s (c' := (73, [some (aR (some (1, 0, 0))), some (aI (iZ x1))], [aR (some (1, 0, 0))], am_hp σ2, t)) rfl rfl ?_
  refine w_c0 (c' := (76, [some (aR (some (1, 0, 0))), some (aI (iZ x1))], [], am_hp σ3, t)) rfl rfl (rcv_of (hp_1 _ 0)) rfl c3 (Nat.le_refl _) rfl ?_
  refine w_s (c' := (77, [some (aR (some (1, 0, 0))), some (aI (iZ x1))], [aR (some (1, 0, 0))], am_hp σ3, t)) rfl rfl ?_
  refine w_get rfl (hp_1 _ 0) rfl rfl ?_
  refine w_get rfl (hp_4 _ 0) rfl rfl ?_
  exact w_ret rfl rfl q4

theorem b_X11_errorCode_0 {σ : SG} {t : KT} (q1 : Q (.inl (some (aI (iZ (σ.1 (2, 0, 0) 5)))), am_hp σ, t)) : Wp k_X11_errorCode d (0, [some (aR (some (1, 0, 0)))], [], am_hp σ, t) Q := by
  refine w_s (c' := (1, [some (aR (some (1, 0, 0)))], [aR (some (1, 0, 0))], am_hp σ, t)) rfl rfl ?_
  refine w_get rfl (hp_1 _ 0) rfl rfl ?_
  refine w_get rfl (hp_2 _ 0) rfl rfl ?_
  exact w_ret rfl rfl q1

theorem e_X11_errorCode {h : AH} {t : KT} {d : Nat} {P : RS → Prop} (w : Wp k_X11_errorCode d (0, [some (aR (some (1, 0, 0)))], [], h, t) P) : ∃ r, Ca (d + 1) 93 [aR (some (1, 0, 0))] h t r ∧ P r := ca_W rfl rfl rfl rfl w

theorem b_X11_errorPosition_0 {σ : SG} {t : KT} (q1 : Q (.inl (some (aI (iZ (σ.1 (2, 0, 0) 6)))), am_hp σ, t)) : Wp k_X11_errorPosition d (0, [some (aR (some (1, 0, 0)))], [], am_hp σ, t) Q := by
  refine w_s (c' := (1, [some (aR (some (1, 0, 0)))], [aR (some (1, 0, 0))], am_hp σ, t)) rfl rfl ?_
  refine w_get rfl (hp_1 _ 0) rfl rfl ?_
  refine w_get rfl (hp_2 _ 0) rfl rfl ?_
  exact w_ret rfl rfl q1

theorem e_X11_errorPosition {h : AH} {t : KT} {d : Nat} {P : RS → Prop} (w : Wp k_X11_errorPosition d (0, [some (aR (some (1, 0, 0)))], [], h, t) P) : ∃ r, Ca (d + 1) 94 [aR (some (1, 0, 0))] h t r ∧ P r := ca_W rfl rfl rfl rfl w

theorem b_X11_setting_0 {x1 : Int} {σ : SG} {t : KT} (h1 : -2147483648 ≤ x1 ∧ x1 < 2147483648) (w2 : x1 = 0 → Wp k_X11_setting d (40, [some (aR (some (1, 0, 0))), some (aI (iZ x1))], [], am_hp σ, t) Q) (w3 : x1 = 1 → Wp k_X11_setting d (48, [some (aR (some (1, 0, 0))), some (aI (iZ x1))], [], am_hp σ, t) Q) (w4 : x1 = 2 → Wp k_X11_setting d (56, [some (aR (some (1, 0, 0))), some (aI (iZ x1))], [], am_hp σ, t) Q) (w5 : x1 = 3 → Wp k_X11_setting d (64, [some (aR (some (1, 0, 0))), some (aI (iZ x1))], [], am_hp σ, t) Q) (w6 : x1 = 4 → Wp k_X11_setting d (72, [some (aR (some (1, 0, 0))), some (aI (iZ x1))], [], am_hp σ, t) Q) (w7 : x1 = 5 → Wp k_X11_setting d (77, [some (aR (some (1, 0, 0))), some (aI (iZ x1))], [], am_hp σ, t) Q) (w8 : (x1 < 0 ∨ 6 ≤ x1) → Wp k_X11_setting d (82, [some (aR (some (1, 0, 0))), some (aI (iZ x1))], [], am_hp σ, t) Q) : Wp k_X11_setting d (0, [some (aR (some (1, 0, 0))), some (aI (iZ x1))], [], am_hp σ, t) Q := by
  refine w_s (c' := (1, [some (aR (some (1, 0, 0))), some (aI (iZ x1))], [aI (iZ x1)], am_hp σ, t)) rfl rfl ?_
  refine w_tab rfl h1 ?_
  rcases (by omega : x1 = 0 ∨ x1 = 1 ∨ x1 = 2 ∨ x1 = 3 ∨ x1 = 4 ∨ x1 = 5 ∨ (x1 < 0 ∨ 6 ≤ x1)) with hd | hd | hd | hd | hd | hd | hd
  · rw [show (if x1 < (0 : Int) then 82 else [40, 48, 56, 64, 72, 77].getD (x1 - 0).toNat 82) = 40 by rw [hd]; rfl]; exact w2 hd
  · rw [show (if x1 < (0 : Int) then 82 else [40, 48, 56, 64, 72, 77].getD (x1 - 0).toNat 82) = 48 by rw [hd]; rfl]; exact w3 hd
  · rw [show (if x1 < (0 : Int) then 82 else [40, 48, 56, 64, 72, 77].getD (x1 - 0).toNat 82) = 56 by rw [hd]; rfl]; exact w4 hd
  · rw [show (if x1 < (0 : Int) then 82 else [40, 48, 56, 64, 72, 77].getD (x1 - 0).toNat 82) = 64 by rw [hd]; rfl]; exact w5 hd
  · rw [show (if x1 < (0 : Int) then 82 else [40, 48, 56, 64, 72, 77].getD (x1 - 0).toNat 82) = 72 by rw [hd]; rfl]; exact w6 hd
  · rw [show (if x1 < (0 : Int) then 82 else [40, 48, 56, 64, 72, 77].getD (x1 - 0).toNat 82) = 77 by rw [hd]; rfl]; exact w7 hd
  · rw [show (if x1 < (0 : Int) then 82 else [40, 48, 56, 64, 72, 77].getD (x1 - 0).toNat 82) = 82 by exact tgt_df [40, 48, 56, 64, 72, 77] _ (by decide) hd]; exact w8 hd

theorem e_X11_setting {x1 : Int} {h : AH} {t : KT} {d : Nat} {P : RS → Prop} (w : Wp k_X11_setting d (0, [some (aR (some (1, 0, 0))), some (aI (iZ x1))], [], h, t) P) : ∃ r, Ca (d + 1) 95 [aR (some (1, 0, 0)), aI (iZ x1)] h t r ∧ P r := ca_W rfl rfl rfl rfl w

theorem b_X11_setting_40 {x1 : Int} {σ : SG} {t : KT} (q1 : Q (.inl (some (aI (iZ (σ.1 (8, 0, 0) 4)))), am_hp σ, t)) : Wp k_X11_setting d (40, [some (aR (some (1, 0, 0))), some (aI (iZ x1))], [], am_hp σ, t) Q := by
  refine w_s (c' := (41, [some (aR (some (1, 0, 0))), some (aI (iZ x1))], [aR (some (1, 0, 0))], am_hp σ, t)) rfl rfl ?_
  refine w_get rfl (hp_1 _ 0) rfl rfl ?_
  refine w_get rfl (hp_8 _ 0) rfl rfl ?_
  exact w_ret rfl rfl q1

theorem b_X11_setting_48 {x1 : Int} {σ : SG} {t : KT} (q1 : Q (.inl (some (aI (iZ (σ.1 (8, 0, 0) 5)))), am_hp σ, t)) : Wp k_X11_setting d (48, [some (aR (some (1, 0, 0))), some (aI (iZ x1))], [], am_hp σ, t) Q := by
  refine w_s (c' := (49, [some (aR (some (1, 0, 0))), some (aI (iZ x1))], [aR (some (1, 0, 0))], am_hp σ, t)) rfl rfl ?_
  refine w_get rfl (hp_1 _ 0) rfl rfl ?_
  refine w_get rfl (hp_8 _ 0) rfl rfl ?_
  exact w_ret rfl rfl q1

theorem b_X11_setting_56 {x1 : Int} {σ : SG} {t : KT} (q1 : Q (.inl (some (aI (iZ (σ.1 (8, 0, 0) 6)))), am_hp σ, t)) : Wp k_X11_setting d (56, [some (aR (some (1, 0, 0))), some (aI (iZ x1))], [], am_hp σ, t) Q := by
  refine w_s (c' := (57, [some (aR (some (1, 0, 0))), some (aI (iZ x1))], [aR (some (1, 0, 0))], am_hp σ, t)) rfl rfl ?_
  refine w_get rfl (hp_1 _ 0) rfl rfl ?_
  refine w_get rfl (hp_8 _ 0) rfl rfl ?_
  exact w_ret rfl rfl q1

theorem b_X11_setting_64 {x1 : Int} {r1 : Int} {σ σ1 : SG} {t : KT} (c1 : Ca d 47 [aR (some (8, 0, 0))] (am_hp σ) t (.inl (some (aI (iZ r1))), am_hp σ1, t)) (q2 : Q (.inl (some (aI (iZ r1))), am_hp σ1, t)) : Wp k_X11_setting d (64, [some (aR (some (1, 0, 0))), some (aI (iZ x1))], [], am_hp σ, t) Q := by
  refine w_s (c' := (65, [some (aR (some (1, 0, 0))), some (aI (iZ x1))], [aR (some (1, 0, 0))], am_hp σ, t)) rfl rfl ?_
  refine w_get rfl (hp_1 _ 0) rfl rfl ?_
  refine w_c0 (c' := (71, [some (aR (some (1, 0, 0))), some (aI (iZ x1))], [aI (iZ r1)], am_hp σ1, t)) rfl rfl (rcv_of (hp_8 _ 0)) rfl c1 (Nat.le_refl _) rfl ?_
  exact w_ret rfl rfl q2

theorem b_X11_setting_72 {x1 : Int} {r1 : Int} {σ σ1 : SG} {t : KT} (c1 : Ca d 152 [aR (some (1, 0, 0))] (am_hp σ) t (.inl (some (aI (iZ r1))), am_hp σ1, t)) (q2 : Q (.inl (some (aI (iZ r1))), am_hp σ1, t)) : Wp k_X11_setting d (72, [some (aR (some (1, 0, 0))), some (aI (iZ x1))], [], am_hp σ, t) Q := by
  refine w_s (c' := (73, [some (aR (some (1, 0, 0))), some (aI (iZ x1))], [aR (some (1, 0, 0))], am_hp σ, t)) rfl rfl ?_
  refine w_c0 (c' := (76, [some (aR (some (1, 0, 0))), some (aI (iZ x1))], [aI (iZ r1)], am_hp σ1, t)) rfl rfl (rcv_of (hp_1 _ 0)) rfl c1 (Nat.le_refl _) rfl ?_
  exact w_ret rfl rfl q2

theorem b_X11_setting_77 {x1 : Int} {r1 : Int} {σ σ1 : SG} {t : KT} (c1 : Ca d 153 [aR (some (1, 0, 0))] (am_hp σ) t (.inl (some (aI (iZ r1))), am_hp σ1, t)) (q2 : Q (.inl (some (aI (iZ r1))), am_hp σ1, t)) : Wp k_X11_setting d (77, [some (aR (some (1, 0, 0))), some (aI (iZ x1))], [], am_hp σ, t) Q := by
  refine w_s (c' := (78, [some (aR (some (1, 0, 0))), some (aI (iZ x1))], [aR (some (1, 0, 0))], am_hp σ, t)) rfl rfl ?_
  refine w_c0 (c' := (81, [some (aR (some (1, 0, 0))), some (aI (iZ x1))], [aI (iZ r1)], am_hp σ1, t)) rfl rfl (rcv_of (hp_1 _ 0)) rfl c1 (Nat.le_refl _) rfl ?_
  exact w_ret rfl rfl q2

theorem b_X11_setting_82 {x1 : Int} {σ : SG} {t : KT} (q1 : Q (.inr 1, am_hp σ, (t.1, t.2.1 + 1, t.2.2 + 6))) : Wp k_X11_setting d (82, [some (aR (some (1, 0, 0))), some (aI (iZ x1))], [], am_hp σ, t) Q := by
  exact w_f rfl rfl q1

theorem b_X11_letter_0 {x1 : Int} {x2 : Int} {r2 : Int} {σ σ1 σ2 : SG} {t : KT} (c1 : Ca d 138 [aR (some (1, 0, 0)), aI (iZ x1)] (am_hp σ) t (.inl none, am_hp σ1, t)) (h2 : 0 ≤ x1 ∧ x1 < 4) (c3 : Ca d 149 [aL (jZ (σ1.2.1 (9, 0, 0) x1.toNat)), aI (iZ x2)] (am_hp σ1) t (.inl (some (aI (iZ r2))), am_hp σ2, t)) (q4 : Q (.inl (some (aI (iZ r2))), am_hp σ2, t)) : Wp k_X11_letter d (0, [some (aR (some (1, 0, 0))), some (aI (iZ x1)), some (aI (iZ x2))], [], am_hp σ, t) Q := by
  refine w_s (c' := (1, [some (aR (some (1, 0, 0))), some (aI (iZ x1)), some (aI (iZ x2))], [aR (some (1, 0, 0))], am_hp σ, t)) rfl rfl ?_
  refine w_s (c' := (2, [some (aR (some (1, 0, 0))), some (aI (iZ x1)), some (aI (iZ x2))], [aI (iZ x1), aR (some (1, 0, 0))], am_hp σ, t)) rfl rfl ?_
  refine w_c0 (c' := (5, [some (aR (some (1, 0, 0))), some (aI (iZ x1)), some (aI (iZ x2))], [], am_hp σ1, t)) rfl rfl (rcv_of (hp_1 _ 0)) rfl c1 (Nat.le_refl _) rfl ?_
  refine w_s (c' := (6, [some (aR (some (1, 0, 0))), some (aI (iZ x1)), some (aI (iZ x2))], [aR (some (1, 0, 0))], am_hp σ1, t)) rfl rfl ?_
  refine w_get rfl (hp_1 _ 0) rfl rfl ?_
  refine w_get rfl (hp_8 _ 0) rfl rfl ?_
  refine w_s (c' := (13, [some (aR (some (1, 0, 0))), some (aI (iZ x1)), some (aI (iZ x2))], [aI (iZ x1), aR (some (9, 0, 0))], am_hp σ1, t)) rfl rfl ?_
  refine w_lal rfl (hp_9 _ 0 0) h2 rfl rfl ?_
  refine w_s (c' := (15, [some (aR (some (1, 0, 0))), some (aI (iZ x1)), some (aI (iZ x2))], [aI (iZ x2), aL (jZ (σ1.2.1 (9, 0, 0) x1.toNat))], am_hp σ1, t)) rfl rfl ?_
  refine w_c0 (c' := (18, [some (aR (some (1, 0, 0))), some (aI (iZ x1)), some (aI (iZ x2))], [aI (iZ r2)], am_hp σ2, t)) rfl rfl rfl rfl c3 (Nat.le_refl _) rfl ?_
  exact w_ret rfl rfl q4

theorem bx_X11_letter_0_1 {x1 : Int} {x2 : Int} {E : Nat} {σ σ1 σ2 : SG} {t t' : KT} (c1 : Ca d 138 [aR (some (1, 0, 0)), aI (iZ x1)] (am_hp σ) t (.inr E, am_hp σ1, t')) (q2 : Q (.inr E, am_hp σ1, t')) : Wp k_X11_letter d (0, [some (aR (some (1, 0, 0))), some (aI (iZ x1)), some (aI (iZ x2))], [], am_hp σ, t) Q := by
  refine w_s (c' := (1, [some (aR (some (1, 0, 0))), some (aI (iZ x1)), some (aI (iZ x2))], [aR (some (1, 0, 0))], am_hp σ, t)) rfl rfl ?_
  refine w_s (c' := (2, [some (aR (some (1, 0, 0))), some (aI (iZ x1)), some (aI (iZ x2))], [aI (iZ x1), aR (some (1, 0, 0))], am_hp σ, t)) rfl rfl ?_
  exact w_x rfl rfl (rcv_of (hp_1 _ 0)) rfl c1 (Nat.le_refl _) rfl q2

theorem e_X11_letter {x1 : Int} {x2 : Int} {h : AH} {t : KT} {d : Nat} {P : RS → Prop} (w : Wp k_X11_letter d (0, [some (aR (some (1, 0, 0))), some (aI (iZ x1)), some (aI (iZ x2))], [], h, t) P) : ∃ r, Ca (d + 1) 96 [aR (some (1, 0, 0)), aI (iZ x1), aI (iZ x2)] h t r ∧ P r := ca_W rfl rfl rfl rfl w

theorem b_X11_way_0 {x1 : Int} {x2 : Int} {σ σ1 : SG} {t : KT} (c1 : Ca d 141 [aI (iZ x1)] (am_hp σ) t (.inl none, am_hp σ1, t)) (h2 : -2147483648 ≤ x2 ∧ x2 < 2147483648) (w3 : x2 = 0 → Wp k_X11_way d (36, [some (aR (some (1, 0, 0))), some (aI (iZ x1)), some (aI (iZ x2))], [], am_hp σ1, t) Q) (w4 : x2 = 1 → Wp k_X11_way d (42, [some (aR (some (1, 0, 0))), some (aI (iZ x1)), some (aI (iZ x2))], [], am_hp σ1, t) Q) (w5 : x2 = 2 → Wp k_X11_way d (48, [some (aR (some (1, 0, 0))), some (aI (iZ x1)), some (aI (iZ x2))], [], am_hp σ1, t) Q) (w6 : x2 = 3 → Wp k_X11_way d (58, [some (aR (some (1, 0, 0))), some (aI (iZ x1)), some (aI (iZ x2))], [], am_hp σ1, t) Q) (w7 : (x2 < 0 ∨ 4 ≤ x2) → Wp k_X11_way d (64, [some (aR (some (1, 0, 0))), some (aI (iZ x1)), some (aI (iZ x2))], [], am_hp σ1, t) Q) : Wp k_X11_way d (0, [some (aR (some (1, 0, 0))), some (aI (iZ x1)), some (aI (iZ x2))], [], am_hp σ, t) Q := by
  refine w_s (c' := (1, [some (aR (some (1, 0, 0))), some (aI (iZ x1)), some (aI (iZ x2))], [aI (iZ x1)], am_hp σ, t)) rfl rfl ?_
  refine w_c0 (c' := (4, [some (aR (some (1, 0, 0))), some (aI (iZ x1)), some (aI (iZ x2))], [], am_hp σ1, t)) rfl rfl rfl rfl c1 (Nat.le_refl _) rfl ?_
  refine w_s (c' := (5, [some (aR (some (1, 0, 0))), some (aI (iZ x1)), some (aI (iZ x2))], [aI (iZ x2)], am_hp σ1, t)) rfl rfl ?_
  refine w_tab rfl h2 ?_
  rcases (by omega : x2 = 0 ∨ x2 = 1 ∨ x2 = 2 ∨ x2 = 3 ∨ (x2 < 0 ∨ 4 ≤ x2)) with hd | hd | hd | hd | hd
  · rw [show (if x2 < (0 : Int) then 64 else [36, 42, 48, 58].getD (x2 - 0).toNat 64) = 36 by rw [hd]; rfl]; exact w3 hd
  · rw [show (if x2 < (0 : Int) then 64 else [36, 42, 48, 58].getD (x2 - 0).toNat 64) = 42 by rw [hd]; rfl]; exact w4 hd
  · rw [show (if x2 < (0 : Int) then 64 else [36, 42, 48, 58].getD (x2 - 0).toNat 64) = 48 by rw [hd]; rfl]; exact w5 hd
  · rw [show (if x2 < (0 : Int) then 64 else [36, 42, 48, 58].getD (x2 - 0).toNat 64) = 58 by rw [hd]; rfl]; exact w6 hd
  · rw [show (if x2 < (0 : Int) then 64 else [36, 42, 48, 58].getD (x2 - 0).toNat 64) = 64 by exact tgt_df [36, 42, 48, 58] _ (by decide) hd]; exact w7 hd

theorem bx_X11_way_0_1 {x1 : Int} {x2 : Int} {E : Nat} {σ σ1 : SG} {t t' : KT} (c1 : Ca d 141 [aI (iZ x1)] (am_hp σ) t (.inr E, am_hp σ1, t')) (q2 : Q (.inr E, am_hp σ1, t')) : Wp k_X11_way d (0, [some (aR (some (1, 0, 0))), some (aI (iZ x1)), some (aI (iZ x2))], [], am_hp σ, t) Q := by
  refine w_s (c' := (1, [some (aR (some (1, 0, 0))), some (aI (iZ x1)), some (aI (iZ x2))], [aI (iZ x1)], am_hp σ, t)) rfl rfl ?_
  exact w_x rfl rfl rfl rfl c1 (Nat.le_refl _) rfl q2

theorem e_X11_way {x1 : Int} {x2 : Int} {h : AH} {t : KT} {d : Nat} {P : RS → Prop} (w : Wp k_X11_way d (0, [some (aR (some (1, 0, 0))), some (aI (iZ x1)), some (aI (iZ x2))], [], h, t) P) : ∃ r, Ca (d + 1) 97 [aR (some (1, 0, 0)), aI (iZ x1), aI (iZ x2)] h t r ∧ P r := ca_W rfl rfl rfl rfl w

theorem b_X11_way_36 {x1 : Int} {x2 : Int} {σ : SG} {t : KT} (h1 : 0 ≤ x1 ∧ x1 < 9) (q2 : Q (.inl (some (aI (iZ (cntZ x1.toNat)))), am_hp σ, t)) : Wp k_X11_way d (36, [some (aR (some (1, 0, 0))), some (aI (iZ x1)), some (aI (iZ x2))], [], am_hp σ, t) Q := by
  refine w_s (c' := (39, [some (aR (some (1, 0, 0))), some (aI (iZ x1)), some (aI (iZ x2))], [aR (some (90, 0, 0))], am_hp σ, t)) rfl rfl ?_
  refine w_s (c' := (40, [some (aR (some (1, 0, 0))), some (aI (iZ x1)), some (aI (iZ x2))], [aI (iZ x1), aR (some (90, 0, 0))], am_hp σ, t)) rfl rfl ?_
  refine w_ial rfl (hp_90_0 _) h1 rfl rfl ?_
  exact w_ret rfl rfl q2

theorem b_X11_way_42 {x1 : Int} {x2 : Int} {σ : SG} {t : KT} (h1 : 0 ≤ x1 ∧ x1 < 9) (q2 : Q (.inl (some (aI (iZ (widZ x1.toNat)))), am_hp σ, t)) : Wp k_X11_way d (42, [some (aR (some (1, 0, 0))), some (aI (iZ x1)), some (aI (iZ x2))], [], am_hp σ, t) Q := by
  refine w_s (c' := (45, [some (aR (some (1, 0, 0))), some (aI (iZ x1)), some (aI (iZ x2))], [aR (some (90, 1, 0))], am_hp σ, t)) rfl rfl ?_
  refine w_s (c' := (46, [some (aR (some (1, 0, 0))), some (aI (iZ x1)), some (aI (iZ x2))], [aI (iZ x1), aR (some (90, 1, 0))], am_hp σ, t)) rfl rfl ?_
  refine w_ial rfl (hp_90_1 _) h1 rfl rfl ?_
  exact w_ret rfl rfl q2

theorem b_X11_way_48 {x1 : Int} {x2 : Int} {σ : SG} {t : KT} (h1 : 0 ≤ x1 ∧ x1 < 9) (q2 : Q (.inl (some (aI (iZ (σ.1 (13, 0, 0) x1.toNat)))), am_hp σ, t)) : Wp k_X11_way d (48, [some (aR (some (1, 0, 0))), some (aI (iZ x1)), some (aI (iZ x2))], [], am_hp σ, t) Q := by
  refine w_s (c' := (49, [some (aR (some (1, 0, 0))), some (aI (iZ x1)), some (aI (iZ x2))], [aR (some (1, 0, 0))], am_hp σ, t)) rfl rfl ?_
  refine w_get rfl (hp_1 _ 0) rfl rfl ?_
  refine w_get rfl (hp_8 _ 0) rfl rfl ?_
  refine w_s (c' := (56, [some (aR (some (1, 0, 0))), some (aI (iZ x1)), some (aI (iZ x2))], [aI (iZ x1), aR (some (13, 0, 0))], am_hp σ, t)) rfl rfl ?_
  refine w_ial rfl (hp_13 _ 0 0) h1 rfl rfl ?_
  exact w_ret rfl rfl q2

theorem b_X11_way_58 {x1 : Int} {x2 : Int} {r1 : Int} {σ σ1 : SG} {t : KT} (c1 : Ca d 154 [aR (some (1, 0, 0)), aI (iZ x1)] (am_hp σ) t (.inl (some (aI (iZ r1))), am_hp σ1, t)) (q2 : Q (.inl (some (aI (iZ r1))), am_hp σ1, t)) : Wp k_X11_way d (58, [some (aR (some (1, 0, 0))), some (aI (iZ x1)), some (aI (iZ x2))], [], am_hp σ, t) Q := by
  refine w_s (c' := (59, [some (aR (some (1, 0, 0))), some (aI (iZ x1)), some (aI (iZ x2))], [aR (some (1, 0, 0))], am_hp σ, t)) rfl rfl ?_
  refine w_s (c' := (60, [some (aR (some (1, 0, 0))), some (aI (iZ x1)), some (aI (iZ x2))], [aI (iZ x1), aR (some (1, 0, 0))], am_hp σ, t)) rfl rfl ?_
  refine w_c0 (c' := (63, [some (aR (some (1, 0, 0))), some (aI (iZ x1)), some (aI (iZ x2))], [aI (iZ r1)], am_hp σ1, t)) rfl rfl (rcv_of (hp_1 _ 0)) rfl c1 (Nat.le_refl _) rfl ?_
  exact w_ret rfl rfl q2

theorem b_X11_way_64 {x1 : Int} {x2 : Int} {σ : SG} {t : KT} (q1 : Q (.inr 1, am_hp σ, (t.1, t.2.1 + 1, t.2.2 + 6))) : Wp k_X11_way d (64, [some (aR (some (1, 0, 0))), some (aI (iZ x1)), some (aI (iZ x2))], [], am_hp σ, t) Q := by
  exact w_f rfl rfl q1

theorem b_X11_row_0 {x1 : Int} {x2 : Int} {σ σ1 : SG} {t : KT} (c1 : Ca d 138 [aR (some (1, 0, 0)), aI (iZ x1)] (am_hp σ) t (.inl none, am_hp σ1, t)) (h2 : 0 ≤ x1 ∧ x1 < 4) (h3 : -2147483648 ≤ x2 ∧ x2 < 2147483648) (w4 : x2 = 0 → Wp k_X11_row d (56, [some (aR (some (1, 0, 0))), some (aI (iZ x1)), some (aI (iZ x2)), some (aR (some (28, x1.toNat, 0)))], [], am_hp σ1, t) Q) (w5 : x2 = 1 → Wp k_X11_row d (61, [some (aR (some (1, 0, 0))), some (aI (iZ x1)), some (aI (iZ x2)), some (aR (some (28, x1.toNat, 0)))], [], am_hp σ1, t) Q) (w6 : x2 = 2 → Wp k_X11_row d (66, [some (aR (some (1, 0, 0))), some (aI (iZ x1)), some (aI (iZ x2)), some (aR (some (28, x1.toNat, 0)))], [], am_hp σ1, t) Q) (w7 : x2 = 3 → Wp k_X11_row d (78, [some (aR (some (1, 0, 0))), some (aI (iZ x1)), some (aI (iZ x2)), some (aR (some (28, x1.toNat, 0)))], [], am_hp σ1, t) Q) (w8 : x2 = 4 → Wp k_X11_row d (84, [some (aR (some (1, 0, 0))), some (aI (iZ x1)), some (aI (iZ x2)), some (aR (some (28, x1.toNat, 0)))], [], am_hp σ1, t) Q) (w9 : x2 = 5 → Wp k_X11_row d (89, [some (aR (some (1, 0, 0))), some (aI (iZ x1)), some (aI (iZ x2)), some (aR (some (28, x1.toNat, 0)))], [], am_hp σ1, t) Q) (w10 : x2 = 6 → Wp k_X11_row d (103, [some (aR (some (1, 0, 0))), some (aI (iZ x1)), some (aI (iZ x2)), some (aR (some (28, x1.toNat, 0)))], [], am_hp σ1, t) Q) (w11 : (x2 < 0 ∨ 7 ≤ x2) → Wp k_X11_row d (108, [some (aR (some (1, 0, 0))), some (aI (iZ x1)), some (aI (iZ x2)), some (aR (some (28, x1.toNat, 0)))], [], am_hp σ1, t) Q) : Wp k_X11_row d (0, [some (aR (some (1, 0, 0))), some (aI (iZ x1)), some (aI (iZ x2)), none], [], am_hp σ, t) Q := by
  refine w_s (c' := (1, [some (aR (some (1, 0, 0))), some (aI (iZ x1)), some (aI (iZ x2)), none], [aR (some (1, 0, 0))], am_hp σ, t)) rfl rfl ?_
  refine w_s (c' := (2, [some (aR (some (1, 0, 0))), some (aI (iZ x1)), some (aI (iZ x2)), none], [aI (iZ x1), aR (some (1, 0, 0))], am_hp σ, t)) rfl rfl ?_
  refine w_c0 (c' := (5, [some (aR (some (1, 0, 0))), some (aI (iZ x1)), some (aI (iZ x2)), none], [], am_hp σ1, t)) rfl rfl (rcv_of (hp_1 _ 0)) rfl c1 (Nat.le_refl _) rfl ?_
  refine w_s (c' := (6, [some (aR (some (1, 0, 0))), some (aI (iZ x1)), some (aI (iZ x2)), none], [aR (some (1, 0, 0))], am_hp σ1, t)) rfl rfl ?_
  refine w_get rfl (hp_1 _ 0) rfl rfl ?_
  refine w_s (c' := (10, [some (aR (some (1, 0, 0))), some (aI (iZ x1)), some (aI (iZ x2)), none], [aI (iZ x1), aR (some (17, 0, 0))], am_hp σ1, t)) rfl rfl ?_
  refine w_aal rfl (hp_17 _ 0) h2 rfl rfl ?_
  refine w_s (c' := (12, [some (aR (some (1, 0, 0))), some (aI (iZ x1)), some (aI (iZ x2)), some (aR (some (28, x1.toNat, 0)))], [], am_hp σ1, t)) rfl rfl ?_
  refine w_s (c' := (13, [some (aR (some (1, 0, 0))), some (aI (iZ x1)), some (aI (iZ x2)), some (aR (some (28, x1.toNat, 0)))], [aI (iZ x2)], am_hp σ1, t)) rfl rfl ?_
  refine w_tab rfl h3 ?_
  rcases (by omega : x2 = 0 ∨ x2 = 1 ∨ x2 = 2 ∨ x2 = 3 ∨ x2 = 4 ∨ x2 = 5 ∨ x2 = 6 ∨ (x2 < 0 ∨ 7 ≤ x2)) with hd | hd | hd | hd | hd | hd | hd | hd
  · rw [show (if x2 < (0 : Int) then 108 else [56, 61, 66, 78, 84, 89, 103].getD (x2 - 0).toNat 108) = 56 by rw [hd]; rfl]; exact w4 hd
  · rw [show (if x2 < (0 : Int) then 108 else [56, 61, 66, 78, 84, 89, 103].getD (x2 - 0).toNat 108) = 61 by rw [hd]; rfl]; exact w5 hd
  · rw [show (if x2 < (0 : Int) then 108 else [56, 61, 66, 78, 84, 89, 103].getD (x2 - 0).toNat 108) = 66 by rw [hd]; rfl]; exact w6 hd
  · rw [show (if x2 < (0 : Int) then 108 else [56, 61, 66, 78, 84, 89, 103].getD (x2 - 0).toNat 108) = 78 by rw [hd]; rfl]; exact w7 hd
  · rw [show (if x2 < (0 : Int) then 108 else [56, 61, 66, 78, 84, 89, 103].getD (x2 - 0).toNat 108) = 84 by rw [hd]; rfl]; exact w8 hd
  · rw [show (if x2 < (0 : Int) then 108 else [56, 61, 66, 78, 84, 89, 103].getD (x2 - 0).toNat 108) = 89 by rw [hd]; rfl]; exact w9 hd
  · rw [show (if x2 < (0 : Int) then 108 else [56, 61, 66, 78, 84, 89, 103].getD (x2 - 0).toNat 108) = 103 by rw [hd]; rfl]; exact w10 hd
  · rw [show (if x2 < (0 : Int) then 108 else [56, 61, 66, 78, 84, 89, 103].getD (x2 - 0).toNat 108) = 108 by exact tgt_df [56, 61, 66, 78, 84, 89, 103] _ (by decide) hd]; exact w11 hd

theorem bx_X11_row_0_1 {x1 : Int} {x2 : Int} {E : Nat} {σ σ1 : SG} {t t' : KT} (c1 : Ca d 138 [aR (some (1, 0, 0)), aI (iZ x1)] (am_hp σ) t (.inr E, am_hp σ1, t')) (q2 : Q (.inr E, am_hp σ1, t')) : Wp k_X11_row d (0, [some (aR (some (1, 0, 0))), some (aI (iZ x1)), some (aI (iZ x2)), none], [], am_hp σ, t) Q := by
  refine w_s (c' := (1, [some (aR (some (1, 0, 0))), some (aI (iZ x1)), some (aI (iZ x2)), none], [aR (some (1, 0, 0))], am_hp σ, t)) rfl rfl ?_
  refine w_s (c' := (2, [some (aR (some (1, 0, 0))), some (aI (iZ x1)), some (aI (iZ x2)), none], [aI (iZ x1), aR (some (1, 0, 0))], am_hp σ, t)) rfl rfl ?_
  exact w_x rfl rfl (rcv_of (hp_1 _ 0)) rfl c1 (Nat.le_refl _) rfl q2

theorem e_X11_row {x1 : Int} {x2 : Int} {h : AH} {t : KT} {d : Nat} {P : RS → Prop} (w : Wp k_X11_row d (0, [some (aR (some (1, 0, 0))), some (aI (iZ x1)), some (aI (iZ x2)), none], [], h, t) P) : ∃ r, Ca (d + 1) 98 [aR (some (1, 0, 0)), aI (iZ x1), aI (iZ x2)] h t r ∧ P r := ca_W rfl rfl rfl rfl w

theorem b_X11_row_56 {x1 : Int} {x2 : Int} {p3 : Nat} {σ : SG} {t : KT} (q1 : Q (.inl (some (aI (iZ (σ.1 (28, p3, 0) 3)))), am_hp σ, t)) : Wp k_X11_row d (56, [some (aR (some (1, 0, 0))), some (aI (iZ x1)), some (aI (iZ x2)), some (aR (some (28, p3, 0)))], [], am_hp σ, t) Q := by
  refine w_s (c' := (57, [some (aR (some (1, 0, 0))), some (aI (iZ x1)), some (aI (iZ x2)), some (aR (some (28, p3, 0)))], [aR (some (28, p3, 0))], am_hp σ, t)) rfl rfl ?_
  refine w_get rfl (hp_28 _ p3) rfl rfl ?_
  exact w_ret rfl rfl q1

theorem b_X11_row_61 {x1 : Int} {x2 : Int} {p3 : Nat} {σ : SG} {t : KT} (q1 : Q (.inl (some (aI (iZ (σ.1 (28, p3, 0) 2)))), am_hp σ, t)) : Wp k_X11_row d (61, [some (aR (some (1, 0, 0))), some (aI (iZ x1)), some (aI (iZ x2)), some (aR (some (28, p3, 0)))], [], am_hp σ, t) Q := by
  refine w_s (c' := (62, [some (aR (some (1, 0, 0))), some (aI (iZ x1)), some (aI (iZ x2)), some (aR (some (28, p3, 0)))], [aR (some (28, p3, 0))], am_hp σ, t)) rfl rfl ?_
  refine w_get rfl (hp_28 _ p3) rfl rfl ?_
  exact w_ret rfl rfl q1

theorem b_X11_row_66 {x1 : Int} {x2 : Int} {p3 : Nat} {r1 : Int} {σ σ1 : SG} {t : KT} (c1 : Ca d 15 [aR (some (28, p3, 0)), aR (some (13, 0, 0))] (am_hp σ) t (.inl (some (aI (iZ r1))), am_hp σ1, t)) (q2 : Q (.inl (some (aI (iZ r1))), am_hp σ1, t)) : Wp k_X11_row d (66, [some (aR (some (1, 0, 0))), some (aI (iZ x1)), some (aI (iZ x2)), some (aR (some (28, p3, 0)))], [], am_hp σ, t) Q := by
  refine w_s (c' := (67, [some (aR (some (1, 0, 0))), some (aI (iZ x1)), some (aI (iZ x2)), some (aR (some (28, p3, 0)))], [aR (some (28, p3, 0))], am_hp σ, t)) rfl rfl ?_
  refine w_s (c' := (68, [some (aR (some (1, 0, 0))), some (aI (iZ x1)), some (aI (iZ x2)), some (aR (some (28, p3, 0)))], [aR (some (1, 0, 0)), aR (some (28, p3, 0))], am_hp σ, t)) rfl rfl ?_
  refine w_get rfl (hp_1 _ 0) rfl rfl ?_
  refine w_get rfl (hp_8 _ 0) rfl rfl ?_
  refine w_c0 (c' := (77, [some (aR (some (1, 0, 0))), some (aI (iZ x1)), some (aI (iZ x2)), some (aR (some (28, p3, 0)))], [aI (iZ r1)], am_hp σ1, t)) rfl rfl (rcv_of (hp_28 _ p3)) rfl c1 (Nat.le_refl _) rfl ?_
  exact w_ret rfl rfl q2

theorem b_X11_row_78 {x1 : Int} {x2 : Int} {p3 : Nat} {r1 : Int} {σ σ1 : SG} {t : KT} (c1 : Ca d 155 [aR (some (1, 0, 0)), aR (some (28, p3, 0))] (am_hp σ) t (.inl (some (aI (iZ r1))), am_hp σ1, t)) (q2 : Q (.inl (some (aI (iZ r1))), am_hp σ1, t)) : Wp k_X11_row d (78, [some (aR (some (1, 0, 0))), some (aI (iZ x1)), some (aI (iZ x2)), some (aR (some (28, p3, 0)))], [], am_hp σ, t) Q := by
  refine w_s (c' := (79, [some (aR (some (1, 0, 0))), some (aI (iZ x1)), some (aI (iZ x2)), some (aR (some (28, p3, 0)))], [aR (some (1, 0, 0))], am_hp σ, t)) rfl rfl ?_
  refine w_s (c' := (80, [some (aR (some (1, 0, 0))), some (aI (iZ x1)), some (aI (iZ x2)), some (aR (some (28, p3, 0)))], [aR (some (28, p3, 0)), aR (some (1, 0, 0))], am_hp σ, t)) rfl rfl ?_
  refine w_c0 (c' := (83, [some (aR (some (1, 0, 0))), some (aI (iZ x1)), some (aI (iZ x2)), some (aR (some (28, p3, 0)))], [aI (iZ r1)], am_hp σ1, t)) rfl rfl (rcv_of (hp_1 _ 0)) rfl c1 (Nat.le_refl _) rfl ?_
  exact w_ret rfl rfl q2

theorem b_X11_row_84 {x1 : Int} {x2 : Int} {p3 : Nat} {r1 : Int} {σ σ1 : SG} {t : KT} (c1 : Ca d 12 [aR (some (28, p3, 0))] (am_hp σ) t (.inl (some (aI (iZ r1))), am_hp σ1, t)) (q2 : Q (.inl (some (aI (iZ r1))), am_hp σ1, t)) : Wp k_X11_row d (84, [some (aR (some (1, 0, 0))), some (aI (iZ x1)), some (aI (iZ x2)), some (aR (some (28, p3, 0)))], [], am_hp σ, t) Q := by
  refine w_s (c' := (85, [some (aR (some (1, 0, 0))), some (aI (iZ x1)), some (aI (iZ x2)), some (aR (some (28, p3, 0)))], [aR (some (28, p3, 0))], am_hp σ, t)) rfl rfl ?_
  refine w_c0 (c' := (88, [some (aR (some (1, 0, 0))), some (aI (iZ x1)), some (aI (iZ x2)), some (aR (some (28, p3, 0)))], [aI (iZ r1)], am_hp σ1, t)) rfl rfl (rcv_of (hp_28 _ p3)) rfl c1 (Nat.le_refl _) rfl ?_
  exact w_ret rfl rfl q2

theorem b_X11_row_89 {x1 : Int} {x2 : Int} {p3 : Nat} {r1 : Int} {r2 : Int} {σ σ1 σ2 : SG} {t : KT} (c1 : Ca d 10 [aR (some (28, p3, 0))] (am_hp σ) t (.inl (some (aI (iZ r1))), am_hp σ1, t)) (c2 : Ca d 49 [aR (some (8, 0, 0)), aI (iZ x1)] (am_hp σ1) t (.inl (some (aI (iZ r2))), am_hp σ2, t)) (q3 : Q (.inl (some (aI (iZ (r1 - r2)))), am_hp σ2, t)) : Wp k_X11_row d (89, [some (aR (some (1, 0, 0))), some (aI (iZ x1)), some (aI (iZ x2)), some (aR (some (28, p3, 0)))], [], am_hp σ, t) Q := by
  refine w_s (c' := (90, [some (aR (some (1, 0, 0))), some (aI (iZ x1)), some (aI (iZ x2)), some (aR (some (28, p3, 0)))], [aR (some (28, p3, 0))], am_hp σ, t)) rfl rfl ?_
  refine w_c0 (c' := (93, [some (aR (some (1, 0, 0))), some (aI (iZ x1)), some (aI (iZ x2)), some (aR (some (28, p3, 0)))], [aI (iZ r1)], am_hp σ1, t)) rfl rfl (rcv_of (hp_28 _ p3)) rfl c1 (Nat.le_refl _) rfl ?_
  refine w_s (c' := (94, [some (aR (some (1, 0, 0))), some (aI (iZ x1)), some (aI (iZ x2)), some (aR (some (28, p3, 0)))], [aR (some (1, 0, 0)), aI (iZ r1)], am_hp σ1, t)) rfl rfl ?_
  refine w_get rfl (hp_1 _ 0) rfl rfl ?_
  refine w_s (c' := (98, [some (aR (some (1, 0, 0))), some (aI (iZ x1)), some (aI (iZ x2)), some (aR (some (28, p3, 0)))], [aI (iZ x1), aR (some (8, 0, 0)), aI (iZ r1)], am_hp σ1, t)) rfl rfl ?_
  refine w_c0 (c' := (101, [some (aR (some (1, 0, 0))), some (aI (iZ x1)), some (aI (iZ x2)), some (aR (some (28, p3, 0)))], [aI (iZ r2), aI (iZ r1)], am_hp σ2, t)) rfl rfl (rcv_of (hp_8 _ 0)) rfl c2 (Nat.le_refl _) rfl ?_
  refine w_isub rfl rfl ?_
  exact w_ret rfl rfl q3

theorem b_X11_row_103 {x1 : Int} {x2 : Int} {p3 : Nat} {r1 : Int} {σ σ1 : SG} {t : KT} (c1 : Ca d 13 [aR (some (28, p3, 0))] (am_hp σ) t (.inl (some (aI (iZ r1))), am_hp σ1, t)) (q2 : Q (.inl (some (aI (iZ r1))), am_hp σ1, t)) : Wp k_X11_row d (103, [some (aR (some (1, 0, 0))), some (aI (iZ x1)), some (aI (iZ x2)), some (aR (some (28, p3, 0)))], [], am_hp σ, t) Q := by
  refine w_s (c' := (104, [some (aR (some (1, 0, 0))), some (aI (iZ x1)), some (aI (iZ x2)), some (aR (some (28, p3, 0)))], [aR (some (28, p3, 0))], am_hp σ, t)) rfl rfl ?_
  refine w_c0 (c' := (107, [some (aR (some (1, 0, 0))), some (aI (iZ x1)), some (aI (iZ x2)), some (aR (some (28, p3, 0)))], [aI (iZ r1)], am_hp σ1, t)) rfl rfl (rcv_of (hp_28 _ p3)) rfl c1 (Nat.le_refl _) rfl ?_
  exact w_ret rfl rfl q2

theorem b_X11_row_108 {x1 : Int} {x2 : Int} {p3 : Nat} {σ : SG} {t : KT} (q1 : Q (.inr 1, am_hp σ, (t.1, t.2.1 + 1, t.2.2 + 6))) : Wp k_X11_row d (108, [some (aR (some (1, 0, 0))), some (aI (iZ x1)), some (aI (iZ x2)), some (aR (some (28, p3, 0)))], [], am_hp σ, t) Q := by
  exact w_f rfl rfl q1

theorem b_X11_word_0 {x1 : Int} {x2 : Int} {σ σ1 : SG} {t : KT} (c1 : Ca d 140 [aR (some (1, 0, 0)), aI (iZ x1), aI (iZ x2)] (am_hp σ) t (.inl none, am_hp σ1, t)) (h2 : 0 ≤ x1 ∧ x1 < 4) (h3 : 0 ≤ x2 ∧ x2 < 60) (q4 : Q (.inl (some (aI (iZ (σ1.1 (29, x1.toNat, 0) x2.toNat)))), am_hp σ1, t)) : Wp k_X11_word d (0, [some (aR (some (1, 0, 0))), some (aI (iZ x1)), some (aI (iZ x2))], [], am_hp σ, t) Q := by
  refine w_s (c' := (1, [some (aR (some (1, 0, 0))), some (aI (iZ x1)), some (aI (iZ x2))], [aR (some (1, 0, 0))], am_hp σ, t)) rfl rfl ?_
  refine w_s (c' := (2, [some (aR (some (1, 0, 0))), some (aI (iZ x1)), some (aI (iZ x2))], [aI (iZ x1), aR (some (1, 0, 0))], am_hp σ, t)) rfl rfl ?_
  refine w_s (c' := (3, [some (aR (some (1, 0, 0))), some (aI (iZ x1)), some (aI (iZ x2))], [aI (iZ x2), aI (iZ x1), aR (some (1, 0, 0))], am_hp σ, t)) rfl rfl ?_
  refine w_c0 (c' := (6, [some (aR (some (1, 0, 0))), some (aI (iZ x1)), some (aI (iZ x2))], [], am_hp σ1, t)) rfl rfl (rcv_of (hp_1 _ 0)) rfl c1 (Nat.le_refl _) rfl ?_
  refine w_s (c' := (7, [some (aR (some (1, 0, 0))), some (aI (iZ x1)), some (aI (iZ x2))], [aR (some (1, 0, 0))], am_hp σ1, t)) rfl rfl ?_
  refine w_get rfl (hp_1 _ 0) rfl rfl ?_
  refine w_s (c' := (11, [some (aR (some (1, 0, 0))), some (aI (iZ x1)), some (aI (iZ x2))], [aI (iZ x1), aR (some (17, 0, 0))], am_hp σ1, t)) rfl rfl ?_
  refine w_aal rfl (hp_17 _ 0) h2 rfl rfl ?_
  refine w_get rfl (hp_28 _ x1.toNat) rfl rfl ?_
  refine w_s (c' := (16, [some (aR (some (1, 0, 0))), some (aI (iZ x1)), some (aI (iZ x2))], [aI (iZ x2), aR (some (29, x1.toNat, 0))], am_hp σ1, t)) rfl rfl ?_
  refine w_ial rfl (hp_29 _ x1.toNat 0) h3 rfl rfl ?_
  exact w_ret rfl rfl q4

theorem bx_X11_word_0_1 {x1 : Int} {x2 : Int} {E : Nat} {σ σ1 : SG} {t t' : KT} (c1 : Ca d 140 [aR (some (1, 0, 0)), aI (iZ x1), aI (iZ x2)] (am_hp σ) t (.inr E, am_hp σ1, t')) (q2 : Q (.inr E, am_hp σ1, t')) : Wp k_X11_word d (0, [some (aR (some (1, 0, 0))), some (aI (iZ x1)), some (aI (iZ x2))], [], am_hp σ, t) Q := by
  refine w_s (c' := (1, [some (aR (some (1, 0, 0))), some (aI (iZ x1)), some (aI (iZ x2))], [aR (some (1, 0, 0))], am_hp σ, t)) rfl rfl ?_
  refine w_s (c' := (2, [some (aR (some (1, 0, 0))), some (aI (iZ x1)), some (aI (iZ x2))], [aI (iZ x1), aR (some (1, 0, 0))], am_hp σ, t)) rfl rfl ?_
  refine w_s (c' := (3, [some (aR (some (1, 0, 0))), some (aI (iZ x1)), some (aI (iZ x2))], [aI (iZ x2), aI (iZ x1), aR (some (1, 0, 0))], am_hp σ, t)) rfl rfl ?_
  exact w_x rfl rfl (rcv_of (hp_1 _ 0)) rfl c1 (Nat.le_refl _) rfl q2

theorem e_X11_word {x1 : Int} {x2 : Int} {h : AH} {t : KT} {d : Nat} {P : RS → Prop} (w : Wp k_X11_word d (0, [some (aR (some (1, 0, 0))), some (aI (iZ x1)), some (aI (iZ x2))], [], h, t) P) : ∃ r, Ca (d + 1) 99 [aR (some (1, 0, 0)), aI (iZ x1), aI (iZ x2)] h t r ∧ P r := ca_W rfl rfl rfl rfl w

theorem b_X11_wordPart_0 {x1 : Int} {x2 : Int} {x3 : Int} {σ σ1 : SG} {t : KT} (c1 : Ca d 140 [aR (some (1, 0, 0)), aI (iZ x1), aI (iZ x2)] (am_hp σ) t (.inl none, am_hp σ1, t)) (h2 : 0 ≤ x1 ∧ x1 < 4) (h3 : -2147483648 ≤ x3 ∧ x3 < 2147483648) (w4 : x3 = 0 → Wp k_X11_wordPart d (44, [some (aR (some (1, 0, 0))), some (aI (iZ x1)), some (aI (iZ x2)), some (aI (iZ x3)), some (aR (some (28, x1.toNat, 0)))], [], am_hp σ1, t) Q) (w5 : x3 = 1 → Wp k_X11_wordPart d (51, [some (aR (some (1, 0, 0))), some (aI (iZ x1)), some (aI (iZ x2)), some (aI (iZ x3)), some (aR (some (28, x1.toNat, 0)))], [], am_hp σ1, t) Q) (w6 : x3 = 2 → Wp k_X11_wordPart d (58, [some (aR (some (1, 0, 0))), some (aI (iZ x1)), some (aI (iZ x2)), some (aI (iZ x3)), some (aR (some (28, x1.toNat, 0)))], [], am_hp σ1, t) Q) (w7 : x3 = 3 → Wp k_X11_wordPart d (66, [some (aR (some (1, 0, 0))), some (aI (iZ x1)), some (aI (iZ x2)), some (aI (iZ x3)), some (aR (some (28, x1.toNat, 0)))], [], am_hp σ1, t) Q) (w8 : (x3 < 0 ∨ 4 ≤ x3) → Wp k_X11_wordPart d (73, [some (aR (some (1, 0, 0))), some (aI (iZ x1)), some (aI (iZ x2)), some (aI (iZ x3)), some (aR (some (28, x1.toNat, 0)))], [], am_hp σ1, t) Q) : Wp k_X11_wordPart d (0, [some (aR (some (1, 0, 0))), some (aI (iZ x1)), some (aI (iZ x2)), some (aI (iZ x3)), none], [], am_hp σ, t) Q := by
  refine w_s (c' := (1, [some (aR (some (1, 0, 0))), some (aI (iZ x1)), some (aI (iZ x2)), some (aI (iZ x3)), none], [aR (some (1, 0, 0))], am_hp σ, t)) rfl rfl ?_
  refine w_s (c' := (2, [some (aR (some (1, 0, 0))), some (aI (iZ x1)), some (aI (iZ x2)), some (aI (iZ x3)), none], [aI (iZ x1), aR (some (1, 0, 0))], am_hp σ, t)) rfl rfl ?_
  refine w_s (c' := (3, [some (aR (some (1, 0, 0))), some (aI (iZ x1)), some (aI (iZ x2)), some (aI (iZ x3)), none], [aI (iZ x2), aI (iZ x1), aR (some (1, 0, 0))], am_hp σ, t)) rfl rfl ?_
  refine w_c0 (c' := (6, [some (aR (some (1, 0, 0))), some (aI (iZ x1)), some (aI (iZ x2)), some (aI (iZ x3)), none], [], am_hp σ1, t)) rfl rfl (rcv_of (hp_1 _ 0)) rfl c1 (Nat.le_refl _) rfl ?_
  refine w_s (c' := (7, [some (aR (some (1, 0, 0))), some (aI (iZ x1)), some (aI (iZ x2)), some (aI (iZ x3)), none], [aR (some (1, 0, 0))], am_hp σ1, t)) rfl rfl ?_
  refine w_get rfl (hp_1 _ 0) rfl rfl ?_
  refine w_s (c' := (11, [some (aR (some (1, 0, 0))), some (aI (iZ x1)), some (aI (iZ x2)), some (aI (iZ x3)), none], [aI (iZ x1), aR (some (17, 0, 0))], am_hp σ1, t)) rfl rfl ?_
  refine w_aal rfl (hp_17 _ 0) h2 rfl rfl ?_
  refine w_s (c' := (14, [some (aR (some (1, 0, 0))), some (aI (iZ x1)), some (aI (iZ x2)), some (aI (iZ x3)), some (aR (some (28, x1.toNat, 0)))], [], am_hp σ1, t)) rfl rfl ?_
  refine w_s (c' := (15, [some (aR (some (1, 0, 0))), some (aI (iZ x1)), some (aI (iZ x2)), some (aI (iZ x3)), some (aR (some (28, x1.toNat, 0)))], [aI (iZ x3)], am_hp σ1, t)) rfl rfl ?_
  refine w_tab rfl h3 ?_
  rcases (by omega : x3 = 0 ∨ x3 = 1 ∨ x3 = 2 ∨ x3 = 3 ∨ (x3 < 0 ∨ 4 ≤ x3)) with hd | hd | hd | hd | hd
  · rw [show (if x3 < (0 : Int) then 73 else [44, 51, 58, 66].getD (x3 - 0).toNat 73) = 44 by rw [hd]; rfl]; exact w4 hd
  · rw [show (if x3 < (0 : Int) then 73 else [44, 51, 58, 66].getD (x3 - 0).toNat 73) = 51 by rw [hd]; rfl]; exact w5 hd
  · rw [show (if x3 < (0 : Int) then 73 else [44, 51, 58, 66].getD (x3 - 0).toNat 73) = 58 by rw [hd]; rfl]; exact w6 hd
  · rw [show (if x3 < (0 : Int) then 73 else [44, 51, 58, 66].getD (x3 - 0).toNat 73) = 66 by rw [hd]; rfl]; exact w7 hd
  · rw [show (if x3 < (0 : Int) then 73 else [44, 51, 58, 66].getD (x3 - 0).toNat 73) = 73 by exact tgt_df [44, 51, 58, 66] _ (by decide) hd]; exact w8 hd

theorem bx_X11_wordPart_0_1 {x1 : Int} {x2 : Int} {x3 : Int} {E : Nat} {σ σ1 : SG} {t t' : KT} (c1 : Ca d 140 [aR (some (1, 0, 0)), aI (iZ x1), aI (iZ x2)] (am_hp σ) t (.inr E, am_hp σ1, t')) (q2 : Q (.inr E, am_hp σ1, t')) : Wp k_X11_wordPart d (0, [some (aR (some (1, 0, 0))), some (aI (iZ x1)), some (aI (iZ x2)), some (aI (iZ x3)), none], [], am_hp σ, t) Q := by
  refine w_s (c' := (1, [some (aR (some (1, 0, 0))), some (aI (iZ x1)), some (aI (iZ x2)), some (aI (iZ x3)), none], [aR (some (1, 0, 0))], am_hp σ, t)) rfl rfl ?_
  refine w_s (c' := (2, [some (aR (some (1, 0, 0))), some (aI (iZ x1)), some (aI (iZ x2)), some (aI (iZ x3)), none], [aI (iZ x1), aR (some (1, 0, 0))], am_hp σ, t)) rfl rfl ?_
  refine w_s (c' := (3, [some (aR (some (1, 0, 0))), some (aI (iZ x1)), some (aI (iZ x2)), some (aI (iZ x3)), none], [aI (iZ x2), aI (iZ x1), aR (some (1, 0, 0))], am_hp σ, t)) rfl rfl ?_
  exact w_x rfl rfl (rcv_of (hp_1 _ 0)) rfl c1 (Nat.le_refl _) rfl q2

theorem e_X11_wordPart {x1 : Int} {x2 : Int} {x3 : Int} {h : AH} {t : KT} {d : Nat} {P : RS → Prop} (w : Wp k_X11_wordPart d (0, [some (aR (some (1, 0, 0))), some (aI (iZ x1)), some (aI (iZ x2)), some (aI (iZ x3)), none], [], h, t) P) : ∃ r, Ca (d + 1) 100 [aR (some (1, 0, 0)), aI (iZ x1), aI (iZ x2), aI (iZ x3)] h t r ∧ P r := ca_W rfl rfl rfl rfl w

theorem b_X11_wordPart_44 {x1 : Int} {x2 : Int} {x3 : Int} {p4 : Nat} {r1 : Int} {σ σ1 : SG} {t : KT} (c1 : Ca d 8 [aR (some (28, p4, 0)), aI (iZ x2)] (am_hp σ) t (.inl (some (aI (iZ r1))), am_hp σ1, t)) (q2 : Q (.inl (some (aI (iZ r1))), am_hp σ1, t)) : Wp k_X11_wordPart d (44, [some (aR (some (1, 0, 0))), some (aI (iZ x1)), some (aI (iZ x2)), some (aI (iZ x3)), some (aR (some (28, p4, 0)))], [], am_hp σ, t) Q := by
  refine w_s (c' := (46, [some (aR (some (1, 0, 0))), some (aI (iZ x1)), some (aI (iZ x2)), some (aI (iZ x3)), some (aR (some (28, p4, 0)))], [aR (some (28, p4, 0))], am_hp σ, t)) rfl rfl ?_
  refine w_s (c' := (47, [some (aR (some (1, 0, 0))), some (aI (iZ x1)), some (aI (iZ x2)), some (aI (iZ x3)), some (aR (some (28, p4, 0)))], [aI (iZ x2), aR (some (28, p4, 0))], am_hp σ, t)) rfl rfl ?_
  refine w_c0 (c' := (50, [some (aR (some (1, 0, 0))), some (aI (iZ x1)), some (aI (iZ x2)), some (aI (iZ x3)), some (aR (some (28, p4, 0)))], [aI (iZ r1)], am_hp σ1, t)) rfl rfl (rcv_of (hp_28 _ p4)) rfl c1 (Nat.le_refl _) rfl ?_
  exact w_ret rfl rfl q2

theorem b_X11_wordPart_51 {x1 : Int} {x2 : Int} {x3 : Int} {p4 : Nat} {r1 : Int} {σ σ1 : SG} {t : KT} (c1 : Ca d 9 [aR (some (28, p4, 0)), aI (iZ x2)] (am_hp σ) t (.inl (some (aI (iZ r1))), am_hp σ1, t)) (q2 : Q (.inl (some (aI (iZ r1))), am_hp σ1, t)) : Wp k_X11_wordPart d (51, [some (aR (some (1, 0, 0))), some (aI (iZ x1)), some (aI (iZ x2)), some (aI (iZ x3)), some (aR (some (28, p4, 0)))], [], am_hp σ, t) Q := by
  refine w_s (c' := (53, [some (aR (some (1, 0, 0))), some (aI (iZ x1)), some (aI (iZ x2)), some (aI (iZ x3)), some (aR (some (28, p4, 0)))], [aR (some (28, p4, 0))], am_hp σ, t)) rfl rfl ?_
  refine w_s (c' := (54, [some (aR (some (1, 0, 0))), some (aI (iZ x1)), some (aI (iZ x2)), some (aI (iZ x3)), some (aR (some (28, p4, 0)))], [aI (iZ x2), aR (some (28, p4, 0))], am_hp σ, t)) rfl rfl ?_
  refine w_c0 (c' := (57, [some (aR (some (1, 0, 0))), some (aI (iZ x1)), some (aI (iZ x2)), some (aI (iZ x3)), some (aR (some (28, p4, 0)))], [aI (iZ r1)], am_hp σ1, t)) rfl rfl (rcv_of (hp_28 _ p4)) rfl c1 (Nat.le_refl _) rfl ?_
  exact w_ret rfl rfl q2

theorem b_X11_wordPart_58 {x1 : Int} {x2 : Int} {x3 : Int} {p4 : Nat} {σ : SG} {t : KT} (h1 : 0 ≤ x2 ∧ x2 < 60) (q2 : Q (.inl (some (aI (iZ (σ.1 (30, p4, 0) x2.toNat)))), am_hp σ, t)) : Wp k_X11_wordPart d (58, [some (aR (some (1, 0, 0))), some (aI (iZ x1)), some (aI (iZ x2)), some (aI (iZ x3)), some (aR (some (28, p4, 0)))], [], am_hp σ, t) Q := by
  refine w_s (c' := (60, [some (aR (some (1, 0, 0))), some (aI (iZ x1)), some (aI (iZ x2)), some (aI (iZ x3)), some (aR (some (28, p4, 0)))], [aR (some (28, p4, 0))], am_hp σ, t)) rfl rfl ?_
  refine w_get rfl (hp_28 _ p4) rfl rfl ?_
  refine w_s (c' := (64, [some (aR (some (1, 0, 0))), some (aI (iZ x1)), some (aI (iZ x2)), some (aI (iZ x3)), some (aR (some (28, p4, 0)))], [aI (iZ x2), aR (some (30, p4, 0))], am_hp σ, t)) rfl rfl ?_
  refine w_ial rfl (hp_30 _ p4 0) h1 rfl rfl ?_
  exact w_ret rfl rfl q2

theorem b_X11_wordPart_66 {x1 : Int} {x2 : Int} {x3 : Int} {p4 : Nat} {r1 : Int} {σ σ1 : SG} {t : KT} (c1 : Ca d 11 [aR (some (28, p4, 0)), aI (iZ x2)] (am_hp σ) t (.inl (some (aI (iZ r1))), am_hp σ1, t)) (q2 : Q (.inl (some (aI (iZ r1))), am_hp σ1, t)) : Wp k_X11_wordPart d (66, [some (aR (some (1, 0, 0))), some (aI (iZ x1)), some (aI (iZ x2)), some (aI (iZ x3)), some (aR (some (28, p4, 0)))], [], am_hp σ, t) Q := by
  refine w_s (c' := (68, [some (aR (some (1, 0, 0))), some (aI (iZ x1)), some (aI (iZ x2)), some (aI (iZ x3)), some (aR (some (28, p4, 0)))], [aR (some (28, p4, 0))], am_hp σ, t)) rfl rfl ?_
  refine w_s (c' := (69, [some (aR (some (1, 0, 0))), some (aI (iZ x1)), some (aI (iZ x2)), some (aI (iZ x3)), some (aR (some (28, p4, 0)))], [aI (iZ x2), aR (some (28, p4, 0))], am_hp σ, t)) rfl rfl ?_
  refine w_c0 (c' := (72, [some (aR (some (1, 0, 0))), some (aI (iZ x1)), some (aI (iZ x2)), some (aI (iZ x3)), some (aR (some (28, p4, 0)))], [aI (iZ r1)], am_hp σ1, t)) rfl rfl (rcv_of (hp_28 _ p4)) rfl c1 (Nat.le_refl _) rfl ?_
  exact w_ret rfl rfl q2

theorem b_X11_wordPart_73 {x1 : Int} {x2 : Int} {x3 : Int} {p4 : Nat} {σ : SG} {t : KT} (q1 : Q (.inr 1, am_hp σ, (t.1, t.2.1 + 1, t.2.2 + 6))) : Wp k_X11_wordPart d (73, [some (aR (some (1, 0, 0))), some (aI (iZ x1)), some (aI (iZ x2)), some (aI (iZ x3)), some (aR (some (28, p4, 0)))], [], am_hp σ, t) Q := by
  exact w_f rfl rfl q1

theorem b_X11_wordSum_0 {x1 : Int} {x2 : Int} {r2 : Int} {r3 : Int} {σ σ1 σ2 σ3 : SG} {t : KT} (c1 : Ca d 140 [aR (some (1, 0, 0)), aI (iZ x1), aI (iZ x2)] (am_hp σ) t (.inl none, am_hp σ1, t)) (h2 : 0 ≤ x1 ∧ x1 < 4) (h3 : 0 ≤ x2 ∧ x2 < 60) (c4 : Ca d 9 [aR (some (28, x1.toNat, 0)), aI (iZ x2)] (am_hp σ1) t (.inl (some (aI (iZ r2))), am_hp σ2, t)) (c5 : Ca d 48 [aR (some (8, 0, 0)), aI (iZ x1), aI (iZ (σ1.1 (30, x1.toNat, 0) x2.toNat)), aI (iZ ((σ1.1 (30, x1.toNat, 0) x2.toNat) + r2))] (am_hp σ2) t (.inl (some (aL (jZ r3))), am_hp σ3, t)) (q6 : Q (.inl (some (aL (jZ r3))), am_hp σ3, t)) : Wp k_X11_wordSum d (0, [some (aR (some (1, 0, 0))), some (aI (iZ x1)), some (aI (iZ x2)), none], [], am_hp σ, t) Q := by
  refine w_s (c' := (1, [some (aR (some (1, 0, 0))), some (aI (iZ x1)), some (aI (iZ x2)), none], [aR (some (1, 0, 0))], am_hp σ, t)) rfl rfl ?_
  refine w_s (c' := (2, [some (aR (some (1, 0, 0))), some (aI (iZ x1)), some (aI (iZ x2)), none], [aI (iZ x1), aR (some (1, 0, 0))], am_hp σ, t)) rfl rfl ?_
  refine w_s (c' := (3, [some (aR (some (1, 0, 0))), some (aI (iZ x1)), some (aI (iZ x2)), none], [aI (iZ x2), aI (iZ x1), aR (some (1, 0, 0))], am_hp σ, t)) rfl rfl ?_
  refine w_c0 (c' := (6, [some (aR (some (1, 0, 0))), some (aI (iZ x1)), some (aI (iZ x2)), none], [], am_hp σ1, t)) rfl rfl (rcv_of (hp_1 _ 0)) rfl c1 (Nat.le_refl _) rfl ?_
  refine w_s (c' := (7, [some (aR (some (1, 0, 0))), some (aI (iZ x1)), some (aI (iZ x2)), none], [aR (some (1, 0, 0))], am_hp σ1, t)) rfl rfl ?_
  refine w_get rfl (hp_1 _ 0) rfl rfl ?_
  refine w_s (c' := (11, [some (aR (some (1, 0, 0))), some (aI (iZ x1)), some (aI (iZ x2)), none], [aI (iZ x1), aR (some (17, 0, 0))], am_hp σ1, t)) rfl rfl ?_
  refine w_aal rfl (hp_17 _ 0) h2 rfl rfl ?_
  refine w_get rfl (hp_28 _ x1.toNat) rfl rfl ?_
  refine w_s (c' := (16, [some (aR (some (1, 0, 0))), some (aI (iZ x1)), some (aI (iZ x2)), none], [aI (iZ x2), aR (some (30, x1.toNat, 0))], am_hp σ1, t)) rfl rfl ?_
  refine w_ial rfl (hp_30 _ x1.toNat 0) h3 rfl rfl ?_
  refine w_s (c' := (18, [some (aR (some (1, 0, 0))), some (aI (iZ x1)), some (aI (iZ x2)), some (aI (iZ (σ1.1 (30, x1.toNat, 0) x2.toNat)))], [], am_hp σ1, t)) rfl rfl ?_
  refine w_s (c' := (19, [some (aR (some (1, 0, 0))), some (aI (iZ x1)), some (aI (iZ x2)), some (aI (iZ (σ1.1 (30, x1.toNat, 0) x2.toNat)))], [aR (some (1, 0, 0))], am_hp σ1, t)) rfl rfl ?_
  refine w_get rfl (hp_1 _ 0) rfl rfl ?_
  refine w_s (c' := (23, [some (aR (some (1, 0, 0))), some (aI (iZ x1)), some (aI (iZ x2)), some (aI (iZ (σ1.1 (30, x1.toNat, 0) x2.toNat)))], [aI (iZ x1), aR (some (8, 0, 0))], am_hp σ1, t)) rfl rfl ?_
  refine w_s (c' := (24, [some (aR (some (1, 0, 0))), some (aI (iZ x1)), some (aI (iZ x2)), some (aI (iZ (σ1.1 (30, x1.toNat, 0) x2.toNat)))], [aI (iZ (σ1.1 (30, x1.toNat, 0) x2.toNat)), aI (iZ x1), aR (some (8, 0, 0))], am_hp σ1, t)) rfl rfl ?_
  refine w_s (c' := (25, [some (aR (some (1, 0, 0))), some (aI (iZ x1)), some (aI (iZ x2)), some (aI (iZ (σ1.1 (30, x1.toNat, 0) x2.toNat)))], [aI (iZ (σ1.1 (30, x1.toNat, 0) x2.toNat)), aI (iZ (σ1.1 (30, x1.toNat, 0) x2.toNat)), aI (iZ x1), aR (some (8, 0, 0))], am_hp σ1, t)) rfl rfl ?_
  refine w_s (c' := (26, [some (aR (some (1, 0, 0))), some (aI (iZ x1)), some (aI (iZ x2)), some (aI (iZ (σ1.1 (30, x1.toNat, 0) x2.toNat)))], [aR (some (1, 0, 0)), aI (iZ (σ1.1 (30, x1.toNat, 0) x2.toNat)), aI (iZ (σ1.1 (30, x1.toNat, 0) x2.toNat)), aI (iZ x1), aR (some (8, 0, 0))], am_hp σ1, t)) rfl rfl ?_
  refine w_get rfl (hp_1 _ 0) rfl rfl ?_
  refine w_s (c' := (30, [some (aR (some (1, 0, 0))), some (aI (iZ x1)), some (aI (iZ x2)), some (aI (iZ (σ1.1 (30, x1.toNat, 0) x2.toNat)))], [aI (iZ x1), aR (some (17, 0, 0)), aI (iZ (σ1.1 (30, x1.toNat, 0) x2.toNat)), aI (iZ (σ1.1 (30, x1.toNat, 0) x2.toNat)), aI (iZ x1), aR (some (8, 0, 0))], am_hp σ1, t)) rfl rfl ?_
  refine w_aal rfl (hp_17 _ 0) h2 rfl rfl ?_
  refine w_s (c' := (32, [some (aR (some (1, 0, 0))), some (aI (iZ x1)), some (aI (iZ x2)), some (aI (iZ (σ1.1 (30, x1.toNat, 0) x2.toNat)))], [aI (iZ x2), aR (some (28, x1.toNat, 0)), aI (iZ (σ1.1 (30, x1.toNat, 0) x2.toNat)), aI (iZ (σ1.1 (30, x1.toNat, 0) x2.toNat)), aI (iZ x1), aR (some (8, 0, 0))], am_hp σ1, t)) rfl rfl ?_
  refine w_c0 (c' := (35, [some (aR (some (1, 0, 0))), some (aI (iZ x1)), some (aI (iZ x2)), some (aI (iZ (σ1.1 (30, x1.toNat, 0) x2.toNat)))], [aI (iZ r2), aI (iZ (σ1.1 (30, x1.toNat, 0) x2.toNat)), aI (iZ (σ1.1 (30, x1.toNat, 0) x2.toNat)), aI (iZ x1), aR (some (8, 0, 0))], am_hp σ2, t)) rfl rfl (rcv_of (hp_28 _ x1.toNat)) rfl c4 (Nat.le_refl _) rfl ?_
  refine w_iadd rfl rfl ?_
  refine w_c0 (c' := (39, [some (aR (some (1, 0, 0))), some (aI (iZ x1)), some (aI (iZ x2)), some (aI (iZ (σ1.1 (30, x1.toNat, 0) x2.toNat)))], [aL (jZ r3)], am_hp σ3, t)) rfl rfl (rcv_of (hp_8 _ 0)) rfl c5 (Nat.le_refl _) rfl ?_
  exact w_ret rfl rfl q6

theorem bx_X11_wordSum_0_1 {x1 : Int} {x2 : Int} {E : Nat} {σ σ1 σ2 σ3 : SG} {t t' : KT} (c1 : Ca d 140 [aR (some (1, 0, 0)), aI (iZ x1), aI (iZ x2)] (am_hp σ) t (.inr E, am_hp σ1, t')) (q2 : Q (.inr E, am_hp σ1, t')) : Wp k_X11_wordSum d (0, [some (aR (some (1, 0, 0))), some (aI (iZ x1)), some (aI (iZ x2)), none], [], am_hp σ, t) Q := by
  refine w_s (c' := (1, [some (aR (some (1, 0, 0))), some (aI (iZ x1)), some (aI (iZ x2)), none], [aR (some (1, 0, 0))], am_hp σ, t)) rfl rfl ?_
  refine w_s (c' := (2, [some (aR (some (1, 0, 0))), some (aI (iZ x1)), some (aI (iZ x2)), none], [aI (iZ x1), aR (some (1, 0, 0))], am_hp σ, t)) rfl rfl ?_
  refine w_s (c' := (3, [some (aR (some (1, 0, 0))), some (aI (iZ x1)), some (aI (iZ x2)), none], [aI (iZ x2), aI (iZ x1), aR (some (1, 0, 0))], am_hp σ, t)) rfl rfl ?_
  exact w_x rfl rfl (rcv_of (hp_1 _ 0)) rfl c1 (Nat.le_refl _) rfl q2

theorem e_X11_wordSum {x1 : Int} {x2 : Int} {h : AH} {t : KT} {d : Nat} {P : RS → Prop} (w : Wp k_X11_wordSum d (0, [some (aR (some (1, 0, 0))), some (aI (iZ x1)), some (aI (iZ x2)), none], [], h, t) P) : ∃ r, Ca (d + 1) 101 [aR (some (1, 0, 0)), aI (iZ x1), aI (iZ x2)] h t r ∧ P r := ca_W rfl rfl rfl rfl w

theorem b_X11_entryStart_0 {x1 : Int} {x2 : Int} {r2 : Int} {σ σ1 σ2 : SG} {t : KT} (c1 : Ca d 138 [aR (some (1, 0, 0)), aI (iZ x1)] (am_hp σ) t (.inl none, am_hp σ1, t)) (c2 : Ca d 156 [aR (some (1, 0, 0)), aI (iZ x1), aI (iZ x2)] (am_hp σ1) t (.inl (some (aI (iZ r2))), am_hp σ2, t)) (h3 : -2147483648 ≤ r2 ∧ r2 < 2147483648) (w4 : r2 ≠ 0 → Wp k_X11_entryStart d (16, [some (aR (some (1, 0, 0))), some (aI (iZ x1)), some (aI (iZ x2))], [], am_hp σ2, t) Q) (w5 : r2 = 0 → Wp k_X11_entryStart d (14, [some (aR (some (1, 0, 0))), some (aI (iZ x1)), some (aI (iZ x2))], [], am_hp σ2, t) Q) : Wp k_X11_entryStart d (0, [some (aR (some (1, 0, 0))), some (aI (iZ x1)), some (aI (iZ x2))], [], am_hp σ, t) Q := by
  refine w_s (c' := (1, [some (aR (some (1, 0, 0))), some (aI (iZ x1)), some (aI (iZ x2))], [aR (some (1, 0, 0))], am_hp σ, t)) rfl rfl ?_
  refine w_s (c' := (2, [some (aR (some (1, 0, 0))), some (aI (iZ x1)), some (aI (iZ x2))], [aI (iZ x1), aR (some (1, 0, 0))], am_hp σ, t)) rfl rfl ?_
  refine w_c0 (c' := (5, [some (aR (some (1, 0, 0))), some (aI (iZ x1)), some (aI (iZ x2))], [], am_hp σ1, t)) rfl rfl (rcv_of (hp_1 _ 0)) rfl c1 (Nat.le_refl _) rfl ?_
  refine w_s (c' := (6, [some (aR (some (1, 0, 0))), some (aI (iZ x1)), some (aI (iZ x2))], [aR (some (1, 0, 0))], am_hp σ1, t)) rfl rfl ?_
  refine w_s (c' := (7, [some (aR (some (1, 0, 0))), some (aI (iZ x1)), some (aI (iZ x2))], [aI (iZ x1), aR (some (1, 0, 0))], am_hp σ1, t)) rfl rfl ?_
  refine w_s (c' := (8, [some (aR (some (1, 0, 0))), some (aI (iZ x1)), some (aI (iZ x2))], [aI (iZ x2), aI (iZ x1), aR (some (1, 0, 0))], am_hp σ1, t)) rfl rfl ?_
  refine w_c0 (c' := (11, [some (aR (some (1, 0, 0))), some (aI (iZ x1)), some (aI (iZ x2))], [aI (iZ r2)], am_hp σ2, t)) rfl rfl (rcv_of (hp_1 _ 0)) rfl c2 (Nat.le_refl _) rfl ?_
  exact w_ifne rfl h3 rfl w4 w5

theorem bx_X11_entryStart_0_1 {x1 : Int} {x2 : Int} {E : Nat} {σ σ1 σ2 : SG} {t t' : KT} (c1 : Ca d 138 [aR (some (1, 0, 0)), aI (iZ x1)] (am_hp σ) t (.inr E, am_hp σ1, t')) (q2 : Q (.inr E, am_hp σ1, t')) : Wp k_X11_entryStart d (0, [some (aR (some (1, 0, 0))), some (aI (iZ x1)), some (aI (iZ x2))], [], am_hp σ, t) Q := by
  refine w_s (c' := (1, [some (aR (some (1, 0, 0))), some (aI (iZ x1)), some (aI (iZ x2))], [aR (some (1, 0, 0))], am_hp σ, t)) rfl rfl ?_
  refine w_s (c' := (2, [some (aR (some (1, 0, 0))), some (aI (iZ x1)), some (aI (iZ x2))], [aI (iZ x1), aR (some (1, 0, 0))], am_hp σ, t)) rfl rfl ?_
  exact w_x rfl rfl (rcv_of (hp_1 _ 0)) rfl c1 (Nat.le_refl _) rfl q2

theorem e_X11_entryStart {x1 : Int} {x2 : Int} {h : AH} {t : KT} {d : Nat} {P : RS → Prop} (w : Wp k_X11_entryStart d (0, [some (aR (some (1, 0, 0))), some (aI (iZ x1)), some (aI (iZ x2))], [], h, t) P) : ∃ r, Ca (d + 1) 102 [aR (some (1, 0, 0)), aI (iZ x1), aI (iZ x2)] h t r ∧ P r := ca_W rfl rfl rfl rfl w

theorem b_X11_entryStart_14 {x1 : Int} {x2 : Int} {σ : SG} {t : KT} (q1 : Q (.inl (some (aI (iZ (-1)))), am_hp σ, t)) : Wp k_X11_entryStart d (14, [some (aR (some (1, 0, 0))), some (aI (iZ x1)), some (aI (iZ x2))], [], am_hp σ, t) Q := by
  refine w_psh rfl zc_m1 rfl ?_
  exact w_ret rfl rfl q1

theorem b_X11_entryStart_16 {x1 : Int} {x2 : Int} {r1 : Int} {σ σ1 : SG} {t : KT} (h1 : 0 ≤ x1 ∧ x1 < 4) (c2 : Ca d 7 [aR (some (28, x1.toNat, 0)), aI (iZ (x2 * (σ.1 (8, 0, 0) 6)))] (am_hp σ) t (.inl (some (aI (iZ r1))), am_hp σ1, t)) (q3 : Q (.inl (some (aI (iZ r1))), am_hp σ1, t)) : Wp k_X11_entryStart d (16, [some (aR (some (1, 0, 0))), some (aI (iZ x1)), some (aI (iZ x2))], [], am_hp σ, t) Q := by
  refine w_s (c' := (17, [some (aR (some (1, 0, 0))), some (aI (iZ x1)), some (aI (iZ x2))], [aR (some (1, 0, 0))], am_hp σ, t)) rfl rfl ?_
  refine w_get rfl (hp_1 _ 0) rfl rfl ?_
  refine w_s (c' := (21, [some (aR (some (1, 0, 0))), some (aI (iZ x1)), some (aI (iZ x2))], [aI (iZ x1), aR (some (17, 0, 0))], am_hp σ, t)) rfl rfl ?_
  refine w_aal rfl (hp_17 _ 0) h1 rfl rfl ?_
  refine w_s (c' := (23, [some (aR (some (1, 0, 0))), some (aI (iZ x1)), some (aI (iZ x2))], [aI (iZ x2), aR (some (28, x1.toNat, 0))], am_hp σ, t)) rfl rfl ?_
  refine w_s (c' := (24, [some (aR (some (1, 0, 0))), some (aI (iZ x1)), some (aI (iZ x2))], [aR (some (1, 0, 0)), aI (iZ x2), aR (some (28, x1.toNat, 0))], am_hp σ, t)) rfl rfl ?_
  refine w_get rfl (hp_1 _ 0) rfl rfl ?_
  refine w_get rfl (hp_8 _ 0) rfl rfl ?_
  refine w_imul rfl rfl ?_
  refine w_c0 (c' := (34, [some (aR (some (1, 0, 0))), some (aI (iZ x1)), some (aI (iZ x2))], [aI (iZ r1)], am_hp σ1, t)) rfl rfl (rcv_of (hp_28 _ x1.toNat)) rfl c2 (Nat.le_refl _) rfl ?_
  exact w_ret rfl rfl q3

theorem b_X11_entrySum_0 {x1 : Int} {x2 : Int} {r2 : Int} {σ σ1 σ2 : SG} {t : KT} (c1 : Ca d 138 [aR (some (1, 0, 0)), aI (iZ x1)] (am_hp σ) t (.inl none, am_hp σ1, t)) (c2 : Ca d 156 [aR (some (1, 0, 0)), aI (iZ x1), aI (iZ x2)] (am_hp σ1) t (.inl (some (aI (iZ r2))), am_hp σ2, t)) (h3 : -2147483648 ≤ r2 ∧ r2 < 2147483648) (w4 : r2 ≠ 0 → Wp k_X11_entrySum d (18, [some (aR (some (1, 0, 0))), some (aI (iZ x1)), some (aI (iZ x2))], [], am_hp σ2, t) Q) (w5 : r2 = 0 → Wp k_X11_entrySum d (14, [some (aR (some (1, 0, 0))), some (aI (iZ x1)), some (aI (iZ x2))], [], am_hp σ2, t) Q) : Wp k_X11_entrySum d (0, [some (aR (some (1, 0, 0))), some (aI (iZ x1)), some (aI (iZ x2))], [], am_hp σ, t) Q := by
  refine w_s (c' := (1, [some (aR (some (1, 0, 0))), some (aI (iZ x1)), some (aI (iZ x2))], [aR (some (1, 0, 0))], am_hp σ, t)) rfl rfl ?_
  refine w_s (c' := (2, [some (aR (some (1, 0, 0))), some (aI (iZ x1)), some (aI (iZ x2))], [aI (iZ x1), aR (some (1, 0, 0))], am_hp σ, t)) rfl rfl ?_
  refine w_c0 (c' := (5, [some (aR (some (1, 0, 0))), some (aI (iZ x1)), some (aI (iZ x2))], [], am_hp σ1, t)) rfl rfl (rcv_of (hp_1 _ 0)) rfl c1 (Nat.le_refl _) rfl ?_
  refine w_s (c' := (6, [some (aR (some (1, 0, 0))), some (aI (iZ x1)), some (aI (iZ x2))], [aR (some (1, 0, 0))], am_hp σ1, t)) rfl rfl ?_
  refine w_s (c' := (7, [some (aR (some (1, 0, 0))), some (aI (iZ x1)), some (aI (iZ x2))], [aI (iZ x1), aR (some (1, 0, 0))], am_hp σ1, t)) rfl rfl ?_
  refine w_s (c' := (8, [some (aR (some (1, 0, 0))), some (aI (iZ x1)), some (aI (iZ x2))], [aI (iZ x2), aI (iZ x1), aR (some (1, 0, 0))], am_hp σ1, t)) rfl rfl ?_
  refine w_c0 (c' := (11, [some (aR (some (1, 0, 0))), some (aI (iZ x1)), some (aI (iZ x2))], [aI (iZ r2)], am_hp σ2, t)) rfl rfl (rcv_of (hp_1 _ 0)) rfl c2 (Nat.le_refl _) rfl ?_
  exact w_ifne rfl h3 rfl w4 w5

theorem bx_X11_entrySum_0_1 {x1 : Int} {x2 : Int} {E : Nat} {σ σ1 σ2 : SG} {t t' : KT} (c1 : Ca d 138 [aR (some (1, 0, 0)), aI (iZ x1)] (am_hp σ) t (.inr E, am_hp σ1, t')) (q2 : Q (.inr E, am_hp σ1, t')) : Wp k_X11_entrySum d (0, [some (aR (some (1, 0, 0))), some (aI (iZ x1)), some (aI (iZ x2))], [], am_hp σ, t) Q := by
  refine w_s (c' := (1, [some (aR (some (1, 0, 0))), some (aI (iZ x1)), some (aI (iZ x2))], [aR (some (1, 0, 0))], am_hp σ, t)) rfl rfl ?_
  refine w_s (c' := (2, [some (aR (some (1, 0, 0))), some (aI (iZ x1)), some (aI (iZ x2))], [aI (iZ x1), aR (some (1, 0, 0))], am_hp σ, t)) rfl rfl ?_
  exact w_x rfl rfl (rcv_of (hp_1 _ 0)) rfl c1 (Nat.le_refl _) rfl q2

theorem e_X11_entrySum {x1 : Int} {x2 : Int} {h : AH} {t : KT} {d : Nat} {P : RS → Prop} (w : Wp k_X11_entrySum d (0, [some (aR (some (1, 0, 0))), some (aI (iZ x1)), some (aI (iZ x2))], [], h, t) P) : ∃ r, Ca (d + 1) 103 [aR (some (1, 0, 0)), aI (iZ x1), aI (iZ x2)] h t r ∧ P r := ca_W rfl rfl rfl rfl w

theorem b_X11_entrySum_14 {x1 : Int} {x2 : Int} {σ : SG} {t : KT} (q1 : Q (.inl (some (aL (jZ (-1)))), am_hp σ, t)) : Wp k_X11_entrySum d (14, [some (aR (some (1, 0, 0))), some (aI (iZ x1)), some (aI (iZ x2))], [], am_hp σ, t) Q := by
  refine w_psL rfl yc_m1 rfl ?_
  exact w_ret rfl rfl q1

theorem b_X11_entrySum_18 {x1 : Int} {x2 : Int} {r1 : Int} {r2 : Int} {σ σ1 σ2 : SG} {t : KT} (h1 : 0 ≤ x1 ∧ x1 < 4) (c2 : Ca d 7 [aR (some (28, x1.toNat, 0)), aI (iZ (x2 * (σ.1 (8, 0, 0) 6)))] (am_hp σ) t (.inl (some (aI (iZ r1))), am_hp σ1, t)) (c3 : Ca d 48 [aR (some (8, 0, 0)), aI (iZ x1), aI (iZ 0), aI (iZ r1)] (am_hp σ1) t (.inl (some (aL (jZ r2))), am_hp σ2, t)) (q4 : Q (.inl (some (aL (jZ r2))), am_hp σ2, t)) : Wp k_X11_entrySum d (18, [some (aR (some (1, 0, 0))), some (aI (iZ x1)), some (aI (iZ x2))], [], am_hp σ, t) Q := by
  refine w_s (c' := (19, [some (aR (some (1, 0, 0))), some (aI (iZ x1)), some (aI (iZ x2))], [aR (some (1, 0, 0))], am_hp σ, t)) rfl rfl ?_
  refine w_get rfl (hp_1 _ 0) rfl rfl ?_
  refine w_s (c' := (23, [some (aR (some (1, 0, 0))), some (aI (iZ x1)), some (aI (iZ x2))], [aI (iZ x1), aR (some (8, 0, 0))], am_hp σ, t)) rfl rfl ?_
  refine w_psh rfl zc_0 rfl ?_
  refine w_s (c' := (25, [some (aR (some (1, 0, 0))), some (aI (iZ x1)), some (aI (iZ x2))], [aR (some (1, 0, 0)), aI (iZ 0), aI (iZ x1), aR (some (8, 0, 0))], am_hp σ, t)) rfl rfl ?_
  refine w_get rfl (hp_1 _ 0) rfl rfl ?_
  refine w_s (c' := (29, [some (aR (some (1, 0, 0))), some (aI (iZ x1)), some (aI (iZ x2))], [aI (iZ x1), aR (some (17, 0, 0)), aI (iZ 0), aI (iZ x1), aR (some (8, 0, 0))], am_hp σ, t)) rfl rfl ?_
  refine w_aal rfl (hp_17 _ 0) h1 rfl rfl ?_
  refine w_s (c' := (31, [some (aR (some (1, 0, 0))), some (aI (iZ x1)), some (aI (iZ x2))], [aI (iZ x2), aR (some (28, x1.toNat, 0)), aI (iZ 0), aI (iZ x1), aR (some (8, 0, 0))], am_hp σ, t)) rfl rfl ?_
  refine w_s (c' := (32, [some (aR (some (1, 0, 0))), some (aI (iZ x1)), some (aI (iZ x2))], [aR (some (1, 0, 0)), aI (iZ x2), aR (some (28, x1.toNat, 0)), aI (iZ 0), aI (iZ x1), aR (some (8, 0, 0))], am_hp σ, t)) rfl rfl ?_
  refine w_get rfl (hp_1 _ 0) rfl rfl ?_
  refine w_get rfl (hp_8 _ 0) rfl rfl ?_
  refine w_imul rfl rfl ?_
  refine w_c0 (c' := (42, [some (aR (some (1, 0, 0))), some (aI (iZ x1)), some (aI (iZ x2))], [aI (iZ r1), aI (iZ 0), aI (iZ x1), aR (some (8, 0, 0))], am_hp σ1, t)) rfl rfl (rcv_of (hp_28 _ x1.toNat)) rfl c2 (Nat.le_refl _) rfl ?_
  refine w_c0 (c' := (45, [some (aR (some (1, 0, 0))), some (aI (iZ x1)), some (aI (iZ x2))], [aL (jZ r2)], am_hp σ2, t)) rfl rfl (rcv_of (hp_8 _ 0)) rfl c3 (Nat.le_refl _) rfl ?_
  exact w_ret rfl rfl q4

theorem b_X11_why_0 {x1 : Int} {x2 : Int} {x3 : Int} {r3 : Int} {σ σ1 σ2 σ3 : SG} {t : KT} (c1 : Ca d 140 [aR (some (1, 0, 0)), aI (iZ x1), aI (iZ x2)] (am_hp σ) t (.inl none, am_hp σ1, t)) (c2 : Ca d 141 [aI (iZ x3)] (am_hp σ1) t (.inl none, am_hp σ2, t)) (h3 : 0 ≤ x1 ∧ x1 < 4) (c4 : Ca d 8 [aR (some (28, x1.toNat, 0)), aI (iZ x2)] (am_hp σ2) t (.inl (some (aI (iZ r3))), am_hp σ3, t)) (h5 : -2147483648 ≤ r3 ∧ r3 < 2147483648) (h6 : -2147483648 ≤ x3 ∧ x3 < 2147483648) (w7 : r3 ≠ x3 → Wp k_X11_why d (26, [some (aR (some (1, 0, 0))), some (aI (iZ x1)), some (aI (iZ x2)), some (aI (iZ x3))], [], am_hp σ3, t) Q) (w8 : r3 = x3 → Wp k_X11_why d (24, [some (aR (some (1, 0, 0))), some (aI (iZ x1)), some (aI (iZ x2)), some (aI (iZ x3))], [], am_hp σ3, t) Q) : Wp k_X11_why d (0, [some (aR (some (1, 0, 0))), some (aI (iZ x1)), some (aI (iZ x2)), some (aI (iZ x3))], [], am_hp σ, t) Q := by
  refine w_s (c' := (1, [some (aR (some (1, 0, 0))), some (aI (iZ x1)), some (aI (iZ x2)), some (aI (iZ x3))], [aR (some (1, 0, 0))], am_hp σ, t)) rfl rfl ?_
  refine w_s (c' := (2, [some (aR (some (1, 0, 0))), some (aI (iZ x1)), some (aI (iZ x2)), some (aI (iZ x3))], [aI (iZ x1), aR (some (1, 0, 0))], am_hp σ, t)) rfl rfl ?_
  refine w_s (c' := (3, [some (aR (some (1, 0, 0))), some (aI (iZ x1)), some (aI (iZ x2)), some (aI (iZ x3))], [aI (iZ x2), aI (iZ x1), aR (some (1, 0, 0))], am_hp σ, t)) rfl rfl ?_
  refine w_c0 (c' := (6, [some (aR (some (1, 0, 0))), some (aI (iZ x1)), some (aI (iZ x2)), some (aI (iZ x3))], [], am_hp σ1, t)) rfl rfl (rcv_of (hp_1 _ 0)) rfl c1 (Nat.le_refl _) rfl ?_
  refine w_s (c' := (7, [some (aR (some (1, 0, 0))), some (aI (iZ x1)), some (aI (iZ x2)), some (aI (iZ x3))], [aI (iZ x3)], am_hp σ1, t)) rfl rfl ?_
  refine w_c0 (c' := (10, [some (aR (some (1, 0, 0))), some (aI (iZ x1)), some (aI (iZ x2)), some (aI (iZ x3))], [], am_hp σ2, t)) rfl rfl rfl rfl c2 (Nat.le_refl _) rfl ?_
  refine w_s (c' := (11, [some (aR (some (1, 0, 0))), some (aI (iZ x1)), some (aI (iZ x2)), some (aI (iZ x3))], [aR (some (1, 0, 0))], am_hp σ2, t)) rfl rfl ?_
  refine w_get rfl (hp_1 _ 0) rfl rfl ?_
  refine w_s (c' := (15, [some (aR (some (1, 0, 0))), some (aI (iZ x1)), some (aI (iZ x2)), some (aI (iZ x3))], [aI (iZ x1), aR (some (17, 0, 0))], am_hp σ2, t)) rfl rfl ?_
  refine w_aal rfl (hp_17 _ 0) h3 rfl rfl ?_
  refine w_s (c' := (17, [some (aR (some (1, 0, 0))), some (aI (iZ x1)), some (aI (iZ x2)), some (aI (iZ x3))], [aI (iZ x2), aR (some (28, x1.toNat, 0))], am_hp σ2, t)) rfl rfl ?_
  refine w_c0 (c' := (20, [some (aR (some (1, 0, 0))), some (aI (iZ x1)), some (aI (iZ x2)), some (aI (iZ x3))], [aI (iZ r3)], am_hp σ3, t)) rfl rfl (rcv_of (hp_28 _ x1.toNat)) rfl c4 (Nat.le_refl _) rfl ?_
  refine w_s (c' := (21, [some (aR (some (1, 0, 0))), some (aI (iZ x1)), some (aI (iZ x2)), some (aI (iZ x3))], [aI (iZ x3), aI (iZ r3)], am_hp σ3, t)) rfl rfl ?_
  exact w_icne rfl h5 h6 rfl w7 w8

theorem bx_X11_why_0_1 {x1 : Int} {x2 : Int} {x3 : Int} {E : Nat} {σ σ1 σ2 σ3 : SG} {t t' : KT} (c1 : Ca d 140 [aR (some (1, 0, 0)), aI (iZ x1), aI (iZ x2)] (am_hp σ) t (.inr E, am_hp σ1, t')) (q2 : Q (.inr E, am_hp σ1, t')) : Wp k_X11_why d (0, [some (aR (some (1, 0, 0))), some (aI (iZ x1)), some (aI (iZ x2)), some (aI (iZ x3))], [], am_hp σ, t) Q := by
  refine w_s (c' := (1, [some (aR (some (1, 0, 0))), some (aI (iZ x1)), some (aI (iZ x2)), some (aI (iZ x3))], [aR (some (1, 0, 0))], am_hp σ, t)) rfl rfl ?_
  refine w_s (c' := (2, [some (aR (some (1, 0, 0))), some (aI (iZ x1)), some (aI (iZ x2)), some (aI (iZ x3))], [aI (iZ x1), aR (some (1, 0, 0))], am_hp σ, t)) rfl rfl ?_
  refine w_s (c' := (3, [some (aR (some (1, 0, 0))), some (aI (iZ x1)), some (aI (iZ x2)), some (aI (iZ x3))], [aI (iZ x2), aI (iZ x1), aR (some (1, 0, 0))], am_hp σ, t)) rfl rfl ?_
  exact w_x rfl rfl (rcv_of (hp_1 _ 0)) rfl c1 (Nat.le_refl _) rfl q2

theorem bx_X11_why_0_2 {x1 : Int} {x2 : Int} {x3 : Int} {E : Nat} {σ σ1 σ2 σ3 : SG} {t t' : KT} (c1 : Ca d 140 [aR (some (1, 0, 0)), aI (iZ x1), aI (iZ x2)] (am_hp σ) t (.inl none, am_hp σ1, t)) (c2 : Ca d 141 [aI (iZ x3)] (am_hp σ1) t (.inr E, am_hp σ2, t')) (q3 : Q (.inr E, am_hp σ2, t')) : Wp k_X11_why d (0, [some (aR (some (1, 0, 0))), some (aI (iZ x1)), some (aI (iZ x2)), some (aI (iZ x3))], [], am_hp σ, t) Q := by
  refine w_s (c' := (1, [some (aR (some (1, 0, 0))), some (aI (iZ x1)), some (aI (iZ x2)), some (aI (iZ x3))], [aR (some (1, 0, 0))], am_hp σ, t)) rfl rfl ?_
  refine w_s (c' := (2, [some (aR (some (1, 0, 0))), some (aI (iZ x1)), some (aI (iZ x2)), some (aI (iZ x3))], [aI (iZ x1), aR (some (1, 0, 0))], am_hp σ, t)) rfl rfl ?_
  refine w_s (c' := (3, [some (aR (some (1, 0, 0))), some (aI (iZ x1)), some (aI (iZ x2)), some (aI (iZ x3))], [aI (iZ x2), aI (iZ x1), aR (some (1, 0, 0))], am_hp σ, t)) rfl rfl ?_
  refine w_c0 (c' := (6, [some (aR (some (1, 0, 0))), some (aI (iZ x1)), some (aI (iZ x2)), some (aI (iZ x3))], [], am_hp σ1, t)) rfl rfl (rcv_of (hp_1 _ 0)) rfl c1 (Nat.le_refl _) rfl ?_
  refine w_s (c' := (7, [some (aR (some (1, 0, 0))), some (aI (iZ x1)), some (aI (iZ x2)), some (aI (iZ x3))], [aI (iZ x3)], am_hp σ1, t)) rfl rfl ?_
  exact w_x rfl rfl rfl rfl c2 (Nat.le_refl _) rfl q3

theorem e_X11_why {x1 : Int} {x2 : Int} {x3 : Int} {h : AH} {t : KT} {d : Nat} {P : RS → Prop} (w : Wp k_X11_why d (0, [some (aR (some (1, 0, 0))), some (aI (iZ x1)), some (aI (iZ x2)), some (aI (iZ x3))], [], h, t) P) : ∃ r, Ca (d + 1) 104 [aR (some (1, 0, 0)), aI (iZ x1), aI (iZ x2), aI (iZ x3)] h t r ∧ P r := ca_W rfl rfl rfl rfl w

theorem b_X11_why_24 {x1 : Int} {x2 : Int} {x3 : Int} {σ : SG} {t : KT} (q1 : Q (.inl (some (aI (iZ 0))), am_hp σ, t)) : Wp k_X11_why d (24, [some (aR (some (1, 0, 0))), some (aI (iZ x1)), some (aI (iZ x2)), some (aI (iZ x3))], [], am_hp σ, t) Q := by
  refine w_psh rfl zc_0 rfl ?_
  exact w_ret rfl rfl q1

theorem b_X11_why_26 {x1 : Int} {x2 : Int} {x3 : Int} {r3 : Int} {σ σ1 σ2 σ3 : SG} {t : KT} (c1 : Ca d 22 [aR (some (18, 0, 0)), aR (some (8, 0, 0)), aI (iZ x1)] (am_hp σ) t (.inl none, am_hp σ1, t)) (c2 : Ca d 26 [aR (some (18, 0, 0))] (am_hp σ1) t (.inl none, am_hp σ2, t)) (h3 : 0 ≤ x1 ∧ x1 < 4) (h4 : 0 ≤ x2 ∧ x2 < 60) (c5 : Ca d 27 [aR (some (18, 0, 0)), aI (iZ (σ2.1 (30, x1.toNat, 0) x2.toNat)), aI (iZ x3)] (am_hp σ2) t (.inl (some (aI (iZ r3))), am_hp σ3, t)) (h6 : -2147483648 ≤ r3 ∧ r3 < 2147483648) (w7 : r3 = 0 → Wp k_X11_why d (71, [some (aR (some (1, 0, 0))), some (aI (iZ x1)), some (aI (iZ x2)), some (aI (iZ x3))], [], am_hp σ3, t) Q) (w8 : r3 ≠ 0 → Wp k_X11_why d (67, [some (aR (some (1, 0, 0))), some (aI (iZ x1)), some (aI (iZ x2)), some (aI (iZ x3))], [], am_hp σ3, t) Q) : Wp k_X11_why d (26, [some (aR (some (1, 0, 0))), some (aI (iZ x1)), some (aI (iZ x2)), some (aI (iZ x3))], [], am_hp σ, t) Q := by
  refine w_s (c' := (27, [some (aR (some (1, 0, 0))), some (aI (iZ x1)), some (aI (iZ x2)), some (aI (iZ x3))], [aR (some (1, 0, 0))], am_hp σ, t)) rfl rfl ?_
  refine w_get rfl (hp_1 _ 0) rfl rfl ?_
  refine w_s (c' := (31, [some (aR (some (1, 0, 0))), some (aI (iZ x1)), some (aI (iZ x2)), some (aI (iZ x3))], [aR (some (1, 0, 0)), aR (some (18, 0, 0))], am_hp σ, t)) rfl rfl ?_
  refine w_get rfl (hp_1 _ 0) rfl rfl ?_
  refine w_s (c' := (35, [some (aR (some (1, 0, 0))), some (aI (iZ x1)), some (aI (iZ x2)), some (aI (iZ x3))], [aI (iZ x1), aR (some (8, 0, 0)), aR (some (18, 0, 0))], am_hp σ, t)) rfl rfl ?_
  refine w_c0 (c' := (38, [some (aR (some (1, 0, 0))), some (aI (iZ x1)), some (aI (iZ x2)), some (aI (iZ x3))], [], am_hp σ1, t)) rfl rfl (rcv_of (hp_18 _ 0)) rfl c1 (Nat.le_refl _) rfl ?_
  refine w_s (c' := (39, [some (aR (some (1, 0, 0))), some (aI (iZ x1)), some (aI (iZ x2)), some (aI (iZ x3))], [aR (some (1, 0, 0))], am_hp σ1, t)) rfl rfl ?_
  refine w_get rfl (hp_1 _ 0) rfl rfl ?_
  refine w_c0 (c' := (45, [some (aR (some (1, 0, 0))), some (aI (iZ x1)), some (aI (iZ x2)), some (aI (iZ x3))], [], am_hp σ2, t)) rfl rfl (rcv_of (hp_18 _ 0)) rfl c2 (Nat.le_refl _) rfl ?_
  refine w_s (c' := (46, [some (aR (some (1, 0, 0))), some (aI (iZ x1)), some (aI (iZ x2)), some (aI (iZ x3))], [aR (some (1, 0, 0))], am_hp σ2, t)) rfl rfl ?_
  refine w_get rfl (hp_1 _ 0) rfl rfl ?_
  refine w_s (c' := (50, [some (aR (some (1, 0, 0))), some (aI (iZ x1)), some (aI (iZ x2)), some (aI (iZ x3))], [aR (some (1, 0, 0)), aR (some (18, 0, 0))], am_hp σ2, t)) rfl rfl ?_
  refine w_get rfl (hp_1 _ 0) rfl rfl ?_
  refine w_s (c' := (54, [some (aR (some (1, 0, 0))), some (aI (iZ x1)), some (aI (iZ x2)), some (aI (iZ x3))], [aI (iZ x1), aR (some (17, 0, 0)), aR (some (18, 0, 0))], am_hp σ2, t)) rfl rfl ?_
  refine w_aal rfl (hp_17 _ 0) h3 rfl rfl ?_
  refine w_get rfl (hp_28 _ x1.toNat) rfl rfl ?_
  refine w_s (c' := (59, [some (aR (some (1, 0, 0))), some (aI (iZ x1)), some (aI (iZ x2)), some (aI (iZ x3))], [aI (iZ x2), aR (some (30, x1.toNat, 0)), aR (some (18, 0, 0))], am_hp σ2, t)) rfl rfl ?_
  refine w_ial rfl (hp_30 _ x1.toNat 0) h4 rfl rfl ?_
  refine w_s (c' := (61, [some (aR (some (1, 0, 0))), some (aI (iZ x1)), some (aI (iZ x2)), some (aI (iZ x3))], [aI (iZ x3), aI (iZ (σ2.1 (30, x1.toNat, 0) x2.toNat)), aR (some (18, 0, 0))], am_hp σ2, t)) rfl rfl ?_
  refine w_c0 (c' := (64, [some (aR (some (1, 0, 0))), some (aI (iZ x1)), some (aI (iZ x2)), some (aI (iZ x3))], [aI (iZ r3)], am_hp σ3, t)) rfl rfl (rcv_of (hp_18 _ 0)) rfl c5 (Nat.le_refl _) rfl ?_
  exact w_ifeq rfl h6 rfl w7 w8

theorem b_X11_why_67 {x1 : Int} {x2 : Int} {x3 : Int} {σ : SG} {t : KT} (w1 : Wp k_X11_why d (72, [some (aR (some (1, 0, 0))), some (aI (iZ x1)), some (aI (iZ x2)), some (aI (iZ x3))], [aI (iZ 2)], am_hp σ, t) Q) : Wp k_X11_why d (67, [some (aR (some (1, 0, 0))), some (aI (iZ x1)), some (aI (iZ x2)), some (aI (iZ x3))], [], am_hp σ, t) Q := by
  refine w_psh rfl zc_2 rfl ?_
  refine w_s (c' := (72, [some (aR (some (1, 0, 0))), some (aI (iZ x1)), some (aI (iZ x2)), some (aI (iZ x3))], [aI (iZ 2)], am_hp σ, t)) rfl rfl ?_
  exact w1

theorem b_X11_why_71 {x1 : Int} {x2 : Int} {x3 : Int} {σ : SG} {t : KT} (w1 : Wp k_X11_why d (72, [some (aR (some (1, 0, 0))), some (aI (iZ x1)), some (aI (iZ x2)), some (aI (iZ x3))], [aI (iZ 1)], am_hp σ, t) Q) : Wp k_X11_why d (71, [some (aR (some (1, 0, 0))), some (aI (iZ x1)), some (aI (iZ x2)), some (aI (iZ x3))], [], am_hp σ, t) Q := by
  refine w_psh rfl zc_1 rfl ?_
  exact w1

theorem b_X11_why_72 {x1 : Int} {x2 : Int} {x3 : Int} {xs0 : Int} {σ : SG} {t : KT} (q1 : Q (.inl (some (aI (iZ xs0))), am_hp σ, t)) : Wp k_X11_why d (72, [some (aR (some (1, 0, 0))), some (aI (iZ x1)), some (aI (iZ x2)), some (aI (iZ x3))], [aI (iZ xs0)], am_hp σ, t) Q := by
  exact w_ret rfl rfl q1
end PCS
