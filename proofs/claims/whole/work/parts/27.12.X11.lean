/-! PIECES: X11 -/
set_option maxRecDepth 4000
section PCS
variable {d : Nat} {Q : RS → Prop}
theorem b_X11_refusal_0 {σ : SG} {t : KT} (q1 : Q (.inl (some (aI (iZ (σ.1 (1, 0, 0) 11)))), am_hp σ, t)) : Wp k_X11_refusal d (0, [some (aR (some (1, 0, 0)))], [], am_hp σ, t) Q := by
  refine w_s (c' := (1, [some (aR (some (1, 0, 0)))], [aR (some (1, 0, 0))], am_hp σ, t)) rfl rfl ?_
  refine w_get rfl (hp_1 _ 0) rfl rfl ?_
  exact w_ret rfl rfl q1

theorem e_X11_refusal {h : AH} {t : KT} {d : Nat} {P : RS → Prop} (w : Wp k_X11_refusal d (0, [some (aR (some (1, 0, 0)))], [], h, t) P) : ∃ r, Ca (d + 1) 131 [aR (some (1, 0, 0))] h t r ∧ P r := ca_W rfl rfl rfl rfl w

theorem b_X11_account_0 {x1 : Int} {σ σ1 : SG} {t : KT} (c1 : Ca d 142 [aI (iZ x1), aI (iZ 0), aI (iZ 3)] (am_hp σ) t (.inl none, am_hp σ1, t)) (h2 : 0 ≤ x1 ∧ x1 < 4) (q3 : Q (.inl (some (aI (iZ (σ1.1 (27, 0, 0) x1.toNat)))), am_hp σ1, t)) : Wp k_X11_account d (0, [some (aR (some (1, 0, 0))), some (aI (iZ x1))], [], am_hp σ, t) Q := by
  refine w_s (c' := (1, [some (aR (some (1, 0, 0))), some (aI (iZ x1))], [aI (iZ x1)], am_hp σ, t)) rfl rfl ?_
  refine w_psh rfl zc_0 rfl ?_
  refine w_psh rfl zc_3 rfl ?_
  refine w_c0 (c' := (6, [some (aR (some (1, 0, 0))), some (aI (iZ x1))], [], am_hp σ1, t)) rfl rfl rfl rfl c1 (Nat.le_refl _) rfl ?_
  refine w_s (c' := (7, [some (aR (some (1, 0, 0))), some (aI (iZ x1))], [aR (some (1, 0, 0))], am_hp σ1, t)) rfl rfl ?_
  refine w_get rfl (hp_1 _ 0) rfl rfl ?_
  refine w_s (c' := (11, [some (aR (some (1, 0, 0))), some (aI (iZ x1))], [aI (iZ x1), aR (some (27, 0, 0))], am_hp σ1, t)) rfl rfl ?_
  refine w_ial rfl (hp_27 _ 0 0) h2 rfl rfl ?_
  exact w_ret rfl rfl q3

theorem bx_X11_account_0_1 {x1 : Int} {E : Nat} {σ σ1 : SG} {t t' : KT} (c1 : Ca d 142 [aI (iZ x1), aI (iZ 0), aI (iZ 3)] (am_hp σ) t (.inr E, am_hp σ1, t')) (q2 : Q (.inr E, am_hp σ1, t')) : Wp k_X11_account d (0, [some (aR (some (1, 0, 0))), some (aI (iZ x1))], [], am_hp σ, t) Q := by
  refine w_s (c' := (1, [some (aR (some (1, 0, 0))), some (aI (iZ x1))], [aI (iZ x1)], am_hp σ, t)) rfl rfl ?_
  refine w_psh rfl zc_0 rfl ?_
  refine w_psh rfl zc_3 rfl ?_
  exact w_x rfl rfl rfl rfl c1 (Nat.le_refl _) rfl q2

theorem e_X11_account {x1 : Int} {h : AH} {t : KT} {d : Nat} {P : RS → Prop} (w : Wp k_X11_account d (0, [some (aR (some (1, 0, 0))), some (aI (iZ x1))], [], h, t) P) : ∃ r, Ca (d + 1) 132 [aR (some (1, 0, 0)), aI (iZ x1)] h t r ∧ P r := ca_W rfl rfl rfl rfl w

theorem b_X11_undo_0 {r1 : Int} {σ σ1 : SG} {t : KT} (c1 : Ca d 4 [aR (some (15, 0, 0)), aR (some (8, 0, 0))] (am_hp σ) t (.inl (some (aI (iZ r1))), am_hp σ1, t)) (h2 : -2147483648 ≤ r1 ∧ r1 < 2147483648) (w3 : r1 ≠ 0 → Wp k_X11_undo d (16, [some (aR (some (1, 0, 0)))], [], am_hp σ1, t) Q) (w4 : r1 = 0 → Wp k_X11_undo d (14, [some (aR (some (1, 0, 0)))], [], am_hp σ1, t) Q) : Wp k_X11_undo d (0, [some (aR (some (1, 0, 0)))], [], am_hp σ, t) Q := by
  refine w_s (c' := (1, [some (aR (some (1, 0, 0)))], [aR (some (1, 0, 0))], am_hp σ, t)) rfl rfl ?_
  refine w_get rfl (hp_1 _ 0) rfl rfl ?_
  refine w_s (c' := (5, [some (aR (some (1, 0, 0)))], [aR (some (1, 0, 0)), aR (some (15, 0, 0))], am_hp σ, t)) rfl rfl ?_
  refine w_get rfl (hp_1 _ 0) rfl rfl ?_
  refine w_c0 (c' := (11, [some (aR (some (1, 0, 0)))], [aI (iZ r1)], am_hp σ1, t)) rfl rfl (rcv_of (hp_15 _ 0)) rfl c1 (Nat.le_refl _) rfl ?_
  exact w_ifne rfl h2 rfl w3 w4

theorem e_X11_undo {h : AH} {t : KT} {d : Nat} {P : RS → Prop} (w : Wp k_X11_undo d (0, [some (aR (some (1, 0, 0)))], [], h, t) P) : ∃ r, Ca (d + 1) 133 [aR (some (1, 0, 0))] h t r ∧ P r := ca_W rfl rfl rfl rfl w

theorem b_X11_undo_14 {σ : SG} {t : KT} (q1 : Q (.inl (some (aI (iZ (-1)))), am_hp σ, t)) : Wp k_X11_undo d (14, [some (aR (some (1, 0, 0)))], [], am_hp σ, t) Q := by
  refine w_psh rfl zc_m1 rfl ?_
  exact w_ret rfl rfl q1

theorem b_X11_undo_16 {σ σ1 : SG} {t : KT} (c1 : Ca d 151 [aR (some (1, 0, 0))] (am_hp ((sI σ (27, 0, 0) (up (σ.1 (27, 0, 0)) (2 : Int).toNat ((σ.1 (27, 0, 0) 2) + 1))))) t (.inl none, am_hp σ1, t)) (q2 : Q (.inl (some (aI (iZ (σ1.1 (15, 0, 0) 2)))), am_hp σ1, t)) : Wp k_X11_undo d (16, [some (aR (some (1, 0, 0)))], [], am_hp σ, t) Q := by
  refine w_s (c' := (17, [some (aR (some (1, 0, 0)))], [aR (some (1, 0, 0))], am_hp σ, t)) rfl rfl ?_
  refine w_get rfl (hp_1 _ 0) rfl rfl ?_
  refine w_psh rfl zc_2 rfl ?_
  refine w_s (c' := (22, [some (aR (some (1, 0, 0)))], [aI (iZ 2), aR (some (27, 0, 0)), aI (iZ 2), aR (some (27, 0, 0))], am_hp σ, t)) rfl rfl ?_
  refine w_ial rfl (hp_27 _ 0 0) (by decide) rfl rfl ?_
  refine w_e (c' := (23, [some (aR (some (1, 0, 0)))], [aI (iZ (σ.1 (27, 0, 0) 2)), aI (iZ 2), aR (some (27, 0, 0))], am_hp σ, t)) rfl ?_
  refine w_psh rfl zc_1 rfl ?_
  refine w_iadd rfl rfl ?_
  refine w_ias rfl (mk_27 _ 0 0) (by decide) rfl rfl rfl ?_
  refine w_s (c' := (27, [some (aR (some (1, 0, 0)))], [aR (some (1, 0, 0))], am_hp ((sI σ (27, 0, 0) (up (σ.1 (27, 0, 0)) (2 : Int).toNat ((σ.1 (27, 0, 0) 2) + 1)))), t)) rfl rfl ?_
  refine w_c0 (c' := (30, [some (aR (some (1, 0, 0)))], [], am_hp σ1, t)) rfl rfl (rcv_of (hp_1 _ 0)) rfl c1 (Nat.le_refl _) rfl ?_
  refine w_s (c' := (31, [some (aR (some (1, 0, 0)))], [aR (some (1, 0, 0))], am_hp σ1, t)) rfl rfl ?_
  refine w_get rfl (hp_1 _ 0) rfl rfl ?_
  refine w_get rfl (hp_15 _ 0) rfl rfl ?_
  exact w_ret rfl rfl q2

theorem b_X11_report_0 {x1 : Int} {σ σ1 σ2 σ3 : SG} {t : KT} (c1 : Ca d 138 [aR (some (1, 0, 0)), aI (iZ x1)] (am_hp σ) t (.inl none, am_hp σ1, t)) (h2 : 0 ≤ x1 ∧ x1 < 4) (c3 : Ca d 37 [aR (some (25, 0, 0)), aL (jZ (((sI σ1 (25, 0, 0) (up (σ1.1 (25, 0, 0)) 1 0))).2.1 (9, 0, 0) x1.toNat))] (am_hp ((sI σ1 (25, 0, 0) (up (σ1.1 (25, 0, 0)) 1 0)))) t (.inl none, am_hp σ2, t)) (c4 : Ca d 36 [aR (some (25, 0, 0)), aI (iZ 58)] (am_hp σ2) t (.inl none, am_hp σ3, t)) (w5 : Wp k_X11_report d (40, [some (aR (some (1, 0, 0))), some (aI (iZ x1)), some (aI (iZ 0))], [], am_hp σ3, t) Q) : Wp k_X11_report d (0, [some (aR (some (1, 0, 0))), some (aI (iZ x1)), none], [], am_hp σ, t) Q := by
  refine w_s (c' := (1, [some (aR (some (1, 0, 0))), some (aI (iZ x1)), none], [aR (some (1, 0, 0))], am_hp σ, t)) rfl rfl ?_
  refine w_s (c' := (2, [some (aR (some (1, 0, 0))), some (aI (iZ x1)), none], [aI (iZ x1), aR (some (1, 0, 0))], am_hp σ, t)) rfl rfl ?_
  refine w_c0 (c' := (5, [some (aR (some (1, 0, 0))), some (aI (iZ x1)), none], [], am_hp σ1, t)) rfl rfl (rcv_of (hp_1 _ 0)) rfl c1 (Nat.le_refl _) rfl ?_
  refine w_s (c' := (6, [some (aR (some (1, 0, 0))), some (aI (iZ x1)), none], [aR (some (1, 0, 0))], am_hp σ1, t)) rfl rfl ?_
  refine w_get rfl (hp_1 _ 0) rfl rfl ?_
  refine w_psh rfl zc_0 rfl ?_
  refine w_putI rfl (hp_25 _ 0) rfl rfl rfl ?_
  refine w_s (c' := (14, [some (aR (some (1, 0, 0))), some (aI (iZ x1)), none], [aR (some (1, 0, 0))], am_hp ((sI σ1 (25, 0, 0) (up (σ1.1 (25, 0, 0)) 1 0))), t)) rfl rfl ?_
  refine w_get rfl (hp_1 _ 0) rfl rfl ?_
  refine w_s (c' := (18, [some (aR (some (1, 0, 0))), some (aI (iZ x1)), none], [aR (some (1, 0, 0)), aR (some (25, 0, 0))], am_hp ((sI σ1 (25, 0, 0) (up (σ1.1 (25, 0, 0)) 1 0))), t)) rfl rfl ?_
  refine w_get rfl (hp_1 _ 0) rfl rfl ?_
  refine w_get rfl (hp_8 _ 0) rfl rfl ?_
  refine w_s (c' := (25, [some (aR (some (1, 0, 0))), some (aI (iZ x1)), none], [aI (iZ x1), aR (some (9, 0, 0)), aR (some (25, 0, 0))], am_hp ((sI σ1 (25, 0, 0) (up (σ1.1 (25, 0, 0)) 1 0))), t)) rfl rfl ?_
  refine w_lal rfl (hp_9 _ 0 0) h2 rfl rfl ?_
  refine w_c0 (c' := (29, [some (aR (some (1, 0, 0))), some (aI (iZ x1)), none], [], am_hp σ2, t)) rfl rfl (rcv_of (hp_25 _ 0)) rfl c3 (Nat.le_refl _) rfl ?_
  refine w_s (c' := (30, [some (aR (some (1, 0, 0))), some (aI (iZ x1)), none], [aR (some (1, 0, 0))], am_hp σ2, t)) rfl rfl ?_
  refine w_get rfl (hp_1 _ 0) rfl rfl ?_
  refine w_psh rfl zc_58 rfl ?_
  refine w_c0 (c' := (38, [some (aR (some (1, 0, 0))), some (aI (iZ x1)), none], [], am_hp σ3, t)) rfl rfl (rcv_of (hp_25 _ 0)) rfl c4 (Nat.le_refl _) rfl ?_
  refine w_psh rfl zc_0 rfl ?_
  refine w_s (c' := (40, [some (aR (some (1, 0, 0))), some (aI (iZ x1)), some (aI (iZ 0))], [], am_hp σ3, t)) rfl rfl ?_
  exact w5

theorem bx_X11_report_0_1 {x1 : Int} {E : Nat} {σ σ1 σ2 σ3 : SG} {t t' : KT} (c1 : Ca d 138 [aR (some (1, 0, 0)), aI (iZ x1)] (am_hp σ) t (.inr E, am_hp σ1, t')) (q2 : Q (.inr E, am_hp σ1, t')) : Wp k_X11_report d (0, [some (aR (some (1, 0, 0))), some (aI (iZ x1)), none], [], am_hp σ, t) Q := by
  refine w_s (c' := (1, [some (aR (some (1, 0, 0))), some (aI (iZ x1)), none], [aR (some (1, 0, 0))], am_hp σ, t)) rfl rfl ?_
  refine w_s (c' := (2, [some (aR (some (1, 0, 0))), some (aI (iZ x1)), none], [aI (iZ x1), aR (some (1, 0, 0))], am_hp σ, t)) rfl rfl ?_
  exact w_x rfl rfl (rcv_of (hp_1 _ 0)) rfl c1 (Nat.le_refl _) rfl q2

theorem e_X11_report {x1 : Int} {h : AH} {t : KT} {d : Nat} {P : RS → Prop} (w : Wp k_X11_report d (0, [some (aR (some (1, 0, 0))), some (aI (iZ x1)), none], [], h, t) P) : ∃ r, Ca (d + 1) 134 [aR (some (1, 0, 0)), aI (iZ x1)] h t r ∧ P r := ca_W rfl rfl rfl rfl w

theorem b_X11_report_40 {x1 : Int} {x2 : Int} {σ : SG} {t : KT} (h1 : 0 ≤ x1 ∧ x1 < 4) (h2 : -2147483648 ≤ x2 ∧ x2 < 2147483648) (h3 : -2147483648 ≤ σ.1 (28, x1.toNat, 0) 2 ∧ σ.1 (28, x1.toNat, 0) 2 < 2147483648) (w4 : σ.1 (28, x1.toNat, 0) 2 ≤ x2 → Wp k_X11_report d (73, [some (aR (some (1, 0, 0))), some (aI (iZ x1)), some (aI (iZ x2))], [], am_hp σ, t) Q) (w5 : x2 < σ.1 (28, x1.toNat, 0) 2 → Wp k_X11_report d (53, [some (aR (some (1, 0, 0))), some (aI (iZ x1)), some (aI (iZ x2))], [], am_hp σ, t) Q) : Wp k_X11_report d (40, [some (aR (some (1, 0, 0))), some (aI (iZ x1)), some (aI (iZ x2))], [], am_hp σ, t) Q := by
  refine w_s (c' := (41, [some (aR (some (1, 0, 0))), some (aI (iZ x1)), some (aI (iZ x2))], [aI (iZ x2)], am_hp σ, t)) rfl rfl ?_
  refine w_s (c' := (42, [some (aR (some (1, 0, 0))), some (aI (iZ x1)), some (aI (iZ x2))], [aR (some (1, 0, 0)), aI (iZ x2)], am_hp σ, t)) rfl rfl ?_
  refine w_get rfl (hp_1 _ 0) rfl rfl ?_
  refine w_s (c' := (46, [some (aR (some (1, 0, 0))), some (aI (iZ x1)), some (aI (iZ x2))], [aI (iZ x1), aR (some (17, 0, 0)), aI (iZ x2)], am_hp σ, t)) rfl rfl ?_
  refine w_aal rfl (hp_17 _ 0) h1 rfl rfl ?_
  refine w_get rfl (hp_28 _ x1.toNat) rfl rfl ?_
  exact w_icge rfl h2 h3 rfl w4 w5

theorem b_X11_report_53 {x1 : Int} {x2 : Int} {σ σ1 : SG} {t : KT} (h1 : 0 ≤ x1 ∧ x1 < 4) (c2 : Ca d 38 [aR (some (25, 0, 0)), aR (some (28, x1.toNat, 0)), aI (iZ x2)] (am_hp σ) t (.inl none, am_hp σ1, t)) (w3 : Wp k_X11_report d (40, [some (aR (some (1, 0, 0))), some (aI (iZ x1)), some (aI (iZ (x2 + 1)))], [], am_hp σ1, t) Q) : Wp k_X11_report d (53, [some (aR (some (1, 0, 0))), some (aI (iZ x1)), some (aI (iZ x2))], [], am_hp σ, t) Q := by
  refine w_s (c' := (54, [some (aR (some (1, 0, 0))), some (aI (iZ x1)), some (aI (iZ x2))], [aR (some (1, 0, 0))], am_hp σ, t)) rfl rfl ?_
  refine w_get rfl (hp_1 _ 0) rfl rfl ?_
  refine w_s (c' := (58, [some (aR (some (1, 0, 0))), some (aI (iZ x1)), some (aI (iZ x2))], [aR (some (1, 0, 0)), aR (some (25, 0, 0))], am_hp σ, t)) rfl rfl ?_
  refine w_get rfl (hp_1 _ 0) rfl rfl ?_
  refine w_s (c' := (62, [some (aR (some (1, 0, 0))), some (aI (iZ x1)), some (aI (iZ x2))], [aI (iZ x1), aR (some (17, 0, 0)), aR (some (25, 0, 0))], am_hp σ, t)) rfl rfl ?_
  refine w_aal rfl (hp_17 _ 0) h1 rfl rfl ?_
  refine w_s (c' := (64, [some (aR (some (1, 0, 0))), some (aI (iZ x1)), some (aI (iZ x2))], [aI (iZ x2), aR (some (28, x1.toNat, 0)), aR (some (25, 0, 0))], am_hp σ, t)) rfl rfl ?_
  refine w_c0 (c' := (67, [some (aR (some (1, 0, 0))), some (aI (iZ x1)), some (aI (iZ x2))], [], am_hp σ1, t)) rfl rfl (rcv_of (hp_25 _ 0)) rfl c2 (Nat.le_refl _) rfl ?_
  refine w_inc (a := x2) (ls' := [some (aR (some (1, 0, 0))), some (aI (iZ x1)), some (aI (iZ (x2 + 1)))]) rfl rfl rfl zc_1 rfl rfl ?_
  refine w_s (c' := (40, [some (aR (some (1, 0, 0))), some (aI (iZ x1)), some (aI (iZ (x2 + 1)))], [], am_hp σ1, t)) rfl rfl ?_
  exact w3

theorem b_X11_report_73 {x1 : Int} {x2 : Int} {σ σ1 : SG} {t : KT} (c1 : Ca d 36 [aR (some (25, 0, 0)), aI (iZ 10)] (am_hp σ) t (.inl none, am_hp σ1, t)) (q2 : Q (.inl (some (aI (iZ (σ1.1 (25, 0, 0) 1)))), am_hp σ1, t)) : Wp k_X11_report d (73, [some (aR (some (1, 0, 0))), some (aI (iZ x1)), some (aI (iZ x2))], [], am_hp σ, t) Q := by
  refine w_s (c' := (74, [some (aR (some (1, 0, 0))), some (aI (iZ x1)), some (aI (iZ x2))], [aR (some (1, 0, 0))], am_hp σ, t)) rfl rfl ?_
  refine w_get rfl (hp_1 _ 0) rfl rfl ?_
  refine w_psh rfl zc_10 rfl ?_
  refine w_c0 (c' := (82, [some (aR (some (1, 0, 0))), some (aI (iZ x1)), some (aI (iZ x2))], [], am_hp σ1, t)) rfl rfl (rcv_of (hp_25 _ 0)) rfl c1 (Nat.le_refl _) rfl ?_
  refine w_s (c' := (83, [some (aR (some (1, 0, 0))), some (aI (iZ x1)), some (aI (iZ x2))], [aR (some (1, 0, 0))], am_hp σ1, t)) rfl rfl ?_
  refine w_get rfl (hp_1 _ 0) rfl rfl ?_
  refine w_get rfl (hp_25 _ 0) rfl rfl ?_
  exact w_ret rfl rfl q2

theorem b_X11_reportByte_0 {x1 : Int} {σ : SG} {t : KT} (h1 : -2147483648 ≤ x1 ∧ x1 < 2147483648) (w2 : x1 < 0 → Wp k_X11_reportByte d (15, [some (aR (some (1, 0, 0))), some (aI (iZ x1))], [], am_hp σ, t) Q) (w3 : 0 ≤ x1 → Wp k_X11_reportByte d (4, [some (aR (some (1, 0, 0))), some (aI (iZ x1))], [], am_hp σ, t) Q) : Wp k_X11_reportByte d (0, [some (aR (some (1, 0, 0))), some (aI (iZ x1))], [], am_hp σ, t) Q := by
  refine w_s (c' := (1, [some (aR (some (1, 0, 0))), some (aI (iZ x1))], [aI (iZ x1)], am_hp σ, t)) rfl rfl ?_
  exact w_iflt rfl h1 rfl w2 w3

theorem e_X11_reportByte {x1 : Int} {h : AH} {t : KT} {d : Nat} {P : RS → Prop} (w : Wp k_X11_reportByte d (0, [some (aR (some (1, 0, 0))), some (aI (iZ x1))], [], h, t) P) : ∃ r, Ca (d + 1) 135 [aR (some (1, 0, 0)), aI (iZ x1)] h t r ∧ P r := ca_W rfl rfl rfl rfl w

theorem b_X11_reportByte_4 {x1 : Int} {σ : SG} {t : KT} (h1 : -2147483648 ≤ x1 ∧ x1 < 2147483648) (h2 : -2147483648 ≤ σ.1 (25, 0, 0) 1 ∧ σ.1 (25, 0, 0) 1 < 2147483648) (w3 : x1 < σ.1 (25, 0, 0) 1 → Wp k_X11_reportByte d (23, [some (aR (some (1, 0, 0))), some (aI (iZ x1))], [], am_hp σ, t) Q) (w4 : σ.1 (25, 0, 0) 1 ≤ x1 → Wp k_X11_reportByte d (15, [some (aR (some (1, 0, 0))), some (aI (iZ x1))], [], am_hp σ, t) Q) : Wp k_X11_reportByte d (4, [some (aR (some (1, 0, 0))), some (aI (iZ x1))], [], am_hp σ, t) Q := by
  refine w_s (c' := (5, [some (aR (some (1, 0, 0))), some (aI (iZ x1))], [aI (iZ x1)], am_hp σ, t)) rfl rfl ?_
  refine w_s (c' := (6, [some (aR (some (1, 0, 0))), some (aI (iZ x1))], [aR (some (1, 0, 0)), aI (iZ x1)], am_hp σ, t)) rfl rfl ?_
  refine w_get rfl (hp_1 _ 0) rfl rfl ?_
  refine w_get rfl (hp_25 _ 0) rfl rfl ?_
  exact w_iclt rfl h1 h2 rfl w3 w4

theorem b_X11_reportByte_15 {x1 : Int} {σ : SG} {t : KT} (q1 : Q (.inr 2, am_hp σ, (t.1, t.2.1 + 1, t.2.2 + 6))) : Wp k_X11_reportByte d (15, [some (aR (some (1, 0, 0))), some (aI (iZ x1))], [], am_hp σ, t) Q := by
  exact w_f rfl rfl q1

theorem b_X11_reportByte_23 {x1 : Int} {σ : SG} {t : KT} (h1 : 0 ≤ x1 ∧ x1 < 730) (q2 : Q (.inl (some (aI (iZ (σ.1 (26, 0, 0) x1.toNat)))), am_hp σ, t)) : Wp k_X11_reportByte d (23, [some (aR (some (1, 0, 0))), some (aI (iZ x1))], [], am_hp σ, t) Q := by
  refine w_s (c' := (24, [some (aR (some (1, 0, 0))), some (aI (iZ x1))], [aR (some (1, 0, 0))], am_hp σ, t)) rfl rfl ?_
  refine w_get rfl (hp_1 _ 0) rfl rfl ?_
  refine w_get rfl (hp_25 _ 0) rfl rfl ?_
  refine w_s (c' := (31, [some (aR (some (1, 0, 0))), some (aI (iZ x1))], [aI (iZ x1), aR (some (26, 0, 0))], am_hp σ, t)) rfl rfl ?_
  refine w_bal rfl (hp_26 _ 0 0) h1 rfl rfl ?_
  exact w_ret rfl rfl q2

theorem b_X11_save_0 {r2 : Int} {σ σ1 σ2 : SG} {t : KT} (c1 : Ca d 42 [aR (some (8, 2, 0)), aR (some (8, 0, 0))] (am_hp σ) t (.inl none, am_hp σ1, t)) (c2 : Ca d 47 [aR (some (8, 0, 0))] (am_hp ((sI σ1 (1, 0, 0) (up (σ1.1 (1, 0, 0)) 12 1)))) t (.inl (some (aI (iZ r2))), am_hp σ2, t)) (q3 : Q (.inl (some (aI (iZ r2))), am_hp σ2, t)) : Wp k_X11_save d (0, [some (aR (some (1, 0, 0)))], [], am_hp σ, t) Q := by
  refine w_s (c' := (1, [some (aR (some (1, 0, 0)))], [aR (some (1, 0, 0))], am_hp σ, t)) rfl rfl ?_
  refine w_get rfl (hp_1 _ 0) rfl rfl ?_
  refine w_s (c' := (5, [some (aR (some (1, 0, 0)))], [aR (some (1, 0, 0)), aR (some (8, 2, 0))], am_hp σ, t)) rfl rfl ?_
  refine w_get rfl (hp_1 _ 0) rfl rfl ?_
  refine w_c0 (c' := (11, [some (aR (some (1, 0, 0)))], [], am_hp σ1, t)) rfl rfl (rcv_of (hp_8 _ 2)) rfl c1 (Nat.le_refl _) rfl ?_
  refine w_s (c' := (12, [some (aR (some (1, 0, 0)))], [aR (some (1, 0, 0))], am_hp σ1, t)) rfl rfl ?_
  refine w_psh rfl zc_1 rfl ?_
  refine w_putb rfl (Or.inr rfl) (hp_1 _ 0) rfl rfl rfl ?_
  refine w_s (c' := (17, [some (aR (some (1, 0, 0)))], [aR (some (1, 0, 0))], am_hp ((sI σ1 (1, 0, 0) (up (σ1.1 (1, 0, 0)) 12 1))), t)) rfl rfl ?_
  refine w_get rfl (hp_1 _ 0) rfl rfl ?_
  refine w_c0 (c' := (23, [some (aR (some (1, 0, 0)))], [aI (iZ r2)], am_hp σ2, t)) rfl rfl (rcv_of (hp_8 _ 0)) rfl c2 (Nat.le_refl _) rfl ?_
  exact w_ret rfl rfl q3

theorem e_X11_save {h : AH} {t : KT} {d : Nat} {P : RS → Prop} (w : Wp k_X11_save d (0, [some (aR (some (1, 0, 0)))], [], h, t) P) : ∃ r, Ca (d + 1) 136 [aR (some (1, 0, 0))] h t r ∧ P r := ca_W rfl rfl rfl rfl w

theorem b_X11_restore_0 {σ : SG} {t : KT} (h1 : -2147483648 ≤ σ.1 (1, 0, 0) 12 ∧ σ.1 (1, 0, 0) 12 < 2147483648) (w2 : σ.1 (1, 0, 0) 12 ≠ 0 → Wp k_X11_restore d (15, [some (aR (some (1, 0, 0)))], [], am_hp σ, t) Q) (w3 : σ.1 (1, 0, 0) 12 = 0 → Wp k_X11_restore d (7, [some (aR (some (1, 0, 0)))], [], am_hp σ, t) Q) : Wp k_X11_restore d (0, [some (aR (some (1, 0, 0)))], [], am_hp σ, t) Q := by
  refine w_s (c' := (1, [some (aR (some (1, 0, 0)))], [aR (some (1, 0, 0))], am_hp σ, t)) rfl rfl ?_
  refine w_get rfl (hp_1 _ 0) rfl rfl ?_
  exact w_ifne rfl h1 rfl w2 w3

theorem e_X11_restore {h : AH} {t : KT} {d : Nat} {P : RS → Prop} (w : Wp k_X11_restore d (0, [some (aR (some (1, 0, 0)))], [], h, t) P) : ∃ r, Ca (d + 1) 137 [aR (some (1, 0, 0))] h t r ∧ P r := ca_W rfl rfl rfl rfl w

theorem b_X11_restore_7 {σ : SG} {t : KT} (q1 : Q (.inr 0, am_hp σ, (t.1, t.2.1 + 1, t.2.2 + 6))) : Wp k_X11_restore d (7, [some (aR (some (1, 0, 0)))], [], am_hp σ, t) Q := by
  exact w_f rfl rfl q1

theorem b_X11_restore_15 {r4 : Int} {σ σ1 σ2 σ3 σ4 : SG} {t : KT} (c1 : Ca d 42 [aR (some (8, 0, 0)), aR (some (8, 2, 0))] (am_hp σ) t (.inl none, am_hp σ1, t)) (c2 : Ca d 2 [aR (some (15, 0, 0))] (am_hp σ1) t (.inl none, am_hp σ2, t)) (c3 : Ca d 151 [aR (some (1, 0, 0))] (am_hp σ2) t (.inl none, am_hp σ3, t)) (c4 : Ca d 47 [aR (some (8, 0, 0))] (am_hp σ3) t (.inl (some (aI (iZ r4))), am_hp σ4, t)) (q5 : Q (.inl (some (aI (iZ r4))), am_hp σ4, t)) : Wp k_X11_restore d (15, [some (aR (some (1, 0, 0)))], [], am_hp σ, t) Q := by
  refine w_s (c' := (16, [some (aR (some (1, 0, 0)))], [aR (some (1, 0, 0))], am_hp σ, t)) rfl rfl ?_
  refine w_get rfl (hp_1 _ 0) rfl rfl ?_
  refine w_s (c' := (20, [some (aR (some (1, 0, 0)))], [aR (some (1, 0, 0)), aR (some (8, 0, 0))], am_hp σ, t)) rfl rfl ?_
  refine w_get rfl (hp_1 _ 0) rfl rfl ?_
  refine w_c0 (c' := (26, [some (aR (some (1, 0, 0)))], [], am_hp σ1, t)) rfl rfl (rcv_of (hp_8 _ 0)) rfl c1 (Nat.le_refl _) rfl ?_
  refine w_s (c' := (27, [some (aR (some (1, 0, 0)))], [aR (some (1, 0, 0))], am_hp σ1, t)) rfl rfl ?_
  refine w_get rfl (hp_1 _ 0) rfl rfl ?_
  refine w_c0 (c' := (33, [some (aR (some (1, 0, 0)))], [], am_hp σ2, t)) rfl rfl (rcv_of (hp_15 _ 0)) rfl c2 (Nat.le_refl _) rfl ?_
  refine w_s (c' := (34, [some (aR (some (1, 0, 0)))], [aR (some (1, 0, 0))], am_hp σ2, t)) rfl rfl ?_
  refine w_c0 (c' := (37, [some (aR (some (1, 0, 0)))], [], am_hp σ3, t)) rfl rfl (rcv_of (hp_1 _ 0)) rfl c3 (Nat.le_refl _) rfl ?_
  refine w_s (c' := (38, [some (aR (some (1, 0, 0)))], [aR (some (1, 0, 0))], am_hp σ3, t)) rfl rfl ?_
  refine w_get rfl (hp_1 _ 0) rfl rfl ?_
  refine w_c0 (c' := (44, [some (aR (some (1, 0, 0)))], [aI (iZ r4)], am_hp σ4, t)) rfl rfl (rcv_of (hp_8 _ 0)) rfl c4 (Nat.le_refl _) rfl ?_
  exact w_ret rfl rfl q5

theorem b_X11_checkRow_0 {x1 : Int} {r1 : Int} {σ σ1 : SG} {t : KT} (c1 : Ca d 43 [aR (some (8, 0, 0)), aI (iZ x1)] (am_hp σ) t (.inl (some (aI (iZ r1))), am_hp σ1, t)) (h2 : -2147483648 ≤ r1 ∧ r1 < 2147483648) (w3 : r1 ≠ 0 → Wp k_X11_checkRow d (19, [some (aR (some (1, 0, 0))), some (aI (iZ x1))], [], am_hp σ1, t) Q) (w4 : r1 = 0 → Wp k_X11_checkRow d (11, [some (aR (some (1, 0, 0))), some (aI (iZ x1))], [], am_hp σ1, t) Q) : Wp k_X11_checkRow d (0, [some (aR (some (1, 0, 0))), some (aI (iZ x1))], [], am_hp σ, t) Q := by
  refine w_s (c' := (1, [some (aR (some (1, 0, 0))), some (aI (iZ x1))], [aR (some (1, 0, 0))], am_hp σ, t)) rfl rfl ?_
  refine w_get rfl (hp_1 _ 0) rfl rfl ?_
  refine w_s (c' := (5, [some (aR (some (1, 0, 0))), some (aI (iZ x1))], [aI (iZ x1), aR (some (8, 0, 0))], am_hp σ, t)) rfl rfl ?_
  refine w_c0 (c' := (8, [some (aR (some (1, 0, 0))), some (aI (iZ x1))], [aI (iZ r1)], am_hp σ1, t)) rfl rfl (rcv_of (hp_8 _ 0)) rfl c1 (Nat.le_refl _) rfl ?_
  exact w_ifne rfl h2 rfl w3 w4

theorem e_X11_checkRow {x1 : Int} {h : AH} {t : KT} {d : Nat} {P : RS → Prop} (w : Wp k_X11_checkRow d (0, [some (aR (some (1, 0, 0))), some (aI (iZ x1))], [], h, t) P) : ∃ r, Ca (d + 1) 138 [aR (some (1, 0, 0)), aI (iZ x1)] h t r ∧ P r := ca_W rfl rfl rfl rfl w

theorem b_X11_checkRow_11 {x1 : Int} {σ : SG} {t : KT} (q1 : Q (.inr 2, am_hp σ, (t.1, t.2.1 + 1, t.2.2 + 6))) : Wp k_X11_checkRow d (11, [some (aR (some (1, 0, 0))), some (aI (iZ x1))], [], am_hp σ, t) Q := by
  exact w_f rfl rfl q1

theorem b_X11_checkRow_19 {x1 : Int} {σ : SG} {t : KT} (q1 : Q (.inl none, am_hp σ, t)) : Wp k_X11_checkRow d (19, [some (aR (some (1, 0, 0))), some (aI (iZ x1))], [], am_hp σ, t) Q := by
  exact w_f rfl rfl q1

theorem b_X11_checkNumber_0 {x1 : Int} {x2 : Int} {σ σ1 : SG} {t : KT} (c1 : Ca d 138 [aR (some (1, 0, 0)), aI (iZ x1)] (am_hp σ) t (.inl none, am_hp σ1, t)) (h2 : -2147483648 ≤ x2 ∧ x2 < 2147483648) (w3 : x2 < 0 → Wp k_X11_checkNumber d (22, [some (aR (some (1, 0, 0))), some (aI (iZ x1)), some (aI (iZ x2))], [], am_hp σ1, t) Q) (w4 : 0 ≤ x2 → Wp k_X11_checkNumber d (9, [some (aR (some (1, 0, 0))), some (aI (iZ x1)), some (aI (iZ x2))], [], am_hp σ1, t) Q) : Wp k_X11_checkNumber d (0, [some (aR (some (1, 0, 0))), some (aI (iZ x1)), some (aI (iZ x2))], [], am_hp σ, t) Q := by
  refine w_s (c' := (1, [some (aR (some (1, 0, 0))), some (aI (iZ x1)), some (aI (iZ x2))], [aR (some (1, 0, 0))], am_hp σ, t)) rfl rfl ?_
  refine w_s (c' := (2, [some (aR (some (1, 0, 0))), some (aI (iZ x1)), some (aI (iZ x2))], [aI (iZ x1), aR (some (1, 0, 0))], am_hp σ, t)) rfl rfl ?_
  refine w_c0 (c' := (5, [some (aR (some (1, 0, 0))), some (aI (iZ x1)), some (aI (iZ x2))], [], am_hp σ1, t)) rfl rfl (rcv_of (hp_1 _ 0)) rfl c1 (Nat.le_refl _) rfl ?_
  refine w_s (c' := (6, [some (aR (some (1, 0, 0))), some (aI (iZ x1)), some (aI (iZ x2))], [aI (iZ x2)], am_hp σ1, t)) rfl rfl ?_
  exact w_iflt rfl h2 rfl w3 w4

theorem bx_X11_checkNumber_0_1 {x1 : Int} {x2 : Int} {E : Nat} {σ σ1 : SG} {t t' : KT} (c1 : Ca d 138 [aR (some (1, 0, 0)), aI (iZ x1)] (am_hp σ) t (.inr E, am_hp σ1, t')) (q2 : Q (.inr E, am_hp σ1, t')) : Wp k_X11_checkNumber d (0, [some (aR (some (1, 0, 0))), some (aI (iZ x1)), some (aI (iZ x2))], [], am_hp σ, t) Q := by
  refine w_s (c' := (1, [some (aR (some (1, 0, 0))), some (aI (iZ x1)), some (aI (iZ x2))], [aR (some (1, 0, 0))], am_hp σ, t)) rfl rfl ?_
  refine w_s (c' := (2, [some (aR (some (1, 0, 0))), some (aI (iZ x1)), some (aI (iZ x2))], [aI (iZ x1), aR (some (1, 0, 0))], am_hp σ, t)) rfl rfl ?_
  exact w_x rfl rfl (rcv_of (hp_1 _ 0)) rfl c1 (Nat.le_refl _) rfl q2

theorem e_X11_checkNumber {x1 : Int} {x2 : Int} {h : AH} {t : KT} {d : Nat} {P : RS → Prop} (w : Wp k_X11_checkNumber d (0, [some (aR (some (1, 0, 0))), some (aI (iZ x1)), some (aI (iZ x2))], [], h, t) P) : ∃ r, Ca (d + 1) 139 [aR (some (1, 0, 0)), aI (iZ x1), aI (iZ x2)] h t r ∧ P r := ca_W rfl rfl rfl rfl w

theorem b_X11_checkNumber_9 {x1 : Int} {x2 : Int} {σ : SG} {t : KT} (h1 : 0 ≤ x1 ∧ x1 < 4) (h2 : -2147483648 ≤ x2 ∧ x2 < 2147483648) (h3 : -2147483648 ≤ σ.1 (10, 0, 0) x1.toNat ∧ σ.1 (10, 0, 0) x1.toNat < 2147483648) (w4 : x2 < σ.1 (10, 0, 0) x1.toNat → Wp k_X11_checkNumber d (30, [some (aR (some (1, 0, 0))), some (aI (iZ x1)), some (aI (iZ x2))], [], am_hp σ, t) Q) (w5 : σ.1 (10, 0, 0) x1.toNat ≤ x2 → Wp k_X11_checkNumber d (22, [some (aR (some (1, 0, 0))), some (aI (iZ x1)), some (aI (iZ x2))], [], am_hp σ, t) Q) : Wp k_X11_checkNumber d (9, [some (aR (some (1, 0, 0))), some (aI (iZ x1)), some (aI (iZ x2))], [], am_hp σ, t) Q := by
  refine w_s (c' := (10, [some (aR (some (1, 0, 0))), some (aI (iZ x1)), some (aI (iZ x2))], [aI (iZ x2)], am_hp σ, t)) rfl rfl ?_
  refine w_s (c' := (11, [some (aR (some (1, 0, 0))), some (aI (iZ x1)), some (aI (iZ x2))], [aR (some (1, 0, 0)), aI (iZ x2)], am_hp σ, t)) rfl rfl ?_
  refine w_get rfl (hp_1 _ 0) rfl rfl ?_
  refine w_get rfl (hp_8 _ 0) rfl rfl ?_
  refine w_s (c' := (18, [some (aR (some (1, 0, 0))), some (aI (iZ x1)), some (aI (iZ x2))], [aI (iZ x1), aR (some (10, 0, 0)), aI (iZ x2)], am_hp σ, t)) rfl rfl ?_
  refine w_ial rfl (hp_10 _ 0 0) h1 rfl rfl ?_
  exact w_iclt rfl h2 h3 rfl w4 w5

theorem b_X11_checkNumber_22 {x1 : Int} {x2 : Int} {σ : SG} {t : KT} (q1 : Q (.inr 2, am_hp σ, (t.1, t.2.1 + 1, t.2.2 + 6))) : Wp k_X11_checkNumber d (22, [some (aR (some (1, 0, 0))), some (aI (iZ x1)), some (aI (iZ x2))], [], am_hp σ, t) Q := by
  exact w_f rfl rfl q1

theorem b_X11_checkNumber_30 {x1 : Int} {x2 : Int} {σ : SG} {t : KT} (q1 : Q (.inl none, am_hp σ, t)) : Wp k_X11_checkNumber d (30, [some (aR (some (1, 0, 0))), some (aI (iZ x1)), some (aI (iZ x2))], [], am_hp σ, t) Q := by
  exact w_f rfl rfl q1

theorem b_X11_checkWord_0 {x1 : Int} {x2 : Int} {σ σ1 : SG} {t : KT} (c1 : Ca d 138 [aR (some (1, 0, 0)), aI (iZ x1)] (am_hp σ) t (.inl none, am_hp σ1, t)) (h2 : -2147483648 ≤ x2 ∧ x2 < 2147483648) (w3 : x2 < 0 → Wp k_X11_checkWord d (22, [some (aR (some (1, 0, 0))), some (aI (iZ x1)), some (aI (iZ x2))], [], am_hp σ1, t) Q) (w4 : 0 ≤ x2 → Wp k_X11_checkWord d (9, [some (aR (some (1, 0, 0))), some (aI (iZ x1)), some (aI (iZ x2))], [], am_hp σ1, t) Q) : Wp k_X11_checkWord d (0, [some (aR (some (1, 0, 0))), some (aI (iZ x1)), some (aI (iZ x2))], [], am_hp σ, t) Q := by
  refine w_s (c' := (1, [some (aR (some (1, 0, 0))), some (aI (iZ x1)), some (aI (iZ x2))], [aR (some (1, 0, 0))], am_hp σ, t)) rfl rfl ?_
  refine w_s (c' := (2, [some (aR (some (1, 0, 0))), some (aI (iZ x1)), some (aI (iZ x2))], [aI (iZ x1), aR (some (1, 0, 0))], am_hp σ, t)) rfl rfl ?_
  refine w_c0 (c' := (5, [some (aR (some (1, 0, 0))), some (aI (iZ x1)), some (aI (iZ x2))], [], am_hp σ1, t)) rfl rfl (rcv_of (hp_1 _ 0)) rfl c1 (Nat.le_refl _) rfl ?_
  refine w_s (c' := (6, [some (aR (some (1, 0, 0))), some (aI (iZ x1)), some (aI (iZ x2))], [aI (iZ x2)], am_hp σ1, t)) rfl rfl ?_
  exact w_iflt rfl h2 rfl w3 w4

theorem bx_X11_checkWord_0_1 {x1 : Int} {x2 : Int} {E : Nat} {σ σ1 : SG} {t t' : KT} (c1 : Ca d 138 [aR (some (1, 0, 0)), aI (iZ x1)] (am_hp σ) t (.inr E, am_hp σ1, t')) (q2 : Q (.inr E, am_hp σ1, t')) : Wp k_X11_checkWord d (0, [some (aR (some (1, 0, 0))), some (aI (iZ x1)), some (aI (iZ x2))], [], am_hp σ, t) Q := by
  refine w_s (c' := (1, [some (aR (some (1, 0, 0))), some (aI (iZ x1)), some (aI (iZ x2))], [aR (some (1, 0, 0))], am_hp σ, t)) rfl rfl ?_
  refine w_s (c' := (2, [some (aR (some (1, 0, 0))), some (aI (iZ x1)), some (aI (iZ x2))], [aI (iZ x1), aR (some (1, 0, 0))], am_hp σ, t)) rfl rfl ?_
  exact w_x rfl rfl (rcv_of (hp_1 _ 0)) rfl c1 (Nat.le_refl _) rfl q2

theorem e_X11_checkWord {x1 : Int} {x2 : Int} {h : AH} {t : KT} {d : Nat} {P : RS → Prop} (w : Wp k_X11_checkWord d (0, [some (aR (some (1, 0, 0))), some (aI (iZ x1)), some (aI (iZ x2))], [], h, t) P) : ∃ r, Ca (d + 1) 140 [aR (some (1, 0, 0)), aI (iZ x1), aI (iZ x2)] h t r ∧ P r := ca_W rfl rfl rfl rfl w

theorem b_X11_checkWord_9 {x1 : Int} {x2 : Int} {σ : SG} {t : KT} (h1 : 0 ≤ x1 ∧ x1 < 4) (h2 : -2147483648 ≤ x2 ∧ x2 < 2147483648) (h3 : -2147483648 ≤ σ.1 (28, x1.toNat, 0) 2 ∧ σ.1 (28, x1.toNat, 0) 2 < 2147483648) (w4 : x2 < σ.1 (28, x1.toNat, 0) 2 → Wp k_X11_checkWord d (30, [some (aR (some (1, 0, 0))), some (aI (iZ x1)), some (aI (iZ x2))], [], am_hp σ, t) Q) (w5 : σ.1 (28, x1.toNat, 0) 2 ≤ x2 → Wp k_X11_checkWord d (22, [some (aR (some (1, 0, 0))), some (aI (iZ x1)), some (aI (iZ x2))], [], am_hp σ, t) Q) : Wp k_X11_checkWord d (9, [some (aR (some (1, 0, 0))), some (aI (iZ x1)), some (aI (iZ x2))], [], am_hp σ, t) Q := by
  refine w_s (c' := (10, [some (aR (some (1, 0, 0))), some (aI (iZ x1)), some (aI (iZ x2))], [aI (iZ x2)], am_hp σ, t)) rfl rfl ?_
  refine w_s (c' := (11, [some (aR (some (1, 0, 0))), some (aI (iZ x1)), some (aI (iZ x2))], [aR (some (1, 0, 0)), aI (iZ x2)], am_hp σ, t)) rfl rfl ?_
  refine w_get rfl (hp_1 _ 0) rfl rfl ?_
  refine w_s (c' := (15, [some (aR (some (1, 0, 0))), some (aI (iZ x1)), some (aI (iZ x2))], [aI (iZ x1), aR (some (17, 0, 0)), aI (iZ x2)], am_hp σ, t)) rfl rfl ?_
  refine w_aal rfl (hp_17 _ 0) h1 rfl rfl ?_
  refine w_get rfl (hp_28 _ x1.toNat) rfl rfl ?_
  exact w_iclt rfl h2 h3 rfl w4 w5

theorem b_X11_checkWord_22 {x1 : Int} {x2 : Int} {σ : SG} {t : KT} (q1 : Q (.inr 2, am_hp σ, (t.1, t.2.1 + 1, t.2.2 + 6))) : Wp k_X11_checkWord d (22, [some (aR (some (1, 0, 0))), some (aI (iZ x1)), some (aI (iZ x2))], [], am_hp σ, t) Q := by
  exact w_f rfl rfl q1

theorem b_X11_checkWord_30 {x1 : Int} {x2 : Int} {σ : SG} {t : KT} (q1 : Q (.inl none, am_hp σ, t)) : Wp k_X11_checkWord d (30, [some (aR (some (1, 0, 0))), some (aI (iZ x1)), some (aI (iZ x2))], [], am_hp σ, t) Q := by
  exact w_f rfl rfl q1

theorem b_X11_checkWay_0 {x0 : Int} {σ : SG} {t : KT} (h1 : -2147483648 ≤ x0 ∧ x0 < 2147483648) (w2 : x0 < 0 → Wp k_X11_checkWay d (10, [some (aI (iZ x0))], [], am_hp σ, t) Q) (w3 : 0 ≤ x0 → Wp k_X11_checkWay d (4, [some (aI (iZ x0))], [], am_hp σ, t) Q) : Wp k_X11_checkWay d (0, [some (aI (iZ x0))], [], am_hp σ, t) Q := by
  refine w_s (c' := (1, [some (aI (iZ x0))], [aI (iZ x0)], am_hp σ, t)) rfl rfl ?_
  exact w_iflt rfl h1 rfl w2 w3

theorem e_X11_checkWay {x0 : Int} {h : AH} {t : KT} {d : Nat} {P : RS → Prop} (w : Wp k_X11_checkWay d (0, [some (aI (iZ x0))], [], h, t) P) : ∃ r, Ca (d + 1) 141 [aI (iZ x0)] h t r ∧ P r := ca_W rfl rfl rfl rfl w

theorem b_X11_checkWay_4 {x0 : Int} {σ : SG} {t : KT} (h1 : -2147483648 ≤ x0 ∧ x0 < 2147483648) (w2 : x0 < 9 → Wp k_X11_checkWay d (18, [some (aI (iZ x0))], [], am_hp σ, t) Q) (w3 : 9 ≤ x0 → Wp k_X11_checkWay d (10, [some (aI (iZ x0))], [], am_hp σ, t) Q) : Wp k_X11_checkWay d (4, [some (aI (iZ x0))], [], am_hp σ, t) Q := by
  refine w_s (c' := (5, [some (aI (iZ x0))], [aI (iZ x0)], am_hp σ, t)) rfl rfl ?_
  refine w_psh rfl zc_9 rfl ?_
  exact w_iclt rfl h1 (by decide) rfl w2 w3

theorem b_X11_checkWay_10 {x0 : Int} {σ : SG} {t : KT} (q1 : Q (.inr 2, am_hp σ, (t.1, t.2.1 + 1, t.2.2 + 6))) : Wp k_X11_checkWay d (10, [some (aI (iZ x0))], [], am_hp σ, t) Q := by
  exact w_f rfl rfl q1

theorem b_X11_checkWay_18 {x0 : Int} {σ : SG} {t : KT} (q1 : Q (.inl none, am_hp σ, t)) : Wp k_X11_checkWay d (18, [some (aI (iZ x0))], [], am_hp σ, t) Q := by
  exact w_f rfl rfl q1

theorem b_X11_checkArgument_0 {x0 : Int} {x1 : Int} {x2 : Int} {σ : SG} {t : KT} (h1 : -2147483648 ≤ x0 ∧ x0 < 2147483648) (h2 : -2147483648 ≤ x1 ∧ x1 < 2147483648) (w3 : x0 < x1 → Wp k_X11_checkArgument d (10, [some (aI (iZ x0)), some (aI (iZ x1)), some (aI (iZ x2))], [], am_hp σ, t) Q) (w4 : x1 ≤ x0 → Wp k_X11_checkArgument d (5, [some (aI (iZ x0)), some (aI (iZ x1)), some (aI (iZ x2))], [], am_hp σ, t) Q) : Wp k_X11_checkArgument d (0, [some (aI (iZ x0)), some (aI (iZ x1)), some (aI (iZ x2))], [], am_hp σ, t) Q := by
  refine w_s (c' := (1, [some (aI (iZ x0)), some (aI (iZ x1)), some (aI (iZ x2))], [aI (iZ x0)], am_hp σ, t)) rfl rfl ?_
  refine w_s (c' := (2, [some (aI (iZ x0)), some (aI (iZ x1)), some (aI (iZ x2))], [aI (iZ x1), aI (iZ x0)], am_hp σ, t)) rfl rfl ?_
  exact w_iclt rfl h1 h2 rfl w3 w4

theorem e_X11_checkArgument {x0 : Int} {x1 : Int} {x2 : Int} {h : AH} {t : KT} {d : Nat} {P : RS → Prop} (w : Wp k_X11_checkArgument d (0, [some (aI (iZ x0)), some (aI (iZ x1)), some (aI (iZ x2))], [], h, t) P) : ∃ r, Ca (d + 1) 142 [aI (iZ x0), aI (iZ x1), aI (iZ x2)] h t r ∧ P r := ca_W rfl rfl rfl rfl w

theorem b_X11_checkArgument_5 {x0 : Int} {x1 : Int} {x2 : Int} {σ : SG} {t : KT} (h1 : -2147483648 ≤ x0 ∧ x0 < 2147483648) (h2 : -2147483648 ≤ x2 ∧ x2 < 2147483648) (w3 : x0 ≤ x2 → Wp k_X11_checkArgument d (18, [some (aI (iZ x0)), some (aI (iZ x1)), some (aI (iZ x2))], [], am_hp σ, t) Q) (w4 : x2 < x0 → Wp k_X11_checkArgument d (10, [some (aI (iZ x0)), some (aI (iZ x1)), some (aI (iZ x2))], [], am_hp σ, t) Q) : Wp k_X11_checkArgument d (5, [some (aI (iZ x0)), some (aI (iZ x1)), some (aI (iZ x2))], [], am_hp σ, t) Q := by
  refine w_s (c' := (6, [some (aI (iZ x0)), some (aI (iZ x1)), some (aI (iZ x2))], [aI (iZ x0)], am_hp σ, t)) rfl rfl ?_
  refine w_s (c' := (7, [some (aI (iZ x0)), some (aI (iZ x1)), some (aI (iZ x2))], [aI (iZ x2), aI (iZ x0)], am_hp σ, t)) rfl rfl ?_
  exact w_icle rfl h1 h2 rfl w3 w4

theorem b_X11_checkArgument_10 {x0 : Int} {x1 : Int} {x2 : Int} {σ : SG} {t : KT} (q1 : Q (.inr 1, am_hp σ, (t.1, t.2.1 + 1, t.2.2 + 6))) : Wp k_X11_checkArgument d (10, [some (aI (iZ x0)), some (aI (iZ x1)), some (aI (iZ x2))], [], am_hp σ, t) Q := by
  exact w_f rfl rfl q1

theorem b_X11_checkArgument_18 {x0 : Int} {x1 : Int} {x2 : Int} {σ : SG} {t : KT} (q1 : Q (.inl none, am_hp σ, t)) : Wp k_X11_checkArgument d (18, [some (aI (iZ x0)), some (aI (iZ x1)), some (aI (iZ x2))], [], am_hp σ, t) Q := by
  exact w_f rfl rfl q1

theorem b_X11_countOf_0 {x0 : Int} {σ : SG} {t : KT} (h1 : -2147483648 ≤ x0 ∧ x0 < 2147483648) (w2 : x0 < 0 → Wp k_X11_countOf d (10, [some (aI (iZ x0))], [], am_hp σ, t) Q) (w3 : 0 ≤ x0 → Wp k_X11_countOf d (4, [some (aI (iZ x0))], [], am_hp σ, t) Q) : Wp k_X11_countOf d (0, [some (aI (iZ x0))], [], am_hp σ, t) Q := by
  refine w_s (c' := (1, [some (aI (iZ x0))], [aI (iZ x0)], am_hp σ, t)) rfl rfl ?_
  exact w_iflt rfl h1 rfl w2 w3

theorem e_X11_countOf {x0 : Int} {h : AH} {t : KT} {d : Nat} {P : RS → Prop} (w : Wp k_X11_countOf d (0, [some (aI (iZ x0))], [], h, t) P) : ∃ r, Ca (d + 1) 143 [aI (iZ x0)] h t r ∧ P r := ca_W rfl rfl rfl rfl w

theorem b_X11_countOf_4 {x0 : Int} {σ : SG} {t : KT} (h1 : -2147483648 ≤ x0 ∧ x0 < 2147483648) (w2 : x0 < 9 → Wp k_X11_countOf d (14, [some (aI (iZ x0))], [], am_hp σ, t) Q) (w3 : 9 ≤ x0 → Wp k_X11_countOf d (10, [some (aI (iZ x0))], [], am_hp σ, t) Q) : Wp k_X11_countOf d (4, [some (aI (iZ x0))], [], am_hp σ, t) Q := by
  refine w_s (c' := (5, [some (aI (iZ x0))], [aI (iZ x0)], am_hp σ, t)) rfl rfl ?_
  refine w_psh rfl zc_9 rfl ?_
  exact w_iclt rfl h1 (by decide) rfl w2 w3

theorem b_X11_countOf_10 {x0 : Int} {σ : SG} {t : KT} (w1 : Wp k_X11_countOf d (19, [some (aI (iZ x0))], [aI (iZ 1)], am_hp σ, t) Q) : Wp k_X11_countOf d (10, [some (aI (iZ x0))], [], am_hp σ, t) Q := by
  refine w_psh rfl zc_1 rfl ?_
  refine w_s (c' := (19, [some (aI (iZ x0))], [aI (iZ 1)], am_hp σ, t)) rfl rfl ?_
  exact w1

theorem b_X11_countOf_14 {x0 : Int} {σ : SG} {t : KT} (h1 : 0 ≤ x0 ∧ x0 < 9) (w2 : Wp k_X11_countOf d (19, [some (aI (iZ x0))], [aI (iZ (cntZ x0.toNat))], am_hp σ, t) Q) : Wp k_X11_countOf d (14, [some (aI (iZ x0))], [], am_hp σ, t) Q := by
  refine w_s (c' := (17, [some (aI (iZ x0))], [aR (some (90, 0, 0))], am_hp σ, t)) rfl rfl ?_
  refine w_s (c' := (18, [some (aI (iZ x0))], [aI (iZ x0), aR (some (90, 0, 0))], am_hp σ, t)) rfl rfl ?_
  refine w_ial rfl (hp_90_0 _) h1 rfl rfl ?_
  exact w2

theorem b_X11_countOf_19 {x0 : Int} {xs0 : Int} {σ : SG} {t : KT} (q1 : Q (.inl (some (aI (iZ xs0))), am_hp σ, t)) : Wp k_X11_countOf d (19, [some (aI (iZ x0))], [aI (iZ xs0)], am_hp σ, t) Q := by
  exact w_ret rfl rfl q1

theorem b_X11_widthOf_0 {x0 : Int} {σ : SG} {t : KT} (h1 : -2147483648 ≤ x0 ∧ x0 < 2147483648) (w2 : x0 < 0 → Wp k_X11_widthOf d (10, [some (aI (iZ x0))], [], am_hp σ, t) Q) (w3 : 0 ≤ x0 → Wp k_X11_widthOf d (4, [some (aI (iZ x0))], [], am_hp σ, t) Q) : Wp k_X11_widthOf d (0, [some (aI (iZ x0))], [], am_hp σ, t) Q := by
  refine w_s (c' := (1, [some (aI (iZ x0))], [aI (iZ x0)], am_hp σ, t)) rfl rfl ?_
  exact w_iflt rfl h1 rfl w2 w3

theorem e_X11_widthOf {x0 : Int} {h : AH} {t : KT} {d : Nat} {P : RS → Prop} (w : Wp k_X11_widthOf d (0, [some (aI (iZ x0))], [], h, t) P) : ∃ r, Ca (d + 1) 144 [aI (iZ x0)] h t r ∧ P r := ca_W rfl rfl rfl rfl w

theorem b_X11_widthOf_4 {x0 : Int} {σ : SG} {t : KT} (h1 : -2147483648 ≤ x0 ∧ x0 < 2147483648) (w2 : x0 < 9 → Wp k_X11_widthOf d (15, [some (aI (iZ x0))], [], am_hp σ, t) Q) (w3 : 9 ≤ x0 → Wp k_X11_widthOf d (10, [some (aI (iZ x0))], [], am_hp σ, t) Q) : Wp k_X11_widthOf d (4, [some (aI (iZ x0))], [], am_hp σ, t) Q := by
  refine w_s (c' := (5, [some (aI (iZ x0))], [aI (iZ x0)], am_hp σ, t)) rfl rfl ?_
  refine w_psh rfl zc_9 rfl ?_
  exact w_iclt rfl h1 (by decide) rfl w2 w3

theorem b_X11_widthOf_10 {x0 : Int} {σ : SG} {t : KT} (w1 : Wp k_X11_widthOf d (20, [some (aI (iZ x0))], [aI (iZ 28)], am_hp σ, t) Q) : Wp k_X11_widthOf d (10, [some (aI (iZ x0))], [], am_hp σ, t) Q := by
  refine w_psh rfl zc_28 rfl ?_
  refine w_s (c' := (20, [some (aI (iZ x0))], [aI (iZ 28)], am_hp σ, t)) rfl rfl ?_
  exact w1

theorem b_X11_widthOf_15 {x0 : Int} {σ : SG} {t : KT} (h1 : 0 ≤ x0 ∧ x0 < 9) (w2 : Wp k_X11_widthOf d (20, [some (aI (iZ x0))], [aI (iZ (widZ x0.toNat))], am_hp σ, t) Q) : Wp k_X11_widthOf d (15, [some (aI (iZ x0))], [], am_hp σ, t) Q := by
  refine w_s (c' := (18, [some (aI (iZ x0))], [aR (some (90, 1, 0))], am_hp σ, t)) rfl rfl ?_
  refine w_s (c' := (19, [some (aI (iZ x0))], [aI (iZ x0), aR (some (90, 1, 0))], am_hp σ, t)) rfl rfl ?_
  refine w_ial rfl (hp_90_1 _) h1 rfl rfl ?_
  exact w2

theorem b_X11_widthOf_20 {x0 : Int} {xs0 : Int} {σ : SG} {t : KT} (q1 : Q (.inl (some (aI (iZ xs0))), am_hp σ, t)) : Wp k_X11_widthOf d (20, [some (aI (iZ x0))], [aI (iZ xs0)], am_hp σ, t) Q := by
  exact w_ret rfl rfl q1

theorem b_X11_priceOf_0 {x0 : Int} {p1 : Nat} {σ : SG} {t : KT} (h1 : -2147483648 ≤ x0 ∧ x0 < 2147483648) (w2 : x0 < 0 → Wp k_X11_priceOf d (10, [some (aI (iZ x0)), some (aR (some (13, p1, 0)))], [], am_hp σ, t) Q) (w3 : 0 ≤ x0 → Wp k_X11_priceOf d (4, [some (aI (iZ x0)), some (aR (some (13, p1, 0)))], [], am_hp σ, t) Q) : Wp k_X11_priceOf d (0, [some (aI (iZ x0)), some (aR (some (13, p1, 0)))], [], am_hp σ, t) Q := by
  refine w_s (c' := (1, [some (aI (iZ x0)), some (aR (some (13, p1, 0)))], [aI (iZ x0)], am_hp σ, t)) rfl rfl ?_
  exact w_iflt rfl h1 rfl w2 w3

theorem e_X11_priceOf {x0 : Int} {p1 : Nat} {h : AH} {t : KT} {d : Nat} {P : RS → Prop} (w : Wp k_X11_priceOf d (0, [some (aI (iZ x0)), some (aR (some (13, p1, 0)))], [], h, t) P) : ∃ r, Ca (d + 1) 145 [aI (iZ x0), aR (some (13, p1, 0))] h t r ∧ P r := ca_W rfl rfl rfl rfl w

theorem b_X11_priceOf_4 {x0 : Int} {p1 : Nat} {σ : SG} {t : KT} (h1 : -2147483648 ≤ x0 ∧ x0 < 2147483648) (w2 : x0 < 9 → Wp k_X11_priceOf d (14, [some (aI (iZ x0)), some (aR (some (13, p1, 0)))], [], am_hp σ, t) Q) (w3 : 9 ≤ x0 → Wp k_X11_priceOf d (10, [some (aI (iZ x0)), some (aR (some (13, p1, 0)))], [], am_hp σ, t) Q) : Wp k_X11_priceOf d (4, [some (aI (iZ x0)), some (aR (some (13, p1, 0)))], [], am_hp σ, t) Q := by
  refine w_s (c' := (5, [some (aI (iZ x0)), some (aR (some (13, p1, 0)))], [aI (iZ x0)], am_hp σ, t)) rfl rfl ?_
  refine w_s (c' := (6, [some (aI (iZ x0)), some (aR (some (13, p1, 0)))], [aR (some (13, p1, 0)), aI (iZ x0)], am_hp σ, t)) rfl rfl ?_
  refine w_s rfl rfl ?_
  refine w_e (c' := (7, [some (aI (iZ x0)), some (aR (some (13, p1, 0)))], [aI (iZ 9), aI (iZ x0)], am_hp σ, t)) rfl ?_
  exact w_iclt rfl h1 (by decide) rfl w2 w3

theorem b_X11_priceOf_10 {x0 : Int} {p1 : Nat} {σ : SG} {t : KT} (w1 : Wp k_X11_priceOf d (17, [some (aI (iZ x0)), some (aR (some (13, p1, 0)))], [aI (iZ 0)], am_hp σ, t) Q) : Wp k_X11_priceOf d (10, [some (aI (iZ x0)), some (aR (some (13, p1, 0)))], [], am_hp σ, t) Q := by
  refine w_psh rfl zc_0 rfl ?_
  refine w_s (c' := (17, [some (aI (iZ x0)), some (aR (some (13, p1, 0)))], [aI (iZ 0)], am_hp σ, t)) rfl rfl ?_
  exact w1

theorem b_X11_priceOf_14 {x0 : Int} {p1 : Nat} {σ : SG} {t : KT} (h1 : 0 ≤ x0 ∧ x0 < 9) (w2 : Wp k_X11_priceOf d (17, [some (aI (iZ x0)), some (aR (some (13, p1, 0)))], [aI (iZ (σ.1 (13, p1, 0) x0.toNat))], am_hp σ, t) Q) : Wp k_X11_priceOf d (14, [some (aI (iZ x0)), some (aR (some (13, p1, 0)))], [], am_hp σ, t) Q := by
  refine w_s (c' := (15, [some (aI (iZ x0)), some (aR (some (13, p1, 0)))], [aR (some (13, p1, 0))], am_hp σ, t)) rfl rfl ?_
  refine w_s (c' := (16, [some (aI (iZ x0)), some (aR (some (13, p1, 0)))], [aI (iZ x0), aR (some (13, p1, 0))], am_hp σ, t)) rfl rfl ?_
  refine w_ial rfl (hp_13 _ p1 0) h1 rfl rfl ?_
  exact w2

theorem b_X11_priceOf_17 {x0 : Int} {p1 : Nat} {xs0 : Int} {σ : SG} {t : KT} (q1 : Q (.inl (some (aI (iZ xs0))), am_hp σ, t)) : Wp k_X11_priceOf d (17, [some (aI (iZ x0)), some (aR (some (13, p1, 0)))], [aI (iZ xs0)], am_hp σ, t) Q := by
  exact w_ret rfl rfl q1

theorem b_X11_fits_0 {x0 : Int} {x1 : Int} {σ : SG} {t : KT} (h1 : -2147483648 ≤ x0 ∧ x0 < 2147483648) (w2 : x0 < 0 → Wp k_X11_fits d (18, [some (aI (iZ x0)), some (aI (iZ x1))], [], am_hp σ, t) Q) (w3 : 0 ≤ x0 → Wp k_X11_fits d (4, [some (aI (iZ x0)), some (aI (iZ x1))], [], am_hp σ, t) Q) : Wp k_X11_fits d (0, [some (aI (iZ x0)), some (aI (iZ x1))], [], am_hp σ, t) Q := by
  refine w_s (c' := (1, [some (aI (iZ x0)), some (aI (iZ x1))], [aI (iZ x0)], am_hp σ, t)) rfl rfl ?_
  exact w_iflt rfl h1 rfl w2 w3

theorem e_X11_fits {x0 : Int} {x1 : Int} {h : AH} {t : KT} {d : Nat} {P : RS → Prop} (w : Wp k_X11_fits d (0, [some (aI (iZ x0)), some (aI (iZ x1))], [], h, t) P) : ∃ r, Ca (d + 1) 146 [aI (iZ x0), aI (iZ x1)] h t r ∧ P r := ca_W rfl rfl rfl rfl w

theorem b_X11_fits_4 {x0 : Int} {x1 : Int} {r1 : Int} {σ σ1 : SG} {t : KT} (c1 : Ca d 144 [aI (iZ x1)] (am_hp σ) t (.inl (some (aI (iZ r1))), am_hp σ1, t)) (h2 : -2147483648 ≤ x0 ∧ x0 < 2147483648) (h3 : -2147483648 ≤ zshl 1 r1 ∧ zshl 1 r1 < 2147483648) (w4 : zshl 1 r1 ≤ x0 → Wp k_X11_fits d (18, [some (aI (iZ x0)), some (aI (iZ x1))], [], am_hp σ1, t) Q) (w5 : x0 < zshl 1 r1 → Wp k_X11_fits d (14, [some (aI (iZ x0)), some (aI (iZ x1))], [], am_hp σ1, t) Q) : Wp k_X11_fits d (4, [some (aI (iZ x0)), some (aI (iZ x1))], [], am_hp σ, t) Q := by
  refine w_s (c' := (5, [some (aI (iZ x0)), some (aI (iZ x1))], [aI (iZ x0)], am_hp σ, t)) rfl rfl ?_
  refine w_psh rfl zc_1 rfl ?_
  refine w_s (c' := (7, [some (aI (iZ x0)), some (aI (iZ x1))], [aI (iZ x1), aI (iZ 1), aI (iZ x0)], am_hp σ, t)) rfl rfl ?_
  refine w_c0 (c' := (10, [some (aI (iZ x0)), some (aI (iZ x1))], [aI (iZ r1), aI (iZ 1), aI (iZ x0)], am_hp σ1, t)) rfl rfl rfl rfl c1 (Nat.le_refl _) rfl ?_
  refine w_ishl rfl rfl ?_
  exact w_icge rfl h2 h3 rfl w4 w5

theorem b_X11_fits_14 {x0 : Int} {x1 : Int} {σ : SG} {t : KT} (w1 : Wp k_X11_fits d (19, [some (aI (iZ x0)), some (aI (iZ x1))], [aI (iZ 1)], am_hp σ, t) Q) : Wp k_X11_fits d (14, [some (aI (iZ x0)), some (aI (iZ x1))], [], am_hp σ, t) Q := by
  refine w_psh rfl zc_1 rfl ?_
  refine w_s (c' := (19, [some (aI (iZ x0)), some (aI (iZ x1))], [aI (iZ 1)], am_hp σ, t)) rfl rfl ?_
  exact w1

theorem b_X11_fits_18 {x0 : Int} {x1 : Int} {σ : SG} {t : KT} (w1 : Wp k_X11_fits d (19, [some (aI (iZ x0)), some (aI (iZ x1))], [aI (iZ 0)], am_hp σ, t) Q) : Wp k_X11_fits d (18, [some (aI (iZ x0)), some (aI (iZ x1))], [], am_hp σ, t) Q := by
  refine w_psh rfl zc_0 rfl ?_
  exact w1

theorem b_X11_fits_19 {x0 : Int} {x1 : Int} {xs0 : Int} {σ : SG} {t : KT} (h1 : xs0 = 0 ∨ xs0 = 1) (q2 : Q (.inl (some (aI (iZ xs0))), am_hp σ, t)) : Wp k_X11_fits d (19, [some (aI (iZ x0)), some (aI (iZ x1))], [aI (iZ xs0)], am_hp σ, t) Q := by
  exact w_ret rfl (frt_b h1) q2

theorem b_X11_bitsOf_0 {x0 : Int} {σ : SG} {t : KT} (w1 : Wp k_X11_bitsOf d (2, [some (aI (iZ x0)), some (aI (iZ 1))], [], am_hp σ, t) Q) : Wp k_X11_bitsOf d (0, [some (aI (iZ x0)), none], [], am_hp σ, t) Q := by
  refine w_psh rfl zc_1 rfl ?_
  refine w_s (c' := (2, [some (aI (iZ x0)), some (aI (iZ 1))], [], am_hp σ, t)) rfl rfl ?_
  exact w1

theorem e_X11_bitsOf {x0 : Int} {h : AH} {t : KT} {d : Nat} {P : RS → Prop} (w : Wp k_X11_bitsOf d (0, [some (aI (iZ x0)), none], [], h, t) P) : ∃ r, Ca (d + 1) 147 [aI (iZ x0)] h t r ∧ P r := ca_W rfl rfl rfl rfl w

theorem b_X11_bitsOf_2 {x0 : Int} {x1 : Int} {σ : SG} {t : KT} (h1 : -2147483648 ≤ x1 ∧ x1 < 2147483648) (w2 : 28 ≤ x1 → Wp k_X11_bitsOf d (20, [some (aI (iZ x0)), some (aI (iZ x1))], [], am_hp σ, t) Q) (w3 : x1 < 28 → Wp k_X11_bitsOf d (8, [some (aI (iZ x0)), some (aI (iZ x1))], [], am_hp σ, t) Q) : Wp k_X11_bitsOf d (2, [some (aI (iZ x0)), some (aI (iZ x1))], [], am_hp σ, t) Q := by
  refine w_s (c' := (3, [some (aI (iZ x0)), some (aI (iZ x1))], [aI (iZ x1)], am_hp σ, t)) rfl rfl ?_
  refine w_psh rfl zc_28 rfl ?_
  exact w_icge rfl h1 (by decide) rfl w2 w3

theorem b_X11_bitsOf_8 {x0 : Int} {x1 : Int} {σ : SG} {t : KT} (h1 : -2147483648 ≤ zshr x0 x1 ∧ zshr x0 x1 < 2147483648) (w2 : zshr x0 x1 = 0 → Wp k_X11_bitsOf d (20, [some (aI (iZ x0)), some (aI (iZ x1))], [], am_hp σ, t) Q) (w3 : zshr x0 x1 ≠ 0 → Wp k_X11_bitsOf d (14, [some (aI (iZ x0)), some (aI (iZ x1))], [], am_hp σ, t) Q) : Wp k_X11_bitsOf d (8, [some (aI (iZ x0)), some (aI (iZ x1))], [], am_hp σ, t) Q := by
  refine w_s (c' := (9, [some (aI (iZ x0)), some (aI (iZ x1))], [aI (iZ x0)], am_hp σ, t)) rfl rfl ?_
  refine w_s (c' := (10, [some (aI (iZ x0)), some (aI (iZ x1))], [aI (iZ x1), aI (iZ x0)], am_hp σ, t)) rfl rfl ?_
  refine w_ishr rfl rfl ?_
  exact w_ifeq rfl h1 rfl w2 w3

theorem b_X11_bitsOf_14 {x0 : Int} {x1 : Int} {σ : SG} {t : KT} (w1 : Wp k_X11_bitsOf d (2, [some (aI (iZ x0)), some (aI (iZ (x1 + 1)))], [], am_hp σ, t) Q) : Wp k_X11_bitsOf d (14, [some (aI (iZ x0)), some (aI (iZ x1))], [], am_hp σ, t) Q := by
  refine w_inc (a := x1) (ls' := [some (aI (iZ x0)), some (aI (iZ (x1 + 1)))]) rfl rfl rfl zc_1 rfl rfl ?_
  refine w_s (c' := (2, [some (aI (iZ x0)), some (aI (iZ (x1 + 1)))], [], am_hp σ, t)) rfl rfl ?_
  exact w1

theorem b_X11_bitsOf_20 {x0 : Int} {x1 : Int} {σ : SG} {t : KT} (q1 : Q (.inl (some (aI (iZ x1))), am_hp σ, t)) : Wp k_X11_bitsOf d (20, [some (aI (iZ x0)), some (aI (iZ x1))], [], am_hp σ, t) Q := by
  refine w_s (c' := (21, [some (aI (iZ x0)), some (aI (iZ x1))], [aI (iZ x1)], am_hp σ, t)) rfl rfl ?_
  exact w_ret rfl rfl q1

theorem b_X11_withLetter_0 {y0 : Int} {x2 : Int} {x3 : Int} {σ : SG} {t : KT} (h1 : -2147483648 ≤ x3 ∧ x3 < 2147483648) (q2 : Q (.inl (some (aL (jZ (yor y0 (yshl x3 (5 * x2)))))), am_hp σ, t)) : Wp k_X11_withLetter d (0, [some (aL (jZ y0)), none, some (aI (iZ x2)), some (aI (iZ x3))], [], am_hp σ, t) Q := by
  refine w_s (c' := (1, [some (aL (jZ y0)), none, some (aI (iZ x2)), some (aI (iZ x3))], [aL (jZ y0)], am_hp σ, t)) rfl rfl ?_
  refine w_s (c' := (2, [some (aL (jZ y0)), none, some (aI (iZ x2)), some (aI (iZ x3))], [aI (iZ x3), aL (jZ y0)], am_hp σ, t)) rfl rfl ?_
  refine w_i2l rfl rfl h1 ?_
  refine w_psh rfl zc_5 rfl ?_
  refine w_s (c' := (5, [some (aL (jZ y0)), none, some (aI (iZ x2)), some (aI (iZ x3))], [aI (iZ x2), aI (iZ 5), aL (jZ x3), aL (jZ y0)], am_hp σ, t)) rfl rfl ?_
  refine w_imul rfl rfl ?_
  refine w_lshl rfl rfl ?_
  refine w_lor rfl rfl ?_
  exact w_ret rfl rfl q2

theorem e_X11_withLetter {y0 : Int} {x2 : Int} {x3 : Int} {h : AH} {t : KT} {d : Nat} {P : RS → Prop} (w : Wp k_X11_withLetter d (0, [some (aL (jZ y0)), none, some (aI (iZ x2)), some (aI (iZ x3))], [], h, t) P) : ∃ r, Ca (d + 1) 148 [aL (jZ y0), aI (iZ x2), aI (iZ x3)] h t r ∧ P r := ca_W rfl rfl rfl rfl w

theorem b_X11_letterOf_0 {y0 : Int} {x2 : Int} {σ : SG} {t : KT} (h1 : -2147483648 ≤ x2 ∧ x2 < 2147483648) (w2 : x2 < 0 → Wp k_X11_letterOf d (10, [some (aL (jZ y0)), none, some (aI (iZ x2))], [], am_hp σ, t) Q) (w3 : 0 ≤ x2 → Wp k_X11_letterOf d (4, [some (aL (jZ y0)), none, some (aI (iZ x2))], [], am_hp σ, t) Q) : Wp k_X11_letterOf d (0, [some (aL (jZ y0)), none, some (aI (iZ x2))], [], am_hp σ, t) Q := by
  refine w_s (c' := (1, [some (aL (jZ y0)), none, some (aI (iZ x2))], [aI (iZ x2)], am_hp σ, t)) rfl rfl ?_
  exact w_iflt rfl h1 rfl w2 w3

theorem e_X11_letterOf {y0 : Int} {x2 : Int} {h : AH} {t : KT} {d : Nat} {P : RS → Prop} (w : Wp k_X11_letterOf d (0, [some (aL (jZ y0)), none, some (aI (iZ x2))], [], h, t) P) : ∃ r, Ca (d + 1) 149 [aL (jZ y0), aI (iZ x2)] h t r ∧ P r := ca_W rfl rfl rfl rfl w

theorem b_X11_letterOf_4 {y0 : Int} {x2 : Int} {σ : SG} {t : KT} (h1 : -2147483648 ≤ x2 ∧ x2 < 2147483648) (w2 : x2 < 8 → Wp k_X11_letterOf d (14, [some (aL (jZ y0)), none, some (aI (iZ x2))], [], am_hp σ, t) Q) (w3 : 8 ≤ x2 → Wp k_X11_letterOf d (10, [some (aL (jZ y0)), none, some (aI (iZ x2))], [], am_hp σ, t) Q) : Wp k_X11_letterOf d (4, [some (aL (jZ y0)), none, some (aI (iZ x2))], [], am_hp σ, t) Q := by
  refine w_s (c' := (5, [some (aL (jZ y0)), none, some (aI (iZ x2))], [aI (iZ x2)], am_hp σ, t)) rfl rfl ?_
  refine w_psh rfl zc_8 rfl ?_
  exact w_iclt rfl h1 (by decide) rfl w2 w3

theorem b_X11_letterOf_10 {y0 : Int} {x2 : Int} {σ : SG} {t : KT} (w1 : Wp k_X11_letterOf d (23, [some (aL (jZ y0)), none, some (aI (iZ x2))], [aI (iZ 0)], am_hp σ, t) Q) : Wp k_X11_letterOf d (10, [some (aL (jZ y0)), none, some (aI (iZ x2))], [], am_hp σ, t) Q := by
  refine w_psh rfl zc_0 rfl ?_
  refine w_s (c' := (23, [some (aL (jZ y0)), none, some (aI (iZ x2))], [aI (iZ 0)], am_hp σ, t)) rfl rfl ?_
  exact w1

theorem b_X11_letterOf_14 {y0 : Int} {x2 : Int} {σ : SG} {t : KT} (w1 : Wp k_X11_letterOf d (23, [some (aL (jZ y0)), none, some (aI (iZ x2))], [aI (iZ (zand (zl2i (yshr y0 (5 * x2))) 31))], am_hp σ, t) Q) : Wp k_X11_letterOf d (14, [some (aL (jZ y0)), none, some (aI (iZ x2))], [], am_hp σ, t) Q := by
  refine w_s (c' := (15, [some (aL (jZ y0)), none, some (aI (iZ x2))], [aL (jZ y0)], am_hp σ, t)) rfl rfl ?_
  refine w_psh rfl zc_5 rfl ?_
  refine w_s (c' := (17, [some (aL (jZ y0)), none, some (aI (iZ x2))], [aI (iZ x2), aI (iZ 5), aL (jZ y0)], am_hp σ, t)) rfl rfl ?_
  refine w_imul rfl rfl ?_
  refine w_lshr rfl rfl ?_
  refine w_l2i rfl rfl ?_
  refine w_psh rfl zc_31 rfl ?_
  refine w_iand rfl rfl ?_
  exact w1

theorem b_X11_letterOf_23 {y0 : Int} {x2 : Int} {xs0 : Int} {σ : SG} {t : KT} (q1 : Q (.inl (some (aI (iZ xs0))), am_hp σ, t)) : Wp k_X11_letterOf d (23, [some (aL (jZ y0)), none, some (aI (iZ x2))], [aI (iZ xs0)], am_hp σ, t) Q := by
  exact w_ret rfl rfl q1

theorem b_X11_nameOf_0 {p0 : Nat} {σ : SG} {t : KT} (w1 : Wp k_X11_nameOf d (4, [some (aR (some (94, p0, 0))), some (aL (jZ 0)), none, some (aI (iZ 0))], [], am_hp σ, t) Q) : Wp k_X11_nameOf d (0, [some (aR (some (94, p0, 0))), none, none, none], [], am_hp σ, t) Q := by
  refine w_psL rfl yc_0 rfl ?_
  refine w_s (c' := (2, [some (aR (some (94, p0, 0))), some (aL (jZ 0)), none, none], [], am_hp σ, t)) rfl rfl ?_
  refine w_psh rfl zc_0 rfl ?_
  refine w_s (c' := (4, [some (aR (some (94, p0, 0))), some (aL (jZ 0)), none, some (aI (iZ 0))], [], am_hp σ, t)) rfl rfl ?_
  exact w1

theorem e_X11_nameOf {p0 : Nat} {h : AH} {t : KT} {d : Nat} {P : RS → Prop} (w : Wp k_X11_nameOf d (0, [some (aR (some (94, p0, 0))), none, none, none], [], h, t) P) : ∃ r, Ca (d + 1) 150 [aR (some (94, p0, 0))] h t r ∧ P r := ca_W rfl rfl rfl rfl w

theorem b_X11_nameOf_4 {p0 : Nat} {y1 : Int} {x3 : Int} {r1 : Int} {σ σ1 : SG} {t : KT} (c1 : Ca d 337 [aR (some (94, p0, 0))] (am_hp σ) t (.inl (some (aI (iZ r1))), am_hp σ1, t)) (h2 : -2147483648 ≤ x3 ∧ x3 < 2147483648) (h3 : -2147483648 ≤ r1 ∧ r1 < 2147483648) (w4 : r1 ≤ x3 → Wp k_X11_nameOf d (40, [some (aR (some (94, p0, 0))), some (aL (jZ y1)), none, some (aI (iZ x3))], [], am_hp σ1, t) Q) (w5 : x3 < r1 → Wp k_X11_nameOf d (12, [some (aR (some (94, p0, 0))), some (aL (jZ y1)), none, some (aI (iZ x3))], [], am_hp σ1, t) Q) : Wp k_X11_nameOf d (4, [some (aR (some (94, p0, 0))), some (aL (jZ y1)), none, some (aI (iZ x3))], [], am_hp σ, t) Q := by
  refine w_s (c' := (5, [some (aR (some (94, p0, 0))), some (aL (jZ y1)), none, some (aI (iZ x3))], [aI (iZ x3)], am_hp σ, t)) rfl rfl ?_
  refine w_s (c' := (6, [some (aR (some (94, p0, 0))), some (aL (jZ y1)), none, some (aI (iZ x3))], [aR (some (94, p0, 0)), aI (iZ x3)], am_hp σ, t)) rfl rfl ?_
  refine w_c0 (c' := (9, [some (aR (some (94, p0, 0))), some (aL (jZ y1)), none, some (aI (iZ x3))], [aI (iZ r1), aI (iZ x3)], am_hp σ1, t)) rfl rfl (rcv_of (hp_94 _ p0)) rfl c1 (Nat.le_refl _) rfl ?_
  exact w_icge rfl h2 h3 rfl w4 w5

theorem b_X11_nameOf_12 {p0 : Nat} {y1 : Int} {x3 : Int} {σ : SG} {t : KT} (h1 : -2147483648 ≤ x3 ∧ x3 < 2147483648) (w2 : 8 ≤ x3 → Wp k_X11_nameOf d (40, [some (aR (some (94, p0, 0))), some (aL (jZ y1)), none, some (aI (iZ x3))], [], am_hp σ, t) Q) (w3 : x3 < 8 → Wp k_X11_nameOf d (18, [some (aR (some (94, p0, 0))), some (aL (jZ y1)), none, some (aI (iZ x3))], [], am_hp σ, t) Q) : Wp k_X11_nameOf d (12, [some (aR (some (94, p0, 0))), some (aL (jZ y1)), none, some (aI (iZ x3))], [], am_hp σ, t) Q := by
  refine w_s (c' := (13, [some (aR (some (94, p0, 0))), some (aL (jZ y1)), none, some (aI (iZ x3))], [aI (iZ x3)], am_hp σ, t)) rfl rfl ?_
  refine w_psh rfl zc_8 rfl ?_
  exact w_icge rfl h1 (by decide) rfl w2 w3

theorem b_X11_nameOf_18 {p0 : Nat} {y1 : Int} {x3 : Int} {r1 : Int} {r2 : Int} {σ σ1 σ2 : SG} {t : KT} (c1 : Ca d 338 [aR (some (94, p0, 0)), aI (iZ x3)] (am_hp σ) t (.inl (some (aI (iZ r1))), am_hp σ1, t)) (c2 : Ca d 148 [aL (jZ y1), aI (iZ x3), aI (iZ ((r1 - 97) + 1))] (am_hp σ1) t (.inl (some (aL (jZ r2))), am_hp σ2, t)) (w3 : Wp k_X11_nameOf d (4, [some (aR (some (94, p0, 0))), some (aL (jZ r2)), none, some (aI (iZ (x3 + 1)))], [], am_hp σ2, t) Q) : Wp k_X11_nameOf d (18, [some (aR (some (94, p0, 0))), some (aL (jZ y1)), none, some (aI (iZ x3))], [], am_hp σ, t) Q := by
  refine w_s (c' := (19, [some (aR (some (94, p0, 0))), some (aL (jZ y1)), none, some (aI (iZ x3))], [aL (jZ y1)], am_hp σ, t)) rfl rfl ?_
  refine w_s (c' := (20, [some (aR (some (94, p0, 0))), some (aL (jZ y1)), none, some (aI (iZ x3))], [aI (iZ x3), aL (jZ y1)], am_hp σ, t)) rfl rfl ?_
  refine w_s (c' := (21, [some (aR (some (94, p0, 0))), some (aL (jZ y1)), none, some (aI (iZ x3))], [aR (some (94, p0, 0)), aI (iZ x3), aL (jZ y1)], am_hp σ, t)) rfl rfl ?_
  refine w_s (c' := (22, [some (aR (some (94, p0, 0))), some (aL (jZ y1)), none, some (aI (iZ x3))], [aI (iZ x3), aR (some (94, p0, 0)), aI (iZ x3), aL (jZ y1)], am_hp σ, t)) rfl rfl ?_
  refine w_c0 (c' := (25, [some (aR (some (94, p0, 0))), some (aL (jZ y1)), none, some (aI (iZ x3))], [aI (iZ r1), aI (iZ x3), aL (jZ y1)], am_hp σ1, t)) rfl rfl (rcv_of (hp_94 _ p0)) rfl c1 (Nat.le_refl _) rfl ?_
  refine w_psh rfl zc_97 rfl ?_
  refine w_isub rfl rfl ?_
  refine w_psh rfl zc_1 rfl ?_
  refine w_iadd rfl rfl ?_
  refine w_c0 (c' := (33, [some (aR (some (94, p0, 0))), some (aL (jZ y1)), none, some (aI (iZ x3))], [aL (jZ r2)], am_hp σ2, t)) rfl rfl rfl rfl c2 (Nat.le_refl _) rfl ?_
  refine w_s (c' := (34, [some (aR (some (94, p0, 0))), some (aL (jZ r2)), none, some (aI (iZ x3))], [], am_hp σ2, t)) rfl rfl ?_
  refine w_inc (a := x3) (ls' := [some (aR (some (94, p0, 0))), some (aL (jZ r2)), none, some (aI (iZ (x3 + 1)))]) rfl rfl rfl zc_1 rfl rfl ?_
  refine w_s (c' := (4, [some (aR (some (94, p0, 0))), some (aL (jZ r2)), none, some (aI (iZ (x3 + 1)))], [], am_hp σ2, t)) rfl rfl ?_
  exact w3

theorem b_X11_nameOf_40 {p0 : Nat} {y1 : Int} {x3 : Int} {σ : SG} {t : KT} (q1 : Q (.inl (some (aL (jZ y1))), am_hp σ, t)) : Wp k_X11_nameOf d (40, [some (aR (some (94, p0, 0))), some (aL (jZ y1)), none, some (aI (iZ x3))], [], am_hp σ, t) Q := by
  refine w_s (c' := (41, [some (aR (some (94, p0, 0))), some (aL (jZ y1)), none, some (aI (iZ x3))], [aL (jZ y1)], am_hp σ, t)) rfl rfl ?_
  exact w_ret rfl rfl q1

theorem b_X11_packRows_0 {σ : SG} {t : KT} (w1 : Wp k_X11_packRows d (2, [some (aR (some (1, 0, 0))), some (aI (iZ 0))], [], am_hp σ, t) Q) : Wp k_X11_packRows d (0, [some (aR (some (1, 0, 0))), none], [], am_hp σ, t) Q := by
  refine w_psh rfl zc_0 rfl ?_
  refine w_s (c' := (2, [some (aR (some (1, 0, 0))), some (aI (iZ 0))], [], am_hp σ, t)) rfl rfl ?_
  exact w1

theorem e_X11_packRows {h : AH} {t : KT} {d : Nat} {P : RS → Prop} (w : Wp k_X11_packRows d (0, [some (aR (some (1, 0, 0))), none], [], h, t) P) : ∃ r, Ca (d + 1) 151 [aR (some (1, 0, 0))] h t r ∧ P r := ca_W rfl rfl rfl rfl w

theorem b_X11_packRows_2 {x1 : Int} {σ : SG} {t : KT} (h1 : -2147483648 ≤ x1 ∧ x1 < 2147483648) (h2 : -2147483648 ≤ σ.1 (8, 0, 0) 4 ∧ σ.1 (8, 0, 0) 4 < 2147483648) (w3 : σ.1 (8, 0, 0) 4 ≤ x1 → Wp k_X11_packRows d (65, [some (aR (some (1, 0, 0))), some (aI (iZ x1))], [], am_hp σ, t) Q) (w4 : x1 < σ.1 (8, 0, 0) 4 → Wp k_X11_packRows d (13, [some (aR (some (1, 0, 0))), some (aI (iZ x1))], [], am_hp σ, t) Q) : Wp k_X11_packRows d (2, [some (aR (some (1, 0, 0))), some (aI (iZ x1))], [], am_hp σ, t) Q := by
  refine w_s (c' := (3, [some (aR (some (1, 0, 0))), some (aI (iZ x1))], [aI (iZ x1)], am_hp σ, t)) rfl rfl ?_
  refine w_s (c' := (4, [some (aR (some (1, 0, 0))), some (aI (iZ x1))], [aR (some (1, 0, 0)), aI (iZ x1)], am_hp σ, t)) rfl rfl ?_
  refine w_get rfl (hp_1 _ 0) rfl rfl ?_
  refine w_get rfl (hp_8 _ 0) rfl rfl ?_
  exact w_icge rfl h1 h2 rfl w3 w4

theorem b_X11_packRows_13 {x1 : Int} {σ σ1 σ2 σ3 : SG} {t : KT} (c1 : Ca d 22 [aR (some (18, 0, 0)), aR (some (8, 0, 0)), aI (iZ x1)] (am_hp σ) t (.inl none, am_hp σ1, t)) (c2 : Ca d 28 [aR (some (18, 0, 0)), aI (iZ (σ1.1 (8, 0, 0) 5)), aR (some (13, 0, 0))] (am_hp σ1) t (.inl none, am_hp σ2, t)) (h3 : 0 ≤ x1 ∧ x1 < 4) (c4 : Ca d 6 [aR (some (28, x1.toNat, 0)), aR (some (18, 0, 0))] (am_hp σ2) t (.inl none, am_hp σ3, t)) (w5 : Wp k_X11_packRows d (2, [some (aR (some (1, 0, 0))), some (aI (iZ (x1 + 1)))], [], am_hp σ3, t) Q) : Wp k_X11_packRows d (13, [some (aR (some (1, 0, 0))), some (aI (iZ x1))], [], am_hp σ, t) Q := by
  refine w_s (c' := (14, [some (aR (some (1, 0, 0))), some (aI (iZ x1))], [aR (some (1, 0, 0))], am_hp σ, t)) rfl rfl ?_
  refine w_get rfl (hp_1 _ 0) rfl rfl ?_
  refine w_s (c' := (18, [some (aR (some (1, 0, 0))), some (aI (iZ x1))], [aR (some (1, 0, 0)), aR (some (18, 0, 0))], am_hp σ, t)) rfl rfl ?_
  refine w_get rfl (hp_1 _ 0) rfl rfl ?_
  refine w_s (c' := (22, [some (aR (some (1, 0, 0))), some (aI (iZ x1))], [aI (iZ x1), aR (some (8, 0, 0)), aR (some (18, 0, 0))], am_hp σ, t)) rfl rfl ?_
  refine w_c0 (c' := (25, [some (aR (some (1, 0, 0))), some (aI (iZ x1))], [], am_hp σ1, t)) rfl rfl (rcv_of (hp_18 _ 0)) rfl c1 (Nat.le_refl _) rfl ?_
  refine w_s (c' := (26, [some (aR (some (1, 0, 0))), some (aI (iZ x1))], [aR (some (1, 0, 0))], am_hp σ1, t)) rfl rfl ?_
  refine w_get rfl (hp_1 _ 0) rfl rfl ?_
  refine w_s (c' := (30, [some (aR (some (1, 0, 0))), some (aI (iZ x1))], [aR (some (1, 0, 0)), aR (some (18, 0, 0))], am_hp σ1, t)) rfl rfl ?_
  refine w_get rfl (hp_1 _ 0) rfl rfl ?_
  refine w_get rfl (hp_8 _ 0) rfl rfl ?_
  refine w_s (c' := (37, [some (aR (some (1, 0, 0))), some (aI (iZ x1))], [aR (some (1, 0, 0)), aI (iZ (σ1.1 (8, 0, 0) 5)), aR (some (18, 0, 0))], am_hp σ1, t)) rfl rfl ?_
  refine w_get rfl (hp_1 _ 0) rfl rfl ?_
  refine w_get rfl (hp_8 _ 0) rfl rfl ?_
  refine w_c0 (c' := (46, [some (aR (some (1, 0, 0))), some (aI (iZ x1))], [], am_hp σ2, t)) rfl rfl (rcv_of (hp_18 _ 0)) rfl c2 (Nat.le_refl _) rfl ?_
  refine w_s (c' := (47, [some (aR (some (1, 0, 0))), some (aI (iZ x1))], [aR (some (1, 0, 0))], am_hp σ2, t)) rfl rfl ?_
  refine w_get rfl (hp_1 _ 0) rfl rfl ?_
  refine w_s (c' := (51, [some (aR (some (1, 0, 0))), some (aI (iZ x1))], [aI (iZ x1), aR (some (17, 0, 0))], am_hp σ2, t)) rfl rfl ?_
  refine w_aal rfl (hp_17 _ 0) h3 rfl rfl ?_
  refine w_s (c' := (53, [some (aR (some (1, 0, 0))), some (aI (iZ x1))], [aR (some (1, 0, 0)), aR (some (28, x1.toNat, 0))], am_hp σ2, t)) rfl rfl ?_
  refine w_get rfl (hp_1 _ 0) rfl rfl ?_
  refine w_c0 (c' := (59, [some (aR (some (1, 0, 0))), some (aI (iZ x1))], [], am_hp σ3, t)) rfl rfl (rcv_of (hp_28 _ x1.toNat)) rfl c4 (Nat.le_refl _) rfl ?_
  refine w_inc (a := x1) (ls' := [some (aR (some (1, 0, 0))), some (aI (iZ (x1 + 1)))]) rfl rfl rfl zc_1 rfl rfl ?_
  refine w_s (c' := (2, [some (aR (some (1, 0, 0))), some (aI (iZ (x1 + 1)))], [], am_hp σ3, t)) rfl rfl ?_
  exact w5

theorem b_X11_packRows_65 {x1 : Int} {σ : SG} {t : KT} (q1 : Q (.inl none, am_hp σ, t)) : Wp k_X11_packRows d (65, [some (aR (some (1, 0, 0))), some (aI (iZ x1))], [], am_hp σ, t) Q := by
  exact w_f rfl rfl q1

theorem b_X11_allWords_0 {σ : SG} {t : KT} (w1 : Wp k_X11_allWords d (4, [some (aR (some (1, 0, 0))), some (aI (iZ 0)), some (aI (iZ 0))], [], am_hp σ, t) Q) : Wp k_X11_allWords d (0, [some (aR (some (1, 0, 0))), none, none], [], am_hp σ, t) Q := by
  refine w_psh rfl zc_0 rfl ?_
  refine w_s (c' := (2, [some (aR (some (1, 0, 0))), some (aI (iZ 0)), none], [], am_hp σ, t)) rfl rfl ?_
  refine w_psh rfl zc_0 rfl ?_
  refine w_s (c' := (4, [some (aR (some (1, 0, 0))), some (aI (iZ 0)), some (aI (iZ 0))], [], am_hp σ, t)) rfl rfl ?_
  exact w1

theorem e_X11_allWords {h : AH} {t : KT} {d : Nat} {P : RS → Prop} (w : Wp k_X11_allWords d (0, [some (aR (some (1, 0, 0))), none, none], [], h, t) P) : ∃ r, Ca (d + 1) 152 [aR (some (1, 0, 0))] h t r ∧ P r := ca_W rfl rfl rfl rfl w

theorem b_X11_allWords_4 {x1 : Int} {x2 : Int} {σ : SG} {t : KT} (h1 : -2147483648 ≤ x2 ∧ x2 < 2147483648) (h2 : -2147483648 ≤ σ.1 (8, 0, 0) 4 ∧ σ.1 (8, 0, 0) 4 < 2147483648) (w3 : σ.1 (8, 0, 0) 4 ≤ x2 → Wp k_X11_allWords d (33, [some (aR (some (1, 0, 0))), some (aI (iZ x1)), some (aI (iZ x2))], [], am_hp σ, t) Q) (w4 : x2 < σ.1 (8, 0, 0) 4 → Wp k_X11_allWords d (15, [some (aR (some (1, 0, 0))), some (aI (iZ x1)), some (aI (iZ x2))], [], am_hp σ, t) Q) : Wp k_X11_allWords d (4, [some (aR (some (1, 0, 0))), some (aI (iZ x1)), some (aI (iZ x2))], [], am_hp σ, t) Q := by
  refine w_s (c' := (5, [some (aR (some (1, 0, 0))), some (aI (iZ x1)), some (aI (iZ x2))], [aI (iZ x2)], am_hp σ, t)) rfl rfl ?_
  refine w_s (c' := (6, [some (aR (some (1, 0, 0))), some (aI (iZ x1)), some (aI (iZ x2))], [aR (some (1, 0, 0)), aI (iZ x2)], am_hp σ, t)) rfl rfl ?_
  refine w_get rfl (hp_1 _ 0) rfl rfl ?_
  refine w_get rfl (hp_8 _ 0) rfl rfl ?_
  exact w_icge rfl h1 h2 rfl w3 w4

theorem b_X11_allWords_15 {x1 : Int} {x2 : Int} {σ : SG} {t : KT} (h1 : 0 ≤ x2 ∧ x2 < 4) (w2 : Wp k_X11_allWords d (4, [some (aR (some (1, 0, 0))), some (aI (iZ (x1 + (σ.1 (28, x2.toNat, 0) 2)))), some (aI (iZ (x2 + 1)))], [], am_hp σ, t) Q) : Wp k_X11_allWords d (15, [some (aR (some (1, 0, 0))), some (aI (iZ x1)), some (aI (iZ x2))], [], am_hp σ, t) Q := by
  refine w_s (c' := (16, [some (aR (some (1, 0, 0))), some (aI (iZ x1)), some (aI (iZ x2))], [aI (iZ x1)], am_hp σ, t)) rfl rfl ?_
  refine w_s (c' := (17, [some (aR (some (1, 0, 0))), some (aI (iZ x1)), some (aI (iZ x2))], [aR (some (1, 0, 0)), aI (iZ x1)], am_hp σ, t)) rfl rfl ?_
  refine w_get rfl (hp_1 _ 0) rfl rfl ?_
  refine w_s (c' := (21, [some (aR (some (1, 0, 0))), some (aI (iZ x1)), some (aI (iZ x2))], [aI (iZ x2), aR (some (17, 0, 0)), aI (iZ x1)], am_hp σ, t)) rfl rfl ?_
  refine w_aal rfl (hp_17 _ 0) h1 rfl rfl ?_
  refine w_get rfl (hp_28 _ x2.toNat) rfl rfl ?_
  refine w_iadd rfl rfl ?_
  refine w_s (c' := (27, [some (aR (some (1, 0, 0))), some (aI (iZ (x1 + (σ.1 (28, x2.toNat, 0) 2)))), some (aI (iZ x2))], [], am_hp σ, t)) rfl rfl ?_
  refine w_inc (a := x2) (ls' := [some (aR (some (1, 0, 0))), some (aI (iZ (x1 + (σ.1 (28, x2.toNat, 0) 2)))), some (aI (iZ (x2 + 1)))]) rfl rfl rfl zc_1 rfl rfl ?_
  refine w_s (c' := (4, [some (aR (some (1, 0, 0))), some (aI (iZ (x1 + (σ.1 (28, x2.toNat, 0) 2)))), some (aI (iZ (x2 + 1)))], [], am_hp σ, t)) rfl rfl ?_
  exact w2

theorem b_X11_allWords_33 {x1 : Int} {x2 : Int} {σ : SG} {t : KT} (q1 : Q (.inl (some (aI (iZ x1))), am_hp σ, t)) : Wp k_X11_allWords d (33, [some (aR (some (1, 0, 0))), some (aI (iZ x1)), some (aI (iZ x2))], [], am_hp σ, t) Q := by
  refine w_s (c' := (34, [some (aR (some (1, 0, 0))), some (aI (iZ x1)), some (aI (iZ x2))], [aI (iZ x1)], am_hp σ, t)) rfl rfl ?_
  exact w_ret rfl rfl q1

theorem b_X11_allPrices_0 {σ : SG} {t : KT} (w1 : Wp k_X11_allPrices d (4, [some (aR (some (1, 0, 0))), some (aI (iZ 0)), some (aI (iZ 0))], [], am_hp σ, t) Q) : Wp k_X11_allPrices d (0, [some (aR (some (1, 0, 0))), none, none], [], am_hp σ, t) Q := by
  refine w_psh rfl zc_0 rfl ?_
  refine w_s (c' := (2, [some (aR (some (1, 0, 0))), some (aI (iZ 0)), none], [], am_hp σ, t)) rfl rfl ?_
  refine w_psh rfl zc_0 rfl ?_
  refine w_s (c' := (4, [some (aR (some (1, 0, 0))), some (aI (iZ 0)), some (aI (iZ 0))], [], am_hp σ, t)) rfl rfl ?_
  exact w1

theorem e_X11_allPrices {h : AH} {t : KT} {d : Nat} {P : RS → Prop} (w : Wp k_X11_allPrices d (0, [some (aR (some (1, 0, 0))), none, none], [], h, t) P) : ∃ r, Ca (d + 1) 153 [aR (some (1, 0, 0))] h t r ∧ P r := ca_W rfl rfl rfl rfl w

theorem b_X11_allPrices_4 {x1 : Int} {x2 : Int} {σ : SG} {t : KT} (h1 : -2147483648 ≤ x2 ∧ x2 < 2147483648) (h2 : -2147483648 ≤ σ.1 (8, 0, 0) 4 ∧ σ.1 (8, 0, 0) 4 < 2147483648) (w3 : σ.1 (8, 0, 0) 4 ≤ x2 → Wp k_X11_allPrices d (40, [some (aR (some (1, 0, 0))), some (aI (iZ x1)), some (aI (iZ x2))], [], am_hp σ, t) Q) (w4 : x2 < σ.1 (8, 0, 0) 4 → Wp k_X11_allPrices d (15, [some (aR (some (1, 0, 0))), some (aI (iZ x1)), some (aI (iZ x2))], [], am_hp σ, t) Q) : Wp k_X11_allPrices d (4, [some (aR (some (1, 0, 0))), some (aI (iZ x1)), some (aI (iZ x2))], [], am_hp σ, t) Q := by
  refine w_s (c' := (5, [some (aR (some (1, 0, 0))), some (aI (iZ x1)), some (aI (iZ x2))], [aI (iZ x2)], am_hp σ, t)) rfl rfl ?_
  refine w_s (c' := (6, [some (aR (some (1, 0, 0))), some (aI (iZ x1)), some (aI (iZ x2))], [aR (some (1, 0, 0)), aI (iZ x2)], am_hp σ, t)) rfl rfl ?_
  refine w_get rfl (hp_1 _ 0) rfl rfl ?_
  refine w_get rfl (hp_8 _ 0) rfl rfl ?_
  exact w_icge rfl h1 h2 rfl w3 w4

theorem b_X11_allPrices_15 {x1 : Int} {x2 : Int} {r1 : Int} {σ σ1 : SG} {t : KT} (h1 : 0 ≤ x2 ∧ x2 < 4) (c2 : Ca d 15 [aR (some (28, x2.toNat, 0)), aR (some (13, 0, 0))] (am_hp σ) t (.inl (some (aI (iZ r1))), am_hp σ1, t)) (w3 : Wp k_X11_allPrices d (4, [some (aR (some (1, 0, 0))), some (aI (iZ (x1 + r1))), some (aI (iZ (x2 + 1)))], [], am_hp σ1, t) Q) : Wp k_X11_allPrices d (15, [some (aR (some (1, 0, 0))), some (aI (iZ x1)), some (aI (iZ x2))], [], am_hp σ, t) Q := by
  refine w_s (c' := (16, [some (aR (some (1, 0, 0))), some (aI (iZ x1)), some (aI (iZ x2))], [aI (iZ x1)], am_hp σ, t)) rfl rfl ?_
  refine w_s (c' := (17, [some (aR (some (1, 0, 0))), some (aI (iZ x1)), some (aI (iZ x2))], [aR (some (1, 0, 0)), aI (iZ x1)], am_hp σ, t)) rfl rfl ?_
  refine w_get rfl (hp_1 _ 0) rfl rfl ?_
  refine w_s (c' := (21, [some (aR (some (1, 0, 0))), some (aI (iZ x1)), some (aI (iZ x2))], [aI (iZ x2), aR (some (17, 0, 0)), aI (iZ x1)], am_hp σ, t)) rfl rfl ?_
  refine w_aal rfl (hp_17 _ 0) h1 rfl rfl ?_
  refine w_s (c' := (23, [some (aR (some (1, 0, 0))), some (aI (iZ x1)), some (aI (iZ x2))], [aR (some (1, 0, 0)), aR (some (28, x2.toNat, 0)), aI (iZ x1)], am_hp σ, t)) rfl rfl ?_
  refine w_get rfl (hp_1 _ 0) rfl rfl ?_
  refine w_get rfl (hp_8 _ 0) rfl rfl ?_
  refine w_c0 (c' := (32, [some (aR (some (1, 0, 0))), some (aI (iZ x1)), some (aI (iZ x2))], [aI (iZ r1), aI (iZ x1)], am_hp σ1, t)) rfl rfl (rcv_of (hp_28 _ x2.toNat)) rfl c2 (Nat.le_refl _) rfl ?_
  refine w_iadd rfl rfl ?_
  refine w_s (c' := (34, [some (aR (some (1, 0, 0))), some (aI (iZ (x1 + r1))), some (aI (iZ x2))], [], am_hp σ1, t)) rfl rfl ?_
  refine w_inc (a := x2) (ls' := [some (aR (some (1, 0, 0))), some (aI (iZ (x1 + r1))), some (aI (iZ (x2 + 1)))]) rfl rfl rfl zc_1 rfl rfl ?_
  refine w_s (c' := (4, [some (aR (some (1, 0, 0))), some (aI (iZ (x1 + r1))), some (aI (iZ (x2 + 1)))], [], am_hp σ1, t)) rfl rfl ?_
  exact w3

theorem b_X11_allPrices_40 {x1 : Int} {x2 : Int} {σ : SG} {t : KT} (q1 : Q (.inl (some (aI (iZ x1))), am_hp σ, t)) : Wp k_X11_allPrices d (40, [some (aR (some (1, 0, 0))), some (aI (iZ x1)), some (aI (iZ x2))], [], am_hp σ, t) Q := by
  refine w_s (c' := (41, [some (aR (some (1, 0, 0))), some (aI (iZ x1)), some (aI (iZ x2))], [aI (iZ x1)], am_hp σ, t)) rfl rfl ?_
  exact w_ret rfl rfl q1

theorem b_X11_allWordsOf_0 {x1 : Int} {σ : SG} {t : KT} (w1 : Wp k_X11_allWordsOf d (4, [some (aR (some (1, 0, 0))), some (aI (iZ x1)), some (aI (iZ 0)), some (aI (iZ 0))], [], am_hp σ, t) Q) : Wp k_X11_allWordsOf d (0, [some (aR (some (1, 0, 0))), some (aI (iZ x1)), none, none], [], am_hp σ, t) Q := by
  refine w_psh rfl zc_0 rfl ?_
  refine w_s (c' := (2, [some (aR (some (1, 0, 0))), some (aI (iZ x1)), some (aI (iZ 0)), none], [], am_hp σ, t)) rfl rfl ?_
  refine w_psh rfl zc_0 rfl ?_
  refine w_s (c' := (4, [some (aR (some (1, 0, 0))), some (aI (iZ x1)), some (aI (iZ 0)), some (aI (iZ 0))], [], am_hp σ, t)) rfl rfl ?_
  exact w1

theorem e_X11_allWordsOf {x1 : Int} {h : AH} {t : KT} {d : Nat} {P : RS → Prop} (w : Wp k_X11_allWordsOf d (0, [some (aR (some (1, 0, 0))), some (aI (iZ x1)), none, none], [], h, t) P) : ∃ r, Ca (d + 1) 154 [aR (some (1, 0, 0)), aI (iZ x1)] h t r ∧ P r := ca_W rfl rfl rfl rfl w

theorem b_X11_allWordsOf_4 {x1 : Int} {x2 : Int} {x3 : Int} {σ : SG} {t : KT} (h1 : -2147483648 ≤ x3 ∧ x3 < 2147483648) (h2 : -2147483648 ≤ σ.1 (8, 0, 0) 4 ∧ σ.1 (8, 0, 0) 4 < 2147483648) (w3 : σ.1 (8, 0, 0) 4 ≤ x3 → Wp k_X11_allWordsOf d (34, [some (aR (some (1, 0, 0))), some (aI (iZ x1)), some (aI (iZ x2)), some (aI (iZ x3))], [], am_hp σ, t) Q) (w4 : x3 < σ.1 (8, 0, 0) 4 → Wp k_X11_allWordsOf d (15, [some (aR (some (1, 0, 0))), some (aI (iZ x1)), some (aI (iZ x2)), some (aI (iZ x3))], [], am_hp σ, t) Q) : Wp k_X11_allWordsOf d (4, [some (aR (some (1, 0, 0))), some (aI (iZ x1)), some (aI (iZ x2)), some (aI (iZ x3))], [], am_hp σ, t) Q := by
  refine w_s (c' := (5, [some (aR (some (1, 0, 0))), some (aI (iZ x1)), some (aI (iZ x2)), some (aI (iZ x3))], [aI (iZ x3)], am_hp σ, t)) rfl rfl ?_
  refine w_s (c' := (6, [some (aR (some (1, 0, 0))), some (aI (iZ x1)), some (aI (iZ x2)), some (aI (iZ x3))], [aR (some (1, 0, 0)), aI (iZ x3)], am_hp σ, t)) rfl rfl ?_
  refine w_get rfl (hp_1 _ 0) rfl rfl ?_
  refine w_get rfl (hp_8 _ 0) rfl rfl ?_
  exact w_icge rfl h1 h2 rfl w3 w4

theorem b_X11_allWordsOf_15 {x1 : Int} {x2 : Int} {x3 : Int} {r1 : Int} {σ σ1 : SG} {t : KT} (h1 : 0 ≤ x3 ∧ x3 < 4) (c2 : Ca d 14 [aR (some (28, x3.toNat, 0)), aI (iZ x1)] (am_hp σ) t (.inl (some (aI (iZ r1))), am_hp σ1, t)) (w3 : Wp k_X11_allWordsOf d (4, [some (aR (some (1, 0, 0))), some (aI (iZ x1)), some (aI (iZ (x2 + r1))), some (aI (iZ (x3 + 1)))], [], am_hp σ1, t) Q) : Wp k_X11_allWordsOf d (15, [some (aR (some (1, 0, 0))), some (aI (iZ x1)), some (aI (iZ x2)), some (aI (iZ x3))], [], am_hp σ, t) Q := by
  refine w_s (c' := (16, [some (aR (some (1, 0, 0))), some (aI (iZ x1)), some (aI (iZ x2)), some (aI (iZ x3))], [aI (iZ x2)], am_hp σ, t)) rfl rfl ?_
  refine w_s (c' := (17, [some (aR (some (1, 0, 0))), some (aI (iZ x1)), some (aI (iZ x2)), some (aI (iZ x3))], [aR (some (1, 0, 0)), aI (iZ x2)], am_hp σ, t)) rfl rfl ?_
  refine w_get rfl (hp_1 _ 0) rfl rfl ?_
  refine w_s (c' := (21, [some (aR (some (1, 0, 0))), some (aI (iZ x1)), some (aI (iZ x2)), some (aI (iZ x3))], [aI (iZ x3), aR (some (17, 0, 0)), aI (iZ x2)], am_hp σ, t)) rfl rfl ?_
  refine w_aal rfl (hp_17 _ 0) h1 rfl rfl ?_
  refine w_s (c' := (23, [some (aR (some (1, 0, 0))), some (aI (iZ x1)), some (aI (iZ x2)), some (aI (iZ x3))], [aI (iZ x1), aR (some (28, x3.toNat, 0)), aI (iZ x2)], am_hp σ, t)) rfl rfl ?_
  refine w_c0 (c' := (26, [some (aR (some (1, 0, 0))), some (aI (iZ x1)), some (aI (iZ x2)), some (aI (iZ x3))], [aI (iZ r1), aI (iZ x2)], am_hp σ1, t)) rfl rfl (rcv_of (hp_28 _ x3.toNat)) rfl c2 (Nat.le_refl _) rfl ?_
  refine w_iadd rfl rfl ?_
  refine w_s (c' := (28, [some (aR (some (1, 0, 0))), some (aI (iZ x1)), some (aI (iZ (x2 + r1))), some (aI (iZ x3))], [], am_hp σ1, t)) rfl rfl ?_
  refine w_inc (a := x3) (ls' := [some (aR (some (1, 0, 0))), some (aI (iZ x1)), some (aI (iZ (x2 + r1))), some (aI (iZ (x3 + 1)))]) rfl rfl rfl zc_1 rfl rfl ?_
  refine w_s (c' := (4, [some (aR (some (1, 0, 0))), some (aI (iZ x1)), some (aI (iZ (x2 + r1))), some (aI (iZ (x3 + 1)))], [], am_hp σ1, t)) rfl rfl ?_
  exact w3

theorem b_X11_allWordsOf_34 {x1 : Int} {x2 : Int} {x3 : Int} {σ : SG} {t : KT} (q1 : Q (.inl (some (aI (iZ x2))), am_hp σ, t)) : Wp k_X11_allWordsOf d (34, [some (aR (some (1, 0, 0))), some (aI (iZ x1)), some (aI (iZ x2)), some (aI (iZ x3))], [], am_hp σ, t) Q := by
  refine w_s (c' := (35, [some (aR (some (1, 0, 0))), some (aI (iZ x1)), some (aI (iZ x2)), some (aI (iZ x3))], [aI (iZ x2)], am_hp σ, t)) rfl rfl ?_
  exact w_ret rfl rfl q1

theorem b_X11_entriesOf_0 {p1 : Nat} {σ : SG} {t : KT} (w1 : Wp k_X11_entriesOf d (2, [some (aR (some (1, 0, 0))), some (aR (some (28, p1, 0))), some (aI (iZ 0))], [], am_hp σ, t) Q) : Wp k_X11_entriesOf d (0, [some (aR (some (1, 0, 0))), some (aR (some (28, p1, 0))), none], [], am_hp σ, t) Q := by
  refine w_psh rfl zc_0 rfl ?_
  refine w_s (c' := (2, [some (aR (some (1, 0, 0))), some (aR (some (28, p1, 0))), some (aI (iZ 0))], [], am_hp σ, t)) rfl rfl ?_
  exact w1

theorem e_X11_entriesOf {p1 : Nat} {h : AH} {t : KT} {d : Nat} {P : RS → Prop} (w : Wp k_X11_entriesOf d (0, [some (aR (some (1, 0, 0))), some (aR (some (28, p1, 0))), none], [], h, t) P) : ∃ r, Ca (d + 1) 155 [aR (some (1, 0, 0)), aR (some (28, p1, 0))] h t r ∧ P r := ca_W rfl rfl rfl rfl w

theorem b_X11_entriesOf_2 {p1 : Nat} {x2 : Int} {σ : SG} {t : KT} (h1 : -2147483648 ≤ x2 ∧ x2 < 2147483648) (h2 : -2147483648 ≤ σ.1 (28, p1, 0) 2 ∧ σ.1 (28, p1, 0) 2 < 2147483648) (w3 : σ.1 (28, p1, 0) 2 ≤ x2 → Wp k_X11_entriesOf d (32, [some (aR (some (1, 0, 0))), some (aR (some (28, p1, 0))), some (aI (iZ x2))], [], am_hp σ, t) Q) (w4 : x2 < σ.1 (28, p1, 0) 2 → Wp k_X11_entriesOf d (10, [some (aR (some (1, 0, 0))), some (aR (some (28, p1, 0))), some (aI (iZ x2))], [], am_hp σ, t) Q) : Wp k_X11_entriesOf d (2, [some (aR (some (1, 0, 0))), some (aR (some (28, p1, 0))), some (aI (iZ x2))], [], am_hp σ, t) Q := by
  refine w_s (c' := (3, [some (aR (some (1, 0, 0))), some (aR (some (28, p1, 0))), some (aI (iZ x2))], [aI (iZ x2)], am_hp σ, t)) rfl rfl ?_
  refine w_s (c' := (4, [some (aR (some (1, 0, 0))), some (aR (some (28, p1, 0))), some (aI (iZ x2))], [aR (some (28, p1, 0)), aI (iZ x2)], am_hp σ, t)) rfl rfl ?_
  refine w_get rfl (hp_28 _ p1) rfl rfl ?_
  exact w_icge rfl h1 h2 rfl w3 w4

theorem b_X11_entriesOf_10 {p1 : Nat} {x2 : Int} {σ : SG} {t : KT} (h1 : -2147483648 ≤ x2 * (σ.1 (8, 0, 0) 6) ∧ x2 * (σ.1 (8, 0, 0) 6) < 2147483648) (h2 : -2147483648 ≤ σ.1 (28, p1, 0) 2 ∧ σ.1 (28, p1, 0) 2 < 2147483648) (w3 : σ.1 (28, p1, 0) 2 ≤ x2 * (σ.1 (8, 0, 0) 6) → Wp k_X11_entriesOf d (32, [some (aR (some (1, 0, 0))), some (aR (some (28, p1, 0))), some (aI (iZ x2))], [], am_hp σ, t) Q) (w4 : x2 * (σ.1 (8, 0, 0) 6) < σ.1 (28, p1, 0) 2 → Wp k_X11_entriesOf d (26, [some (aR (some (1, 0, 0))), some (aR (some (28, p1, 0))), some (aI (iZ x2))], [], am_hp σ, t) Q) : Wp k_X11_entriesOf d (10, [some (aR (some (1, 0, 0))), some (aR (some (28, p1, 0))), some (aI (iZ x2))], [], am_hp σ, t) Q := by
  refine w_s (c' := (11, [some (aR (some (1, 0, 0))), some (aR (some (28, p1, 0))), some (aI (iZ x2))], [aI (iZ x2)], am_hp σ, t)) rfl rfl ?_
  refine w_s (c' := (12, [some (aR (some (1, 0, 0))), some (aR (some (28, p1, 0))), some (aI (iZ x2))], [aR (some (1, 0, 0)), aI (iZ x2)], am_hp σ, t)) rfl rfl ?_
  refine w_get rfl (hp_1 _ 0) rfl rfl ?_
  refine w_get rfl (hp_8 _ 0) rfl rfl ?_
  refine w_imul rfl rfl ?_
  refine w_s (c' := (20, [some (aR (some (1, 0, 0))), some (aR (some (28, p1, 0))), some (aI (iZ x2))], [aR (some (28, p1, 0)), aI (iZ (x2 * (σ.1 (8, 0, 0) 6)))], am_hp σ, t)) rfl rfl ?_
  refine w_get rfl (hp_28 _ p1) rfl rfl ?_
  exact w_icge rfl h1 h2 rfl w3 w4

theorem b_X11_entriesOf_26 {p1 : Nat} {x2 : Int} {σ : SG} {t : KT} (w1 : Wp k_X11_entriesOf d (2, [some (aR (some (1, 0, 0))), some (aR (some (28, p1, 0))), some (aI (iZ (x2 + 1)))], [], am_hp σ, t) Q) : Wp k_X11_entriesOf d (26, [some (aR (some (1, 0, 0))), some (aR (some (28, p1, 0))), some (aI (iZ x2))], [], am_hp σ, t) Q := by
  refine w_inc (a := x2) (ls' := [some (aR (some (1, 0, 0))), some (aR (some (28, p1, 0))), some (aI (iZ (x2 + 1)))]) rfl rfl rfl zc_1 rfl rfl ?_
  refine w_s (c' := (2, [some (aR (some (1, 0, 0))), some (aR (some (28, p1, 0))), some (aI (iZ (x2 + 1)))], [], am_hp σ, t)) rfl rfl ?_
  exact w1

theorem b_X11_entriesOf_32 {p1 : Nat} {x2 : Int} {σ : SG} {t : KT} (q1 : Q (.inl (some (aI (iZ x2))), am_hp σ, t)) : Wp k_X11_entriesOf d (32, [some (aR (some (1, 0, 0))), some (aR (some (28, p1, 0))), some (aI (iZ x2))], [], am_hp σ, t) Q := by
  refine w_s (c' := (33, [some (aR (some (1, 0, 0))), some (aR (some (28, p1, 0))), some (aI (iZ x2))], [aI (iZ x2)], am_hp σ, t)) rfl rfl ?_
  exact w_ret rfl rfl q1

theorem b_X11_hasEntry_0 {x1 : Int} {x2 : Int} {σ : SG} {t : KT} (h1 : -2147483648 ≤ x2 ∧ x2 < 2147483648) (w2 : x2 < 0 → Wp k_X11_hasEntry d (22, [some (aR (some (1, 0, 0))), some (aI (iZ x1)), some (aI (iZ x2))], [], am_hp σ, t) Q) (w3 : 0 ≤ x2 → Wp k_X11_hasEntry d (4, [some (aR (some (1, 0, 0))), some (aI (iZ x1)), some (aI (iZ x2))], [], am_hp σ, t) Q) : Wp k_X11_hasEntry d (0, [some (aR (some (1, 0, 0))), some (aI (iZ x1)), some (aI (iZ x2))], [], am_hp σ, t) Q := by
  refine w_s (c' := (1, [some (aR (some (1, 0, 0))), some (aI (iZ x1)), some (aI (iZ x2))], [aI (iZ x2)], am_hp σ, t)) rfl rfl ?_
  exact w_iflt rfl h1 rfl w2 w3

theorem e_X11_hasEntry {x1 : Int} {x2 : Int} {h : AH} {t : KT} {d : Nat} {P : RS → Prop} (w : Wp k_X11_hasEntry d (0, [some (aR (some (1, 0, 0))), some (aI (iZ x1)), some (aI (iZ x2))], [], h, t) P) : ∃ r, Ca (d + 1) 156 [aR (some (1, 0, 0)), aI (iZ x1), aI (iZ x2)] h t r ∧ P r := ca_W rfl rfl rfl rfl w

theorem b_X11_hasEntry_4 {x1 : Int} {x2 : Int} {r1 : Int} {σ σ1 : SG} {t : KT} (h1 : 0 ≤ x1 ∧ x1 < 4) (c2 : Ca d 155 [aR (some (1, 0, 0)), aR (some (28, x1.toNat, 0))] (am_hp σ) t (.inl (some (aI (iZ r1))), am_hp σ1, t)) (h3 : -2147483648 ≤ x2 ∧ x2 < 2147483648) (h4 : -2147483648 ≤ r1 ∧ r1 < 2147483648) (w5 : r1 ≤ x2 → Wp k_X11_hasEntry d (22, [some (aR (some (1, 0, 0))), some (aI (iZ x1)), some (aI (iZ x2))], [], am_hp σ1, t) Q) (w6 : x2 < r1 → Wp k_X11_hasEntry d (18, [some (aR (some (1, 0, 0))), some (aI (iZ x1)), some (aI (iZ x2))], [], am_hp σ1, t) Q) : Wp k_X11_hasEntry d (4, [some (aR (some (1, 0, 0))), some (aI (iZ x1)), some (aI (iZ x2))], [], am_hp σ, t) Q := by
  refine w_s (c' := (5, [some (aR (some (1, 0, 0))), some (aI (iZ x1)), some (aI (iZ x2))], [aI (iZ x2)], am_hp σ, t)) rfl rfl ?_
  refine w_s (c' := (6, [some (aR (some (1, 0, 0))), some (aI (iZ x1)), some (aI (iZ x2))], [aR (some (1, 0, 0)), aI (iZ x2)], am_hp σ, t)) rfl rfl ?_
  refine w_s (c' := (7, [some (aR (some (1, 0, 0))), some (aI (iZ x1)), some (aI (iZ x2))], [aR (some (1, 0, 0)), aR (some (1, 0, 0)), aI (iZ x2)], am_hp σ, t)) rfl rfl ?_
  refine w_get rfl (hp_1 _ 0) rfl rfl ?_
  refine w_s (c' := (11, [some (aR (some (1, 0, 0))), some (aI (iZ x1)), some (aI (iZ x2))], [aI (iZ x1), aR (some (17, 0, 0)), aR (some (1, 0, 0)), aI (iZ x2)], am_hp σ, t)) rfl rfl ?_
  refine w_aal rfl (hp_17 _ 0) h1 rfl rfl ?_
  refine w_c0 (c' := (15, [some (aR (some (1, 0, 0))), some (aI (iZ x1)), some (aI (iZ x2))], [aI (iZ r1), aI (iZ x2)], am_hp σ1, t)) rfl rfl (rcv_of (hp_1 _ 0)) rfl c2 (Nat.le_refl _) rfl ?_
  exact w_icge rfl h3 h4 rfl w5 w6

theorem b_X11_hasEntry_18 {x1 : Int} {x2 : Int} {σ : SG} {t : KT} (w1 : Wp k_X11_hasEntry d (23, [some (aR (some (1, 0, 0))), some (aI (iZ x1)), some (aI (iZ x2))], [aI (iZ 1)], am_hp σ, t) Q) : Wp k_X11_hasEntry d (18, [some (aR (some (1, 0, 0))), some (aI (iZ x1)), some (aI (iZ x2))], [], am_hp σ, t) Q := by
  refine w_psh rfl zc_1 rfl ?_
  refine w_s (c' := (23, [some (aR (some (1, 0, 0))), some (aI (iZ x1)), some (aI (iZ x2))], [aI (iZ 1)], am_hp σ, t)) rfl rfl ?_
  exact w1

theorem b_X11_hasEntry_22 {x1 : Int} {x2 : Int} {σ : SG} {t : KT} (w1 : Wp k_X11_hasEntry d (23, [some (aR (some (1, 0, 0))), some (aI (iZ x1)), some (aI (iZ x2))], [aI (iZ 0)], am_hp σ, t) Q) : Wp k_X11_hasEntry d (22, [some (aR (some (1, 0, 0))), some (aI (iZ x1)), some (aI (iZ x2))], [], am_hp σ, t) Q := by
  refine w_psh rfl zc_0 rfl ?_
  exact w1

theorem b_X11_hasEntry_23 {x1 : Int} {x2 : Int} {xs0 : Int} {σ : SG} {t : KT} (h1 : xs0 = 0 ∨ xs0 = 1) (q2 : Q (.inl (some (aI (iZ xs0))), am_hp σ, t)) : Wp k_X11_hasEntry d (23, [some (aR (some (1, 0, 0))), some (aI (iZ x1)), some (aI (iZ x2))], [aI (iZ xs0)], am_hp σ, t) Q := by
  exact w_ret rfl (frt_b h1) q2

theorem b_X11_wordsBehindEntry_0 {x0 : Int} {x1 : Int} {σ : SG} {t : KT} (h1 : -2147483648 ≤ x1 ∧ x1 < 2147483648) (w2 : 1 ≤ x1 → Wp k_X11_wordsBehindEntry d (9, [some (aI (iZ x0)), some (aI (iZ x1))], [], am_hp σ, t) Q) (w3 : x1 < 1 → Wp k_X11_wordsBehindEntry d (5, [some (aI (iZ x0)), some (aI (iZ x1))], [], am_hp σ, t) Q) : Wp k_X11_wordsBehindEntry d (0, [some (aI (iZ x0)), some (aI (iZ x1))], [], am_hp σ, t) Q := by
  refine w_s (c' := (1, [some (aI (iZ x0)), some (aI (iZ x1))], [aI (iZ x1)], am_hp σ, t)) rfl rfl ?_
  refine w_psh rfl zc_1 rfl ?_
  exact w_icge rfl h1 (by decide) rfl w2 w3

theorem e_X11_wordsBehindEntry {x0 : Int} {x1 : Int} {h : AH} {t : KT} {d : Nat} {P : RS → Prop} (w : Wp k_X11_wordsBehindEntry d (0, [some (aI (iZ x0)), some (aI (iZ x1))], [], h, t) P) : ∃ r, Ca (d + 1) 157 [aI (iZ x0), aI (iZ x1)] h t r ∧ P r := ca_W rfl rfl rfl rfl w

theorem b_X11_wordsBehindEntry_5 {x0 : Int} {x1 : Int} {σ : SG} {t : KT} (w1 : Wp k_X11_wordsBehindEntry d (12, [some (aI (iZ x0)), some (aI (iZ x1))], [aI (iZ 0)], am_hp σ, t) Q) : Wp k_X11_wordsBehindEntry d (5, [some (aI (iZ x0)), some (aI (iZ x1))], [], am_hp σ, t) Q := by
  refine w_psh rfl zc_0 rfl ?_
  refine w_s (c' := (12, [some (aI (iZ x0)), some (aI (iZ x1))], [aI (iZ 0)], am_hp σ, t)) rfl rfl ?_
  exact w1

theorem b_X11_wordsBehindEntry_9 {x0 : Int} {x1 : Int} {σ : SG} {t : KT} (h1 : -2147483648 ≤ x1 ∧ x1 < 2147483648 ∧ x1 ≠ 0) (w2 : Wp k_X11_wordsBehindEntry d (12, [some (aI (iZ x0)), some (aI (iZ x1))], [aI (iZ (zrem x0 x1))], am_hp σ, t) Q) : Wp k_X11_wordsBehindEntry d (9, [some (aI (iZ x0)), some (aI (iZ x1))], [], am_hp σ, t) Q := by
  refine w_s (c' := (10, [some (aI (iZ x0)), some (aI (iZ x1))], [aI (iZ x0)], am_hp σ, t)) rfl rfl ?_
  refine w_s (c' := (11, [some (aI (iZ x0)), some (aI (iZ x1))], [aI (iZ x1), aI (iZ x0)], am_hp σ, t)) rfl rfl ?_
  refine w_irem rfl rfl h1 ?_
  exact w2

theorem b_X11_wordsBehindEntry_12 {x0 : Int} {x1 : Int} {xs0 : Int} {σ : SG} {t : KT} (q1 : Q (.inl (some (aI (iZ xs0))), am_hp σ, t)) : Wp k_X11_wordsBehindEntry d (12, [some (aI (iZ x0)), some (aI (iZ x1))], [aI (iZ xs0)], am_hp σ, t) Q := by
  exact w_ret rfl rfl q1

theorem b_X11_readsOf_0 {x1 : Int} {x2 : Int} {x3 : Int} {r1 : Int} {r2 : Int} {σ σ1 σ2 : SG} {t : KT} (h1 : 0 ≤ x1 ∧ x1 < 4) (c2 : Ca d 16 [aR (some (28, x1.toNat, 0)), aI (iZ x2)] (am_hp σ) t (.inl (some (aI (iZ r1))), am_hp σ1, t)) (c3 : Ca d 157 [aI (iZ r1), aI (iZ x3)] (am_hp σ1) t (.inl (some (aI (iZ r2))), am_hp σ2, t)) (q4 : Q (.inl (some (aI (iZ (r2 + 1)))), am_hp σ2, t)) : Wp k_X11_readsOf d (0, [some (aR (some (1, 0, 0))), some (aI (iZ x1)), some (aI (iZ x2)), some (aI (iZ x3))], [], am_hp σ, t) Q := by
  refine w_s (c' := (1, [some (aR (some (1, 0, 0))), some (aI (iZ x1)), some (aI (iZ x2)), some (aI (iZ x3))], [aR (some (1, 0, 0))], am_hp σ, t)) rfl rfl ?_
  refine w_get rfl (hp_1 _ 0) rfl rfl ?_
  refine w_s (c' := (5, [some (aR (some (1, 0, 0))), some (aI (iZ x1)), some (aI (iZ x2)), some (aI (iZ x3))], [aI (iZ x1), aR (some (17, 0, 0))], am_hp σ, t)) rfl rfl ?_
  refine w_aal rfl (hp_17 _ 0) h1 rfl rfl ?_
  refine w_s (c' := (7, [some (aR (some (1, 0, 0))), some (aI (iZ x1)), some (aI (iZ x2)), some (aI (iZ x3))], [aI (iZ x2), aR (some (28, x1.toNat, 0))], am_hp σ, t)) rfl rfl ?_
  refine w_c0 (c' := (10, [some (aR (some (1, 0, 0))), some (aI (iZ x1)), some (aI (iZ x2)), some (aI (iZ x3))], [aI (iZ r1)], am_hp σ1, t)) rfl rfl (rcv_of (hp_28 _ x1.toNat)) rfl c2 (Nat.le_refl _) rfl ?_
  refine w_s (c' := (11, [some (aR (some (1, 0, 0))), some (aI (iZ x1)), some (aI (iZ x2)), some (aI (iZ x3))], [aI (iZ x3), aI (iZ r1)], am_hp σ1, t)) rfl rfl ?_
  refine w_c0 (c' := (14, [some (aR (some (1, 0, 0))), some (aI (iZ x1)), some (aI (iZ x2)), some (aI (iZ x3))], [aI (iZ r2)], am_hp σ2, t)) rfl rfl rfl rfl c3 (Nat.le_refl _) rfl ?_
  refine w_psh rfl zc_1 rfl ?_
  refine w_iadd rfl rfl ?_
  exact w_ret rfl rfl q4

theorem e_X11_readsOf {x1 : Int} {x2 : Int} {x3 : Int} {h : AH} {t : KT} {d : Nat} {P : RS → Prop} (w : Wp k_X11_readsOf d (0, [some (aR (some (1, 0, 0))), some (aI (iZ x1)), some (aI (iZ x2)), some (aI (iZ x3))], [], h, t) P) : ∃ r, Ca (d + 1) 158 [aR (some (1, 0, 0)), aI (iZ x1), aI (iZ x2), aI (iZ x3)] h t r ∧ P r := ca_W rfl rfl rfl rfl w

theorem b_X11_readsOfAll_0 {x1 : Int} {x2 : Int} {σ : SG} {t : KT} (w1 : Wp k_X11_readsOfAll d (5, [some (aR (some (1, 0, 0))), some (aI (iZ x1)), some (aI (iZ x2)), some (aI (iZ 0)), some (aI (iZ 0))], [], am_hp σ, t) Q) : Wp k_X11_readsOfAll d (0, [some (aR (some (1, 0, 0))), some (aI (iZ x1)), some (aI (iZ x2)), none, none], [], am_hp σ, t) Q := by
  refine w_psh rfl zc_0 rfl ?_
  refine w_s (c' := (2, [some (aR (some (1, 0, 0))), some (aI (iZ x1)), some (aI (iZ x2)), some (aI (iZ 0)), none], [], am_hp σ, t)) rfl rfl ?_
  refine w_psh rfl zc_0 rfl ?_
  refine w_s (c' := (5, [some (aR (some (1, 0, 0))), some (aI (iZ x1)), some (aI (iZ x2)), some (aI (iZ 0)), some (aI (iZ 0))], [], am_hp σ, t)) rfl rfl ?_
  exact w1

theorem e_X11_readsOfAll {x1 : Int} {x2 : Int} {h : AH} {t : KT} {d : Nat} {P : RS → Prop} (w : Wp k_X11_readsOfAll d (0, [some (aR (some (1, 0, 0))), some (aI (iZ x1)), some (aI (iZ x2)), none, none], [], h, t) P) : ∃ r, Ca (d + 1) 159 [aR (some (1, 0, 0)), aI (iZ x1), aI (iZ x2)] h t r ∧ P r := ca_W rfl rfl rfl rfl w

theorem b_X11_readsOfAll_5 {x1 : Int} {x2 : Int} {x3 : Int} {x4 : Int} {σ : SG} {t : KT} (h1 : 0 ≤ x1 ∧ x1 < 4) (h2 : -2147483648 ≤ x4 ∧ x4 < 2147483648) (h3 : -2147483648 ≤ σ.1 (10, 0, 0) x1.toNat ∧ σ.1 (10, 0, 0) x1.toNat < 2147483648) (w4 : σ.1 (10, 0, 0) x1.toNat ≤ x4 → Wp k_X11_readsOfAll d (36, [some (aR (some (1, 0, 0))), some (aI (iZ x1)), some (aI (iZ x2)), some (aI (iZ x3)), some (aI (iZ x4))], [], am_hp σ, t) Q) (w5 : x4 < σ.1 (10, 0, 0) x1.toNat → Wp k_X11_readsOfAll d (19, [some (aR (some (1, 0, 0))), some (aI (iZ x1)), some (aI (iZ x2)), some (aI (iZ x3)), some (aI (iZ x4))], [], am_hp σ, t) Q) : Wp k_X11_readsOfAll d (5, [some (aR (some (1, 0, 0))), some (aI (iZ x1)), some (aI (iZ x2)), some (aI (iZ x3)), some (aI (iZ x4))], [], am_hp σ, t) Q := by
  refine w_s (c' := (7, [some (aR (some (1, 0, 0))), some (aI (iZ x1)), some (aI (iZ x2)), some (aI (iZ x3)), some (aI (iZ x4))], [aI (iZ x4)], am_hp σ, t)) rfl rfl ?_
  refine w_s (c' := (8, [some (aR (some (1, 0, 0))), some (aI (iZ x1)), some (aI (iZ x2)), some (aI (iZ x3)), some (aI (iZ x4))], [aR (some (1, 0, 0)), aI (iZ x4)], am_hp σ, t)) rfl rfl ?_
  refine w_get rfl (hp_1 _ 0) rfl rfl ?_
  refine w_get rfl (hp_8 _ 0) rfl rfl ?_
  refine w_s (c' := (15, [some (aR (some (1, 0, 0))), some (aI (iZ x1)), some (aI (iZ x2)), some (aI (iZ x3)), some (aI (iZ x4))], [aI (iZ x1), aR (some (10, 0, 0)), aI (iZ x4)], am_hp σ, t)) rfl rfl ?_
  refine w_ial rfl (hp_10 _ 0 0) h1 rfl rfl ?_
  exact w_icge rfl h2 h3 rfl w4 w5

theorem b_X11_readsOfAll_19 {x1 : Int} {x2 : Int} {x3 : Int} {x4 : Int} {r1 : Int} {σ σ1 : SG} {t : KT} (c1 : Ca d 158 [aR (some (1, 0, 0)), aI (iZ x1), aI (iZ x4), aI (iZ x2)] (am_hp σ) t (.inl (some (aI (iZ r1))), am_hp σ1, t)) (w2 : Wp k_X11_readsOfAll d (5, [some (aR (some (1, 0, 0))), some (aI (iZ x1)), some (aI (iZ x2)), some (aI (iZ (x3 + r1))), some (aI (iZ (x4 + 1)))], [], am_hp σ1, t) Q) : Wp k_X11_readsOfAll d (19, [some (aR (some (1, 0, 0))), some (aI (iZ x1)), some (aI (iZ x2)), some (aI (iZ x3)), some (aI (iZ x4))], [], am_hp σ, t) Q := by
  refine w_s (c' := (20, [some (aR (some (1, 0, 0))), some (aI (iZ x1)), some (aI (iZ x2)), some (aI (iZ x3)), some (aI (iZ x4))], [aI (iZ x3)], am_hp σ, t)) rfl rfl ?_
  refine w_s (c' := (21, [some (aR (some (1, 0, 0))), some (aI (iZ x1)), some (aI (iZ x2)), some (aI (iZ x3)), some (aI (iZ x4))], [aR (some (1, 0, 0)), aI (iZ x3)], am_hp σ, t)) rfl rfl ?_
  refine w_s (c' := (22, [some (aR (some (1, 0, 0))), some (aI (iZ x1)), some (aI (iZ x2)), some (aI (iZ x3)), some (aI (iZ x4))], [aI (iZ x1), aR (some (1, 0, 0)), aI (iZ x3)], am_hp σ, t)) rfl rfl ?_
  refine w_s (c' := (24, [some (aR (some (1, 0, 0))), some (aI (iZ x1)), some (aI (iZ x2)), some (aI (iZ x3)), some (aI (iZ x4))], [aI (iZ x4), aI (iZ x1), aR (some (1, 0, 0)), aI (iZ x3)], am_hp σ, t)) rfl rfl ?_
  refine w_s (c' := (25, [some (aR (some (1, 0, 0))), some (aI (iZ x1)), some (aI (iZ x2)), some (aI (iZ x3)), some (aI (iZ x4))], [aI (iZ x2), aI (iZ x4), aI (iZ x1), aR (some (1, 0, 0)), aI (iZ x3)], am_hp σ, t)) rfl rfl ?_
  refine w_c0 (c' := (28, [some (aR (some (1, 0, 0))), some (aI (iZ x1)), some (aI (iZ x2)), some (aI (iZ x3)), some (aI (iZ x4))], [aI (iZ r1), aI (iZ x3)], am_hp σ1, t)) rfl rfl (rcv_of (hp_1 _ 0)) rfl c1 (Nat.le_refl _) rfl ?_
  refine w_iadd rfl rfl ?_
  refine w_s (c' := (30, [some (aR (some (1, 0, 0))), some (aI (iZ x1)), some (aI (iZ x2)), some (aI (iZ (x3 + r1))), some (aI (iZ x4))], [], am_hp σ1, t)) rfl rfl ?_
  refine w_inc (a := x4) (ls' := [some (aR (some (1, 0, 0))), some (aI (iZ x1)), some (aI (iZ x2)), some (aI (iZ (x3 + r1))), some (aI (iZ (x4 + 1)))]) rfl rfl rfl zc_1 rfl rfl ?_
  refine w_s (c' := (5, [some (aR (some (1, 0, 0))), some (aI (iZ x1)), some (aI (iZ x2)), some (aI (iZ (x3 + r1))), some (aI (iZ (x4 + 1)))], [], am_hp σ1, t)) rfl rfl ?_
  exact w2

theorem b_X11_readsOfAll_36 {x1 : Int} {x2 : Int} {x3 : Int} {x4 : Int} {σ : SG} {t : KT} (q1 : Q (.inl (some (aI (iZ x3))), am_hp σ, t)) : Wp k_X11_readsOfAll d (36, [some (aR (some (1, 0, 0))), some (aI (iZ x1)), some (aI (iZ x2)), some (aI (iZ x3)), some (aI (iZ x4))], [], am_hp σ, t) Q := by
  refine w_s (c' := (37, [some (aR (some (1, 0, 0))), some (aI (iZ x1)), some (aI (iZ x2)), some (aI (iZ x3)), some (aI (iZ x4))], [aI (iZ x3)], am_hp σ, t)) rfl rfl ?_
  exact w_ret rfl rfl q1
end PCS
