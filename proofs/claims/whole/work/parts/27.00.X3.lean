/-! PIECES: X3 -/
set_option maxRecDepth 4000
section PCS
variable {d : Nat} {Q : RS → Prop}
theorem b_X3_forget_0 {σ : SG} {t : KT} (q1 : Q (.inl none, am_hp ((sI σ (15, 0, 0) (up (σ.1 (15, 0, 0)) 2 0))), t)) : Wp k_X3_forget d (0, [some (aR (some (15, 0, 0)))], [], am_hp σ, t) Q := by
  refine w_s (c' := (1, [some (aR (some (15, 0, 0)))], [aR (some (15, 0, 0))], am_hp σ, t)) rfl rfl ?_
  refine w_psh rfl zc_0 rfl ?_
  refine w_putI rfl (hp_15 _ 0) rfl rfl rfl ?_
  exact w_f rfl rfl q1

theorem e_X3_forget {h : AH} {t : KT} {d : Nat} {P : RS → Prop} (w : Wp k_X3_forget d (0, [some (aR (some (15, 0, 0)))], [], h, t) P) : ∃ r, Ca (d + 1) 2 [aR (some (15, 0, 0))] h t r ∧ P r := ca_W rfl rfl rfl rfl w

theorem b_X3_keep_0 {p1 : Nat} {σ σ1 : SG} {t : KT} (h1 : 0 ≤ σ.1 (15, 0, 0) 1 ∧ σ.1 (15, 0, 0) 1 < 6) (c2 : Ca d 42 [aR (some (8, (3 + (σ.1 (15, 0, 0) 1).toNat), 0)), aR (some (8, p1, 0))] (am_hp σ) t (.inl none, am_hp σ1, t)) (h3 : -2147483648 ≤ (σ1.1 (15, 0, 0) 1) + 1 ∧ (σ1.1 (15, 0, 0) 1) + 1 < 2147483648) (w4 : 6 ≤ (σ1.1 (15, 0, 0) 1) + 1 → Wp k_X3_keep d (34, [some (aR (some (15, 0, 0))), some (aR (some (8, p1, 0)))], [aR (some (15, 0, 0))], am_hp σ1, t) Q) (w5 : (σ1.1 (15, 0, 0) 1) + 1 < 6 → Wp k_X3_keep d (25, [some (aR (some (15, 0, 0))), some (aR (some (8, p1, 0)))], [aR (some (15, 0, 0))], am_hp σ1, t) Q) : Wp k_X3_keep d (0, [some (aR (some (15, 0, 0))), some (aR (some (8, p1, 0)))], [], am_hp σ, t) Q := by
  refine w_s (c' := (1, [some (aR (some (15, 0, 0))), some (aR (some (8, p1, 0)))], [aR (some (15, 0, 0))], am_hp σ, t)) rfl rfl ?_
  refine w_get rfl (hp_15 _ 0) rfl rfl ?_
  refine w_s (c' := (5, [some (aR (some (15, 0, 0))), some (aR (some (8, p1, 0)))], [aR (some (15, 0, 0)), aR (some (16, 0, 0))], am_hp σ, t)) rfl rfl ?_
  refine w_get rfl (hp_15 _ 0) rfl rfl ?_
  refine w_aal rfl (hp_16 _ 0) h1 rfl rfl ?_
  refine w_s (c' := (10, [some (aR (some (15, 0, 0))), some (aR (some (8, p1, 0)))], [aR (some (8, p1, 0)), aR (some (8, (3 + (σ.1 (15, 0, 0) 1).toNat), 0))], am_hp σ, t)) rfl rfl ?_
  refine w_c0 (c' := (13, [some (aR (some (15, 0, 0))), some (aR (some (8, p1, 0)))], [], am_hp σ1, t)) rfl rfl (rcv_of (hp_8 _ (3 + (σ.1 (15, 0, 0) 1).toNat))) rfl c2 (Nat.le_refl _) rfl ?_
  refine w_s (c' := (14, [some (aR (some (15, 0, 0))), some (aR (some (8, p1, 0)))], [aR (some (15, 0, 0))], am_hp σ1, t)) rfl rfl ?_
  refine w_s (c' := (15, [some (aR (some (15, 0, 0))), some (aR (some (8, p1, 0)))], [aR (some (15, 0, 0)), aR (some (15, 0, 0))], am_hp σ1, t)) rfl rfl ?_
  refine w_get rfl (hp_15 _ 0) rfl rfl ?_
  refine w_psh rfl zc_1 rfl ?_
  refine w_iadd rfl rfl ?_
  refine w_psh rfl zc_6 rfl ?_
  exact w_icge rfl h3 (by decide) rfl w4 w5

theorem e_X3_keep {p1 : Nat} {h : AH} {t : KT} {d : Nat} {P : RS → Prop} (w : Wp k_X3_keep d (0, [some (aR (some (15, 0, 0))), some (aR (some (8, p1, 0)))], [], h, t) P) : ∃ r, Ca (d + 1) 3 [aR (some (15, 0, 0)), aR (some (8, p1, 0))] h t r ∧ P r := ca_W rfl rfl rfl rfl w

theorem b_X3_keep_25 {p1 : Nat} {σ : SG} {t : KT} (w1 : Wp k_X3_keep d (35, [some (aR (some (15, 0, 0))), some (aR (some (8, p1, 0)))], [aI (iZ ((σ.1 (15, 0, 0) 1) + 1)), aR (some (15, 0, 0))], am_hp σ, t) Q) : Wp k_X3_keep d (25, [some (aR (some (15, 0, 0))), some (aR (some (8, p1, 0)))], [aR (some (15, 0, 0))], am_hp σ, t) Q := by
  refine w_s (c' := (26, [some (aR (some (15, 0, 0))), some (aR (some (8, p1, 0)))], [aR (some (15, 0, 0)), aR (some (15, 0, 0))], am_hp σ, t)) rfl rfl ?_
  refine w_get rfl (hp_15 _ 0) rfl rfl ?_
  refine w_psh rfl zc_1 rfl ?_
  refine w_iadd rfl rfl ?_
  refine w_s (c' := (35, [some (aR (some (15, 0, 0))), some (aR (some (8, p1, 0)))], [aI (iZ ((σ.1 (15, 0, 0) 1) + 1)), aR (some (15, 0, 0))], am_hp σ, t)) rfl rfl ?_
  exact w1

theorem b_X3_keep_34 {p1 : Nat} {σ : SG} {t : KT} (w1 : Wp k_X3_keep d (35, [some (aR (some (15, 0, 0))), some (aR (some (8, p1, 0)))], [aI (iZ 0), aR (some (15, 0, 0))], am_hp σ, t) Q) : Wp k_X3_keep d (34, [some (aR (some (15, 0, 0))), some (aR (some (8, p1, 0)))], [aR (some (15, 0, 0))], am_hp σ, t) Q := by
  refine w_psh rfl zc_0 rfl ?_
  exact w1

theorem b_X3_keep_35 {p1 : Nat} {xs0 : Int} {σ : SG} {t : KT} (h1 : -2147483648 ≤ (((sI σ (15, 0, 0) (up (σ.1 (15, 0, 0)) 1 xs0))).1 (15, 0, 0) 2) + 1 ∧ (((sI σ (15, 0, 0) (up (σ.1 (15, 0, 0)) 1 xs0))).1 (15, 0, 0) 2) + 1 < 2147483648) (q2 : Q (.inl none, am_hp ((sI (sI σ (15, 0, 0) (up (σ.1 (15, 0, 0)) 1 xs0)) (15, 0, 0) (up (((sI σ (15, 0, 0) (up (σ.1 (15, 0, 0)) 1 xs0))).1 (15, 0, 0)) 2 (min ((((sI σ (15, 0, 0) (up (σ.1 (15, 0, 0)) 1 xs0))).1 (15, 0, 0) 2) + 1) 6)))), t)) : Wp k_X3_keep d (35, [some (aR (some (15, 0, 0))), some (aR (some (8, p1, 0)))], [aI (iZ xs0), aR (some (15, 0, 0))], am_hp σ, t) Q := by
  refine w_putI rfl (hp_15 _ 0) rfl rfl rfl ?_
  refine w_s (c' := (39, [some (aR (some (15, 0, 0))), some (aR (some (8, p1, 0)))], [aR (some (15, 0, 0))], am_hp ((sI σ (15, 0, 0) (up (σ.1 (15, 0, 0)) 1 xs0))), t)) rfl rfl ?_
  refine w_s (c' := (40, [some (aR (some (15, 0, 0))), some (aR (some (8, p1, 0)))], [aR (some (15, 0, 0)), aR (some (15, 0, 0))], am_hp ((sI σ (15, 0, 0) (up (σ.1 (15, 0, 0)) 1 xs0))), t)) rfl rfl ?_
  refine w_get rfl (hp_15 _ 0) rfl rfl ?_
  refine w_psh rfl zc_1 rfl ?_
  refine w_iadd rfl rfl ?_
  refine w_psh rfl zc_6 rfl ?_
  refine w_min rfl h1 (by decide) rfl rfl ?_
  refine w_putI rfl (hp_15 _ 0) rfl rfl rfl ?_
  exact w_f rfl rfl q2

theorem b_X3_takeBack_0 {p1 : Nat} {σ : SG} {t : KT} (h1 : -2147483648 ≤ σ.1 (15, 0, 0) 2 ∧ σ.1 (15, 0, 0) 2 < 2147483648) (w2 : σ.1 (15, 0, 0) 2 ≠ 0 → Wp k_X3_takeBack d (9, [some (aR (some (15, 0, 0))), some (aR (some (8, p1, 0)))], [], am_hp σ, t) Q) (w3 : σ.1 (15, 0, 0) 2 = 0 → Wp k_X3_takeBack d (7, [some (aR (some (15, 0, 0))), some (aR (some (8, p1, 0)))], [], am_hp σ, t) Q) : Wp k_X3_takeBack d (0, [some (aR (some (15, 0, 0))), some (aR (some (8, p1, 0)))], [], am_hp σ, t) Q := by
  refine w_s (c' := (1, [some (aR (some (15, 0, 0))), some (aR (some (8, p1, 0)))], [aR (some (15, 0, 0))], am_hp σ, t)) rfl rfl ?_
  refine w_get rfl (hp_15 _ 0) rfl rfl ?_
  exact w_ifne rfl h1 rfl w2 w3

theorem e_X3_takeBack {p1 : Nat} {h : AH} {t : KT} {d : Nat} {P : RS → Prop} (w : Wp k_X3_takeBack d (0, [some (aR (some (15, 0, 0))), some (aR (some (8, p1, 0)))], [], h, t) P) : ∃ r, Ca (d + 1) 4 [aR (some (15, 0, 0)), aR (some (8, p1, 0))] h t r ∧ P r := ca_W rfl rfl rfl rfl w

theorem b_X3_takeBack_7 {p1 : Nat} {σ : SG} {t : KT} (q1 : Q (.inl (some (aI (iZ 0))), am_hp σ, t)) : Wp k_X3_takeBack d (7, [some (aR (some (15, 0, 0))), some (aR (some (8, p1, 0)))], [], am_hp σ, t) Q := by
  refine w_psh rfl zc_0 rfl ?_
  exact w_ret rfl (frt_b (by decide)) q1

theorem b_X3_takeBack_9 {p1 : Nat} {σ : SG} {t : KT} (h1 : -2147483648 ≤ σ.1 (15, 0, 0) 1 ∧ σ.1 (15, 0, 0) 1 < 2147483648) (w2 : σ.1 (15, 0, 0) 1 ≤ 0 → Wp k_X3_takeBack d (26, [some (aR (some (15, 0, 0))), some (aR (some (8, p1, 0)))], [aR (some (15, 0, 0))], am_hp σ, t) Q) (w3 : 0 < σ.1 (15, 0, 0) 1 → Wp k_X3_takeBack d (17, [some (aR (some (15, 0, 0))), some (aR (some (8, p1, 0)))], [aR (some (15, 0, 0))], am_hp σ, t) Q) : Wp k_X3_takeBack d (9, [some (aR (some (15, 0, 0))), some (aR (some (8, p1, 0)))], [], am_hp σ, t) Q := by
  refine w_s (c' := (10, [some (aR (some (15, 0, 0))), some (aR (some (8, p1, 0)))], [aR (some (15, 0, 0))], am_hp σ, t)) rfl rfl ?_
  refine w_s (c' := (11, [some (aR (some (15, 0, 0))), some (aR (some (8, p1, 0)))], [aR (some (15, 0, 0)), aR (some (15, 0, 0))], am_hp σ, t)) rfl rfl ?_
  refine w_get rfl (hp_15 _ 0) rfl rfl ?_
  exact w_ifle rfl h1 rfl w2 w3

theorem b_X3_takeBack_17 {p1 : Nat} {σ : SG} {t : KT} (w1 : Wp k_X3_takeBack d (27, [some (aR (some (15, 0, 0))), some (aR (some (8, p1, 0)))], [aI (iZ ((σ.1 (15, 0, 0) 1) - 1)), aR (some (15, 0, 0))], am_hp σ, t) Q) : Wp k_X3_takeBack d (17, [some (aR (some (15, 0, 0))), some (aR (some (8, p1, 0)))], [aR (some (15, 0, 0))], am_hp σ, t) Q := by
  refine w_s (c' := (18, [some (aR (some (15, 0, 0))), some (aR (some (8, p1, 0)))], [aR (some (15, 0, 0)), aR (some (15, 0, 0))], am_hp σ, t)) rfl rfl ?_
  refine w_get rfl (hp_15 _ 0) rfl rfl ?_
  refine w_psh rfl zc_1 rfl ?_
  refine w_isub rfl rfl ?_
  refine w_s (c' := (27, [some (aR (some (15, 0, 0))), some (aR (some (8, p1, 0)))], [aI (iZ ((σ.1 (15, 0, 0) 1) - 1)), aR (some (15, 0, 0))], am_hp σ, t)) rfl rfl ?_
  exact w1

theorem b_X3_takeBack_26 {p1 : Nat} {σ : SG} {t : KT} (w1 : Wp k_X3_takeBack d (27, [some (aR (some (15, 0, 0))), some (aR (some (8, p1, 0)))], [aI (iZ 5), aR (some (15, 0, 0))], am_hp σ, t) Q) : Wp k_X3_takeBack d (26, [some (aR (some (15, 0, 0))), some (aR (some (8, p1, 0)))], [aR (some (15, 0, 0))], am_hp σ, t) Q := by
  refine w_psh rfl zc_5 rfl ?_
  exact w1

theorem b_X3_takeBack_27 {p1 : Nat} {xs0 : Int} {σ σ1 : SG} {t : KT} (h1 : 0 ≤ ((sI σ (15, 0, 0) (up (σ.1 (15, 0, 0)) 1 xs0))).1 (15, 0, 0) 1 ∧ ((sI σ (15, 0, 0) (up (σ.1 (15, 0, 0)) 1 xs0))).1 (15, 0, 0) 1 < 6) (c2 : Ca d 42 [aR (some (8, p1, 0)), aR (some (8, (3 + (((sI σ (15, 0, 0) (up (σ.1 (15, 0, 0)) 1 xs0))).1 (15, 0, 0) 1).toNat), 0))] (am_hp ((sI σ (15, 0, 0) (up (σ.1 (15, 0, 0)) 1 xs0)))) t (.inl none, am_hp σ1, t)) (q3 : Q (.inl (some (aI (iZ 1))), am_hp ((sI σ1 (15, 0, 0) (up (σ1.1 (15, 0, 0)) 2 ((σ1.1 (15, 0, 0) 2) - 1)))), t)) : Wp k_X3_takeBack d (27, [some (aR (some (15, 0, 0))), some (aR (some (8, p1, 0)))], [aI (iZ xs0), aR (some (15, 0, 0))], am_hp σ, t) Q := by
  refine w_putI rfl (hp_15 _ 0) rfl rfl rfl ?_
  refine w_s (c' := (31, [some (aR (some (15, 0, 0))), some (aR (some (8, p1, 0)))], [aR (some (8, p1, 0))], am_hp ((sI σ (15, 0, 0) (up (σ.1 (15, 0, 0)) 1 xs0))), t)) rfl rfl ?_
  refine w_s (c' := (32, [some (aR (some (15, 0, 0))), some (aR (some (8, p1, 0)))], [aR (some (15, 0, 0)), aR (some (8, p1, 0))], am_hp ((sI σ (15, 0, 0) (up (σ.1 (15, 0, 0)) 1 xs0))), t)) rfl rfl ?_
  refine w_get rfl (hp_15 _ 0) rfl rfl ?_
  refine w_s (c' := (36, [some (aR (some (15, 0, 0))), some (aR (some (8, p1, 0)))], [aR (some (15, 0, 0)), aR (some (16, 0, 0)), aR (some (8, p1, 0))], am_hp ((sI σ (15, 0, 0) (up (σ.1 (15, 0, 0)) 1 xs0))), t)) rfl rfl ?_
  refine w_get rfl (hp_15 _ 0) rfl rfl ?_
  refine w_aal rfl (hp_16 _ 0) h1 rfl rfl ?_
  refine w_c0 (c' := (43, [some (aR (some (15, 0, 0))), some (aR (some (8, p1, 0)))], [], am_hp σ1, t)) rfl rfl (rcv_of (hp_8 _ p1)) rfl c2 (Nat.le_refl _) rfl ?_
  refine w_s (c' := (44, [some (aR (some (15, 0, 0))), some (aR (some (8, p1, 0)))], [aR (some (15, 0, 0))], am_hp σ1, t)) rfl rfl ?_
  refine w_s (c' := (45, [some (aR (some (15, 0, 0))), some (aR (some (8, p1, 0)))], [aR (some (15, 0, 0)), aR (some (15, 0, 0))], am_hp σ1, t)) rfl rfl ?_
  refine w_get rfl (hp_15 _ 0) rfl rfl ?_
  refine w_psh rfl zc_1 rfl ?_
  refine w_isub rfl rfl ?_
  refine w_putI rfl (hp_15 _ 0) rfl rfl rfl ?_
  refine w_psh rfl zc_1 rfl ?_
  exact w_ret rfl (frt_b (by decide)) q3
end PCS
