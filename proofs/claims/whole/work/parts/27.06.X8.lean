/-! PIECES: X8 -/
set_option maxRecDepth 4000
section PCS
variable {d : Nat} {Q : RS → Prop}
theorem b_X8_readFrom_0 {σ σ1 : SG} {t : KT} (c1 : Ca d 78 [aR (some (2, 0, 0))] (am_hp ((sI (sI σ (4, 0, 0) (up (σ.1 (4, 0, 0)) 3 0)) (4, 0, 0) (up (((sI σ (4, 0, 0) (up (σ.1 (4, 0, 0)) 3 0))).1 (4, 0, 0)) 2 0)))) t (.inl none, am_hp σ1, t)) (w2 : Wp k_X8_readFrom d (16, [some (aR (some (4, 0, 0))), some (aR (some (2, 0, 0))), some (aI (iZ 0)), none], [], am_hp σ1, t) Q) : Wp k_X8_readFrom d (0, [some (aR (some (4, 0, 0))), some (aR (some (2, 0, 0))), none, none], [], am_hp σ, t) Q := by
  refine w_s (c' := (1, [some (aR (some (4, 0, 0))), some (aR (some (2, 0, 0))), none, none], [aR (some (4, 0, 0))], am_hp σ, t)) rfl rfl ?_
  refine w_psh rfl zc_0 rfl ?_
  refine w_putI rfl (hp_4 _ 0) rfl rfl rfl ?_
  refine w_s (c' := (6, [some (aR (some (4, 0, 0))), some (aR (some (2, 0, 0))), none, none], [aR (some (4, 0, 0))], am_hp ((sI σ (4, 0, 0) (up (σ.1 (4, 0, 0)) 3 0))), t)) rfl rfl ?_
  refine w_psh rfl zc_0 rfl ?_
  refine w_putI rfl (hp_4 _ 0) rfl rfl rfl ?_
  refine w_s (c' := (11, [some (aR (some (4, 0, 0))), some (aR (some (2, 0, 0))), none, none], [aR (some (2, 0, 0))], am_hp ((sI (sI σ (4, 0, 0) (up (σ.1 (4, 0, 0)) 3 0)) (4, 0, 0) (up (((sI σ (4, 0, 0) (up (σ.1 (4, 0, 0)) 3 0))).1 (4, 0, 0)) 2 0))), t)) rfl rfl ?_
  refine w_c0 (c' := (14, [some (aR (some (4, 0, 0))), some (aR (some (2, 0, 0))), none, none], [], am_hp σ1, t)) rfl rfl (rcv_of (hp_2 _ 0)) rfl c1 (Nat.le_refl _) rfl ?_
  refine w_psh rfl zc_0 rfl ?_
  refine w_s (c' := (16, [some (aR (some (4, 0, 0))), some (aR (some (2, 0, 0))), some (aI (iZ 0)), none], [], am_hp σ1, t)) rfl rfl ?_
  exact w2

theorem e_X8_readFrom {h : AH} {t : KT} {d : Nat} {P : RS → Prop} (w : Wp k_X8_readFrom d (0, [some (aR (some (4, 0, 0))), some (aR (some (2, 0, 0))), none, none], [], h, t) P) : ∃ r, Ca (d + 1) 57 [aR (some (4, 0, 0)), aR (some (2, 0, 0))] h t r ∧ P r := ca_W rfl rfl rfl rfl w

theorem b_X8_readFrom_16 {x2 : Int} {u3 : Option AV} {σ : SG} {t : KT} (h1 : -2147483648 ≤ x2 ∧ x2 < 2147483648) (w2 : 600 ≤ x2 → Wp k_X8_readFrom d (78, [some (aR (some (4, 0, 0))), some (aR (some (2, 0, 0))), some (aI (iZ x2)), u3], [], am_hp σ, t) Q) (w3 : x2 < 600 → Wp k_X8_readFrom d (23, [some (aR (some (4, 0, 0))), some (aR (some (2, 0, 0))), some (aI (iZ x2)), u3], [], am_hp σ, t) Q) : Wp k_X8_readFrom d (16, [some (aR (some (4, 0, 0))), some (aR (some (2, 0, 0))), some (aI (iZ x2)), u3], [], am_hp σ, t) Q := by
  refine w_s (c' := (17, [some (aR (some (4, 0, 0))), some (aR (some (2, 0, 0))), some (aI (iZ x2)), u3], [aI (iZ x2)], am_hp σ, t)) rfl rfl ?_
  refine w_psh rfl zc_600 rfl ?_
  exact w_icge rfl h1 (by decide) rfl w2 w3

theorem b_X8_readFrom_23 {x2 : Int} {u3 : Option AV} {σ : SG} {t : KT} (h1 : -2147483648 ≤ σ.1 (4, 0, 0) 2 ∧ σ.1 (4, 0, 0) 2 < 2147483648) (w2 : 0 < σ.1 (4, 0, 0) 2 → Wp k_X8_readFrom d (37, [some (aR (some (4, 0, 0))), some (aR (some (2, 0, 0))), some (aI (iZ x2)), u3], [], am_hp σ, t) Q) (w3 : σ.1 (4, 0, 0) 2 ≤ 0 → Wp k_X8_readFrom d (30, [some (aR (some (4, 0, 0))), some (aR (some (2, 0, 0))), some (aI (iZ x2)), u3], [], am_hp σ, t) Q) : Wp k_X8_readFrom d (23, [some (aR (some (4, 0, 0))), some (aR (some (2, 0, 0))), some (aI (iZ x2)), u3], [], am_hp σ, t) Q := by
  refine w_s (c' := (24, [some (aR (some (4, 0, 0))), some (aR (some (2, 0, 0))), some (aI (iZ x2)), u3], [aR (some (4, 0, 0))], am_hp σ, t)) rfl rfl ?_
  refine w_get rfl (hp_4 _ 0) rfl rfl ?_
  exact w_ifgt rfl h1 rfl w2 w3

theorem b_X8_readFrom_30 {x2 : Int} {u3 : Option AV} {σ : SG} {t : KT} (h1 : -2147483648 ≤ σ.1 (2, 0, 0) 2 ∧ σ.1 (2, 0, 0) 2 < 2147483648) (w2 : σ.1 (2, 0, 0) 2 = 0 → Wp k_X8_readFrom d (78, [some (aR (some (4, 0, 0))), some (aR (some (2, 0, 0))), some (aI (iZ x2)), u3], [], am_hp σ, t) Q) (w3 : σ.1 (2, 0, 0) 2 ≠ 0 → Wp k_X8_readFrom d (37, [some (aR (some (4, 0, 0))), some (aR (some (2, 0, 0))), some (aI (iZ x2)), u3], [], am_hp σ, t) Q) : Wp k_X8_readFrom d (30, [some (aR (some (4, 0, 0))), some (aR (some (2, 0, 0))), some (aI (iZ x2)), u3], [], am_hp σ, t) Q := by
  refine w_s (c' := (31, [some (aR (some (4, 0, 0))), some (aR (some (2, 0, 0))), some (aI (iZ x2)), u3], [aR (some (2, 0, 0))], am_hp σ, t)) rfl rfl ?_
  refine w_get rfl (hp_2 _ 0) rfl rfl ?_
  exact w_ifeq rfl h1 rfl w2 w3

theorem b_X8_readFrom_37 {x2 : Int} {u3 : Option AV} {σ : SG} {t : KT} (h1 : -2147483648 ≤ σ.1 (4, 0, 0) 2 ∧ σ.1 (4, 0, 0) 2 < 2147483648) (w2 : σ.1 (4, 0, 0) 2 ≤ 0 → Wp k_X8_readFrom d (60, [some (aR (some (4, 0, 0))), some (aR (some (2, 0, 0))), some (aI (iZ x2)), u3], [], am_hp σ, t) Q) (w3 : 0 < σ.1 (4, 0, 0) 2 → Wp k_X8_readFrom d (44, [some (aR (some (4, 0, 0))), some (aR (some (2, 0, 0))), some (aI (iZ x2)), u3], [], am_hp σ, t) Q) : Wp k_X8_readFrom d (37, [some (aR (some (4, 0, 0))), some (aR (some (2, 0, 0))), some (aI (iZ x2)), u3], [], am_hp σ, t) Q := by
  refine w_s (c' := (38, [some (aR (some (4, 0, 0))), some (aR (some (2, 0, 0))), some (aI (iZ x2)), u3], [aR (some (4, 0, 0))], am_hp σ, t)) rfl rfl ?_
  refine w_get rfl (hp_4 _ 0) rfl rfl ?_
  exact w_ifle rfl h1 rfl w2 w3

theorem b_X8_readFrom_44 {x2 : Int} {u3 : Option AV} {σ : SG} {t : KT} (h1 : -2147483648 ≤ σ.1 (2, 0, 0) 2 ∧ σ.1 (2, 0, 0) 2 < 2147483648) (w2 : σ.1 (2, 0, 0) 2 ≠ 5 → Wp k_X8_readFrom d (60, [some (aR (some (4, 0, 0))), some (aR (some (2, 0, 0))), some (aI (iZ x2)), u3], [], am_hp σ, t) Q) (w3 : σ.1 (2, 0, 0) 2 = 5 → Wp k_X8_readFrom d (52, [some (aR (some (4, 0, 0))), some (aR (some (2, 0, 0))), some (aI (iZ x2)), u3], [], am_hp σ, t) Q) : Wp k_X8_readFrom d (44, [some (aR (some (4, 0, 0))), some (aR (some (2, 0, 0))), some (aI (iZ x2)), u3], [], am_hp σ, t) Q := by
  refine w_s (c' := (45, [some (aR (some (4, 0, 0))), some (aR (some (2, 0, 0))), some (aI (iZ x2)), u3], [aR (some (2, 0, 0))], am_hp σ, t)) rfl rfl ?_
  refine w_get rfl (hp_2 _ 0) rfl rfl ?_
  refine w_psh rfl zc_5 rfl ?_
  exact w_icne rfl h1 (by decide) rfl w2 w3

theorem b_X8_readFrom_52 {x2 : Int} {u3 : Option AV} {r1 : Int} {σ σ1 : SG} {t : KT} (c1 : Ca d 58 [aR (some (4, 0, 0)), aR (some (2, 0, 0))] (am_hp σ) t (.inl (some (aI (iZ r1))), am_hp σ1, t)) (w2 : Wp k_X8_readFrom d (65, [some (aR (some (4, 0, 0))), some (aR (some (2, 0, 0))), some (aI (iZ x2)), u3], [aI (iZ r1)], am_hp σ1, t) Q) : Wp k_X8_readFrom d (52, [some (aR (some (4, 0, 0))), some (aR (some (2, 0, 0))), some (aI (iZ x2)), u3], [], am_hp σ, t) Q := by
  refine w_s (c' := (53, [some (aR (some (4, 0, 0))), some (aR (some (2, 0, 0))), some (aI (iZ x2)), u3], [aR (some (4, 0, 0))], am_hp σ, t)) rfl rfl ?_
  refine w_s (c' := (54, [some (aR (some (4, 0, 0))), some (aR (some (2, 0, 0))), some (aI (iZ x2)), u3], [aR (some (2, 0, 0)), aR (some (4, 0, 0))], am_hp σ, t)) rfl rfl ?_
  refine w_c0 (c' := (57, [some (aR (some (4, 0, 0))), some (aR (some (2, 0, 0))), some (aI (iZ x2)), u3], [aI (iZ r1)], am_hp σ1, t)) rfl rfl (rcv_of (hp_4 _ 0)) rfl c1 (Nat.le_refl _) rfl ?_
  refine w_s (c' := (65, [some (aR (some (4, 0, 0))), some (aR (some (2, 0, 0))), some (aI (iZ x2)), u3], [aI (iZ r1)], am_hp σ1, t)) rfl rfl ?_
  exact w2

theorem b_X8_readFrom_60 {x2 : Int} {u3 : Option AV} {r1 : Int} {σ σ1 : SG} {t : KT} (c1 : Ca d 59 [aR (some (4, 0, 0)), aR (some (2, 0, 0))] (am_hp σ) t (.inl (some (aI (iZ r1))), am_hp σ1, t)) (w2 : Wp k_X8_readFrom d (65, [some (aR (some (4, 0, 0))), some (aR (some (2, 0, 0))), some (aI (iZ x2)), u3], [aI (iZ r1)], am_hp σ1, t) Q) : Wp k_X8_readFrom d (60, [some (aR (some (4, 0, 0))), some (aR (some (2, 0, 0))), some (aI (iZ x2)), u3], [], am_hp σ, t) Q := by
  refine w_s (c' := (61, [some (aR (some (4, 0, 0))), some (aR (some (2, 0, 0))), some (aI (iZ x2)), u3], [aR (some (4, 0, 0))], am_hp σ, t)) rfl rfl ?_
  refine w_s (c' := (62, [some (aR (some (4, 0, 0))), some (aR (some (2, 0, 0))), some (aI (iZ x2)), u3], [aR (some (2, 0, 0)), aR (some (4, 0, 0))], am_hp σ, t)) rfl rfl ?_
  refine w_c0 (c' := (65, [some (aR (some (4, 0, 0))), some (aR (some (2, 0, 0))), some (aI (iZ x2)), u3], [aI (iZ r1)], am_hp σ1, t)) rfl rfl (rcv_of (hp_4 _ 0)) rfl c1 (Nat.le_refl _) rfl ?_
  exact w2

theorem b_X8_readFrom_65 {x2 : Int} {u3 : Option AV} {xs0 : Int} {σ : SG} {t : KT} (h1 : -2147483648 ≤ xs0 ∧ xs0 < 2147483648) (w2 : xs0 ≠ 0 → Wp k_X8_readFrom d (72, [some (aR (some (4, 0, 0))), some (aR (some (2, 0, 0))), some (aI (iZ x2)), some (aI (iZ xs0))], [], am_hp σ, t) Q) (w3 : xs0 = 0 → Wp k_X8_readFrom d (70, [some (aR (some (4, 0, 0))), some (aR (some (2, 0, 0))), some (aI (iZ x2)), some (aI (iZ xs0))], [], am_hp σ, t) Q) : Wp k_X8_readFrom d (65, [some (aR (some (4, 0, 0))), some (aR (some (2, 0, 0))), some (aI (iZ x2)), u3], [aI (iZ xs0)], am_hp σ, t) Q := by
  refine w_s (c' := (66, [some (aR (some (4, 0, 0))), some (aR (some (2, 0, 0))), some (aI (iZ x2)), some (aI (iZ xs0))], [], am_hp σ, t)) rfl rfl ?_
  refine w_s (c' := (67, [some (aR (some (4, 0, 0))), some (aR (some (2, 0, 0))), some (aI (iZ x2)), some (aI (iZ xs0))], [aI (iZ xs0)], am_hp σ, t)) rfl rfl ?_
  exact w_ifne rfl h1 rfl w2 w3

theorem b_X8_readFrom_70 {x2 : Int} {x3 : Int} {σ : SG} {t : KT} (q1 : Q (.inl (some (aI (iZ 0))), am_hp σ, t)) : Wp k_X8_readFrom d (70, [some (aR (some (4, 0, 0))), some (aR (some (2, 0, 0))), some (aI (iZ x2)), some (aI (iZ x3))], [], am_hp σ, t) Q := by
  refine w_psh rfl zc_0 rfl ?_
  exact w_ret rfl (frt_b (by decide)) q1

theorem b_X8_readFrom_72 {x2 : Int} {x3 : Int} {σ : SG} {t : KT} (w1 : Wp k_X8_readFrom d (16, [some (aR (some (4, 0, 0))), some (aR (some (2, 0, 0))), some (aI (iZ (x2 + 1))), some (aI (iZ x3))], [], am_hp σ, t) Q) : Wp k_X8_readFrom d (72, [some (aR (some (4, 0, 0))), some (aR (some (2, 0, 0))), some (aI (iZ x2)), some (aI (iZ x3))], [], am_hp σ, t) Q := by
  refine w_inc (a := x2) (ls' := [some (aR (some (4, 0, 0))), some (aR (some (2, 0, 0))), some (aI (iZ (x2 + 1))), some (aI (iZ x3))]) rfl rfl rfl zc_1 rfl rfl ?_
  refine w_s (c' := (16, [some (aR (some (4, 0, 0))), some (aR (some (2, 0, 0))), some (aI (iZ (x2 + 1))), some (aI (iZ x3))], [], am_hp σ, t)) rfl rfl ?_
  exact w1

theorem b_X8_readFrom_78 {x2 : Int} {u3 : Option AV} {σ : SG} {t : KT} (q1 : Q (.inl (some (aI (iZ 1))), am_hp σ, t)) : Wp k_X8_readFrom d (78, [some (aR (some (4, 0, 0))), some (aR (some (2, 0, 0))), some (aI (iZ x2)), u3], [], am_hp σ, t) Q := by
  refine w_psh rfl zc_1 rfl ?_
  exact w_ret rfl (frt_b (by decide)) q1

theorem b_X8_closeRepeat_0 {r2 : Int} {σ σ1 σ2 : SG} {t : KT} (h1 : 0 ≤ ((sI σ (4, 0, 0) (up (σ.1 (4, 0, 0)) 2 ((σ.1 (4, 0, 0) 2) - 1)))).1 (4, 0, 0) 2 ∧ ((sI σ (4, 0, 0) (up (σ.1 (4, 0, 0)) 2 ((σ.1 (4, 0, 0) 2) - 1)))).1 (4, 0, 0) 2 < 2) (h2 : 0 ≤ ((sI σ (4, 0, 0) (up (σ.1 (4, 0, 0)) 2 ((σ.1 (4, 0, 0) 2) - 1)))).1 (6, 0, 0) (((sI σ (4, 0, 0) (up (σ.1 (4, 0, 0)) 2 ((σ.1 (4, 0, 0) 2) - 1)))).1 (4, 0, 0) 2).toNat ∧ ((sI σ (4, 0, 0) (up (σ.1 (4, 0, 0)) 2 ((σ.1 (4, 0, 0) 2) - 1)))).1 (6, 0, 0) (((sI σ (4, 0, 0) (up (σ.1 (4, 0, 0)) 2 ((σ.1 (4, 0, 0) 2) - 1)))).1 (4, 0, 0) 2).toNat < 30) (c3 : Ca d 79 [aR (some (2, 0, 0))] (am_hp ((sI (sI σ (4, 0, 0) (up (σ.1 (4, 0, 0)) 2 ((σ.1 (4, 0, 0) 2) - 1))) (7, (((sI σ (4, 0, 0) (up (σ.1 (4, 0, 0)) 2 ((σ.1 (4, 0, 0) 2) - 1)))).1 (6, 0, 0) (((sI σ (4, 0, 0) (up (σ.1 (4, 0, 0)) 2 ((σ.1 (4, 0, 0) 2) - 1)))).1 (4, 0, 0) 2).toNat).toNat, 0) (up (((sI σ (4, 0, 0) (up (σ.1 (4, 0, 0)) 2 ((σ.1 (4, 0, 0) 2) - 1)))).1 (7, (((sI σ (4, 0, 0) (up (σ.1 (4, 0, 0)) 2 ((σ.1 (4, 0, 0) 2) - 1)))).1 (6, 0, 0) (((sI σ (4, 0, 0) (up (σ.1 (4, 0, 0)) 2 ((σ.1 (4, 0, 0) 2) - 1)))).1 (4, 0, 0) 2).toNat).toNat, 0)) 7 (((sI σ (4, 0, 0) (up (σ.1 (4, 0, 0)) 2 ((σ.1 (4, 0, 0) 2) - 1)))).1 (4, 0, 0) 3))))) t (.inl none, am_hp σ1, t)) (c4 : Ca d 87 [aR (some (2, 0, 0)), aI (iZ 3)] (am_hp σ1) t (.inl (some (aI (iZ r2))), am_hp σ2, t)) (h5 : r2 = 0 ∨ r2 = 1) (q6 : Q (.inl (some (aI (iZ r2))), am_hp σ2, t)) : Wp k_X8_closeRepeat d (0, [some (aR (some (4, 0, 0))), some (aR (some (2, 0, 0)))], [], am_hp σ, t) Q := by
  refine w_s (c' := (1, [some (aR (some (4, 0, 0))), some (aR (some (2, 0, 0)))], [aR (some (4, 0, 0))], am_hp σ, t)) rfl rfl ?_
  refine w_s (c' := (2, [some (aR (some (4, 0, 0))), some (aR (some (2, 0, 0)))], [aR (some (4, 0, 0)), aR (some (4, 0, 0))], am_hp σ, t)) rfl rfl ?_
  refine w_get rfl (hp_4 _ 0) rfl rfl ?_
  refine w_psh rfl zc_1 rfl ?_
  refine w_isub rfl rfl ?_
  refine w_putI rfl (hp_4 _ 0) rfl rfl rfl ?_
  refine w_s (c' := (11, [some (aR (some (4, 0, 0))), some (aR (some (2, 0, 0)))], [aR (some (4, 0, 0))], am_hp ((sI σ (4, 0, 0) (up (σ.1 (4, 0, 0)) 2 ((σ.1 (4, 0, 0) 2) - 1)))), t)) rfl rfl ?_
  refine w_get rfl (hp_4 _ 0) rfl rfl ?_
  refine w_s (c' := (15, [some (aR (some (4, 0, 0))), some (aR (some (2, 0, 0)))], [aR (some (4, 0, 0)), aR (some (5, 0, 0))], am_hp ((sI σ (4, 0, 0) (up (σ.1 (4, 0, 0)) 2 ((σ.1 (4, 0, 0) 2) - 1)))), t)) rfl rfl ?_
  refine w_get rfl (hp_4 _ 0) rfl rfl ?_
  refine w_s (c' := (19, [some (aR (some (4, 0, 0))), some (aR (some (2, 0, 0)))], [aR (some (4, 0, 0)), aR (some (6, 0, 0)), aR (some (5, 0, 0))], am_hp ((sI σ (4, 0, 0) (up (σ.1 (4, 0, 0)) 2 ((σ.1 (4, 0, 0) 2) - 1)))), t)) rfl rfl ?_
  refine w_get rfl (hp_4 _ 0) rfl rfl ?_
  refine w_ial rfl (hp_6 _ 0 0) h1 rfl rfl ?_
  refine w_aal rfl (hp_5 _ 0) h2 rfl rfl ?_
  refine w_s (c' := (25, [some (aR (some (4, 0, 0))), some (aR (some (2, 0, 0)))], [aR (some (4, 0, 0)), aR (some (7, (((sI σ (4, 0, 0) (up (σ.1 (4, 0, 0)) 2 ((σ.1 (4, 0, 0) 2) - 1)))).1 (6, 0, 0) (((sI σ (4, 0, 0) (up (σ.1 (4, 0, 0)) 2 ((σ.1 (4, 0, 0) 2) - 1)))).1 (4, 0, 0) 2).toNat).toNat, 0))], am_hp ((sI σ (4, 0, 0) (up (σ.1 (4, 0, 0)) 2 ((σ.1 (4, 0, 0) 2) - 1)))), t)) rfl rfl ?_
  refine w_get rfl (hp_4 _ 0) rfl rfl ?_
  refine w_putI rfl (hp_7 _ (((sI σ (4, 0, 0) (up (σ.1 (4, 0, 0)) 2 ((σ.1 (4, 0, 0) 2) - 1)))).1 (6, 0, 0) (((sI σ (4, 0, 0) (up (σ.1 (4, 0, 0)) 2 ((σ.1 (4, 0, 0) 2) - 1)))).1 (4, 0, 0) 2).toNat).toNat) rfl rfl rfl ?_
  refine w_s (c' := (32, [some (aR (some (4, 0, 0))), some (aR (some (2, 0, 0)))], [aR (some (2, 0, 0))], am_hp ((sI (sI σ (4, 0, 0) (up (σ.1 (4, 0, 0)) 2 ((σ.1 (4, 0, 0) 2) - 1))) (7, (((sI σ (4, 0, 0) (up (σ.1 (4, 0, 0)) 2 ((σ.1 (4, 0, 0) 2) - 1)))).1 (6, 0, 0) (((sI σ (4, 0, 0) (up (σ.1 (4, 0, 0)) 2 ((σ.1 (4, 0, 0) 2) - 1)))).1 (4, 0, 0) 2).toNat).toNat, 0) (up (((sI σ (4, 0, 0) (up (σ.1 (4, 0, 0)) 2 ((σ.1 (4, 0, 0) 2) - 1)))).1 (7, (((sI σ (4, 0, 0) (up (σ.1 (4, 0, 0)) 2 ((σ.1 (4, 0, 0) 2) - 1)))).1 (6, 0, 0) (((sI σ (4, 0, 0) (up (σ.1 (4, 0, 0)) 2 ((σ.1 (4, 0, 0) 2) - 1)))).1 (4, 0, 0) 2).toNat).toNat, 0)) 7 (((sI σ (4, 0, 0) (up (σ.1 (4, 0, 0)) 2 ((σ.1 (4, 0, 0) 2) - 1)))).1 (4, 0, 0) 3)))), t)) rfl rfl ?_
  refine w_c0 (c' := (35, [some (aR (some (4, 0, 0))), some (aR (some (2, 0, 0)))], [], am_hp σ1, t)) rfl rfl (rcv_of (hp_2 _ 0)) rfl c3 (Nat.le_refl _) rfl ?_
  refine w_s (c' := (36, [some (aR (some (4, 0, 0))), some (aR (some (2, 0, 0)))], [aR (some (2, 0, 0))], am_hp σ1, t)) rfl rfl ?_
  refine w_psh rfl zc_3 rfl ?_
  refine w_c0 (c' := (40, [some (aR (some (4, 0, 0))), some (aR (some (2, 0, 0)))], [aI (iZ r2)], am_hp σ2, t)) rfl rfl (rcv_of (hp_2 _ 0)) rfl c4 (Nat.le_refl _) rfl ?_
  exact w_ret rfl (frt_b h5) q6

theorem e_X8_closeRepeat {h : AH} {t : KT} {d : Nat} {P : RS → Prop} (w : Wp k_X8_closeRepeat d (0, [some (aR (some (4, 0, 0))), some (aR (some (2, 0, 0)))], [], h, t) P) : ∃ r, Ca (d + 1) 58 [aR (some (4, 0, 0)), aR (some (2, 0, 0))] h t r ∧ P r := ca_W rfl rfl rfl rfl w

theorem b_X8_readCommand_0 {r1 : Option Lc} {σ σ1 : SG} {t : KT} (c1 : Ca d 60 [aR (some (2, 0, 0))] (am_hp σ) t (.inl (some (aR r1)), am_hp σ1, t)) (h2 : ∀ L, r1 = some L → ∃ a : Nat, L = (91, a, 0)) (w3 : ∀ a : Nat, r1 = some (91, a, 0) → Wp k_X8_readCommand d (15, [some (aR (some (4, 0, 0))), some (aR (some (2, 0, 0))), some (aR (some (91, a, 0))), none], [], am_hp σ1, t) Q) (w4 : r1 = none → Wp k_X8_readCommand d (9, [some (aR (some (4, 0, 0))), some (aR (some (2, 0, 0))), some (aR r1), none], [], am_hp σ1, t) Q) : Wp k_X8_readCommand d (0, [some (aR (some (4, 0, 0))), some (aR (some (2, 0, 0))), none, none], [], am_hp σ, t) Q := by
  refine w_s (c' := (1, [some (aR (some (4, 0, 0))), some (aR (some (2, 0, 0))), none, none], [aR (some (2, 0, 0))], am_hp σ, t)) rfl rfl ?_
  refine w_c0 (c' := (4, [some (aR (some (4, 0, 0))), some (aR (some (2, 0, 0))), none, none], [aR r1], am_hp σ1, t)) rfl rfl rfl rfl c1 (Nat.le_refl _) rfl ?_
  refine w_s (c' := (5, [some (aR (some (4, 0, 0))), some (aR (some (2, 0, 0))), some (aR r1), none], [], am_hp σ1, t)) rfl rfl ?_
  refine w_s (c' := (6, [some (aR (some (4, 0, 0))), some (aR (some (2, 0, 0))), some (aR r1), none], [aR r1], am_hp σ1, t)) rfl rfl ?_
  exact w_nnl rfl rfl (fun L hL => by obtain ⟨a, rfl⟩ := h2 L hL; subst hL; exact w3 a rfl) w4

theorem e_X8_readCommand {h : AH} {t : KT} {d : Nat} {P : RS → Prop} (w : Wp k_X8_readCommand d (0, [some (aR (some (4, 0, 0))), some (aR (some (2, 0, 0))), none, none], [], h, t) P) : ∃ r, Ca (d + 1) 59 [aR (some (4, 0, 0)), aR (some (2, 0, 0))] h t r ∧ P r := ca_W rfl rfl rfl rfl w

theorem b_X8_readCommand_9 {o2 : Option Lc} {r1 : Int} {σ σ1 : SG} {t : KT} (c1 : Ca d 83 [aR (some (2, 0, 0)), aI (iZ 1)] (am_hp σ) t (.inl (some (aI (iZ r1))), am_hp σ1, t)) (h2 : r1 = 0 ∨ r1 = 1) (q3 : Q (.inl (some (aI (iZ r1))), am_hp σ1, t)) : Wp k_X8_readCommand d (9, [some (aR (some (4, 0, 0))), some (aR (some (2, 0, 0))), some (aR o2), none], [], am_hp σ, t) Q := by
  refine w_s (c' := (10, [some (aR (some (4, 0, 0))), some (aR (some (2, 0, 0))), some (aR o2), none], [aR (some (2, 0, 0))], am_hp σ, t)) rfl rfl ?_
  refine w_psh rfl zc_1 rfl ?_
  refine w_c0 (c' := (14, [some (aR (some (4, 0, 0))), some (aR (some (2, 0, 0))), some (aR o2), none], [aI (iZ r1)], am_hp σ1, t)) rfl rfl (rcv_of (hp_2 _ 0)) rfl c1 (Nat.le_refl _) rfl ?_
  exact w_ret rfl (frt_b h2) q3

theorem b_X8_readCommand_15 {p2 : Nat} {σ : SG} {t : KT} (w1 : (some (91, p2, 0) : Option Lc) ≠ some (91, 9, 0) → Wp k_X8_readCommand d (36, [some (aR (some (4, 0, 0))), some (aR (some (2, 0, 0))), some (aR (some (91, p2, 0))), none], [], am_hp σ, t) Q) (w2 : (some (91, p2, 0) : Option Lc) = some (91, 9, 0) → Wp k_X8_readCommand d (22, [some (aR (some (4, 0, 0))), some (aR (some (2, 0, 0))), some (aR (some (91, p2, 0))), none], [], am_hp σ, t) Q) : Wp k_X8_readCommand d (15, [some (aR (some (4, 0, 0))), some (aR (some (2, 0, 0))), some (aR (some (91, p2, 0))), none], [], am_hp σ, t) Q := by
  refine w_s (c' := (16, [some (aR (some (4, 0, 0))), some (aR (some (2, 0, 0))), some (aR (some (91, p2, 0))), none], [aR (some (91, p2, 0))], am_hp σ, t)) rfl rfl ?_
  refine w_s (c' := (19, [some (aR (some (4, 0, 0))), some (aR (some (2, 0, 0))), some (aR (some (91, p2, 0))), none], [aR (some (91, 9, 0)), aR (some (91, p2, 0))], am_hp σ, t)) rfl rfl ?_
  exact w_acn rfl rfl rfl rfl w1 w2

theorem b_X8_readCommand_22 {p2 : Nat} {σ : SG} {t : KT} (h1 : -2147483648 ≤ σ.1 (4, 0, 0) 2 ∧ σ.1 (4, 0, 0) 2 < 2147483648) (w2 : σ.1 (4, 0, 0) 2 < 2 → Wp k_X8_readCommand d (36, [some (aR (some (4, 0, 0))), some (aR (some (2, 0, 0))), some (aR (some (91, p2, 0))), none], [], am_hp σ, t) Q) (w3 : 2 ≤ σ.1 (4, 0, 0) 2 → Wp k_X8_readCommand d (30, [some (aR (some (4, 0, 0))), some (aR (some (2, 0, 0))), some (aR (some (91, p2, 0))), none], [], am_hp σ, t) Q) : Wp k_X8_readCommand d (22, [some (aR (some (4, 0, 0))), some (aR (some (2, 0, 0))), some (aR (some (91, p2, 0))), none], [], am_hp σ, t) Q := by
  refine w_s (c' := (23, [some (aR (some (4, 0, 0))), some (aR (some (2, 0, 0))), some (aR (some (91, p2, 0))), none], [aR (some (4, 0, 0))], am_hp σ, t)) rfl rfl ?_
  refine w_get rfl (hp_4 _ 0) rfl rfl ?_
  refine w_psh rfl zc_2 rfl ?_
  exact w_iclt rfl h1 (by decide) rfl w2 w3

theorem b_X8_readCommand_30 {p2 : Nat} {r1 : Int} {σ σ1 : SG} {t : KT} (c1 : Ca d 83 [aR (some (2, 0, 0)), aI (iZ 3)] (am_hp σ) t (.inl (some (aI (iZ r1))), am_hp σ1, t)) (h2 : r1 = 0 ∨ r1 = 1) (q3 : Q (.inl (some (aI (iZ r1))), am_hp σ1, t)) : Wp k_X8_readCommand d (30, [some (aR (some (4, 0, 0))), some (aR (some (2, 0, 0))), some (aR (some (91, p2, 0))), none], [], am_hp σ, t) Q := by
  refine w_s (c' := (31, [some (aR (some (4, 0, 0))), some (aR (some (2, 0, 0))), some (aR (some (91, p2, 0))), none], [aR (some (2, 0, 0))], am_hp σ, t)) rfl rfl ?_
  refine w_psh rfl zc_3 rfl ?_
  refine w_c0 (c' := (35, [some (aR (some (4, 0, 0))), some (aR (some (2, 0, 0))), some (aR (some (91, p2, 0))), none], [aI (iZ r1)], am_hp σ1, t)) rfl rfl (rcv_of (hp_2 _ 0)) rfl c1 (Nat.le_refl _) rfl ?_
  exact w_ret rfl (frt_b h2) q3

theorem b_X8_readCommand_36 {p2 : Nat} {σ : SG} {t : KT} (h1 : -2147483648 ≤ σ.1 (4, 0, 0) 3 ∧ σ.1 (4, 0, 0) 3 < 2147483648) (w2 : σ.1 (4, 0, 0) 3 < 30 → Wp k_X8_readCommand d (51, [some (aR (some (4, 0, 0))), some (aR (some (2, 0, 0))), some (aR (some (91, p2, 0))), none], [], am_hp σ, t) Q) (w3 : 30 ≤ σ.1 (4, 0, 0) 3 → Wp k_X8_readCommand d (45, [some (aR (some (4, 0, 0))), some (aR (some (2, 0, 0))), some (aR (some (91, p2, 0))), none], [], am_hp σ, t) Q) : Wp k_X8_readCommand d (36, [some (aR (some (4, 0, 0))), some (aR (some (2, 0, 0))), some (aR (some (91, p2, 0))), none], [], am_hp σ, t) Q := by
  refine w_s (c' := (37, [some (aR (some (4, 0, 0))), some (aR (some (2, 0, 0))), some (aR (some (91, p2, 0))), none], [aR (some (4, 0, 0))], am_hp σ, t)) rfl rfl ?_
  refine w_get rfl (hp_4 _ 0) rfl rfl ?_
  refine w_psh rfl zc_30 rfl ?_
  exact w_iclt rfl h1 (by decide) rfl w2 w3

theorem b_X8_readCommand_45 {p2 : Nat} {r1 : Int} {σ σ1 : SG} {t : KT} (c1 : Ca d 83 [aR (some (2, 0, 0)), aI (iZ 5)] (am_hp σ) t (.inl (some (aI (iZ r1))), am_hp σ1, t)) (h2 : r1 = 0 ∨ r1 = 1) (q3 : Q (.inl (some (aI (iZ r1))), am_hp σ1, t)) : Wp k_X8_readCommand d (45, [some (aR (some (4, 0, 0))), some (aR (some (2, 0, 0))), some (aR (some (91, p2, 0))), none], [], am_hp σ, t) Q := by
  refine w_s (c' := (46, [some (aR (some (4, 0, 0))), some (aR (some (2, 0, 0))), some (aR (some (91, p2, 0))), none], [aR (some (2, 0, 0))], am_hp σ, t)) rfl rfl ?_
  refine w_psh rfl zc_5 rfl ?_
  refine w_c0 (c' := (50, [some (aR (some (4, 0, 0))), some (aR (some (2, 0, 0))), some (aR (some (91, p2, 0))), none], [aI (iZ r1)], am_hp σ1, t)) rfl rfl (rcv_of (hp_2 _ 0)) rfl c1 (Nat.le_refl _) rfl ?_
  exact w_ret rfl (frt_b h2) q3

theorem b_X8_readCommand_51 {p2 : Nat} {r2 : Int} {σ σ1 σ2 : SG} {t : KT} (h1 : 0 ≤ σ.1 (4, 0, 0) 3 ∧ σ.1 (4, 0, 0) 3 < 30) (c2 : Ca d 79 [aR (some (2, 0, 0))] (am_hp ((sI (sC (sI σ (4, 0, 0) (up (σ.1 (4, 0, 0)) 3 ((σ.1 (4, 0, 0) 3) + 1))) (7, (σ.1 (4, 0, 0) 3).toNat, 0) p2) (7, (σ.1 (4, 0, 0) 3).toNat, 0) (up (((sC (sI σ (4, 0, 0) (up (σ.1 (4, 0, 0)) 3 ((σ.1 (4, 0, 0) 3) + 1))) (7, (σ.1 (4, 0, 0) 3).toNat, 0) p2)).1 (7, (σ.1 (4, 0, 0) 3).toNat, 0)) 7 (((sC (sI σ (4, 0, 0) (up (σ.1 (4, 0, 0)) 3 ((σ.1 (4, 0, 0) 3) + 1))) (7, (σ.1 (4, 0, 0) 3).toNat, 0) p2)).1 (4, 0, 0) 3))))) t (.inl none, am_hp σ1, t)) (c3 : Ca d 61 [aR (some (2, 0, 0)), aR (some (7, (σ.1 (4, 0, 0) 3).toNat, 0))] (am_hp σ1) t (.inl (some (aI (iZ r2))), am_hp σ2, t)) (h4 : -2147483648 ≤ r2 ∧ r2 < 2147483648) (w5 : r2 = 0 → Wp k_X8_readCommand d (104, [some (aR (some (4, 0, 0))), some (aR (some (2, 0, 0))), some (aR (some (91, p2, 0))), some (aR (some (7, (σ.1 (4, 0, 0) 3).toNat, 0)))], [], am_hp σ2, t) Q) (w6 : r2 ≠ 0 → Wp k_X8_readCommand d (96, [some (aR (some (4, 0, 0))), some (aR (some (2, 0, 0))), some (aR (some (91, p2, 0))), some (aR (some (7, (σ.1 (4, 0, 0) 3).toNat, 0)))], [], am_hp σ2, t) Q) : Wp k_X8_readCommand d (51, [some (aR (some (4, 0, 0))), some (aR (some (2, 0, 0))), some (aR (some (91, p2, 0))), none], [], am_hp σ, t) Q := by
  refine w_s (c' := (52, [some (aR (some (4, 0, 0))), some (aR (some (2, 0, 0))), some (aR (some (91, p2, 0))), none], [aR (some (4, 0, 0))], am_hp σ, t)) rfl rfl ?_
  refine w_get rfl (hp_4 _ 0) rfl rfl ?_
  refine w_s (c' := (56, [some (aR (some (4, 0, 0))), some (aR (some (2, 0, 0))), some (aR (some (91, p2, 0))), none], [aR (some (4, 0, 0)), aR (some (5, 0, 0))], am_hp σ, t)) rfl rfl ?_
  refine w_get rfl (hp_4 _ 0) rfl rfl ?_
  refine w_aal rfl (hp_5 _ 0) h1 rfl rfl ?_
  refine w_s (c' := (61, [some (aR (some (4, 0, 0))), some (aR (some (2, 0, 0))), some (aR (some (91, p2, 0))), some (aR (some (7, (σ.1 (4, 0, 0) 3).toNat, 0)))], [], am_hp σ, t)) rfl rfl ?_
  refine w_s (c' := (62, [some (aR (some (4, 0, 0))), some (aR (some (2, 0, 0))), some (aR (some (91, p2, 0))), some (aR (some (7, (σ.1 (4, 0, 0) 3).toNat, 0)))], [aR (some (4, 0, 0))], am_hp σ, t)) rfl rfl ?_
  refine w_s (c' := (63, [some (aR (some (4, 0, 0))), some (aR (some (2, 0, 0))), some (aR (some (91, p2, 0))), some (aR (some (7, (σ.1 (4, 0, 0) 3).toNat, 0)))], [aR (some (4, 0, 0)), aR (some (4, 0, 0))], am_hp σ, t)) rfl rfl ?_
  refine w_get rfl (hp_4 _ 0) rfl rfl ?_
  refine w_psh rfl zc_1 rfl ?_
  refine w_iadd rfl rfl ?_
  refine w_putI rfl (hp_4 _ 0) rfl rfl rfl ?_
  refine w_s (c' := (72, [some (aR (some (4, 0, 0))), some (aR (some (2, 0, 0))), some (aR (some (91, p2, 0))), some (aR (some (7, (σ.1 (4, 0, 0) 3).toNat, 0)))], [aR (some (7, (σ.1 (4, 0, 0) 3).toNat, 0))], am_hp ((sI σ (4, 0, 0) (up (σ.1 (4, 0, 0)) 3 ((σ.1 (4, 0, 0) 3) + 1)))), t)) rfl rfl ?_
  refine w_s (c' := (73, [some (aR (some (4, 0, 0))), some (aR (some (2, 0, 0))), some (aR (some (91, p2, 0))), some (aR (some (7, (σ.1 (4, 0, 0) 3).toNat, 0)))], [aR (some (91, p2, 0)), aR (some (7, (σ.1 (4, 0, 0) 3).toNat, 0))], am_hp ((sI σ (4, 0, 0) (up (σ.1 (4, 0, 0)) 3 ((σ.1 (4, 0, 0) 3) + 1)))), t)) rfl rfl ?_
  refine w_putC rfl (hp_7 _ (σ.1 (4, 0, 0) 3).toNat) rfl rfl rfl ?_
  refine w_s (c' := (77, [some (aR (some (4, 0, 0))), some (aR (some (2, 0, 0))), some (aR (some (91, p2, 0))), some (aR (some (7, (σ.1 (4, 0, 0) 3).toNat, 0)))], [aR (some (7, (σ.1 (4, 0, 0) 3).toNat, 0))], am_hp ((sC (sI σ (4, 0, 0) (up (σ.1 (4, 0, 0)) 3 ((σ.1 (4, 0, 0) 3) + 1))) (7, (σ.1 (4, 0, 0) 3).toNat, 0) p2)), t)) rfl rfl ?_
  refine w_s (c' := (78, [some (aR (some (4, 0, 0))), some (aR (some (2, 0, 0))), some (aR (some (91, p2, 0))), some (aR (some (7, (σ.1 (4, 0, 0) 3).toNat, 0)))], [aR (some (4, 0, 0)), aR (some (7, (σ.1 (4, 0, 0) 3).toNat, 0))], am_hp ((sC (sI σ (4, 0, 0) (up (σ.1 (4, 0, 0)) 3 ((σ.1 (4, 0, 0) 3) + 1))) (7, (σ.1 (4, 0, 0) 3).toNat, 0) p2)), t)) rfl rfl ?_
  refine w_get rfl (hp_4 _ 0) rfl rfl ?_
  refine w_putI rfl (hp_7 _ (σ.1 (4, 0, 0) 3).toNat) rfl rfl rfl ?_
  refine w_s (c' := (85, [some (aR (some (4, 0, 0))), some (aR (some (2, 0, 0))), some (aR (some (91, p2, 0))), some (aR (some (7, (σ.1 (4, 0, 0) 3).toNat, 0)))], [aR (some (2, 0, 0))], am_hp ((sI (sC (sI σ (4, 0, 0) (up (σ.1 (4, 0, 0)) 3 ((σ.1 (4, 0, 0) 3) + 1))) (7, (σ.1 (4, 0, 0) 3).toNat, 0) p2) (7, (σ.1 (4, 0, 0) 3).toNat, 0) (up (((sC (sI σ (4, 0, 0) (up (σ.1 (4, 0, 0)) 3 ((σ.1 (4, 0, 0) 3) + 1))) (7, (σ.1 (4, 0, 0) 3).toNat, 0) p2)).1 (7, (σ.1 (4, 0, 0) 3).toNat, 0)) 7 (((sC (sI σ (4, 0, 0) (up (σ.1 (4, 0, 0)) 3 ((σ.1 (4, 0, 0) 3) + 1))) (7, (σ.1 (4, 0, 0) 3).toNat, 0) p2)).1 (4, 0, 0) 3)))), t)) rfl rfl ?_
  refine w_c0 (c' := (88, [some (aR (some (4, 0, 0))), some (aR (some (2, 0, 0))), some (aR (some (91, p2, 0))), some (aR (some (7, (σ.1 (4, 0, 0) 3).toNat, 0)))], [], am_hp σ1, t)) rfl rfl (rcv_of (hp_2 _ 0)) rfl c2 (Nat.le_refl _) rfl ?_
  refine w_s (c' := (89, [some (aR (some (4, 0, 0))), some (aR (some (2, 0, 0))), some (aR (some (91, p2, 0))), some (aR (some (7, (σ.1 (4, 0, 0) 3).toNat, 0)))], [aR (some (2, 0, 0))], am_hp σ1, t)) rfl rfl ?_
  refine w_s (c' := (90, [some (aR (some (4, 0, 0))), some (aR (some (2, 0, 0))), some (aR (some (91, p2, 0))), some (aR (some (7, (σ.1 (4, 0, 0) 3).toNat, 0)))], [aR (some (7, (σ.1 (4, 0, 0) 3).toNat, 0)), aR (some (2, 0, 0))], am_hp σ1, t)) rfl rfl ?_
  refine w_c0 (c' := (93, [some (aR (some (4, 0, 0))), some (aR (some (2, 0, 0))), some (aR (some (91, p2, 0))), some (aR (some (7, (σ.1 (4, 0, 0) 3).toNat, 0)))], [aI (iZ r2)], am_hp σ2, t)) rfl rfl rfl rfl c3 (Nat.le_refl _) rfl ?_
  exact w_ifeq rfl h4 rfl w5 w6

theorem b_X8_readCommand_96 {p2 : Nat} {p3 : Nat} {r1 : Int} {σ σ1 : SG} {t : KT} (c1 : Ca d 62 [aR (some (2, 0, 0)), aR (some (7, p3, 0))] (am_hp σ) t (.inl (some (aI (iZ r1))), am_hp σ1, t)) (h2 : -2147483648 ≤ r1 ∧ r1 < 2147483648) (w3 : r1 ≠ 0 → Wp k_X8_readCommand d (106, [some (aR (some (4, 0, 0))), some (aR (some (2, 0, 0))), some (aR (some (91, p2, 0))), some (aR (some (7, p3, 0)))], [], am_hp σ1, t) Q) (w4 : r1 = 0 → Wp k_X8_readCommand d (104, [some (aR (some (4, 0, 0))), some (aR (some (2, 0, 0))), some (aR (some (91, p2, 0))), some (aR (some (7, p3, 0)))], [], am_hp σ1, t) Q) : Wp k_X8_readCommand d (96, [some (aR (some (4, 0, 0))), some (aR (some (2, 0, 0))), some (aR (some (91, p2, 0))), some (aR (some (7, p3, 0)))], [], am_hp σ, t) Q := by
  refine w_s (c' := (97, [some (aR (some (4, 0, 0))), some (aR (some (2, 0, 0))), some (aR (some (91, p2, 0))), some (aR (some (7, p3, 0)))], [aR (some (2, 0, 0))], am_hp σ, t)) rfl rfl ?_
  refine w_s (c' := (98, [some (aR (some (4, 0, 0))), some (aR (some (2, 0, 0))), some (aR (some (91, p2, 0))), some (aR (some (7, p3, 0)))], [aR (some (7, p3, 0)), aR (some (2, 0, 0))], am_hp σ, t)) rfl rfl ?_
  refine w_c0 (c' := (101, [some (aR (some (4, 0, 0))), some (aR (some (2, 0, 0))), some (aR (some (91, p2, 0))), some (aR (some (7, p3, 0)))], [aI (iZ r1)], am_hp σ1, t)) rfl rfl rfl rfl c1 (Nat.le_refl _) rfl ?_
  exact w_ifne rfl h2 rfl w3 w4

theorem b_X8_readCommand_104 {p2 : Nat} {p3 : Nat} {σ : SG} {t : KT} (q1 : Q (.inl (some (aI (iZ 0))), am_hp σ, t)) : Wp k_X8_readCommand d (104, [some (aR (some (4, 0, 0))), some (aR (some (2, 0, 0))), some (aR (some (91, p2, 0))), some (aR (some (7, p3, 0)))], [], am_hp σ, t) Q := by
  refine w_psh rfl zc_0 rfl ?_
  exact w_ret rfl (frt_b (by decide)) q1

theorem b_X8_readCommand_106 {p2 : Nat} {p3 : Nat} {σ : SG} {t : KT} (w1 : (some (91, p2, 0) : Option Lc) = some (91, 9, 0) → Wp k_X8_readCommand d (119, [some (aR (some (4, 0, 0))), some (aR (some (2, 0, 0))), some (aR (some (91, p2, 0))), some (aR (some (7, p3, 0)))], [], am_hp σ, t) Q) (w2 : (some (91, p2, 0) : Option Lc) ≠ some (91, 9, 0) → Wp k_X8_readCommand d (113, [some (aR (some (4, 0, 0))), some (aR (some (2, 0, 0))), some (aR (some (91, p2, 0))), some (aR (some (7, p3, 0)))], [], am_hp σ, t) Q) : Wp k_X8_readCommand d (106, [some (aR (some (4, 0, 0))), some (aR (some (2, 0, 0))), some (aR (some (91, p2, 0))), some (aR (some (7, p3, 0)))], [], am_hp σ, t) Q := by
  refine w_s (c' := (107, [some (aR (some (4, 0, 0))), some (aR (some (2, 0, 0))), some (aR (some (91, p2, 0))), some (aR (some (7, p3, 0)))], [aR (some (91, p2, 0))], am_hp σ, t)) rfl rfl ?_
  refine w_s (c' := (110, [some (aR (some (4, 0, 0))), some (aR (some (2, 0, 0))), some (aR (some (91, p2, 0))), some (aR (some (7, p3, 0)))], [aR (some (91, 9, 0)), aR (some (91, p2, 0))], am_hp σ, t)) rfl rfl ?_
  exact w_acq rfl rfl rfl rfl w1 w2

theorem b_X8_readCommand_113 {p2 : Nat} {p3 : Nat} {r1 : Int} {σ σ1 : SG} {t : KT} (c1 : Ca d 87 [aR (some (2, 0, 0)), aI (iZ 3)] (am_hp σ) t (.inl (some (aI (iZ r1))), am_hp σ1, t)) (h2 : r1 = 0 ∨ r1 = 1) (q3 : Q (.inl (some (aI (iZ r1))), am_hp σ1, t)) : Wp k_X8_readCommand d (113, [some (aR (some (4, 0, 0))), some (aR (some (2, 0, 0))), some (aR (some (91, p2, 0))), some (aR (some (7, p3, 0)))], [], am_hp σ, t) Q := by
  refine w_s (c' := (114, [some (aR (some (4, 0, 0))), some (aR (some (2, 0, 0))), some (aR (some (91, p2, 0))), some (aR (some (7, p3, 0)))], [aR (some (2, 0, 0))], am_hp σ, t)) rfl rfl ?_
  refine w_psh rfl zc_3 rfl ?_
  refine w_c0 (c' := (118, [some (aR (some (4, 0, 0))), some (aR (some (2, 0, 0))), some (aR (some (91, p2, 0))), some (aR (some (7, p3, 0)))], [aI (iZ r1)], am_hp σ1, t)) rfl rfl (rcv_of (hp_2 _ 0)) rfl c1 (Nat.le_refl _) rfl ?_
  exact w_ret rfl (frt_b h2) q3

theorem b_X8_readCommand_119 {p2 : Nat} {p3 : Nat} {r1 : Int} {σ σ1 : SG} {t : KT} (h1 : 0 ≤ σ.1 (4, 0, 0) 2 ∧ σ.1 (4, 0, 0) 2 < 2) (c2 : Ca d 87 [aR (some (2, 0, 0)), aI (iZ 4)] (am_hp ((sI (sI σ (6, 0, 0) (up (σ.1 (6, 0, 0)) (σ.1 (4, 0, 0) 2).toNat ((σ.1 (4, 0, 0) 3) - 1))) (4, 0, 0) (up (((sI σ (6, 0, 0) (up (σ.1 (6, 0, 0)) (σ.1 (4, 0, 0) 2).toNat ((σ.1 (4, 0, 0) 3) - 1)))).1 (4, 0, 0)) 2 ((((sI σ (6, 0, 0) (up (σ.1 (6, 0, 0)) (σ.1 (4, 0, 0) 2).toNat ((σ.1 (4, 0, 0) 3) - 1)))).1 (4, 0, 0) 2) + 1))))) t (.inl (some (aI (iZ r1))), am_hp σ1, t)) (h3 : r1 = 0 ∨ r1 = 1) (q4 : Q (.inl (some (aI (iZ r1))), am_hp σ1, t)) : Wp k_X8_readCommand d (119, [some (aR (some (4, 0, 0))), some (aR (some (2, 0, 0))), some (aR (some (91, p2, 0))), some (aR (some (7, p3, 0)))], [], am_hp σ, t) Q := by
  refine w_s (c' := (120, [some (aR (some (4, 0, 0))), some (aR (some (2, 0, 0))), some (aR (some (91, p2, 0))), some (aR (some (7, p3, 0)))], [aR (some (4, 0, 0))], am_hp σ, t)) rfl rfl ?_
  refine w_get rfl (hp_4 _ 0) rfl rfl ?_
  refine w_s (c' := (124, [some (aR (some (4, 0, 0))), some (aR (some (2, 0, 0))), some (aR (some (91, p2, 0))), some (aR (some (7, p3, 0)))], [aR (some (4, 0, 0)), aR (some (6, 0, 0))], am_hp σ, t)) rfl rfl ?_
  refine w_get rfl (hp_4 _ 0) rfl rfl ?_
  refine w_s (c' := (128, [some (aR (some (4, 0, 0))), some (aR (some (2, 0, 0))), some (aR (some (91, p2, 0))), some (aR (some (7, p3, 0)))], [aR (some (4, 0, 0)), aI (iZ (σ.1 (4, 0, 0) 2)), aR (some (6, 0, 0))], am_hp σ, t)) rfl rfl ?_
  refine w_get rfl (hp_4 _ 0) rfl rfl ?_
  refine w_psh rfl zc_1 rfl ?_
  refine w_isub rfl rfl ?_
  refine w_ias rfl (mk_6 _ 0 0) h1 rfl rfl rfl ?_
  refine w_s (c' := (135, [some (aR (some (4, 0, 0))), some (aR (some (2, 0, 0))), some (aR (some (91, p2, 0))), some (aR (some (7, p3, 0)))], [aR (some (4, 0, 0))], am_hp ((sI σ (6, 0, 0) (up (σ.1 (6, 0, 0)) (σ.1 (4, 0, 0) 2).toNat ((σ.1 (4, 0, 0) 3) - 1)))), t)) rfl rfl ?_
  refine w_s (c' := (136, [some (aR (some (4, 0, 0))), some (aR (some (2, 0, 0))), some (aR (some (91, p2, 0))), some (aR (some (7, p3, 0)))], [aR (some (4, 0, 0)), aR (some (4, 0, 0))], am_hp ((sI σ (6, 0, 0) (up (σ.1 (6, 0, 0)) (σ.1 (4, 0, 0) 2).toNat ((σ.1 (4, 0, 0) 3) - 1)))), t)) rfl rfl ?_
  refine w_get rfl (hp_4 _ 0) rfl rfl ?_
  refine w_psh rfl zc_1 rfl ?_
  refine w_iadd rfl rfl ?_
  refine w_putI rfl (hp_4 _ 0) rfl rfl rfl ?_
  refine w_s (c' := (145, [some (aR (some (4, 0, 0))), some (aR (some (2, 0, 0))), some (aR (some (91, p2, 0))), some (aR (some (7, p3, 0)))], [aR (some (2, 0, 0))], am_hp ((sI (sI σ (6, 0, 0) (up (σ.1 (6, 0, 0)) (σ.1 (4, 0, 0) 2).toNat ((σ.1 (4, 0, 0) 3) - 1))) (4, 0, 0) (up (((sI σ (6, 0, 0) (up (σ.1 (6, 0, 0)) (σ.1 (4, 0, 0) 2).toNat ((σ.1 (4, 0, 0) 3) - 1)))).1 (4, 0, 0)) 2 ((((sI σ (6, 0, 0) (up (σ.1 (6, 0, 0)) (σ.1 (4, 0, 0) 2).toNat ((σ.1 (4, 0, 0) 3) - 1)))).1 (4, 0, 0) 2) + 1)))), t)) rfl rfl ?_
  refine w_psh rfl zc_4 rfl ?_
  refine w_c0 (c' := (149, [some (aR (some (4, 0, 0))), some (aR (some (2, 0, 0))), some (aR (some (91, p2, 0))), some (aR (some (7, p3, 0)))], [aI (iZ r1)], am_hp σ1, t)) rfl rfl (rcv_of (hp_2 _ 0)) rfl c2 (Nat.le_refl _) rfl ?_
  exact w_ret rfl (frt_b h3) q4

theorem b_X8_commandAt_0 {σ : SG} {t : KT} (w1 : Wp k_X8_commandAt d (2, [some (aR (some (2, 0, 0))), some (aI (iZ 0))], [], am_hp σ, t) Q) : Wp k_X8_commandAt d (0, [some (aR (some (2, 0, 0))), none], [], am_hp σ, t) Q := by
  refine w_psh rfl zc_0 rfl ?_
  refine w_s (c' := (2, [some (aR (some (2, 0, 0))), some (aI (iZ 0))], [], am_hp σ, t)) rfl rfl ?_
  exact w1

theorem e_X8_commandAt {h : AH} {t : KT} {d : Nat} {P : RS → Prop} (w : Wp k_X8_commandAt d (0, [some (aR (some (2, 0, 0))), none], [], h, t) P) : ∃ r, Ca (d + 1) 60 [aR (some (2, 0, 0))] h t r ∧ P r := ca_W rfl rfl rfl rfl w

theorem b_X8_commandAt_2 {x1 : Int} {σ : SG} {t : KT} (h1 : -2147483648 ≤ x1 ∧ x1 < 2147483648) (w2 : 10 ≤ x1 → Wp k_X8_commandAt d (37, [some (aR (some (2, 0, 0))), some (aI (iZ x1))], [], am_hp σ, t) Q) (w3 : x1 < 10 → Wp k_X8_commandAt d (10, [some (aR (some (2, 0, 0))), some (aI (iZ x1))], [], am_hp σ, t) Q) : Wp k_X8_commandAt d (2, [some (aR (some (2, 0, 0))), some (aI (iZ x1))], [], am_hp σ, t) Q := by
  refine w_s (c' := (3, [some (aR (some (2, 0, 0))), some (aI (iZ x1))], [aI (iZ x1)], am_hp σ, t)) rfl rfl ?_
  refine w_s (c' := (6, [some (aR (some (2, 0, 0))), some (aI (iZ x1))], [aR (some (93, 0, 0)), aI (iZ x1)], am_hp σ, t)) rfl rfl ?_
  refine w_s rfl rfl ?_
  refine w_e (c' := (7, [some (aR (some (2, 0, 0))), some (aI (iZ x1))], [aI (iZ 10), aI (iZ x1)], am_hp σ, t)) rfl ?_
  exact w_icge rfl h1 (by decide) rfl w2 w3

theorem b_X8_commandAt_10 {x1 : Int} {r1 : Int} {σ σ1 : SG} {t : KT} (h1 : 0 ≤ x1 ∧ x1 < 10) (c2 : Ca d 84 [aR (some (2, 0, 0)), aR (some (94, x1.toNat, 0))] (am_hp σ) t (.inl (some (aI (iZ r1))), am_hp σ1, t)) (h3 : -2147483648 ≤ r1 ∧ r1 < 2147483648) (w4 : r1 = 0 → Wp k_X8_commandAt d (31, [some (aR (some (2, 0, 0))), some (aI (iZ x1))], [], am_hp σ1, t) Q) (w5 : r1 ≠ 0 → Wp k_X8_commandAt d (25, [some (aR (some (2, 0, 0))), some (aI (iZ x1))], [], am_hp σ1, t) Q) : Wp k_X8_commandAt d (10, [some (aR (some (2, 0, 0))), some (aI (iZ x1))], [], am_hp σ, t) Q := by
  refine w_s (c' := (11, [some (aR (some (2, 0, 0))), some (aI (iZ x1))], [aR (some (2, 0, 0))], am_hp σ, t)) rfl rfl ?_
  refine w_s (c' := (14, [some (aR (some (2, 0, 0))), some (aI (iZ x1))], [aR (some (93, 0, 0)), aR (some (2, 0, 0))], am_hp σ, t)) rfl rfl ?_
  refine w_s (c' := (15, [some (aR (some (2, 0, 0))), some (aI (iZ x1))], [aI (iZ x1), aR (some (93, 0, 0)), aR (some (2, 0, 0))], am_hp σ, t)) rfl rfl ?_
  refine w_aa8 rfl h1 rfl ?_
  refine w_get rfl (hp_91 _ x1.toNat) rfl rfl ?_
  refine w_c0 (c' := (22, [some (aR (some (2, 0, 0))), some (aI (iZ x1))], [aI (iZ r1)], am_hp σ1, t)) rfl rfl (rcv_of (hp_2 _ 0)) rfl c2 (Nat.le_refl _) rfl ?_
  exact w_ifeq rfl h3 rfl w4 w5

theorem b_X8_commandAt_25 {x1 : Int} {σ : SG} {t : KT} (h1 : 0 ≤ x1 ∧ x1 < 10) (q2 : Q (.inl (some (aR (some (91, x1.toNat, 0)))), am_hp σ, t)) : Wp k_X8_commandAt d (25, [some (aR (some (2, 0, 0))), some (aI (iZ x1))], [], am_hp σ, t) Q := by
  refine w_s (c' := (28, [some (aR (some (2, 0, 0))), some (aI (iZ x1))], [aR (some (93, 0, 0))], am_hp σ, t)) rfl rfl ?_
  refine w_s (c' := (29, [some (aR (some (2, 0, 0))), some (aI (iZ x1))], [aI (iZ x1), aR (some (93, 0, 0))], am_hp σ, t)) rfl rfl ?_
  refine w_aa8 rfl h1 rfl ?_
  exact w_ret rfl rfl q2

theorem b_X8_commandAt_31 {x1 : Int} {σ : SG} {t : KT} (w1 : Wp k_X8_commandAt d (2, [some (aR (some (2, 0, 0))), some (aI (iZ (x1 + 1)))], [], am_hp σ, t) Q) : Wp k_X8_commandAt d (31, [some (aR (some (2, 0, 0))), some (aI (iZ x1))], [], am_hp σ, t) Q := by
  refine w_inc (a := x1) (ls' := [some (aR (some (2, 0, 0))), some (aI (iZ (x1 + 1)))]) rfl rfl rfl zc_1 rfl rfl ?_
  refine w_s (c' := (2, [some (aR (some (2, 0, 0))), some (aI (iZ (x1 + 1)))], [], am_hp σ, t)) rfl rfl ?_
  exact w1

theorem b_X8_commandAt_37 {x1 : Int} {σ : SG} {t : KT} (q1 : Q (.inl (some (aR none)), am_hp σ, t)) : Wp k_X8_commandAt d (37, [some (aR (some (2, 0, 0))), some (aI (iZ x1))], [], am_hp σ, t) Q := by
  refine w_s (c' := (38, [some (aR (some (2, 0, 0))), some (aI (iZ x1))], [aR none], am_hp σ, t)) rfl rfl ?_
  exact w_ret rfl rfl q1

theorem b_X8_readNames_0 {p1 : Nat} {σ : SG} {t : KT} (h1 : -2147483648 ≤ ((am_cmd (((sJ (sJ σ (7, p1, 0) (up (σ.2.1 (7, p1, 0)) 1 0)) (7, p1, 0) (up (((sJ σ (7, p1, 0) (up (σ.2.1 (7, p1, 0)) 1 0))).2.1 (7, p1, 0)) 2 0))).2.2.2.1 (7, p1, 0))).2.1).toInt ∧ ((am_cmd (((sJ (sJ σ (7, p1, 0) (up (σ.2.1 (7, p1, 0)) 1 0)) (7, p1, 0) (up (((sJ σ (7, p1, 0) (up (σ.2.1 (7, p1, 0)) 1 0))).2.1 (7, p1, 0)) 2 0))).2.2.2.1 (7, p1, 0))).2.1).toInt < 2147483648) (w2 : ((am_cmd (((sJ (sJ σ (7, p1, 0) (up (σ.2.1 (7, p1, 0)) 1 0)) (7, p1, 0) (up (((sJ σ (7, p1, 0) (up (σ.2.1 (7, p1, 0)) 1 0))).2.1 (7, p1, 0)) 2 0))).2.2.2.1 (7, p1, 0))).2.1).toInt ≤ 0 → Wp k_X8_readNames d (38, [some (aR (some (2, 0, 0))), some (aR (some (7, p1, 0)))], [], am_hp ((sJ (sJ σ (7, p1, 0) (up (σ.2.1 (7, p1, 0)) 1 0)) (7, p1, 0) (up (((sJ σ (7, p1, 0) (up (σ.2.1 (7, p1, 0)) 1 0))).2.1 (7, p1, 0)) 2 0))), t) Q) (w3 : 0 < ((am_cmd (((sJ (sJ σ (7, p1, 0) (up (σ.2.1 (7, p1, 0)) 1 0)) (7, p1, 0) (up (((sJ σ (7, p1, 0) (up (σ.2.1 (7, p1, 0)) 1 0))).2.1 (7, p1, 0)) 2 0))).2.2.2.1 (7, p1, 0))).2.1).toInt → Wp k_X8_readNames d (20, [some (aR (some (2, 0, 0))), some (aR (some (7, p1, 0)))], [], am_hp ((sJ (sJ σ (7, p1, 0) (up (σ.2.1 (7, p1, 0)) 1 0)) (7, p1, 0) (up (((sJ σ (7, p1, 0) (up (σ.2.1 (7, p1, 0)) 1 0))).2.1 (7, p1, 0)) 2 0))), t) Q) : Wp k_X8_readNames d (0, [some (aR (some (2, 0, 0))), some (aR (some (7, p1, 0)))], [], am_hp σ, t) Q := by
  refine w_s (c' := (1, [some (aR (some (2, 0, 0))), some (aR (some (7, p1, 0)))], [aR (some (7, p1, 0))], am_hp σ, t)) rfl rfl ?_
  refine w_psL rfl yc_0 rfl ?_
  refine w_putJ rfl (hp_7 _ p1) rfl rfl rfl ?_
  refine w_s (c' := (6, [some (aR (some (2, 0, 0))), some (aR (some (7, p1, 0)))], [aR (some (7, p1, 0))], am_hp ((sJ σ (7, p1, 0) (up (σ.2.1 (7, p1, 0)) 1 0))), t)) rfl rfl ?_
  refine w_psL rfl yc_0 rfl ?_
  refine w_putJ rfl (hp_7 _ p1) rfl rfl rfl ?_
  refine w_s (c' := (11, [some (aR (some (2, 0, 0))), some (aR (some (7, p1, 0)))], [aR (some (7, p1, 0))], am_hp ((sJ (sJ σ (7, p1, 0) (up (σ.2.1 (7, p1, 0)) 1 0)) (7, p1, 0) (up (((sJ σ (7, p1, 0) (up (σ.2.1 (7, p1, 0)) 1 0))).2.1 (7, p1, 0)) 2 0))), t)) rfl rfl ?_
  refine w_get rfl (hp_7 _ p1) rfl rfl ?_
  refine w_get rfl (hp_91 _ (((sJ (sJ σ (7, p1, 0) (up (σ.2.1 (7, p1, 0)) 1 0)) (7, p1, 0) (up (((sJ σ (7, p1, 0) (up (σ.2.1 (7, p1, 0)) 1 0))).2.1 (7, p1, 0)) 2 0))).2.2.2.1 (7, p1, 0))) rfl rfl ?_
  refine w_e (c' := (17, [some (aR (some (2, 0, 0))), some (aR (some (7, p1, 0)))], [aI (iZ (((am_cmd (((sJ (sJ σ (7, p1, 0) (up (σ.2.1 (7, p1, 0)) 1 0)) (7, p1, 0) (up (((sJ σ (7, p1, 0) (up (σ.2.1 (7, p1, 0)) 1 0))).2.1 (7, p1, 0)) 2 0))).2.2.2.1 (7, p1, 0))).2.1).toInt))], am_hp ((sJ (sJ σ (7, p1, 0) (up (σ.2.1 (7, p1, 0)) 1 0)) (7, p1, 0) (up (((sJ σ (7, p1, 0) (up (σ.2.1 (7, p1, 0)) 1 0))).2.1 (7, p1, 0)) 2 0))), t)) (by rw [iZ_toInt]) ?_
  exact w_ifle rfl h1 rfl w2 w3

theorem e_X8_readNames {p1 : Nat} {h : AH} {t : KT} {d : Nat} {P : RS → Prop} (w : Wp k_X8_readNames d (0, [some (aR (some (2, 0, 0))), some (aR (some (7, p1, 0)))], [], h, t) P) : ∃ r, Ca (d + 1) 61 [aR (some (2, 0, 0)), aR (some (7, p1, 0))] h t r ∧ P r := ca_W rfl rfl rfl rfl w

theorem b_X8_readNames_20 {p1 : Nat} {r1 : Int} {σ σ1 : SG} {t : KT} (c1 : Ca d 87 [aR (some (2, 0, 0)), aI (iZ 1)] (am_hp ((sJ σ (7, p1, 0) (up (σ.2.1 (7, p1, 0)) 1 (σ.2.1 (2, 0, 0) 4))))) t (.inl (some (aI (iZ r1))), am_hp σ1, t)) (h2 : -2147483648 ≤ r1 ∧ r1 < 2147483648) (w3 : r1 ≠ 0 → Wp k_X8_readNames d (38, [some (aR (some (2, 0, 0))), some (aR (some (7, p1, 0)))], [], am_hp σ1, t) Q) (w4 : r1 = 0 → Wp k_X8_readNames d (36, [some (aR (some (2, 0, 0))), some (aR (some (7, p1, 0)))], [], am_hp σ1, t) Q) : Wp k_X8_readNames d (20, [some (aR (some (2, 0, 0))), some (aR (some (7, p1, 0)))], [], am_hp σ, t) Q := by
  refine w_s (c' := (21, [some (aR (some (2, 0, 0))), some (aR (some (7, p1, 0)))], [aR (some (7, p1, 0))], am_hp σ, t)) rfl rfl ?_
  refine w_s (c' := (22, [some (aR (some (2, 0, 0))), some (aR (some (7, p1, 0)))], [aR (some (2, 0, 0)), aR (some (7, p1, 0))], am_hp σ, t)) rfl rfl ?_
  refine w_get rfl (hp_2 _ 0) rfl rfl ?_
  refine w_putJ rfl (hp_7 _ p1) rfl rfl rfl ?_
  refine w_s (c' := (29, [some (aR (some (2, 0, 0))), some (aR (some (7, p1, 0)))], [aR (some (2, 0, 0))], am_hp ((sJ σ (7, p1, 0) (up (σ.2.1 (7, p1, 0)) 1 (σ.2.1 (2, 0, 0) 4)))), t)) rfl rfl ?_
  refine w_psh rfl zc_1 rfl ?_
  refine w_c0 (c' := (33, [some (aR (some (2, 0, 0))), some (aR (some (7, p1, 0)))], [aI (iZ r1)], am_hp σ1, t)) rfl rfl (rcv_of (hp_2 _ 0)) rfl c1 (Nat.le_refl _) rfl ?_
  exact w_ifne rfl h2 rfl w3 w4

theorem b_X8_readNames_36 {p1 : Nat} {σ : SG} {t : KT} (q1 : Q (.inl (some (aI (iZ 0))), am_hp σ, t)) : Wp k_X8_readNames d (36, [some (aR (some (2, 0, 0))), some (aR (some (7, p1, 0)))], [], am_hp σ, t) Q := by
  refine w_psh rfl zc_0 rfl ?_
  exact w_ret rfl (frt_b (by decide)) q1

theorem b_X8_readNames_38 {p1 : Nat} {σ : SG} {t : KT} (h1 : -2147483648 ≤ ((am_cmd (σ.2.2.2.1 (7, p1, 0))).2.1).toInt ∧ ((am_cmd (σ.2.2.2.1 (7, p1, 0))).2.1).toInt < 2147483648) (w2 : ((am_cmd (σ.2.2.2.1 (7, p1, 0))).2.1).toInt ≤ 1 → Wp k_X8_readNames d (63, [some (aR (some (2, 0, 0))), some (aR (some (7, p1, 0)))], [], am_hp σ, t) Q) (w3 : 1 < ((am_cmd (σ.2.2.2.1 (7, p1, 0))).2.1).toInt → Wp k_X8_readNames d (49, [some (aR (some (2, 0, 0))), some (aR (some (7, p1, 0)))], [], am_hp σ, t) Q) : Wp k_X8_readNames d (38, [some (aR (some (2, 0, 0))), some (aR (some (7, p1, 0)))], [], am_hp σ, t) Q := by
  refine w_s (c' := (39, [some (aR (some (2, 0, 0))), some (aR (some (7, p1, 0)))], [aR (some (7, p1, 0))], am_hp σ, t)) rfl rfl ?_
  refine w_get rfl (hp_7 _ p1) rfl rfl ?_
  refine w_get rfl (hp_91 _ (σ.2.2.2.1 (7, p1, 0))) rfl rfl ?_
  refine w_e (c' := (45, [some (aR (some (2, 0, 0))), some (aR (some (7, p1, 0)))], [aI (iZ (((am_cmd (σ.2.2.2.1 (7, p1, 0))).2.1).toInt))], am_hp σ, t)) (by rw [iZ_toInt]) ?_
  refine w_psh rfl zc_1 rfl ?_
  exact w_icle rfl h1 (by decide) rfl w2 w3

theorem b_X8_readNames_49 {p1 : Nat} {r1 : Int} {σ σ1 : SG} {t : KT} (c1 : Ca d 87 [aR (some (2, 0, 0)), aI (iZ 1)] (am_hp ((sJ σ (7, p1, 0) (up (σ.2.1 (7, p1, 0)) 2 (σ.2.1 (2, 0, 0) 4))))) t (.inl (some (aI (iZ r1))), am_hp σ1, t)) (h2 : r1 = 0 ∨ r1 = 1) (q3 : Q (.inl (some (aI (iZ r1))), am_hp σ1, t)) : Wp k_X8_readNames d (49, [some (aR (some (2, 0, 0))), some (aR (some (7, p1, 0)))], [], am_hp σ, t) Q := by
  refine w_s (c' := (50, [some (aR (some (2, 0, 0))), some (aR (some (7, p1, 0)))], [aR (some (7, p1, 0))], am_hp σ, t)) rfl rfl ?_
  refine w_s (c' := (51, [some (aR (some (2, 0, 0))), some (aR (some (7, p1, 0)))], [aR (some (2, 0, 0)), aR (some (7, p1, 0))], am_hp σ, t)) rfl rfl ?_
  refine w_get rfl (hp_2 _ 0) rfl rfl ?_
  refine w_putJ rfl (hp_7 _ p1) rfl rfl rfl ?_
  refine w_s (c' := (58, [some (aR (some (2, 0, 0))), some (aR (some (7, p1, 0)))], [aR (some (2, 0, 0))], am_hp ((sJ σ (7, p1, 0) (up (σ.2.1 (7, p1, 0)) 2 (σ.2.1 (2, 0, 0) 4)))), t)) rfl rfl ?_
  refine w_psh rfl zc_1 rfl ?_
  refine w_c0 (c' := (62, [some (aR (some (2, 0, 0))), some (aR (some (7, p1, 0)))], [aI (iZ r1)], am_hp σ1, t)) rfl rfl (rcv_of (hp_2 _ 0)) rfl c1 (Nat.le_refl _) rfl ?_
  exact w_ret rfl (frt_b h2) q3

theorem b_X8_readNames_63 {p1 : Nat} {σ : SG} {t : KT} (q1 : Q (.inl (some (aI (iZ 1))), am_hp σ, t)) : Wp k_X8_readNames d (63, [some (aR (some (2, 0, 0))), some (aR (some (7, p1, 0)))], [], am_hp σ, t) Q := by
  refine w_psh rfl zc_1 rfl ?_
  exact w_ret rfl (frt_b (by decide)) q1

theorem b_X8_readNumbers_0 {p1 : Nat} {σ : SG} {t : KT} (h1 : -2147483648 ≤ ((am_cmd (σ.2.2.2.1 (7, p1, 0))).2.2.1).toInt ∧ ((am_cmd (σ.2.2.2.1 (7, p1, 0))).2.2.1).toInt < 2147483648) (w2 : ((am_cmd (σ.2.2.2.1 (7, p1, 0))).2.2.1).toInt = 0 → Wp k_X8_readNumbers d (34, [some (aR (some (2, 0, 0))), some (aR (some (7, p1, 0))), none], [], am_hp σ, t) Q) (w3 : ((am_cmd (σ.2.2.2.1 (7, p1, 0))).2.2.1).toInt ≠ 0 → Wp k_X8_readNumbers d (10, [some (aR (some (2, 0, 0))), some (aR (some (7, p1, 0))), none], [], am_hp σ, t) Q) : Wp k_X8_readNumbers d (0, [some (aR (some (2, 0, 0))), some (aR (some (7, p1, 0))), none], [], am_hp σ, t) Q := by
  refine w_s (c' := (1, [some (aR (some (2, 0, 0))), some (aR (some (7, p1, 0))), none], [aR (some (7, p1, 0))], am_hp σ, t)) rfl rfl ?_
  refine w_get rfl (hp_7 _ p1) rfl rfl ?_
  refine w_get rfl (hp_91 _ (σ.2.2.2.1 (7, p1, 0))) rfl rfl ?_
  refine w_e (c' := (7, [some (aR (some (2, 0, 0))), some (aR (some (7, p1, 0))), none], [aI (iZ (((am_cmd (σ.2.2.2.1 (7, p1, 0))).2.2.1).toInt))], am_hp σ, t)) (by rw [iZ_toInt]) ?_
  exact w_ifeq rfl h1 rfl w2 w3

theorem e_X8_readNumbers {p1 : Nat} {h : AH} {t : KT} {d : Nat} {P : RS → Prop} (w : Wp k_X8_readNumbers d (0, [some (aR (some (2, 0, 0))), some (aR (some (7, p1, 0))), none], [], h, t) P) : ∃ r, Ca (d + 1) 62 [aR (some (2, 0, 0)), aR (some (7, p1, 0))] h t r ∧ P r := ca_W rfl rfl rfl rfl w

theorem b_X8_readNumbers_10 {p1 : Nat} {r1 : Int} {σ σ1 : SG} {t : KT} (c1 : Ca d 86 [aR (some (2, 0, 0)), aI (iZ 0), aI (iZ 999999999)] (am_hp σ) t (.inl (some (aI (iZ r1))), am_hp σ1, t)) (h2 : -2147483648 ≤ r1 ∧ r1 < 2147483648) (w3 : r1 ≠ 0 → Wp k_X8_readNumbers d (22, [some (aR (some (2, 0, 0))), some (aR (some (7, p1, 0))), none], [], am_hp σ1, t) Q) (w4 : r1 = 0 → Wp k_X8_readNumbers d (20, [some (aR (some (2, 0, 0))), some (aR (some (7, p1, 0))), none], [], am_hp σ1, t) Q) : Wp k_X8_readNumbers d (10, [some (aR (some (2, 0, 0))), some (aR (some (7, p1, 0))), none], [], am_hp σ, t) Q := by
  refine w_s (c' := (11, [some (aR (some (2, 0, 0))), some (aR (some (7, p1, 0))), none], [aR (some (2, 0, 0))], am_hp σ, t)) rfl rfl ?_
  refine w_psh rfl zc_0 rfl ?_
  refine w_psh rfl zc_999999999 rfl ?_
  refine w_c0 (c' := (17, [some (aR (some (2, 0, 0))), some (aR (some (7, p1, 0))), none], [aI (iZ r1)], am_hp σ1, t)) rfl rfl (rcv_of (hp_2 _ 0)) rfl c1 (Nat.le_refl _) rfl ?_
  exact w_ifne rfl h2 rfl w3 w4

theorem b_X8_readNumbers_20 {p1 : Nat} {σ : SG} {t : KT} (q1 : Q (.inl (some (aI (iZ 0))), am_hp σ, t)) : Wp k_X8_readNumbers d (20, [some (aR (some (2, 0, 0))), some (aR (some (7, p1, 0))), none], [], am_hp σ, t) Q := by
  refine w_psh rfl zc_0 rfl ?_
  exact w_ret rfl (frt_b (by decide)) q1

theorem b_X8_readNumbers_22 {p1 : Nat} {σ σ1 : SG} {t : KT} (c1 : Ca d 79 [aR (some (2, 0, 0))] (am_hp ((sI σ (7, p1, 0) (up (σ.1 (7, p1, 0)) 5 (σ.1 (2, 0, 0) 3))))) t (.inl none, am_hp σ1, t)) (w2 : Wp k_X8_readNumbers d (34, [some (aR (some (2, 0, 0))), some (aR (some (7, p1, 0))), none], [], am_hp σ1, t) Q) : Wp k_X8_readNumbers d (22, [some (aR (some (2, 0, 0))), some (aR (some (7, p1, 0))), none], [], am_hp σ, t) Q := by
  refine w_s (c' := (23, [some (aR (some (2, 0, 0))), some (aR (some (7, p1, 0))), none], [aR (some (7, p1, 0))], am_hp σ, t)) rfl rfl ?_
  refine w_s (c' := (24, [some (aR (some (2, 0, 0))), some (aR (some (7, p1, 0))), none], [aR (some (2, 0, 0)), aR (some (7, p1, 0))], am_hp σ, t)) rfl rfl ?_
  refine w_get rfl (hp_2 _ 0) rfl rfl ?_
  refine w_putI rfl (hp_7 _ p1) rfl rfl rfl ?_
  refine w_s (c' := (31, [some (aR (some (2, 0, 0))), some (aR (some (7, p1, 0))), none], [aR (some (2, 0, 0))], am_hp ((sI σ (7, p1, 0) (up (σ.1 (7, p1, 0)) 5 (σ.1 (2, 0, 0) 3)))), t)) rfl rfl ?_
  refine w_c0 (c' := (34, [some (aR (some (2, 0, 0))), some (aR (some (7, p1, 0))), none], [], am_hp σ1, t)) rfl rfl (rcv_of (hp_2 _ 0)) rfl c1 (Nat.le_refl _) rfl ?_
  exact w2

theorem b_X8_readNumbers_34 {p1 : Nat} {σ : SG} {t : KT} (h1 : -2147483648 ≤ ((am_cmd (σ.2.2.2.1 (7, p1, 0))).2.2.2).toInt ∧ ((am_cmd (σ.2.2.2.1 (7, p1, 0))).2.2.2).toInt < 2147483648) (w2 : ((am_cmd (σ.2.2.2.1 (7, p1, 0))).2.2.2).toInt = 0 → Wp k_X8_readNumbers d (101, [some (aR (some (2, 0, 0))), some (aR (some (7, p1, 0))), none], [], am_hp σ, t) Q) (w3 : ((am_cmd (σ.2.2.2.1 (7, p1, 0))).2.2.2).toInt ≠ 0 → Wp k_X8_readNumbers d (44, [some (aR (some (2, 0, 0))), some (aR (some (7, p1, 0))), none], [], am_hp σ, t) Q) : Wp k_X8_readNumbers d (34, [some (aR (some (2, 0, 0))), some (aR (some (7, p1, 0))), none], [], am_hp σ, t) Q := by
  refine w_s (c' := (35, [some (aR (some (2, 0, 0))), some (aR (some (7, p1, 0))), none], [aR (some (7, p1, 0))], am_hp σ, t)) rfl rfl ?_
  refine w_get rfl (hp_7 _ p1) rfl rfl ?_
  refine w_get rfl (hp_91 _ (σ.2.2.2.1 (7, p1, 0))) rfl rfl ?_
  refine w_e (c' := (41, [some (aR (some (2, 0, 0))), some (aR (some (7, p1, 0))), none], [aI (iZ (((am_cmd (σ.2.2.2.1 (7, p1, 0))).2.2.2).toInt))], am_hp σ, t)) (by rw [iZ_toInt]) ?_
  exact w_ifeq rfl h1 rfl w2 w3

theorem b_X8_readNumbers_44 {p1 : Nat} {σ : SG} {t : KT} (w1 : (some (91, (σ.2.2.2.1 (7, p1, 0)), 0) : Option Lc) ≠ some (91, 9, 0) → Wp k_X8_readNumbers d (58, [some (aR (some (2, 0, 0))), some (aR (some (7, p1, 0))), none], [], am_hp σ, t) Q) (w2 : (some (91, (σ.2.2.2.1 (7, p1, 0)), 0) : Option Lc) = some (91, 9, 0) → Wp k_X8_readNumbers d (54, [some (aR (some (2, 0, 0))), some (aR (some (7, p1, 0))), none], [], am_hp σ, t) Q) : Wp k_X8_readNumbers d (44, [some (aR (some (2, 0, 0))), some (aR (some (7, p1, 0))), none], [], am_hp σ, t) Q := by
  refine w_s (c' := (45, [some (aR (some (2, 0, 0))), some (aR (some (7, p1, 0))), none], [aR (some (7, p1, 0))], am_hp σ, t)) rfl rfl ?_
  refine w_get rfl (hp_7 _ p1) rfl rfl ?_
  refine w_s (c' := (51, [some (aR (some (2, 0, 0))), some (aR (some (7, p1, 0))), none], [aR (some (91, 9, 0)), aR (some (91, (σ.2.2.2.1 (7, p1, 0)), 0))], am_hp σ, t)) rfl rfl ?_
  exact w_acn rfl rfl rfl rfl w1 w2

theorem b_X8_readNumbers_54 {p1 : Nat} {σ : SG} {t : KT} (w1 : Wp k_X8_readNumbers d (59, [some (aR (some (2, 0, 0))), some (aR (some (7, p1, 0))), none], [aI (iZ 1)], am_hp σ, t) Q) : Wp k_X8_readNumbers d (54, [some (aR (some (2, 0, 0))), some (aR (some (7, p1, 0))), none], [], am_hp σ, t) Q := by
  refine w_psh rfl zc_1 rfl ?_
  refine w_s (c' := (59, [some (aR (some (2, 0, 0))), some (aR (some (7, p1, 0))), none], [aI (iZ 1)], am_hp σ, t)) rfl rfl ?_
  exact w1

theorem b_X8_readNumbers_58 {p1 : Nat} {σ : SG} {t : KT} (w1 : Wp k_X8_readNumbers d (59, [some (aR (some (2, 0, 0))), some (aR (some (7, p1, 0))), none], [aI (iZ 0)], am_hp σ, t) Q) : Wp k_X8_readNumbers d (58, [some (aR (some (2, 0, 0))), some (aR (some (7, p1, 0))), none], [], am_hp σ, t) Q := by
  refine w_psh rfl zc_0 rfl ?_
  exact w1

theorem b_X8_readNumbers_59 {p1 : Nat} {xs0 : Int} {σ : SG} {t : KT} (h1 : -2147483648 ≤ xs0 ∧ xs0 < 2147483648) (w2 : xs0 = 0 → Wp k_X8_readNumbers d (69, [some (aR (some (2, 0, 0))), some (aR (some (7, p1, 0))), some (aI (iZ xs0))], [aR (some (2, 0, 0))], am_hp σ, t) Q) (w3 : xs0 ≠ 0 → Wp k_X8_readNumbers d (65, [some (aR (some (2, 0, 0))), some (aR (some (7, p1, 0))), some (aI (iZ xs0))], [aR (some (2, 0, 0))], am_hp σ, t) Q) : Wp k_X8_readNumbers d (59, [some (aR (some (2, 0, 0))), some (aR (some (7, p1, 0))), none], [aI (iZ xs0)], am_hp σ, t) Q := by
  refine w_s (c' := (60, [some (aR (some (2, 0, 0))), some (aR (some (7, p1, 0))), some (aI (iZ xs0))], [], am_hp σ, t)) rfl rfl ?_
  refine w_s (c' := (61, [some (aR (some (2, 0, 0))), some (aR (some (7, p1, 0))), some (aI (iZ xs0))], [aR (some (2, 0, 0))], am_hp σ, t)) rfl rfl ?_
  refine w_s (c' := (62, [some (aR (some (2, 0, 0))), some (aR (some (7, p1, 0))), some (aI (iZ xs0))], [aI (iZ xs0), aR (some (2, 0, 0))], am_hp σ, t)) rfl rfl ?_
  exact w_ifeq rfl h1 rfl w2 w3

theorem b_X8_readNumbers_65 {p1 : Nat} {x2 : Int} {σ : SG} {t : KT} (w1 : Wp k_X8_readNumbers d (70, [some (aR (some (2, 0, 0))), some (aR (some (7, p1, 0))), some (aI (iZ x2))], [aI (iZ 1), aR (some (2, 0, 0))], am_hp σ, t) Q) : Wp k_X8_readNumbers d (65, [some (aR (some (2, 0, 0))), some (aR (some (7, p1, 0))), some (aI (iZ x2))], [aR (some (2, 0, 0))], am_hp σ, t) Q := by
  refine w_psh rfl zc_1 rfl ?_
  refine w_s (c' := (70, [some (aR (some (2, 0, 0))), some (aR (some (7, p1, 0))), some (aI (iZ x2))], [aI (iZ 1), aR (some (2, 0, 0))], am_hp σ, t)) rfl rfl ?_
  exact w1

theorem b_X8_readNumbers_69 {p1 : Nat} {x2 : Int} {σ : SG} {t : KT} (w1 : Wp k_X8_readNumbers d (70, [some (aR (some (2, 0, 0))), some (aR (some (7, p1, 0))), some (aI (iZ x2))], [aI (iZ 0), aR (some (2, 0, 0))], am_hp σ, t) Q) : Wp k_X8_readNumbers d (69, [some (aR (some (2, 0, 0))), some (aR (some (7, p1, 0))), some (aI (iZ x2))], [aR (some (2, 0, 0))], am_hp σ, t) Q := by
  refine w_psh rfl zc_0 rfl ?_
  exact w1

theorem b_X8_readNumbers_70 {p1 : Nat} {x2 : Int} {xs0 : Int} {σ : SG} {t : KT} (h1 : -2147483648 ≤ x2 ∧ x2 < 2147483648) (w2 : x2 = 0 → Wp k_X8_readNumbers d (79, [some (aR (some (2, 0, 0))), some (aR (some (7, p1, 0))), some (aI (iZ x2))], [aI (iZ xs0), aR (some (2, 0, 0))], am_hp σ, t) Q) (w3 : x2 ≠ 0 → Wp k_X8_readNumbers d (74, [some (aR (some (2, 0, 0))), some (aR (some (7, p1, 0))), some (aI (iZ x2))], [aI (iZ xs0), aR (some (2, 0, 0))], am_hp σ, t) Q) : Wp k_X8_readNumbers d (70, [some (aR (some (2, 0, 0))), some (aR (some (7, p1, 0))), some (aI (iZ x2))], [aI (iZ xs0), aR (some (2, 0, 0))], am_hp σ, t) Q := by
  refine w_s (c' := (71, [some (aR (some (2, 0, 0))), some (aR (some (7, p1, 0))), some (aI (iZ x2))], [aI (iZ x2), aI (iZ xs0), aR (some (2, 0, 0))], am_hp σ, t)) rfl rfl ?_
  exact w_ifeq rfl h1 rfl w2 w3

theorem b_X8_readNumbers_74 {p1 : Nat} {x2 : Int} {xs0 : Int} {σ : SG} {t : KT} (w1 : Wp k_X8_readNumbers d (81, [some (aR (some (2, 0, 0))), some (aR (some (7, p1, 0))), some (aI (iZ x2))], [aI (iZ 20), aI (iZ xs0), aR (some (2, 0, 0))], am_hp σ, t) Q) : Wp k_X8_readNumbers d (74, [some (aR (some (2, 0, 0))), some (aR (some (7, p1, 0))), some (aI (iZ x2))], [aI (iZ xs0), aR (some (2, 0, 0))], am_hp σ, t) Q := by
  refine w_psh rfl zc_20 rfl ?_
  refine w_s (c' := (81, [some (aR (some (2, 0, 0))), some (aR (some (7, p1, 0))), some (aI (iZ x2))], [aI (iZ 20), aI (iZ xs0), aR (some (2, 0, 0))], am_hp σ, t)) rfl rfl ?_
  exact w1

theorem b_X8_readNumbers_79 {p1 : Nat} {x2 : Int} {xs0 : Int} {σ : SG} {t : KT} (w1 : Wp k_X8_readNumbers d (81, [some (aR (some (2, 0, 0))), some (aR (some (7, p1, 0))), some (aI (iZ x2))], [aI (iZ 999999999), aI (iZ xs0), aR (some (2, 0, 0))], am_hp σ, t) Q) : Wp k_X8_readNumbers d (79, [some (aR (some (2, 0, 0))), some (aR (some (7, p1, 0))), some (aI (iZ x2))], [aI (iZ xs0), aR (some (2, 0, 0))], am_hp σ, t) Q := by
  refine w_psh rfl zc_999999999 rfl ?_
  exact w1

theorem b_X8_readNumbers_81 {p1 : Nat} {x2 : Int} {xs0 : Int} {xs1 : Int} {r1 : Int} {σ σ1 : SG} {t : KT} (c1 : Ca d 86 [aR (some (2, 0, 0)), aI (iZ xs1), aI (iZ xs0)] (am_hp σ) t (.inl (some (aI (iZ r1))), am_hp σ1, t)) (h2 : -2147483648 ≤ r1 ∧ r1 < 2147483648) (w3 : r1 ≠ 0 → Wp k_X8_readNumbers d (89, [some (aR (some (2, 0, 0))), some (aR (some (7, p1, 0))), some (aI (iZ x2))], [], am_hp σ1, t) Q) (w4 : r1 = 0 → Wp k_X8_readNumbers d (87, [some (aR (some (2, 0, 0))), some (aR (some (7, p1, 0))), some (aI (iZ x2))], [], am_hp σ1, t) Q) : Wp k_X8_readNumbers d (81, [some (aR (some (2, 0, 0))), some (aR (some (7, p1, 0))), some (aI (iZ x2))], [aI (iZ xs0), aI (iZ xs1), aR (some (2, 0, 0))], am_hp σ, t) Q := by
  refine w_c0 (c' := (84, [some (aR (some (2, 0, 0))), some (aR (some (7, p1, 0))), some (aI (iZ x2))], [aI (iZ r1)], am_hp σ1, t)) rfl rfl (rcv_of (hp_2 _ 0)) rfl c1 (Nat.le_refl _) rfl ?_
  exact w_ifne rfl h2 rfl w3 w4

theorem b_X8_readNumbers_87 {p1 : Nat} {x2 : Int} {σ : SG} {t : KT} (q1 : Q (.inl (some (aI (iZ 0))), am_hp σ, t)) : Wp k_X8_readNumbers d (87, [some (aR (some (2, 0, 0))), some (aR (some (7, p1, 0))), some (aI (iZ x2))], [], am_hp σ, t) Q := by
  refine w_psh rfl zc_0 rfl ?_
  exact w_ret rfl (frt_b (by decide)) q1

theorem b_X8_readNumbers_89 {p1 : Nat} {x2 : Int} {σ σ1 : SG} {t : KT} (c1 : Ca d 79 [aR (some (2, 0, 0))] (am_hp ((sI σ (7, p1, 0) (up (σ.1 (7, p1, 0)) 6 (σ.1 (2, 0, 0) 3))))) t (.inl none, am_hp σ1, t)) (w2 : Wp k_X8_readNumbers d (101, [some (aR (some (2, 0, 0))), some (aR (some (7, p1, 0))), some (aI (iZ x2))], [], am_hp σ1, t) Q) : Wp k_X8_readNumbers d (89, [some (aR (some (2, 0, 0))), some (aR (some (7, p1, 0))), some (aI (iZ x2))], [], am_hp σ, t) Q := by
  refine w_s (c' := (90, [some (aR (some (2, 0, 0))), some (aR (some (7, p1, 0))), some (aI (iZ x2))], [aR (some (7, p1, 0))], am_hp σ, t)) rfl rfl ?_
  refine w_s (c' := (91, [some (aR (some (2, 0, 0))), some (aR (some (7, p1, 0))), some (aI (iZ x2))], [aR (some (2, 0, 0)), aR (some (7, p1, 0))], am_hp σ, t)) rfl rfl ?_
  refine w_get rfl (hp_2 _ 0) rfl rfl ?_
  refine w_putI rfl (hp_7 _ p1) rfl rfl rfl ?_
  refine w_s (c' := (98, [some (aR (some (2, 0, 0))), some (aR (some (7, p1, 0))), some (aI (iZ x2))], [aR (some (2, 0, 0))], am_hp ((sI σ (7, p1, 0) (up (σ.1 (7, p1, 0)) 6 (σ.1 (2, 0, 0) 3)))), t)) rfl rfl ?_
  refine w_c0 (c' := (101, [some (aR (some (2, 0, 0))), some (aR (some (7, p1, 0))), some (aI (iZ x2))], [], am_hp σ1, t)) rfl rfl (rcv_of (hp_2 _ 0)) rfl c1 (Nat.le_refl _) rfl ?_
  exact w2

theorem b_X8_readNumbers_101 {p1 : Nat} {u2 : Option AV} {σ : SG} {t : KT} (q1 : Q (.inl (some (aI (iZ 1))), am_hp σ, t)) : Wp k_X8_readNumbers d (101, [some (aR (some (2, 0, 0))), some (aR (some (7, p1, 0))), u2], [], am_hp σ, t) Q := by
  refine w_psh rfl zc_1 rfl ?_
  exact w_ret rfl (frt_b (by decide)) q1
end PCS
