/-! PIECES: L -/
set_option maxRecDepth 4000
section PCS
variable {d : Nat} {Q : RS → Prop}
theorem b_L_feed_0 {x1 : Int} {x2 : Int} {x3 : Int} {x4 : Int} {x5 : Int} {r1 : Int} {σ σ1 : SG} {t : KT} (c1 : Ca d 89 [aR (some (1, 0, 0)), aI (iZ x1), aI (iZ x2), aI (iZ x3), aI (iZ x4), aI (iZ x5)] (am_hp σ) t (.inl (some (aI (iZ r1))), am_hp σ1, t)) (h2 : -2147483648 ≤ r1 ∧ r1 < 2147483648) (w3 : Wp k_L_feed d (23, [some (aR (some (1, 0, 0))), some (aI (iZ x1)), some (aI (iZ x2)), some (aI (iZ x3)), some (aI (iZ x4)), some (aI (iZ x5)), some (aR (some (70, 0, 0))), none], [], am_hp ((sJ σ1 (70, 0, 0) (up (σ1.2.1 (70, 0, 0)) (0 : Int).toNat r1))), t) Q) : Wp k_L_feed d (0, [some (aR (some (1, 0, 0))), some (aI (iZ x1)), some (aI (iZ x2)), some (aI (iZ x3)), some (aI (iZ x4)), some (aI (iZ x5)), some (aR (some (70, 0, 0))), none], [], am_hp σ, t) Q := by
  refine w_s (c' := (2, [some (aR (some (1, 0, 0))), some (aI (iZ x1)), some (aI (iZ x2)), some (aI (iZ x3)), some (aI (iZ x4)), some (aI (iZ x5)), some (aR (some (70, 0, 0))), none], [aR (some (70, 0, 0))], am_hp σ, t)) rfl rfl ?_
  refine w_psh rfl zc_0 rfl ?_
  refine w_s (c' := (4, [some (aR (some (1, 0, 0))), some (aI (iZ x1)), some (aI (iZ x2)), some (aI (iZ x3)), some (aI (iZ x4)), some (aI (iZ x5)), some (aR (some (70, 0, 0))), none], [aR (some (1, 0, 0)), aI (iZ 0), aR (some (70, 0, 0))], am_hp σ, t)) rfl rfl ?_
  refine w_s (c' := (5, [some (aR (some (1, 0, 0))), some (aI (iZ x1)), some (aI (iZ x2)), some (aI (iZ x3)), some (aI (iZ x4)), some (aI (iZ x5)), some (aR (some (70, 0, 0))), none], [aI (iZ x1), aR (some (1, 0, 0)), aI (iZ 0), aR (some (70, 0, 0))], am_hp σ, t)) rfl rfl ?_
  refine w_s (c' := (6, [some (aR (some (1, 0, 0))), some (aI (iZ x1)), some (aI (iZ x2)), some (aI (iZ x3)), some (aI (iZ x4)), some (aI (iZ x5)), some (aR (some (70, 0, 0))), none], [aI (iZ x2), aI (iZ x1), aR (some (1, 0, 0)), aI (iZ 0), aR (some (70, 0, 0))], am_hp σ, t)) rfl rfl ?_
  refine w_s (c' := (7, [some (aR (some (1, 0, 0))), some (aI (iZ x1)), some (aI (iZ x2)), some (aI (iZ x3)), some (aI (iZ x4)), some (aI (iZ x5)), some (aR (some (70, 0, 0))), none], [aI (iZ x3), aI (iZ x2), aI (iZ x1), aR (some (1, 0, 0)), aI (iZ 0), aR (some (70, 0, 0))], am_hp σ, t)) rfl rfl ?_
  refine w_s (c' := (9, [some (aR (some (1, 0, 0))), some (aI (iZ x1)), some (aI (iZ x2)), some (aI (iZ x3)), some (aI (iZ x4)), some (aI (iZ x5)), some (aR (some (70, 0, 0))), none], [aI (iZ x4), aI (iZ x3), aI (iZ x2), aI (iZ x1), aR (some (1, 0, 0)), aI (iZ 0), aR (some (70, 0, 0))], am_hp σ, t)) rfl rfl ?_
  refine w_s (c' := (11, [some (aR (some (1, 0, 0))), some (aI (iZ x1)), some (aI (iZ x2)), some (aI (iZ x3)), some (aI (iZ x4)), some (aI (iZ x5)), some (aR (some (70, 0, 0))), none], [aI (iZ x5), aI (iZ x4), aI (iZ x3), aI (iZ x2), aI (iZ x1), aR (some (1, 0, 0)), aI (iZ 0), aR (some (70, 0, 0))], am_hp σ, t)) rfl rfl ?_
  refine w_c0 (c' := (14, [some (aR (some (1, 0, 0))), some (aI (iZ x1)), some (aI (iZ x2)), some (aI (iZ x3)), some (aI (iZ x4)), some (aI (iZ x5)), some (aR (some (70, 0, 0))), none], [aI (iZ r1), aI (iZ 0), aR (some (70, 0, 0))], am_hp σ1, t)) rfl rfl (rcv_of (hp_1 _ 0)) rfl c1 (Nat.le_refl _) rfl ?_
  refine w_i2l rfl rfl h2 ?_
  refine w_las rfl (mk_70 _ 0 0) (by decide) rfl rfl rfl ?_
  refine w_s (c' := (23, [some (aR (some (1, 0, 0))), some (aI (iZ x1)), some (aI (iZ x2)), some (aI (iZ x3)), some (aI (iZ x4)), some (aI (iZ x5)), some (aR (some (70, 0, 0))), none], [], am_hp ((sJ σ1 (70, 0, 0) (up (σ1.2.1 (70, 0, 0)) (0 : Int).toNat r1))), t)) rfl rfl ?_
  exact w3

theorem bh_L_feed_0_0 {x1 : Int} {x2 : Int} {x3 : Int} {x4 : Int} {x5 : Int} {σ σ1 : SG} {t t' : KT} (c1 : Ca d 89 [aR (some (1, 0, 0)), aI (iZ x1), aI (iZ x2), aI (iZ x3), aI (iZ x4), aI (iZ x5)] (am_hp σ) t (.inr 0, am_hp σ1, t')) (w2 : Wp k_L_feed d (21, [some (aR (some (1, 0, 0))), some (aI (iZ x1)), some (aI (iZ x2)), some (aI (iZ x3)), some (aI (iZ x4)), some (aI (iZ x5)), some (aR (some (70, 0, 0))), none], [], am_hp σ1, t') Q) : Wp k_L_feed d (0, [some (aR (some (1, 0, 0))), some (aI (iZ x1)), some (aI (iZ x2)), some (aI (iZ x3)), some (aI (iZ x4)), some (aI (iZ x5)), some (aR (some (70, 0, 0))), none], [], am_hp σ, t) Q := by
  refine w_s (c' := (2, [some (aR (some (1, 0, 0))), some (aI (iZ x1)), some (aI (iZ x2)), some (aI (iZ x3)), some (aI (iZ x4)), some (aI (iZ x5)), some (aR (some (70, 0, 0))), none], [aR (some (70, 0, 0))], am_hp σ, t)) rfl rfl ?_
  refine w_psh rfl zc_0 rfl ?_
  refine w_s (c' := (4, [some (aR (some (1, 0, 0))), some (aI (iZ x1)), some (aI (iZ x2)), some (aI (iZ x3)), some (aI (iZ x4)), some (aI (iZ x5)), some (aR (some (70, 0, 0))), none], [aR (some (1, 0, 0)), aI (iZ 0), aR (some (70, 0, 0))], am_hp σ, t)) rfl rfl ?_
  refine w_s (c' := (5, [some (aR (some (1, 0, 0))), some (aI (iZ x1)), some (aI (iZ x2)), some (aI (iZ x3)), some (aI (iZ x4)), some (aI (iZ x5)), some (aR (some (70, 0, 0))), none], [aI (iZ x1), aR (some (1, 0, 0)), aI (iZ 0), aR (some (70, 0, 0))], am_hp σ, t)) rfl rfl ?_
  refine w_s (c' := (6, [some (aR (some (1, 0, 0))), some (aI (iZ x1)), some (aI (iZ x2)), some (aI (iZ x3)), some (aI (iZ x4)), some (aI (iZ x5)), some (aR (some (70, 0, 0))), none], [aI (iZ x2), aI (iZ x1), aR (some (1, 0, 0)), aI (iZ 0), aR (some (70, 0, 0))], am_hp σ, t)) rfl rfl ?_
  refine w_s (c' := (7, [some (aR (some (1, 0, 0))), some (aI (iZ x1)), some (aI (iZ x2)), some (aI (iZ x3)), some (aI (iZ x4)), some (aI (iZ x5)), some (aR (some (70, 0, 0))), none], [aI (iZ x3), aI (iZ x2), aI (iZ x1), aR (some (1, 0, 0)), aI (iZ 0), aR (some (70, 0, 0))], am_hp σ, t)) rfl rfl ?_
  refine w_s (c' := (9, [some (aR (some (1, 0, 0))), some (aI (iZ x1)), some (aI (iZ x2)), some (aI (iZ x3)), some (aI (iZ x4)), some (aI (iZ x5)), some (aR (some (70, 0, 0))), none], [aI (iZ x4), aI (iZ x3), aI (iZ x2), aI (iZ x1), aR (some (1, 0, 0)), aI (iZ 0), aR (some (70, 0, 0))], am_hp σ, t)) rfl rfl ?_
  refine w_s (c' := (11, [some (aR (some (1, 0, 0))), some (aI (iZ x1)), some (aI (iZ x2)), some (aI (iZ x3)), some (aI (iZ x4)), some (aI (iZ x5)), some (aR (some (70, 0, 0))), none], [aI (iZ x5), aI (iZ x4), aI (iZ x3), aI (iZ x2), aI (iZ x1), aR (some (1, 0, 0)), aI (iZ 0), aR (some (70, 0, 0))], am_hp σ, t)) rfl rfl ?_
  exact w_h rfl rfl (rcv_of (hp_1 _ 0)) rfl c1 (Nat.le_refl _) rfl rfl rfl w2

theorem e_L_feed {x1 : Int} {x2 : Int} {x3 : Int} {x4 : Int} {x5 : Int} {h : AH} {t : KT} {d : Nat} {P : RS → Prop} (w : Wp k_L_feed d (0, [some (aR (some (1, 0, 0))), some (aI (iZ x1)), some (aI (iZ x2)), some (aI (iZ x3)), some (aI (iZ x4)), some (aI (iZ x5)), some (aR (some (70, 0, 0))), none], [], h, t) P) : ∃ r, Ca (d + 1) 344 [aR (some (1, 0, 0)), aI (iZ x1), aI (iZ x2), aI (iZ x3), aI (iZ x4), aI (iZ x5), aR (some (70, 0, 0))] h t r ∧ P r := ca_W rfl rfl rfl rfl w

theorem b_L_feed_21 {x1 : Int} {x2 : Int} {x3 : Int} {x4 : Int} {x5 : Int} {σ : SG} {t : KT} (q1 : Q (.inl (some (aI (iZ 1))), am_hp σ, t)) : Wp k_L_feed d (21, [some (aR (some (1, 0, 0))), some (aI (iZ x1)), some (aI (iZ x2)), some (aI (iZ x3)), some (aI (iZ x4)), some (aI (iZ x5)), some (aR (some (70, 0, 0))), none], [], am_hp σ, t) Q := by
  refine w_psh rfl zc_1 rfl ?_
  exact w_ret rfl rfl q1

theorem b_L_feed_23 {x1 : Int} {x2 : Int} {x3 : Int} {x4 : Int} {x5 : Int} {σ : SG} {t : KT} (q1 : Q (.inl (some (aI (iZ 0))), am_hp σ, t)) : Wp k_L_feed d (23, [some (aR (some (1, 0, 0))), some (aI (iZ x1)), some (aI (iZ x2)), some (aI (iZ x3)), some (aI (iZ x4)), some (aI (iZ x5)), some (aR (some (70, 0, 0))), none], [], am_hp σ, t) Q := by
  refine w_psh rfl zc_0 rfl ?_
  exact w_ret rfl rfl q1

theorem b_L_truncate_0 {x1 : Int} {r1 : Int} {σ σ1 : SG} {t : KT} (c1 : Ca d 90 [aR (some (1, 0, 0)), aI (iZ x1)] (am_hp σ) t (.inl (some (aI (iZ r1))), am_hp σ1, t)) (h2 : -2147483648 ≤ r1 ∧ r1 < 2147483648) (w3 : Wp k_L_truncate d (15, [some (aR (some (1, 0, 0))), some (aI (iZ x1)), some (aR (some (70, 0, 0))), none], [], am_hp ((sJ σ1 (70, 0, 0) (up (σ1.2.1 (70, 0, 0)) (0 : Int).toNat r1))), t) Q) : Wp k_L_truncate d (0, [some (aR (some (1, 0, 0))), some (aI (iZ x1)), some (aR (some (70, 0, 0))), none], [], am_hp σ, t) Q := by
  refine w_s (c' := (1, [some (aR (some (1, 0, 0))), some (aI (iZ x1)), some (aR (some (70, 0, 0))), none], [aR (some (70, 0, 0))], am_hp σ, t)) rfl rfl ?_
  refine w_psh rfl zc_0 rfl ?_
  refine w_s (c' := (3, [some (aR (some (1, 0, 0))), some (aI (iZ x1)), some (aR (some (70, 0, 0))), none], [aR (some (1, 0, 0)), aI (iZ 0), aR (some (70, 0, 0))], am_hp σ, t)) rfl rfl ?_
  refine w_s (c' := (4, [some (aR (some (1, 0, 0))), some (aI (iZ x1)), some (aR (some (70, 0, 0))), none], [aI (iZ x1), aR (some (1, 0, 0)), aI (iZ 0), aR (some (70, 0, 0))], am_hp σ, t)) rfl rfl ?_
  refine w_c0 (c' := (7, [some (aR (some (1, 0, 0))), some (aI (iZ x1)), some (aR (some (70, 0, 0))), none], [aI (iZ r1), aI (iZ 0), aR (some (70, 0, 0))], am_hp σ1, t)) rfl rfl (rcv_of (hp_1 _ 0)) rfl c1 (Nat.le_refl _) rfl ?_
  refine w_i2l rfl rfl h2 ?_
  refine w_las rfl (mk_70 _ 0 0) (by decide) rfl rfl rfl ?_
  refine w_s (c' := (15, [some (aR (some (1, 0, 0))), some (aI (iZ x1)), some (aR (some (70, 0, 0))), none], [], am_hp ((sJ σ1 (70, 0, 0) (up (σ1.2.1 (70, 0, 0)) (0 : Int).toNat r1))), t)) rfl rfl ?_
  exact w3

theorem bh_L_truncate_0_1 {x1 : Int} {σ σ1 : SG} {t t' : KT} (c1 : Ca d 90 [aR (some (1, 0, 0)), aI (iZ x1)] (am_hp σ) t (.inr 1, am_hp σ1, t')) (w2 : Wp k_L_truncate d (13, [some (aR (some (1, 0, 0))), some (aI (iZ x1)), some (aR (some (70, 0, 0))), none], [], am_hp σ1, t') Q) : Wp k_L_truncate d (0, [some (aR (some (1, 0, 0))), some (aI (iZ x1)), some (aR (some (70, 0, 0))), none], [], am_hp σ, t) Q := by
  refine w_s (c' := (1, [some (aR (some (1, 0, 0))), some (aI (iZ x1)), some (aR (some (70, 0, 0))), none], [aR (some (70, 0, 0))], am_hp σ, t)) rfl rfl ?_
  refine w_psh rfl zc_0 rfl ?_
  refine w_s (c' := (3, [some (aR (some (1, 0, 0))), some (aI (iZ x1)), some (aR (some (70, 0, 0))), none], [aR (some (1, 0, 0)), aI (iZ 0), aR (some (70, 0, 0))], am_hp σ, t)) rfl rfl ?_
  refine w_s (c' := (4, [some (aR (some (1, 0, 0))), some (aI (iZ x1)), some (aR (some (70, 0, 0))), none], [aI (iZ x1), aR (some (1, 0, 0)), aI (iZ 0), aR (some (70, 0, 0))], am_hp σ, t)) rfl rfl ?_
  exact w_h rfl rfl (rcv_of (hp_1 _ 0)) rfl c1 (Nat.le_refl _) rfl rfl rfl w2

theorem e_L_truncate {x1 : Int} {h : AH} {t : KT} {d : Nat} {P : RS → Prop} (w : Wp k_L_truncate d (0, [some (aR (some (1, 0, 0))), some (aI (iZ x1)), some (aR (some (70, 0, 0))), none], [], h, t) P) : ∃ r, Ca (d + 1) 345 [aR (some (1, 0, 0)), aI (iZ x1), aR (some (70, 0, 0))] h t r ∧ P r := ca_W rfl rfl rfl rfl w

theorem b_L_truncate_13 {x1 : Int} {σ : SG} {t : KT} (q1 : Q (.inl (some (aI (iZ 1))), am_hp σ, t)) : Wp k_L_truncate d (13, [some (aR (some (1, 0, 0))), some (aI (iZ x1)), some (aR (some (70, 0, 0))), none], [], am_hp σ, t) Q := by
  refine w_psh rfl zc_1 rfl ?_
  exact w_ret rfl rfl q1

theorem b_L_truncate_15 {x1 : Int} {σ : SG} {t : KT} (q1 : Q (.inl (some (aI (iZ 0))), am_hp σ, t)) : Wp k_L_truncate d (15, [some (aR (some (1, 0, 0))), some (aI (iZ x1)), some (aR (some (70, 0, 0))), none], [], am_hp σ, t) Q := by
  refine w_psh rfl zc_0 rfl ?_
  exact w_ret rfl rfl q1

theorem b_L_readText_0 {r1 : Int} {σ σ1 : SG} {t : KT} (c1 : Ca d 91 [aR (some (1, 0, 0))] (am_hp σ) t (.inl (some (aI (iZ r1))), am_hp σ1, t)) (h2 : -2147483648 ≤ r1 ∧ r1 < 2147483648) (w3 : Wp k_L_readText d (14, [some (aR (some (1, 0, 0))), some (aR (some (70, 0, 0))), none], [], am_hp ((sJ σ1 (70, 0, 0) (up (σ1.2.1 (70, 0, 0)) (0 : Int).toNat r1))), t) Q) : Wp k_L_readText d (0, [some (aR (some (1, 0, 0))), some (aR (some (70, 0, 0))), none], [], am_hp σ, t) Q := by
  refine w_s (c' := (1, [some (aR (some (1, 0, 0))), some (aR (some (70, 0, 0))), none], [aR (some (70, 0, 0))], am_hp σ, t)) rfl rfl ?_
  refine w_psh rfl zc_0 rfl ?_
  refine w_s (c' := (3, [some (aR (some (1, 0, 0))), some (aR (some (70, 0, 0))), none], [aR (some (1, 0, 0)), aI (iZ 0), aR (some (70, 0, 0))], am_hp σ, t)) rfl rfl ?_
  refine w_c0 (c' := (6, [some (aR (some (1, 0, 0))), some (aR (some (70, 0, 0))), none], [aI (iZ r1), aI (iZ 0), aR (some (70, 0, 0))], am_hp σ1, t)) rfl rfl (rcv_of (hp_1 _ 0)) rfl c1 (Nat.le_refl _) rfl ?_
  refine w_i2l rfl rfl h2 ?_
  refine w_las rfl (mk_70 _ 0 0) (by decide) rfl rfl rfl ?_
  refine w_s (c' := (14, [some (aR (some (1, 0, 0))), some (aR (some (70, 0, 0))), none], [], am_hp ((sJ σ1 (70, 0, 0) (up (σ1.2.1 (70, 0, 0)) (0 : Int).toNat r1))), t)) rfl rfl ?_
  exact w3

theorem bh_L_readText_0_1 {σ σ1 : SG} {t t' : KT} (c1 : Ca d 91 [aR (some (1, 0, 0))] (am_hp σ) t (.inr 1, am_hp σ1, t')) (w2 : Wp k_L_readText d (12, [some (aR (some (1, 0, 0))), some (aR (some (70, 0, 0))), none], [], am_hp σ1, t') Q) : Wp k_L_readText d (0, [some (aR (some (1, 0, 0))), some (aR (some (70, 0, 0))), none], [], am_hp σ, t) Q := by
  refine w_s (c' := (1, [some (aR (some (1, 0, 0))), some (aR (some (70, 0, 0))), none], [aR (some (70, 0, 0))], am_hp σ, t)) rfl rfl ?_
  refine w_psh rfl zc_0 rfl ?_
  refine w_s (c' := (3, [some (aR (some (1, 0, 0))), some (aR (some (70, 0, 0))), none], [aR (some (1, 0, 0)), aI (iZ 0), aR (some (70, 0, 0))], am_hp σ, t)) rfl rfl ?_
  exact w_h rfl rfl (rcv_of (hp_1 _ 0)) rfl c1 (Nat.le_refl _) rfl rfl rfl w2

theorem e_L_readText {h : AH} {t : KT} {d : Nat} {P : RS → Prop} (w : Wp k_L_readText d (0, [some (aR (some (1, 0, 0))), some (aR (some (70, 0, 0))), none], [], h, t) P) : ∃ r, Ca (d + 1) 346 [aR (some (1, 0, 0)), aR (some (70, 0, 0))] h t r ∧ P r := ca_W rfl rfl rfl rfl w

theorem b_L_readText_12 {σ : SG} {t : KT} (q1 : Q (.inl (some (aI (iZ 1))), am_hp σ, t)) : Wp k_L_readText d (12, [some (aR (some (1, 0, 0))), some (aR (some (70, 0, 0))), none], [], am_hp σ, t) Q := by
  refine w_psh rfl zc_1 rfl ?_
  exact w_ret rfl rfl q1

theorem b_L_readText_14 {σ : SG} {t : KT} (q1 : Q (.inl (some (aI (iZ 0))), am_hp σ, t)) : Wp k_L_readText d (14, [some (aR (some (1, 0, 0))), some (aR (some (70, 0, 0))), none], [], am_hp σ, t) Q := by
  refine w_psh rfl zc_0 rfl ?_
  exact w_ret rfl rfl q1

theorem b_L_runScript_0 {r1 : Int} {σ σ1 : SG} {t : KT} (c1 : Ca d 92 [aR (some (1, 0, 0))] (am_hp σ) t (.inl (some (aI (iZ r1))), am_hp σ1, t)) (h2 : -2147483648 ≤ r1 ∧ r1 < 2147483648) (w3 : Wp k_L_runScript d (14, [some (aR (some (1, 0, 0))), some (aR (some (70, 0, 0))), none], [], am_hp ((sJ σ1 (70, 0, 0) (up (σ1.2.1 (70, 0, 0)) (0 : Int).toNat r1))), t) Q) : Wp k_L_runScript d (0, [some (aR (some (1, 0, 0))), some (aR (some (70, 0, 0))), none], [], am_hp σ, t) Q := by
  refine w_s (c' := (1, [some (aR (some (1, 0, 0))), some (aR (some (70, 0, 0))), none], [aR (some (70, 0, 0))], am_hp σ, t)) rfl rfl ?_
  refine w_psh rfl zc_0 rfl ?_
  refine w_s (c' := (3, [some (aR (some (1, 0, 0))), some (aR (some (70, 0, 0))), none], [aR (some (1, 0, 0)), aI (iZ 0), aR (some (70, 0, 0))], am_hp σ, t)) rfl rfl ?_
  refine w_c0 (c' := (6, [some (aR (some (1, 0, 0))), some (aR (some (70, 0, 0))), none], [aI (iZ r1), aI (iZ 0), aR (some (70, 0, 0))], am_hp σ1, t)) rfl rfl (rcv_of (hp_1 _ 0)) rfl c1 (Nat.le_refl _) rfl ?_
  refine w_i2l rfl rfl h2 ?_
  refine w_las rfl (mk_70 _ 0 0) (by decide) rfl rfl rfl ?_
  refine w_s (c' := (14, [some (aR (some (1, 0, 0))), some (aR (some (70, 0, 0))), none], [], am_hp ((sJ σ1 (70, 0, 0) (up (σ1.2.1 (70, 0, 0)) (0 : Int).toNat r1))), t)) rfl rfl ?_
  exact w3

theorem bh_L_runScript_0_1 {σ σ1 : SG} {t t' : KT} (c1 : Ca d 92 [aR (some (1, 0, 0))] (am_hp σ) t (.inr 1, am_hp σ1, t')) (w2 : Wp k_L_runScript d (12, [some (aR (some (1, 0, 0))), some (aR (some (70, 0, 0))), none], [], am_hp σ1, t') Q) : Wp k_L_runScript d (0, [some (aR (some (1, 0, 0))), some (aR (some (70, 0, 0))), none], [], am_hp σ, t) Q := by
  refine w_s (c' := (1, [some (aR (some (1, 0, 0))), some (aR (some (70, 0, 0))), none], [aR (some (70, 0, 0))], am_hp σ, t)) rfl rfl ?_
  refine w_psh rfl zc_0 rfl ?_
  refine w_s (c' := (3, [some (aR (some (1, 0, 0))), some (aR (some (70, 0, 0))), none], [aR (some (1, 0, 0)), aI (iZ 0), aR (some (70, 0, 0))], am_hp σ, t)) rfl rfl ?_
  exact w_h rfl rfl (rcv_of (hp_1 _ 0)) rfl c1 (Nat.le_refl _) rfl rfl rfl w2

theorem e_L_runScript {h : AH} {t : KT} {d : Nat} {P : RS → Prop} (w : Wp k_L_runScript d (0, [some (aR (some (1, 0, 0))), some (aR (some (70, 0, 0))), none], [], h, t) P) : ∃ r, Ca (d + 1) 347 [aR (some (1, 0, 0)), aR (some (70, 0, 0))] h t r ∧ P r := ca_W rfl rfl rfl rfl w

theorem b_L_runScript_12 {σ : SG} {t : KT} (q1 : Q (.inl (some (aI (iZ 1))), am_hp σ, t)) : Wp k_L_runScript d (12, [some (aR (some (1, 0, 0))), some (aR (some (70, 0, 0))), none], [], am_hp σ, t) Q := by
  refine w_psh rfl zc_1 rfl ?_
  exact w_ret rfl rfl q1

theorem b_L_runScript_14 {σ : SG} {t : KT} (q1 : Q (.inl (some (aI (iZ 0))), am_hp σ, t)) : Wp k_L_runScript d (14, [some (aR (some (1, 0, 0))), some (aR (some (70, 0, 0))), none], [], am_hp σ, t) Q := by
  refine w_psh rfl zc_0 rfl ?_
  exact w_ret rfl rfl q1

theorem b_L_setting_0 {x1 : Int} {r1 : Int} {σ σ1 : SG} {t : KT} (c1 : Ca d 95 [aR (some (1, 0, 0)), aI (iZ x1)] (am_hp σ) t (.inl (some (aI (iZ r1))), am_hp σ1, t)) (h2 : -2147483648 ≤ r1 ∧ r1 < 2147483648) (w3 : Wp k_L_setting d (15, [some (aR (some (1, 0, 0))), some (aI (iZ x1)), some (aR (some (70, 0, 0))), none], [], am_hp ((sJ σ1 (70, 0, 0) (up (σ1.2.1 (70, 0, 0)) (0 : Int).toNat r1))), t) Q) : Wp k_L_setting d (0, [some (aR (some (1, 0, 0))), some (aI (iZ x1)), some (aR (some (70, 0, 0))), none], [], am_hp σ, t) Q := by
  refine w_s (c' := (1, [some (aR (some (1, 0, 0))), some (aI (iZ x1)), some (aR (some (70, 0, 0))), none], [aR (some (70, 0, 0))], am_hp σ, t)) rfl rfl ?_
  refine w_psh rfl zc_0 rfl ?_
  refine w_s (c' := (3, [some (aR (some (1, 0, 0))), some (aI (iZ x1)), some (aR (some (70, 0, 0))), none], [aR (some (1, 0, 0)), aI (iZ 0), aR (some (70, 0, 0))], am_hp σ, t)) rfl rfl ?_
  refine w_s (c' := (4, [some (aR (some (1, 0, 0))), some (aI (iZ x1)), some (aR (some (70, 0, 0))), none], [aI (iZ x1), aR (some (1, 0, 0)), aI (iZ 0), aR (some (70, 0, 0))], am_hp σ, t)) rfl rfl ?_
  refine w_c0 (c' := (7, [some (aR (some (1, 0, 0))), some (aI (iZ x1)), some (aR (some (70, 0, 0))), none], [aI (iZ r1), aI (iZ 0), aR (some (70, 0, 0))], am_hp σ1, t)) rfl rfl (rcv_of (hp_1 _ 0)) rfl c1 (Nat.le_refl _) rfl ?_
  refine w_i2l rfl rfl h2 ?_
  refine w_las rfl (mk_70 _ 0 0) (by decide) rfl rfl rfl ?_
  refine w_s (c' := (15, [some (aR (some (1, 0, 0))), some (aI (iZ x1)), some (aR (some (70, 0, 0))), none], [], am_hp ((sJ σ1 (70, 0, 0) (up (σ1.2.1 (70, 0, 0)) (0 : Int).toNat r1))), t)) rfl rfl ?_
  exact w3

theorem bh_L_setting_0_1 {x1 : Int} {σ σ1 : SG} {t t' : KT} (c1 : Ca d 95 [aR (some (1, 0, 0)), aI (iZ x1)] (am_hp σ) t (.inr 1, am_hp σ1, t')) (w2 : Wp k_L_setting d (13, [some (aR (some (1, 0, 0))), some (aI (iZ x1)), some (aR (some (70, 0, 0))), none], [], am_hp σ1, t') Q) : Wp k_L_setting d (0, [some (aR (some (1, 0, 0))), some (aI (iZ x1)), some (aR (some (70, 0, 0))), none], [], am_hp σ, t) Q := by
  refine w_s (c' := (1, [some (aR (some (1, 0, 0))), some (aI (iZ x1)), some (aR (some (70, 0, 0))), none], [aR (some (70, 0, 0))], am_hp σ, t)) rfl rfl ?_
  refine w_psh rfl zc_0 rfl ?_
  refine w_s (c' := (3, [some (aR (some (1, 0, 0))), some (aI (iZ x1)), some (aR (some (70, 0, 0))), none], [aR (some (1, 0, 0)), aI (iZ 0), aR (some (70, 0, 0))], am_hp σ, t)) rfl rfl ?_
  refine w_s (c' := (4, [some (aR (some (1, 0, 0))), some (aI (iZ x1)), some (aR (some (70, 0, 0))), none], [aI (iZ x1), aR (some (1, 0, 0)), aI (iZ 0), aR (some (70, 0, 0))], am_hp σ, t)) rfl rfl ?_
  exact w_h rfl rfl (rcv_of (hp_1 _ 0)) rfl c1 (Nat.le_refl _) rfl rfl rfl w2

theorem e_L_setting {x1 : Int} {h : AH} {t : KT} {d : Nat} {P : RS → Prop} (w : Wp k_L_setting d (0, [some (aR (some (1, 0, 0))), some (aI (iZ x1)), some (aR (some (70, 0, 0))), none], [], h, t) P) : ∃ r, Ca (d + 1) 348 [aR (some (1, 0, 0)), aI (iZ x1), aR (some (70, 0, 0))] h t r ∧ P r := ca_W rfl rfl rfl rfl w

theorem b_L_setting_13 {x1 : Int} {σ : SG} {t : KT} (q1 : Q (.inl (some (aI (iZ 1))), am_hp σ, t)) : Wp k_L_setting d (13, [some (aR (some (1, 0, 0))), some (aI (iZ x1)), some (aR (some (70, 0, 0))), none], [], am_hp σ, t) Q := by
  refine w_psh rfl zc_1 rfl ?_
  exact w_ret rfl rfl q1

theorem b_L_setting_15 {x1 : Int} {σ : SG} {t : KT} (q1 : Q (.inl (some (aI (iZ 0))), am_hp σ, t)) : Wp k_L_setting d (15, [some (aR (some (1, 0, 0))), some (aI (iZ x1)), some (aR (some (70, 0, 0))), none], [], am_hp σ, t) Q := by
  refine w_psh rfl zc_0 rfl ?_
  exact w_ret rfl rfl q1

theorem b_L_letter_0 {x1 : Int} {x2 : Int} {r1 : Int} {σ σ1 : SG} {t : KT} (c1 : Ca d 96 [aR (some (1, 0, 0)), aI (iZ x1), aI (iZ x2)] (am_hp σ) t (.inl (some (aI (iZ r1))), am_hp σ1, t)) (h2 : -2147483648 ≤ r1 ∧ r1 < 2147483648) (w3 : Wp k_L_letter d (17, [some (aR (some (1, 0, 0))), some (aI (iZ x1)), some (aI (iZ x2)), some (aR (some (70, 0, 0))), none], [], am_hp ((sJ σ1 (70, 0, 0) (up (σ1.2.1 (70, 0, 0)) (0 : Int).toNat r1))), t) Q) : Wp k_L_letter d (0, [some (aR (some (1, 0, 0))), some (aI (iZ x1)), some (aI (iZ x2)), some (aR (some (70, 0, 0))), none], [], am_hp σ, t) Q := by
  refine w_s (c' := (1, [some (aR (some (1, 0, 0))), some (aI (iZ x1)), some (aI (iZ x2)), some (aR (some (70, 0, 0))), none], [aR (some (70, 0, 0))], am_hp σ, t)) rfl rfl ?_
  refine w_psh rfl zc_0 rfl ?_
  refine w_s (c' := (3, [some (aR (some (1, 0, 0))), some (aI (iZ x1)), some (aI (iZ x2)), some (aR (some (70, 0, 0))), none], [aR (some (1, 0, 0)), aI (iZ 0), aR (some (70, 0, 0))], am_hp σ, t)) rfl rfl ?_
  refine w_s (c' := (4, [some (aR (some (1, 0, 0))), some (aI (iZ x1)), some (aI (iZ x2)), some (aR (some (70, 0, 0))), none], [aI (iZ x1), aR (some (1, 0, 0)), aI (iZ 0), aR (some (70, 0, 0))], am_hp σ, t)) rfl rfl ?_
  refine w_s (c' := (5, [some (aR (some (1, 0, 0))), some (aI (iZ x1)), some (aI (iZ x2)), some (aR (some (70, 0, 0))), none], [aI (iZ x2), aI (iZ x1), aR (some (1, 0, 0)), aI (iZ 0), aR (some (70, 0, 0))], am_hp σ, t)) rfl rfl ?_
  refine w_c0 (c' := (8, [some (aR (some (1, 0, 0))), some (aI (iZ x1)), some (aI (iZ x2)), some (aR (some (70, 0, 0))), none], [aI (iZ r1), aI (iZ 0), aR (some (70, 0, 0))], am_hp σ1, t)) rfl rfl (rcv_of (hp_1 _ 0)) rfl c1 (Nat.le_refl _) rfl ?_
  refine w_i2l rfl rfl h2 ?_
  refine w_las rfl (mk_70 _ 0 0) (by decide) rfl rfl rfl ?_
  refine w_s (c' := (17, [some (aR (some (1, 0, 0))), some (aI (iZ x1)), some (aI (iZ x2)), some (aR (some (70, 0, 0))), none], [], am_hp ((sJ σ1 (70, 0, 0) (up (σ1.2.1 (70, 0, 0)) (0 : Int).toNat r1))), t)) rfl rfl ?_
  exact w3

theorem bh_L_letter_0_2 {x1 : Int} {x2 : Int} {σ σ1 : SG} {t t' : KT} (c1 : Ca d 96 [aR (some (1, 0, 0)), aI (iZ x1), aI (iZ x2)] (am_hp σ) t (.inr 2, am_hp σ1, t')) (w2 : Wp k_L_letter d (15, [some (aR (some (1, 0, 0))), some (aI (iZ x1)), some (aI (iZ x2)), some (aR (some (70, 0, 0))), none], [], am_hp σ1, t') Q) : Wp k_L_letter d (0, [some (aR (some (1, 0, 0))), some (aI (iZ x1)), some (aI (iZ x2)), some (aR (some (70, 0, 0))), none], [], am_hp σ, t) Q := by
  refine w_s (c' := (1, [some (aR (some (1, 0, 0))), some (aI (iZ x1)), some (aI (iZ x2)), some (aR (some (70, 0, 0))), none], [aR (some (70, 0, 0))], am_hp σ, t)) rfl rfl ?_
  refine w_psh rfl zc_0 rfl ?_
  refine w_s (c' := (3, [some (aR (some (1, 0, 0))), some (aI (iZ x1)), some (aI (iZ x2)), some (aR (some (70, 0, 0))), none], [aR (some (1, 0, 0)), aI (iZ 0), aR (some (70, 0, 0))], am_hp σ, t)) rfl rfl ?_
  refine w_s (c' := (4, [some (aR (some (1, 0, 0))), some (aI (iZ x1)), some (aI (iZ x2)), some (aR (some (70, 0, 0))), none], [aI (iZ x1), aR (some (1, 0, 0)), aI (iZ 0), aR (some (70, 0, 0))], am_hp σ, t)) rfl rfl ?_
  refine w_s (c' := (5, [some (aR (some (1, 0, 0))), some (aI (iZ x1)), some (aI (iZ x2)), some (aR (some (70, 0, 0))), none], [aI (iZ x2), aI (iZ x1), aR (some (1, 0, 0)), aI (iZ 0), aR (some (70, 0, 0))], am_hp σ, t)) rfl rfl ?_
  exact w_h rfl rfl (rcv_of (hp_1 _ 0)) rfl c1 (Nat.le_refl _) rfl rfl rfl w2

theorem e_L_letter {x1 : Int} {x2 : Int} {h : AH} {t : KT} {d : Nat} {P : RS → Prop} (w : Wp k_L_letter d (0, [some (aR (some (1, 0, 0))), some (aI (iZ x1)), some (aI (iZ x2)), some (aR (some (70, 0, 0))), none], [], h, t) P) : ∃ r, Ca (d + 1) 349 [aR (some (1, 0, 0)), aI (iZ x1), aI (iZ x2), aR (some (70, 0, 0))] h t r ∧ P r := ca_W rfl rfl rfl rfl w

theorem b_L_letter_15 {x1 : Int} {x2 : Int} {σ : SG} {t : KT} (q1 : Q (.inl (some (aI (iZ 1))), am_hp σ, t)) : Wp k_L_letter d (15, [some (aR (some (1, 0, 0))), some (aI (iZ x1)), some (aI (iZ x2)), some (aR (some (70, 0, 0))), none], [], am_hp σ, t) Q := by
  refine w_psh rfl zc_1 rfl ?_
  exact w_ret rfl rfl q1

theorem b_L_letter_17 {x1 : Int} {x2 : Int} {σ : SG} {t : KT} (q1 : Q (.inl (some (aI (iZ 0))), am_hp σ, t)) : Wp k_L_letter d (17, [some (aR (some (1, 0, 0))), some (aI (iZ x1)), some (aI (iZ x2)), some (aR (some (70, 0, 0))), none], [], am_hp σ, t) Q := by
  refine w_psh rfl zc_0 rfl ?_
  exact w_ret rfl rfl q1

theorem b_L_way_0 {x1 : Int} {x2 : Int} {r1 : Int} {σ σ1 : SG} {t : KT} (c1 : Ca d 97 [aR (some (1, 0, 0)), aI (iZ x1), aI (iZ x2)] (am_hp σ) t (.inl (some (aI (iZ r1))), am_hp σ1, t)) (h2 : -2147483648 ≤ r1 ∧ r1 < 2147483648) (w3 : Wp k_L_way d (21, [some (aR (some (1, 0, 0))), some (aI (iZ x1)), some (aI (iZ x2)), some (aR (some (70, 0, 0))), none], [], am_hp ((sJ σ1 (70, 0, 0) (up (σ1.2.1 (70, 0, 0)) (0 : Int).toNat r1))), t) Q) : Wp k_L_way d (0, [some (aR (some (1, 0, 0))), some (aI (iZ x1)), some (aI (iZ x2)), some (aR (some (70, 0, 0))), none], [], am_hp σ, t) Q := by
  refine w_s (c' := (1, [some (aR (some (1, 0, 0))), some (aI (iZ x1)), some (aI (iZ x2)), some (aR (some (70, 0, 0))), none], [aR (some (70, 0, 0))], am_hp σ, t)) rfl rfl ?_
  refine w_psh rfl zc_0 rfl ?_
  refine w_s (c' := (3, [some (aR (some (1, 0, 0))), some (aI (iZ x1)), some (aI (iZ x2)), some (aR (some (70, 0, 0))), none], [aR (some (1, 0, 0)), aI (iZ 0), aR (some (70, 0, 0))], am_hp σ, t)) rfl rfl ?_
  refine w_s (c' := (4, [some (aR (some (1, 0, 0))), some (aI (iZ x1)), some (aI (iZ x2)), some (aR (some (70, 0, 0))), none], [aI (iZ x1), aR (some (1, 0, 0)), aI (iZ 0), aR (some (70, 0, 0))], am_hp σ, t)) rfl rfl ?_
  refine w_s (c' := (5, [some (aR (some (1, 0, 0))), some (aI (iZ x1)), some (aI (iZ x2)), some (aR (some (70, 0, 0))), none], [aI (iZ x2), aI (iZ x1), aR (some (1, 0, 0)), aI (iZ 0), aR (some (70, 0, 0))], am_hp σ, t)) rfl rfl ?_
  refine w_c0 (c' := (8, [some (aR (some (1, 0, 0))), some (aI (iZ x1)), some (aI (iZ x2)), some (aR (some (70, 0, 0))), none], [aI (iZ r1), aI (iZ 0), aR (some (70, 0, 0))], am_hp σ1, t)) rfl rfl (rcv_of (hp_1 _ 0)) rfl c1 (Nat.le_refl _) rfl ?_
  refine w_i2l rfl rfl h2 ?_
  refine w_las rfl (mk_70 _ 0 0) (by decide) rfl rfl rfl ?_
  refine w_s (c' := (21, [some (aR (some (1, 0, 0))), some (aI (iZ x1)), some (aI (iZ x2)), some (aR (some (70, 0, 0))), none], [], am_hp ((sJ σ1 (70, 0, 0) (up (σ1.2.1 (70, 0, 0)) (0 : Int).toNat r1))), t)) rfl rfl ?_
  exact w3

theorem bh_L_way_0_2 {x1 : Int} {x2 : Int} {σ σ1 : SG} {t t' : KT} (c1 : Ca d 97 [aR (some (1, 0, 0)), aI (iZ x1), aI (iZ x2)] (am_hp σ) t (.inr 2, am_hp σ1, t')) (w2 : Wp k_L_way d (15, [some (aR (some (1, 0, 0))), some (aI (iZ x1)), some (aI (iZ x2)), some (aR (some (70, 0, 0))), none], [], am_hp σ1, t') Q) : Wp k_L_way d (0, [some (aR (some (1, 0, 0))), some (aI (iZ x1)), some (aI (iZ x2)), some (aR (some (70, 0, 0))), none], [], am_hp σ, t) Q := by
  refine w_s (c' := (1, [some (aR (some (1, 0, 0))), some (aI (iZ x1)), some (aI (iZ x2)), some (aR (some (70, 0, 0))), none], [aR (some (70, 0, 0))], am_hp σ, t)) rfl rfl ?_
  refine w_psh rfl zc_0 rfl ?_
  refine w_s (c' := (3, [some (aR (some (1, 0, 0))), some (aI (iZ x1)), some (aI (iZ x2)), some (aR (some (70, 0, 0))), none], [aR (some (1, 0, 0)), aI (iZ 0), aR (some (70, 0, 0))], am_hp σ, t)) rfl rfl ?_
  refine w_s (c' := (4, [some (aR (some (1, 0, 0))), some (aI (iZ x1)), some (aI (iZ x2)), some (aR (some (70, 0, 0))), none], [aI (iZ x1), aR (some (1, 0, 0)), aI (iZ 0), aR (some (70, 0, 0))], am_hp σ, t)) rfl rfl ?_
  refine w_s (c' := (5, [some (aR (some (1, 0, 0))), some (aI (iZ x1)), some (aI (iZ x2)), some (aR (some (70, 0, 0))), none], [aI (iZ x2), aI (iZ x1), aR (some (1, 0, 0)), aI (iZ 0), aR (some (70, 0, 0))], am_hp σ, t)) rfl rfl ?_
  exact w_h rfl rfl (rcv_of (hp_1 _ 0)) rfl c1 (Nat.le_refl _) rfl rfl rfl w2

theorem bh_L_way_0_1 {x1 : Int} {x2 : Int} {σ σ1 : SG} {t t' : KT} (c1 : Ca d 97 [aR (some (1, 0, 0)), aI (iZ x1), aI (iZ x2)] (am_hp σ) t (.inr 1, am_hp σ1, t')) (w2 : Wp k_L_way d (19, [some (aR (some (1, 0, 0))), some (aI (iZ x1)), some (aI (iZ x2)), some (aR (some (70, 0, 0))), none], [], am_hp σ1, t') Q) : Wp k_L_way d (0, [some (aR (some (1, 0, 0))), some (aI (iZ x1)), some (aI (iZ x2)), some (aR (some (70, 0, 0))), none], [], am_hp σ, t) Q := by
  refine w_s (c' := (1, [some (aR (some (1, 0, 0))), some (aI (iZ x1)), some (aI (iZ x2)), some (aR (some (70, 0, 0))), none], [aR (some (70, 0, 0))], am_hp σ, t)) rfl rfl ?_
  refine w_psh rfl zc_0 rfl ?_
  refine w_s (c' := (3, [some (aR (some (1, 0, 0))), some (aI (iZ x1)), some (aI (iZ x2)), some (aR (some (70, 0, 0))), none], [aR (some (1, 0, 0)), aI (iZ 0), aR (some (70, 0, 0))], am_hp σ, t)) rfl rfl ?_
  refine w_s (c' := (4, [some (aR (some (1, 0, 0))), some (aI (iZ x1)), some (aI (iZ x2)), some (aR (some (70, 0, 0))), none], [aI (iZ x1), aR (some (1, 0, 0)), aI (iZ 0), aR (some (70, 0, 0))], am_hp σ, t)) rfl rfl ?_
  refine w_s (c' := (5, [some (aR (some (1, 0, 0))), some (aI (iZ x1)), some (aI (iZ x2)), some (aR (some (70, 0, 0))), none], [aI (iZ x2), aI (iZ x1), aR (some (1, 0, 0)), aI (iZ 0), aR (some (70, 0, 0))], am_hp σ, t)) rfl rfl ?_
  exact w_h rfl rfl (rcv_of (hp_1 _ 0)) rfl c1 (Nat.le_refl _) rfl rfl rfl w2

theorem e_L_way {x1 : Int} {x2 : Int} {h : AH} {t : KT} {d : Nat} {P : RS → Prop} (w : Wp k_L_way d (0, [some (aR (some (1, 0, 0))), some (aI (iZ x1)), some (aI (iZ x2)), some (aR (some (70, 0, 0))), none], [], h, t) P) : ∃ r, Ca (d + 1) 350 [aR (some (1, 0, 0)), aI (iZ x1), aI (iZ x2), aR (some (70, 0, 0))] h t r ∧ P r := ca_W rfl rfl rfl rfl w

theorem b_L_way_15 {x1 : Int} {x2 : Int} {σ : SG} {t : KT} (q1 : Q (.inl (some (aI (iZ 1))), am_hp σ, t)) : Wp k_L_way d (15, [some (aR (some (1, 0, 0))), some (aI (iZ x1)), some (aI (iZ x2)), some (aR (some (70, 0, 0))), none], [], am_hp σ, t) Q := by
  refine w_psh rfl zc_1 rfl ?_
  exact w_ret rfl rfl q1

theorem b_L_way_19 {x1 : Int} {x2 : Int} {σ : SG} {t : KT} (q1 : Q (.inl (some (aI (iZ 2))), am_hp σ, t)) : Wp k_L_way d (19, [some (aR (some (1, 0, 0))), some (aI (iZ x1)), some (aI (iZ x2)), some (aR (some (70, 0, 0))), none], [], am_hp σ, t) Q := by
  refine w_psh rfl zc_2 rfl ?_
  exact w_ret rfl rfl q1

theorem b_L_way_21 {x1 : Int} {x2 : Int} {σ : SG} {t : KT} (q1 : Q (.inl (some (aI (iZ 0))), am_hp σ, t)) : Wp k_L_way d (21, [some (aR (some (1, 0, 0))), some (aI (iZ x1)), some (aI (iZ x2)), some (aR (some (70, 0, 0))), none], [], am_hp σ, t) Q := by
  refine w_psh rfl zc_0 rfl ?_
  exact w_ret rfl rfl q1

theorem b_L_row_0 {x1 : Int} {x2 : Int} {r1 : Int} {σ σ1 : SG} {t : KT} (c1 : Ca d 98 [aR (some (1, 0, 0)), aI (iZ x1), aI (iZ x2)] (am_hp σ) t (.inl (some (aI (iZ r1))), am_hp σ1, t)) (h2 : -2147483648 ≤ r1 ∧ r1 < 2147483648) (w3 : Wp k_L_row d (21, [some (aR (some (1, 0, 0))), some (aI (iZ x1)), some (aI (iZ x2)), some (aR (some (70, 0, 0))), none], [], am_hp ((sJ σ1 (70, 0, 0) (up (σ1.2.1 (70, 0, 0)) (0 : Int).toNat r1))), t) Q) : Wp k_L_row d (0, [some (aR (some (1, 0, 0))), some (aI (iZ x1)), some (aI (iZ x2)), some (aR (some (70, 0, 0))), none], [], am_hp σ, t) Q := by
  refine w_s (c' := (1, [some (aR (some (1, 0, 0))), some (aI (iZ x1)), some (aI (iZ x2)), some (aR (some (70, 0, 0))), none], [aR (some (70, 0, 0))], am_hp σ, t)) rfl rfl ?_
  refine w_psh rfl zc_0 rfl ?_
  refine w_s (c' := (3, [some (aR (some (1, 0, 0))), some (aI (iZ x1)), some (aI (iZ x2)), some (aR (some (70, 0, 0))), none], [aR (some (1, 0, 0)), aI (iZ 0), aR (some (70, 0, 0))], am_hp σ, t)) rfl rfl ?_
  refine w_s (c' := (4, [some (aR (some (1, 0, 0))), some (aI (iZ x1)), some (aI (iZ x2)), some (aR (some (70, 0, 0))), none], [aI (iZ x1), aR (some (1, 0, 0)), aI (iZ 0), aR (some (70, 0, 0))], am_hp σ, t)) rfl rfl ?_
  refine w_s (c' := (5, [some (aR (some (1, 0, 0))), some (aI (iZ x1)), some (aI (iZ x2)), some (aR (some (70, 0, 0))), none], [aI (iZ x2), aI (iZ x1), aR (some (1, 0, 0)), aI (iZ 0), aR (some (70, 0, 0))], am_hp σ, t)) rfl rfl ?_
  refine w_c0 (c' := (8, [some (aR (some (1, 0, 0))), some (aI (iZ x1)), some (aI (iZ x2)), some (aR (some (70, 0, 0))), none], [aI (iZ r1), aI (iZ 0), aR (some (70, 0, 0))], am_hp σ1, t)) rfl rfl (rcv_of (hp_1 _ 0)) rfl c1 (Nat.le_refl _) rfl ?_
  refine w_i2l rfl rfl h2 ?_
  refine w_las rfl (mk_70 _ 0 0) (by decide) rfl rfl rfl ?_
  refine w_s (c' := (21, [some (aR (some (1, 0, 0))), some (aI (iZ x1)), some (aI (iZ x2)), some (aR (some (70, 0, 0))), none], [], am_hp ((sJ σ1 (70, 0, 0) (up (σ1.2.1 (70, 0, 0)) (0 : Int).toNat r1))), t)) rfl rfl ?_
  exact w3

theorem bh_L_row_0_2 {x1 : Int} {x2 : Int} {σ σ1 : SG} {t t' : KT} (c1 : Ca d 98 [aR (some (1, 0, 0)), aI (iZ x1), aI (iZ x2)] (am_hp σ) t (.inr 2, am_hp σ1, t')) (w2 : Wp k_L_row d (15, [some (aR (some (1, 0, 0))), some (aI (iZ x1)), some (aI (iZ x2)), some (aR (some (70, 0, 0))), none], [], am_hp σ1, t') Q) : Wp k_L_row d (0, [some (aR (some (1, 0, 0))), some (aI (iZ x1)), some (aI (iZ x2)), some (aR (some (70, 0, 0))), none], [], am_hp σ, t) Q := by
  refine w_s (c' := (1, [some (aR (some (1, 0, 0))), some (aI (iZ x1)), some (aI (iZ x2)), some (aR (some (70, 0, 0))), none], [aR (some (70, 0, 0))], am_hp σ, t)) rfl rfl ?_
  refine w_psh rfl zc_0 rfl ?_
  refine w_s (c' := (3, [some (aR (some (1, 0, 0))), some (aI (iZ x1)), some (aI (iZ x2)), some (aR (some (70, 0, 0))), none], [aR (some (1, 0, 0)), aI (iZ 0), aR (some (70, 0, 0))], am_hp σ, t)) rfl rfl ?_
  refine w_s (c' := (4, [some (aR (some (1, 0, 0))), some (aI (iZ x1)), some (aI (iZ x2)), some (aR (some (70, 0, 0))), none], [aI (iZ x1), aR (some (1, 0, 0)), aI (iZ 0), aR (some (70, 0, 0))], am_hp σ, t)) rfl rfl ?_
  refine w_s (c' := (5, [some (aR (some (1, 0, 0))), some (aI (iZ x1)), some (aI (iZ x2)), some (aR (some (70, 0, 0))), none], [aI (iZ x2), aI (iZ x1), aR (some (1, 0, 0)), aI (iZ 0), aR (some (70, 0, 0))], am_hp σ, t)) rfl rfl ?_
  exact w_h rfl rfl (rcv_of (hp_1 _ 0)) rfl c1 (Nat.le_refl _) rfl rfl rfl w2

theorem bh_L_row_0_1 {x1 : Int} {x2 : Int} {σ σ1 : SG} {t t' : KT} (c1 : Ca d 98 [aR (some (1, 0, 0)), aI (iZ x1), aI (iZ x2)] (am_hp σ) t (.inr 1, am_hp σ1, t')) (w2 : Wp k_L_row d (19, [some (aR (some (1, 0, 0))), some (aI (iZ x1)), some (aI (iZ x2)), some (aR (some (70, 0, 0))), none], [], am_hp σ1, t') Q) : Wp k_L_row d (0, [some (aR (some (1, 0, 0))), some (aI (iZ x1)), some (aI (iZ x2)), some (aR (some (70, 0, 0))), none], [], am_hp σ, t) Q := by
  refine w_s (c' := (1, [some (aR (some (1, 0, 0))), some (aI (iZ x1)), some (aI (iZ x2)), some (aR (some (70, 0, 0))), none], [aR (some (70, 0, 0))], am_hp σ, t)) rfl rfl ?_
  refine w_psh rfl zc_0 rfl ?_
  refine w_s (c' := (3, [some (aR (some (1, 0, 0))), some (aI (iZ x1)), some (aI (iZ x2)), some (aR (some (70, 0, 0))), none], [aR (some (1, 0, 0)), aI (iZ 0), aR (some (70, 0, 0))], am_hp σ, t)) rfl rfl ?_
  refine w_s (c' := (4, [some (aR (some (1, 0, 0))), some (aI (iZ x1)), some (aI (iZ x2)), some (aR (some (70, 0, 0))), none], [aI (iZ x1), aR (some (1, 0, 0)), aI (iZ 0), aR (some (70, 0, 0))], am_hp σ, t)) rfl rfl ?_
  refine w_s (c' := (5, [some (aR (some (1, 0, 0))), some (aI (iZ x1)), some (aI (iZ x2)), some (aR (some (70, 0, 0))), none], [aI (iZ x2), aI (iZ x1), aR (some (1, 0, 0)), aI (iZ 0), aR (some (70, 0, 0))], am_hp σ, t)) rfl rfl ?_
  exact w_h rfl rfl (rcv_of (hp_1 _ 0)) rfl c1 (Nat.le_refl _) rfl rfl rfl w2

theorem e_L_row {x1 : Int} {x2 : Int} {h : AH} {t : KT} {d : Nat} {P : RS → Prop} (w : Wp k_L_row d (0, [some (aR (some (1, 0, 0))), some (aI (iZ x1)), some (aI (iZ x2)), some (aR (some (70, 0, 0))), none], [], h, t) P) : ∃ r, Ca (d + 1) 351 [aR (some (1, 0, 0)), aI (iZ x1), aI (iZ x2), aR (some (70, 0, 0))] h t r ∧ P r := ca_W rfl rfl rfl rfl w

theorem b_L_row_15 {x1 : Int} {x2 : Int} {σ : SG} {t : KT} (q1 : Q (.inl (some (aI (iZ 1))), am_hp σ, t)) : Wp k_L_row d (15, [some (aR (some (1, 0, 0))), some (aI (iZ x1)), some (aI (iZ x2)), some (aR (some (70, 0, 0))), none], [], am_hp σ, t) Q := by
  refine w_psh rfl zc_1 rfl ?_
  exact w_ret rfl rfl q1

theorem b_L_row_19 {x1 : Int} {x2 : Int} {σ : SG} {t : KT} (q1 : Q (.inl (some (aI (iZ 2))), am_hp σ, t)) : Wp k_L_row d (19, [some (aR (some (1, 0, 0))), some (aI (iZ x1)), some (aI (iZ x2)), some (aR (some (70, 0, 0))), none], [], am_hp σ, t) Q := by
  refine w_psh rfl zc_2 rfl ?_
  exact w_ret rfl rfl q1

theorem b_L_row_21 {x1 : Int} {x2 : Int} {σ : SG} {t : KT} (q1 : Q (.inl (some (aI (iZ 0))), am_hp σ, t)) : Wp k_L_row d (21, [some (aR (some (1, 0, 0))), some (aI (iZ x1)), some (aI (iZ x2)), some (aR (some (70, 0, 0))), none], [], am_hp σ, t) Q := by
  refine w_psh rfl zc_0 rfl ?_
  exact w_ret rfl rfl q1

theorem b_L_word_0 {x1 : Int} {x2 : Int} {r1 : Int} {σ σ1 : SG} {t : KT} (c1 : Ca d 99 [aR (some (1, 0, 0)), aI (iZ x1), aI (iZ x2)] (am_hp σ) t (.inl (some (aI (iZ r1))), am_hp σ1, t)) (h2 : -2147483648 ≤ r1 ∧ r1 < 2147483648) (w3 : Wp k_L_word d (17, [some (aR (some (1, 0, 0))), some (aI (iZ x1)), some (aI (iZ x2)), some (aR (some (70, 0, 0))), none], [], am_hp ((sJ σ1 (70, 0, 0) (up (σ1.2.1 (70, 0, 0)) (0 : Int).toNat r1))), t) Q) : Wp k_L_word d (0, [some (aR (some (1, 0, 0))), some (aI (iZ x1)), some (aI (iZ x2)), some (aR (some (70, 0, 0))), none], [], am_hp σ, t) Q := by
  refine w_s (c' := (1, [some (aR (some (1, 0, 0))), some (aI (iZ x1)), some (aI (iZ x2)), some (aR (some (70, 0, 0))), none], [aR (some (70, 0, 0))], am_hp σ, t)) rfl rfl ?_
  refine w_psh rfl zc_0 rfl ?_
  refine w_s (c' := (3, [some (aR (some (1, 0, 0))), some (aI (iZ x1)), some (aI (iZ x2)), some (aR (some (70, 0, 0))), none], [aR (some (1, 0, 0)), aI (iZ 0), aR (some (70, 0, 0))], am_hp σ, t)) rfl rfl ?_
  refine w_s (c' := (4, [some (aR (some (1, 0, 0))), some (aI (iZ x1)), some (aI (iZ x2)), some (aR (some (70, 0, 0))), none], [aI (iZ x1), aR (some (1, 0, 0)), aI (iZ 0), aR (some (70, 0, 0))], am_hp σ, t)) rfl rfl ?_
  refine w_s (c' := (5, [some (aR (some (1, 0, 0))), some (aI (iZ x1)), some (aI (iZ x2)), some (aR (some (70, 0, 0))), none], [aI (iZ x2), aI (iZ x1), aR (some (1, 0, 0)), aI (iZ 0), aR (some (70, 0, 0))], am_hp σ, t)) rfl rfl ?_
  refine w_c0 (c' := (8, [some (aR (some (1, 0, 0))), some (aI (iZ x1)), some (aI (iZ x2)), some (aR (some (70, 0, 0))), none], [aI (iZ r1), aI (iZ 0), aR (some (70, 0, 0))], am_hp σ1, t)) rfl rfl (rcv_of (hp_1 _ 0)) rfl c1 (Nat.le_refl _) rfl ?_
  refine w_i2l rfl rfl h2 ?_
  refine w_las rfl (mk_70 _ 0 0) (by decide) rfl rfl rfl ?_
  refine w_s (c' := (17, [some (aR (some (1, 0, 0))), some (aI (iZ x1)), some (aI (iZ x2)), some (aR (some (70, 0, 0))), none], [], am_hp ((sJ σ1 (70, 0, 0) (up (σ1.2.1 (70, 0, 0)) (0 : Int).toNat r1))), t)) rfl rfl ?_
  exact w3

theorem bh_L_word_0_2 {x1 : Int} {x2 : Int} {σ σ1 : SG} {t t' : KT} (c1 : Ca d 99 [aR (some (1, 0, 0)), aI (iZ x1), aI (iZ x2)] (am_hp σ) t (.inr 2, am_hp σ1, t')) (w2 : Wp k_L_word d (15, [some (aR (some (1, 0, 0))), some (aI (iZ x1)), some (aI (iZ x2)), some (aR (some (70, 0, 0))), none], [], am_hp σ1, t') Q) : Wp k_L_word d (0, [some (aR (some (1, 0, 0))), some (aI (iZ x1)), some (aI (iZ x2)), some (aR (some (70, 0, 0))), none], [], am_hp σ, t) Q := by
  refine w_s (c' := (1, [some (aR (some (1, 0, 0))), some (aI (iZ x1)), some (aI (iZ x2)), some (aR (some (70, 0, 0))), none], [aR (some (70, 0, 0))], am_hp σ, t)) rfl rfl ?_
  refine w_psh rfl zc_0 rfl ?_
  refine w_s (c' := (3, [some (aR (some (1, 0, 0))), some (aI (iZ x1)), some (aI (iZ x2)), some (aR (some (70, 0, 0))), none], [aR (some (1, 0, 0)), aI (iZ 0), aR (some (70, 0, 0))], am_hp σ, t)) rfl rfl ?_
  refine w_s (c' := (4, [some (aR (some (1, 0, 0))), some (aI (iZ x1)), some (aI (iZ x2)), some (aR (some (70, 0, 0))), none], [aI (iZ x1), aR (some (1, 0, 0)), aI (iZ 0), aR (some (70, 0, 0))], am_hp σ, t)) rfl rfl ?_
  refine w_s (c' := (5, [some (aR (some (1, 0, 0))), some (aI (iZ x1)), some (aI (iZ x2)), some (aR (some (70, 0, 0))), none], [aI (iZ x2), aI (iZ x1), aR (some (1, 0, 0)), aI (iZ 0), aR (some (70, 0, 0))], am_hp σ, t)) rfl rfl ?_
  exact w_h rfl rfl (rcv_of (hp_1 _ 0)) rfl c1 (Nat.le_refl _) rfl rfl rfl w2

theorem e_L_word {x1 : Int} {x2 : Int} {h : AH} {t : KT} {d : Nat} {P : RS → Prop} (w : Wp k_L_word d (0, [some (aR (some (1, 0, 0))), some (aI (iZ x1)), some (aI (iZ x2)), some (aR (some (70, 0, 0))), none], [], h, t) P) : ∃ r, Ca (d + 1) 352 [aR (some (1, 0, 0)), aI (iZ x1), aI (iZ x2), aR (some (70, 0, 0))] h t r ∧ P r := ca_W rfl rfl rfl rfl w

theorem b_L_word_15 {x1 : Int} {x2 : Int} {σ : SG} {t : KT} (q1 : Q (.inl (some (aI (iZ 1))), am_hp σ, t)) : Wp k_L_word d (15, [some (aR (some (1, 0, 0))), some (aI (iZ x1)), some (aI (iZ x2)), some (aR (some (70, 0, 0))), none], [], am_hp σ, t) Q := by
  refine w_psh rfl zc_1 rfl ?_
  exact w_ret rfl rfl q1

theorem b_L_word_17 {x1 : Int} {x2 : Int} {σ : SG} {t : KT} (q1 : Q (.inl (some (aI (iZ 0))), am_hp σ, t)) : Wp k_L_word d (17, [some (aR (some (1, 0, 0))), some (aI (iZ x1)), some (aI (iZ x2)), some (aR (some (70, 0, 0))), none], [], am_hp σ, t) Q := by
  refine w_psh rfl zc_0 rfl ?_
  exact w_ret rfl rfl q1

theorem b_L_wordPart_0 {x1 : Int} {x2 : Int} {x3 : Int} {r1 : Int} {σ σ1 : SG} {t : KT} (c1 : Ca d 100 [aR (some (1, 0, 0)), aI (iZ x1), aI (iZ x2), aI (iZ x3)] (am_hp σ) t (.inl (some (aI (iZ r1))), am_hp σ1, t)) (h2 : -2147483648 ≤ r1 ∧ r1 < 2147483648) (w3 : Wp k_L_wordPart d (23, [some (aR (some (1, 0, 0))), some (aI (iZ x1)), some (aI (iZ x2)), some (aI (iZ x3)), some (aR (some (70, 0, 0))), none], [], am_hp ((sJ σ1 (70, 0, 0) (up (σ1.2.1 (70, 0, 0)) (0 : Int).toNat r1))), t) Q) : Wp k_L_wordPart d (0, [some (aR (some (1, 0, 0))), some (aI (iZ x1)), some (aI (iZ x2)), some (aI (iZ x3)), some (aR (some (70, 0, 0))), none], [], am_hp σ, t) Q := by
  refine w_s (c' := (2, [some (aR (some (1, 0, 0))), some (aI (iZ x1)), some (aI (iZ x2)), some (aI (iZ x3)), some (aR (some (70, 0, 0))), none], [aR (some (70, 0, 0))], am_hp σ, t)) rfl rfl ?_
  refine w_psh rfl zc_0 rfl ?_
  refine w_s (c' := (4, [some (aR (some (1, 0, 0))), some (aI (iZ x1)), some (aI (iZ x2)), some (aI (iZ x3)), some (aR (some (70, 0, 0))), none], [aR (some (1, 0, 0)), aI (iZ 0), aR (some (70, 0, 0))], am_hp σ, t)) rfl rfl ?_
  refine w_s (c' := (5, [some (aR (some (1, 0, 0))), some (aI (iZ x1)), some (aI (iZ x2)), some (aI (iZ x3)), some (aR (some (70, 0, 0))), none], [aI (iZ x1), aR (some (1, 0, 0)), aI (iZ 0), aR (some (70, 0, 0))], am_hp σ, t)) rfl rfl ?_
  refine w_s (c' := (6, [some (aR (some (1, 0, 0))), some (aI (iZ x1)), some (aI (iZ x2)), some (aI (iZ x3)), some (aR (some (70, 0, 0))), none], [aI (iZ x2), aI (iZ x1), aR (some (1, 0, 0)), aI (iZ 0), aR (some (70, 0, 0))], am_hp σ, t)) rfl rfl ?_
  refine w_s (c' := (7, [some (aR (some (1, 0, 0))), some (aI (iZ x1)), some (aI (iZ x2)), some (aI (iZ x3)), some (aR (some (70, 0, 0))), none], [aI (iZ x3), aI (iZ x2), aI (iZ x1), aR (some (1, 0, 0)), aI (iZ 0), aR (some (70, 0, 0))], am_hp σ, t)) rfl rfl ?_
  refine w_c0 (c' := (10, [some (aR (some (1, 0, 0))), some (aI (iZ x1)), some (aI (iZ x2)), some (aI (iZ x3)), some (aR (some (70, 0, 0))), none], [aI (iZ r1), aI (iZ 0), aR (some (70, 0, 0))], am_hp σ1, t)) rfl rfl (rcv_of (hp_1 _ 0)) rfl c1 (Nat.le_refl _) rfl ?_
  refine w_i2l rfl rfl h2 ?_
  refine w_las rfl (mk_70 _ 0 0) (by decide) rfl rfl rfl ?_
  refine w_s (c' := (23, [some (aR (some (1, 0, 0))), some (aI (iZ x1)), some (aI (iZ x2)), some (aI (iZ x3)), some (aR (some (70, 0, 0))), none], [], am_hp ((sJ σ1 (70, 0, 0) (up (σ1.2.1 (70, 0, 0)) (0 : Int).toNat r1))), t)) rfl rfl ?_
  exact w3

theorem bh_L_wordPart_0_2 {x1 : Int} {x2 : Int} {x3 : Int} {σ σ1 : SG} {t t' : KT} (c1 : Ca d 100 [aR (some (1, 0, 0)), aI (iZ x1), aI (iZ x2), aI (iZ x3)] (am_hp σ) t (.inr 2, am_hp σ1, t')) (w2 : Wp k_L_wordPart d (17, [some (aR (some (1, 0, 0))), some (aI (iZ x1)), some (aI (iZ x2)), some (aI (iZ x3)), some (aR (some (70, 0, 0))), none], [], am_hp σ1, t') Q) : Wp k_L_wordPart d (0, [some (aR (some (1, 0, 0))), some (aI (iZ x1)), some (aI (iZ x2)), some (aI (iZ x3)), some (aR (some (70, 0, 0))), none], [], am_hp σ, t) Q := by
  refine w_s (c' := (2, [some (aR (some (1, 0, 0))), some (aI (iZ x1)), some (aI (iZ x2)), some (aI (iZ x3)), some (aR (some (70, 0, 0))), none], [aR (some (70, 0, 0))], am_hp σ, t)) rfl rfl ?_
  refine w_psh rfl zc_0 rfl ?_
  refine w_s (c' := (4, [some (aR (some (1, 0, 0))), some (aI (iZ x1)), some (aI (iZ x2)), some (aI (iZ x3)), some (aR (some (70, 0, 0))), none], [aR (some (1, 0, 0)), aI (iZ 0), aR (some (70, 0, 0))], am_hp σ, t)) rfl rfl ?_
  refine w_s (c' := (5, [some (aR (some (1, 0, 0))), some (aI (iZ x1)), some (aI (iZ x2)), some (aI (iZ x3)), some (aR (some (70, 0, 0))), none], [aI (iZ x1), aR (some (1, 0, 0)), aI (iZ 0), aR (some (70, 0, 0))], am_hp σ, t)) rfl rfl ?_
  refine w_s (c' := (6, [some (aR (some (1, 0, 0))), some (aI (iZ x1)), some (aI (iZ x2)), some (aI (iZ x3)), some (aR (some (70, 0, 0))), none], [aI (iZ x2), aI (iZ x1), aR (some (1, 0, 0)), aI (iZ 0), aR (some (70, 0, 0))], am_hp σ, t)) rfl rfl ?_
  refine w_s (c' := (7, [some (aR (some (1, 0, 0))), some (aI (iZ x1)), some (aI (iZ x2)), some (aI (iZ x3)), some (aR (some (70, 0, 0))), none], [aI (iZ x3), aI (iZ x2), aI (iZ x1), aR (some (1, 0, 0)), aI (iZ 0), aR (some (70, 0, 0))], am_hp σ, t)) rfl rfl ?_
  exact w_h rfl rfl (rcv_of (hp_1 _ 0)) rfl c1 (Nat.le_refl _) rfl rfl rfl w2

theorem bh_L_wordPart_0_1 {x1 : Int} {x2 : Int} {x3 : Int} {σ σ1 : SG} {t t' : KT} (c1 : Ca d 100 [aR (some (1, 0, 0)), aI (iZ x1), aI (iZ x2), aI (iZ x3)] (am_hp σ) t (.inr 1, am_hp σ1, t')) (w2 : Wp k_L_wordPart d (21, [some (aR (some (1, 0, 0))), some (aI (iZ x1)), some (aI (iZ x2)), some (aI (iZ x3)), some (aR (some (70, 0, 0))), none], [], am_hp σ1, t') Q) : Wp k_L_wordPart d (0, [some (aR (some (1, 0, 0))), some (aI (iZ x1)), some (aI (iZ x2)), some (aI (iZ x3)), some (aR (some (70, 0, 0))), none], [], am_hp σ, t) Q := by
  refine w_s (c' := (2, [some (aR (some (1, 0, 0))), some (aI (iZ x1)), some (aI (iZ x2)), some (aI (iZ x3)), some (aR (some (70, 0, 0))), none], [aR (some (70, 0, 0))], am_hp σ, t)) rfl rfl ?_
  refine w_psh rfl zc_0 rfl ?_
  refine w_s (c' := (4, [some (aR (some (1, 0, 0))), some (aI (iZ x1)), some (aI (iZ x2)), some (aI (iZ x3)), some (aR (some (70, 0, 0))), none], [aR (some (1, 0, 0)), aI (iZ 0), aR (some (70, 0, 0))], am_hp σ, t)) rfl rfl ?_
  refine w_s (c' := (5, [some (aR (some (1, 0, 0))), some (aI (iZ x1)), some (aI (iZ x2)), some (aI (iZ x3)), some (aR (some (70, 0, 0))), none], [aI (iZ x1), aR (some (1, 0, 0)), aI (iZ 0), aR (some (70, 0, 0))], am_hp σ, t)) rfl rfl ?_
  refine w_s (c' := (6, [some (aR (some (1, 0, 0))), some (aI (iZ x1)), some (aI (iZ x2)), some (aI (iZ x3)), some (aR (some (70, 0, 0))), none], [aI (iZ x2), aI (iZ x1), aR (some (1, 0, 0)), aI (iZ 0), aR (some (70, 0, 0))], am_hp σ, t)) rfl rfl ?_
  refine w_s (c' := (7, [some (aR (some (1, 0, 0))), some (aI (iZ x1)), some (aI (iZ x2)), some (aI (iZ x3)), some (aR (some (70, 0, 0))), none], [aI (iZ x3), aI (iZ x2), aI (iZ x1), aR (some (1, 0, 0)), aI (iZ 0), aR (some (70, 0, 0))], am_hp σ, t)) rfl rfl ?_
  exact w_h rfl rfl (rcv_of (hp_1 _ 0)) rfl c1 (Nat.le_refl _) rfl rfl rfl w2

theorem e_L_wordPart {x1 : Int} {x2 : Int} {x3 : Int} {h : AH} {t : KT} {d : Nat} {P : RS → Prop} (w : Wp k_L_wordPart d (0, [some (aR (some (1, 0, 0))), some (aI (iZ x1)), some (aI (iZ x2)), some (aI (iZ x3)), some (aR (some (70, 0, 0))), none], [], h, t) P) : ∃ r, Ca (d + 1) 353 [aR (some (1, 0, 0)), aI (iZ x1), aI (iZ x2), aI (iZ x3), aR (some (70, 0, 0))] h t r ∧ P r := ca_W rfl rfl rfl rfl w

theorem b_L_wordPart_17 {x1 : Int} {x2 : Int} {x3 : Int} {σ : SG} {t : KT} (q1 : Q (.inl (some (aI (iZ 1))), am_hp σ, t)) : Wp k_L_wordPart d (17, [some (aR (some (1, 0, 0))), some (aI (iZ x1)), some (aI (iZ x2)), some (aI (iZ x3)), some (aR (some (70, 0, 0))), none], [], am_hp σ, t) Q := by
  refine w_psh rfl zc_1 rfl ?_
  exact w_ret rfl rfl q1

theorem b_L_wordPart_21 {x1 : Int} {x2 : Int} {x3 : Int} {σ : SG} {t : KT} (q1 : Q (.inl (some (aI (iZ 2))), am_hp σ, t)) : Wp k_L_wordPart d (21, [some (aR (some (1, 0, 0))), some (aI (iZ x1)), some (aI (iZ x2)), some (aI (iZ x3)), some (aR (some (70, 0, 0))), none], [], am_hp σ, t) Q := by
  refine w_psh rfl zc_2 rfl ?_
  exact w_ret rfl rfl q1

theorem b_L_wordPart_23 {x1 : Int} {x2 : Int} {x3 : Int} {σ : SG} {t : KT} (q1 : Q (.inl (some (aI (iZ 0))), am_hp σ, t)) : Wp k_L_wordPart d (23, [some (aR (some (1, 0, 0))), some (aI (iZ x1)), some (aI (iZ x2)), some (aI (iZ x3)), some (aR (some (70, 0, 0))), none], [], am_hp σ, t) Q := by
  refine w_psh rfl zc_0 rfl ?_
  exact w_ret rfl rfl q1

theorem b_L_wordSum_0 {x1 : Int} {x2 : Int} {r1 : Int} {σ σ1 : SG} {t : KT} (c1 : Ca d 101 [aR (some (1, 0, 0)), aI (iZ x1), aI (iZ x2)] (am_hp σ) t (.inl (some (aL (jZ r1))), am_hp σ1, t)) (w2 : Wp k_L_wordSum d (16, [some (aR (some (1, 0, 0))), some (aI (iZ x1)), some (aI (iZ x2)), some (aR (some (70, 0, 0))), none], [], am_hp ((sJ σ1 (70, 0, 0) (up (σ1.2.1 (70, 0, 0)) (0 : Int).toNat r1))), t) Q) : Wp k_L_wordSum d (0, [some (aR (some (1, 0, 0))), some (aI (iZ x1)), some (aI (iZ x2)), some (aR (some (70, 0, 0))), none], [], am_hp σ, t) Q := by
  refine w_s (c' := (1, [some (aR (some (1, 0, 0))), some (aI (iZ x1)), some (aI (iZ x2)), some (aR (some (70, 0, 0))), none], [aR (some (70, 0, 0))], am_hp σ, t)) rfl rfl ?_
  refine w_psh rfl zc_0 rfl ?_
  refine w_s (c' := (3, [some (aR (some (1, 0, 0))), some (aI (iZ x1)), some (aI (iZ x2)), some (aR (some (70, 0, 0))), none], [aR (some (1, 0, 0)), aI (iZ 0), aR (some (70, 0, 0))], am_hp σ, t)) rfl rfl ?_
  refine w_s (c' := (4, [some (aR (some (1, 0, 0))), some (aI (iZ x1)), some (aI (iZ x2)), some (aR (some (70, 0, 0))), none], [aI (iZ x1), aR (some (1, 0, 0)), aI (iZ 0), aR (some (70, 0, 0))], am_hp σ, t)) rfl rfl ?_
  refine w_s (c' := (5, [some (aR (some (1, 0, 0))), some (aI (iZ x1)), some (aI (iZ x2)), some (aR (some (70, 0, 0))), none], [aI (iZ x2), aI (iZ x1), aR (some (1, 0, 0)), aI (iZ 0), aR (some (70, 0, 0))], am_hp σ, t)) rfl rfl ?_
  refine w_c0 (c' := (8, [some (aR (some (1, 0, 0))), some (aI (iZ x1)), some (aI (iZ x2)), some (aR (some (70, 0, 0))), none], [aL (jZ r1), aI (iZ 0), aR (some (70, 0, 0))], am_hp σ1, t)) rfl rfl (rcv_of (hp_1 _ 0)) rfl c1 (Nat.le_refl _) rfl ?_
  refine w_las rfl (mk_70 _ 0 0) (by decide) rfl rfl rfl ?_
  refine w_s (c' := (16, [some (aR (some (1, 0, 0))), some (aI (iZ x1)), some (aI (iZ x2)), some (aR (some (70, 0, 0))), none], [], am_hp ((sJ σ1 (70, 0, 0) (up (σ1.2.1 (70, 0, 0)) (0 : Int).toNat r1))), t)) rfl rfl ?_
  exact w2

theorem bh_L_wordSum_0_2 {x1 : Int} {x2 : Int} {σ σ1 : SG} {t t' : KT} (c1 : Ca d 101 [aR (some (1, 0, 0)), aI (iZ x1), aI (iZ x2)] (am_hp σ) t (.inr 2, am_hp σ1, t')) (w2 : Wp k_L_wordSum d (14, [some (aR (some (1, 0, 0))), some (aI (iZ x1)), some (aI (iZ x2)), some (aR (some (70, 0, 0))), none], [], am_hp σ1, t') Q) : Wp k_L_wordSum d (0, [some (aR (some (1, 0, 0))), some (aI (iZ x1)), some (aI (iZ x2)), some (aR (some (70, 0, 0))), none], [], am_hp σ, t) Q := by
  refine w_s (c' := (1, [some (aR (some (1, 0, 0))), some (aI (iZ x1)), some (aI (iZ x2)), some (aR (some (70, 0, 0))), none], [aR (some (70, 0, 0))], am_hp σ, t)) rfl rfl ?_
  refine w_psh rfl zc_0 rfl ?_
  refine w_s (c' := (3, [some (aR (some (1, 0, 0))), some (aI (iZ x1)), some (aI (iZ x2)), some (aR (some (70, 0, 0))), none], [aR (some (1, 0, 0)), aI (iZ 0), aR (some (70, 0, 0))], am_hp σ, t)) rfl rfl ?_
  refine w_s (c' := (4, [some (aR (some (1, 0, 0))), some (aI (iZ x1)), some (aI (iZ x2)), some (aR (some (70, 0, 0))), none], [aI (iZ x1), aR (some (1, 0, 0)), aI (iZ 0), aR (some (70, 0, 0))], am_hp σ, t)) rfl rfl ?_
  refine w_s (c' := (5, [some (aR (some (1, 0, 0))), some (aI (iZ x1)), some (aI (iZ x2)), some (aR (some (70, 0, 0))), none], [aI (iZ x2), aI (iZ x1), aR (some (1, 0, 0)), aI (iZ 0), aR (some (70, 0, 0))], am_hp σ, t)) rfl rfl ?_
  exact w_h rfl rfl (rcv_of (hp_1 _ 0)) rfl c1 (Nat.le_refl _) rfl rfl rfl w2

theorem e_L_wordSum {x1 : Int} {x2 : Int} {h : AH} {t : KT} {d : Nat} {P : RS → Prop} (w : Wp k_L_wordSum d (0, [some (aR (some (1, 0, 0))), some (aI (iZ x1)), some (aI (iZ x2)), some (aR (some (70, 0, 0))), none], [], h, t) P) : ∃ r, Ca (d + 1) 354 [aR (some (1, 0, 0)), aI (iZ x1), aI (iZ x2), aR (some (70, 0, 0))] h t r ∧ P r := ca_W rfl rfl rfl rfl w

theorem b_L_wordSum_14 {x1 : Int} {x2 : Int} {σ : SG} {t : KT} (q1 : Q (.inl (some (aI (iZ 1))), am_hp σ, t)) : Wp k_L_wordSum d (14, [some (aR (some (1, 0, 0))), some (aI (iZ x1)), some (aI (iZ x2)), some (aR (some (70, 0, 0))), none], [], am_hp σ, t) Q := by
  refine w_psh rfl zc_1 rfl ?_
  exact w_ret rfl rfl q1

theorem b_L_wordSum_16 {x1 : Int} {x2 : Int} {σ : SG} {t : KT} (q1 : Q (.inl (some (aI (iZ 0))), am_hp σ, t)) : Wp k_L_wordSum d (16, [some (aR (some (1, 0, 0))), some (aI (iZ x1)), some (aI (iZ x2)), some (aR (some (70, 0, 0))), none], [], am_hp σ, t) Q := by
  refine w_psh rfl zc_0 rfl ?_
  exact w_ret rfl rfl q1

theorem b_L_entryStart_0 {x1 : Int} {x2 : Int} {r1 : Int} {σ σ1 : SG} {t : KT} (c1 : Ca d 102 [aR (some (1, 0, 0)), aI (iZ x1), aI (iZ x2)] (am_hp σ) t (.inl (some (aI (iZ r1))), am_hp σ1, t)) (h2 : -2147483648 ≤ r1 ∧ r1 < 2147483648) (w3 : Wp k_L_entryStart d (17, [some (aR (some (1, 0, 0))), some (aI (iZ x1)), some (aI (iZ x2)), some (aR (some (70, 0, 0))), none], [], am_hp ((sJ σ1 (70, 0, 0) (up (σ1.2.1 (70, 0, 0)) (0 : Int).toNat r1))), t) Q) : Wp k_L_entryStart d (0, [some (aR (some (1, 0, 0))), some (aI (iZ x1)), some (aI (iZ x2)), some (aR (some (70, 0, 0))), none], [], am_hp σ, t) Q := by
  refine w_s (c' := (1, [some (aR (some (1, 0, 0))), some (aI (iZ x1)), some (aI (iZ x2)), some (aR (some (70, 0, 0))), none], [aR (some (70, 0, 0))], am_hp σ, t)) rfl rfl ?_
  refine w_psh rfl zc_0 rfl ?_
  refine w_s (c' := (3, [some (aR (some (1, 0, 0))), some (aI (iZ x1)), some (aI (iZ x2)), some (aR (some (70, 0, 0))), none], [aR (some (1, 0, 0)), aI (iZ 0), aR (some (70, 0, 0))], am_hp σ, t)) rfl rfl ?_
  refine w_s (c' := (4, [some (aR (some (1, 0, 0))), some (aI (iZ x1)), some (aI (iZ x2)), some (aR (some (70, 0, 0))), none], [aI (iZ x1), aR (some (1, 0, 0)), aI (iZ 0), aR (some (70, 0, 0))], am_hp σ, t)) rfl rfl ?_
  refine w_s (c' := (5, [some (aR (some (1, 0, 0))), some (aI (iZ x1)), some (aI (iZ x2)), some (aR (some (70, 0, 0))), none], [aI (iZ x2), aI (iZ x1), aR (some (1, 0, 0)), aI (iZ 0), aR (some (70, 0, 0))], am_hp σ, t)) rfl rfl ?_
  refine w_c0 (c' := (8, [some (aR (some (1, 0, 0))), some (aI (iZ x1)), some (aI (iZ x2)), some (aR (some (70, 0, 0))), none], [aI (iZ r1), aI (iZ 0), aR (some (70, 0, 0))], am_hp σ1, t)) rfl rfl (rcv_of (hp_1 _ 0)) rfl c1 (Nat.le_refl _) rfl ?_
  refine w_i2l rfl rfl h2 ?_
  refine w_las rfl (mk_70 _ 0 0) (by decide) rfl rfl rfl ?_
  refine w_s (c' := (17, [some (aR (some (1, 0, 0))), some (aI (iZ x1)), some (aI (iZ x2)), some (aR (some (70, 0, 0))), none], [], am_hp ((sJ σ1 (70, 0, 0) (up (σ1.2.1 (70, 0, 0)) (0 : Int).toNat r1))), t)) rfl rfl ?_
  exact w3

theorem bh_L_entryStart_0_2 {x1 : Int} {x2 : Int} {σ σ1 : SG} {t t' : KT} (c1 : Ca d 102 [aR (some (1, 0, 0)), aI (iZ x1), aI (iZ x2)] (am_hp σ) t (.inr 2, am_hp σ1, t')) (w2 : Wp k_L_entryStart d (15, [some (aR (some (1, 0, 0))), some (aI (iZ x1)), some (aI (iZ x2)), some (aR (some (70, 0, 0))), none], [], am_hp σ1, t') Q) : Wp k_L_entryStart d (0, [some (aR (some (1, 0, 0))), some (aI (iZ x1)), some (aI (iZ x2)), some (aR (some (70, 0, 0))), none], [], am_hp σ, t) Q := by
  refine w_s (c' := (1, [some (aR (some (1, 0, 0))), some (aI (iZ x1)), some (aI (iZ x2)), some (aR (some (70, 0, 0))), none], [aR (some (70, 0, 0))], am_hp σ, t)) rfl rfl ?_
  refine w_psh rfl zc_0 rfl ?_
  refine w_s (c' := (3, [some (aR (some (1, 0, 0))), some (aI (iZ x1)), some (aI (iZ x2)), some (aR (some (70, 0, 0))), none], [aR (some (1, 0, 0)), aI (iZ 0), aR (some (70, 0, 0))], am_hp σ, t)) rfl rfl ?_
  refine w_s (c' := (4, [some (aR (some (1, 0, 0))), some (aI (iZ x1)), some (aI (iZ x2)), some (aR (some (70, 0, 0))), none], [aI (iZ x1), aR (some (1, 0, 0)), aI (iZ 0), aR (some (70, 0, 0))], am_hp σ, t)) rfl rfl ?_
  refine w_s (c' := (5, [some (aR (some (1, 0, 0))), some (aI (iZ x1)), some (aI (iZ x2)), some (aR (some (70, 0, 0))), none], [aI (iZ x2), aI (iZ x1), aR (some (1, 0, 0)), aI (iZ 0), aR (some (70, 0, 0))], am_hp σ, t)) rfl rfl ?_
  exact w_h rfl rfl (rcv_of (hp_1 _ 0)) rfl c1 (Nat.le_refl _) rfl rfl rfl w2

theorem e_L_entryStart {x1 : Int} {x2 : Int} {h : AH} {t : KT} {d : Nat} {P : RS → Prop} (w : Wp k_L_entryStart d (0, [some (aR (some (1, 0, 0))), some (aI (iZ x1)), some (aI (iZ x2)), some (aR (some (70, 0, 0))), none], [], h, t) P) : ∃ r, Ca (d + 1) 355 [aR (some (1, 0, 0)), aI (iZ x1), aI (iZ x2), aR (some (70, 0, 0))] h t r ∧ P r := ca_W rfl rfl rfl rfl w

theorem b_L_entryStart_15 {x1 : Int} {x2 : Int} {σ : SG} {t : KT} (q1 : Q (.inl (some (aI (iZ 1))), am_hp σ, t)) : Wp k_L_entryStart d (15, [some (aR (some (1, 0, 0))), some (aI (iZ x1)), some (aI (iZ x2)), some (aR (some (70, 0, 0))), none], [], am_hp σ, t) Q := by
  refine w_psh rfl zc_1 rfl ?_
  exact w_ret rfl rfl q1

theorem b_L_entryStart_17 {x1 : Int} {x2 : Int} {σ : SG} {t : KT} (q1 : Q (.inl (some (aI (iZ 0))), am_hp σ, t)) : Wp k_L_entryStart d (17, [some (aR (some (1, 0, 0))), some (aI (iZ x1)), some (aI (iZ x2)), some (aR (some (70, 0, 0))), none], [], am_hp σ, t) Q := by
  refine w_psh rfl zc_0 rfl ?_
  exact w_ret rfl rfl q1

theorem b_L_entrySum_0 {x1 : Int} {x2 : Int} {r1 : Int} {σ σ1 : SG} {t : KT} (c1 : Ca d 103 [aR (some (1, 0, 0)), aI (iZ x1), aI (iZ x2)] (am_hp σ) t (.inl (some (aL (jZ r1))), am_hp σ1, t)) (w2 : Wp k_L_entrySum d (16, [some (aR (some (1, 0, 0))), some (aI (iZ x1)), some (aI (iZ x2)), some (aR (some (70, 0, 0))), none], [], am_hp ((sJ σ1 (70, 0, 0) (up (σ1.2.1 (70, 0, 0)) (0 : Int).toNat r1))), t) Q) : Wp k_L_entrySum d (0, [some (aR (some (1, 0, 0))), some (aI (iZ x1)), some (aI (iZ x2)), some (aR (some (70, 0, 0))), none], [], am_hp σ, t) Q := by
  refine w_s (c' := (1, [some (aR (some (1, 0, 0))), some (aI (iZ x1)), some (aI (iZ x2)), some (aR (some (70, 0, 0))), none], [aR (some (70, 0, 0))], am_hp σ, t)) rfl rfl ?_
  refine w_psh rfl zc_0 rfl ?_
  refine w_s (c' := (3, [some (aR (some (1, 0, 0))), some (aI (iZ x1)), some (aI (iZ x2)), some (aR (some (70, 0, 0))), none], [aR (some (1, 0, 0)), aI (iZ 0), aR (some (70, 0, 0))], am_hp σ, t)) rfl rfl ?_
  refine w_s (c' := (4, [some (aR (some (1, 0, 0))), some (aI (iZ x1)), some (aI (iZ x2)), some (aR (some (70, 0, 0))), none], [aI (iZ x1), aR (some (1, 0, 0)), aI (iZ 0), aR (some (70, 0, 0))], am_hp σ, t)) rfl rfl ?_
  refine w_s (c' := (5, [some (aR (some (1, 0, 0))), some (aI (iZ x1)), some (aI (iZ x2)), some (aR (some (70, 0, 0))), none], [aI (iZ x2), aI (iZ x1), aR (some (1, 0, 0)), aI (iZ 0), aR (some (70, 0, 0))], am_hp σ, t)) rfl rfl ?_
  refine w_c0 (c' := (8, [some (aR (some (1, 0, 0))), some (aI (iZ x1)), some (aI (iZ x2)), some (aR (some (70, 0, 0))), none], [aL (jZ r1), aI (iZ 0), aR (some (70, 0, 0))], am_hp σ1, t)) rfl rfl (rcv_of (hp_1 _ 0)) rfl c1 (Nat.le_refl _) rfl ?_
  refine w_las rfl (mk_70 _ 0 0) (by decide) rfl rfl rfl ?_
  refine w_s (c' := (16, [some (aR (some (1, 0, 0))), some (aI (iZ x1)), some (aI (iZ x2)), some (aR (some (70, 0, 0))), none], [], am_hp ((sJ σ1 (70, 0, 0) (up (σ1.2.1 (70, 0, 0)) (0 : Int).toNat r1))), t)) rfl rfl ?_
  exact w2

theorem bh_L_entrySum_0_2 {x1 : Int} {x2 : Int} {σ σ1 : SG} {t t' : KT} (c1 : Ca d 103 [aR (some (1, 0, 0)), aI (iZ x1), aI (iZ x2)] (am_hp σ) t (.inr 2, am_hp σ1, t')) (w2 : Wp k_L_entrySum d (14, [some (aR (some (1, 0, 0))), some (aI (iZ x1)), some (aI (iZ x2)), some (aR (some (70, 0, 0))), none], [], am_hp σ1, t') Q) : Wp k_L_entrySum d (0, [some (aR (some (1, 0, 0))), some (aI (iZ x1)), some (aI (iZ x2)), some (aR (some (70, 0, 0))), none], [], am_hp σ, t) Q := by
  refine w_s (c' := (1, [some (aR (some (1, 0, 0))), some (aI (iZ x1)), some (aI (iZ x2)), some (aR (some (70, 0, 0))), none], [aR (some (70, 0, 0))], am_hp σ, t)) rfl rfl ?_
  refine w_psh rfl zc_0 rfl ?_
  refine w_s (c' := (3, [some (aR (some (1, 0, 0))), some (aI (iZ x1)), some (aI (iZ x2)), some (aR (some (70, 0, 0))), none], [aR (some (1, 0, 0)), aI (iZ 0), aR (some (70, 0, 0))], am_hp σ, t)) rfl rfl ?_
  refine w_s (c' := (4, [some (aR (some (1, 0, 0))), some (aI (iZ x1)), some (aI (iZ x2)), some (aR (some (70, 0, 0))), none], [aI (iZ x1), aR (some (1, 0, 0)), aI (iZ 0), aR (some (70, 0, 0))], am_hp σ, t)) rfl rfl ?_
  refine w_s (c' := (5, [some (aR (some (1, 0, 0))), some (aI (iZ x1)), some (aI (iZ x2)), some (aR (some (70, 0, 0))), none], [aI (iZ x2), aI (iZ x1), aR (some (1, 0, 0)), aI (iZ 0), aR (some (70, 0, 0))], am_hp σ, t)) rfl rfl ?_
  exact w_h rfl rfl (rcv_of (hp_1 _ 0)) rfl c1 (Nat.le_refl _) rfl rfl rfl w2

theorem e_L_entrySum {x1 : Int} {x2 : Int} {h : AH} {t : KT} {d : Nat} {P : RS → Prop} (w : Wp k_L_entrySum d (0, [some (aR (some (1, 0, 0))), some (aI (iZ x1)), some (aI (iZ x2)), some (aR (some (70, 0, 0))), none], [], h, t) P) : ∃ r, Ca (d + 1) 356 [aR (some (1, 0, 0)), aI (iZ x1), aI (iZ x2), aR (some (70, 0, 0))] h t r ∧ P r := ca_W rfl rfl rfl rfl w

theorem b_L_entrySum_14 {x1 : Int} {x2 : Int} {σ : SG} {t : KT} (q1 : Q (.inl (some (aI (iZ 1))), am_hp σ, t)) : Wp k_L_entrySum d (14, [some (aR (some (1, 0, 0))), some (aI (iZ x1)), some (aI (iZ x2)), some (aR (some (70, 0, 0))), none], [], am_hp σ, t) Q := by
  refine w_psh rfl zc_1 rfl ?_
  exact w_ret rfl rfl q1

theorem b_L_entrySum_16 {x1 : Int} {x2 : Int} {σ : SG} {t : KT} (q1 : Q (.inl (some (aI (iZ 0))), am_hp σ, t)) : Wp k_L_entrySum d (16, [some (aR (some (1, 0, 0))), some (aI (iZ x1)), some (aI (iZ x2)), some (aR (some (70, 0, 0))), none], [], am_hp σ, t) Q := by
  refine w_psh rfl zc_0 rfl ?_
  exact w_ret rfl rfl q1

theorem b_L_why_0 {x1 : Int} {x2 : Int} {x3 : Int} {r1 : Int} {σ σ1 : SG} {t : KT} (c1 : Ca d 104 [aR (some (1, 0, 0)), aI (iZ x1), aI (iZ x2), aI (iZ x3)] (am_hp σ) t (.inl (some (aI (iZ r1))), am_hp σ1, t)) (h2 : -2147483648 ≤ r1 ∧ r1 < 2147483648) (w3 : Wp k_L_why d (19, [some (aR (some (1, 0, 0))), some (aI (iZ x1)), some (aI (iZ x2)), some (aI (iZ x3)), some (aR (some (70, 0, 0))), none], [], am_hp ((sJ σ1 (70, 0, 0) (up (σ1.2.1 (70, 0, 0)) (0 : Int).toNat r1))), t) Q) : Wp k_L_why d (0, [some (aR (some (1, 0, 0))), some (aI (iZ x1)), some (aI (iZ x2)), some (aI (iZ x3)), some (aR (some (70, 0, 0))), none], [], am_hp σ, t) Q := by
  refine w_s (c' := (2, [some (aR (some (1, 0, 0))), some (aI (iZ x1)), some (aI (iZ x2)), some (aI (iZ x3)), some (aR (some (70, 0, 0))), none], [aR (some (70, 0, 0))], am_hp σ, t)) rfl rfl ?_
  refine w_psh rfl zc_0 rfl ?_
  refine w_s (c' := (4, [some (aR (some (1, 0, 0))), some (aI (iZ x1)), some (aI (iZ x2)), some (aI (iZ x3)), some (aR (some (70, 0, 0))), none], [aR (some (1, 0, 0)), aI (iZ 0), aR (some (70, 0, 0))], am_hp σ, t)) rfl rfl ?_
  refine w_s (c' := (5, [some (aR (some (1, 0, 0))), some (aI (iZ x1)), some (aI (iZ x2)), some (aI (iZ x3)), some (aR (some (70, 0, 0))), none], [aI (iZ x1), aR (some (1, 0, 0)), aI (iZ 0), aR (some (70, 0, 0))], am_hp σ, t)) rfl rfl ?_
  refine w_s (c' := (6, [some (aR (some (1, 0, 0))), some (aI (iZ x1)), some (aI (iZ x2)), some (aI (iZ x3)), some (aR (some (70, 0, 0))), none], [aI (iZ x2), aI (iZ x1), aR (some (1, 0, 0)), aI (iZ 0), aR (some (70, 0, 0))], am_hp σ, t)) rfl rfl ?_
  refine w_s (c' := (7, [some (aR (some (1, 0, 0))), some (aI (iZ x1)), some (aI (iZ x2)), some (aI (iZ x3)), some (aR (some (70, 0, 0))), none], [aI (iZ x3), aI (iZ x2), aI (iZ x1), aR (some (1, 0, 0)), aI (iZ 0), aR (some (70, 0, 0))], am_hp σ, t)) rfl rfl ?_
  refine w_c0 (c' := (10, [some (aR (some (1, 0, 0))), some (aI (iZ x1)), some (aI (iZ x2)), some (aI (iZ x3)), some (aR (some (70, 0, 0))), none], [aI (iZ r1), aI (iZ 0), aR (some (70, 0, 0))], am_hp σ1, t)) rfl rfl (rcv_of (hp_1 _ 0)) rfl c1 (Nat.le_refl _) rfl ?_
  refine w_i2l rfl rfl h2 ?_
  refine w_las rfl (mk_70 _ 0 0) (by decide) rfl rfl rfl ?_
  refine w_s (c' := (19, [some (aR (some (1, 0, 0))), some (aI (iZ x1)), some (aI (iZ x2)), some (aI (iZ x3)), some (aR (some (70, 0, 0))), none], [], am_hp ((sJ σ1 (70, 0, 0) (up (σ1.2.1 (70, 0, 0)) (0 : Int).toNat r1))), t)) rfl rfl ?_
  exact w3

theorem bh_L_why_0_2 {x1 : Int} {x2 : Int} {x3 : Int} {σ σ1 : SG} {t t' : KT} (c1 : Ca d 104 [aR (some (1, 0, 0)), aI (iZ x1), aI (iZ x2), aI (iZ x3)] (am_hp σ) t (.inr 2, am_hp σ1, t')) (w2 : Wp k_L_why d (17, [some (aR (some (1, 0, 0))), some (aI (iZ x1)), some (aI (iZ x2)), some (aI (iZ x3)), some (aR (some (70, 0, 0))), none], [], am_hp σ1, t') Q) : Wp k_L_why d (0, [some (aR (some (1, 0, 0))), some (aI (iZ x1)), some (aI (iZ x2)), some (aI (iZ x3)), some (aR (some (70, 0, 0))), none], [], am_hp σ, t) Q := by
  refine w_s (c' := (2, [some (aR (some (1, 0, 0))), some (aI (iZ x1)), some (aI (iZ x2)), some (aI (iZ x3)), some (aR (some (70, 0, 0))), none], [aR (some (70, 0, 0))], am_hp σ, t)) rfl rfl ?_
  refine w_psh rfl zc_0 rfl ?_
  refine w_s (c' := (4, [some (aR (some (1, 0, 0))), some (aI (iZ x1)), some (aI (iZ x2)), some (aI (iZ x3)), some (aR (some (70, 0, 0))), none], [aR (some (1, 0, 0)), aI (iZ 0), aR (some (70, 0, 0))], am_hp σ, t)) rfl rfl ?_
  refine w_s (c' := (5, [some (aR (some (1, 0, 0))), some (aI (iZ x1)), some (aI (iZ x2)), some (aI (iZ x3)), some (aR (some (70, 0, 0))), none], [aI (iZ x1), aR (some (1, 0, 0)), aI (iZ 0), aR (some (70, 0, 0))], am_hp σ, t)) rfl rfl ?_
  refine w_s (c' := (6, [some (aR (some (1, 0, 0))), some (aI (iZ x1)), some (aI (iZ x2)), some (aI (iZ x3)), some (aR (some (70, 0, 0))), none], [aI (iZ x2), aI (iZ x1), aR (some (1, 0, 0)), aI (iZ 0), aR (some (70, 0, 0))], am_hp σ, t)) rfl rfl ?_
  refine w_s (c' := (7, [some (aR (some (1, 0, 0))), some (aI (iZ x1)), some (aI (iZ x2)), some (aI (iZ x3)), some (aR (some (70, 0, 0))), none], [aI (iZ x3), aI (iZ x2), aI (iZ x1), aR (some (1, 0, 0)), aI (iZ 0), aR (some (70, 0, 0))], am_hp σ, t)) rfl rfl ?_
  exact w_h rfl rfl (rcv_of (hp_1 _ 0)) rfl c1 (Nat.le_refl _) rfl rfl rfl w2

theorem e_L_why {x1 : Int} {x2 : Int} {x3 : Int} {h : AH} {t : KT} {d : Nat} {P : RS → Prop} (w : Wp k_L_why d (0, [some (aR (some (1, 0, 0))), some (aI (iZ x1)), some (aI (iZ x2)), some (aI (iZ x3)), some (aR (some (70, 0, 0))), none], [], h, t) P) : ∃ r, Ca (d + 1) 357 [aR (some (1, 0, 0)), aI (iZ x1), aI (iZ x2), aI (iZ x3), aR (some (70, 0, 0))] h t r ∧ P r := ca_W rfl rfl rfl rfl w

theorem b_L_why_17 {x1 : Int} {x2 : Int} {x3 : Int} {σ : SG} {t : KT} (q1 : Q (.inl (some (aI (iZ 1))), am_hp σ, t)) : Wp k_L_why d (17, [some (aR (some (1, 0, 0))), some (aI (iZ x1)), some (aI (iZ x2)), some (aI (iZ x3)), some (aR (some (70, 0, 0))), none], [], am_hp σ, t) Q := by
  refine w_psh rfl zc_1 rfl ?_
  exact w_ret rfl rfl q1

theorem b_L_why_19 {x1 : Int} {x2 : Int} {x3 : Int} {σ : SG} {t : KT} (q1 : Q (.inl (some (aI (iZ 0))), am_hp σ, t)) : Wp k_L_why d (19, [some (aR (some (1, 0, 0))), some (aI (iZ x1)), some (aI (iZ x2)), some (aI (iZ x3)), some (aR (some (70, 0, 0))), none], [], am_hp σ, t) Q := by
  refine w_psh rfl zc_0 rfl ?_
  exact w_ret rfl rfl q1

theorem b_L_read_0 {x1 : Int} {x2 : Int} {r1 : Int} {σ σ1 : SG} {t : KT} (c1 : Ca d 107 [aR (some (1, 0, 0)), aI (iZ x1), aI (iZ x2)] (am_hp σ) t (.inl (some (aI (iZ r1))), am_hp σ1, t)) (h2 : -2147483648 ≤ r1 ∧ r1 < 2147483648) (w3 : Wp k_L_read d (17, [some (aR (some (1, 0, 0))), some (aI (iZ x1)), some (aI (iZ x2)), some (aR (some (70, 0, 0))), none], [], am_hp ((sJ σ1 (70, 0, 0) (up (σ1.2.1 (70, 0, 0)) (0 : Int).toNat r1))), t) Q) : Wp k_L_read d (0, [some (aR (some (1, 0, 0))), some (aI (iZ x1)), some (aI (iZ x2)), some (aR (some (70, 0, 0))), none], [], am_hp σ, t) Q := by
  refine w_s (c' := (1, [some (aR (some (1, 0, 0))), some (aI (iZ x1)), some (aI (iZ x2)), some (aR (some (70, 0, 0))), none], [aR (some (70, 0, 0))], am_hp σ, t)) rfl rfl ?_
  refine w_psh rfl zc_0 rfl ?_
  refine w_s (c' := (3, [some (aR (some (1, 0, 0))), some (aI (iZ x1)), some (aI (iZ x2)), some (aR (some (70, 0, 0))), none], [aR (some (1, 0, 0)), aI (iZ 0), aR (some (70, 0, 0))], am_hp σ, t)) rfl rfl ?_
  refine w_s (c' := (4, [some (aR (some (1, 0, 0))), some (aI (iZ x1)), some (aI (iZ x2)), some (aR (some (70, 0, 0))), none], [aI (iZ x1), aR (some (1, 0, 0)), aI (iZ 0), aR (some (70, 0, 0))], am_hp σ, t)) rfl rfl ?_
  refine w_s (c' := (5, [some (aR (some (1, 0, 0))), some (aI (iZ x1)), some (aI (iZ x2)), some (aR (some (70, 0, 0))), none], [aI (iZ x2), aI (iZ x1), aR (some (1, 0, 0)), aI (iZ 0), aR (some (70, 0, 0))], am_hp σ, t)) rfl rfl ?_
  refine w_c0 (c' := (8, [some (aR (some (1, 0, 0))), some (aI (iZ x1)), some (aI (iZ x2)), some (aR (some (70, 0, 0))), none], [aI (iZ r1), aI (iZ 0), aR (some (70, 0, 0))], am_hp σ1, t)) rfl rfl (rcv_of (hp_1 _ 0)) rfl c1 (Nat.le_refl _) rfl ?_
  refine w_i2l rfl rfl h2 ?_
  refine w_las rfl (mk_70 _ 0 0) (by decide) rfl rfl rfl ?_
  refine w_s (c' := (17, [some (aR (some (1, 0, 0))), some (aI (iZ x1)), some (aI (iZ x2)), some (aR (some (70, 0, 0))), none], [], am_hp ((sJ σ1 (70, 0, 0) (up (σ1.2.1 (70, 0, 0)) (0 : Int).toNat r1))), t)) rfl rfl ?_
  exact w3

theorem bh_L_read_0_2 {x1 : Int} {x2 : Int} {σ σ1 : SG} {t t' : KT} (c1 : Ca d 107 [aR (some (1, 0, 0)), aI (iZ x1), aI (iZ x2)] (am_hp σ) t (.inr 2, am_hp σ1, t')) (w2 : Wp k_L_read d (15, [some (aR (some (1, 0, 0))), some (aI (iZ x1)), some (aI (iZ x2)), some (aR (some (70, 0, 0))), none], [], am_hp σ1, t') Q) : Wp k_L_read d (0, [some (aR (some (1, 0, 0))), some (aI (iZ x1)), some (aI (iZ x2)), some (aR (some (70, 0, 0))), none], [], am_hp σ, t) Q := by
  refine w_s (c' := (1, [some (aR (some (1, 0, 0))), some (aI (iZ x1)), some (aI (iZ x2)), some (aR (some (70, 0, 0))), none], [aR (some (70, 0, 0))], am_hp σ, t)) rfl rfl ?_
  refine w_psh rfl zc_0 rfl ?_
  refine w_s (c' := (3, [some (aR (some (1, 0, 0))), some (aI (iZ x1)), some (aI (iZ x2)), some (aR (some (70, 0, 0))), none], [aR (some (1, 0, 0)), aI (iZ 0), aR (some (70, 0, 0))], am_hp σ, t)) rfl rfl ?_
  refine w_s (c' := (4, [some (aR (some (1, 0, 0))), some (aI (iZ x1)), some (aI (iZ x2)), some (aR (some (70, 0, 0))), none], [aI (iZ x1), aR (some (1, 0, 0)), aI (iZ 0), aR (some (70, 0, 0))], am_hp σ, t)) rfl rfl ?_
  refine w_s (c' := (5, [some (aR (some (1, 0, 0))), some (aI (iZ x1)), some (aI (iZ x2)), some (aR (some (70, 0, 0))), none], [aI (iZ x2), aI (iZ x1), aR (some (1, 0, 0)), aI (iZ 0), aR (some (70, 0, 0))], am_hp σ, t)) rfl rfl ?_
  exact w_h rfl rfl (rcv_of (hp_1 _ 0)) rfl c1 (Nat.le_refl _) rfl rfl rfl w2

theorem e_L_read {x1 : Int} {x2 : Int} {h : AH} {t : KT} {d : Nat} {P : RS → Prop} (w : Wp k_L_read d (0, [some (aR (some (1, 0, 0))), some (aI (iZ x1)), some (aI (iZ x2)), some (aR (some (70, 0, 0))), none], [], h, t) P) : ∃ r, Ca (d + 1) 358 [aR (some (1, 0, 0)), aI (iZ x1), aI (iZ x2), aR (some (70, 0, 0))] h t r ∧ P r := ca_W rfl rfl rfl rfl w

theorem b_L_read_15 {x1 : Int} {x2 : Int} {σ : SG} {t : KT} (q1 : Q (.inl (some (aI (iZ 1))), am_hp σ, t)) : Wp k_L_read d (15, [some (aR (some (1, 0, 0))), some (aI (iZ x1)), some (aI (iZ x2)), some (aR (some (70, 0, 0))), none], [], am_hp σ, t) Q := by
  refine w_psh rfl zc_1 rfl ?_
  exact w_ret rfl rfl q1

theorem b_L_read_17 {x1 : Int} {x2 : Int} {σ : SG} {t : KT} (q1 : Q (.inl (some (aI (iZ 0))), am_hp σ, t)) : Wp k_L_read d (17, [some (aR (some (1, 0, 0))), some (aI (iZ x1)), some (aI (iZ x2)), some (aR (some (70, 0, 0))), none], [], am_hp σ, t) Q := by
  refine w_psh rfl zc_0 rfl ?_
  exact w_ret rfl rfl q1

theorem b_L_sum_0 {x1 : Int} {x2 : Int} {x3 : Int} {r1 : Int} {σ σ1 : SG} {t : KT} (c1 : Ca d 108 [aR (some (1, 0, 0)), aI (iZ x1), aI (iZ x2), aI (iZ x3)] (am_hp σ) t (.inl (some (aL (jZ r1))), am_hp σ1, t)) (w2 : Wp k_L_sum d (22, [some (aR (some (1, 0, 0))), some (aI (iZ x1)), some (aI (iZ x2)), some (aI (iZ x3)), some (aR (some (70, 0, 0))), none], [], am_hp ((sJ σ1 (70, 0, 0) (up (σ1.2.1 (70, 0, 0)) (0 : Int).toNat r1))), t) Q) : Wp k_L_sum d (0, [some (aR (some (1, 0, 0))), some (aI (iZ x1)), some (aI (iZ x2)), some (aI (iZ x3)), some (aR (some (70, 0, 0))), none], [], am_hp σ, t) Q := by
  refine w_s (c' := (2, [some (aR (some (1, 0, 0))), some (aI (iZ x1)), some (aI (iZ x2)), some (aI (iZ x3)), some (aR (some (70, 0, 0))), none], [aR (some (70, 0, 0))], am_hp σ, t)) rfl rfl ?_
  refine w_psh rfl zc_0 rfl ?_
  refine w_s (c' := (4, [some (aR (some (1, 0, 0))), some (aI (iZ x1)), some (aI (iZ x2)), some (aI (iZ x3)), some (aR (some (70, 0, 0))), none], [aR (some (1, 0, 0)), aI (iZ 0), aR (some (70, 0, 0))], am_hp σ, t)) rfl rfl ?_
  refine w_s (c' := (5, [some (aR (some (1, 0, 0))), some (aI (iZ x1)), some (aI (iZ x2)), some (aI (iZ x3)), some (aR (some (70, 0, 0))), none], [aI (iZ x1), aR (some (1, 0, 0)), aI (iZ 0), aR (some (70, 0, 0))], am_hp σ, t)) rfl rfl ?_
  refine w_s (c' := (6, [some (aR (some (1, 0, 0))), some (aI (iZ x1)), some (aI (iZ x2)), some (aI (iZ x3)), some (aR (some (70, 0, 0))), none], [aI (iZ x2), aI (iZ x1), aR (some (1, 0, 0)), aI (iZ 0), aR (some (70, 0, 0))], am_hp σ, t)) rfl rfl ?_
  refine w_s (c' := (7, [some (aR (some (1, 0, 0))), some (aI (iZ x1)), some (aI (iZ x2)), some (aI (iZ x3)), some (aR (some (70, 0, 0))), none], [aI (iZ x3), aI (iZ x2), aI (iZ x1), aR (some (1, 0, 0)), aI (iZ 0), aR (some (70, 0, 0))], am_hp σ, t)) rfl rfl ?_
  refine w_c0 (c' := (10, [some (aR (some (1, 0, 0))), some (aI (iZ x1)), some (aI (iZ x2)), some (aI (iZ x3)), some (aR (some (70, 0, 0))), none], [aL (jZ r1), aI (iZ 0), aR (some (70, 0, 0))], am_hp σ1, t)) rfl rfl (rcv_of (hp_1 _ 0)) rfl c1 (Nat.le_refl _) rfl ?_
  refine w_las rfl (mk_70 _ 0 0) (by decide) rfl rfl rfl ?_
  refine w_s (c' := (22, [some (aR (some (1, 0, 0))), some (aI (iZ x1)), some (aI (iZ x2)), some (aI (iZ x3)), some (aR (some (70, 0, 0))), none], [], am_hp ((sJ σ1 (70, 0, 0) (up (σ1.2.1 (70, 0, 0)) (0 : Int).toNat r1))), t)) rfl rfl ?_
  exact w2

theorem bh_L_sum_0_2 {x1 : Int} {x2 : Int} {x3 : Int} {σ σ1 : SG} {t t' : KT} (c1 : Ca d 108 [aR (some (1, 0, 0)), aI (iZ x1), aI (iZ x2), aI (iZ x3)] (am_hp σ) t (.inr 2, am_hp σ1, t')) (w2 : Wp k_L_sum d (16, [some (aR (some (1, 0, 0))), some (aI (iZ x1)), some (aI (iZ x2)), some (aI (iZ x3)), some (aR (some (70, 0, 0))), none], [], am_hp σ1, t') Q) : Wp k_L_sum d (0, [some (aR (some (1, 0, 0))), some (aI (iZ x1)), some (aI (iZ x2)), some (aI (iZ x3)), some (aR (some (70, 0, 0))), none], [], am_hp σ, t) Q := by
  refine w_s (c' := (2, [some (aR (some (1, 0, 0))), some (aI (iZ x1)), some (aI (iZ x2)), some (aI (iZ x3)), some (aR (some (70, 0, 0))), none], [aR (some (70, 0, 0))], am_hp σ, t)) rfl rfl ?_
  refine w_psh rfl zc_0 rfl ?_
  refine w_s (c' := (4, [some (aR (some (1, 0, 0))), some (aI (iZ x1)), some (aI (iZ x2)), some (aI (iZ x3)), some (aR (some (70, 0, 0))), none], [aR (some (1, 0, 0)), aI (iZ 0), aR (some (70, 0, 0))], am_hp σ, t)) rfl rfl ?_
  refine w_s (c' := (5, [some (aR (some (1, 0, 0))), some (aI (iZ x1)), some (aI (iZ x2)), some (aI (iZ x3)), some (aR (some (70, 0, 0))), none], [aI (iZ x1), aR (some (1, 0, 0)), aI (iZ 0), aR (some (70, 0, 0))], am_hp σ, t)) rfl rfl ?_
  refine w_s (c' := (6, [some (aR (some (1, 0, 0))), some (aI (iZ x1)), some (aI (iZ x2)), some (aI (iZ x3)), some (aR (some (70, 0, 0))), none], [aI (iZ x2), aI (iZ x1), aR (some (1, 0, 0)), aI (iZ 0), aR (some (70, 0, 0))], am_hp σ, t)) rfl rfl ?_
  refine w_s (c' := (7, [some (aR (some (1, 0, 0))), some (aI (iZ x1)), some (aI (iZ x2)), some (aI (iZ x3)), some (aR (some (70, 0, 0))), none], [aI (iZ x3), aI (iZ x2), aI (iZ x1), aR (some (1, 0, 0)), aI (iZ 0), aR (some (70, 0, 0))], am_hp σ, t)) rfl rfl ?_
  exact w_h rfl rfl (rcv_of (hp_1 _ 0)) rfl c1 (Nat.le_refl _) rfl rfl rfl w2

theorem bh_L_sum_0_1 {x1 : Int} {x2 : Int} {x3 : Int} {σ σ1 : SG} {t t' : KT} (c1 : Ca d 108 [aR (some (1, 0, 0)), aI (iZ x1), aI (iZ x2), aI (iZ x3)] (am_hp σ) t (.inr 1, am_hp σ1, t')) (w2 : Wp k_L_sum d (20, [some (aR (some (1, 0, 0))), some (aI (iZ x1)), some (aI (iZ x2)), some (aI (iZ x3)), some (aR (some (70, 0, 0))), none], [], am_hp σ1, t') Q) : Wp k_L_sum d (0, [some (aR (some (1, 0, 0))), some (aI (iZ x1)), some (aI (iZ x2)), some (aI (iZ x3)), some (aR (some (70, 0, 0))), none], [], am_hp σ, t) Q := by
  refine w_s (c' := (2, [some (aR (some (1, 0, 0))), some (aI (iZ x1)), some (aI (iZ x2)), some (aI (iZ x3)), some (aR (some (70, 0, 0))), none], [aR (some (70, 0, 0))], am_hp σ, t)) rfl rfl ?_
  refine w_psh rfl zc_0 rfl ?_
  refine w_s (c' := (4, [some (aR (some (1, 0, 0))), some (aI (iZ x1)), some (aI (iZ x2)), some (aI (iZ x3)), some (aR (some (70, 0, 0))), none], [aR (some (1, 0, 0)), aI (iZ 0), aR (some (70, 0, 0))], am_hp σ, t)) rfl rfl ?_
  refine w_s (c' := (5, [some (aR (some (1, 0, 0))), some (aI (iZ x1)), some (aI (iZ x2)), some (aI (iZ x3)), some (aR (some (70, 0, 0))), none], [aI (iZ x1), aR (some (1, 0, 0)), aI (iZ 0), aR (some (70, 0, 0))], am_hp σ, t)) rfl rfl ?_
  refine w_s (c' := (6, [some (aR (some (1, 0, 0))), some (aI (iZ x1)), some (aI (iZ x2)), some (aI (iZ x3)), some (aR (some (70, 0, 0))), none], [aI (iZ x2), aI (iZ x1), aR (some (1, 0, 0)), aI (iZ 0), aR (some (70, 0, 0))], am_hp σ, t)) rfl rfl ?_
  refine w_s (c' := (7, [some (aR (some (1, 0, 0))), some (aI (iZ x1)), some (aI (iZ x2)), some (aI (iZ x3)), some (aR (some (70, 0, 0))), none], [aI (iZ x3), aI (iZ x2), aI (iZ x1), aR (some (1, 0, 0)), aI (iZ 0), aR (some (70, 0, 0))], am_hp σ, t)) rfl rfl ?_
  exact w_h rfl rfl (rcv_of (hp_1 _ 0)) rfl c1 (Nat.le_refl _) rfl rfl rfl w2

theorem e_L_sum {x1 : Int} {x2 : Int} {x3 : Int} {h : AH} {t : KT} {d : Nat} {P : RS → Prop} (w : Wp k_L_sum d (0, [some (aR (some (1, 0, 0))), some (aI (iZ x1)), some (aI (iZ x2)), some (aI (iZ x3)), some (aR (some (70, 0, 0))), none], [], h, t) P) : ∃ r, Ca (d + 1) 359 [aR (some (1, 0, 0)), aI (iZ x1), aI (iZ x2), aI (iZ x3), aR (some (70, 0, 0))] h t r ∧ P r := ca_W rfl rfl rfl rfl w

theorem b_L_sum_16 {x1 : Int} {x2 : Int} {x3 : Int} {σ : SG} {t : KT} (q1 : Q (.inl (some (aI (iZ 1))), am_hp σ, t)) : Wp k_L_sum d (16, [some (aR (some (1, 0, 0))), some (aI (iZ x1)), some (aI (iZ x2)), some (aI (iZ x3)), some (aR (some (70, 0, 0))), none], [], am_hp σ, t) Q := by
  refine w_psh rfl zc_1 rfl ?_
  exact w_ret rfl rfl q1

theorem b_L_sum_20 {x1 : Int} {x2 : Int} {x3 : Int} {σ : SG} {t : KT} (q1 : Q (.inl (some (aI (iZ 2))), am_hp σ, t)) : Wp k_L_sum d (20, [some (aR (some (1, 0, 0))), some (aI (iZ x1)), some (aI (iZ x2)), some (aI (iZ x3)), some (aR (some (70, 0, 0))), none], [], am_hp σ, t) Q := by
  refine w_psh rfl zc_2 rfl ?_
  exact w_ret rfl rfl q1

theorem b_L_sum_22 {x1 : Int} {x2 : Int} {x3 : Int} {σ : SG} {t : KT} (q1 : Q (.inl (some (aI (iZ 0))), am_hp σ, t)) : Wp k_L_sum d (22, [some (aR (some (1, 0, 0))), some (aI (iZ x1)), some (aI (iZ x2)), some (aI (iZ x3)), some (aR (some (70, 0, 0))), none], [], am_hp σ, t) Q := by
  refine w_psh rfl zc_0 rfl ?_
  exact w_ret rfl rfl q1

theorem b_L_first_0 {x1 : Int} {x2 : Int} {r1 : Int} {σ σ1 : SG} {t : KT} (c1 : Ca d 109 [aR (some (1, 0, 0)), aI (iZ x1), aI (iZ x2)] (am_hp σ) t (.inl (some (aI (iZ r1))), am_hp σ1, t)) (h2 : -2147483648 ≤ r1 ∧ r1 < 2147483648) (w3 : Wp k_L_first d (17, [some (aR (some (1, 0, 0))), some (aI (iZ x1)), some (aI (iZ x2)), some (aR (some (70, 0, 0))), none], [], am_hp ((sJ σ1 (70, 0, 0) (up (σ1.2.1 (70, 0, 0)) (0 : Int).toNat r1))), t) Q) : Wp k_L_first d (0, [some (aR (some (1, 0, 0))), some (aI (iZ x1)), some (aI (iZ x2)), some (aR (some (70, 0, 0))), none], [], am_hp σ, t) Q := by
  refine w_s (c' := (1, [some (aR (some (1, 0, 0))), some (aI (iZ x1)), some (aI (iZ x2)), some (aR (some (70, 0, 0))), none], [aR (some (70, 0, 0))], am_hp σ, t)) rfl rfl ?_
  refine w_psh rfl zc_0 rfl ?_
  refine w_s (c' := (3, [some (aR (some (1, 0, 0))), some (aI (iZ x1)), some (aI (iZ x2)), some (aR (some (70, 0, 0))), none], [aR (some (1, 0, 0)), aI (iZ 0), aR (some (70, 0, 0))], am_hp σ, t)) rfl rfl ?_
  refine w_s (c' := (4, [some (aR (some (1, 0, 0))), some (aI (iZ x1)), some (aI (iZ x2)), some (aR (some (70, 0, 0))), none], [aI (iZ x1), aR (some (1, 0, 0)), aI (iZ 0), aR (some (70, 0, 0))], am_hp σ, t)) rfl rfl ?_
  refine w_s (c' := (5, [some (aR (some (1, 0, 0))), some (aI (iZ x1)), some (aI (iZ x2)), some (aR (some (70, 0, 0))), none], [aI (iZ x2), aI (iZ x1), aR (some (1, 0, 0)), aI (iZ 0), aR (some (70, 0, 0))], am_hp σ, t)) rfl rfl ?_
  refine w_c0 (c' := (8, [some (aR (some (1, 0, 0))), some (aI (iZ x1)), some (aI (iZ x2)), some (aR (some (70, 0, 0))), none], [aI (iZ r1), aI (iZ 0), aR (some (70, 0, 0))], am_hp σ1, t)) rfl rfl (rcv_of (hp_1 _ 0)) rfl c1 (Nat.le_refl _) rfl ?_
  refine w_i2l rfl rfl h2 ?_
  refine w_las rfl (mk_70 _ 0 0) (by decide) rfl rfl rfl ?_
  refine w_s (c' := (17, [some (aR (some (1, 0, 0))), some (aI (iZ x1)), some (aI (iZ x2)), some (aR (some (70, 0, 0))), none], [], am_hp ((sJ σ1 (70, 0, 0) (up (σ1.2.1 (70, 0, 0)) (0 : Int).toNat r1))), t)) rfl rfl ?_
  exact w3

theorem bh_L_first_0_2 {x1 : Int} {x2 : Int} {σ σ1 : SG} {t t' : KT} (c1 : Ca d 109 [aR (some (1, 0, 0)), aI (iZ x1), aI (iZ x2)] (am_hp σ) t (.inr 2, am_hp σ1, t')) (w2 : Wp k_L_first d (15, [some (aR (some (1, 0, 0))), some (aI (iZ x1)), some (aI (iZ x2)), some (aR (some (70, 0, 0))), none], [], am_hp σ1, t') Q) : Wp k_L_first d (0, [some (aR (some (1, 0, 0))), some (aI (iZ x1)), some (aI (iZ x2)), some (aR (some (70, 0, 0))), none], [], am_hp σ, t) Q := by
  refine w_s (c' := (1, [some (aR (some (1, 0, 0))), some (aI (iZ x1)), some (aI (iZ x2)), some (aR (some (70, 0, 0))), none], [aR (some (70, 0, 0))], am_hp σ, t)) rfl rfl ?_
  refine w_psh rfl zc_0 rfl ?_
  refine w_s (c' := (3, [some (aR (some (1, 0, 0))), some (aI (iZ x1)), some (aI (iZ x2)), some (aR (some (70, 0, 0))), none], [aR (some (1, 0, 0)), aI (iZ 0), aR (some (70, 0, 0))], am_hp σ, t)) rfl rfl ?_
  refine w_s (c' := (4, [some (aR (some (1, 0, 0))), some (aI (iZ x1)), some (aI (iZ x2)), some (aR (some (70, 0, 0))), none], [aI (iZ x1), aR (some (1, 0, 0)), aI (iZ 0), aR (some (70, 0, 0))], am_hp σ, t)) rfl rfl ?_
  refine w_s (c' := (5, [some (aR (some (1, 0, 0))), some (aI (iZ x1)), some (aI (iZ x2)), some (aR (some (70, 0, 0))), none], [aI (iZ x2), aI (iZ x1), aR (some (1, 0, 0)), aI (iZ 0), aR (some (70, 0, 0))], am_hp σ, t)) rfl rfl ?_
  exact w_h rfl rfl (rcv_of (hp_1 _ 0)) rfl c1 (Nat.le_refl _) rfl rfl rfl w2

theorem e_L_first {x1 : Int} {x2 : Int} {h : AH} {t : KT} {d : Nat} {P : RS → Prop} (w : Wp k_L_first d (0, [some (aR (some (1, 0, 0))), some (aI (iZ x1)), some (aI (iZ x2)), some (aR (some (70, 0, 0))), none], [], h, t) P) : ∃ r, Ca (d + 1) 360 [aR (some (1, 0, 0)), aI (iZ x1), aI (iZ x2), aR (some (70, 0, 0))] h t r ∧ P r := ca_W rfl rfl rfl rfl w

theorem b_L_first_15 {x1 : Int} {x2 : Int} {σ : SG} {t : KT} (q1 : Q (.inl (some (aI (iZ 1))), am_hp σ, t)) : Wp k_L_first d (15, [some (aR (some (1, 0, 0))), some (aI (iZ x1)), some (aI (iZ x2)), some (aR (some (70, 0, 0))), none], [], am_hp σ, t) Q := by
  refine w_psh rfl zc_1 rfl ?_
  exact w_ret rfl rfl q1

theorem b_L_first_17 {x1 : Int} {x2 : Int} {σ : SG} {t : KT} (q1 : Q (.inl (some (aI (iZ 0))), am_hp σ, t)) : Wp k_L_first d (17, [some (aR (some (1, 0, 0))), some (aI (iZ x1)), some (aI (iZ x2)), some (aR (some (70, 0, 0))), none], [], am_hp σ, t) Q := by
  refine w_psh rfl zc_0 rfl ?_
  exact w_ret rfl rfl q1

theorem b_L_many_0 {x1 : Int} {x2 : Int} {r1 : Int} {σ σ1 : SG} {t : KT} (c1 : Ca d 110 [aR (some (1, 0, 0)), aI (iZ x1), aI (iZ x2)] (am_hp σ) t (.inl (some (aI (iZ r1))), am_hp σ1, t)) (h2 : -2147483648 ≤ r1 ∧ r1 < 2147483648) (w3 : Wp k_L_many d (17, [some (aR (some (1, 0, 0))), some (aI (iZ x1)), some (aI (iZ x2)), some (aR (some (70, 0, 0))), none], [], am_hp ((sJ σ1 (70, 0, 0) (up (σ1.2.1 (70, 0, 0)) (0 : Int).toNat r1))), t) Q) : Wp k_L_many d (0, [some (aR (some (1, 0, 0))), some (aI (iZ x1)), some (aI (iZ x2)), some (aR (some (70, 0, 0))), none], [], am_hp σ, t) Q := by
  refine w_s (c' := (1, [some (aR (some (1, 0, 0))), some (aI (iZ x1)), some (aI (iZ x2)), some (aR (some (70, 0, 0))), none], [aR (some (70, 0, 0))], am_hp σ, t)) rfl rfl ?_
  refine w_psh rfl zc_0 rfl ?_
  refine w_s (c' := (3, [some (aR (some (1, 0, 0))), some (aI (iZ x1)), some (aI (iZ x2)), some (aR (some (70, 0, 0))), none], [aR (some (1, 0, 0)), aI (iZ 0), aR (some (70, 0, 0))], am_hp σ, t)) rfl rfl ?_
  refine w_s (c' := (4, [some (aR (some (1, 0, 0))), some (aI (iZ x1)), some (aI (iZ x2)), some (aR (some (70, 0, 0))), none], [aI (iZ x1), aR (some (1, 0, 0)), aI (iZ 0), aR (some (70, 0, 0))], am_hp σ, t)) rfl rfl ?_
  refine w_s (c' := (5, [some (aR (some (1, 0, 0))), some (aI (iZ x1)), some (aI (iZ x2)), some (aR (some (70, 0, 0))), none], [aI (iZ x2), aI (iZ x1), aR (some (1, 0, 0)), aI (iZ 0), aR (some (70, 0, 0))], am_hp σ, t)) rfl rfl ?_
  refine w_c0 (c' := (8, [some (aR (some (1, 0, 0))), some (aI (iZ x1)), some (aI (iZ x2)), some (aR (some (70, 0, 0))), none], [aI (iZ r1), aI (iZ 0), aR (some (70, 0, 0))], am_hp σ1, t)) rfl rfl (rcv_of (hp_1 _ 0)) rfl c1 (Nat.le_refl _) rfl ?_
  refine w_i2l rfl rfl h2 ?_
  refine w_las rfl (mk_70 _ 0 0) (by decide) rfl rfl rfl ?_
  refine w_s (c' := (17, [some (aR (some (1, 0, 0))), some (aI (iZ x1)), some (aI (iZ x2)), some (aR (some (70, 0, 0))), none], [], am_hp ((sJ σ1 (70, 0, 0) (up (σ1.2.1 (70, 0, 0)) (0 : Int).toNat r1))), t)) rfl rfl ?_
  exact w3

theorem bh_L_many_0_2 {x1 : Int} {x2 : Int} {σ σ1 : SG} {t t' : KT} (c1 : Ca d 110 [aR (some (1, 0, 0)), aI (iZ x1), aI (iZ x2)] (am_hp σ) t (.inr 2, am_hp σ1, t')) (w2 : Wp k_L_many d (15, [some (aR (some (1, 0, 0))), some (aI (iZ x1)), some (aI (iZ x2)), some (aR (some (70, 0, 0))), none], [], am_hp σ1, t') Q) : Wp k_L_many d (0, [some (aR (some (1, 0, 0))), some (aI (iZ x1)), some (aI (iZ x2)), some (aR (some (70, 0, 0))), none], [], am_hp σ, t) Q := by
  refine w_s (c' := (1, [some (aR (some (1, 0, 0))), some (aI (iZ x1)), some (aI (iZ x2)), some (aR (some (70, 0, 0))), none], [aR (some (70, 0, 0))], am_hp σ, t)) rfl rfl ?_
  refine w_psh rfl zc_0 rfl ?_
  refine w_s (c' := (3, [some (aR (some (1, 0, 0))), some (aI (iZ x1)), some (aI (iZ x2)), some (aR (some (70, 0, 0))), none], [aR (some (1, 0, 0)), aI (iZ 0), aR (some (70, 0, 0))], am_hp σ, t)) rfl rfl ?_
  refine w_s (c' := (4, [some (aR (some (1, 0, 0))), some (aI (iZ x1)), some (aI (iZ x2)), some (aR (some (70, 0, 0))), none], [aI (iZ x1), aR (some (1, 0, 0)), aI (iZ 0), aR (some (70, 0, 0))], am_hp σ, t)) rfl rfl ?_
  refine w_s (c' := (5, [some (aR (some (1, 0, 0))), some (aI (iZ x1)), some (aI (iZ x2)), some (aR (some (70, 0, 0))), none], [aI (iZ x2), aI (iZ x1), aR (some (1, 0, 0)), aI (iZ 0), aR (some (70, 0, 0))], am_hp σ, t)) rfl rfl ?_
  exact w_h rfl rfl (rcv_of (hp_1 _ 0)) rfl c1 (Nat.le_refl _) rfl rfl rfl w2

theorem e_L_many {x1 : Int} {x2 : Int} {h : AH} {t : KT} {d : Nat} {P : RS → Prop} (w : Wp k_L_many d (0, [some (aR (some (1, 0, 0))), some (aI (iZ x1)), some (aI (iZ x2)), some (aR (some (70, 0, 0))), none], [], h, t) P) : ∃ r, Ca (d + 1) 361 [aR (some (1, 0, 0)), aI (iZ x1), aI (iZ x2), aR (some (70, 0, 0))] h t r ∧ P r := ca_W rfl rfl rfl rfl w

theorem b_L_many_15 {x1 : Int} {x2 : Int} {σ : SG} {t : KT} (q1 : Q (.inl (some (aI (iZ 1))), am_hp σ, t)) : Wp k_L_many d (15, [some (aR (some (1, 0, 0))), some (aI (iZ x1)), some (aI (iZ x2)), some (aR (some (70, 0, 0))), none], [], am_hp σ, t) Q := by
  refine w_psh rfl zc_1 rfl ?_
  exact w_ret rfl rfl q1

theorem b_L_many_17 {x1 : Int} {x2 : Int} {σ : SG} {t : KT} (q1 : Q (.inl (some (aI (iZ 0))), am_hp σ, t)) : Wp k_L_many d (17, [some (aR (some (1, 0, 0))), some (aI (iZ x1)), some (aI (iZ x2)), some (aR (some (70, 0, 0))), none], [], am_hp σ, t) Q := by
  refine w_psh rfl zc_0 rfl ?_
  exact w_ret rfl rfl q1
end PCS
