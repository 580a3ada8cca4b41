/-! PIECES: L -/
set_option maxRecDepth 4000
section PCS
variable {d : Nat} {Q : RS → Prop}
theorem b_L_account_0 {x1 : Int} {r1 : Int} {σ σ1 : SG} {t : KT} (c1 : Ca d 132 [aR (some (1, 0, 0)), aI (iZ x1)] (am_hp σ) t (.inl (some (aI (iZ r1))), am_hp σ1, t)) (h2 : -2147483648 ≤ r1 ∧ r1 < 2147483648) (w3 : Wp k_L_account d (15, [some (aR (some (1, 0, 0))), some (aI (iZ x1)), some (aR (some (70, 0, 0))), none], [], am_hp ((sJ σ1 (70, 0, 0) (up (σ1.2.1 (70, 0, 0)) (0 : Int).toNat r1))), t) Q) : Wp k_L_account d (0, [some (aR (some (1, 0, 0))), some (aI (iZ x1)), some (aR (some (70, 0, 0))), none], [], am_hp σ, t) Q := by
  refine w_s (c' := (1, [some (aR (some (1, 0, 0))), some (aI (iZ x1)), some (aR (some (70, 0, 0))), none], [aR (some (70, 0, 0))], am_hp σ, t)) rfl rfl ?_
  refine w_psh rfl zc_0 rfl ?_
  refine w_s (c' := (3, [some (aR (some (1, 0, 0))), some (aI (iZ x1)), some (aR (some (70, 0, 0))), none], [aR (some (1, 0, 0)), aI (iZ 0), aR (some (70, 0, 0))], am_hp σ, t)) rfl rfl ?_
  refine w_s (c' := (4, [some (aR (some (1, 0, 0))), some (aI (iZ x1)), some (aR (some (70, 0, 0))), none], [aI (iZ x1), aR (some (1, 0, 0)), aI (iZ 0), aR (some (70, 0, 0))], am_hp σ, t)) rfl rfl ?_
  refine w_c0 (c' := (7, [some (aR (some (1, 0, 0))), some (aI (iZ x1)), some (aR (some (70, 0, 0))), none], [aI (iZ r1), aI (iZ 0), aR (some (70, 0, 0))], am_hp σ1, t)) rfl rfl (rcv_of (hp_1 _ 0)) rfl c1 (Nat.le_refl _) rfl ?_
  refine w_i2l rfl rfl h2 ?_
  refine w_las rfl (mk_70 _ 0 0) (by decide) rfl rfl rfl ?_
  refine w_s (c' := (15, [some (aR (some (1, 0, 0))), some (aI (iZ x1)), some (aR (some (70, 0, 0))), none], [], am_hp ((sJ σ1 (70, 0, 0) (up (σ1.2.1 (70, 0, 0)) (0 : Int).toNat r1))), t)) rfl rfl ?_
  exact w3

theorem bh_L_account_0_1 {x1 : Int} {σ σ1 : SG} {t t' : KT} (c1 : Ca d 132 [aR (some (1, 0, 0)), aI (iZ x1)] (am_hp σ) t (.inr 1, am_hp σ1, t')) (w2 : Wp k_L_account d (13, [some (aR (some (1, 0, 0))), some (aI (iZ x1)), some (aR (some (70, 0, 0))), none], [], am_hp σ1, t') Q) : Wp k_L_account d (0, [some (aR (some (1, 0, 0))), some (aI (iZ x1)), some (aR (some (70, 0, 0))), none], [], am_hp σ, t) Q := by
  refine w_s (c' := (1, [some (aR (some (1, 0, 0))), some (aI (iZ x1)), some (aR (some (70, 0, 0))), none], [aR (some (70, 0, 0))], am_hp σ, t)) rfl rfl ?_
  refine w_psh rfl zc_0 rfl ?_
  refine w_s (c' := (3, [some (aR (some (1, 0, 0))), some (aI (iZ x1)), some (aR (some (70, 0, 0))), none], [aR (some (1, 0, 0)), aI (iZ 0), aR (some (70, 0, 0))], am_hp σ, t)) rfl rfl ?_
  refine w_s (c' := (4, [some (aR (some (1, 0, 0))), some (aI (iZ x1)), some (aR (some (70, 0, 0))), none], [aI (iZ x1), aR (some (1, 0, 0)), aI (iZ 0), aR (some (70, 0, 0))], am_hp σ, t)) rfl rfl ?_
  exact w_h rfl rfl (rcv_of (hp_1 _ 0)) rfl c1 (Nat.le_refl _) rfl rfl rfl w2

theorem e_L_account {x1 : Int} {h : AH} {t : KT} {d : Nat} {P : RS → Prop} (w : Wp k_L_account d (0, [some (aR (some (1, 0, 0))), some (aI (iZ x1)), some (aR (some (70, 0, 0))), none], [], h, t) P) : ∃ r, Ca (d + 1) 380 [aR (some (1, 0, 0)), aI (iZ x1), aR (some (70, 0, 0))] h t r ∧ P r := ca_W rfl rfl rfl rfl w

theorem b_L_account_13 {x1 : Int} {σ : SG} {t : KT} (q1 : Q (.inl (some (aI (iZ 1))), am_hp σ, t)) : Wp k_L_account d (13, [some (aR (some (1, 0, 0))), some (aI (iZ x1)), some (aR (some (70, 0, 0))), none], [], am_hp σ, t) Q := by
  refine w_psh rfl zc_1 rfl ?_
  exact w_ret rfl rfl q1

theorem b_L_account_15 {x1 : Int} {σ : SG} {t : KT} (q1 : Q (.inl (some (aI (iZ 0))), am_hp σ, t)) : Wp k_L_account d (15, [some (aR (some (1, 0, 0))), some (aI (iZ x1)), some (aR (some (70, 0, 0))), none], [], am_hp σ, t) Q := by
  refine w_psh rfl zc_0 rfl ?_
  exact w_ret rfl rfl q1

theorem b_L_report_0 {x1 : Int} {r1 : Int} {σ σ1 : SG} {t : KT} (c1 : Ca d 134 [aR (some (1, 0, 0)), aI (iZ x1)] (am_hp σ) t (.inl (some (aI (iZ r1))), am_hp σ1, t)) (h2 : -2147483648 ≤ r1 ∧ r1 < 2147483648) (w3 : Wp k_L_report d (15, [some (aR (some (1, 0, 0))), some (aI (iZ x1)), some (aR (some (70, 0, 0))), none], [], am_hp ((sJ σ1 (70, 0, 0) (up (σ1.2.1 (70, 0, 0)) (0 : Int).toNat r1))), t) Q) : Wp k_L_report d (0, [some (aR (some (1, 0, 0))), some (aI (iZ x1)), some (aR (some (70, 0, 0))), none], [], am_hp σ, t) Q := by
  refine w_s (c' := (1, [some (aR (some (1, 0, 0))), some (aI (iZ x1)), some (aR (some (70, 0, 0))), none], [aR (some (70, 0, 0))], am_hp σ, t)) rfl rfl ?_
  refine w_psh rfl zc_0 rfl ?_
  refine w_s (c' := (3, [some (aR (some (1, 0, 0))), some (aI (iZ x1)), some (aR (some (70, 0, 0))), none], [aR (some (1, 0, 0)), aI (iZ 0), aR (some (70, 0, 0))], am_hp σ, t)) rfl rfl ?_
  refine w_s (c' := (4, [some (aR (some (1, 0, 0))), some (aI (iZ x1)), some (aR (some (70, 0, 0))), none], [aI (iZ x1), aR (some (1, 0, 0)), aI (iZ 0), aR (some (70, 0, 0))], am_hp σ, t)) rfl rfl ?_
  refine w_c0 (c' := (7, [some (aR (some (1, 0, 0))), some (aI (iZ x1)), some (aR (some (70, 0, 0))), none], [aI (iZ r1), aI (iZ 0), aR (some (70, 0, 0))], am_hp σ1, t)) rfl rfl (rcv_of (hp_1 _ 0)) rfl c1 (Nat.le_refl _) rfl ?_
  refine w_i2l rfl rfl h2 ?_
  refine w_las rfl (mk_70 _ 0 0) (by decide) rfl rfl rfl ?_
  refine w_s (c' := (15, [some (aR (some (1, 0, 0))), some (aI (iZ x1)), some (aR (some (70, 0, 0))), none], [], am_hp ((sJ σ1 (70, 0, 0) (up (σ1.2.1 (70, 0, 0)) (0 : Int).toNat r1))), t)) rfl rfl ?_
  exact w3

theorem bh_L_report_0_2 {x1 : Int} {σ σ1 : SG} {t t' : KT} (c1 : Ca d 134 [aR (some (1, 0, 0)), aI (iZ x1)] (am_hp σ) t (.inr 2, am_hp σ1, t')) (w2 : Wp k_L_report d (13, [some (aR (some (1, 0, 0))), some (aI (iZ x1)), some (aR (some (70, 0, 0))), none], [], am_hp σ1, t') Q) : Wp k_L_report d (0, [some (aR (some (1, 0, 0))), some (aI (iZ x1)), some (aR (some (70, 0, 0))), none], [], am_hp σ, t) Q := by
  refine w_s (c' := (1, [some (aR (some (1, 0, 0))), some (aI (iZ x1)), some (aR (some (70, 0, 0))), none], [aR (some (70, 0, 0))], am_hp σ, t)) rfl rfl ?_
  refine w_psh rfl zc_0 rfl ?_
  refine w_s (c' := (3, [some (aR (some (1, 0, 0))), some (aI (iZ x1)), some (aR (some (70, 0, 0))), none], [aR (some (1, 0, 0)), aI (iZ 0), aR (some (70, 0, 0))], am_hp σ, t)) rfl rfl ?_
  refine w_s (c' := (4, [some (aR (some (1, 0, 0))), some (aI (iZ x1)), some (aR (some (70, 0, 0))), none], [aI (iZ x1), aR (some (1, 0, 0)), aI (iZ 0), aR (some (70, 0, 0))], am_hp σ, t)) rfl rfl ?_
  exact w_h rfl rfl (rcv_of (hp_1 _ 0)) rfl c1 (Nat.le_refl _) rfl rfl rfl w2

theorem e_L_report {x1 : Int} {h : AH} {t : KT} {d : Nat} {P : RS → Prop} (w : Wp k_L_report d (0, [some (aR (some (1, 0, 0))), some (aI (iZ x1)), some (aR (some (70, 0, 0))), none], [], h, t) P) : ∃ r, Ca (d + 1) 381 [aR (some (1, 0, 0)), aI (iZ x1), aR (some (70, 0, 0))] h t r ∧ P r := ca_W rfl rfl rfl rfl w

theorem b_L_report_13 {x1 : Int} {σ : SG} {t : KT} (q1 : Q (.inl (some (aI (iZ 1))), am_hp σ, t)) : Wp k_L_report d (13, [some (aR (some (1, 0, 0))), some (aI (iZ x1)), some (aR (some (70, 0, 0))), none], [], am_hp σ, t) Q := by
  refine w_psh rfl zc_1 rfl ?_
  exact w_ret rfl rfl q1

theorem b_L_report_15 {x1 : Int} {σ : SG} {t : KT} (q1 : Q (.inl (some (aI (iZ 0))), am_hp σ, t)) : Wp k_L_report d (15, [some (aR (some (1, 0, 0))), some (aI (iZ x1)), some (aR (some (70, 0, 0))), none], [], am_hp σ, t) Q := by
  refine w_psh rfl zc_0 rfl ?_
  exact w_ret rfl rfl q1

theorem b_L_reportByte_0 {x1 : Int} {r1 : Int} {σ σ1 : SG} {t : KT} (c1 : Ca d 135 [aR (some (1, 0, 0)), aI (iZ x1)] (am_hp σ) t (.inl (some (aI (iZ r1))), am_hp σ1, t)) (h2 : -2147483648 ≤ r1 ∧ r1 < 2147483648) (w3 : Wp k_L_reportByte d (15, [some (aR (some (1, 0, 0))), some (aI (iZ x1)), some (aR (some (70, 0, 0))), none], [], am_hp ((sJ σ1 (70, 0, 0) (up (σ1.2.1 (70, 0, 0)) (0 : Int).toNat r1))), t) Q) : Wp k_L_reportByte d (0, [some (aR (some (1, 0, 0))), some (aI (iZ x1)), some (aR (some (70, 0, 0))), none], [], am_hp σ, t) Q := by
  refine w_s (c' := (1, [some (aR (some (1, 0, 0))), some (aI (iZ x1)), some (aR (some (70, 0, 0))), none], [aR (some (70, 0, 0))], am_hp σ, t)) rfl rfl ?_
  refine w_psh rfl zc_0 rfl ?_
  refine w_s (c' := (3, [some (aR (some (1, 0, 0))), some (aI (iZ x1)), some (aR (some (70, 0, 0))), none], [aR (some (1, 0, 0)), aI (iZ 0), aR (some (70, 0, 0))], am_hp σ, t)) rfl rfl ?_
  refine w_s (c' := (4, [some (aR (some (1, 0, 0))), some (aI (iZ x1)), some (aR (some (70, 0, 0))), none], [aI (iZ x1), aR (some (1, 0, 0)), aI (iZ 0), aR (some (70, 0, 0))], am_hp σ, t)) rfl rfl ?_
  refine w_c0 (c' := (7, [some (aR (some (1, 0, 0))), some (aI (iZ x1)), some (aR (some (70, 0, 0))), none], [aI (iZ r1), aI (iZ 0), aR (some (70, 0, 0))], am_hp σ1, t)) rfl rfl (rcv_of (hp_1 _ 0)) rfl c1 (Nat.le_refl _) rfl ?_
  refine w_i2l rfl rfl h2 ?_
  refine w_las rfl (mk_70 _ 0 0) (by decide) rfl rfl rfl ?_
  refine w_s (c' := (15, [some (aR (some (1, 0, 0))), some (aI (iZ x1)), some (aR (some (70, 0, 0))), none], [], am_hp ((sJ σ1 (70, 0, 0) (up (σ1.2.1 (70, 0, 0)) (0 : Int).toNat r1))), t)) rfl rfl ?_
  exact w3

theorem bh_L_reportByte_0_2 {x1 : Int} {σ σ1 : SG} {t t' : KT} (c1 : Ca d 135 [aR (some (1, 0, 0)), aI (iZ x1)] (am_hp σ) t (.inr 2, am_hp σ1, t')) (w2 : Wp k_L_reportByte d (13, [some (aR (some (1, 0, 0))), some (aI (iZ x1)), some (aR (some (70, 0, 0))), none], [], am_hp σ1, t') Q) : Wp k_L_reportByte d (0, [some (aR (some (1, 0, 0))), some (aI (iZ x1)), some (aR (some (70, 0, 0))), none], [], am_hp σ, t) Q := by
  refine w_s (c' := (1, [some (aR (some (1, 0, 0))), some (aI (iZ x1)), some (aR (some (70, 0, 0))), none], [aR (some (70, 0, 0))], am_hp σ, t)) rfl rfl ?_
  refine w_psh rfl zc_0 rfl ?_
  refine w_s (c' := (3, [some (aR (some (1, 0, 0))), some (aI (iZ x1)), some (aR (some (70, 0, 0))), none], [aR (some (1, 0, 0)), aI (iZ 0), aR (some (70, 0, 0))], am_hp σ, t)) rfl rfl ?_
  refine w_s (c' := (4, [some (aR (some (1, 0, 0))), some (aI (iZ x1)), some (aR (some (70, 0, 0))), none], [aI (iZ x1), aR (some (1, 0, 0)), aI (iZ 0), aR (some (70, 0, 0))], am_hp σ, t)) rfl rfl ?_
  exact w_h rfl rfl (rcv_of (hp_1 _ 0)) rfl c1 (Nat.le_refl _) rfl rfl rfl w2

theorem e_L_reportByte {x1 : Int} {h : AH} {t : KT} {d : Nat} {P : RS → Prop} (w : Wp k_L_reportByte d (0, [some (aR (some (1, 0, 0))), some (aI (iZ x1)), some (aR (some (70, 0, 0))), none], [], h, t) P) : ∃ r, Ca (d + 1) 382 [aR (some (1, 0, 0)), aI (iZ x1), aR (some (70, 0, 0))] h t r ∧ P r := ca_W rfl rfl rfl rfl w

theorem b_L_reportByte_13 {x1 : Int} {σ : SG} {t : KT} (q1 : Q (.inl (some (aI (iZ 1))), am_hp σ, t)) : Wp k_L_reportByte d (13, [some (aR (some (1, 0, 0))), some (aI (iZ x1)), some (aR (some (70, 0, 0))), none], [], am_hp σ, t) Q := by
  refine w_psh rfl zc_1 rfl ?_
  exact w_ret rfl rfl q1

theorem b_L_reportByte_15 {x1 : Int} {σ : SG} {t : KT} (q1 : Q (.inl (some (aI (iZ 0))), am_hp σ, t)) : Wp k_L_reportByte d (15, [some (aR (some (1, 0, 0))), some (aI (iZ x1)), some (aR (some (70, 0, 0))), none], [], am_hp σ, t) Q := by
  refine w_psh rfl zc_0 rfl ?_
  exact w_ret rfl rfl q1

theorem b_L_restore_0 {r1 : Int} {σ σ1 : SG} {t : KT} (c1 : Ca d 137 [aR (some (1, 0, 0))] (am_hp σ) t (.inl (some (aI (iZ r1))), am_hp σ1, t)) (h2 : -2147483648 ≤ r1 ∧ r1 < 2147483648) (w3 : Wp k_L_restore d (14, [some (aR (some (1, 0, 0))), some (aR (some (70, 0, 0))), none], [], am_hp ((sJ σ1 (70, 0, 0) (up (σ1.2.1 (70, 0, 0)) (0 : Int).toNat r1))), t) Q) : Wp k_L_restore d (0, [some (aR (some (1, 0, 0))), some (aR (some (70, 0, 0))), none], [], am_hp σ, t) Q := by
  refine w_s (c' := (1, [some (aR (some (1, 0, 0))), some (aR (some (70, 0, 0))), none], [aR (some (70, 0, 0))], am_hp σ, t)) rfl rfl ?_
  refine w_psh rfl zc_0 rfl ?_
  refine w_s (c' := (3, [some (aR (some (1, 0, 0))), some (aR (some (70, 0, 0))), none], [aR (some (1, 0, 0)), aI (iZ 0), aR (some (70, 0, 0))], am_hp σ, t)) rfl rfl ?_
  refine w_c0 (c' := (6, [some (aR (some (1, 0, 0))), some (aR (some (70, 0, 0))), none], [aI (iZ r1), aI (iZ 0), aR (some (70, 0, 0))], am_hp σ1, t)) rfl rfl (rcv_of (hp_1 _ 0)) rfl c1 (Nat.le_refl _) rfl ?_
  refine w_i2l rfl rfl h2 ?_
  refine w_las rfl (mk_70 _ 0 0) (by decide) rfl rfl rfl ?_
  refine w_s (c' := (14, [some (aR (some (1, 0, 0))), some (aR (some (70, 0, 0))), none], [], am_hp ((sJ σ1 (70, 0, 0) (up (σ1.2.1 (70, 0, 0)) (0 : Int).toNat r1))), t)) rfl rfl ?_
  exact w3

theorem bh_L_restore_0_0 {σ σ1 : SG} {t t' : KT} (c1 : Ca d 137 [aR (some (1, 0, 0))] (am_hp σ) t (.inr 0, am_hp σ1, t')) (w2 : Wp k_L_restore d (12, [some (aR (some (1, 0, 0))), some (aR (some (70, 0, 0))), none], [], am_hp σ1, t') Q) : Wp k_L_restore d (0, [some (aR (some (1, 0, 0))), some (aR (some (70, 0, 0))), none], [], am_hp σ, t) Q := by
  refine w_s (c' := (1, [some (aR (some (1, 0, 0))), some (aR (some (70, 0, 0))), none], [aR (some (70, 0, 0))], am_hp σ, t)) rfl rfl ?_
  refine w_psh rfl zc_0 rfl ?_
  refine w_s (c' := (3, [some (aR (some (1, 0, 0))), some (aR (some (70, 0, 0))), none], [aR (some (1, 0, 0)), aI (iZ 0), aR (some (70, 0, 0))], am_hp σ, t)) rfl rfl ?_
  exact w_h rfl rfl (rcv_of (hp_1 _ 0)) rfl c1 (Nat.le_refl _) rfl rfl rfl w2

theorem e_L_restore {h : AH} {t : KT} {d : Nat} {P : RS → Prop} (w : Wp k_L_restore d (0, [some (aR (some (1, 0, 0))), some (aR (some (70, 0, 0))), none], [], h, t) P) : ∃ r, Ca (d + 1) 383 [aR (some (1, 0, 0)), aR (some (70, 0, 0))] h t r ∧ P r := ca_W rfl rfl rfl rfl w

theorem b_L_restore_12 {σ : SG} {t : KT} (q1 : Q (.inl (some (aI (iZ 1))), am_hp σ, t)) : Wp k_L_restore d (12, [some (aR (some (1, 0, 0))), some (aR (some (70, 0, 0))), none], [], am_hp σ, t) Q := by
  refine w_psh rfl zc_1 rfl ?_
  exact w_ret rfl rfl q1

theorem b_L_restore_14 {σ : SG} {t : KT} (q1 : Q (.inl (some (aI (iZ 0))), am_hp σ, t)) : Wp k_L_restore d (14, [some (aR (some (1, 0, 0))), some (aR (some (70, 0, 0))), none], [], am_hp σ, t) Q := by
  refine w_psh rfl zc_0 rfl ?_
  exact w_ret rfl rfl q1
end PCS
