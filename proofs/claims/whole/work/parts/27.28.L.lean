/-! PIECES: L -/
set_option maxRecDepth 4000
section PCS
variable {d : Nat} {Q : RS → Prop}
theorem b_L_readsFor_0 {x1 : Int} {x2 : Int} {r1 : Int} {σ σ1 : SG} {t : KT} (c1 : Ca d 111 [aR (some (1, 0, 0)), aI (iZ x1), aI (iZ x2)] (am_hp σ) t (.inl (some (aI (iZ r1))), am_hp σ1, t)) (h2 : -2147483648 ≤ r1 ∧ r1 < 2147483648) (w3 : Wp k_L_readsFor d (17, [some (aR (some (1, 0, 0))), some (aI (iZ x1)), some (aI (iZ x2)), some (aR (some (70, 0, 0))), none], [], am_hp ((sJ σ1 (70, 0, 0) (up (σ1.2.1 (70, 0, 0)) (0 : Int).toNat r1))), t) Q) : Wp k_L_readsFor d (0, [some (aR (some (1, 0, 0))), some (aI (iZ x1)), some (aI (iZ x2)), some (aR (some (70, 0, 0))), none], [], am_hp σ, t) Q := by
  refine w_s (c' := (1, [some (aR (some (1, 0, 0))), some (aI (iZ x1)), some (aI (iZ x2)), some (aR (some (70, 0, 0))), none], [aR (some (70, 0, 0))], am_hp σ, t)) rfl rfl ?_
  refine w_psh rfl zc_0 rfl ?_
  refine w_s (c' := (3, [some (aR (some (1, 0, 0))), some (aI (iZ x1)), some (aI (iZ x2)), some (aR (some (70, 0, 0))), none], [aR (some (1, 0, 0)), aI (iZ 0), aR (some (70, 0, 0))], am_hp σ, t)) rfl rfl ?_
  refine w_s (c' := (4, [some (aR (some (1, 0, 0))), some (aI (iZ x1)), some (aI (iZ x2)), some (aR (some (70, 0, 0))), none], [aI (iZ x1), aR (some (1, 0, 0)), aI (iZ 0), aR (some (70, 0, 0))], am_hp σ, t)) rfl rfl ?_
  refine w_s (c' := (5, [some (aR (some (1, 0, 0))), some (aI (iZ x1)), some (aI (iZ x2)), some (aR (some (70, 0, 0))), none], [aI (iZ x2), aI (iZ x1), aR (some (1, 0, 0)), aI (iZ 0), aR (some (70, 0, 0))], am_hp σ, t)) rfl rfl ?_
  refine w_c0 (c' := (8, [some (aR (some (1, 0, 0))), some (aI (iZ x1)), some (aI (iZ x2)), some (aR (some (70, 0, 0))), none], [aI (iZ r1), aI (iZ 0), aR (some (70, 0, 0))], am_hp σ1, t)) rfl rfl (rcv_of (hp_1 _ 0)) rfl c1 (Nat.le_refl _) rfl ?_
  refine w_i2l rfl rfl h2 ?_
  refine w_las rfl (mk_70 _ 0 0) (by decide) rfl rfl rfl ?_
  refine w_s (c' := (17, [some (aR (some (1, 0, 0))), some (aI (iZ x1)), some (aI (iZ x2)), some (aR (some (70, 0, 0))), none], [], am_hp ((sJ σ1 (70, 0, 0) (up (σ1.2.1 (70, 0, 0)) (0 : Int).toNat r1))), t)) rfl rfl ?_
  exact w3

theorem bh_L_readsFor_0_2 {x1 : Int} {x2 : Int} {σ σ1 : SG} {t t' : KT} (c1 : Ca d 111 [aR (some (1, 0, 0)), aI (iZ x1), aI (iZ x2)] (am_hp σ) t (.inr 2, am_hp σ1, t')) (w2 : Wp k_L_readsFor d (15, [some (aR (some (1, 0, 0))), some (aI (iZ x1)), some (aI (iZ x2)), some (aR (some (70, 0, 0))), none], [], am_hp σ1, t') Q) : Wp k_L_readsFor d (0, [some (aR (some (1, 0, 0))), some (aI (iZ x1)), some (aI (iZ x2)), some (aR (some (70, 0, 0))), none], [], am_hp σ, t) Q := by
  refine w_s (c' := (1, [some (aR (some (1, 0, 0))), some (aI (iZ x1)), some (aI (iZ x2)), some (aR (some (70, 0, 0))), none], [aR (some (70, 0, 0))], am_hp σ, t)) rfl rfl ?_
  refine w_psh rfl zc_0 rfl ?_
  refine w_s (c' := (3, [some (aR (some (1, 0, 0))), some (aI (iZ x1)), some (aI (iZ x2)), some (aR (some (70, 0, 0))), none], [aR (some (1, 0, 0)), aI (iZ 0), aR (some (70, 0, 0))], am_hp σ, t)) rfl rfl ?_
  refine w_s (c' := (4, [some (aR (some (1, 0, 0))), some (aI (iZ x1)), some (aI (iZ x2)), some (aR (some (70, 0, 0))), none], [aI (iZ x1), aR (some (1, 0, 0)), aI (iZ 0), aR (some (70, 0, 0))], am_hp σ, t)) rfl rfl ?_
  refine w_s (c' := (5, [some (aR (some (1, 0, 0))), some (aI (iZ x1)), some (aI (iZ x2)), some (aR (some (70, 0, 0))), none], [aI (iZ x2), aI (iZ x1), aR (some (1, 0, 0)), aI (iZ 0), aR (some (70, 0, 0))], am_hp σ, t)) rfl rfl ?_
  exact w_h rfl rfl (rcv_of (hp_1 _ 0)) rfl c1 (Nat.le_refl _) rfl rfl rfl w2

theorem e_L_readsFor {x1 : Int} {x2 : Int} {h : AH} {t : KT} {d : Nat} {P : RS → Prop} (w : Wp k_L_readsFor d (0, [some (aR (some (1, 0, 0))), some (aI (iZ x1)), some (aI (iZ x2)), some (aR (some (70, 0, 0))), none], [], h, t) P) : ∃ r, Ca (d + 1) 362 [aR (some (1, 0, 0)), aI (iZ x1), aI (iZ x2), aR (some (70, 0, 0))] h t r ∧ P r := ca_W rfl rfl rfl rfl w

theorem b_L_readsFor_15 {x1 : Int} {x2 : Int} {σ : SG} {t : KT} (q1 : Q (.inl (some (aI (iZ 1))), am_hp σ, t)) : Wp k_L_readsFor d (15, [some (aR (some (1, 0, 0))), some (aI (iZ x1)), some (aI (iZ x2)), some (aR (some (70, 0, 0))), none], [], am_hp σ, t) Q := by
  refine w_psh rfl zc_1 rfl ?_
  exact w_ret rfl rfl q1

theorem b_L_readsFor_17 {x1 : Int} {x2 : Int} {σ : SG} {t : KT} (q1 : Q (.inl (some (aI (iZ 0))), am_hp σ, t)) : Wp k_L_readsFor d (17, [some (aR (some (1, 0, 0))), some (aI (iZ x1)), some (aI (iZ x2)), some (aR (some (70, 0, 0))), none], [], am_hp σ, t) Q := by
  refine w_psh rfl zc_0 rfl ?_
  exact w_ret rfl rfl q1

theorem b_L_greatest_0 {x1 : Int} {r1 : Int} {σ σ1 : SG} {t : KT} (c1 : Ca d 112 [aR (some (1, 0, 0)), aI (iZ x1)] (am_hp σ) t (.inl (some (aI (iZ r1))), am_hp σ1, t)) (h2 : -2147483648 ≤ r1 ∧ r1 < 2147483648) (w3 : Wp k_L_greatest d (15, [some (aR (some (1, 0, 0))), some (aI (iZ x1)), some (aR (some (70, 0, 0))), none], [], am_hp ((sJ σ1 (70, 0, 0) (up (σ1.2.1 (70, 0, 0)) (0 : Int).toNat r1))), t) Q) : Wp k_L_greatest d (0, [some (aR (some (1, 0, 0))), some (aI (iZ x1)), some (aR (some (70, 0, 0))), none], [], am_hp σ, t) Q := by
  refine w_s (c' := (1, [some (aR (some (1, 0, 0))), some (aI (iZ x1)), some (aR (some (70, 0, 0))), none], [aR (some (70, 0, 0))], am_hp σ, t)) rfl rfl ?_
  refine w_psh rfl zc_0 rfl ?_
  refine w_s (c' := (3, [some (aR (some (1, 0, 0))), some (aI (iZ x1)), some (aR (some (70, 0, 0))), none], [aR (some (1, 0, 0)), aI (iZ 0), aR (some (70, 0, 0))], am_hp σ, t)) rfl rfl ?_
  refine w_s (c' := (4, [some (aR (some (1, 0, 0))), some (aI (iZ x1)), some (aR (some (70, 0, 0))), none], [aI (iZ x1), aR (some (1, 0, 0)), aI (iZ 0), aR (some (70, 0, 0))], am_hp σ, t)) rfl rfl ?_
  refine w_c0 (c' := (7, [some (aR (some (1, 0, 0))), some (aI (iZ x1)), some (aR (some (70, 0, 0))), none], [aI (iZ r1), aI (iZ 0), aR (some (70, 0, 0))], am_hp σ1, t)) rfl rfl (rcv_of (hp_1 _ 0)) rfl c1 (Nat.le_refl _) rfl ?_
  refine w_i2l rfl rfl h2 ?_
  refine w_las rfl (mk_70 _ 0 0) (by decide) rfl rfl rfl ?_
  refine w_s (c' := (15, [some (aR (some (1, 0, 0))), some (aI (iZ x1)), some (aR (some (70, 0, 0))), none], [], am_hp ((sJ σ1 (70, 0, 0) (up (σ1.2.1 (70, 0, 0)) (0 : Int).toNat r1))), t)) rfl rfl ?_
  exact w3

theorem bh_L_greatest_0_2 {x1 : Int} {σ σ1 : SG} {t t' : KT} (c1 : Ca d 112 [aR (some (1, 0, 0)), aI (iZ x1)] (am_hp σ) t (.inr 2, am_hp σ1, t')) (w2 : Wp k_L_greatest d (13, [some (aR (some (1, 0, 0))), some (aI (iZ x1)), some (aR (some (70, 0, 0))), none], [], am_hp σ1, t') Q) : Wp k_L_greatest d (0, [some (aR (some (1, 0, 0))), some (aI (iZ x1)), some (aR (some (70, 0, 0))), none], [], am_hp σ, t) Q := by
  refine w_s (c' := (1, [some (aR (some (1, 0, 0))), some (aI (iZ x1)), some (aR (some (70, 0, 0))), none], [aR (some (70, 0, 0))], am_hp σ, t)) rfl rfl ?_
  refine w_psh rfl zc_0 rfl ?_
  refine w_s (c' := (3, [some (aR (some (1, 0, 0))), some (aI (iZ x1)), some (aR (some (70, 0, 0))), none], [aR (some (1, 0, 0)), aI (iZ 0), aR (some (70, 0, 0))], am_hp σ, t)) rfl rfl ?_
  refine w_s (c' := (4, [some (aR (some (1, 0, 0))), some (aI (iZ x1)), some (aR (some (70, 0, 0))), none], [aI (iZ x1), aR (some (1, 0, 0)), aI (iZ 0), aR (some (70, 0, 0))], am_hp σ, t)) rfl rfl ?_
  exact w_h rfl rfl (rcv_of (hp_1 _ 0)) rfl c1 (Nat.le_refl _) rfl rfl rfl w2

theorem e_L_greatest {x1 : Int} {h : AH} {t : KT} {d : Nat} {P : RS → Prop} (w : Wp k_L_greatest d (0, [some (aR (some (1, 0, 0))), some (aI (iZ x1)), some (aR (some (70, 0, 0))), none], [], h, t) P) : ∃ r, Ca (d + 1) 363 [aR (some (1, 0, 0)), aI (iZ x1), aR (some (70, 0, 0))] h t r ∧ P r := ca_W rfl rfl rfl rfl w

theorem b_L_greatest_13 {x1 : Int} {σ : SG} {t : KT} (q1 : Q (.inl (some (aI (iZ 1))), am_hp σ, t)) : Wp k_L_greatest d (13, [some (aR (some (1, 0, 0))), some (aI (iZ x1)), some (aR (some (70, 0, 0))), none], [], am_hp σ, t) Q := by
  refine w_psh rfl zc_1 rfl ?_
  exact w_ret rfl rfl q1

theorem b_L_greatest_15 {x1 : Int} {σ : SG} {t : KT} (q1 : Q (.inl (some (aI (iZ 0))), am_hp σ, t)) : Wp k_L_greatest d (15, [some (aR (some (1, 0, 0))), some (aI (iZ x1)), some (aR (some (70, 0, 0))), none], [], am_hp σ, t) Q := by
  refine w_psh rfl zc_0 rfl ?_
  exact w_ret rfl rfl q1

theorem b_L_meanHeld_0 {x1 : Int} {r1 : UInt64} {σ σ1 : SG} {t : KT} (c1 : Ca d 114 [aR (some (1, 0, 0)), aI (iZ x1)] (am_hp σ) t (.inl (some (aD r1)), am_hp σ1, t)) (w2 : Wp k_L_meanHeld d (14, [some (aR (some (1, 0, 0))), some (aI (iZ x1)), some (aR (some (71, 0, 0))), none], [], am_hp ((sD σ1 (71, 0, 0) (vf_upd (σ1.2.2.1 (71, 0, 0)) 0 r1))), t) Q) : Wp k_L_meanHeld d (0, [some (aR (some (1, 0, 0))), some (aI (iZ x1)), some (aR (some (71, 0, 0))), none], [], am_hp σ, t) Q := by
  refine w_s (c' := (1, [some (aR (some (1, 0, 0))), some (aI (iZ x1)), some (aR (some (71, 0, 0))), none], [aR (some (71, 0, 0))], am_hp σ, t)) rfl rfl ?_
  refine w_psh rfl zc_0 rfl ?_
  refine w_s (c' := (3, [some (aR (some (1, 0, 0))), some (aI (iZ x1)), some (aR (some (71, 0, 0))), none], [aR (some (1, 0, 0)), aI (iZ 0), aR (some (71, 0, 0))], am_hp σ, t)) rfl rfl ?_
  refine w_s (c' := (4, [some (aR (some (1, 0, 0))), some (aI (iZ x1)), some (aR (some (71, 0, 0))), none], [aI (iZ x1), aR (some (1, 0, 0)), aI (iZ 0), aR (some (71, 0, 0))], am_hp σ, t)) rfl rfl ?_
  refine w_c0 (c' := (7, [some (aR (some (1, 0, 0))), some (aI (iZ x1)), some (aR (some (71, 0, 0))), none], [aD r1, aI (iZ 0), aR (some (71, 0, 0))], am_hp σ1, t)) rfl rfl (rcv_of (hp_1 _ 0)) rfl c1 (Nat.le_refl _) rfl ?_
  refine w_das rfl rfl ?_
  refine w_s (c' := (14, [some (aR (some (1, 0, 0))), some (aI (iZ x1)), some (aR (some (71, 0, 0))), none], [], am_hp ((sD σ1 (71, 0, 0) (vf_upd (σ1.2.2.1 (71, 0, 0)) 0 r1))), t)) rfl rfl ?_
  exact w2

theorem bh_L_meanHeld_0_2 {x1 : Int} {σ σ1 : SG} {t t' : KT} (c1 : Ca d 114 [aR (some (1, 0, 0)), aI (iZ x1)] (am_hp σ) t (.inr 2, am_hp σ1, t')) (w2 : Wp k_L_meanHeld d (12, [some (aR (some (1, 0, 0))), some (aI (iZ x1)), some (aR (some (71, 0, 0))), none], [], am_hp σ1, t') Q) : Wp k_L_meanHeld d (0, [some (aR (some (1, 0, 0))), some (aI (iZ x1)), some (aR (some (71, 0, 0))), none], [], am_hp σ, t) Q := by
  refine w_s (c' := (1, [some (aR (some (1, 0, 0))), some (aI (iZ x1)), some (aR (some (71, 0, 0))), none], [aR (some (71, 0, 0))], am_hp σ, t)) rfl rfl ?_
  refine w_psh rfl zc_0 rfl ?_
  refine w_s (c' := (3, [some (aR (some (1, 0, 0))), some (aI (iZ x1)), some (aR (some (71, 0, 0))), none], [aR (some (1, 0, 0)), aI (iZ 0), aR (some (71, 0, 0))], am_hp σ, t)) rfl rfl ?_
  refine w_s (c' := (4, [some (aR (some (1, 0, 0))), some (aI (iZ x1)), some (aR (some (71, 0, 0))), none], [aI (iZ x1), aR (some (1, 0, 0)), aI (iZ 0), aR (some (71, 0, 0))], am_hp σ, t)) rfl rfl ?_
  exact w_h rfl rfl (rcv_of (hp_1 _ 0)) rfl c1 (Nat.le_refl _) rfl rfl rfl w2

theorem e_L_meanHeld {x1 : Int} {h : AH} {t : KT} {d : Nat} {P : RS → Prop} (w : Wp k_L_meanHeld d (0, [some (aR (some (1, 0, 0))), some (aI (iZ x1)), some (aR (some (71, 0, 0))), none], [], h, t) P) : ∃ r, Ca (d + 1) 364 [aR (some (1, 0, 0)), aI (iZ x1), aR (some (71, 0, 0))] h t r ∧ P r := ca_W rfl rfl rfl rfl w

theorem b_L_meanHeld_12 {x1 : Int} {σ : SG} {t : KT} (q1 : Q (.inl (some (aI (iZ 1))), am_hp σ, t)) : Wp k_L_meanHeld d (12, [some (aR (some (1, 0, 0))), some (aI (iZ x1)), some (aR (some (71, 0, 0))), none], [], am_hp σ, t) Q := by
  refine w_psh rfl zc_1 rfl ?_
  exact w_ret rfl rfl q1

theorem b_L_meanHeld_14 {x1 : Int} {σ : SG} {t : KT} (q1 : Q (.inl (some (aI (iZ 0))), am_hp σ, t)) : Wp k_L_meanHeld d (14, [some (aR (some (1, 0, 0))), some (aI (iZ x1)), some (aR (some (71, 0, 0))), none], [], am_hp σ, t) Q := by
  refine w_psh rfl zc_0 rfl ?_
  exact w_ret rfl rfl q1

theorem b_L_wordsBy_0 {x1 : Int} {x2 : Int} {r1 : Int} {σ σ1 : SG} {t : KT} (c1 : Ca d 115 [aR (some (1, 0, 0)), aI (iZ x1), aI (iZ x2)] (am_hp σ) t (.inl (some (aI (iZ r1))), am_hp σ1, t)) (h2 : -2147483648 ≤ r1 ∧ r1 < 2147483648) (w3 : Wp k_L_wordsBy d (21, [some (aR (some (1, 0, 0))), some (aI (iZ x1)), some (aI (iZ x2)), some (aR (some (70, 0, 0))), none], [], am_hp ((sJ σ1 (70, 0, 0) (up (σ1.2.1 (70, 0, 0)) (0 : Int).toNat r1))), t) Q) : Wp k_L_wordsBy d (0, [some (aR (some (1, 0, 0))), some (aI (iZ x1)), some (aI (iZ x2)), some (aR (some (70, 0, 0))), none], [], am_hp σ, t) Q := by
  refine w_s (c' := (1, [some (aR (some (1, 0, 0))), some (aI (iZ x1)), some (aI (iZ x2)), some (aR (some (70, 0, 0))), none], [aR (some (70, 0, 0))], am_hp σ, t)) rfl rfl ?_
  refine w_psh rfl zc_0 rfl ?_
  refine w_s (c' := (3, [some (aR (some (1, 0, 0))), some (aI (iZ x1)), some (aI (iZ x2)), some (aR (some (70, 0, 0))), none], [aR (some (1, 0, 0)), aI (iZ 0), aR (some (70, 0, 0))], am_hp σ, t)) rfl rfl ?_
  refine w_s (c' := (4, [some (aR (some (1, 0, 0))), some (aI (iZ x1)), some (aI (iZ x2)), some (aR (some (70, 0, 0))), none], [aI (iZ x1), aR (some (1, 0, 0)), aI (iZ 0), aR (some (70, 0, 0))], am_hp σ, t)) rfl rfl ?_
  refine w_s (c' := (5, [some (aR (some (1, 0, 0))), some (aI (iZ x1)), some (aI (iZ x2)), some (aR (some (70, 0, 0))), none], [aI (iZ x2), aI (iZ x1), aR (some (1, 0, 0)), aI (iZ 0), aR (some (70, 0, 0))], am_hp σ, t)) rfl rfl ?_
  refine w_c0 (c' := (8, [some (aR (some (1, 0, 0))), some (aI (iZ x1)), some (aI (iZ x2)), some (aR (some (70, 0, 0))), none], [aI (iZ r1), aI (iZ 0), aR (some (70, 0, 0))], am_hp σ1, t)) rfl rfl (rcv_of (hp_1 _ 0)) rfl c1 (Nat.le_refl _) rfl ?_
  refine w_i2l rfl rfl h2 ?_
  refine w_las rfl (mk_70 _ 0 0) (by decide) rfl rfl rfl ?_
  refine w_s (c' := (21, [some (aR (some (1, 0, 0))), some (aI (iZ x1)), some (aI (iZ x2)), some (aR (some (70, 0, 0))), none], [], am_hp ((sJ σ1 (70, 0, 0) (up (σ1.2.1 (70, 0, 0)) (0 : Int).toNat r1))), t)) rfl rfl ?_
  exact w3

theorem bh_L_wordsBy_0_2 {x1 : Int} {x2 : Int} {σ σ1 : SG} {t t' : KT} (c1 : Ca d 115 [aR (some (1, 0, 0)), aI (iZ x1), aI (iZ x2)] (am_hp σ) t (.inr 2, am_hp σ1, t')) (w2 : Wp k_L_wordsBy d (15, [some (aR (some (1, 0, 0))), some (aI (iZ x1)), some (aI (iZ x2)), some (aR (some (70, 0, 0))), none], [], am_hp σ1, t') Q) : Wp k_L_wordsBy d (0, [some (aR (some (1, 0, 0))), some (aI (iZ x1)), some (aI (iZ x2)), some (aR (some (70, 0, 0))), none], [], am_hp σ, t) Q := by
  refine w_s (c' := (1, [some (aR (some (1, 0, 0))), some (aI (iZ x1)), some (aI (iZ x2)), some (aR (some (70, 0, 0))), none], [aR (some (70, 0, 0))], am_hp σ, t)) rfl rfl ?_
  refine w_psh rfl zc_0 rfl ?_
  refine w_s (c' := (3, [some (aR (some (1, 0, 0))), some (aI (iZ x1)), some (aI (iZ x2)), some (aR (some (70, 0, 0))), none], [aR (some (1, 0, 0)), aI (iZ 0), aR (some (70, 0, 0))], am_hp σ, t)) rfl rfl ?_
  refine w_s (c' := (4, [some (aR (some (1, 0, 0))), some (aI (iZ x1)), some (aI (iZ x2)), some (aR (some (70, 0, 0))), none], [aI (iZ x1), aR (some (1, 0, 0)), aI (iZ 0), aR (some (70, 0, 0))], am_hp σ, t)) rfl rfl ?_
  refine w_s (c' := (5, [some (aR (some (1, 0, 0))), some (aI (iZ x1)), some (aI (iZ x2)), some (aR (some (70, 0, 0))), none], [aI (iZ x2), aI (iZ x1), aR (some (1, 0, 0)), aI (iZ 0), aR (some (70, 0, 0))], am_hp σ, t)) rfl rfl ?_
  exact w_h rfl rfl (rcv_of (hp_1 _ 0)) rfl c1 (Nat.le_refl _) rfl rfl rfl w2

theorem bh_L_wordsBy_0_1 {x1 : Int} {x2 : Int} {σ σ1 : SG} {t t' : KT} (c1 : Ca d 115 [aR (some (1, 0, 0)), aI (iZ x1), aI (iZ x2)] (am_hp σ) t (.inr 1, am_hp σ1, t')) (w2 : Wp k_L_wordsBy d (19, [some (aR (some (1, 0, 0))), some (aI (iZ x1)), some (aI (iZ x2)), some (aR (some (70, 0, 0))), none], [], am_hp σ1, t') Q) : Wp k_L_wordsBy d (0, [some (aR (some (1, 0, 0))), some (aI (iZ x1)), some (aI (iZ x2)), some (aR (some (70, 0, 0))), none], [], am_hp σ, t) Q := by
  refine w_s (c' := (1, [some (aR (some (1, 0, 0))), some (aI (iZ x1)), some (aI (iZ x2)), some (aR (some (70, 0, 0))), none], [aR (some (70, 0, 0))], am_hp σ, t)) rfl rfl ?_
  refine w_psh rfl zc_0 rfl ?_
  refine w_s (c' := (3, [some (aR (some (1, 0, 0))), some (aI (iZ x1)), some (aI (iZ x2)), some (aR (some (70, 0, 0))), none], [aR (some (1, 0, 0)), aI (iZ 0), aR (some (70, 0, 0))], am_hp σ, t)) rfl rfl ?_
  refine w_s (c' := (4, [some (aR (some (1, 0, 0))), some (aI (iZ x1)), some (aI (iZ x2)), some (aR (some (70, 0, 0))), none], [aI (iZ x1), aR (some (1, 0, 0)), aI (iZ 0), aR (some (70, 0, 0))], am_hp σ, t)) rfl rfl ?_
  refine w_s (c' := (5, [some (aR (some (1, 0, 0))), some (aI (iZ x1)), some (aI (iZ x2)), some (aR (some (70, 0, 0))), none], [aI (iZ x2), aI (iZ x1), aR (some (1, 0, 0)), aI (iZ 0), aR (some (70, 0, 0))], am_hp σ, t)) rfl rfl ?_
  exact w_h rfl rfl (rcv_of (hp_1 _ 0)) rfl c1 (Nat.le_refl _) rfl rfl rfl w2

theorem e_L_wordsBy {x1 : Int} {x2 : Int} {h : AH} {t : KT} {d : Nat} {P : RS → Prop} (w : Wp k_L_wordsBy d (0, [some (aR (some (1, 0, 0))), some (aI (iZ x1)), some (aI (iZ x2)), some (aR (some (70, 0, 0))), none], [], h, t) P) : ∃ r, Ca (d + 1) 365 [aR (some (1, 0, 0)), aI (iZ x1), aI (iZ x2), aR (some (70, 0, 0))] h t r ∧ P r := ca_W rfl rfl rfl rfl w

theorem b_L_wordsBy_15 {x1 : Int} {x2 : Int} {σ : SG} {t : KT} (q1 : Q (.inl (some (aI (iZ 1))), am_hp σ, t)) : Wp k_L_wordsBy d (15, [some (aR (some (1, 0, 0))), some (aI (iZ x1)), some (aI (iZ x2)), some (aR (some (70, 0, 0))), none], [], am_hp σ, t) Q := by
  refine w_psh rfl zc_1 rfl ?_
  exact w_ret rfl rfl q1

theorem b_L_wordsBy_19 {x1 : Int} {x2 : Int} {σ : SG} {t : KT} (q1 : Q (.inl (some (aI (iZ 2))), am_hp σ, t)) : Wp k_L_wordsBy d (19, [some (aR (some (1, 0, 0))), some (aI (iZ x1)), some (aI (iZ x2)), some (aR (some (70, 0, 0))), none], [], am_hp σ, t) Q := by
  refine w_psh rfl zc_2 rfl ?_
  exact w_ret rfl rfl q1

theorem b_L_wordsBy_21 {x1 : Int} {x2 : Int} {σ : SG} {t : KT} (q1 : Q (.inl (some (aI (iZ 0))), am_hp σ, t)) : Wp k_L_wordsBy d (21, [some (aR (some (1, 0, 0))), some (aI (iZ x1)), some (aI (iZ x2)), some (aR (some (70, 0, 0))), none], [], am_hp σ, t) Q := by
  refine w_psh rfl zc_0 rfl ?_
  exact w_ret rfl rfl q1

theorem b_L_priceBy_0 {x1 : Int} {x2 : Int} {r1 : Int} {σ σ1 : SG} {t : KT} (c1 : Ca d 116 [aR (some (1, 0, 0)), aI (iZ x1), aI (iZ x2)] (am_hp σ) t (.inl (some (aI (iZ r1))), am_hp σ1, t)) (h2 : -2147483648 ≤ r1 ∧ r1 < 2147483648) (w3 : Wp k_L_priceBy d (21, [some (aR (some (1, 0, 0))), some (aI (iZ x1)), some (aI (iZ x2)), some (aR (some (70, 0, 0))), none], [], am_hp ((sJ σ1 (70, 0, 0) (up (σ1.2.1 (70, 0, 0)) (0 : Int).toNat r1))), t) Q) : Wp k_L_priceBy d (0, [some (aR (some (1, 0, 0))), some (aI (iZ x1)), some (aI (iZ x2)), some (aR (some (70, 0, 0))), none], [], am_hp σ, t) Q := by
  refine w_s (c' := (1, [some (aR (some (1, 0, 0))), some (aI (iZ x1)), some (aI (iZ x2)), some (aR (some (70, 0, 0))), none], [aR (some (70, 0, 0))], am_hp σ, t)) rfl rfl ?_
  refine w_psh rfl zc_0 rfl ?_
  refine w_s (c' := (3, [some (aR (some (1, 0, 0))), some (aI (iZ x1)), some (aI (iZ x2)), some (aR (some (70, 0, 0))), none], [aR (some (1, 0, 0)), aI (iZ 0), aR (some (70, 0, 0))], am_hp σ, t)) rfl rfl ?_
  refine w_s (c' := (4, [some (aR (some (1, 0, 0))), some (aI (iZ x1)), some (aI (iZ x2)), some (aR (some (70, 0, 0))), none], [aI (iZ x1), aR (some (1, 0, 0)), aI (iZ 0), aR (some (70, 0, 0))], am_hp σ, t)) rfl rfl ?_
  refine w_s (c' := (5, [some (aR (some (1, 0, 0))), some (aI (iZ x1)), some (aI (iZ x2)), some (aR (some (70, 0, 0))), none], [aI (iZ x2), aI (iZ x1), aR (some (1, 0, 0)), aI (iZ 0), aR (some (70, 0, 0))], am_hp σ, t)) rfl rfl ?_
  refine w_c0 (c' := (8, [some (aR (some (1, 0, 0))), some (aI (iZ x1)), some (aI (iZ x2)), some (aR (some (70, 0, 0))), none], [aI (iZ r1), aI (iZ 0), aR (some (70, 0, 0))], am_hp σ1, t)) rfl rfl (rcv_of (hp_1 _ 0)) rfl c1 (Nat.le_refl _) rfl ?_
  refine w_i2l rfl rfl h2 ?_
  refine w_las rfl (mk_70 _ 0 0) (by decide) rfl rfl rfl ?_
  refine w_s (c' := (21, [some (aR (some (1, 0, 0))), some (aI (iZ x1)), some (aI (iZ x2)), some (aR (some (70, 0, 0))), none], [], am_hp ((sJ σ1 (70, 0, 0) (up (σ1.2.1 (70, 0, 0)) (0 : Int).toNat r1))), t)) rfl rfl ?_
  exact w3

theorem bh_L_priceBy_0_2 {x1 : Int} {x2 : Int} {σ σ1 : SG} {t t' : KT} (c1 : Ca d 116 [aR (some (1, 0, 0)), aI (iZ x1), aI (iZ x2)] (am_hp σ) t (.inr 2, am_hp σ1, t')) (w2 : Wp k_L_priceBy d (15, [some (aR (some (1, 0, 0))), some (aI (iZ x1)), some (aI (iZ x2)), some (aR (some (70, 0, 0))), none], [], am_hp σ1, t') Q) : Wp k_L_priceBy d (0, [some (aR (some (1, 0, 0))), some (aI (iZ x1)), some (aI (iZ x2)), some (aR (some (70, 0, 0))), none], [], am_hp σ, t) Q := by
  refine w_s (c' := (1, [some (aR (some (1, 0, 0))), some (aI (iZ x1)), some (aI (iZ x2)), some (aR (some (70, 0, 0))), none], [aR (some (70, 0, 0))], am_hp σ, t)) rfl rfl ?_
  refine w_psh rfl zc_0 rfl ?_
  refine w_s (c' := (3, [some (aR (some (1, 0, 0))), some (aI (iZ x1)), some (aI (iZ x2)), some (aR (some (70, 0, 0))), none], [aR (some (1, 0, 0)), aI (iZ 0), aR (some (70, 0, 0))], am_hp σ, t)) rfl rfl ?_
  refine w_s (c' := (4, [some (aR (some (1, 0, 0))), some (aI (iZ x1)), some (aI (iZ x2)), some (aR (some (70, 0, 0))), none], [aI (iZ x1), aR (some (1, 0, 0)), aI (iZ 0), aR (some (70, 0, 0))], am_hp σ, t)) rfl rfl ?_
  refine w_s (c' := (5, [some (aR (some (1, 0, 0))), some (aI (iZ x1)), some (aI (iZ x2)), some (aR (some (70, 0, 0))), none], [aI (iZ x2), aI (iZ x1), aR (some (1, 0, 0)), aI (iZ 0), aR (some (70, 0, 0))], am_hp σ, t)) rfl rfl ?_
  exact w_h rfl rfl (rcv_of (hp_1 _ 0)) rfl c1 (Nat.le_refl _) rfl rfl rfl w2

theorem bh_L_priceBy_0_1 {x1 : Int} {x2 : Int} {σ σ1 : SG} {t t' : KT} (c1 : Ca d 116 [aR (some (1, 0, 0)), aI (iZ x1), aI (iZ x2)] (am_hp σ) t (.inr 1, am_hp σ1, t')) (w2 : Wp k_L_priceBy d (19, [some (aR (some (1, 0, 0))), some (aI (iZ x1)), some (aI (iZ x2)), some (aR (some (70, 0, 0))), none], [], am_hp σ1, t') Q) : Wp k_L_priceBy d (0, [some (aR (some (1, 0, 0))), some (aI (iZ x1)), some (aI (iZ x2)), some (aR (some (70, 0, 0))), none], [], am_hp σ, t) Q := by
  refine w_s (c' := (1, [some (aR (some (1, 0, 0))), some (aI (iZ x1)), some (aI (iZ x2)), some (aR (some (70, 0, 0))), none], [aR (some (70, 0, 0))], am_hp σ, t)) rfl rfl ?_
  refine w_psh rfl zc_0 rfl ?_
  refine w_s (c' := (3, [some (aR (some (1, 0, 0))), some (aI (iZ x1)), some (aI (iZ x2)), some (aR (some (70, 0, 0))), none], [aR (some (1, 0, 0)), aI (iZ 0), aR (some (70, 0, 0))], am_hp σ, t)) rfl rfl ?_
  refine w_s (c' := (4, [some (aR (some (1, 0, 0))), some (aI (iZ x1)), some (aI (iZ x2)), some (aR (some (70, 0, 0))), none], [aI (iZ x1), aR (some (1, 0, 0)), aI (iZ 0), aR (some (70, 0, 0))], am_hp σ, t)) rfl rfl ?_
  refine w_s (c' := (5, [some (aR (some (1, 0, 0))), some (aI (iZ x1)), some (aI (iZ x2)), some (aR (some (70, 0, 0))), none], [aI (iZ x2), aI (iZ x1), aR (some (1, 0, 0)), aI (iZ 0), aR (some (70, 0, 0))], am_hp σ, t)) rfl rfl ?_
  exact w_h rfl rfl (rcv_of (hp_1 _ 0)) rfl c1 (Nat.le_refl _) rfl rfl rfl w2

theorem e_L_priceBy {x1 : Int} {x2 : Int} {h : AH} {t : KT} {d : Nat} {P : RS → Prop} (w : Wp k_L_priceBy d (0, [some (aR (some (1, 0, 0))), some (aI (iZ x1)), some (aI (iZ x2)), some (aR (some (70, 0, 0))), none], [], h, t) P) : ∃ r, Ca (d + 1) 366 [aR (some (1, 0, 0)), aI (iZ x1), aI (iZ x2), aR (some (70, 0, 0))] h t r ∧ P r := ca_W rfl rfl rfl rfl w

theorem b_L_priceBy_15 {x1 : Int} {x2 : Int} {σ : SG} {t : KT} (q1 : Q (.inl (some (aI (iZ 1))), am_hp σ, t)) : Wp k_L_priceBy d (15, [some (aR (some (1, 0, 0))), some (aI (iZ x1)), some (aI (iZ x2)), some (aR (some (70, 0, 0))), none], [], am_hp σ, t) Q := by
  refine w_psh rfl zc_1 rfl ?_
  exact w_ret rfl rfl q1

theorem b_L_priceBy_19 {x1 : Int} {x2 : Int} {σ : SG} {t : KT} (q1 : Q (.inl (some (aI (iZ 2))), am_hp σ, t)) : Wp k_L_priceBy d (19, [some (aR (some (1, 0, 0))), some (aI (iZ x1)), some (aI (iZ x2)), some (aR (some (70, 0, 0))), none], [], am_hp σ, t) Q := by
  refine w_psh rfl zc_2 rfl ?_
  exact w_ret rfl rfl q1

theorem b_L_priceBy_21 {x1 : Int} {x2 : Int} {σ : SG} {t : KT} (q1 : Q (.inl (some (aI (iZ 0))), am_hp σ, t)) : Wp k_L_priceBy d (21, [some (aR (some (1, 0, 0))), some (aI (iZ x1)), some (aI (iZ x2)), some (aR (some (70, 0, 0))), none], [], am_hp σ, t) Q := by
  refine w_psh rfl zc_0 rfl ?_
  exact w_ret rfl rfl q1

theorem b_L_wordsIf_0 {x1 : Int} {x2 : Int} {x3 : Int} {r1 : Int} {σ σ1 : SG} {t : KT} (c1 : Ca d 117 [aR (some (1, 0, 0)), aI (iZ x1), aI (iZ x2), aI (iZ x3)] (am_hp σ) t (.inl (some (aI (iZ r1))), am_hp σ1, t)) (h2 : -2147483648 ≤ r1 ∧ r1 < 2147483648) (w3 : Wp k_L_wordsIf d (23, [some (aR (some (1, 0, 0))), some (aI (iZ x1)), some (aI (iZ x2)), some (aI (iZ x3)), some (aR (some (70, 0, 0))), none], [], am_hp ((sJ σ1 (70, 0, 0) (up (σ1.2.1 (70, 0, 0)) (0 : Int).toNat r1))), t) Q) : Wp k_L_wordsIf d (0, [some (aR (some (1, 0, 0))), some (aI (iZ x1)), some (aI (iZ x2)), some (aI (iZ x3)), some (aR (some (70, 0, 0))), none], [], am_hp σ, t) Q := by
  refine w_s (c' := (2, [some (aR (some (1, 0, 0))), some (aI (iZ x1)), some (aI (iZ x2)), some (aI (iZ x3)), some (aR (some (70, 0, 0))), none], [aR (some (70, 0, 0))], am_hp σ, t)) rfl rfl ?_
  refine w_psh rfl zc_0 rfl ?_
  refine w_s (c' := (4, [some (aR (some (1, 0, 0))), some (aI (iZ x1)), some (aI (iZ x2)), some (aI (iZ x3)), some (aR (some (70, 0, 0))), none], [aR (some (1, 0, 0)), aI (iZ 0), aR (some (70, 0, 0))], am_hp σ, t)) rfl rfl ?_
  refine w_s (c' := (5, [some (aR (some (1, 0, 0))), some (aI (iZ x1)), some (aI (iZ x2)), some (aI (iZ x3)), some (aR (some (70, 0, 0))), none], [aI (iZ x1), aR (some (1, 0, 0)), aI (iZ 0), aR (some (70, 0, 0))], am_hp σ, t)) rfl rfl ?_
  refine w_s (c' := (6, [some (aR (some (1, 0, 0))), some (aI (iZ x1)), some (aI (iZ x2)), some (aI (iZ x3)), some (aR (some (70, 0, 0))), none], [aI (iZ x2), aI (iZ x1), aR (some (1, 0, 0)), aI (iZ 0), aR (some (70, 0, 0))], am_hp σ, t)) rfl rfl ?_
  refine w_s (c' := (7, [some (aR (some (1, 0, 0))), some (aI (iZ x1)), some (aI (iZ x2)), some (aI (iZ x3)), some (aR (some (70, 0, 0))), none], [aI (iZ x3), aI (iZ x2), aI (iZ x1), aR (some (1, 0, 0)), aI (iZ 0), aR (some (70, 0, 0))], am_hp σ, t)) rfl rfl ?_
  refine w_c0 (c' := (10, [some (aR (some (1, 0, 0))), some (aI (iZ x1)), some (aI (iZ x2)), some (aI (iZ x3)), some (aR (some (70, 0, 0))), none], [aI (iZ r1), aI (iZ 0), aR (some (70, 0, 0))], am_hp σ1, t)) rfl rfl (rcv_of (hp_1 _ 0)) rfl c1 (Nat.le_refl _) rfl ?_
  refine w_i2l rfl rfl h2 ?_
  refine w_las rfl (mk_70 _ 0 0) (by decide) rfl rfl rfl ?_
  refine w_s (c' := (23, [some (aR (some (1, 0, 0))), some (aI (iZ x1)), some (aI (iZ x2)), some (aI (iZ x3)), some (aR (some (70, 0, 0))), none], [], am_hp ((sJ σ1 (70, 0, 0) (up (σ1.2.1 (70, 0, 0)) (0 : Int).toNat r1))), t)) rfl rfl ?_
  exact w3

theorem bh_L_wordsIf_0_2 {x1 : Int} {x2 : Int} {x3 : Int} {σ σ1 : SG} {t t' : KT} (c1 : Ca d 117 [aR (some (1, 0, 0)), aI (iZ x1), aI (iZ x2), aI (iZ x3)] (am_hp σ) t (.inr 2, am_hp σ1, t')) (w2 : Wp k_L_wordsIf d (17, [some (aR (some (1, 0, 0))), some (aI (iZ x1)), some (aI (iZ x2)), some (aI (iZ x3)), some (aR (some (70, 0, 0))), none], [], am_hp σ1, t') Q) : Wp k_L_wordsIf d (0, [some (aR (some (1, 0, 0))), some (aI (iZ x1)), some (aI (iZ x2)), some (aI (iZ x3)), some (aR (some (70, 0, 0))), none], [], am_hp σ, t) Q := by
  refine w_s (c' := (2, [some (aR (some (1, 0, 0))), some (aI (iZ x1)), some (aI (iZ x2)), some (aI (iZ x3)), some (aR (some (70, 0, 0))), none], [aR (some (70, 0, 0))], am_hp σ, t)) rfl rfl ?_
  refine w_psh rfl zc_0 rfl ?_
  refine w_s (c' := (4, [some (aR (some (1, 0, 0))), some (aI (iZ x1)), some (aI (iZ x2)), some (aI (iZ x3)), some (aR (some (70, 0, 0))), none], [aR (some (1, 0, 0)), aI (iZ 0), aR (some (70, 0, 0))], am_hp σ, t)) rfl rfl ?_
  refine w_s (c' := (5, [some (aR (some (1, 0, 0))), some (aI (iZ x1)), some (aI (iZ x2)), some (aI (iZ x3)), some (aR (some (70, 0, 0))), none], [aI (iZ x1), aR (some (1, 0, 0)), aI (iZ 0), aR (some (70, 0, 0))], am_hp σ, t)) rfl rfl ?_
  refine w_s (c' := (6, [some (aR (some (1, 0, 0))), some (aI (iZ x1)), some (aI (iZ x2)), some (aI (iZ x3)), some (aR (some (70, 0, 0))), none], [aI (iZ x2), aI (iZ x1), aR (some (1, 0, 0)), aI (iZ 0), aR (some (70, 0, 0))], am_hp σ, t)) rfl rfl ?_
  refine w_s (c' := (7, [some (aR (some (1, 0, 0))), some (aI (iZ x1)), some (aI (iZ x2)), some (aI (iZ x3)), some (aR (some (70, 0, 0))), none], [aI (iZ x3), aI (iZ x2), aI (iZ x1), aR (some (1, 0, 0)), aI (iZ 0), aR (some (70, 0, 0))], am_hp σ, t)) rfl rfl ?_
  exact w_h rfl rfl (rcv_of (hp_1 _ 0)) rfl c1 (Nat.le_refl _) rfl rfl rfl w2

theorem bh_L_wordsIf_0_1 {x1 : Int} {x2 : Int} {x3 : Int} {σ σ1 : SG} {t t' : KT} (c1 : Ca d 117 [aR (some (1, 0, 0)), aI (iZ x1), aI (iZ x2), aI (iZ x3)] (am_hp σ) t (.inr 1, am_hp σ1, t')) (w2 : Wp k_L_wordsIf d (21, [some (aR (some (1, 0, 0))), some (aI (iZ x1)), some (aI (iZ x2)), some (aI (iZ x3)), some (aR (some (70, 0, 0))), none], [], am_hp σ1, t') Q) : Wp k_L_wordsIf d (0, [some (aR (some (1, 0, 0))), some (aI (iZ x1)), some (aI (iZ x2)), some (aI (iZ x3)), some (aR (some (70, 0, 0))), none], [], am_hp σ, t) Q := by
  refine w_s (c' := (2, [some (aR (some (1, 0, 0))), some (aI (iZ x1)), some (aI (iZ x2)), some (aI (iZ x3)), some (aR (some (70, 0, 0))), none], [aR (some (70, 0, 0))], am_hp σ, t)) rfl rfl ?_
  refine w_psh rfl zc_0 rfl ?_
  refine w_s (c' := (4, [some (aR (some (1, 0, 0))), some (aI (iZ x1)), some (aI (iZ x2)), some (aI (iZ x3)), some (aR (some (70, 0, 0))), none], [aR (some (1, 0, 0)), aI (iZ 0), aR (some (70, 0, 0))], am_hp σ, t)) rfl rfl ?_
  refine w_s (c' := (5, [some (aR (some (1, 0, 0))), some (aI (iZ x1)), some (aI (iZ x2)), some (aI (iZ x3)), some (aR (some (70, 0, 0))), none], [aI (iZ x1), aR (some (1, 0, 0)), aI (iZ 0), aR (some (70, 0, 0))], am_hp σ, t)) rfl rfl ?_
  refine w_s (c' := (6, [some (aR (some (1, 0, 0))), some (aI (iZ x1)), some (aI (iZ x2)), some (aI (iZ x3)), some (aR (some (70, 0, 0))), none], [aI (iZ x2), aI (iZ x1), aR (some (1, 0, 0)), aI (iZ 0), aR (some (70, 0, 0))], am_hp σ, t)) rfl rfl ?_
  refine w_s (c' := (7, [some (aR (some (1, 0, 0))), some (aI (iZ x1)), some (aI (iZ x2)), some (aI (iZ x3)), some (aR (some (70, 0, 0))), none], [aI (iZ x3), aI (iZ x2), aI (iZ x1), aR (some (1, 0, 0)), aI (iZ 0), aR (some (70, 0, 0))], am_hp σ, t)) rfl rfl ?_
  exact w_h rfl rfl (rcv_of (hp_1 _ 0)) rfl c1 (Nat.le_refl _) rfl rfl rfl w2

theorem e_L_wordsIf {x1 : Int} {x2 : Int} {x3 : Int} {h : AH} {t : KT} {d : Nat} {P : RS → Prop} (w : Wp k_L_wordsIf d (0, [some (aR (some (1, 0, 0))), some (aI (iZ x1)), some (aI (iZ x2)), some (aI (iZ x3)), some (aR (some (70, 0, 0))), none], [], h, t) P) : ∃ r, Ca (d + 1) 367 [aR (some (1, 0, 0)), aI (iZ x1), aI (iZ x2), aI (iZ x3), aR (some (70, 0, 0))] h t r ∧ P r := ca_W rfl rfl rfl rfl w

theorem b_L_wordsIf_17 {x1 : Int} {x2 : Int} {x3 : Int} {σ : SG} {t : KT} (q1 : Q (.inl (some (aI (iZ 1))), am_hp σ, t)) : Wp k_L_wordsIf d (17, [some (aR (some (1, 0, 0))), some (aI (iZ x1)), some (aI (iZ x2)), some (aI (iZ x3)), some (aR (some (70, 0, 0))), none], [], am_hp σ, t) Q := by
  refine w_psh rfl zc_1 rfl ?_
  exact w_ret rfl rfl q1

theorem b_L_wordsIf_21 {x1 : Int} {x2 : Int} {x3 : Int} {σ : SG} {t : KT} (q1 : Q (.inl (some (aI (iZ 2))), am_hp σ, t)) : Wp k_L_wordsIf d (21, [some (aR (some (1, 0, 0))), some (aI (iZ x1)), some (aI (iZ x2)), some (aI (iZ x3)), some (aR (some (70, 0, 0))), none], [], am_hp σ, t) Q := by
  refine w_psh rfl zc_2 rfl ?_
  exact w_ret rfl rfl q1

theorem b_L_wordsIf_23 {x1 : Int} {x2 : Int} {x3 : Int} {σ : SG} {t : KT} (q1 : Q (.inl (some (aI (iZ 0))), am_hp σ, t)) : Wp k_L_wordsIf d (23, [some (aR (some (1, 0, 0))), some (aI (iZ x1)), some (aI (iZ x2)), some (aI (iZ x3)), some (aR (some (70, 0, 0))), none], [], am_hp σ, t) Q := by
  refine w_psh rfl zc_0 rfl ?_
  exact w_ret rfl rfl q1

theorem b_L_bestRemove_0 {x1 : Int} {r1 : Int} {σ σ1 : SG} {t : KT} (c1 : Ca d 118 [aR (some (1, 0, 0)), aI (iZ x1)] (am_hp σ) t (.inl (some (aI (iZ r1))), am_hp σ1, t)) (h2 : -2147483648 ≤ r1 ∧ r1 < 2147483648) (w3 : Wp k_L_bestRemove d (15, [some (aR (some (1, 0, 0))), some (aI (iZ x1)), some (aR (some (70, 0, 0))), none], [], am_hp ((sJ σ1 (70, 0, 0) (up (σ1.2.1 (70, 0, 0)) (0 : Int).toNat r1))), t) Q) : Wp k_L_bestRemove d (0, [some (aR (some (1, 0, 0))), some (aI (iZ x1)), some (aR (some (70, 0, 0))), none], [], am_hp σ, t) Q := by
  refine w_s (c' := (1, [some (aR (some (1, 0, 0))), some (aI (iZ x1)), some (aR (some (70, 0, 0))), none], [aR (some (70, 0, 0))], am_hp σ, t)) rfl rfl ?_
  refine w_psh rfl zc_0 rfl ?_
  refine w_s (c' := (3, [some (aR (some (1, 0, 0))), some (aI (iZ x1)), some (aR (some (70, 0, 0))), none], [aR (some (1, 0, 0)), aI (iZ 0), aR (some (70, 0, 0))], am_hp σ, t)) rfl rfl ?_
  refine w_s (c' := (4, [some (aR (some (1, 0, 0))), some (aI (iZ x1)), some (aR (some (70, 0, 0))), none], [aI (iZ x1), aR (some (1, 0, 0)), aI (iZ 0), aR (some (70, 0, 0))], am_hp σ, t)) rfl rfl ?_
  refine w_c0 (c' := (7, [some (aR (some (1, 0, 0))), some (aI (iZ x1)), some (aR (some (70, 0, 0))), none], [aI (iZ r1), aI (iZ 0), aR (some (70, 0, 0))], am_hp σ1, t)) rfl rfl (rcv_of (hp_1 _ 0)) rfl c1 (Nat.le_refl _) rfl ?_
  refine w_i2l rfl rfl h2 ?_
  refine w_las rfl (mk_70 _ 0 0) (by decide) rfl rfl rfl ?_
  refine w_s (c' := (15, [some (aR (some (1, 0, 0))), some (aI (iZ x1)), some (aR (some (70, 0, 0))), none], [], am_hp ((sJ σ1 (70, 0, 0) (up (σ1.2.1 (70, 0, 0)) (0 : Int).toNat r1))), t)) rfl rfl ?_
  exact w3

theorem bh_L_bestRemove_0_2 {x1 : Int} {σ σ1 : SG} {t t' : KT} (c1 : Ca d 118 [aR (some (1, 0, 0)), aI (iZ x1)] (am_hp σ) t (.inr 2, am_hp σ1, t')) (w2 : Wp k_L_bestRemove d (13, [some (aR (some (1, 0, 0))), some (aI (iZ x1)), some (aR (some (70, 0, 0))), none], [], am_hp σ1, t') Q) : Wp k_L_bestRemove d (0, [some (aR (some (1, 0, 0))), some (aI (iZ x1)), some (aR (some (70, 0, 0))), none], [], am_hp σ, t) Q := by
  refine w_s (c' := (1, [some (aR (some (1, 0, 0))), some (aI (iZ x1)), some (aR (some (70, 0, 0))), none], [aR (some (70, 0, 0))], am_hp σ, t)) rfl rfl ?_
  refine w_psh rfl zc_0 rfl ?_
  refine w_s (c' := (3, [some (aR (some (1, 0, 0))), some (aI (iZ x1)), some (aR (some (70, 0, 0))), none], [aR (some (1, 0, 0)), aI (iZ 0), aR (some (70, 0, 0))], am_hp σ, t)) rfl rfl ?_
  refine w_s (c' := (4, [some (aR (some (1, 0, 0))), some (aI (iZ x1)), some (aR (some (70, 0, 0))), none], [aI (iZ x1), aR (some (1, 0, 0)), aI (iZ 0), aR (some (70, 0, 0))], am_hp σ, t)) rfl rfl ?_
  exact w_h rfl rfl (rcv_of (hp_1 _ 0)) rfl c1 (Nat.le_refl _) rfl rfl rfl w2

theorem e_L_bestRemove {x1 : Int} {h : AH} {t : KT} {d : Nat} {P : RS → Prop} (w : Wp k_L_bestRemove d (0, [some (aR (some (1, 0, 0))), some (aI (iZ x1)), some (aR (some (70, 0, 0))), none], [], h, t) P) : ∃ r, Ca (d + 1) 368 [aR (some (1, 0, 0)), aI (iZ x1), aR (some (70, 0, 0))] h t r ∧ P r := ca_W rfl rfl rfl rfl w

theorem b_L_bestRemove_13 {x1 : Int} {σ : SG} {t : KT} (q1 : Q (.inl (some (aI (iZ 1))), am_hp σ, t)) : Wp k_L_bestRemove d (13, [some (aR (some (1, 0, 0))), some (aI (iZ x1)), some (aR (some (70, 0, 0))), none], [], am_hp σ, t) Q := by
  refine w_psh rfl zc_1 rfl ?_
  exact w_ret rfl rfl q1

theorem b_L_bestRemove_15 {x1 : Int} {σ : SG} {t : KT} (q1 : Q (.inl (some (aI (iZ 0))), am_hp σ, t)) : Wp k_L_bestRemove d (15, [some (aR (some (1, 0, 0))), some (aI (iZ x1)), some (aR (some (70, 0, 0))), none], [], am_hp σ, t) Q := by
  refine w_psh rfl zc_0 rfl ?_
  exact w_ret rfl rfl q1

theorem b_L_dearWay_0 {x1 : Int} {r1 : Int} {σ σ1 : SG} {t : KT} (c1 : Ca d 119 [aR (some (1, 0, 0)), aI (iZ x1)] (am_hp σ) t (.inl (some (aI (iZ r1))), am_hp σ1, t)) (h2 : -2147483648 ≤ r1 ∧ r1 < 2147483648) (w3 : Wp k_L_dearWay d (15, [some (aR (some (1, 0, 0))), some (aI (iZ x1)), some (aR (some (70, 0, 0))), none], [], am_hp ((sJ σ1 (70, 0, 0) (up (σ1.2.1 (70, 0, 0)) (0 : Int).toNat r1))), t) Q) : Wp k_L_dearWay d (0, [some (aR (some (1, 0, 0))), some (aI (iZ x1)), some (aR (some (70, 0, 0))), none], [], am_hp σ, t) Q := by
  refine w_s (c' := (1, [some (aR (some (1, 0, 0))), some (aI (iZ x1)), some (aR (some (70, 0, 0))), none], [aR (some (70, 0, 0))], am_hp σ, t)) rfl rfl ?_
  refine w_psh rfl zc_0 rfl ?_
  refine w_s (c' := (3, [some (aR (some (1, 0, 0))), some (aI (iZ x1)), some (aR (some (70, 0, 0))), none], [aR (some (1, 0, 0)), aI (iZ 0), aR (some (70, 0, 0))], am_hp σ, t)) rfl rfl ?_
  refine w_s (c' := (4, [some (aR (some (1, 0, 0))), some (aI (iZ x1)), some (aR (some (70, 0, 0))), none], [aI (iZ x1), aR (some (1, 0, 0)), aI (iZ 0), aR (some (70, 0, 0))], am_hp σ, t)) rfl rfl ?_
  refine w_c0 (c' := (7, [some (aR (some (1, 0, 0))), some (aI (iZ x1)), some (aR (some (70, 0, 0))), none], [aI (iZ r1), aI (iZ 0), aR (some (70, 0, 0))], am_hp σ1, t)) rfl rfl (rcv_of (hp_1 _ 0)) rfl c1 (Nat.le_refl _) rfl ?_
  refine w_i2l rfl rfl h2 ?_
  refine w_las rfl (mk_70 _ 0 0) (by decide) rfl rfl rfl ?_
  refine w_s (c' := (15, [some (aR (some (1, 0, 0))), some (aI (iZ x1)), some (aR (some (70, 0, 0))), none], [], am_hp ((sJ σ1 (70, 0, 0) (up (σ1.2.1 (70, 0, 0)) (0 : Int).toNat r1))), t)) rfl rfl ?_
  exact w3

theorem bh_L_dearWay_0_2 {x1 : Int} {σ σ1 : SG} {t t' : KT} (c1 : Ca d 119 [aR (some (1, 0, 0)), aI (iZ x1)] (am_hp σ) t (.inr 2, am_hp σ1, t')) (w2 : Wp k_L_dearWay d (13, [some (aR (some (1, 0, 0))), some (aI (iZ x1)), some (aR (some (70, 0, 0))), none], [], am_hp σ1, t') Q) : Wp k_L_dearWay d (0, [some (aR (some (1, 0, 0))), some (aI (iZ x1)), some (aR (some (70, 0, 0))), none], [], am_hp σ, t) Q := by
  refine w_s (c' := (1, [some (aR (some (1, 0, 0))), some (aI (iZ x1)), some (aR (some (70, 0, 0))), none], [aR (some (70, 0, 0))], am_hp σ, t)) rfl rfl ?_
  refine w_psh rfl zc_0 rfl ?_
  refine w_s (c' := (3, [some (aR (some (1, 0, 0))), some (aI (iZ x1)), some (aR (some (70, 0, 0))), none], [aR (some (1, 0, 0)), aI (iZ 0), aR (some (70, 0, 0))], am_hp σ, t)) rfl rfl ?_
  refine w_s (c' := (4, [some (aR (some (1, 0, 0))), some (aI (iZ x1)), some (aR (some (70, 0, 0))), none], [aI (iZ x1), aR (some (1, 0, 0)), aI (iZ 0), aR (some (70, 0, 0))], am_hp σ, t)) rfl rfl ?_
  exact w_h rfl rfl (rcv_of (hp_1 _ 0)) rfl c1 (Nat.le_refl _) rfl rfl rfl w2

theorem e_L_dearWay {x1 : Int} {h : AH} {t : KT} {d : Nat} {P : RS → Prop} (w : Wp k_L_dearWay d (0, [some (aR (some (1, 0, 0))), some (aI (iZ x1)), some (aR (some (70, 0, 0))), none], [], h, t) P) : ∃ r, Ca (d + 1) 369 [aR (some (1, 0, 0)), aI (iZ x1), aR (some (70, 0, 0))] h t r ∧ P r := ca_W rfl rfl rfl rfl w

theorem b_L_dearWay_13 {x1 : Int} {σ : SG} {t : KT} (q1 : Q (.inl (some (aI (iZ 1))), am_hp σ, t)) : Wp k_L_dearWay d (13, [some (aR (some (1, 0, 0))), some (aI (iZ x1)), some (aR (some (70, 0, 0))), none], [], am_hp σ, t) Q := by
  refine w_psh rfl zc_1 rfl ?_
  exact w_ret rfl rfl q1

theorem b_L_dearWay_15 {x1 : Int} {σ : SG} {t : KT} (q1 : Q (.inl (some (aI (iZ 0))), am_hp σ, t)) : Wp k_L_dearWay d (15, [some (aR (some (1, 0, 0))), some (aI (iZ x1)), some (aR (some (70, 0, 0))), none], [], am_hp σ, t) Q := by
  refine w_psh rfl zc_0 rfl ?_
  exact w_ret rfl rfl q1

theorem b_L_wordsTogether_0 {x1 : Int} {x2 : Int} {r1 : Int} {σ σ1 : SG} {t : KT} (c1 : Ca d 120 [aR (some (1, 0, 0)), aI (iZ x1), aI (iZ x2)] (am_hp σ) t (.inl (some (aI (iZ r1))), am_hp σ1, t)) (h2 : -2147483648 ≤ r1 ∧ r1 < 2147483648) (w3 : Wp k_L_wordsTogether d (17, [some (aR (some (1, 0, 0))), some (aI (iZ x1)), some (aI (iZ x2)), some (aR (some (70, 0, 0))), none], [], am_hp ((sJ σ1 (70, 0, 0) (up (σ1.2.1 (70, 0, 0)) (0 : Int).toNat r1))), t) Q) : Wp k_L_wordsTogether d (0, [some (aR (some (1, 0, 0))), some (aI (iZ x1)), some (aI (iZ x2)), some (aR (some (70, 0, 0))), none], [], am_hp σ, t) Q := by
  refine w_s (c' := (1, [some (aR (some (1, 0, 0))), some (aI (iZ x1)), some (aI (iZ x2)), some (aR (some (70, 0, 0))), none], [aR (some (70, 0, 0))], am_hp σ, t)) rfl rfl ?_
  refine w_psh rfl zc_0 rfl ?_
  refine w_s (c' := (3, [some (aR (some (1, 0, 0))), some (aI (iZ x1)), some (aI (iZ x2)), some (aR (some (70, 0, 0))), none], [aR (some (1, 0, 0)), aI (iZ 0), aR (some (70, 0, 0))], am_hp σ, t)) rfl rfl ?_
  refine w_s (c' := (4, [some (aR (some (1, 0, 0))), some (aI (iZ x1)), some (aI (iZ x2)), some (aR (some (70, 0, 0))), none], [aI (iZ x1), aR (some (1, 0, 0)), aI (iZ 0), aR (some (70, 0, 0))], am_hp σ, t)) rfl rfl ?_
  refine w_s (c' := (5, [some (aR (some (1, 0, 0))), some (aI (iZ x1)), some (aI (iZ x2)), some (aR (some (70, 0, 0))), none], [aI (iZ x2), aI (iZ x1), aR (some (1, 0, 0)), aI (iZ 0), aR (some (70, 0, 0))], am_hp σ, t)) rfl rfl ?_
  refine w_c0 (c' := (8, [some (aR (some (1, 0, 0))), some (aI (iZ x1)), some (aI (iZ x2)), some (aR (some (70, 0, 0))), none], [aI (iZ r1), aI (iZ 0), aR (some (70, 0, 0))], am_hp σ1, t)) rfl rfl (rcv_of (hp_1 _ 0)) rfl c1 (Nat.le_refl _) rfl ?_
  refine w_i2l rfl rfl h2 ?_
  refine w_las rfl (mk_70 _ 0 0) (by decide) rfl rfl rfl ?_
  refine w_s (c' := (17, [some (aR (some (1, 0, 0))), some (aI (iZ x1)), some (aI (iZ x2)), some (aR (some (70, 0, 0))), none], [], am_hp ((sJ σ1 (70, 0, 0) (up (σ1.2.1 (70, 0, 0)) (0 : Int).toNat r1))), t)) rfl rfl ?_
  exact w3

theorem bh_L_wordsTogether_0_2 {x1 : Int} {x2 : Int} {σ σ1 : SG} {t t' : KT} (c1 : Ca d 120 [aR (some (1, 0, 0)), aI (iZ x1), aI (iZ x2)] (am_hp σ) t (.inr 2, am_hp σ1, t')) (w2 : Wp k_L_wordsTogether d (15, [some (aR (some (1, 0, 0))), some (aI (iZ x1)), some (aI (iZ x2)), some (aR (some (70, 0, 0))), none], [], am_hp σ1, t') Q) : Wp k_L_wordsTogether d (0, [some (aR (some (1, 0, 0))), some (aI (iZ x1)), some (aI (iZ x2)), some (aR (some (70, 0, 0))), none], [], am_hp σ, t) Q := by
  refine w_s (c' := (1, [some (aR (some (1, 0, 0))), some (aI (iZ x1)), some (aI (iZ x2)), some (aR (some (70, 0, 0))), none], [aR (some (70, 0, 0))], am_hp σ, t)) rfl rfl ?_
  refine w_psh rfl zc_0 rfl ?_
  refine w_s (c' := (3, [some (aR (some (1, 0, 0))), some (aI (iZ x1)), some (aI (iZ x2)), some (aR (some (70, 0, 0))), none], [aR (some (1, 0, 0)), aI (iZ 0), aR (some (70, 0, 0))], am_hp σ, t)) rfl rfl ?_
  refine w_s (c' := (4, [some (aR (some (1, 0, 0))), some (aI (iZ x1)), some (aI (iZ x2)), some (aR (some (70, 0, 0))), none], [aI (iZ x1), aR (some (1, 0, 0)), aI (iZ 0), aR (some (70, 0, 0))], am_hp σ, t)) rfl rfl ?_
  refine w_s (c' := (5, [some (aR (some (1, 0, 0))), some (aI (iZ x1)), some (aI (iZ x2)), some (aR (some (70, 0, 0))), none], [aI (iZ x2), aI (iZ x1), aR (some (1, 0, 0)), aI (iZ 0), aR (some (70, 0, 0))], am_hp σ, t)) rfl rfl ?_
  exact w_h rfl rfl (rcv_of (hp_1 _ 0)) rfl c1 (Nat.le_refl _) rfl rfl rfl w2

theorem e_L_wordsTogether {x1 : Int} {x2 : Int} {h : AH} {t : KT} {d : Nat} {P : RS → Prop} (w : Wp k_L_wordsTogether d (0, [some (aR (some (1, 0, 0))), some (aI (iZ x1)), some (aI (iZ x2)), some (aR (some (70, 0, 0))), none], [], h, t) P) : ∃ r, Ca (d + 1) 370 [aR (some (1, 0, 0)), aI (iZ x1), aI (iZ x2), aR (some (70, 0, 0))] h t r ∧ P r := ca_W rfl rfl rfl rfl w

theorem b_L_wordsTogether_15 {x1 : Int} {x2 : Int} {σ : SG} {t : KT} (q1 : Q (.inl (some (aI (iZ 1))), am_hp σ, t)) : Wp k_L_wordsTogether d (15, [some (aR (some (1, 0, 0))), some (aI (iZ x1)), some (aI (iZ x2)), some (aR (some (70, 0, 0))), none], [], am_hp σ, t) Q := by
  refine w_psh rfl zc_1 rfl ?_
  exact w_ret rfl rfl q1

theorem b_L_wordsTogether_17 {x1 : Int} {x2 : Int} {σ : SG} {t : KT} (q1 : Q (.inl (some (aI (iZ 0))), am_hp σ, t)) : Wp k_L_wordsTogether d (17, [some (aR (some (1, 0, 0))), some (aI (iZ x1)), some (aI (iZ x2)), some (aR (some (70, 0, 0))), none], [], am_hp σ, t) Q := by
  refine w_psh rfl zc_0 rfl ?_
  exact w_ret rfl rfl q1

theorem b_L_bestSkip_0 {x1 : Int} {r1 : Int} {σ σ1 : SG} {t : KT} (c1 : Ca d 121 [aR (some (1, 0, 0)), aI (iZ x1)] (am_hp σ) t (.inl (some (aI (iZ r1))), am_hp σ1, t)) (h2 : -2147483648 ≤ r1 ∧ r1 < 2147483648) (w3 : Wp k_L_bestSkip d (15, [some (aR (some (1, 0, 0))), some (aI (iZ x1)), some (aR (some (70, 0, 0))), none], [], am_hp ((sJ σ1 (70, 0, 0) (up (σ1.2.1 (70, 0, 0)) (0 : Int).toNat r1))), t) Q) : Wp k_L_bestSkip d (0, [some (aR (some (1, 0, 0))), some (aI (iZ x1)), some (aR (some (70, 0, 0))), none], [], am_hp σ, t) Q := by
  refine w_s (c' := (1, [some (aR (some (1, 0, 0))), some (aI (iZ x1)), some (aR (some (70, 0, 0))), none], [aR (some (70, 0, 0))], am_hp σ, t)) rfl rfl ?_
  refine w_psh rfl zc_0 rfl ?_
  refine w_s (c' := (3, [some (aR (some (1, 0, 0))), some (aI (iZ x1)), some (aR (some (70, 0, 0))), none], [aR (some (1, 0, 0)), aI (iZ 0), aR (some (70, 0, 0))], am_hp σ, t)) rfl rfl ?_
  refine w_s (c' := (4, [some (aR (some (1, 0, 0))), some (aI (iZ x1)), some (aR (some (70, 0, 0))), none], [aI (iZ x1), aR (some (1, 0, 0)), aI (iZ 0), aR (some (70, 0, 0))], am_hp σ, t)) rfl rfl ?_
  refine w_c0 (c' := (7, [some (aR (some (1, 0, 0))), some (aI (iZ x1)), some (aR (some (70, 0, 0))), none], [aI (iZ r1), aI (iZ 0), aR (some (70, 0, 0))], am_hp σ1, t)) rfl rfl (rcv_of (hp_1 _ 0)) rfl c1 (Nat.le_refl _) rfl ?_
  refine w_i2l rfl rfl h2 ?_
  refine w_las rfl (mk_70 _ 0 0) (by decide) rfl rfl rfl ?_
  refine w_s (c' := (15, [some (aR (some (1, 0, 0))), some (aI (iZ x1)), some (aR (some (70, 0, 0))), none], [], am_hp ((sJ σ1 (70, 0, 0) (up (σ1.2.1 (70, 0, 0)) (0 : Int).toNat r1))), t)) rfl rfl ?_
  exact w3

theorem bh_L_bestSkip_0_2 {x1 : Int} {σ σ1 : SG} {t t' : KT} (c1 : Ca d 121 [aR (some (1, 0, 0)), aI (iZ x1)] (am_hp σ) t (.inr 2, am_hp σ1, t')) (w2 : Wp k_L_bestSkip d (13, [some (aR (some (1, 0, 0))), some (aI (iZ x1)), some (aR (some (70, 0, 0))), none], [], am_hp σ1, t') Q) : Wp k_L_bestSkip d (0, [some (aR (some (1, 0, 0))), some (aI (iZ x1)), some (aR (some (70, 0, 0))), none], [], am_hp σ, t) Q := by
  refine w_s (c' := (1, [some (aR (some (1, 0, 0))), some (aI (iZ x1)), some (aR (some (70, 0, 0))), none], [aR (some (70, 0, 0))], am_hp σ, t)) rfl rfl ?_
  refine w_psh rfl zc_0 rfl ?_
  refine w_s (c' := (3, [some (aR (some (1, 0, 0))), some (aI (iZ x1)), some (aR (some (70, 0, 0))), none], [aR (some (1, 0, 0)), aI (iZ 0), aR (some (70, 0, 0))], am_hp σ, t)) rfl rfl ?_
  refine w_s (c' := (4, [some (aR (some (1, 0, 0))), some (aI (iZ x1)), some (aR (some (70, 0, 0))), none], [aI (iZ x1), aR (some (1, 0, 0)), aI (iZ 0), aR (some (70, 0, 0))], am_hp σ, t)) rfl rfl ?_
  exact w_h rfl rfl (rcv_of (hp_1 _ 0)) rfl c1 (Nat.le_refl _) rfl rfl rfl w2

theorem e_L_bestSkip {x1 : Int} {h : AH} {t : KT} {d : Nat} {P : RS → Prop} (w : Wp k_L_bestSkip d (0, [some (aR (some (1, 0, 0))), some (aI (iZ x1)), some (aR (some (70, 0, 0))), none], [], h, t) P) : ∃ r, Ca (d + 1) 371 [aR (some (1, 0, 0)), aI (iZ x1), aR (some (70, 0, 0))] h t r ∧ P r := ca_W rfl rfl rfl rfl w

theorem b_L_bestSkip_13 {x1 : Int} {σ : SG} {t : KT} (q1 : Q (.inl (some (aI (iZ 1))), am_hp σ, t)) : Wp k_L_bestSkip d (13, [some (aR (some (1, 0, 0))), some (aI (iZ x1)), some (aR (some (70, 0, 0))), none], [], am_hp σ, t) Q := by
  refine w_psh rfl zc_1 rfl ?_
  exact w_ret rfl rfl q1

theorem b_L_bestSkip_15 {x1 : Int} {σ : SG} {t : KT} (q1 : Q (.inl (some (aI (iZ 0))), am_hp σ, t)) : Wp k_L_bestSkip d (15, [some (aR (some (1, 0, 0))), some (aI (iZ x1)), some (aR (some (70, 0, 0))), none], [], am_hp σ, t) Q := by
  refine w_psh rfl zc_0 rfl ?_
  exact w_ret rfl rfl q1

theorem b_L_append_0 {x1 : Int} {x2 : Int} {r1 : Int} {σ σ1 : SG} {t : KT} (c1 : Ca d 123 [aR (some (1, 0, 0)), aI (iZ x1), aI (iZ x2)] (am_hp σ) t (.inl (some (aI (iZ r1))), am_hp σ1, t)) (h2 : -2147483648 ≤ r1 ∧ r1 < 2147483648) (w3 : Wp k_L_append d (21, [some (aR (some (1, 0, 0))), some (aI (iZ x1)), some (aI (iZ x2)), some (aR (some (70, 0, 0))), none], [], am_hp ((sJ σ1 (70, 0, 0) (up (σ1.2.1 (70, 0, 0)) (0 : Int).toNat r1))), t) Q) : Wp k_L_append d (0, [some (aR (some (1, 0, 0))), some (aI (iZ x1)), some (aI (iZ x2)), some (aR (some (70, 0, 0))), none], [], am_hp σ, t) Q := by
  refine w_s (c' := (1, [some (aR (some (1, 0, 0))), some (aI (iZ x1)), some (aI (iZ x2)), some (aR (some (70, 0, 0))), none], [aR (some (70, 0, 0))], am_hp σ, t)) rfl rfl ?_
  refine w_psh rfl zc_0 rfl ?_
  refine w_s (c' := (3, [some (aR (some (1, 0, 0))), some (aI (iZ x1)), some (aI (iZ x2)), some (aR (some (70, 0, 0))), none], [aR (some (1, 0, 0)), aI (iZ 0), aR (some (70, 0, 0))], am_hp σ, t)) rfl rfl ?_
  refine w_s (c' := (4, [some (aR (some (1, 0, 0))), some (aI (iZ x1)), some (aI (iZ x2)), some (aR (some (70, 0, 0))), none], [aI (iZ x1), aR (some (1, 0, 0)), aI (iZ 0), aR (some (70, 0, 0))], am_hp σ, t)) rfl rfl ?_
  refine w_s (c' := (5, [some (aR (some (1, 0, 0))), some (aI (iZ x1)), some (aI (iZ x2)), some (aR (some (70, 0, 0))), none], [aI (iZ x2), aI (iZ x1), aR (some (1, 0, 0)), aI (iZ 0), aR (some (70, 0, 0))], am_hp σ, t)) rfl rfl ?_
  refine w_c0 (c' := (8, [some (aR (some (1, 0, 0))), some (aI (iZ x1)), some (aI (iZ x2)), some (aR (some (70, 0, 0))), none], [aI (iZ r1), aI (iZ 0), aR (some (70, 0, 0))], am_hp σ1, t)) rfl rfl (rcv_of (hp_1 _ 0)) rfl c1 (Nat.le_refl _) rfl ?_
  refine w_i2l rfl rfl h2 ?_
  refine w_las rfl (mk_70 _ 0 0) (by decide) rfl rfl rfl ?_
  refine w_s (c' := (21, [some (aR (some (1, 0, 0))), some (aI (iZ x1)), some (aI (iZ x2)), some (aR (some (70, 0, 0))), none], [], am_hp ((sJ σ1 (70, 0, 0) (up (σ1.2.1 (70, 0, 0)) (0 : Int).toNat r1))), t)) rfl rfl ?_
  exact w3

theorem bh_L_append_0_2 {x1 : Int} {x2 : Int} {σ σ1 : SG} {t t' : KT} (c1 : Ca d 123 [aR (some (1, 0, 0)), aI (iZ x1), aI (iZ x2)] (am_hp σ) t (.inr 2, am_hp σ1, t')) (w2 : Wp k_L_append d (15, [some (aR (some (1, 0, 0))), some (aI (iZ x1)), some (aI (iZ x2)), some (aR (some (70, 0, 0))), none], [], am_hp σ1, t') Q) : Wp k_L_append d (0, [some (aR (some (1, 0, 0))), some (aI (iZ x1)), some (aI (iZ x2)), some (aR (some (70, 0, 0))), none], [], am_hp σ, t) Q := by
  refine w_s (c' := (1, [some (aR (some (1, 0, 0))), some (aI (iZ x1)), some (aI (iZ x2)), some (aR (some (70, 0, 0))), none], [aR (some (70, 0, 0))], am_hp σ, t)) rfl rfl ?_
  refine w_psh rfl zc_0 rfl ?_
  refine w_s (c' := (3, [some (aR (some (1, 0, 0))), some (aI (iZ x1)), some (aI (iZ x2)), some (aR (some (70, 0, 0))), none], [aR (some (1, 0, 0)), aI (iZ 0), aR (some (70, 0, 0))], am_hp σ, t)) rfl rfl ?_
  refine w_s (c' := (4, [some (aR (some (1, 0, 0))), some (aI (iZ x1)), some (aI (iZ x2)), some (aR (some (70, 0, 0))), none], [aI (iZ x1), aR (some (1, 0, 0)), aI (iZ 0), aR (some (70, 0, 0))], am_hp σ, t)) rfl rfl ?_
  refine w_s (c' := (5, [some (aR (some (1, 0, 0))), some (aI (iZ x1)), some (aI (iZ x2)), some (aR (some (70, 0, 0))), none], [aI (iZ x2), aI (iZ x1), aR (some (1, 0, 0)), aI (iZ 0), aR (some (70, 0, 0))], am_hp σ, t)) rfl rfl ?_
  exact w_h rfl rfl (rcv_of (hp_1 _ 0)) rfl c1 (Nat.le_refl _) rfl rfl rfl w2

theorem bh_L_append_0_1 {x1 : Int} {x2 : Int} {σ σ1 : SG} {t t' : KT} (c1 : Ca d 123 [aR (some (1, 0, 0)), aI (iZ x1), aI (iZ x2)] (am_hp σ) t (.inr 1, am_hp σ1, t')) (w2 : Wp k_L_append d (19, [some (aR (some (1, 0, 0))), some (aI (iZ x1)), some (aI (iZ x2)), some (aR (some (70, 0, 0))), none], [], am_hp σ1, t') Q) : Wp k_L_append d (0, [some (aR (some (1, 0, 0))), some (aI (iZ x1)), some (aI (iZ x2)), some (aR (some (70, 0, 0))), none], [], am_hp σ, t) Q := by
  refine w_s (c' := (1, [some (aR (some (1, 0, 0))), some (aI (iZ x1)), some (aI (iZ x2)), some (aR (some (70, 0, 0))), none], [aR (some (70, 0, 0))], am_hp σ, t)) rfl rfl ?_
  refine w_psh rfl zc_0 rfl ?_
  refine w_s (c' := (3, [some (aR (some (1, 0, 0))), some (aI (iZ x1)), some (aI (iZ x2)), some (aR (some (70, 0, 0))), none], [aR (some (1, 0, 0)), aI (iZ 0), aR (some (70, 0, 0))], am_hp σ, t)) rfl rfl ?_
  refine w_s (c' := (4, [some (aR (some (1, 0, 0))), some (aI (iZ x1)), some (aI (iZ x2)), some (aR (some (70, 0, 0))), none], [aI (iZ x1), aR (some (1, 0, 0)), aI (iZ 0), aR (some (70, 0, 0))], am_hp σ, t)) rfl rfl ?_
  refine w_s (c' := (5, [some (aR (some (1, 0, 0))), some (aI (iZ x1)), some (aI (iZ x2)), some (aR (some (70, 0, 0))), none], [aI (iZ x2), aI (iZ x1), aR (some (1, 0, 0)), aI (iZ 0), aR (some (70, 0, 0))], am_hp σ, t)) rfl rfl ?_
  exact w_h rfl rfl (rcv_of (hp_1 _ 0)) rfl c1 (Nat.le_refl _) rfl rfl rfl w2

theorem e_L_append {x1 : Int} {x2 : Int} {h : AH} {t : KT} {d : Nat} {P : RS → Prop} (w : Wp k_L_append d (0, [some (aR (some (1, 0, 0))), some (aI (iZ x1)), some (aI (iZ x2)), some (aR (some (70, 0, 0))), none], [], h, t) P) : ∃ r, Ca (d + 1) 372 [aR (some (1, 0, 0)), aI (iZ x1), aI (iZ x2), aR (some (70, 0, 0))] h t r ∧ P r := ca_W rfl rfl rfl rfl w

theorem b_L_append_15 {x1 : Int} {x2 : Int} {σ : SG} {t : KT} (q1 : Q (.inl (some (aI (iZ 1))), am_hp σ, t)) : Wp k_L_append d (15, [some (aR (some (1, 0, 0))), some (aI (iZ x1)), some (aI (iZ x2)), some (aR (some (70, 0, 0))), none], [], am_hp σ, t) Q := by
  refine w_psh rfl zc_1 rfl ?_
  exact w_ret rfl rfl q1

theorem b_L_append_19 {x1 : Int} {x2 : Int} {σ : SG} {t : KT} (q1 : Q (.inl (some (aI (iZ 2))), am_hp σ, t)) : Wp k_L_append d (19, [some (aR (some (1, 0, 0))), some (aI (iZ x1)), some (aI (iZ x2)), some (aR (some (70, 0, 0))), none], [], am_hp σ, t) Q := by
  refine w_psh rfl zc_2 rfl ?_
  exact w_ret rfl rfl q1

theorem b_L_append_21 {x1 : Int} {x2 : Int} {σ : SG} {t : KT} (q1 : Q (.inl (some (aI (iZ 0))), am_hp σ, t)) : Wp k_L_append d (21, [some (aR (some (1, 0, 0))), some (aI (iZ x1)), some (aI (iZ x2)), some (aR (some (70, 0, 0))), none], [], am_hp σ, t) Q := by
  refine w_psh rfl zc_0 rfl ?_
  exact w_ret rfl rfl q1

theorem b_L_put_0 {x1 : Int} {x2 : Int} {x3 : Int} {r1 : Int} {σ σ1 : SG} {t : KT} (c1 : Ca d 124 [aR (some (1, 0, 0)), aI (iZ x1), aI (iZ x2), aI (iZ x3)] (am_hp σ) t (.inl (some (aI (iZ r1))), am_hp σ1, t)) (h2 : -2147483648 ≤ r1 ∧ r1 < 2147483648) (w3 : Wp k_L_put d (23, [some (aR (some (1, 0, 0))), some (aI (iZ x1)), some (aI (iZ x2)), some (aI (iZ x3)), some (aR (some (70, 0, 0))), none], [], am_hp ((sJ σ1 (70, 0, 0) (up (σ1.2.1 (70, 0, 0)) (0 : Int).toNat r1))), t) Q) : Wp k_L_put d (0, [some (aR (some (1, 0, 0))), some (aI (iZ x1)), some (aI (iZ x2)), some (aI (iZ x3)), some (aR (some (70, 0, 0))), none], [], am_hp σ, t) Q := by
  refine w_s (c' := (2, [some (aR (some (1, 0, 0))), some (aI (iZ x1)), some (aI (iZ x2)), some (aI (iZ x3)), some (aR (some (70, 0, 0))), none], [aR (some (70, 0, 0))], am_hp σ, t)) rfl rfl ?_
  refine w_psh rfl zc_0 rfl ?_
  refine w_s (c' := (4, [some (aR (some (1, 0, 0))), some (aI (iZ x1)), some (aI (iZ x2)), some (aI (iZ x3)), some (aR (some (70, 0, 0))), none], [aR (some (1, 0, 0)), aI (iZ 0), aR (some (70, 0, 0))], am_hp σ, t)) rfl rfl ?_
  refine w_s (c' := (5, [some (aR (some (1, 0, 0))), some (aI (iZ x1)), some (aI (iZ x2)), some (aI (iZ x3)), some (aR (some (70, 0, 0))), none], [aI (iZ x1), aR (some (1, 0, 0)), aI (iZ 0), aR (some (70, 0, 0))], am_hp σ, t)) rfl rfl ?_
  refine w_s (c' := (6, [some (aR (some (1, 0, 0))), some (aI (iZ x1)), some (aI (iZ x2)), some (aI (iZ x3)), some (aR (some (70, 0, 0))), none], [aI (iZ x2), aI (iZ x1), aR (some (1, 0, 0)), aI (iZ 0), aR (some (70, 0, 0))], am_hp σ, t)) rfl rfl ?_
  refine w_s (c' := (7, [some (aR (some (1, 0, 0))), some (aI (iZ x1)), some (aI (iZ x2)), some (aI (iZ x3)), some (aR (some (70, 0, 0))), none], [aI (iZ x3), aI (iZ x2), aI (iZ x1), aR (some (1, 0, 0)), aI (iZ 0), aR (some (70, 0, 0))], am_hp σ, t)) rfl rfl ?_
  refine w_c0 (c' := (10, [some (aR (some (1, 0, 0))), some (aI (iZ x1)), some (aI (iZ x2)), some (aI (iZ x3)), some (aR (some (70, 0, 0))), none], [aI (iZ r1), aI (iZ 0), aR (some (70, 0, 0))], am_hp σ1, t)) rfl rfl (rcv_of (hp_1 _ 0)) rfl c1 (Nat.le_refl _) rfl ?_
  refine w_i2l rfl rfl h2 ?_
  refine w_las rfl (mk_70 _ 0 0) (by decide) rfl rfl rfl ?_
  refine w_s (c' := (23, [some (aR (some (1, 0, 0))), some (aI (iZ x1)), some (aI (iZ x2)), some (aI (iZ x3)), some (aR (some (70, 0, 0))), none], [], am_hp ((sJ σ1 (70, 0, 0) (up (σ1.2.1 (70, 0, 0)) (0 : Int).toNat r1))), t)) rfl rfl ?_
  exact w3

theorem bh_L_put_0_2 {x1 : Int} {x2 : Int} {x3 : Int} {σ σ1 : SG} {t t' : KT} (c1 : Ca d 124 [aR (some (1, 0, 0)), aI (iZ x1), aI (iZ x2), aI (iZ x3)] (am_hp σ) t (.inr 2, am_hp σ1, t')) (w2 : Wp k_L_put d (17, [some (aR (some (1, 0, 0))), some (aI (iZ x1)), some (aI (iZ x2)), some (aI (iZ x3)), some (aR (some (70, 0, 0))), none], [], am_hp σ1, t') Q) : Wp k_L_put d (0, [some (aR (some (1, 0, 0))), some (aI (iZ x1)), some (aI (iZ x2)), some (aI (iZ x3)), some (aR (some (70, 0, 0))), none], [], am_hp σ, t) Q := by
  refine w_s (c' := (2, [some (aR (some (1, 0, 0))), some (aI (iZ x1)), some (aI (iZ x2)), some (aI (iZ x3)), some (aR (some (70, 0, 0))), none], [aR (some (70, 0, 0))], am_hp σ, t)) rfl rfl ?_
  refine w_psh rfl zc_0 rfl ?_
  refine w_s (c' := (4, [some (aR (some (1, 0, 0))), some (aI (iZ x1)), some (aI (iZ x2)), some (aI (iZ x3)), some (aR (some (70, 0, 0))), none], [aR (some (1, 0, 0)), aI (iZ 0), aR (some (70, 0, 0))], am_hp σ, t)) rfl rfl ?_
  refine w_s (c' := (5, [some (aR (some (1, 0, 0))), some (aI (iZ x1)), some (aI (iZ x2)), some (aI (iZ x3)), some (aR (some (70, 0, 0))), none], [aI (iZ x1), aR (some (1, 0, 0)), aI (iZ 0), aR (some (70, 0, 0))], am_hp σ, t)) rfl rfl ?_
  refine w_s (c' := (6, [some (aR (some (1, 0, 0))), some (aI (iZ x1)), some (aI (iZ x2)), some (aI (iZ x3)), some (aR (some (70, 0, 0))), none], [aI (iZ x2), aI (iZ x1), aR (some (1, 0, 0)), aI (iZ 0), aR (some (70, 0, 0))], am_hp σ, t)) rfl rfl ?_
  refine w_s (c' := (7, [some (aR (some (1, 0, 0))), some (aI (iZ x1)), some (aI (iZ x2)), some (aI (iZ x3)), some (aR (some (70, 0, 0))), none], [aI (iZ x3), aI (iZ x2), aI (iZ x1), aR (some (1, 0, 0)), aI (iZ 0), aR (some (70, 0, 0))], am_hp σ, t)) rfl rfl ?_
  exact w_h rfl rfl (rcv_of (hp_1 _ 0)) rfl c1 (Nat.le_refl _) rfl rfl rfl w2

theorem bh_L_put_0_1 {x1 : Int} {x2 : Int} {x3 : Int} {σ σ1 : SG} {t t' : KT} (c1 : Ca d 124 [aR (some (1, 0, 0)), aI (iZ x1), aI (iZ x2), aI (iZ x3)] (am_hp σ) t (.inr 1, am_hp σ1, t')) (w2 : Wp k_L_put d (21, [some (aR (some (1, 0, 0))), some (aI (iZ x1)), some (aI (iZ x2)), some (aI (iZ x3)), some (aR (some (70, 0, 0))), none], [], am_hp σ1, t') Q) : Wp k_L_put d (0, [some (aR (some (1, 0, 0))), some (aI (iZ x1)), some (aI (iZ x2)), some (aI (iZ x3)), some (aR (some (70, 0, 0))), none], [], am_hp σ, t) Q := by
  refine w_s (c' := (2, [some (aR (some (1, 0, 0))), some (aI (iZ x1)), some (aI (iZ x2)), some (aI (iZ x3)), some (aR (some (70, 0, 0))), none], [aR (some (70, 0, 0))], am_hp σ, t)) rfl rfl ?_
  refine w_psh rfl zc_0 rfl ?_
  refine w_s (c' := (4, [some (aR (some (1, 0, 0))), some (aI (iZ x1)), some (aI (iZ x2)), some (aI (iZ x3)), some (aR (some (70, 0, 0))), none], [aR (some (1, 0, 0)), aI (iZ 0), aR (some (70, 0, 0))], am_hp σ, t)) rfl rfl ?_
  refine w_s (c' := (5, [some (aR (some (1, 0, 0))), some (aI (iZ x1)), some (aI (iZ x2)), some (aI (iZ x3)), some (aR (some (70, 0, 0))), none], [aI (iZ x1), aR (some (1, 0, 0)), aI (iZ 0), aR (some (70, 0, 0))], am_hp σ, t)) rfl rfl ?_
  refine w_s (c' := (6, [some (aR (some (1, 0, 0))), some (aI (iZ x1)), some (aI (iZ x2)), some (aI (iZ x3)), some (aR (some (70, 0, 0))), none], [aI (iZ x2), aI (iZ x1), aR (some (1, 0, 0)), aI (iZ 0), aR (some (70, 0, 0))], am_hp σ, t)) rfl rfl ?_
  refine w_s (c' := (7, [some (aR (some (1, 0, 0))), some (aI (iZ x1)), some (aI (iZ x2)), some (aI (iZ x3)), some (aR (some (70, 0, 0))), none], [aI (iZ x3), aI (iZ x2), aI (iZ x1), aR (some (1, 0, 0)), aI (iZ 0), aR (some (70, 0, 0))], am_hp σ, t)) rfl rfl ?_
  exact w_h rfl rfl (rcv_of (hp_1 _ 0)) rfl c1 (Nat.le_refl _) rfl rfl rfl w2

theorem e_L_put {x1 : Int} {x2 : Int} {x3 : Int} {h : AH} {t : KT} {d : Nat} {P : RS → Prop} (w : Wp k_L_put d (0, [some (aR (some (1, 0, 0))), some (aI (iZ x1)), some (aI (iZ x2)), some (aI (iZ x3)), some (aR (some (70, 0, 0))), none], [], h, t) P) : ∃ r, Ca (d + 1) 373 [aR (some (1, 0, 0)), aI (iZ x1), aI (iZ x2), aI (iZ x3), aR (some (70, 0, 0))] h t r ∧ P r := ca_W rfl rfl rfl rfl w

theorem b_L_put_17 {x1 : Int} {x2 : Int} {x3 : Int} {σ : SG} {t : KT} (q1 : Q (.inl (some (aI (iZ 1))), am_hp σ, t)) : Wp k_L_put d (17, [some (aR (some (1, 0, 0))), some (aI (iZ x1)), some (aI (iZ x2)), some (aI (iZ x3)), some (aR (some (70, 0, 0))), none], [], am_hp σ, t) Q := by
  refine w_psh rfl zc_1 rfl ?_
  exact w_ret rfl rfl q1

theorem b_L_put_21 {x1 : Int} {x2 : Int} {x3 : Int} {σ : SG} {t : KT} (q1 : Q (.inl (some (aI (iZ 2))), am_hp σ, t)) : Wp k_L_put d (21, [some (aR (some (1, 0, 0))), some (aI (iZ x1)), some (aI (iZ x2)), some (aI (iZ x3)), some (aR (some (70, 0, 0))), none], [], am_hp σ, t) Q := by
  refine w_psh rfl zc_2 rfl ?_
  exact w_ret rfl rfl q1

theorem b_L_put_23 {x1 : Int} {x2 : Int} {x3 : Int} {σ : SG} {t : KT} (q1 : Q (.inl (some (aI (iZ 0))), am_hp σ, t)) : Wp k_L_put d (23, [some (aR (some (1, 0, 0))), some (aI (iZ x1)), some (aI (iZ x2)), some (aI (iZ x3)), some (aR (some (70, 0, 0))), none], [], am_hp σ, t) Q := by
  refine w_psh rfl zc_0 rfl ?_
  exact w_ret rfl rfl q1

theorem b_L_insert_0 {x1 : Int} {x2 : Int} {x3 : Int} {r1 : Int} {σ σ1 : SG} {t : KT} (c1 : Ca d 125 [aR (some (1, 0, 0)), aI (iZ x1), aI (iZ x2), aI (iZ x3)] (am_hp σ) t (.inl (some (aI (iZ r1))), am_hp σ1, t)) (h2 : -2147483648 ≤ r1 ∧ r1 < 2147483648) (w3 : Wp k_L_insert d (23, [some (aR (some (1, 0, 0))), some (aI (iZ x1)), some (aI (iZ x2)), some (aI (iZ x3)), some (aR (some (70, 0, 0))), none], [], am_hp ((sJ σ1 (70, 0, 0) (up (σ1.2.1 (70, 0, 0)) (0 : Int).toNat r1))), t) Q) : Wp k_L_insert d (0, [some (aR (some (1, 0, 0))), some (aI (iZ x1)), some (aI (iZ x2)), some (aI (iZ x3)), some (aR (some (70, 0, 0))), none], [], am_hp σ, t) Q := by
  refine w_s (c' := (2, [some (aR (some (1, 0, 0))), some (aI (iZ x1)), some (aI (iZ x2)), some (aI (iZ x3)), some (aR (some (70, 0, 0))), none], [aR (some (70, 0, 0))], am_hp σ, t)) rfl rfl ?_
  refine w_psh rfl zc_0 rfl ?_
  refine w_s (c' := (4, [some (aR (some (1, 0, 0))), some (aI (iZ x1)), some (aI (iZ x2)), some (aI (iZ x3)), some (aR (some (70, 0, 0))), none], [aR (some (1, 0, 0)), aI (iZ 0), aR (some (70, 0, 0))], am_hp σ, t)) rfl rfl ?_
  refine w_s (c' := (5, [some (aR (some (1, 0, 0))), some (aI (iZ x1)), some (aI (iZ x2)), some (aI (iZ x3)), some (aR (some (70, 0, 0))), none], [aI (iZ x1), aR (some (1, 0, 0)), aI (iZ 0), aR (some (70, 0, 0))], am_hp σ, t)) rfl rfl ?_
  refine w_s (c' := (6, [some (aR (some (1, 0, 0))), some (aI (iZ x1)), some (aI (iZ x2)), some (aI (iZ x3)), some (aR (some (70, 0, 0))), none], [aI (iZ x2), aI (iZ x1), aR (some (1, 0, 0)), aI (iZ 0), aR (some (70, 0, 0))], am_hp σ, t)) rfl rfl ?_
  refine w_s (c' := (7, [some (aR (some (1, 0, 0))), some (aI (iZ x1)), some (aI (iZ x2)), some (aI (iZ x3)), some (aR (some (70, 0, 0))), none], [aI (iZ x3), aI (iZ x2), aI (iZ x1), aR (some (1, 0, 0)), aI (iZ 0), aR (some (70, 0, 0))], am_hp σ, t)) rfl rfl ?_
  refine w_c0 (c' := (10, [some (aR (some (1, 0, 0))), some (aI (iZ x1)), some (aI (iZ x2)), some (aI (iZ x3)), some (aR (some (70, 0, 0))), none], [aI (iZ r1), aI (iZ 0), aR (some (70, 0, 0))], am_hp σ1, t)) rfl rfl (rcv_of (hp_1 _ 0)) rfl c1 (Nat.le_refl _) rfl ?_
  refine w_i2l rfl rfl h2 ?_
  refine w_las rfl (mk_70 _ 0 0) (by decide) rfl rfl rfl ?_
  refine w_s (c' := (23, [some (aR (some (1, 0, 0))), some (aI (iZ x1)), some (aI (iZ x2)), some (aI (iZ x3)), some (aR (some (70, 0, 0))), none], [], am_hp ((sJ σ1 (70, 0, 0) (up (σ1.2.1 (70, 0, 0)) (0 : Int).toNat r1))), t)) rfl rfl ?_
  exact w3

theorem bh_L_insert_0_2 {x1 : Int} {x2 : Int} {x3 : Int} {σ σ1 : SG} {t t' : KT} (c1 : Ca d 125 [aR (some (1, 0, 0)), aI (iZ x1), aI (iZ x2), aI (iZ x3)] (am_hp σ) t (.inr 2, am_hp σ1, t')) (w2 : Wp k_L_insert d (17, [some (aR (some (1, 0, 0))), some (aI (iZ x1)), some (aI (iZ x2)), some (aI (iZ x3)), some (aR (some (70, 0, 0))), none], [], am_hp σ1, t') Q) : Wp k_L_insert d (0, [some (aR (some (1, 0, 0))), some (aI (iZ x1)), some (aI (iZ x2)), some (aI (iZ x3)), some (aR (some (70, 0, 0))), none], [], am_hp σ, t) Q := by
  refine w_s (c' := (2, [some (aR (some (1, 0, 0))), some (aI (iZ x1)), some (aI (iZ x2)), some (aI (iZ x3)), some (aR (some (70, 0, 0))), none], [aR (some (70, 0, 0))], am_hp σ, t)) rfl rfl ?_
  refine w_psh rfl zc_0 rfl ?_
  refine w_s (c' := (4, [some (aR (some (1, 0, 0))), some (aI (iZ x1)), some (aI (iZ x2)), some (aI (iZ x3)), some (aR (some (70, 0, 0))), none], [aR (some (1, 0, 0)), aI (iZ 0), aR (some (70, 0, 0))], am_hp σ, t)) rfl rfl ?_
  refine w_s (c' := (5, [some (aR (some (1, 0, 0))), some (aI (iZ x1)), some (aI (iZ x2)), some (aI (iZ x3)), some (aR (some (70, 0, 0))), none], [aI (iZ x1), aR (some (1, 0, 0)), aI (iZ 0), aR (some (70, 0, 0))], am_hp σ, t)) rfl rfl ?_
  refine w_s (c' := (6, [some (aR (some (1, 0, 0))), some (aI (iZ x1)), some (aI (iZ x2)), some (aI (iZ x3)), some (aR (some (70, 0, 0))), none], [aI (iZ x2), aI (iZ x1), aR (some (1, 0, 0)), aI (iZ 0), aR (some (70, 0, 0))], am_hp σ, t)) rfl rfl ?_
  refine w_s (c' := (7, [some (aR (some (1, 0, 0))), some (aI (iZ x1)), some (aI (iZ x2)), some (aI (iZ x3)), some (aR (some (70, 0, 0))), none], [aI (iZ x3), aI (iZ x2), aI (iZ x1), aR (some (1, 0, 0)), aI (iZ 0), aR (some (70, 0, 0))], am_hp σ, t)) rfl rfl ?_
  exact w_h rfl rfl (rcv_of (hp_1 _ 0)) rfl c1 (Nat.le_refl _) rfl rfl rfl w2

theorem bh_L_insert_0_1 {x1 : Int} {x2 : Int} {x3 : Int} {σ σ1 : SG} {t t' : KT} (c1 : Ca d 125 [aR (some (1, 0, 0)), aI (iZ x1), aI (iZ x2), aI (iZ x3)] (am_hp σ) t (.inr 1, am_hp σ1, t')) (w2 : Wp k_L_insert d (21, [some (aR (some (1, 0, 0))), some (aI (iZ x1)), some (aI (iZ x2)), some (aI (iZ x3)), some (aR (some (70, 0, 0))), none], [], am_hp σ1, t') Q) : Wp k_L_insert d (0, [some (aR (some (1, 0, 0))), some (aI (iZ x1)), some (aI (iZ x2)), some (aI (iZ x3)), some (aR (some (70, 0, 0))), none], [], am_hp σ, t) Q := by
  refine w_s (c' := (2, [some (aR (some (1, 0, 0))), some (aI (iZ x1)), some (aI (iZ x2)), some (aI (iZ x3)), some (aR (some (70, 0, 0))), none], [aR (some (70, 0, 0))], am_hp σ, t)) rfl rfl ?_
  refine w_psh rfl zc_0 rfl ?_
  refine w_s (c' := (4, [some (aR (some (1, 0, 0))), some (aI (iZ x1)), some (aI (iZ x2)), some (aI (iZ x3)), some (aR (some (70, 0, 0))), none], [aR (some (1, 0, 0)), aI (iZ 0), aR (some (70, 0, 0))], am_hp σ, t)) rfl rfl ?_
  refine w_s (c' := (5, [some (aR (some (1, 0, 0))), some (aI (iZ x1)), some (aI (iZ x2)), some (aI (iZ x3)), some (aR (some (70, 0, 0))), none], [aI (iZ x1), aR (some (1, 0, 0)), aI (iZ 0), aR (some (70, 0, 0))], am_hp σ, t)) rfl rfl ?_
  refine w_s (c' := (6, [some (aR (some (1, 0, 0))), some (aI (iZ x1)), some (aI (iZ x2)), some (aI (iZ x3)), some (aR (some (70, 0, 0))), none], [aI (iZ x2), aI (iZ x1), aR (some (1, 0, 0)), aI (iZ 0), aR (some (70, 0, 0))], am_hp σ, t)) rfl rfl ?_
  refine w_s (c' := (7, [some (aR (some (1, 0, 0))), some (aI (iZ x1)), some (aI (iZ x2)), some (aI (iZ x3)), some (aR (some (70, 0, 0))), none], [aI (iZ x3), aI (iZ x2), aI (iZ x1), aR (some (1, 0, 0)), aI (iZ 0), aR (some (70, 0, 0))], am_hp σ, t)) rfl rfl ?_
  exact w_h rfl rfl (rcv_of (hp_1 _ 0)) rfl c1 (Nat.le_refl _) rfl rfl rfl w2

theorem e_L_insert {x1 : Int} {x2 : Int} {x3 : Int} {h : AH} {t : KT} {d : Nat} {P : RS → Prop} (w : Wp k_L_insert d (0, [some (aR (some (1, 0, 0))), some (aI (iZ x1)), some (aI (iZ x2)), some (aI (iZ x3)), some (aR (some (70, 0, 0))), none], [], h, t) P) : ∃ r, Ca (d + 1) 374 [aR (some (1, 0, 0)), aI (iZ x1), aI (iZ x2), aI (iZ x3), aR (some (70, 0, 0))] h t r ∧ P r := ca_W rfl rfl rfl rfl w

theorem b_L_insert_17 {x1 : Int} {x2 : Int} {x3 : Int} {σ : SG} {t : KT} (q1 : Q (.inl (some (aI (iZ 1))), am_hp σ, t)) : Wp k_L_insert d (17, [some (aR (some (1, 0, 0))), some (aI (iZ x1)), some (aI (iZ x2)), some (aI (iZ x3)), some (aR (some (70, 0, 0))), none], [], am_hp σ, t) Q := by
  refine w_psh rfl zc_1 rfl ?_
  exact w_ret rfl rfl q1

theorem b_L_insert_21 {x1 : Int} {x2 : Int} {x3 : Int} {σ : SG} {t : KT} (q1 : Q (.inl (some (aI (iZ 2))), am_hp σ, t)) : Wp k_L_insert d (21, [some (aR (some (1, 0, 0))), some (aI (iZ x1)), some (aI (iZ x2)), some (aI (iZ x3)), some (aR (some (70, 0, 0))), none], [], am_hp σ, t) Q := by
  refine w_psh rfl zc_2 rfl ?_
  exact w_ret rfl rfl q1

theorem b_L_insert_23 {x1 : Int} {x2 : Int} {x3 : Int} {σ : SG} {t : KT} (q1 : Q (.inl (some (aI (iZ 0))), am_hp σ, t)) : Wp k_L_insert d (23, [some (aR (some (1, 0, 0))), some (aI (iZ x1)), some (aI (iZ x2)), some (aI (iZ x3)), some (aR (some (70, 0, 0))), none], [], am_hp σ, t) Q := by
  refine w_psh rfl zc_0 rfl ?_
  exact w_ret rfl rfl q1

theorem b_L_remove_0 {x1 : Int} {x2 : Int} {r1 : Int} {σ σ1 : SG} {t : KT} (c1 : Ca d 126 [aR (some (1, 0, 0)), aI (iZ x1), aI (iZ x2)] (am_hp σ) t (.inl (some (aI (iZ r1))), am_hp σ1, t)) (h2 : -2147483648 ≤ r1 ∧ r1 < 2147483648) (w3 : Wp k_L_remove d (17, [some (aR (some (1, 0, 0))), some (aI (iZ x1)), some (aI (iZ x2)), some (aR (some (70, 0, 0))), none], [], am_hp ((sJ σ1 (70, 0, 0) (up (σ1.2.1 (70, 0, 0)) (0 : Int).toNat r1))), t) Q) : Wp k_L_remove d (0, [some (aR (some (1, 0, 0))), some (aI (iZ x1)), some (aI (iZ x2)), some (aR (some (70, 0, 0))), none], [], am_hp σ, t) Q := by
  refine w_s (c' := (1, [some (aR (some (1, 0, 0))), some (aI (iZ x1)), some (aI (iZ x2)), some (aR (some (70, 0, 0))), none], [aR (some (70, 0, 0))], am_hp σ, t)) rfl rfl ?_
  refine w_psh rfl zc_0 rfl ?_
  refine w_s (c' := (3, [some (aR (some (1, 0, 0))), some (aI (iZ x1)), some (aI (iZ x2)), some (aR (some (70, 0, 0))), none], [aR (some (1, 0, 0)), aI (iZ 0), aR (some (70, 0, 0))], am_hp σ, t)) rfl rfl ?_
  refine w_s (c' := (4, [some (aR (some (1, 0, 0))), some (aI (iZ x1)), some (aI (iZ x2)), some (aR (some (70, 0, 0))), none], [aI (iZ x1), aR (some (1, 0, 0)), aI (iZ 0), aR (some (70, 0, 0))], am_hp σ, t)) rfl rfl ?_
  refine w_s (c' := (5, [some (aR (some (1, 0, 0))), some (aI (iZ x1)), some (aI (iZ x2)), some (aR (some (70, 0, 0))), none], [aI (iZ x2), aI (iZ x1), aR (some (1, 0, 0)), aI (iZ 0), aR (some (70, 0, 0))], am_hp σ, t)) rfl rfl ?_
  refine w_c0 (c' := (8, [some (aR (some (1, 0, 0))), some (aI (iZ x1)), some (aI (iZ x2)), some (aR (some (70, 0, 0))), none], [aI (iZ r1), aI (iZ 0), aR (some (70, 0, 0))], am_hp σ1, t)) rfl rfl (rcv_of (hp_1 _ 0)) rfl c1 (Nat.le_refl _) rfl ?_
  refine w_i2l rfl rfl h2 ?_
  refine w_las rfl (mk_70 _ 0 0) (by decide) rfl rfl rfl ?_
  refine w_s (c' := (17, [some (aR (some (1, 0, 0))), some (aI (iZ x1)), some (aI (iZ x2)), some (aR (some (70, 0, 0))), none], [], am_hp ((sJ σ1 (70, 0, 0) (up (σ1.2.1 (70, 0, 0)) (0 : Int).toNat r1))), t)) rfl rfl ?_
  exact w3

theorem bh_L_remove_0_2 {x1 : Int} {x2 : Int} {σ σ1 : SG} {t t' : KT} (c1 : Ca d 126 [aR (some (1, 0, 0)), aI (iZ x1), aI (iZ x2)] (am_hp σ) t (.inr 2, am_hp σ1, t')) (w2 : Wp k_L_remove d (15, [some (aR (some (1, 0, 0))), some (aI (iZ x1)), some (aI (iZ x2)), some (aR (some (70, 0, 0))), none], [], am_hp σ1, t') Q) : Wp k_L_remove d (0, [some (aR (some (1, 0, 0))), some (aI (iZ x1)), some (aI (iZ x2)), some (aR (some (70, 0, 0))), none], [], am_hp σ, t) Q := by
  refine w_s (c' := (1, [some (aR (some (1, 0, 0))), some (aI (iZ x1)), some (aI (iZ x2)), some (aR (some (70, 0, 0))), none], [aR (some (70, 0, 0))], am_hp σ, t)) rfl rfl ?_
  refine w_psh rfl zc_0 rfl ?_
  refine w_s (c' := (3, [some (aR (some (1, 0, 0))), some (aI (iZ x1)), some (aI (iZ x2)), some (aR (some (70, 0, 0))), none], [aR (some (1, 0, 0)), aI (iZ 0), aR (some (70, 0, 0))], am_hp σ, t)) rfl rfl ?_
  refine w_s (c' := (4, [some (aR (some (1, 0, 0))), some (aI (iZ x1)), some (aI (iZ x2)), some (aR (some (70, 0, 0))), none], [aI (iZ x1), aR (some (1, 0, 0)), aI (iZ 0), aR (some (70, 0, 0))], am_hp σ, t)) rfl rfl ?_
  refine w_s (c' := (5, [some (aR (some (1, 0, 0))), some (aI (iZ x1)), some (aI (iZ x2)), some (aR (some (70, 0, 0))), none], [aI (iZ x2), aI (iZ x1), aR (some (1, 0, 0)), aI (iZ 0), aR (some (70, 0, 0))], am_hp σ, t)) rfl rfl ?_
  exact w_h rfl rfl (rcv_of (hp_1 _ 0)) rfl c1 (Nat.le_refl _) rfl rfl rfl w2

theorem e_L_remove {x1 : Int} {x2 : Int} {h : AH} {t : KT} {d : Nat} {P : RS → Prop} (w : Wp k_L_remove d (0, [some (aR (some (1, 0, 0))), some (aI (iZ x1)), some (aI (iZ x2)), some (aR (some (70, 0, 0))), none], [], h, t) P) : ∃ r, Ca (d + 1) 375 [aR (some (1, 0, 0)), aI (iZ x1), aI (iZ x2), aR (some (70, 0, 0))] h t r ∧ P r := ca_W rfl rfl rfl rfl w

theorem b_L_remove_15 {x1 : Int} {x2 : Int} {σ : SG} {t : KT} (q1 : Q (.inl (some (aI (iZ 1))), am_hp σ, t)) : Wp k_L_remove d (15, [some (aR (some (1, 0, 0))), some (aI (iZ x1)), some (aI (iZ x2)), some (aR (some (70, 0, 0))), none], [], am_hp σ, t) Q := by
  refine w_psh rfl zc_1 rfl ?_
  exact w_ret rfl rfl q1

theorem b_L_remove_17 {x1 : Int} {x2 : Int} {σ : SG} {t : KT} (q1 : Q (.inl (some (aI (iZ 0))), am_hp σ, t)) : Wp k_L_remove d (17, [some (aR (some (1, 0, 0))), some (aI (iZ x1)), some (aI (iZ x2)), some (aR (some (70, 0, 0))), none], [], am_hp σ, t) Q := by
  refine w_psh rfl zc_0 rfl ?_
  exact w_ret rfl rfl q1

theorem b_L_join_0 {x1 : Int} {x2 : Int} {r1 : Int} {σ σ1 : SG} {t : KT} (c1 : Ca d 127 [aR (some (1, 0, 0)), aI (iZ x1), aI (iZ x2)] (am_hp σ) t (.inl (some (aI (iZ r1))), am_hp σ1, t)) (h2 : -2147483648 ≤ r1 ∧ r1 < 2147483648) (w3 : Wp k_L_join d (17, [some (aR (some (1, 0, 0))), some (aI (iZ x1)), some (aI (iZ x2)), some (aR (some (70, 0, 0))), none], [], am_hp ((sJ σ1 (70, 0, 0) (up (σ1.2.1 (70, 0, 0)) (0 : Int).toNat r1))), t) Q) : Wp k_L_join d (0, [some (aR (some (1, 0, 0))), some (aI (iZ x1)), some (aI (iZ x2)), some (aR (some (70, 0, 0))), none], [], am_hp σ, t) Q := by
  refine w_s (c' := (1, [some (aR (some (1, 0, 0))), some (aI (iZ x1)), some (aI (iZ x2)), some (aR (some (70, 0, 0))), none], [aR (some (70, 0, 0))], am_hp σ, t)) rfl rfl ?_
  refine w_psh rfl zc_0 rfl ?_
  refine w_s (c' := (3, [some (aR (some (1, 0, 0))), some (aI (iZ x1)), some (aI (iZ x2)), some (aR (some (70, 0, 0))), none], [aR (some (1, 0, 0)), aI (iZ 0), aR (some (70, 0, 0))], am_hp σ, t)) rfl rfl ?_
  refine w_s (c' := (4, [some (aR (some (1, 0, 0))), some (aI (iZ x1)), some (aI (iZ x2)), some (aR (some (70, 0, 0))), none], [aI (iZ x1), aR (some (1, 0, 0)), aI (iZ 0), aR (some (70, 0, 0))], am_hp σ, t)) rfl rfl ?_
  refine w_s (c' := (5, [some (aR (some (1, 0, 0))), some (aI (iZ x1)), some (aI (iZ x2)), some (aR (some (70, 0, 0))), none], [aI (iZ x2), aI (iZ x1), aR (some (1, 0, 0)), aI (iZ 0), aR (some (70, 0, 0))], am_hp σ, t)) rfl rfl ?_
  refine w_c0 (c' := (8, [some (aR (some (1, 0, 0))), some (aI (iZ x1)), some (aI (iZ x2)), some (aR (some (70, 0, 0))), none], [aI (iZ r1), aI (iZ 0), aR (some (70, 0, 0))], am_hp σ1, t)) rfl rfl (rcv_of (hp_1 _ 0)) rfl c1 (Nat.le_refl _) rfl ?_
  refine w_i2l rfl rfl h2 ?_
  refine w_las rfl (mk_70 _ 0 0) (by decide) rfl rfl rfl ?_
  refine w_s (c' := (17, [some (aR (some (1, 0, 0))), some (aI (iZ x1)), some (aI (iZ x2)), some (aR (some (70, 0, 0))), none], [], am_hp ((sJ σ1 (70, 0, 0) (up (σ1.2.1 (70, 0, 0)) (0 : Int).toNat r1))), t)) rfl rfl ?_
  exact w3

theorem bh_L_join_0_2 {x1 : Int} {x2 : Int} {σ σ1 : SG} {t t' : KT} (c1 : Ca d 127 [aR (some (1, 0, 0)), aI (iZ x1), aI (iZ x2)] (am_hp σ) t (.inr 2, am_hp σ1, t')) (w2 : Wp k_L_join d (15, [some (aR (some (1, 0, 0))), some (aI (iZ x1)), some (aI (iZ x2)), some (aR (some (70, 0, 0))), none], [], am_hp σ1, t') Q) : Wp k_L_join d (0, [some (aR (some (1, 0, 0))), some (aI (iZ x1)), some (aI (iZ x2)), some (aR (some (70, 0, 0))), none], [], am_hp σ, t) Q := by
  refine w_s (c' := (1, [some (aR (some (1, 0, 0))), some (aI (iZ x1)), some (aI (iZ x2)), some (aR (some (70, 0, 0))), none], [aR (some (70, 0, 0))], am_hp σ, t)) rfl rfl ?_
  refine w_psh rfl zc_0 rfl ?_
  refine w_s (c' := (3, [some (aR (some (1, 0, 0))), some (aI (iZ x1)), some (aI (iZ x2)), some (aR (some (70, 0, 0))), none], [aR (some (1, 0, 0)), aI (iZ 0), aR (some (70, 0, 0))], am_hp σ, t)) rfl rfl ?_
  refine w_s (c' := (4, [some (aR (some (1, 0, 0))), some (aI (iZ x1)), some (aI (iZ x2)), some (aR (some (70, 0, 0))), none], [aI (iZ x1), aR (some (1, 0, 0)), aI (iZ 0), aR (some (70, 0, 0))], am_hp σ, t)) rfl rfl ?_
  refine w_s (c' := (5, [some (aR (some (1, 0, 0))), some (aI (iZ x1)), some (aI (iZ x2)), some (aR (some (70, 0, 0))), none], [aI (iZ x2), aI (iZ x1), aR (some (1, 0, 0)), aI (iZ 0), aR (some (70, 0, 0))], am_hp σ, t)) rfl rfl ?_
  exact w_h rfl rfl (rcv_of (hp_1 _ 0)) rfl c1 (Nat.le_refl _) rfl rfl rfl w2

theorem e_L_join {x1 : Int} {x2 : Int} {h : AH} {t : KT} {d : Nat} {P : RS → Prop} (w : Wp k_L_join d (0, [some (aR (some (1, 0, 0))), some (aI (iZ x1)), some (aI (iZ x2)), some (aR (some (70, 0, 0))), none], [], h, t) P) : ∃ r, Ca (d + 1) 376 [aR (some (1, 0, 0)), aI (iZ x1), aI (iZ x2), aR (some (70, 0, 0))] h t r ∧ P r := ca_W rfl rfl rfl rfl w

theorem b_L_join_15 {x1 : Int} {x2 : Int} {σ : SG} {t : KT} (q1 : Q (.inl (some (aI (iZ 1))), am_hp σ, t)) : Wp k_L_join d (15, [some (aR (some (1, 0, 0))), some (aI (iZ x1)), some (aI (iZ x2)), some (aR (some (70, 0, 0))), none], [], am_hp σ, t) Q := by
  refine w_psh rfl zc_1 rfl ?_
  exact w_ret rfl rfl q1

theorem b_L_join_17 {x1 : Int} {x2 : Int} {σ : SG} {t : KT} (q1 : Q (.inl (some (aI (iZ 0))), am_hp σ, t)) : Wp k_L_join d (17, [some (aR (some (1, 0, 0))), some (aI (iZ x1)), some (aI (iZ x2)), some (aR (some (70, 0, 0))), none], [], am_hp σ, t) Q := by
  refine w_psh rfl zc_0 rfl ?_
  exact w_ret rfl rfl q1

theorem b_L_setRule_0 {x1 : Int} {r1 : Int} {σ σ1 : SG} {t : KT} (c1 : Ca d 128 [aR (some (1, 0, 0)), aI (iZ x1)] (am_hp σ) t (.inl (some (aI (iZ r1))), am_hp σ1, t)) (h2 : -2147483648 ≤ r1 ∧ r1 < 2147483648) (w3 : Wp k_L_setRule d (15, [some (aR (some (1, 0, 0))), some (aI (iZ x1)), some (aR (some (70, 0, 0))), none], [], am_hp ((sJ σ1 (70, 0, 0) (up (σ1.2.1 (70, 0, 0)) (0 : Int).toNat r1))), t) Q) : Wp k_L_setRule d (0, [some (aR (some (1, 0, 0))), some (aI (iZ x1)), some (aR (some (70, 0, 0))), none], [], am_hp σ, t) Q := by
  refine w_s (c' := (1, [some (aR (some (1, 0, 0))), some (aI (iZ x1)), some (aR (some (70, 0, 0))), none], [aR (some (70, 0, 0))], am_hp σ, t)) rfl rfl ?_
  refine w_psh rfl zc_0 rfl ?_
  refine w_s (c' := (3, [some (aR (some (1, 0, 0))), some (aI (iZ x1)), some (aR (some (70, 0, 0))), none], [aR (some (1, 0, 0)), aI (iZ 0), aR (some (70, 0, 0))], am_hp σ, t)) rfl rfl ?_
  refine w_s (c' := (4, [some (aR (some (1, 0, 0))), some (aI (iZ x1)), some (aR (some (70, 0, 0))), none], [aI (iZ x1), aR (some (1, 0, 0)), aI (iZ 0), aR (some (70, 0, 0))], am_hp σ, t)) rfl rfl ?_
  refine w_c0 (c' := (7, [some (aR (some (1, 0, 0))), some (aI (iZ x1)), some (aR (some (70, 0, 0))), none], [aI (iZ r1), aI (iZ 0), aR (some (70, 0, 0))], am_hp σ1, t)) rfl rfl (rcv_of (hp_1 _ 0)) rfl c1 (Nat.le_refl _) rfl ?_
  refine w_i2l rfl rfl h2 ?_
  refine w_las rfl (mk_70 _ 0 0) (by decide) rfl rfl rfl ?_
  refine w_s (c' := (15, [some (aR (some (1, 0, 0))), some (aI (iZ x1)), some (aR (some (70, 0, 0))), none], [], am_hp ((sJ σ1 (70, 0, 0) (up (σ1.2.1 (70, 0, 0)) (0 : Int).toNat r1))), t)) rfl rfl ?_
  exact w3

theorem bh_L_setRule_0_1 {x1 : Int} {σ σ1 : SG} {t t' : KT} (c1 : Ca d 128 [aR (some (1, 0, 0)), aI (iZ x1)] (am_hp σ) t (.inr 1, am_hp σ1, t')) (w2 : Wp k_L_setRule d (13, [some (aR (some (1, 0, 0))), some (aI (iZ x1)), some (aR (some (70, 0, 0))), none], [], am_hp σ1, t') Q) : Wp k_L_setRule d (0, [some (aR (some (1, 0, 0))), some (aI (iZ x1)), some (aR (some (70, 0, 0))), none], [], am_hp σ, t) Q := by
  refine w_s (c' := (1, [some (aR (some (1, 0, 0))), some (aI (iZ x1)), some (aR (some (70, 0, 0))), none], [aR (some (70, 0, 0))], am_hp σ, t)) rfl rfl ?_
  refine w_psh rfl zc_0 rfl ?_
  refine w_s (c' := (3, [some (aR (some (1, 0, 0))), some (aI (iZ x1)), some (aR (some (70, 0, 0))), none], [aR (some (1, 0, 0)), aI (iZ 0), aR (some (70, 0, 0))], am_hp σ, t)) rfl rfl ?_
  refine w_s (c' := (4, [some (aR (some (1, 0, 0))), some (aI (iZ x1)), some (aR (some (70, 0, 0))), none], [aI (iZ x1), aR (some (1, 0, 0)), aI (iZ 0), aR (some (70, 0, 0))], am_hp σ, t)) rfl rfl ?_
  exact w_h rfl rfl (rcv_of (hp_1 _ 0)) rfl c1 (Nat.le_refl _) rfl rfl rfl w2

theorem e_L_setRule {x1 : Int} {h : AH} {t : KT} {d : Nat} {P : RS → Prop} (w : Wp k_L_setRule d (0, [some (aR (some (1, 0, 0))), some (aI (iZ x1)), some (aR (some (70, 0, 0))), none], [], h, t) P) : ∃ r, Ca (d + 1) 377 [aR (some (1, 0, 0)), aI (iZ x1), aR (some (70, 0, 0))] h t r ∧ P r := ca_W rfl rfl rfl rfl w

theorem b_L_setRule_13 {x1 : Int} {σ : SG} {t : KT} (q1 : Q (.inl (some (aI (iZ 1))), am_hp σ, t)) : Wp k_L_setRule d (13, [some (aR (some (1, 0, 0))), some (aI (iZ x1)), some (aR (some (70, 0, 0))), none], [], am_hp σ, t) Q := by
  refine w_psh rfl zc_1 rfl ?_
  exact w_ret rfl rfl q1

theorem b_L_setRule_15 {x1 : Int} {σ : SG} {t : KT} (q1 : Q (.inl (some (aI (iZ 0))), am_hp σ, t)) : Wp k_L_setRule d (15, [some (aR (some (1, 0, 0))), some (aI (iZ x1)), some (aR (some (70, 0, 0))), none], [], am_hp σ, t) Q := by
  refine w_psh rfl zc_0 rfl ?_
  exact w_ret rfl rfl q1

theorem b_L_setSkip_0 {x1 : Int} {r1 : Int} {σ σ1 : SG} {t : KT} (c1 : Ca d 129 [aR (some (1, 0, 0)), aI (iZ x1)] (am_hp σ) t (.inl (some (aI (iZ r1))), am_hp σ1, t)) (h2 : -2147483648 ≤ r1 ∧ r1 < 2147483648) (w3 : Wp k_L_setSkip d (15, [some (aR (some (1, 0, 0))), some (aI (iZ x1)), some (aR (some (70, 0, 0))), none], [], am_hp ((sJ σ1 (70, 0, 0) (up (σ1.2.1 (70, 0, 0)) (0 : Int).toNat r1))), t) Q) : Wp k_L_setSkip d (0, [some (aR (some (1, 0, 0))), some (aI (iZ x1)), some (aR (some (70, 0, 0))), none], [], am_hp σ, t) Q := by
  refine w_s (c' := (1, [some (aR (some (1, 0, 0))), some (aI (iZ x1)), some (aR (some (70, 0, 0))), none], [aR (some (70, 0, 0))], am_hp σ, t)) rfl rfl ?_
  refine w_psh rfl zc_0 rfl ?_
  refine w_s (c' := (3, [some (aR (some (1, 0, 0))), some (aI (iZ x1)), some (aR (some (70, 0, 0))), none], [aR (some (1, 0, 0)), aI (iZ 0), aR (some (70, 0, 0))], am_hp σ, t)) rfl rfl ?_
  refine w_s (c' := (4, [some (aR (some (1, 0, 0))), some (aI (iZ x1)), some (aR (some (70, 0, 0))), none], [aI (iZ x1), aR (some (1, 0, 0)), aI (iZ 0), aR (some (70, 0, 0))], am_hp σ, t)) rfl rfl ?_
  refine w_c0 (c' := (7, [some (aR (some (1, 0, 0))), some (aI (iZ x1)), some (aR (some (70, 0, 0))), none], [aI (iZ r1), aI (iZ 0), aR (some (70, 0, 0))], am_hp σ1, t)) rfl rfl (rcv_of (hp_1 _ 0)) rfl c1 (Nat.le_refl _) rfl ?_
  refine w_i2l rfl rfl h2 ?_
  refine w_las rfl (mk_70 _ 0 0) (by decide) rfl rfl rfl ?_
  refine w_s (c' := (15, [some (aR (some (1, 0, 0))), some (aI (iZ x1)), some (aR (some (70, 0, 0))), none], [], am_hp ((sJ σ1 (70, 0, 0) (up (σ1.2.1 (70, 0, 0)) (0 : Int).toNat r1))), t)) rfl rfl ?_
  exact w3

theorem bh_L_setSkip_0_1 {x1 : Int} {σ σ1 : SG} {t t' : KT} (c1 : Ca d 129 [aR (some (1, 0, 0)), aI (iZ x1)] (am_hp σ) t (.inr 1, am_hp σ1, t')) (w2 : Wp k_L_setSkip d (13, [some (aR (some (1, 0, 0))), some (aI (iZ x1)), some (aR (some (70, 0, 0))), none], [], am_hp σ1, t') Q) : Wp k_L_setSkip d (0, [some (aR (some (1, 0, 0))), some (aI (iZ x1)), some (aR (some (70, 0, 0))), none], [], am_hp σ, t) Q := by
  refine w_s (c' := (1, [some (aR (some (1, 0, 0))), some (aI (iZ x1)), some (aR (some (70, 0, 0))), none], [aR (some (70, 0, 0))], am_hp σ, t)) rfl rfl ?_
  refine w_psh rfl zc_0 rfl ?_
  refine w_s (c' := (3, [some (aR (some (1, 0, 0))), some (aI (iZ x1)), some (aR (some (70, 0, 0))), none], [aR (some (1, 0, 0)), aI (iZ 0), aR (some (70, 0, 0))], am_hp σ, t)) rfl rfl ?_
  refine w_s (c' := (4, [some (aR (some (1, 0, 0))), some (aI (iZ x1)), some (aR (some (70, 0, 0))), none], [aI (iZ x1), aR (some (1, 0, 0)), aI (iZ 0), aR (some (70, 0, 0))], am_hp σ, t)) rfl rfl ?_
  exact w_h rfl rfl (rcv_of (hp_1 _ 0)) rfl c1 (Nat.le_refl _) rfl rfl rfl w2

theorem e_L_setSkip {x1 : Int} {h : AH} {t : KT} {d : Nat} {P : RS → Prop} (w : Wp k_L_setSkip d (0, [some (aR (some (1, 0, 0))), some (aI (iZ x1)), some (aR (some (70, 0, 0))), none], [], h, t) P) : ∃ r, Ca (d + 1) 378 [aR (some (1, 0, 0)), aI (iZ x1), aR (some (70, 0, 0))] h t r ∧ P r := ca_W rfl rfl rfl rfl w

theorem b_L_setSkip_13 {x1 : Int} {σ : SG} {t : KT} (q1 : Q (.inl (some (aI (iZ 1))), am_hp σ, t)) : Wp k_L_setSkip d (13, [some (aR (some (1, 0, 0))), some (aI (iZ x1)), some (aR (some (70, 0, 0))), none], [], am_hp σ, t) Q := by
  refine w_psh rfl zc_1 rfl ?_
  exact w_ret rfl rfl q1

theorem b_L_setSkip_15 {x1 : Int} {σ : SG} {t : KT} (q1 : Q (.inl (some (aI (iZ 0))), am_hp σ, t)) : Wp k_L_setSkip d (15, [some (aR (some (1, 0, 0))), some (aI (iZ x1)), some (aR (some (70, 0, 0))), none], [], am_hp σ, t) Q := by
  refine w_psh rfl zc_0 rfl ?_
  exact w_ret rfl rfl q1

theorem b_L_setPrice_0 {x1 : Int} {x2 : Int} {r1 : Int} {σ σ1 : SG} {t : KT} (c1 : Ca d 130 [aR (some (1, 0, 0)), aI (iZ x1), aI (iZ x2)] (am_hp σ) t (.inl (some (aI (iZ r1))), am_hp σ1, t)) (h2 : -2147483648 ≤ r1 ∧ r1 < 2147483648) (w3 : Wp k_L_setPrice d (21, [some (aR (some (1, 0, 0))), some (aI (iZ x1)), some (aI (iZ x2)), some (aR (some (70, 0, 0))), none], [], am_hp ((sJ σ1 (70, 0, 0) (up (σ1.2.1 (70, 0, 0)) (0 : Int).toNat r1))), t) Q) : Wp k_L_setPrice d (0, [some (aR (some (1, 0, 0))), some (aI (iZ x1)), some (aI (iZ x2)), some (aR (some (70, 0, 0))), none], [], am_hp σ, t) Q := by
  refine w_s (c' := (1, [some (aR (some (1, 0, 0))), some (aI (iZ x1)), some (aI (iZ x2)), some (aR (some (70, 0, 0))), none], [aR (some (70, 0, 0))], am_hp σ, t)) rfl rfl ?_
  refine w_psh rfl zc_0 rfl ?_
  refine w_s (c' := (3, [some (aR (some (1, 0, 0))), some (aI (iZ x1)), some (aI (iZ x2)), some (aR (some (70, 0, 0))), none], [aR (some (1, 0, 0)), aI (iZ 0), aR (some (70, 0, 0))], am_hp σ, t)) rfl rfl ?_
  refine w_s (c' := (4, [some (aR (some (1, 0, 0))), some (aI (iZ x1)), some (aI (iZ x2)), some (aR (some (70, 0, 0))), none], [aI (iZ x1), aR (some (1, 0, 0)), aI (iZ 0), aR (some (70, 0, 0))], am_hp σ, t)) rfl rfl ?_
  refine w_s (c' := (5, [some (aR (some (1, 0, 0))), some (aI (iZ x1)), some (aI (iZ x2)), some (aR (some (70, 0, 0))), none], [aI (iZ x2), aI (iZ x1), aR (some (1, 0, 0)), aI (iZ 0), aR (some (70, 0, 0))], am_hp σ, t)) rfl rfl ?_
  refine w_c0 (c' := (8, [some (aR (some (1, 0, 0))), some (aI (iZ x1)), some (aI (iZ x2)), some (aR (some (70, 0, 0))), none], [aI (iZ r1), aI (iZ 0), aR (some (70, 0, 0))], am_hp σ1, t)) rfl rfl (rcv_of (hp_1 _ 0)) rfl c1 (Nat.le_refl _) rfl ?_
  refine w_i2l rfl rfl h2 ?_
  refine w_las rfl (mk_70 _ 0 0) (by decide) rfl rfl rfl ?_
  refine w_s (c' := (21, [some (aR (some (1, 0, 0))), some (aI (iZ x1)), some (aI (iZ x2)), some (aR (some (70, 0, 0))), none], [], am_hp ((sJ σ1 (70, 0, 0) (up (σ1.2.1 (70, 0, 0)) (0 : Int).toNat r1))), t)) rfl rfl ?_
  exact w3

theorem bh_L_setPrice_0_2 {x1 : Int} {x2 : Int} {σ σ1 : SG} {t t' : KT} (c1 : Ca d 130 [aR (some (1, 0, 0)), aI (iZ x1), aI (iZ x2)] (am_hp σ) t (.inr 2, am_hp σ1, t')) (w2 : Wp k_L_setPrice d (15, [some (aR (some (1, 0, 0))), some (aI (iZ x1)), some (aI (iZ x2)), some (aR (some (70, 0, 0))), none], [], am_hp σ1, t') Q) : Wp k_L_setPrice d (0, [some (aR (some (1, 0, 0))), some (aI (iZ x1)), some (aI (iZ x2)), some (aR (some (70, 0, 0))), none], [], am_hp σ, t) Q := by
  refine w_s (c' := (1, [some (aR (some (1, 0, 0))), some (aI (iZ x1)), some (aI (iZ x2)), some (aR (some (70, 0, 0))), none], [aR (some (70, 0, 0))], am_hp σ, t)) rfl rfl ?_
  refine w_psh rfl zc_0 rfl ?_
  refine w_s (c' := (3, [some (aR (some (1, 0, 0))), some (aI (iZ x1)), some (aI (iZ x2)), some (aR (some (70, 0, 0))), none], [aR (some (1, 0, 0)), aI (iZ 0), aR (some (70, 0, 0))], am_hp σ, t)) rfl rfl ?_
  refine w_s (c' := (4, [some (aR (some (1, 0, 0))), some (aI (iZ x1)), some (aI (iZ x2)), some (aR (some (70, 0, 0))), none], [aI (iZ x1), aR (some (1, 0, 0)), aI (iZ 0), aR (some (70, 0, 0))], am_hp σ, t)) rfl rfl ?_
  refine w_s (c' := (5, [some (aR (some (1, 0, 0))), some (aI (iZ x1)), some (aI (iZ x2)), some (aR (some (70, 0, 0))), none], [aI (iZ x2), aI (iZ x1), aR (some (1, 0, 0)), aI (iZ 0), aR (some (70, 0, 0))], am_hp σ, t)) rfl rfl ?_
  exact w_h rfl rfl (rcv_of (hp_1 _ 0)) rfl c1 (Nat.le_refl _) rfl rfl rfl w2

theorem bh_L_setPrice_0_1 {x1 : Int} {x2 : Int} {σ σ1 : SG} {t t' : KT} (c1 : Ca d 130 [aR (some (1, 0, 0)), aI (iZ x1), aI (iZ x2)] (am_hp σ) t (.inr 1, am_hp σ1, t')) (w2 : Wp k_L_setPrice d (19, [some (aR (some (1, 0, 0))), some (aI (iZ x1)), some (aI (iZ x2)), some (aR (some (70, 0, 0))), none], [], am_hp σ1, t') Q) : Wp k_L_setPrice d (0, [some (aR (some (1, 0, 0))), some (aI (iZ x1)), some (aI (iZ x2)), some (aR (some (70, 0, 0))), none], [], am_hp σ, t) Q := by
  refine w_s (c' := (1, [some (aR (some (1, 0, 0))), some (aI (iZ x1)), some (aI (iZ x2)), some (aR (some (70, 0, 0))), none], [aR (some (70, 0, 0))], am_hp σ, t)) rfl rfl ?_
  refine w_psh rfl zc_0 rfl ?_
  refine w_s (c' := (3, [some (aR (some (1, 0, 0))), some (aI (iZ x1)), some (aI (iZ x2)), some (aR (some (70, 0, 0))), none], [aR (some (1, 0, 0)), aI (iZ 0), aR (some (70, 0, 0))], am_hp σ, t)) rfl rfl ?_
  refine w_s (c' := (4, [some (aR (some (1, 0, 0))), some (aI (iZ x1)), some (aI (iZ x2)), some (aR (some (70, 0, 0))), none], [aI (iZ x1), aR (some (1, 0, 0)), aI (iZ 0), aR (some (70, 0, 0))], am_hp σ, t)) rfl rfl ?_
  refine w_s (c' := (5, [some (aR (some (1, 0, 0))), some (aI (iZ x1)), some (aI (iZ x2)), some (aR (some (70, 0, 0))), none], [aI (iZ x2), aI (iZ x1), aR (some (1, 0, 0)), aI (iZ 0), aR (some (70, 0, 0))], am_hp σ, t)) rfl rfl ?_
  exact w_h rfl rfl (rcv_of (hp_1 _ 0)) rfl c1 (Nat.le_refl _) rfl rfl rfl w2

theorem e_L_setPrice {x1 : Int} {x2 : Int} {h : AH} {t : KT} {d : Nat} {P : RS → Prop} (w : Wp k_L_setPrice d (0, [some (aR (some (1, 0, 0))), some (aI (iZ x1)), some (aI (iZ x2)), some (aR (some (70, 0, 0))), none], [], h, t) P) : ∃ r, Ca (d + 1) 379 [aR (some (1, 0, 0)), aI (iZ x1), aI (iZ x2), aR (some (70, 0, 0))] h t r ∧ P r := ca_W rfl rfl rfl rfl w

theorem b_L_setPrice_15 {x1 : Int} {x2 : Int} {σ : SG} {t : KT} (q1 : Q (.inl (some (aI (iZ 1))), am_hp σ, t)) : Wp k_L_setPrice d (15, [some (aR (some (1, 0, 0))), some (aI (iZ x1)), some (aI (iZ x2)), some (aR (some (70, 0, 0))), none], [], am_hp σ, t) Q := by
  refine w_psh rfl zc_1 rfl ?_
  exact w_ret rfl rfl q1

theorem b_L_setPrice_19 {x1 : Int} {x2 : Int} {σ : SG} {t : KT} (q1 : Q (.inl (some (aI (iZ 2))), am_hp σ, t)) : Wp k_L_setPrice d (19, [some (aR (some (1, 0, 0))), some (aI (iZ x1)), some (aI (iZ x2)), some (aR (some (70, 0, 0))), none], [], am_hp σ, t) Q := by
  refine w_psh rfl zc_2 rfl ?_
  exact w_ret rfl rfl q1

theorem b_L_setPrice_21 {x1 : Int} {x2 : Int} {σ : SG} {t : KT} (q1 : Q (.inl (some (aI (iZ 0))), am_hp σ, t)) : Wp k_L_setPrice d (21, [some (aR (some (1, 0, 0))), some (aI (iZ x1)), some (aI (iZ x2)), some (aR (some (70, 0, 0))), none], [], am_hp σ, t) Q := by
  refine w_psh rfl zc_0 rfl ?_
  exact w_ret rfl rfl q1
end PCS
