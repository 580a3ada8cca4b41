/-! PIECES: X12 -/
set_option maxRecDepth 4000
section PCS
variable {d : Nat} {Q : RS → Prop}
theorem b_X12_looks_0 {x1 : Int} {x2 : Int} {r1 : Int} {σ σ1 : SG} {t : KT} (c1 : Ca d 188 [aR (some (40, 0, 0))] (am_hp σ) t (.inl (some (aI (iZ r1))), am_hp σ1, t)) (h2 : -2147483648 ≤ r1 ∧ r1 < 2147483648) (w3 : r1 = 0 → Wp k_X12_looks d (20, [some (aR (some (40, 0, 0))), some (aI (iZ x1)), some (aI (iZ x2))], [], am_hp σ1, t) Q) (w4 : r1 ≠ 0 → Wp k_X12_looks d (7, [some (aR (some (40, 0, 0))), some (aI (iZ x1)), some (aI (iZ x2))], [], am_hp σ1, t) Q) : Wp k_X12_looks d (0, [some (aR (some (40, 0, 0))), some (aI (iZ x1)), some (aI (iZ x2))], [], am_hp σ, t) Q := by
  refine w_s (c' := (1, [some (aR (some (40, 0, 0))), some (aI (iZ x1)), some (aI (iZ x2))], [aR (some (40, 0, 0))], am_hp σ, t)) rfl rfl ?_
  refine w_c0 (c' := (4, [some (aR (some (40, 0, 0))), some (aI (iZ x1)), some (aI (iZ x2))], [aI (iZ r1)], am_hp σ1, t)) rfl rfl (rcv_of (hp_40 _ 0)) rfl c1 (Nat.le_refl _) rfl ?_
  exact w_ifeq rfl h2 rfl w3 w4

theorem e_X12_looks {x1 : Int} {x2 : Int} {h : AH} {t : KT} {d : Nat} {P : RS → Prop} (w : Wp k_X12_looks d (0, [some (aR (some (40, 0, 0))), some (aI (iZ x1)), some (aI (iZ x2))], [], h, t) P) : ∃ r, Ca (d + 1) 193 [aR (some (40, 0, 0)), aI (iZ x1), aI (iZ x2)] h t r ∧ P r := ca_W rfl rfl rfl rfl w

theorem b_X12_looks_7 {x1 : Int} {x2 : Int} {σ : SG} {t : KT} (h1 : -2147483648 ≤ σ.1 (40, 0, 0) 6 ∧ σ.1 (40, 0, 0) 6 < 2147483648) (w2 : σ.1 (40, 0, 0) 6 = 2 → Wp k_X12_looks d (20, [some (aR (some (40, 0, 0))), some (aI (iZ x1)), some (aI (iZ x2))], [], am_hp σ, t) Q) (w3 : σ.1 (40, 0, 0) 6 ≠ 2 → Wp k_X12_looks d (15, [some (aR (some (40, 0, 0))), some (aI (iZ x1)), some (aI (iZ x2))], [], am_hp σ, t) Q) : Wp k_X12_looks d (7, [some (aR (some (40, 0, 0))), some (aI (iZ x1)), some (aI (iZ x2))], [], am_hp σ, t) Q := by
  refine w_s (c' := (8, [some (aR (some (40, 0, 0))), some (aI (iZ x1)), some (aI (iZ x2))], [aR (some (40, 0, 0))], am_hp σ, t)) rfl rfl ?_
  refine w_get rfl (hp_40 _ 0) rfl rfl ?_
  refine w_psh rfl zc_2 rfl ?_
  exact w_iceq rfl h1 (by decide) rfl w2 w3

theorem b_X12_looks_15 {x1 : Int} {x2 : Int} {σ σ1 : SG} {t : KT} (c1 : Ca d 187 [aR (some (40, 0, 0)), aI (iZ 1)] (am_hp σ) t (.inl none, am_hp σ1, t)) (w2 : Wp k_X12_looks d (20, [some (aR (some (40, 0, 0))), some (aI (iZ x1)), some (aI (iZ x2))], [], am_hp σ1, t) Q) : Wp k_X12_looks d (15, [some (aR (some (40, 0, 0))), some (aI (iZ x1)), some (aI (iZ x2))], [], am_hp σ, t) Q := by
  refine w_s (c' := (16, [some (aR (some (40, 0, 0))), some (aI (iZ x1)), some (aI (iZ x2))], [aR (some (40, 0, 0))], am_hp σ, t)) rfl rfl ?_
  refine w_psh rfl zc_1 rfl ?_
  refine w_c0 (c' := (20, [some (aR (some (40, 0, 0))), some (aI (iZ x1)), some (aI (iZ x2))], [], am_hp σ1, t)) rfl rfl (rcv_of (hp_40 _ 0)) rfl c1 (Nat.le_refl _) rfl ?_
  exact w2

theorem b_X12_looks_20 {x1 : Int} {x2 : Int} {r1 : Int} {σ σ1 : SG} {t : KT} (c1 : Ca d 188 [aR (some (40, 0, 0))] (am_hp σ) t (.inl (some (aI (iZ r1))), am_hp σ1, t)) (h2 : -2147483648 ≤ r1 ∧ r1 < 2147483648) (w3 : r1 = 0 → Wp k_X12_looks d (47, [some (aR (some (40, 0, 0))), some (aI (iZ x1)), some (aI (iZ x2))], [], am_hp σ1, t) Q) (w4 : r1 ≠ 0 → Wp k_X12_looks d (27, [some (aR (some (40, 0, 0))), some (aI (iZ x1)), some (aI (iZ x2))], [], am_hp σ1, t) Q) : Wp k_X12_looks d (20, [some (aR (some (40, 0, 0))), some (aI (iZ x1)), some (aI (iZ x2))], [], am_hp σ, t) Q := by
  refine w_s (c' := (21, [some (aR (some (40, 0, 0))), some (aI (iZ x1)), some (aI (iZ x2))], [aR (some (40, 0, 0))], am_hp σ, t)) rfl rfl ?_
  refine w_c0 (c' := (24, [some (aR (some (40, 0, 0))), some (aI (iZ x1)), some (aI (iZ x2))], [aI (iZ r1)], am_hp σ1, t)) rfl rfl (rcv_of (hp_40 _ 0)) rfl c1 (Nat.le_refl _) rfl ?_
  exact w_ifeq rfl h2 rfl w3 w4

theorem b_X12_looks_27 {x1 : Int} {x2 : Int} {r1 : Int} {σ σ1 : SG} {t : KT} (h1 : -2147483648 ≤ σ.1 (40, 0, 0) 7 ∧ σ.1 (40, 0, 0) 7 < 2147483648) (h2 : -2147483648 ≤ x1 ∧ x1 < 2147483648) (h3 : -2147483648 ≤ x2 ∧ x2 < 2147483648) (c4 : Ca d 175 [aL (jZ (σ.1 (40, 0, 0) 7)), aL (jZ x1), aL (jZ x2)] (am_hp σ) t (.inl (some (aI (iZ r1))), am_hp σ1, t)) (h5 : -2147483648 ≤ r1 ∧ r1 < 2147483648) (w6 : r1 ≠ 0 → Wp k_X12_looks d (47, [some (aR (some (40, 0, 0))), some (aI (iZ x1)), some (aI (iZ x2))], [], am_hp σ1, t) Q) (w7 : r1 = 0 → Wp k_X12_looks d (42, [some (aR (some (40, 0, 0))), some (aI (iZ x1)), some (aI (iZ x2))], [], am_hp σ1, t) Q) : Wp k_X12_looks d (27, [some (aR (some (40, 0, 0))), some (aI (iZ x1)), some (aI (iZ x2))], [], am_hp σ, t) Q := by
  refine w_s (c' := (28, [some (aR (some (40, 0, 0))), some (aI (iZ x1)), some (aI (iZ x2))], [aR (some (40, 0, 0))], am_hp σ, t)) rfl rfl ?_
  refine w_get rfl (hp_40 _ 0) rfl rfl ?_
  refine w_i2l rfl rfl h1 ?_
  refine w_s (c' := (33, [some (aR (some (40, 0, 0))), some (aI (iZ x1)), some (aI (iZ x2))], [aI (iZ x1), aL (jZ (σ.1 (40, 0, 0) 7))], am_hp σ, t)) rfl rfl ?_
  refine w_i2l rfl rfl h2 ?_
  refine w_s (c' := (35, [some (aR (some (40, 0, 0))), some (aI (iZ x1)), some (aI (iZ x2))], [aI (iZ x2), aL (jZ x1), aL (jZ (σ.1 (40, 0, 0) 7))], am_hp σ, t)) rfl rfl ?_
  refine w_i2l rfl rfl h3 ?_
  refine w_c0 (c' := (39, [some (aR (some (40, 0, 0))), some (aI (iZ x1)), some (aI (iZ x2))], [aI (iZ r1)], am_hp σ1, t)) rfl rfl rfl rfl c4 (Nat.le_refl _) rfl ?_
  exact w_ifne rfl h5 rfl w6 w7

theorem b_X12_looks_42 {x1 : Int} {x2 : Int} {σ σ1 : SG} {t : KT} (c1 : Ca d 187 [aR (some (40, 0, 0)), aI (iZ 2)] (am_hp σ) t (.inl none, am_hp σ1, t)) (w2 : Wp k_X12_looks d (47, [some (aR (some (40, 0, 0))), some (aI (iZ x1)), some (aI (iZ x2))], [], am_hp σ1, t) Q) : Wp k_X12_looks d (42, [some (aR (some (40, 0, 0))), some (aI (iZ x1)), some (aI (iZ x2))], [], am_hp σ, t) Q := by
  refine w_s (c' := (43, [some (aR (some (40, 0, 0))), some (aI (iZ x1)), some (aI (iZ x2))], [aR (some (40, 0, 0))], am_hp σ, t)) rfl rfl ?_
  refine w_psh rfl zc_2 rfl ?_
  refine w_c0 (c' := (47, [some (aR (some (40, 0, 0))), some (aI (iZ x1)), some (aI (iZ x2))], [], am_hp σ1, t)) rfl rfl (rcv_of (hp_40 _ 0)) rfl c1 (Nat.le_refl _) rfl ?_
  exact w2

theorem b_X12_looks_47 {x1 : Int} {x2 : Int} {σ : SG} {t : KT} (q1 : Q (.inl (some (aI (iZ (σ.1 (40, 0, 0) 7)))), am_hp σ, t)) : Wp k_X12_looks d (47, [some (aR (some (40, 0, 0))), some (aI (iZ x1)), some (aI (iZ x2))], [], am_hp σ, t) Q := by
  refine w_s (c' := (48, [some (aR (some (40, 0, 0))), some (aI (iZ x1)), some (aI (iZ x2))], [aR (some (40, 0, 0))], am_hp σ, t)) rfl rfl ?_
  refine w_get rfl (hp_40 _ 0) rfl rfl ?_
  exact w_ret rfl rfl q1

theorem b_X12_number_0 {x1 : Int} {x2 : Int} {r1 : Int} {r2 : Int} {σ σ1 σ2 : SG} {t : KT} (c1 : Ca d 193 [aR (some (40, 0, 0)), aI (iZ x1), aI (iZ x2)] (am_hp σ) t (.inl (some (aI (iZ r1))), am_hp σ1, t)) (c2 : Ca d 188 [aR (some (40, 0, 0))] (am_hp σ1) t (.inl (some (aI (iZ r2))), am_hp σ2, t)) (h3 : -2147483648 ≤ r2 ∧ r2 < 2147483648) (w4 : r2 = 0 → Wp k_X12_number d (18, [some (aR (some (40, 0, 0))), some (aI (iZ x1)), some (aI (iZ x2)), some (aI (iZ r1))], [], am_hp σ2, t) Q) (w5 : r2 ≠ 0 → Wp k_X12_number d (14, [some (aR (some (40, 0, 0))), some (aI (iZ x1)), some (aI (iZ x2)), some (aI (iZ r1))], [], am_hp σ2, t) Q) : Wp k_X12_number d (0, [some (aR (some (40, 0, 0))), some (aI (iZ x1)), some (aI (iZ x2)), none], [], am_hp σ, t) Q := by
  refine w_s (c' := (1, [some (aR (some (40, 0, 0))), some (aI (iZ x1)), some (aI (iZ x2)), none], [aR (some (40, 0, 0))], am_hp σ, t)) rfl rfl ?_
  refine w_s (c' := (2, [some (aR (some (40, 0, 0))), some (aI (iZ x1)), some (aI (iZ x2)), none], [aI (iZ x1), aR (some (40, 0, 0))], am_hp σ, t)) rfl rfl ?_
  refine w_s (c' := (3, [some (aR (some (40, 0, 0))), some (aI (iZ x1)), some (aI (iZ x2)), none], [aI (iZ x2), aI (iZ x1), aR (some (40, 0, 0))], am_hp σ, t)) rfl rfl ?_
  refine w_c0 (c' := (6, [some (aR (some (40, 0, 0))), some (aI (iZ x1)), some (aI (iZ x2)), none], [aI (iZ r1)], am_hp σ1, t)) rfl rfl (rcv_of (hp_40 _ 0)) rfl c1 (Nat.le_refl _) rfl ?_
  refine w_s (c' := (7, [some (aR (some (40, 0, 0))), some (aI (iZ x1)), some (aI (iZ x2)), some (aI (iZ r1))], [], am_hp σ1, t)) rfl rfl ?_
  refine w_s (c' := (8, [some (aR (some (40, 0, 0))), some (aI (iZ x1)), some (aI (iZ x2)), some (aI (iZ r1))], [aR (some (40, 0, 0))], am_hp σ1, t)) rfl rfl ?_
  refine w_c0 (c' := (11, [some (aR (some (40, 0, 0))), some (aI (iZ x1)), some (aI (iZ x2)), some (aI (iZ r1))], [aI (iZ r2)], am_hp σ2, t)) rfl rfl (rcv_of (hp_40 _ 0)) rfl c2 (Nat.le_refl _) rfl ?_
  exact w_ifeq rfl h3 rfl w4 w5

theorem e_X12_number {x1 : Int} {x2 : Int} {h : AH} {t : KT} {d : Nat} {P : RS → Prop} (w : Wp k_X12_number d (0, [some (aR (some (40, 0, 0))), some (aI (iZ x1)), some (aI (iZ x2)), none], [], h, t) P) : ∃ r, Ca (d + 1) 194 [aR (some (40, 0, 0)), aI (iZ x1), aI (iZ x2)] h t r ∧ P r := ca_W rfl rfl rfl rfl w

theorem b_X12_number_14 {x1 : Int} {x2 : Int} {x3 : Int} {σ σ1 : SG} {t : KT} (c1 : Ca d 186 [aR (some (40, 0, 0))] (am_hp σ) t (.inl none, am_hp σ1, t)) (w2 : Wp k_X12_number d (18, [some (aR (some (40, 0, 0))), some (aI (iZ x1)), some (aI (iZ x2)), some (aI (iZ x3))], [], am_hp σ1, t) Q) : Wp k_X12_number d (14, [some (aR (some (40, 0, 0))), some (aI (iZ x1)), some (aI (iZ x2)), some (aI (iZ x3))], [], am_hp σ, t) Q := by
  refine w_s (c' := (15, [some (aR (some (40, 0, 0))), some (aI (iZ x1)), some (aI (iZ x2)), some (aI (iZ x3))], [aR (some (40, 0, 0))], am_hp σ, t)) rfl rfl ?_
  refine w_c0 (c' := (18, [some (aR (some (40, 0, 0))), some (aI (iZ x1)), some (aI (iZ x2)), some (aI (iZ x3))], [], am_hp σ1, t)) rfl rfl (rcv_of (hp_40 _ 0)) rfl c1 (Nat.le_refl _) rfl ?_
  exact w2

theorem b_X12_number_18 {x1 : Int} {x2 : Int} {x3 : Int} {σ : SG} {t : KT} (q1 : Q (.inl (some (aI (iZ x3))), am_hp σ, t)) : Wp k_X12_number d (18, [some (aR (some (40, 0, 0))), some (aI (iZ x1)), some (aI (iZ x2)), some (aI (iZ x3))], [], am_hp σ, t) Q := by
  refine w_s (c' := (19, [some (aR (some (40, 0, 0))), some (aI (iZ x1)), some (aI (iZ x2)), some (aI (iZ x3))], [aI (iZ x3)], am_hp σ, t)) rfl rfl ?_
  exact w_ret rfl rfl q1

theorem b_X12_beginsText_0 {σ τ1 τ2 τ3 τ4 τ5 σ1 : SG} {t : KT} (e1 : τ1 = (sI σ (40, 0, 0) (up (σ.1 (40, 0, 0)) 3 (σ.1 (40, 0, 0) 2)))) (e2 : τ2 = (sI τ1 (40, 0, 0) (up (τ1.1 (40, 0, 0)) 2 0))) (e3 : τ3 = (sI τ2 (40, 0, 0) (up (τ2.1 (40, 0, 0)) 4 0))) (e4 : τ4 = (sI τ3 (40, 0, 0) (up (τ3.1 (40, 0, 0)) 8 0))) (e5 : τ5 = (sI τ4 (40, 0, 0) (up (τ4.1 (40, 0, 0)) 9 (-1)))) (c6 : Ca d 186 [aR (some (40, 0, 0))] (am_hp τ5) t (.inl none, am_hp σ1, t)) (q7 : Q (.inl none, am_hp σ1, t)) : Wp k_X12_beginsText d (0, [some (aR (some (40, 0, 0)))], [], am_hp σ, t) Q := by
  refine w_s (c' := (1, [some (aR (some (40, 0, 0)))], [aR (some (40, 0, 0))], am_hp σ, t)) rfl rfl ?_
  refine w_s (c' := (2, [some (aR (some (40, 0, 0)))], [aR (some (40, 0, 0)), aR (some (40, 0, 0))], am_hp σ, t)) rfl rfl ?_
  refine w_get rfl (hp_40 _ 0) rfl rfl ?_
  refine w_putI rfl (hp_40 _ 0) rfl rfl rfl ?_
  rw [← e1]
  refine w_s (c' := (9, [some (aR (some (40, 0, 0)))], [aR (some (40, 0, 0))], am_hp τ1, t)) rfl rfl ?_
  refine w_psh rfl zc_0 rfl ?_
  refine w_putI rfl (hp_40 _ 0) rfl rfl rfl ?_
  rw [← e2]
  refine w_s (c' := (14, [some (aR (some (40, 0, 0)))], [aR (some (40, 0, 0))], am_hp τ2, t)) rfl rfl ?_
  refine w_psh rfl zc_0 rfl ?_
  refine w_putI rfl (hp_40 _ 0) rfl rfl rfl ?_
  rw [← e3]
  refine w_s (c' := (19, [some (aR (some (40, 0, 0)))], [aR (some (40, 0, 0))], am_hp τ3, t)) rfl rfl ?_
  refine w_psh rfl zc_0 rfl ?_
  refine w_putI rfl (hp_40 _ 0) rfl rfl rfl ?_
  rw [← e4]
  refine w_s (c' := (24, [some (aR (some (40, 0, 0)))], [aR (some (40, 0, 0))], am_hp τ4, t)) rfl rfl ?_
  refine w_psh rfl zc_m1 rfl ?_
  refine w_putI rfl (hp_40 _ 0) rfl rfl rfl ?_
  rw [← e5]
  refine w_s (c' := (29, [some (aR (some (40, 0, 0)))], [aR (some (40, 0, 0))], am_hp τ5, t)) rfl rfl ?_
  refine w_c0 (c' := (32, [some (aR (some (40, 0, 0)))], [], am_hp σ1, t)) rfl rfl (rcv_of (hp_40 _ 0)) rfl c6 (Nat.le_refl _) rfl ?_
  exact w_f rfl rfl q7

theorem e_X12_beginsText {h : AH} {t : KT} {d : Nat} {P : RS → Prop} (w : Wp k_X12_beginsText d (0, [some (aR (some (40, 0, 0)))], [], h, t) P) : ∃ r, Ca (d + 1) 195 [aR (some (40, 0, 0))] h t r ∧ P r := ca_W rfl rfl rfl rfl w

theorem b_X12_endsText_0 {σ : SG} {t : KT} (h1 : -2147483648 ≤ ((sI (sI σ (40, 0, 0) (up (σ.1 (40, 0, 0)) 10 (σ.1 (40, 0, 0) 8))) (40, 0, 0) (up (((sI σ (40, 0, 0) (up (σ.1 (40, 0, 0)) 10 (σ.1 (40, 0, 0) 8)))).1 (40, 0, 0)) 11 (((sI σ (40, 0, 0) (up (σ.1 (40, 0, 0)) 10 (σ.1 (40, 0, 0) 8)))).1 (40, 0, 0) 9)))).1 (40, 0, 0) 8 ∧ ((sI (sI σ (40, 0, 0) (up (σ.1 (40, 0, 0)) 10 (σ.1 (40, 0, 0) 8))) (40, 0, 0) (up (((sI σ (40, 0, 0) (up (σ.1 (40, 0, 0)) 10 (σ.1 (40, 0, 0) 8)))).1 (40, 0, 0)) 11 (((sI σ (40, 0, 0) (up (σ.1 (40, 0, 0)) 10 (σ.1 (40, 0, 0) 8)))).1 (40, 0, 0) 9)))).1 (40, 0, 0) 8 < 2147483648) (w2 : ((sI (sI σ (40, 0, 0) (up (σ.1 (40, 0, 0)) 10 (σ.1 (40, 0, 0) 8))) (40, 0, 0) (up (((sI σ (40, 0, 0) (up (σ.1 (40, 0, 0)) 10 (σ.1 (40, 0, 0) 8)))).1 (40, 0, 0)) 11 (((sI σ (40, 0, 0) (up (σ.1 (40, 0, 0)) 10 (σ.1 (40, 0, 0) 8)))).1 (40, 0, 0) 9)))).1 (40, 0, 0) 8 ≠ 0 → Wp k_X12_endsText d (28, [some (aR (some (40, 0, 0)))], [aR (some (40, 0, 0))], am_hp ((sI (sI σ (40, 0, 0) (up (σ.1 (40, 0, 0)) 10 (σ.1 (40, 0, 0) 8))) (40, 0, 0) (up (((sI σ (40, 0, 0) (up (σ.1 (40, 0, 0)) 10 (σ.1 (40, 0, 0) 8)))).1 (40, 0, 0)) 11 (((sI σ (40, 0, 0) (up (σ.1 (40, 0, 0)) 10 (σ.1 (40, 0, 0) 8)))).1 (40, 0, 0) 9)))), t) Q) (w3 : ((sI (sI σ (40, 0, 0) (up (σ.1 (40, 0, 0)) 10 (σ.1 (40, 0, 0) 8))) (40, 0, 0) (up (((sI σ (40, 0, 0) (up (σ.1 (40, 0, 0)) 10 (σ.1 (40, 0, 0) 8)))).1 (40, 0, 0)) 11 (((sI σ (40, 0, 0) (up (σ.1 (40, 0, 0)) 10 (σ.1 (40, 0, 0) 8)))).1 (40, 0, 0) 9)))).1 (40, 0, 0) 8 = 0 → Wp k_X12_endsText d (24, [some (aR (some (40, 0, 0)))], [aR (some (40, 0, 0))], am_hp ((sI (sI σ (40, 0, 0) (up (σ.1 (40, 0, 0)) 10 (σ.1 (40, 0, 0) 8))) (40, 0, 0) (up (((sI σ (40, 0, 0) (up (σ.1 (40, 0, 0)) 10 (σ.1 (40, 0, 0) 8)))).1 (40, 0, 0)) 11 (((sI σ (40, 0, 0) (up (σ.1 (40, 0, 0)) 10 (σ.1 (40, 0, 0) 8)))).1 (40, 0, 0) 9)))), t) Q) : Wp k_X12_endsText d (0, [some (aR (some (40, 0, 0)))], [], am_hp σ, t) Q := by
  refine w_s (c' := (1, [some (aR (some (40, 0, 0)))], [aR (some (40, 0, 0))], am_hp σ, t)) rfl rfl ?_
  refine w_s (c' := (2, [some (aR (some (40, 0, 0)))], [aR (some (40, 0, 0)), aR (some (40, 0, 0))], am_hp σ, t)) rfl rfl ?_
  refine w_get rfl (hp_40 _ 0) rfl rfl ?_
  refine w_putI rfl (hp_40 _ 0) rfl rfl rfl ?_
  refine w_s (c' := (9, [some (aR (some (40, 0, 0)))], [aR (some (40, 0, 0))], am_hp ((sI σ (40, 0, 0) (up (σ.1 (40, 0, 0)) 10 (σ.1 (40, 0, 0) 8)))), t)) rfl rfl ?_
  refine w_s (c' := (10, [some (aR (some (40, 0, 0)))], [aR (some (40, 0, 0)), aR (some (40, 0, 0))], am_hp ((sI σ (40, 0, 0) (up (σ.1 (40, 0, 0)) 10 (σ.1 (40, 0, 0) 8)))), t)) rfl rfl ?_
  refine w_get rfl (hp_40 _ 0) rfl rfl ?_
  refine w_putI rfl (hp_40 _ 0) rfl rfl rfl ?_
  refine w_s (c' := (17, [some (aR (some (40, 0, 0)))], [aR (some (40, 0, 0))], am_hp ((sI (sI σ (40, 0, 0) (up (σ.1 (40, 0, 0)) 10 (σ.1 (40, 0, 0) 8))) (40, 0, 0) (up (((sI σ (40, 0, 0) (up (σ.1 (40, 0, 0)) 10 (σ.1 (40, 0, 0) 8)))).1 (40, 0, 0)) 11 (((sI σ (40, 0, 0) (up (σ.1 (40, 0, 0)) 10 (σ.1 (40, 0, 0) 8)))).1 (40, 0, 0) 9)))), t)) rfl rfl ?_
  refine w_s (c' := (18, [some (aR (some (40, 0, 0)))], [aR (some (40, 0, 0)), aR (some (40, 0, 0))], am_hp ((sI (sI σ (40, 0, 0) (up (σ.1 (40, 0, 0)) 10 (σ.1 (40, 0, 0) 8))) (40, 0, 0) (up (((sI σ (40, 0, 0) (up (σ.1 (40, 0, 0)) 10 (σ.1 (40, 0, 0) 8)))).1 (40, 0, 0)) 11 (((sI σ (40, 0, 0) (up (σ.1 (40, 0, 0)) 10 (σ.1 (40, 0, 0) 8)))).1 (40, 0, 0) 9)))), t)) rfl rfl ?_
  refine w_get rfl (hp_40 _ 0) rfl rfl ?_
  exact w_ifne rfl h1 rfl w2 w3

theorem e_X12_endsText {h : AH} {t : KT} {d : Nat} {P : RS → Prop} (w : Wp k_X12_endsText d (0, [some (aR (some (40, 0, 0)))], [], h, t) P) : ∃ r, Ca (d + 1) 196 [aR (some (40, 0, 0))] h t r ∧ P r := ca_W rfl rfl rfl rfl w

theorem b_X12_endsText_24 {σ : SG} {t : KT} (w1 : Wp k_X12_endsText d (29, [some (aR (some (40, 0, 0)))], [aI (iZ 1), aR (some (40, 0, 0))], am_hp σ, t) Q) : Wp k_X12_endsText d (24, [some (aR (some (40, 0, 0)))], [aR (some (40, 0, 0))], am_hp σ, t) Q := by
  refine w_psh rfl zc_1 rfl ?_
  refine w_s (c' := (29, [some (aR (some (40, 0, 0)))], [aI (iZ 1), aR (some (40, 0, 0))], am_hp σ, t)) rfl rfl ?_
  exact w1

theorem b_X12_endsText_28 {σ : SG} {t : KT} (w1 : Wp k_X12_endsText d (29, [some (aR (some (40, 0, 0)))], [aI (iZ 0), aR (some (40, 0, 0))], am_hp σ, t) Q) : Wp k_X12_endsText d (28, [some (aR (some (40, 0, 0)))], [aR (some (40, 0, 0))], am_hp σ, t) Q := by
  refine w_psh rfl zc_0 rfl ?_
  exact w1

theorem b_X12_endsText_29 {xs0 : Int} {r1 : Int} {σ σ1 : SG} {t : KT} (c1 : Ca d 178 [aR (some (40, 0, 0)), aI (iZ xs0)] (am_hp σ) t (.inl (some (aI (iZ r1))), am_hp σ1, t)) (h2 : r1 = 0 ∨ r1 = 1) (q3 : Q (.inl (some (aI (iZ r1))), am_hp σ1, t)) : Wp k_X12_endsText d (29, [some (aR (some (40, 0, 0)))], [aI (iZ xs0), aR (some (40, 0, 0))], am_hp σ, t) Q := by
  refine w_c0 (c' := (32, [some (aR (some (40, 0, 0)))], [aI (iZ r1)], am_hp σ1, t)) rfl rfl (rcv_of (hp_40 _ 0)) rfl c1 (Nat.le_refl _) rfl ?_
  exact w_ret rfl (frt_b h2) q3

theorem b_X12_errorCode_0 {σ : SG} {t : KT} (q1 : Q (.inl (some (aI (iZ (((sI σ (40, 0, 0) (up (σ.1 (40, 0, 0)) 0 0))).1 (40, 0, 0) 10)))), am_hp ((sI σ (40, 0, 0) (up (σ.1 (40, 0, 0)) 0 0))), t)) : Wp k_X12_errorCode d (0, [some (aR (some (40, 0, 0)))], [], am_hp σ, t) Q := by
  refine w_s (c' := (1, [some (aR (some (40, 0, 0)))], [aR (some (40, 0, 0))], am_hp σ, t)) rfl rfl ?_
  refine w_psh rfl zc_0 rfl ?_
  refine w_putI rfl (hp_40 _ 0) rfl rfl rfl ?_
  refine w_s (c' := (6, [some (aR (some (40, 0, 0)))], [aR (some (40, 0, 0))], am_hp ((sI σ (40, 0, 0) (up (σ.1 (40, 0, 0)) 0 0))), t)) rfl rfl ?_
  refine w_get rfl (hp_40 _ 0) rfl rfl ?_
  exact w_ret rfl rfl q1

theorem e_X12_errorCode {h : AH} {t : KT} {d : Nat} {P : RS → Prop} (w : Wp k_X12_errorCode d (0, [some (aR (some (40, 0, 0)))], [], h, t) P) : ∃ r, Ca (d + 1) 197 [aR (some (40, 0, 0))] h t r ∧ P r := ca_W rfl rfl rfl rfl w

theorem b_X12_errorPosition_0 {σ : SG} {t : KT} (q1 : Q (.inl (some (aI (iZ (((sI σ (40, 0, 0) (up (σ.1 (40, 0, 0)) 0 0))).1 (40, 0, 0) 11)))), am_hp ((sI σ (40, 0, 0) (up (σ.1 (40, 0, 0)) 0 0))), t)) : Wp k_X12_errorPosition d (0, [some (aR (some (40, 0, 0)))], [], am_hp σ, t) Q := by
  refine w_s (c' := (1, [some (aR (some (40, 0, 0)))], [aR (some (40, 0, 0))], am_hp σ, t)) rfl rfl ?_
  refine w_psh rfl zc_0 rfl ?_
  refine w_putI rfl (hp_40 _ 0) rfl rfl rfl ?_
  refine w_s (c' := (6, [some (aR (some (40, 0, 0)))], [aR (some (40, 0, 0))], am_hp ((sI σ (40, 0, 0) (up (σ.1 (40, 0, 0)) 0 0))), t)) rfl rfl ?_
  refine w_get rfl (hp_40 _ 0) rfl rfl ?_
  exact w_ret rfl rfl q1

theorem e_X12_errorPosition {h : AH} {t : KT} {d : Nat} {P : RS → Prop} (w : Wp k_X12_errorPosition d (0, [some (aR (some (40, 0, 0)))], [], h, t) P) : ∃ r, Ca (d + 1) 198 [aR (some (40, 0, 0))] h t r ∧ P r := ca_W rfl rfl rfl rfl w

theorem b_X12_bufferName_0 {r1 : Int} {σ σ1 : SG} {t : KT} (h1 : -2147483648 ≤ σ.1 (40, 0, 0) 2 ∧ σ.1 (40, 0, 0) 2 < 2147483648) (c2 : Ca d 175 [aL (jZ (σ.1 (40, 0, 0) 2)), aL (jZ 1), aL (jZ 8)] (am_hp σ) t (.inl (some (aI (iZ r1))), am_hp σ1, t)) (h3 : -2147483648 ≤ r1 ∧ r1 < 2147483648) (w4 : r1 ≠ 0 → Wp k_X12_bufferName d (17, [some (aR (some (40, 0, 0))), none, none, none], [], am_hp σ1, t) Q) (w5 : r1 = 0 → Wp k_X12_bufferName d (15, [some (aR (some (40, 0, 0))), none, none, none], [], am_hp σ1, t) Q) : Wp k_X12_bufferName d (0, [some (aR (some (40, 0, 0))), none, none, none], [], am_hp σ, t) Q := by
  refine w_s (c' := (1, [some (aR (some (40, 0, 0))), none, none, none], [aR (some (40, 0, 0))], am_hp σ, t)) rfl rfl ?_
  refine w_get rfl (hp_40 _ 0) rfl rfl ?_
  refine w_i2l rfl rfl h1 ?_
  refine w_psL rfl yc_1 rfl ?_
  refine w_psL rfl yc_8 rfl ?_
  refine w_c0 (c' := (12, [some (aR (some (40, 0, 0))), none, none, none], [aI (iZ r1)], am_hp σ1, t)) rfl rfl rfl rfl c2 (Nat.le_refl _) rfl ?_
  exact w_ifne rfl h3 rfl w4 w5

theorem e_X12_bufferName {h : AH} {t : KT} {d : Nat} {P : RS → Prop} (w : Wp k_X12_bufferName d (0, [some (aR (some (40, 0, 0))), none, none, none], [], h, t) P) : ∃ r, Ca (d + 1) 199 [aR (some (40, 0, 0))] h t r ∧ P r := ca_W rfl rfl rfl rfl w

theorem b_X12_bufferName_15 {σ : SG} {t : KT} (q1 : Q (.inl (some (aL (jZ 0))), am_hp σ, t)) : Wp k_X12_bufferName d (15, [some (aR (some (40, 0, 0))), none, none, none], [], am_hp σ, t) Q := by
  refine w_psL rfl yc_0 rfl ?_
  exact w_ret rfl rfl q1

theorem b_X12_bufferName_17 {σ : SG} {t : KT} (w1 : Wp k_X12_bufferName d (21, [some (aR (some (40, 0, 0))), some (aL (jZ 0)), none, some (aI (iZ 0))], [], am_hp σ, t) Q) : Wp k_X12_bufferName d (17, [some (aR (some (40, 0, 0))), none, none, none], [], am_hp σ, t) Q := by
  refine w_psL rfl yc_0 rfl ?_
  refine w_s (c' := (19, [some (aR (some (40, 0, 0))), some (aL (jZ 0)), none, none], [], am_hp σ, t)) rfl rfl ?_
  refine w_psh rfl zc_0 rfl ?_
  refine w_s (c' := (21, [some (aR (some (40, 0, 0))), some (aL (jZ 0)), none, some (aI (iZ 0))], [], am_hp σ, t)) rfl rfl ?_
  exact w1

theorem b_X12_bufferName_21 {y1 : Int} {x3 : Int} {σ : SG} {t : KT} (h1 : -2147483648 ≤ x3 ∧ x3 < 2147483648) (h2 : -2147483648 ≤ σ.1 (40, 0, 0) 2 ∧ σ.1 (40, 0, 0) 2 < 2147483648) (w3 : σ.1 (40, 0, 0) 2 ≤ x3 → Wp k_X12_bufferName d (66, [some (aR (some (40, 0, 0))), some (aL (jZ y1)), none, some (aI (iZ x3))], [], am_hp σ, t) Q) (w4 : x3 < σ.1 (40, 0, 0) 2 → Wp k_X12_bufferName d (29, [some (aR (some (40, 0, 0))), some (aL (jZ y1)), none, some (aI (iZ x3))], [], am_hp σ, t) Q) : Wp k_X12_bufferName d (21, [some (aR (some (40, 0, 0))), some (aL (jZ y1)), none, some (aI (iZ x3))], [], am_hp σ, t) Q := by
  refine w_s (c' := (22, [some (aR (some (40, 0, 0))), some (aL (jZ y1)), none, some (aI (iZ x3))], [aI (iZ x3)], am_hp σ, t)) rfl rfl ?_
  refine w_s (c' := (23, [some (aR (some (40, 0, 0))), some (aL (jZ y1)), none, some (aI (iZ x3))], [aR (some (40, 0, 0)), aI (iZ x3)], am_hp σ, t)) rfl rfl ?_
  refine w_get rfl (hp_40 _ 0) rfl rfl ?_
  exact w_icge rfl h1 h2 rfl w3 w4

theorem b_X12_bufferName_29 {y1 : Int} {x3 : Int} {r1 : Int} {σ σ1 : SG} {t : KT} (h1 : 0 ≤ x3 ∧ x3 < 600) (c2 : Ca d 184 [aI (iZ (σ.1 (41, 0, 0) x3.toNat))] (am_hp σ) t (.inl (some (aI (iZ r1))), am_hp σ1, t)) (h3 : -2147483648 ≤ r1 ∧ r1 < 2147483648) (w4 : r1 ≠ 0 → Wp k_X12_bufferName d (43, [some (aR (some (40, 0, 0))), some (aL (jZ y1)), none, some (aI (iZ x3))], [], am_hp σ1, t) Q) (w5 : r1 = 0 → Wp k_X12_bufferName d (41, [some (aR (some (40, 0, 0))), some (aL (jZ y1)), none, some (aI (iZ x3))], [], am_hp σ1, t) Q) : Wp k_X12_bufferName d (29, [some (aR (some (40, 0, 0))), some (aL (jZ y1)), none, some (aI (iZ x3))], [], am_hp σ, t) Q := by
  refine w_s (c' := (30, [some (aR (some (40, 0, 0))), some (aL (jZ y1)), none, some (aI (iZ x3))], [aR (some (40, 0, 0))], am_hp σ, t)) rfl rfl ?_
  refine w_get rfl (hp_40 _ 0) rfl rfl ?_
  refine w_s (c' := (34, [some (aR (some (40, 0, 0))), some (aL (jZ y1)), none, some (aI (iZ x3))], [aI (iZ x3), aR (some (41, 0, 0))], am_hp σ, t)) rfl rfl ?_
  refine w_ial rfl (hp_41 _ 0 0) h1 rfl rfl ?_
  refine w_c0 (c' := (38, [some (aR (some (40, 0, 0))), some (aL (jZ y1)), none, some (aI (iZ x3))], [aI (iZ r1)], am_hp σ1, t)) rfl rfl rfl rfl c2 (Nat.le_refl _) rfl ?_
  exact w_ifne rfl h3 rfl w4 w5

theorem b_X12_bufferName_41 {y1 : Int} {x3 : Int} {σ : SG} {t : KT} (q1 : Q (.inl (some (aL (jZ 0))), am_hp σ, t)) : Wp k_X12_bufferName d (41, [some (aR (some (40, 0, 0))), some (aL (jZ y1)), none, some (aI (iZ x3))], [], am_hp σ, t) Q := by
  refine w_psL rfl yc_0 rfl ?_
  exact w_ret rfl rfl q1

theorem b_X12_bufferName_43 {y1 : Int} {x3 : Int} {σ : SG} {t : KT} (h1 : 0 ≤ x3 ∧ x3 < 600) (h2 : -2147483648 ≤ ((σ.1 (41, 0, 0) x3.toNat) - 97) + 1 ∧ ((σ.1 (41, 0, 0) x3.toNat) - 97) + 1 < 2147483648) (w3 : Wp k_X12_bufferName d (21, [some (aR (some (40, 0, 0))), some (aL (jZ (yor (yshl y1 5) (((σ.1 (41, 0, 0) x3.toNat) - 97) + 1)))), none, some (aI (iZ (x3 + 1)))], [], am_hp σ, t) Q) : Wp k_X12_bufferName d (43, [some (aR (some (40, 0, 0))), some (aL (jZ y1)), none, some (aI (iZ x3))], [], am_hp σ, t) Q := by
  refine w_s (c' := (44, [some (aR (some (40, 0, 0))), some (aL (jZ y1)), none, some (aI (iZ x3))], [aL (jZ y1)], am_hp σ, t)) rfl rfl ?_
  refine w_psh rfl zc_5 rfl ?_
  refine w_lshl rfl rfl ?_
  refine w_s (c' := (47, [some (aR (some (40, 0, 0))), some (aL (jZ y1)), none, some (aI (iZ x3))], [aR (some (40, 0, 0)), aL (jZ (yshl y1 5))], am_hp σ, t)) rfl rfl ?_
  refine w_get rfl (hp_40 _ 0) rfl rfl ?_
  refine w_s (c' := (51, [some (aR (some (40, 0, 0))), some (aL (jZ y1)), none, some (aI (iZ x3))], [aI (iZ x3), aR (some (41, 0, 0)), aL (jZ (yshl y1 5))], am_hp σ, t)) rfl rfl ?_
  refine w_ial rfl (hp_41 _ 0 0) h1 rfl rfl ?_
  refine w_psh rfl zc_97 rfl ?_
  refine w_isub rfl rfl ?_
  refine w_psh rfl zc_1 rfl ?_
  refine w_iadd rfl rfl ?_
  refine w_i2l rfl rfl h2 ?_
  refine w_lor rfl rfl ?_
  refine w_s (c' := (60, [some (aR (some (40, 0, 0))), some (aL (jZ (yor (yshl y1 5) (((σ.1 (41, 0, 0) x3.toNat) - 97) + 1)))), none, some (aI (iZ x3))], [], am_hp σ, t)) rfl rfl ?_
  refine w_inc (a := x3) (ls' := [some (aR (some (40, 0, 0))), some (aL (jZ (yor (yshl y1 5) (((σ.1 (41, 0, 0) x3.toNat) - 97) + 1)))), none, some (aI (iZ (x3 + 1)))]) rfl rfl rfl zc_1 rfl rfl ?_
  refine w_s (c' := (21, [some (aR (some (40, 0, 0))), some (aL (jZ (yor (yshl y1 5) (((σ.1 (41, 0, 0) x3.toNat) - 97) + 1)))), none, some (aI (iZ (x3 + 1)))], [], am_hp σ, t)) rfl rfl ?_
  exact w3

theorem b_X12_bufferName_66 {y1 : Int} {x3 : Int} {σ : SG} {t : KT} (q1 : Q (.inl (some (aL (jZ y1))), am_hp σ, t)) : Wp k_X12_bufferName d (66, [some (aR (some (40, 0, 0))), some (aL (jZ y1)), none, some (aI (iZ x3))], [], am_hp σ, t) Q := by
  refine w_s (c' := (67, [some (aR (some (40, 0, 0))), some (aL (jZ y1)), none, some (aI (iZ x3))], [aL (jZ y1)], am_hp σ, t)) rfl rfl ?_
  exact w_ret rfl rfl q1

theorem b_X12_copiesRow_42_44_0 {x1 : Int} {x3 : Int} {σ : SG} {t : KT} (w1 : Wp k_X12_copiesRow d (3, [some (aR (some (42, 0, 0))), some (aI (iZ x1)), some (aR (some (44, 0, 0))), some (aI (iZ x3)), some (aI (iZ 0))], [], am_hp σ, t) Q) : Wp k_X12_copiesRow d (0, [some (aR (some (42, 0, 0))), some (aI (iZ x1)), some (aR (some (44, 0, 0))), some (aI (iZ x3)), none], [], am_hp σ, t) Q := by
  refine w_psh rfl zc_0 rfl ?_
  refine w_s (c' := (3, [some (aR (some (42, 0, 0))), some (aI (iZ x1)), some (aR (some (44, 0, 0))), some (aI (iZ x3)), some (aI (iZ 0))], [], am_hp σ, t)) rfl rfl ?_
  exact w1

theorem e_X12_copiesRow_42_44 {x1 : Int} {x3 : Int} {h : AH} {t : KT} {d : Nat} {P : RS → Prop} (w : Wp k_X12_copiesRow d (0, [some (aR (some (42, 0, 0))), some (aI (iZ x1)), some (aR (some (44, 0, 0))), some (aI (iZ x3)), none], [], h, t) P) : ∃ r, Ca (d + 1) 200 [aR (some (42, 0, 0)), aI (iZ x1), aR (some (44, 0, 0)), aI (iZ x3)] h t r ∧ P r := ca_W rfl rfl rfl rfl w

theorem b_X12_copiesRow_42_44_3 {x1 : Int} {x3 : Int} {x4 : Int} {σ : SG} {t : KT} (h1 : -2147483648 ≤ x4 ∧ x4 < 2147483648) (w2 : 264 ≤ x4 → Wp k_X12_copiesRow d (29, [some (aR (some (42, 0, 0))), some (aI (iZ x1)), some (aR (some (44, 0, 0))), some (aI (iZ x3)), some (aI (iZ x4))], [], am_hp σ, t) Q) (w3 : x4 < 264 → Wp k_X12_copiesRow d (11, [some (aR (some (42, 0, 0))), some (aI (iZ x1)), some (aR (some (44, 0, 0))), some (aI (iZ x3)), some (aI (iZ x4))], [], am_hp σ, t) Q) : Wp k_X12_copiesRow d (3, [some (aR (some (42, 0, 0))), some (aI (iZ x1)), some (aR (some (44, 0, 0))), some (aI (iZ x3)), some (aI (iZ x4))], [], am_hp σ, t) Q := by
  refine w_s (c' := (5, [some (aR (some (42, 0, 0))), some (aI (iZ x1)), some (aR (some (44, 0, 0))), some (aI (iZ x3)), some (aI (iZ x4))], [aI (iZ x4)], am_hp σ, t)) rfl rfl ?_
  refine w_psh rfl zc_264 rfl ?_
  exact w_icge rfl h1 (by decide) rfl w2 w3

theorem b_X12_copiesRow_42_44_11 {x1 : Int} {x3 : Int} {x4 : Int} {σ : SG} {t : KT} (h1 : 0 ≤ x1 + x4 ∧ x1 + x4 < 264) (h2 : 0 ≤ x3 + x4 ∧ x3 + x4 < 264) (w3 : Wp k_X12_copiesRow d (3, [some (aR (some (42, 0, 0))), some (aI (iZ x1)), some (aR (some (44, 0, 0))), some (aI (iZ x3)), some (aI (iZ (x4 + 1)))], [], am_hp ((sI σ (44, 0, 0) (up (σ.1 (44, 0, 0)) (x3 + x4).toNat (σ.1 (42, 0, 0) (x1 + x4).toNat)))), t) Q) : Wp k_X12_copiesRow d (11, [some (aR (some (42, 0, 0))), some (aI (iZ x1)), some (aR (some (44, 0, 0))), some (aI (iZ x3)), some (aI (iZ x4))], [], am_hp σ, t) Q := by
  refine w_s (c' := (12, [some (aR (some (42, 0, 0))), some (aI (iZ x1)), some (aR (some (44, 0, 0))), some (aI (iZ x3)), some (aI (iZ x4))], [aR (some (44, 0, 0))], am_hp σ, t)) rfl rfl ?_
  refine w_s (c' := (13, [some (aR (some (42, 0, 0))), some (aI (iZ x1)), some (aR (some (44, 0, 0))), some (aI (iZ x3)), some (aI (iZ x4))], [aI (iZ x3), aR (some (44, 0, 0))], am_hp σ, t)) rfl rfl ?_
  refine w_s (c' := (15, [some (aR (some (42, 0, 0))), some (aI (iZ x1)), some (aR (some (44, 0, 0))), some (aI (iZ x3)), some (aI (iZ x4))], [aI (iZ x4), aI (iZ x3), aR (some (44, 0, 0))], am_hp σ, t)) rfl rfl ?_
  refine w_iadd rfl rfl ?_
  refine w_s (c' := (17, [some (aR (some (42, 0, 0))), some (aI (iZ x1)), some (aR (some (44, 0, 0))), some (aI (iZ x3)), some (aI (iZ x4))], [aR (some (42, 0, 0)), aI (iZ (x3 + x4)), aR (some (44, 0, 0))], am_hp σ, t)) rfl rfl ?_
  refine w_s (c' := (18, [some (aR (some (42, 0, 0))), some (aI (iZ x1)), some (aR (some (44, 0, 0))), some (aI (iZ x3)), some (aI (iZ x4))], [aI (iZ x1), aR (some (42, 0, 0)), aI (iZ (x3 + x4)), aR (some (44, 0, 0))], am_hp σ, t)) rfl rfl ?_
  refine w_s (c' := (20, [some (aR (some (42, 0, 0))), some (aI (iZ x1)), some (aR (some (44, 0, 0))), some (aI (iZ x3)), some (aI (iZ x4))], [aI (iZ x4), aI (iZ x1), aR (some (42, 0, 0)), aI (iZ (x3 + x4)), aR (some (44, 0, 0))], am_hp σ, t)) rfl rfl ?_
  refine w_iadd rfl rfl ?_
  refine w_ial rfl (hp_42 _ 0 0) h1 rfl rfl ?_
  refine w_ias rfl (mk_44 _ 0 0) h2 rfl rfl rfl ?_
  refine w_inc (a := x4) (ls' := [some (aR (some (42, 0, 0))), some (aI (iZ x1)), some (aR (some (44, 0, 0))), some (aI (iZ x3)), some (aI (iZ (x4 + 1)))]) rfl rfl rfl zc_1 rfl rfl ?_
  refine w_s (c' := (3, [some (aR (some (42, 0, 0))), some (aI (iZ x1)), some (aR (some (44, 0, 0))), some (aI (iZ x3)), some (aI (iZ (x4 + 1)))], [], am_hp ((sI σ (44, 0, 0) (up (σ.1 (44, 0, 0)) (x3 + x4).toNat (σ.1 (42, 0, 0) (x1 + x4).toNat)))), t)) rfl rfl ?_
  exact w3

theorem b_X12_copiesRow_42_44_29 {x1 : Int} {x3 : Int} {x4 : Int} {σ : SG} {t : KT} (q1 : Q (.inl none, am_hp σ, t)) : Wp k_X12_copiesRow d (29, [some (aR (some (42, 0, 0))), some (aI (iZ x1)), some (aR (some (44, 0, 0))), some (aI (iZ x3)), some (aI (iZ x4))], [], am_hp σ, t) Q := by
  exact w_f rfl rfl q1

theorem b_X12_copiesRow_44_42_0 {x1 : Int} {x3 : Int} {σ : SG} {t : KT} (w1 : Wp k_X12_copiesRow d (3, [some (aR (some (44, 0, 0))), some (aI (iZ x1)), some (aR (some (42, 0, 0))), some (aI (iZ x3)), some (aI (iZ 0))], [], am_hp σ, t) Q) : Wp k_X12_copiesRow d (0, [some (aR (some (44, 0, 0))), some (aI (iZ x1)), some (aR (some (42, 0, 0))), some (aI (iZ x3)), none], [], am_hp σ, t) Q := by
  refine w_psh rfl zc_0 rfl ?_
  refine w_s (c' := (3, [some (aR (some (44, 0, 0))), some (aI (iZ x1)), some (aR (some (42, 0, 0))), some (aI (iZ x3)), some (aI (iZ 0))], [], am_hp σ, t)) rfl rfl ?_
  exact w1

theorem e_X12_copiesRow_44_42 {x1 : Int} {x3 : Int} {h : AH} {t : KT} {d : Nat} {P : RS → Prop} (w : Wp k_X12_copiesRow d (0, [some (aR (some (44, 0, 0))), some (aI (iZ x1)), some (aR (some (42, 0, 0))), some (aI (iZ x3)), none], [], h, t) P) : ∃ r, Ca (d + 1) 200 [aR (some (44, 0, 0)), aI (iZ x1), aR (some (42, 0, 0)), aI (iZ x3)] h t r ∧ P r := ca_W rfl rfl rfl rfl w

theorem b_X12_copiesRow_44_42_3 {x1 : Int} {x3 : Int} {x4 : Int} {σ : SG} {t : KT} (h1 : -2147483648 ≤ x4 ∧ x4 < 2147483648) (w2 : 264 ≤ x4 → Wp k_X12_copiesRow d (29, [some (aR (some (44, 0, 0))), some (aI (iZ x1)), some (aR (some (42, 0, 0))), some (aI (iZ x3)), some (aI (iZ x4))], [], am_hp σ, t) Q) (w3 : x4 < 264 → Wp k_X12_copiesRow d (11, [some (aR (some (44, 0, 0))), some (aI (iZ x1)), some (aR (some (42, 0, 0))), some (aI (iZ x3)), some (aI (iZ x4))], [], am_hp σ, t) Q) : Wp k_X12_copiesRow d (3, [some (aR (some (44, 0, 0))), some (aI (iZ x1)), some (aR (some (42, 0, 0))), some (aI (iZ x3)), some (aI (iZ x4))], [], am_hp σ, t) Q := by
  refine w_s (c' := (5, [some (aR (some (44, 0, 0))), some (aI (iZ x1)), some (aR (some (42, 0, 0))), some (aI (iZ x3)), some (aI (iZ x4))], [aI (iZ x4)], am_hp σ, t)) rfl rfl ?_
  refine w_psh rfl zc_264 rfl ?_
  exact w_icge rfl h1 (by decide) rfl w2 w3

theorem b_X12_copiesRow_44_42_11 {x1 : Int} {x3 : Int} {x4 : Int} {σ : SG} {t : KT} (h1 : 0 ≤ x1 + x4 ∧ x1 + x4 < 264) (h2 : 0 ≤ x3 + x4 ∧ x3 + x4 < 264) (w3 : Wp k_X12_copiesRow d (3, [some (aR (some (44, 0, 0))), some (aI (iZ x1)), some (aR (some (42, 0, 0))), some (aI (iZ x3)), some (aI (iZ (x4 + 1)))], [], am_hp ((sI σ (42, 0, 0) (up (σ.1 (42, 0, 0)) (x3 + x4).toNat (σ.1 (44, 0, 0) (x1 + x4).toNat)))), t) Q) : Wp k_X12_copiesRow d (11, [some (aR (some (44, 0, 0))), some (aI (iZ x1)), some (aR (some (42, 0, 0))), some (aI (iZ x3)), some (aI (iZ x4))], [], am_hp σ, t) Q := by
  refine w_s (c' := (12, [some (aR (some (44, 0, 0))), some (aI (iZ x1)), some (aR (some (42, 0, 0))), some (aI (iZ x3)), some (aI (iZ x4))], [aR (some (42, 0, 0))], am_hp σ, t)) rfl rfl ?_
  refine w_s (c' := (13, [some (aR (some (44, 0, 0))), some (aI (iZ x1)), some (aR (some (42, 0, 0))), some (aI (iZ x3)), some (aI (iZ x4))], [aI (iZ x3), aR (some (42, 0, 0))], am_hp σ, t)) rfl rfl ?_
  refine w_s (c' := (15, [some (aR (some (44, 0, 0))), some (aI (iZ x1)), some (aR (some (42, 0, 0))), some (aI (iZ x3)), some (aI (iZ x4))], [aI (iZ x4), aI (iZ x3), aR (some (42, 0, 0))], am_hp σ, t)) rfl rfl ?_
  refine w_iadd rfl rfl ?_
  refine w_s (c' := (17, [some (aR (some (44, 0, 0))), some (aI (iZ x1)), some (aR (some (42, 0, 0))), some (aI (iZ x3)), some (aI (iZ x4))], [aR (some (44, 0, 0)), aI (iZ (x3 + x4)), aR (some (42, 0, 0))], am_hp σ, t)) rfl rfl ?_
  refine w_s (c' := (18, [some (aR (some (44, 0, 0))), some (aI (iZ x1)), some (aR (some (42, 0, 0))), some (aI (iZ x3)), some (aI (iZ x4))], [aI (iZ x1), aR (some (44, 0, 0)), aI (iZ (x3 + x4)), aR (some (42, 0, 0))], am_hp σ, t)) rfl rfl ?_
  refine w_s (c' := (20, [some (aR (some (44, 0, 0))), some (aI (iZ x1)), some (aR (some (42, 0, 0))), some (aI (iZ x3)), some (aI (iZ x4))], [aI (iZ x4), aI (iZ x1), aR (some (44, 0, 0)), aI (iZ (x3 + x4)), aR (some (42, 0, 0))], am_hp σ, t)) rfl rfl ?_
  refine w_iadd rfl rfl ?_
  refine w_ial rfl (hp_44 _ 0 0) h1 rfl rfl ?_
  refine w_ias rfl (mk_42 _ 0 0) h2 rfl rfl rfl ?_
  refine w_inc (a := x4) (ls' := [some (aR (some (44, 0, 0))), some (aI (iZ x1)), some (aR (some (42, 0, 0))), some (aI (iZ x3)), some (aI (iZ (x4 + 1)))]) rfl rfl rfl zc_1 rfl rfl ?_
  refine w_s (c' := (3, [some (aR (some (44, 0, 0))), some (aI (iZ x1)), some (aR (some (42, 0, 0))), some (aI (iZ x3)), some (aI (iZ (x4 + 1)))], [], am_hp ((sI σ (42, 0, 0) (up (σ.1 (42, 0, 0)) (x3 + x4).toNat (σ.1 (44, 0, 0) (x1 + x4).toNat)))), t)) rfl rfl ?_
  exact w3

theorem b_X12_copiesRow_44_42_29 {x1 : Int} {x3 : Int} {x4 : Int} {σ : SG} {t : KT} (q1 : Q (.inl none, am_hp σ, t)) : Wp k_X12_copiesRow d (29, [some (aR (some (44, 0, 0))), some (aI (iZ x1)), some (aR (some (42, 0, 0))), some (aI (iZ x3)), some (aI (iZ x4))], [], am_hp σ, t) Q := by
  exact w_f rfl rfl q1

theorem b_X12_copiesRow_44_45_0 {x1 : Int} {x3 : Int} {σ : SG} {t : KT} (w1 : Wp k_X12_copiesRow d (3, [some (aR (some (44, 0, 0))), some (aI (iZ x1)), some (aR (some (45, 0, 0))), some (aI (iZ x3)), some (aI (iZ 0))], [], am_hp σ, t) Q) : Wp k_X12_copiesRow d (0, [some (aR (some (44, 0, 0))), some (aI (iZ x1)), some (aR (some (45, 0, 0))), some (aI (iZ x3)), none], [], am_hp σ, t) Q := by
  refine w_psh rfl zc_0 rfl ?_
  refine w_s (c' := (3, [some (aR (some (44, 0, 0))), some (aI (iZ x1)), some (aR (some (45, 0, 0))), some (aI (iZ x3)), some (aI (iZ 0))], [], am_hp σ, t)) rfl rfl ?_
  exact w1

theorem e_X12_copiesRow_44_45 {x1 : Int} {x3 : Int} {h : AH} {t : KT} {d : Nat} {P : RS → Prop} (w : Wp k_X12_copiesRow d (0, [some (aR (some (44, 0, 0))), some (aI (iZ x1)), some (aR (some (45, 0, 0))), some (aI (iZ x3)), none], [], h, t) P) : ∃ r, Ca (d + 1) 200 [aR (some (44, 0, 0)), aI (iZ x1), aR (some (45, 0, 0)), aI (iZ x3)] h t r ∧ P r := ca_W rfl rfl rfl rfl w

theorem b_X12_copiesRow_44_45_3 {x1 : Int} {x3 : Int} {x4 : Int} {σ : SG} {t : KT} (h1 : -2147483648 ≤ x4 ∧ x4 < 2147483648) (w2 : 264 ≤ x4 → Wp k_X12_copiesRow d (29, [some (aR (some (44, 0, 0))), some (aI (iZ x1)), some (aR (some (45, 0, 0))), some (aI (iZ x3)), some (aI (iZ x4))], [], am_hp σ, t) Q) (w3 : x4 < 264 → Wp k_X12_copiesRow d (11, [some (aR (some (44, 0, 0))), some (aI (iZ x1)), some (aR (some (45, 0, 0))), some (aI (iZ x3)), some (aI (iZ x4))], [], am_hp σ, t) Q) : Wp k_X12_copiesRow d (3, [some (aR (some (44, 0, 0))), some (aI (iZ x1)), some (aR (some (45, 0, 0))), some (aI (iZ x3)), some (aI (iZ x4))], [], am_hp σ, t) Q := by
  refine w_s (c' := (5, [some (aR (some (44, 0, 0))), some (aI (iZ x1)), some (aR (some (45, 0, 0))), some (aI (iZ x3)), some (aI (iZ x4))], [aI (iZ x4)], am_hp σ, t)) rfl rfl ?_
  refine w_psh rfl zc_264 rfl ?_
  exact w_icge rfl h1 (by decide) rfl w2 w3

theorem b_X12_copiesRow_44_45_11 {x1 : Int} {x3 : Int} {x4 : Int} {σ : SG} {t : KT} (h1 : 0 ≤ x1 + x4 ∧ x1 + x4 < 264) (h2 : 0 ≤ x3 + x4 ∧ x3 + x4 < 1584) (w3 : Wp k_X12_copiesRow d (3, [some (aR (some (44, 0, 0))), some (aI (iZ x1)), some (aR (some (45, 0, 0))), some (aI (iZ x3)), some (aI (iZ (x4 + 1)))], [], am_hp ((sI σ (45, 0, 0) (up (σ.1 (45, 0, 0)) (x3 + x4).toNat (σ.1 (44, 0, 0) (x1 + x4).toNat)))), t) Q) : Wp k_X12_copiesRow d (11, [some (aR (some (44, 0, 0))), some (aI (iZ x1)), some (aR (some (45, 0, 0))), some (aI (iZ x3)), some (aI (iZ x4))], [], am_hp σ, t) Q := by
  refine w_s (c' := (12, [some (aR (some (44, 0, 0))), some (aI (iZ x1)), some (aR (some (45, 0, 0))), some (aI (iZ x3)), some (aI (iZ x4))], [aR (some (45, 0, 0))], am_hp σ, t)) rfl rfl ?_
  refine w_s (c' := (13, [some (aR (some (44, 0, 0))), some (aI (iZ x1)), some (aR (some (45, 0, 0))), some (aI (iZ x3)), some (aI (iZ x4))], [aI (iZ x3), aR (some (45, 0, 0))], am_hp σ, t)) rfl rfl ?_
  refine w_s (c' := (15, [some (aR (some (44, 0, 0))), some (aI (iZ x1)), some (aR (some (45, 0, 0))), some (aI (iZ x3)), some (aI (iZ x4))], [aI (iZ x4), aI (iZ x3), aR (some (45, 0, 0))], am_hp σ, t)) rfl rfl ?_
  refine w_iadd rfl rfl ?_
  refine w_s (c' := (17, [some (aR (some (44, 0, 0))), some (aI (iZ x1)), some (aR (some (45, 0, 0))), some (aI (iZ x3)), some (aI (iZ x4))], [aR (some (44, 0, 0)), aI (iZ (x3 + x4)), aR (some (45, 0, 0))], am_hp σ, t)) rfl rfl ?_
  refine w_s (c' := (18, [some (aR (some (44, 0, 0))), some (aI (iZ x1)), some (aR (some (45, 0, 0))), some (aI (iZ x3)), some (aI (iZ x4))], [aI (iZ x1), aR (some (44, 0, 0)), aI (iZ (x3 + x4)), aR (some (45, 0, 0))], am_hp σ, t)) rfl rfl ?_
  refine w_s (c' := (20, [some (aR (some (44, 0, 0))), some (aI (iZ x1)), some (aR (some (45, 0, 0))), some (aI (iZ x3)), some (aI (iZ x4))], [aI (iZ x4), aI (iZ x1), aR (some (44, 0, 0)), aI (iZ (x3 + x4)), aR (some (45, 0, 0))], am_hp σ, t)) rfl rfl ?_
  refine w_iadd rfl rfl ?_
  refine w_ial rfl (hp_44 _ 0 0) h1 rfl rfl ?_
  refine w_ias rfl (mk_45 _ 0 0) h2 rfl rfl rfl ?_
  refine w_inc (a := x4) (ls' := [some (aR (some (44, 0, 0))), some (aI (iZ x1)), some (aR (some (45, 0, 0))), some (aI (iZ x3)), some (aI (iZ (x4 + 1)))]) rfl rfl rfl zc_1 rfl rfl ?_
  refine w_s (c' := (3, [some (aR (some (44, 0, 0))), some (aI (iZ x1)), some (aR (some (45, 0, 0))), some (aI (iZ x3)), some (aI (iZ (x4 + 1)))], [], am_hp ((sI σ (45, 0, 0) (up (σ.1 (45, 0, 0)) (x3 + x4).toNat (σ.1 (44, 0, 0) (x1 + x4).toNat)))), t)) rfl rfl ?_
  exact w3

theorem b_X12_copiesRow_44_45_29 {x1 : Int} {x3 : Int} {x4 : Int} {σ : SG} {t : KT} (q1 : Q (.inl none, am_hp σ, t)) : Wp k_X12_copiesRow d (29, [some (aR (some (44, 0, 0))), some (aI (iZ x1)), some (aR (some (45, 0, 0))), some (aI (iZ x3)), some (aI (iZ x4))], [], am_hp σ, t) Q := by
  exact w_f rfl rfl q1

theorem b_X12_copiesRow_45_42_0 {x1 : Int} {x3 : Int} {σ : SG} {t : KT} (w1 : Wp k_X12_copiesRow d (3, [some (aR (some (45, 0, 0))), some (aI (iZ x1)), some (aR (some (42, 0, 0))), some (aI (iZ x3)), some (aI (iZ 0))], [], am_hp σ, t) Q) : Wp k_X12_copiesRow d (0, [some (aR (some (45, 0, 0))), some (aI (iZ x1)), some (aR (some (42, 0, 0))), some (aI (iZ x3)), none], [], am_hp σ, t) Q := by
  refine w_psh rfl zc_0 rfl ?_
  refine w_s (c' := (3, [some (aR (some (45, 0, 0))), some (aI (iZ x1)), some (aR (some (42, 0, 0))), some (aI (iZ x3)), some (aI (iZ 0))], [], am_hp σ, t)) rfl rfl ?_
  exact w1

theorem e_X12_copiesRow_45_42 {x1 : Int} {x3 : Int} {h : AH} {t : KT} {d : Nat} {P : RS → Prop} (w : Wp k_X12_copiesRow d (0, [some (aR (some (45, 0, 0))), some (aI (iZ x1)), some (aR (some (42, 0, 0))), some (aI (iZ x3)), none], [], h, t) P) : ∃ r, Ca (d + 1) 200 [aR (some (45, 0, 0)), aI (iZ x1), aR (some (42, 0, 0)), aI (iZ x3)] h t r ∧ P r := ca_W rfl rfl rfl rfl w

theorem b_X12_copiesRow_45_42_3 {x1 : Int} {x3 : Int} {x4 : Int} {σ : SG} {t : KT} (h1 : -2147483648 ≤ x4 ∧ x4 < 2147483648) (w2 : 264 ≤ x4 → Wp k_X12_copiesRow d (29, [some (aR (some (45, 0, 0))), some (aI (iZ x1)), some (aR (some (42, 0, 0))), some (aI (iZ x3)), some (aI (iZ x4))], [], am_hp σ, t) Q) (w3 : x4 < 264 → Wp k_X12_copiesRow d (11, [some (aR (some (45, 0, 0))), some (aI (iZ x1)), some (aR (some (42, 0, 0))), some (aI (iZ x3)), some (aI (iZ x4))], [], am_hp σ, t) Q) : Wp k_X12_copiesRow d (3, [some (aR (some (45, 0, 0))), some (aI (iZ x1)), some (aR (some (42, 0, 0))), some (aI (iZ x3)), some (aI (iZ x4))], [], am_hp σ, t) Q := by
  refine w_s (c' := (5, [some (aR (some (45, 0, 0))), some (aI (iZ x1)), some (aR (some (42, 0, 0))), some (aI (iZ x3)), some (aI (iZ x4))], [aI (iZ x4)], am_hp σ, t)) rfl rfl ?_
  refine w_psh rfl zc_264 rfl ?_
  exact w_icge rfl h1 (by decide) rfl w2 w3

theorem b_X12_copiesRow_45_42_11 {x1 : Int} {x3 : Int} {x4 : Int} {σ : SG} {t : KT} (h1 : 0 ≤ x1 + x4 ∧ x1 + x4 < 1584) (h2 : 0 ≤ x3 + x4 ∧ x3 + x4 < 264) (w3 : Wp k_X12_copiesRow d (3, [some (aR (some (45, 0, 0))), some (aI (iZ x1)), some (aR (some (42, 0, 0))), some (aI (iZ x3)), some (aI (iZ (x4 + 1)))], [], am_hp ((sI σ (42, 0, 0) (up (σ.1 (42, 0, 0)) (x3 + x4).toNat (σ.1 (45, 0, 0) (x1 + x4).toNat)))), t) Q) : Wp k_X12_copiesRow d (11, [some (aR (some (45, 0, 0))), some (aI (iZ x1)), some (aR (some (42, 0, 0))), some (aI (iZ x3)), some (aI (iZ x4))], [], am_hp σ, t) Q := by
  refine w_s (c' := (12, [some (aR (some (45, 0, 0))), some (aI (iZ x1)), some (aR (some (42, 0, 0))), some (aI (iZ x3)), some (aI (iZ x4))], [aR (some (42, 0, 0))], am_hp σ, t)) rfl rfl ?_
  refine w_s (c' := (13, [some (aR (some (45, 0, 0))), some (aI (iZ x1)), some (aR (some (42, 0, 0))), some (aI (iZ x3)), some (aI (iZ x4))], [aI (iZ x3), aR (some (42, 0, 0))], am_hp σ, t)) rfl rfl ?_
  refine w_s (c' := (15, [some (aR (some (45, 0, 0))), some (aI (iZ x1)), some (aR (some (42, 0, 0))), some (aI (iZ x3)), some (aI (iZ x4))], [aI (iZ x4), aI (iZ x3), aR (some (42, 0, 0))], am_hp σ, t)) rfl rfl ?_
  refine w_iadd rfl rfl ?_
  refine w_s (c' := (17, [some (aR (some (45, 0, 0))), some (aI (iZ x1)), some (aR (some (42, 0, 0))), some (aI (iZ x3)), some (aI (iZ x4))], [aR (some (45, 0, 0)), aI (iZ (x3 + x4)), aR (some (42, 0, 0))], am_hp σ, t)) rfl rfl ?_
  refine w_s (c' := (18, [some (aR (some (45, 0, 0))), some (aI (iZ x1)), some (aR (some (42, 0, 0))), some (aI (iZ x3)), some (aI (iZ x4))], [aI (iZ x1), aR (some (45, 0, 0)), aI (iZ (x3 + x4)), aR (some (42, 0, 0))], am_hp σ, t)) rfl rfl ?_
  refine w_s (c' := (20, [some (aR (some (45, 0, 0))), some (aI (iZ x1)), some (aR (some (42, 0, 0))), some (aI (iZ x3)), some (aI (iZ x4))], [aI (iZ x4), aI (iZ x1), aR (some (45, 0, 0)), aI (iZ (x3 + x4)), aR (some (42, 0, 0))], am_hp σ, t)) rfl rfl ?_
  refine w_iadd rfl rfl ?_
  refine w_ial rfl (hp_45 _ 0 0) h1 rfl rfl ?_
  refine w_ias rfl (mk_42 _ 0 0) h2 rfl rfl rfl ?_
  refine w_inc (a := x4) (ls' := [some (aR (some (45, 0, 0))), some (aI (iZ x1)), some (aR (some (42, 0, 0))), some (aI (iZ x3)), some (aI (iZ (x4 + 1)))]) rfl rfl rfl zc_1 rfl rfl ?_
  refine w_s (c' := (3, [some (aR (some (45, 0, 0))), some (aI (iZ x1)), some (aR (some (42, 0, 0))), some (aI (iZ x3)), some (aI (iZ (x4 + 1)))], [], am_hp ((sI σ (42, 0, 0) (up (σ.1 (42, 0, 0)) (x3 + x4).toNat (σ.1 (45, 0, 0) (x1 + x4).toNat)))), t)) rfl rfl ?_
  exact w3

theorem b_X12_copiesRow_45_42_29 {x1 : Int} {x3 : Int} {x4 : Int} {σ : SG} {t : KT} (q1 : Q (.inl none, am_hp σ, t)) : Wp k_X12_copiesRow d (29, [some (aR (some (45, 0, 0))), some (aI (iZ x1)), some (aR (some (42, 0, 0))), some (aI (iZ x3)), some (aI (iZ x4))], [], am_hp σ, t) Q := by
  exact w_f rfl rfl q1

theorem b_X12_copiesRow_42_43_0 {x1 : Int} {x3 : Int} {σ : SG} {t : KT} (w1 : Wp k_X12_copiesRow d (3, [some (aR (some (42, 0, 0))), some (aI (iZ x1)), some (aR (some (43, 0, 0))), some (aI (iZ x3)), some (aI (iZ 0))], [], am_hp σ, t) Q) : Wp k_X12_copiesRow d (0, [some (aR (some (42, 0, 0))), some (aI (iZ x1)), some (aR (some (43, 0, 0))), some (aI (iZ x3)), none], [], am_hp σ, t) Q := by
  refine w_psh rfl zc_0 rfl ?_
  refine w_s (c' := (3, [some (aR (some (42, 0, 0))), some (aI (iZ x1)), some (aR (some (43, 0, 0))), some (aI (iZ x3)), some (aI (iZ 0))], [], am_hp σ, t)) rfl rfl ?_
  exact w1

theorem e_X12_copiesRow_42_43 {x1 : Int} {x3 : Int} {h : AH} {t : KT} {d : Nat} {P : RS → Prop} (w : Wp k_X12_copiesRow d (0, [some (aR (some (42, 0, 0))), some (aI (iZ x1)), some (aR (some (43, 0, 0))), some (aI (iZ x3)), none], [], h, t) P) : ∃ r, Ca (d + 1) 200 [aR (some (42, 0, 0)), aI (iZ x1), aR (some (43, 0, 0)), aI (iZ x3)] h t r ∧ P r := ca_W rfl rfl rfl rfl w

theorem b_X12_copiesRow_42_43_3 {x1 : Int} {x3 : Int} {x4 : Int} {σ : SG} {t : KT} (h1 : -2147483648 ≤ x4 ∧ x4 < 2147483648) (w2 : 264 ≤ x4 → Wp k_X12_copiesRow d (29, [some (aR (some (42, 0, 0))), some (aI (iZ x1)), some (aR (some (43, 0, 0))), some (aI (iZ x3)), some (aI (iZ x4))], [], am_hp σ, t) Q) (w3 : x4 < 264 → Wp k_X12_copiesRow d (11, [some (aR (some (42, 0, 0))), some (aI (iZ x1)), some (aR (some (43, 0, 0))), some (aI (iZ x3)), some (aI (iZ x4))], [], am_hp σ, t) Q) : Wp k_X12_copiesRow d (3, [some (aR (some (42, 0, 0))), some (aI (iZ x1)), some (aR (some (43, 0, 0))), some (aI (iZ x3)), some (aI (iZ x4))], [], am_hp σ, t) Q := by
  refine w_s (c' := (5, [some (aR (some (42, 0, 0))), some (aI (iZ x1)), some (aR (some (43, 0, 0))), some (aI (iZ x3)), some (aI (iZ x4))], [aI (iZ x4)], am_hp σ, t)) rfl rfl ?_
  refine w_psh rfl zc_264 rfl ?_
  exact w_icge rfl h1 (by decide) rfl w2 w3

theorem b_X12_copiesRow_42_43_11 {x1 : Int} {x3 : Int} {x4 : Int} {σ : SG} {t : KT} (h1 : 0 ≤ x1 + x4 ∧ x1 + x4 < 264) (h2 : 0 ≤ x3 + x4 ∧ x3 + x4 < 264) (w3 : Wp k_X12_copiesRow d (3, [some (aR (some (42, 0, 0))), some (aI (iZ x1)), some (aR (some (43, 0, 0))), some (aI (iZ x3)), some (aI (iZ (x4 + 1)))], [], am_hp ((sI σ (43, 0, 0) (up (σ.1 (43, 0, 0)) (x3 + x4).toNat (σ.1 (42, 0, 0) (x1 + x4).toNat)))), t) Q) : Wp k_X12_copiesRow d (11, [some (aR (some (42, 0, 0))), some (aI (iZ x1)), some (aR (some (43, 0, 0))), some (aI (iZ x3)), some (aI (iZ x4))], [], am_hp σ, t) Q := by
  refine w_s (c' := (12, [some (aR (some (42, 0, 0))), some (aI (iZ x1)), some (aR (some (43, 0, 0))), some (aI (iZ x3)), some (aI (iZ x4))], [aR (some (43, 0, 0))], am_hp σ, t)) rfl rfl ?_
  refine w_s (c' := (13, [some (aR (some (42, 0, 0))), some (aI (iZ x1)), some (aR (some (43, 0, 0))), some (aI (iZ x3)), some (aI (iZ x4))], [aI (iZ x3), aR (some (43, 0, 0))], am_hp σ, t)) rfl rfl ?_
  refine w_s (c' := (15, [some (aR (some (42, 0, 0))), some (aI (iZ x1)), some (aR (some (43, 0, 0))), some (aI (iZ x3)), some (aI (iZ x4))], [aI (iZ x4), aI (iZ x3), aR (some (43, 0, 0))], am_hp σ, t)) rfl rfl ?_
  refine w_iadd rfl rfl ?_
  refine w_s (c' := (17, [some (aR (some (42, 0, 0))), some (aI (iZ x1)), some (aR (some (43, 0, 0))), some (aI (iZ x3)), some (aI (iZ x4))], [aR (some (42, 0, 0)), aI (iZ (x3 + x4)), aR (some (43, 0, 0))], am_hp σ, t)) rfl rfl ?_
  refine w_s (c' := (18, [some (aR (some (42, 0, 0))), some (aI (iZ x1)), some (aR (some (43, 0, 0))), some (aI (iZ x3)), some (aI (iZ x4))], [aI (iZ x1), aR (some (42, 0, 0)), aI (iZ (x3 + x4)), aR (some (43, 0, 0))], am_hp σ, t)) rfl rfl ?_
  refine w_s (c' := (20, [some (aR (some (42, 0, 0))), some (aI (iZ x1)), some (aR (some (43, 0, 0))), some (aI (iZ x3)), some (aI (iZ x4))], [aI (iZ x4), aI (iZ x1), aR (some (42, 0, 0)), aI (iZ (x3 + x4)), aR (some (43, 0, 0))], am_hp σ, t)) rfl rfl ?_
  refine w_iadd rfl rfl ?_
  refine w_ial rfl (hp_42 _ 0 0) h1 rfl rfl ?_
  refine w_ias rfl (mk_43 _ 0 0) h2 rfl rfl rfl ?_
  refine w_inc (a := x4) (ls' := [some (aR (some (42, 0, 0))), some (aI (iZ x1)), some (aR (some (43, 0, 0))), some (aI (iZ x3)), some (aI (iZ (x4 + 1)))]) rfl rfl rfl zc_1 rfl rfl ?_
  refine w_s (c' := (3, [some (aR (some (42, 0, 0))), some (aI (iZ x1)), some (aR (some (43, 0, 0))), some (aI (iZ x3)), some (aI (iZ (x4 + 1)))], [], am_hp ((sI σ (43, 0, 0) (up (σ.1 (43, 0, 0)) (x3 + x4).toNat (σ.1 (42, 0, 0) (x1 + x4).toNat)))), t)) rfl rfl ?_
  exact w3

theorem b_X12_copiesRow_42_43_29 {x1 : Int} {x3 : Int} {x4 : Int} {σ : SG} {t : KT} (q1 : Q (.inl none, am_hp σ, t)) : Wp k_X12_copiesRow d (29, [some (aR (some (42, 0, 0))), some (aI (iZ x1)), some (aR (some (43, 0, 0))), some (aI (iZ x3)), some (aI (iZ x4))], [], am_hp σ, t) Q := by
  exact w_f rfl rfl q1

theorem b_X12_copiesRow_43_42_0 {x1 : Int} {x3 : Int} {σ : SG} {t : KT} (w1 : Wp k_X12_copiesRow d (3, [some (aR (some (43, 0, 0))), some (aI (iZ x1)), some (aR (some (42, 0, 0))), some (aI (iZ x3)), some (aI (iZ 0))], [], am_hp σ, t) Q) : Wp k_X12_copiesRow d (0, [some (aR (some (43, 0, 0))), some (aI (iZ x1)), some (aR (some (42, 0, 0))), some (aI (iZ x3)), none], [], am_hp σ, t) Q := by
  refine w_psh rfl zc_0 rfl ?_
  refine w_s (c' := (3, [some (aR (some (43, 0, 0))), some (aI (iZ x1)), some (aR (some (42, 0, 0))), some (aI (iZ x3)), some (aI (iZ 0))], [], am_hp σ, t)) rfl rfl ?_
  exact w1

theorem e_X12_copiesRow_43_42 {x1 : Int} {x3 : Int} {h : AH} {t : KT} {d : Nat} {P : RS → Prop} (w : Wp k_X12_copiesRow d (0, [some (aR (some (43, 0, 0))), some (aI (iZ x1)), some (aR (some (42, 0, 0))), some (aI (iZ x3)), none], [], h, t) P) : ∃ r, Ca (d + 1) 200 [aR (some (43, 0, 0)), aI (iZ x1), aR (some (42, 0, 0)), aI (iZ x3)] h t r ∧ P r := ca_W rfl rfl rfl rfl w

theorem b_X12_copiesRow_43_42_3 {x1 : Int} {x3 : Int} {x4 : Int} {σ : SG} {t : KT} (h1 : -2147483648 ≤ x4 ∧ x4 < 2147483648) (w2 : 264 ≤ x4 → Wp k_X12_copiesRow d (29, [some (aR (some (43, 0, 0))), some (aI (iZ x1)), some (aR (some (42, 0, 0))), some (aI (iZ x3)), some (aI (iZ x4))], [], am_hp σ, t) Q) (w3 : x4 < 264 → Wp k_X12_copiesRow d (11, [some (aR (some (43, 0, 0))), some (aI (iZ x1)), some (aR (some (42, 0, 0))), some (aI (iZ x3)), some (aI (iZ x4))], [], am_hp σ, t) Q) : Wp k_X12_copiesRow d (3, [some (aR (some (43, 0, 0))), some (aI (iZ x1)), some (aR (some (42, 0, 0))), some (aI (iZ x3)), some (aI (iZ x4))], [], am_hp σ, t) Q := by
  refine w_s (c' := (5, [some (aR (some (43, 0, 0))), some (aI (iZ x1)), some (aR (some (42, 0, 0))), some (aI (iZ x3)), some (aI (iZ x4))], [aI (iZ x4)], am_hp σ, t)) rfl rfl ?_
  refine w_psh rfl zc_264 rfl ?_
  exact w_icge rfl h1 (by decide) rfl w2 w3

theorem b_X12_copiesRow_43_42_11 {x1 : Int} {x3 : Int} {x4 : Int} {σ : SG} {t : KT} (h1 : 0 ≤ x1 + x4 ∧ x1 + x4 < 264) (h2 : 0 ≤ x3 + x4 ∧ x3 + x4 < 264) (w3 : Wp k_X12_copiesRow d (3, [some (aR (some (43, 0, 0))), some (aI (iZ x1)), some (aR (some (42, 0, 0))), some (aI (iZ x3)), some (aI (iZ (x4 + 1)))], [], am_hp ((sI σ (42, 0, 0) (up (σ.1 (42, 0, 0)) (x3 + x4).toNat (σ.1 (43, 0, 0) (x1 + x4).toNat)))), t) Q) : Wp k_X12_copiesRow d (11, [some (aR (some (43, 0, 0))), some (aI (iZ x1)), some (aR (some (42, 0, 0))), some (aI (iZ x3)), some (aI (iZ x4))], [], am_hp σ, t) Q := by
  refine w_s (c' := (12, [some (aR (some (43, 0, 0))), some (aI (iZ x1)), some (aR (some (42, 0, 0))), some (aI (iZ x3)), some (aI (iZ x4))], [aR (some (42, 0, 0))], am_hp σ, t)) rfl rfl ?_
  refine w_s (c' := (13, [some (aR (some (43, 0, 0))), some (aI (iZ x1)), some (aR (some (42, 0, 0))), some (aI (iZ x3)), some (aI (iZ x4))], [aI (iZ x3), aR (some (42, 0, 0))], am_hp σ, t)) rfl rfl ?_
  refine w_s (c' := (15, [some (aR (some (43, 0, 0))), some (aI (iZ x1)), some (aR (some (42, 0, 0))), some (aI (iZ x3)), some (aI (iZ x4))], [aI (iZ x4), aI (iZ x3), aR (some (42, 0, 0))], am_hp σ, t)) rfl rfl ?_
  refine w_iadd rfl rfl ?_
  refine w_s (c' := (17, [some (aR (some (43, 0, 0))), some (aI (iZ x1)), some (aR (some (42, 0, 0))), some (aI (iZ x3)), some (aI (iZ x4))], [aR (some (43, 0, 0)), aI (iZ (x3 + x4)), aR (some (42, 0, 0))], am_hp σ, t)) rfl rfl ?_
  refine w_s (c' := (18, [some (aR (some (43, 0, 0))), some (aI (iZ x1)), some (aR (some (42, 0, 0))), some (aI (iZ x3)), some (aI (iZ x4))], [aI (iZ x1), aR (some (43, 0, 0)), aI (iZ (x3 + x4)), aR (some (42, 0, 0))], am_hp σ, t)) rfl rfl ?_
  refine w_s (c' := (20, [some (aR (some (43, 0, 0))), some (aI (iZ x1)), some (aR (some (42, 0, 0))), some (aI (iZ x3)), some (aI (iZ x4))], [aI (iZ x4), aI (iZ x1), aR (some (43, 0, 0)), aI (iZ (x3 + x4)), aR (some (42, 0, 0))], am_hp σ, t)) rfl rfl ?_
  refine w_iadd rfl rfl ?_
  refine w_ial rfl (hp_43 _ 0 0) h1 rfl rfl ?_
  refine w_ias rfl (mk_42 _ 0 0) h2 rfl rfl rfl ?_
  refine w_inc (a := x4) (ls' := [some (aR (some (43, 0, 0))), some (aI (iZ x1)), some (aR (some (42, 0, 0))), some (aI (iZ x3)), some (aI (iZ (x4 + 1)))]) rfl rfl rfl zc_1 rfl rfl ?_
  refine w_s (c' := (3, [some (aR (some (43, 0, 0))), some (aI (iZ x1)), some (aR (some (42, 0, 0))), some (aI (iZ x3)), some (aI (iZ (x4 + 1)))], [], am_hp ((sI σ (42, 0, 0) (up (σ.1 (42, 0, 0)) (x3 + x4).toNat (σ.1 (43, 0, 0) (x1 + x4).toNat)))), t)) rfl rfl ?_
  exact w3

theorem b_X12_copiesRow_43_42_29 {x1 : Int} {x3 : Int} {x4 : Int} {σ : SG} {t : KT} (q1 : Q (.inl none, am_hp σ, t)) : Wp k_X12_copiesRow d (29, [some (aR (some (43, 0, 0))), some (aI (iZ x1)), some (aR (some (42, 0, 0))), some (aI (iZ x3)), some (aI (iZ x4))], [], am_hp σ, t) Q := by
  exact w_f rfl rfl q1

theorem b_X12_clears_0 {σ : SG} {t : KT} (w1 : Wp k_X12_clears d (2, [some (aR (some (40, 0, 0))), some (aI (iZ 0))], [], am_hp σ, t) Q) : Wp k_X12_clears d (0, [some (aR (some (40, 0, 0))), none], [], am_hp σ, t) Q := by
  refine w_psh rfl zc_0 rfl ?_
  refine w_s (c' := (2, [some (aR (some (40, 0, 0))), some (aI (iZ 0))], [], am_hp σ, t)) rfl rfl ?_
  exact w1

theorem e_X12_clears {h : AH} {t : KT} {d : Nat} {P : RS → Prop} (w : Wp k_X12_clears d (0, [some (aR (some (40, 0, 0))), none], [], h, t) P) : ∃ r, Ca (d + 1) 201 [aR (some (40, 0, 0))] h t r ∧ P r := ca_W rfl rfl rfl rfl w

theorem b_X12_clears_2 {x1 : Int} {σ : SG} {t : KT} (h1 : -2147483648 ≤ x1 ∧ x1 < 2147483648) (w2 : 264 ≤ x1 → Wp k_X12_clears d (22, [some (aR (some (40, 0, 0))), some (aI (iZ x1))], [], am_hp σ, t) Q) (w3 : x1 < 264 → Wp k_X12_clears d (9, [some (aR (some (40, 0, 0))), some (aI (iZ x1))], [], am_hp σ, t) Q) : Wp k_X12_clears d (2, [some (aR (some (40, 0, 0))), some (aI (iZ x1))], [], am_hp σ, t) Q := by
  refine w_s (c' := (3, [some (aR (some (40, 0, 0))), some (aI (iZ x1))], [aI (iZ x1)], am_hp σ, t)) rfl rfl ?_
  refine w_psh rfl zc_264 rfl ?_
  exact w_icge rfl h1 (by decide) rfl w2 w3

theorem b_X12_clears_9 {x1 : Int} {σ : SG} {t : KT} (h1 : 0 ≤ x1 ∧ x1 < 264) (w2 : Wp k_X12_clears d (2, [some (aR (some (40, 0, 0))), some (aI (iZ (x1 + 1)))], [], am_hp ((sI σ (42, 0, 0) (up (σ.1 (42, 0, 0)) x1.toNat 0))), t) Q) : Wp k_X12_clears d (9, [some (aR (some (40, 0, 0))), some (aI (iZ x1))], [], am_hp σ, t) Q := by
  refine w_s (c' := (10, [some (aR (some (40, 0, 0))), some (aI (iZ x1))], [aR (some (40, 0, 0))], am_hp σ, t)) rfl rfl ?_
  refine w_get rfl (hp_40 _ 0) rfl rfl ?_
  refine w_s (c' := (14, [some (aR (some (40, 0, 0))), some (aI (iZ x1))], [aI (iZ x1), aR (some (42, 0, 0))], am_hp σ, t)) rfl rfl ?_
  refine w_psh rfl zc_0 rfl ?_
  refine w_ias rfl (mk_42 _ 0 0) h1 rfl rfl rfl ?_
  refine w_inc (a := x1) (ls' := [some (aR (some (40, 0, 0))), some (aI (iZ (x1 + 1)))]) rfl rfl rfl zc_1 rfl rfl ?_
  refine w_s (c' := (2, [some (aR (some (40, 0, 0))), some (aI (iZ (x1 + 1)))], [], am_hp ((sI σ (42, 0, 0) (up (σ.1 (42, 0, 0)) x1.toNat 0))), t)) rfl rfl ?_
  exact w2

theorem b_X12_clears_22 {x1 : Int} {σ : SG} {t : KT} (w1 : Wp k_X12_clears d (31, [some (aR (some (40, 0, 0))), some (aI (iZ 0))], [], am_hp ((sI σ (42, 0, 0) (up (σ.1 (42, 0, 0)) (2 : Int).toNat 4))), t) Q) : Wp k_X12_clears d (22, [some (aR (some (40, 0, 0))), some (aI (iZ x1))], [], am_hp σ, t) Q := by
  refine w_s (c' := (23, [some (aR (some (40, 0, 0))), some (aI (iZ x1))], [aR (some (40, 0, 0))], am_hp σ, t)) rfl rfl ?_
  refine w_get rfl (hp_40 _ 0) rfl rfl ?_
  refine w_psh rfl zc_2 rfl ?_
  refine w_psh rfl zc_4 rfl ?_
  refine w_ias rfl (mk_42 _ 0 0) (by decide) rfl rfl rfl ?_
  refine w_psh rfl zc_0 rfl ?_
  refine w_s (c' := (31, [some (aR (some (40, 0, 0))), some (aI (iZ 0))], [], am_hp ((sI σ (42, 0, 0) (up (σ.1 (42, 0, 0)) (2 : Int).toNat 4))), t)) rfl rfl ?_
  exact w1

theorem b_X12_clears_31 {x1 : Int} {σ : SG} {t : KT} (h1 : -2147483648 ≤ x1 ∧ x1 < 2147483648) (w2 : 9 ≤ x1 → Wp k_X12_clears d (52, [some (aR (some (40, 0, 0))), some (aI (iZ x1))], [], am_hp σ, t) Q) (w3 : x1 < 9 → Wp k_X12_clears d (37, [some (aR (some (40, 0, 0))), some (aI (iZ x1))], [], am_hp σ, t) Q) : Wp k_X12_clears d (31, [some (aR (some (40, 0, 0))), some (aI (iZ x1))], [], am_hp σ, t) Q := by
  refine w_s (c' := (32, [some (aR (some (40, 0, 0))), some (aI (iZ x1))], [aI (iZ x1)], am_hp σ, t)) rfl rfl ?_
  refine w_psh rfl zc_9 rfl ?_
  exact w_icge rfl h1 (by decide) rfl w2 w3

theorem b_X12_clears_37 {x1 : Int} {σ : SG} {t : KT} (h1 : 0 ≤ 3 + x1 ∧ 3 + x1 < 264) (w2 : Wp k_X12_clears d (31, [some (aR (some (40, 0, 0))), some (aI (iZ (x1 + 1)))], [], am_hp ((sI σ (42, 0, 0) (up (σ.1 (42, 0, 0)) (3 + x1).toNat 1))), t) Q) : Wp k_X12_clears d (37, [some (aR (some (40, 0, 0))), some (aI (iZ x1))], [], am_hp σ, t) Q := by
  refine w_s (c' := (38, [some (aR (some (40, 0, 0))), some (aI (iZ x1))], [aR (some (40, 0, 0))], am_hp σ, t)) rfl rfl ?_
  refine w_get rfl (hp_40 _ 0) rfl rfl ?_
  refine w_psh rfl zc_3 rfl ?_
  refine w_s (c' := (43, [some (aR (some (40, 0, 0))), some (aI (iZ x1))], [aI (iZ x1), aI (iZ 3), aR (some (42, 0, 0))], am_hp σ, t)) rfl rfl ?_
  refine w_iadd rfl rfl ?_
  refine w_psh rfl zc_1 rfl ?_
  refine w_ias rfl (mk_42 _ 0 0) h1 rfl rfl rfl ?_
  refine w_inc (a := x1) (ls' := [some (aR (some (40, 0, 0))), some (aI (iZ (x1 + 1)))]) rfl rfl rfl zc_1 rfl rfl ?_
  refine w_s (c' := (31, [some (aR (some (40, 0, 0))), some (aI (iZ (x1 + 1)))], [], am_hp ((sI σ (42, 0, 0) (up (σ.1 (42, 0, 0)) (3 + x1).toNat 1))), t)) rfl rfl ?_
  exact w2

theorem b_X12_clears_52 {x1 : Int} {σ : SG} {t : KT} (q1 : Q (.inl none, am_hp σ, t)) : Wp k_X12_clears d (52, [some (aR (some (40, 0, 0))), some (aI (iZ x1))], [], am_hp σ, t) Q := by
  exact w_f rfl rfl q1

theorem b_X12_laysAside_0 {σ σ1 : SG} {t : KT} (c1 : Ca d 200 [aR (some (42, 0, 0)), aI (iZ 0), aR (some (44, 0, 0)), aI (iZ 0)] (am_hp σ) t (.inl none, am_hp σ1, t)) (q2 : Q (.inl none, am_hp σ1, t)) : Wp k_X12_laysAside d (0, [some (aR (some (40, 0, 0)))], [], am_hp σ, t) Q := by
  refine w_s (c' := (1, [some (aR (some (40, 0, 0)))], [aR (some (40, 0, 0))], am_hp σ, t)) rfl rfl ?_
  refine w_get rfl (hp_40 _ 0) rfl rfl ?_
  refine w_psh rfl zc_0 rfl ?_
  refine w_s (c' := (6, [some (aR (some (40, 0, 0)))], [aR (some (40, 0, 0)), aI (iZ 0), aR (some (42, 0, 0))], am_hp σ, t)) rfl rfl ?_
  refine w_get rfl (hp_40 _ 0) rfl rfl ?_
  refine w_psh rfl zc_0 rfl ?_
  refine w_c0 (c' := (13, [some (aR (some (40, 0, 0)))], [], am_hp σ1, t)) rfl rfl rfl rfl c1 (Nat.le_refl _) rfl ?_
  exact w_f rfl rfl q2

theorem e_X12_laysAside {h : AH} {t : KT} {d : Nat} {P : RS → Prop} (w : Wp k_X12_laysAside d (0, [some (aR (some (40, 0, 0)))], [], h, t) P) : ∃ r, Ca (d + 1) 202 [aR (some (40, 0, 0))] h t r ∧ P r := ca_W rfl rfl rfl rfl w

theorem b_X12_goesBack_0 {σ σ1 : SG} {t : KT} (c1 : Ca d 200 [aR (some (44, 0, 0)), aI (iZ 0), aR (some (42, 0, 0)), aI (iZ 0)] (am_hp σ) t (.inl none, am_hp σ1, t)) (q2 : Q (.inl none, am_hp σ1, t)) : Wp k_X12_goesBack d (0, [some (aR (some (40, 0, 0)))], [], am_hp σ, t) Q := by
  refine w_s (c' := (1, [some (aR (some (40, 0, 0)))], [aR (some (40, 0, 0))], am_hp σ, t)) rfl rfl ?_
  refine w_get rfl (hp_40 _ 0) rfl rfl ?_
  refine w_psh rfl zc_0 rfl ?_
  refine w_s (c' := (6, [some (aR (some (40, 0, 0)))], [aR (some (40, 0, 0)), aI (iZ 0), aR (some (44, 0, 0))], am_hp σ, t)) rfl rfl ?_
  refine w_get rfl (hp_40 _ 0) rfl rfl ?_
  refine w_psh rfl zc_0 rfl ?_
  refine w_c0 (c' := (13, [some (aR (some (40, 0, 0)))], [], am_hp σ1, t)) rfl rfl rfl rfl c1 (Nat.le_refl _) rfl ?_
  exact w_f rfl rfl q2

theorem e_X12_goesBack {h : AH} {t : KT} {d : Nat} {P : RS → Prop} (w : Wp k_X12_goesBack d (0, [some (aR (some (40, 0, 0)))], [], h, t) P) : ∃ r, Ca (d + 1) 203 [aR (some (40, 0, 0))] h t r ∧ P r := ca_W rfl rfl rfl rfl w

theorem b_X12_keeps_0 {σ : SG} {t : KT} (h1 : -2147483648 ≤ σ.1 (40, 0, 0) 17 ∧ σ.1 (40, 0, 0) 17 < 2147483648) (w2 : σ.1 (40, 0, 0) 17 ≠ 6 → Wp k_X12_keeps d (55, [some (aR (some (40, 0, 0))), none], [], am_hp σ, t) Q) (w3 : σ.1 (40, 0, 0) 17 = 6 → Wp k_X12_keeps d (9, [some (aR (some (40, 0, 0))), none], [], am_hp σ, t) Q) : Wp k_X12_keeps d (0, [some (aR (some (40, 0, 0))), none], [], am_hp σ, t) Q := by
  refine w_s (c' := (1, [some (aR (some (40, 0, 0))), none], [aR (some (40, 0, 0))], am_hp σ, t)) rfl rfl ?_
  refine w_get rfl (hp_40 _ 0) rfl rfl ?_
  refine w_psh rfl zc_6 rfl ?_
  exact w_icne rfl h1 (by decide) rfl w2 w3

theorem e_X12_keeps {h : AH} {t : KT} {d : Nat} {P : RS → Prop} (w : Wp k_X12_keeps d (0, [some (aR (some (40, 0, 0))), none], [], h, t) P) : ∃ r, Ca (d + 1) 204 [aR (some (40, 0, 0))] h t r ∧ P r := ca_W rfl rfl rfl rfl w

theorem b_X12_keeps_9 {σ : SG} {t : KT} (w1 : Wp k_X12_keeps d (21, [some (aR (some (40, 0, 0))), some (aI (iZ 0))], [], am_hp ((sI σ (40, 0, 0) (up (σ.1 (40, 0, 0)) 17 ((σ.1 (40, 0, 0) 17) - 1)))), t) Q) : Wp k_X12_keeps d (9, [some (aR (some (40, 0, 0))), none], [], am_hp σ, t) Q := by
  refine w_s (c' := (10, [some (aR (some (40, 0, 0))), none], [aR (some (40, 0, 0))], am_hp σ, t)) rfl rfl ?_
  refine w_s (c' := (11, [some (aR (some (40, 0, 0))), none], [aR (some (40, 0, 0)), aR (some (40, 0, 0))], am_hp σ, t)) rfl rfl ?_
  refine w_get rfl (hp_40 _ 0) rfl rfl ?_
  refine w_psh rfl zc_1 rfl ?_
  refine w_isub rfl rfl ?_
  refine w_putI rfl (hp_40 _ 0) rfl rfl rfl ?_
  refine w_psh rfl zc_0 rfl ?_
  refine w_s (c' := (21, [some (aR (some (40, 0, 0))), some (aI (iZ 0))], [], am_hp ((sI σ (40, 0, 0) (up (σ.1 (40, 0, 0)) 17 ((σ.1 (40, 0, 0) 17) - 1)))), t)) rfl rfl ?_
  exact w1

theorem b_X12_keeps_21 {x1 : Int} {σ : SG} {t : KT} (h1 : -2147483648 ≤ x1 ∧ x1 < 2147483648) (h2 : -2147483648 ≤ 264 * (σ.1 (40, 0, 0) 17) ∧ 264 * (σ.1 (40, 0, 0) 17) < 2147483648) (w3 : 264 * (σ.1 (40, 0, 0) 17) ≤ x1 → Wp k_X12_keeps d (55, [some (aR (some (40, 0, 0))), some (aI (iZ x1))], [], am_hp σ, t) Q) (w4 : x1 < 264 * (σ.1 (40, 0, 0) 17) → Wp k_X12_keeps d (33, [some (aR (some (40, 0, 0))), some (aI (iZ x1))], [], am_hp σ, t) Q) : Wp k_X12_keeps d (21, [some (aR (some (40, 0, 0))), some (aI (iZ x1))], [], am_hp σ, t) Q := by
  refine w_s (c' := (22, [some (aR (some (40, 0, 0))), some (aI (iZ x1))], [aI (iZ x1)], am_hp σ, t)) rfl rfl ?_
  refine w_psh rfl zc_264 rfl ?_
  refine w_s (c' := (26, [some (aR (some (40, 0, 0))), some (aI (iZ x1))], [aR (some (40, 0, 0)), aI (iZ 264), aI (iZ x1)], am_hp σ, t)) rfl rfl ?_
  refine w_get rfl (hp_40 _ 0) rfl rfl ?_
  refine w_imul rfl rfl ?_
  exact w_icge rfl h1 h2 rfl w3 w4

theorem b_X12_keeps_33 {x1 : Int} {σ : SG} {t : KT} (h1 : 0 ≤ x1 + 264 ∧ x1 + 264 < 1584) (h2 : 0 ≤ x1 ∧ x1 < 1584) (w3 : Wp k_X12_keeps d (21, [some (aR (some (40, 0, 0))), some (aI (iZ (x1 + 1)))], [], am_hp ((sI σ (45, 0, 0) (up (σ.1 (45, 0, 0)) x1.toNat (σ.1 (45, 0, 0) (x1 + 264).toNat)))), t) Q) : Wp k_X12_keeps d (33, [some (aR (some (40, 0, 0))), some (aI (iZ x1))], [], am_hp σ, t) Q := by
  refine w_s (c' := (34, [some (aR (some (40, 0, 0))), some (aI (iZ x1))], [aR (some (40, 0, 0))], am_hp σ, t)) rfl rfl ?_
  refine w_get rfl (hp_40 _ 0) rfl rfl ?_
  refine w_s (c' := (38, [some (aR (some (40, 0, 0))), some (aI (iZ x1))], [aI (iZ x1), aR (some (45, 0, 0))], am_hp σ, t)) rfl rfl ?_
  refine w_s (c' := (39, [some (aR (some (40, 0, 0))), some (aI (iZ x1))], [aR (some (40, 0, 0)), aI (iZ x1), aR (some (45, 0, 0))], am_hp σ, t)) rfl rfl ?_
  refine w_get rfl (hp_40 _ 0) rfl rfl ?_
  refine w_s (c' := (43, [some (aR (some (40, 0, 0))), some (aI (iZ x1))], [aI (iZ x1), aR (some (45, 0, 0)), aI (iZ x1), aR (some (45, 0, 0))], am_hp σ, t)) rfl rfl ?_
  refine w_psh rfl zc_264 rfl ?_
  refine w_iadd rfl rfl ?_
  refine w_ial rfl (hp_45 _ 0 0) h1 rfl rfl ?_
  refine w_ias rfl (mk_45 _ 0 0) h2 rfl rfl rfl ?_
  refine w_inc (a := x1) (ls' := [some (aR (some (40, 0, 0))), some (aI (iZ (x1 + 1)))]) rfl rfl rfl zc_1 rfl rfl ?_
  refine w_s (c' := (21, [some (aR (some (40, 0, 0))), some (aI (iZ (x1 + 1)))], [], am_hp ((sI σ (45, 0, 0) (up (σ.1 (45, 0, 0)) x1.toNat (σ.1 (45, 0, 0) (x1 + 264).toNat)))), t)) rfl rfl ?_
  exact w3

theorem b_X12_keeps_55 {u1 : Option AV} {σ σ1 : SG} {t : KT} (c1 : Ca d 200 [aR (some (44, 0, 0)), aI (iZ 0), aR (some (45, 0, 0)), aI (iZ (264 * (σ.1 (40, 0, 0) 17)))] (am_hp σ) t (.inl none, am_hp σ1, t)) (q2 : Q (.inl none, am_hp ((sI σ1 (40, 0, 0) (up (σ1.1 (40, 0, 0)) 17 ((σ1.1 (40, 0, 0) 17) + 1)))), t)) : Wp k_X12_keeps d (55, [some (aR (some (40, 0, 0))), u1], [], am_hp σ, t) Q := by
  refine w_s (c' := (56, [some (aR (some (40, 0, 0))), u1], [aR (some (40, 0, 0))], am_hp σ, t)) rfl rfl ?_
  refine w_get rfl (hp_40 _ 0) rfl rfl ?_
  refine w_psh rfl zc_0 rfl ?_
  refine w_s (c' := (61, [some (aR (some (40, 0, 0))), u1], [aR (some (40, 0, 0)), aI (iZ 0), aR (some (44, 0, 0))], am_hp σ, t)) rfl rfl ?_
  refine w_get rfl (hp_40 _ 0) rfl rfl ?_
  refine w_psh rfl zc_264 rfl ?_
  refine w_s (c' := (68, [some (aR (some (40, 0, 0))), u1], [aR (some (40, 0, 0)), aI (iZ 264), aR (some (45, 0, 0)), aI (iZ 0), aR (some (44, 0, 0))], am_hp σ, t)) rfl rfl ?_
  refine w_get rfl (hp_40 _ 0) rfl rfl ?_
  refine w_imul rfl rfl ?_
  refine w_c0 (c' := (75, [some (aR (some (40, 0, 0))), u1], [], am_hp σ1, t)) rfl rfl rfl rfl c1 (Nat.le_refl _) rfl ?_
  refine w_s (c' := (76, [some (aR (some (40, 0, 0))), u1], [aR (some (40, 0, 0))], am_hp σ1, t)) rfl rfl ?_
  refine w_s (c' := (77, [some (aR (some (40, 0, 0))), u1], [aR (some (40, 0, 0)), aR (some (40, 0, 0))], am_hp σ1, t)) rfl rfl ?_
  refine w_get rfl (hp_40 _ 0) rfl rfl ?_
  refine w_psh rfl zc_1 rfl ?_
  refine w_iadd rfl rfl ?_
  refine w_putI rfl (hp_40 _ 0) rfl rfl rfl ?_
  exact w_f rfl rfl q2

theorem b_X12_kept_0 {x1 : Int} {σ σ1 : SG} {t : KT} (c1 : Ca d 204 [aR (some (40, 0, 0))] (am_hp σ) t (.inl none, am_hp σ1, t)) (q2 : Q (.inl (some (aI (iZ x1))), am_hp ((sI σ1 (40, 0, 0) (up (σ1.1 (40, 0, 0)) 18 ((σ1.1 (40, 0, 0) 18) + 1)))), t)) : Wp k_X12_kept d (0, [some (aR (some (40, 0, 0))), some (aI (iZ x1))], [], am_hp σ, t) Q := by
  refine w_s (c' := (1, [some (aR (some (40, 0, 0))), some (aI (iZ x1))], [aR (some (40, 0, 0))], am_hp σ, t)) rfl rfl ?_
  refine w_c0 (c' := (4, [some (aR (some (40, 0, 0))), some (aI (iZ x1))], [], am_hp σ1, t)) rfl rfl (rcv_of (hp_40 _ 0)) rfl c1 (Nat.le_refl _) rfl ?_
  refine w_s (c' := (5, [some (aR (some (40, 0, 0))), some (aI (iZ x1))], [aR (some (40, 0, 0))], am_hp σ1, t)) rfl rfl ?_
  refine w_s (c' := (6, [some (aR (some (40, 0, 0))), some (aI (iZ x1))], [aR (some (40, 0, 0)), aR (some (40, 0, 0))], am_hp σ1, t)) rfl rfl ?_
  refine w_get rfl (hp_40 _ 0) rfl rfl ?_
  refine w_psh rfl zc_1 rfl ?_
  refine w_iadd rfl rfl ?_
  refine w_putI rfl (hp_40 _ 0) rfl rfl rfl ?_
  refine w_s (c' := (15, [some (aR (some (40, 0, 0))), some (aI (iZ x1))], [aI (iZ x1)], am_hp ((sI σ1 (40, 0, 0) (up (σ1.1 (40, 0, 0)) 18 ((σ1.1 (40, 0, 0) 18) + 1)))), t)) rfl rfl ?_
  exact w_ret rfl rfl q2

theorem e_X12_kept {x1 : Int} {h : AH} {t : KT} {d : Nat} {P : RS → Prop} (w : Wp k_X12_kept d (0, [some (aR (some (40, 0, 0))), some (aI (iZ x1))], [], h, t) P) : ∃ r, Ca (d + 1) 205 [aR (some (40, 0, 0)), aI (iZ x1)] h t r ∧ P r := ca_W rfl rfl rfl rfl w

theorem b_X12_refuses_0 {x1 : Int} {σ : SG} {t : KT} (q1 : Q (.inl (some (aI (iZ (-x1)))), am_hp ((sI (sI σ (40, 0, 0) (up (σ.1 (40, 0, 0)) 19 ((σ.1 (40, 0, 0) 19) + 1))) (40, 0, 0) (up (((sI σ (40, 0, 0) (up (σ.1 (40, 0, 0)) 19 ((σ.1 (40, 0, 0) 19) + 1)))).1 (40, 0, 0)) 21 x1))), t)) : Wp k_X12_refuses d (0, [some (aR (some (40, 0, 0))), some (aI (iZ x1))], [], am_hp σ, t) Q := by
  refine w_s (c' := (1, [some (aR (some (40, 0, 0))), some (aI (iZ x1))], [aR (some (40, 0, 0))], am_hp σ, t)) rfl rfl ?_
  refine w_s (c' := (2, [some (aR (some (40, 0, 0))), some (aI (iZ x1))], [aR (some (40, 0, 0)), aR (some (40, 0, 0))], am_hp σ, t)) rfl rfl ?_
  refine w_get rfl (hp_40 _ 0) rfl rfl ?_
  refine w_psh rfl zc_1 rfl ?_
  refine w_iadd rfl rfl ?_
  refine w_putI rfl (hp_40 _ 0) rfl rfl rfl ?_
  refine w_s (c' := (11, [some (aR (some (40, 0, 0))), some (aI (iZ x1))], [aR (some (40, 0, 0))], am_hp ((sI σ (40, 0, 0) (up (σ.1 (40, 0, 0)) 19 ((σ.1 (40, 0, 0) 19) + 1)))), t)) rfl rfl ?_
  refine w_s (c' := (12, [some (aR (some (40, 0, 0))), some (aI (iZ x1))], [aI (iZ x1), aR (some (40, 0, 0))], am_hp ((sI σ (40, 0, 0) (up (σ.1 (40, 0, 0)) 19 ((σ.1 (40, 0, 0) 19) + 1)))), t)) rfl rfl ?_
  refine w_putI rfl (hp_40 _ 0) rfl rfl rfl ?_
  refine w_s (c' := (16, [some (aR (some (40, 0, 0))), some (aI (iZ x1))], [aI (iZ x1)], am_hp ((sI (sI σ (40, 0, 0) (up (σ.1 (40, 0, 0)) 19 ((σ.1 (40, 0, 0) 19) + 1))) (40, 0, 0) (up (((sI σ (40, 0, 0) (up (σ.1 (40, 0, 0)) 19 ((σ.1 (40, 0, 0) 19) + 1)))).1 (40, 0, 0)) 21 x1))), t)) rfl rfl ?_
  refine w_ineg rfl rfl ?_
  exact w_ret rfl rfl q1

theorem e_X12_refuses {x1 : Int} {h : AH} {t : KT} {d : Nat} {P : RS → Prop} (w : Wp k_X12_refuses d (0, [some (aR (some (40, 0, 0))), some (aI (iZ x1))], [], h, t) P) : ∃ r, Ca (d + 1) 206 [aR (some (40, 0, 0)), aI (iZ x1)] h t r ∧ P r := ca_W rfl rfl rfl rfl w

theorem b_X12_undo_0 {σ : SG} {t : KT} (h1 : -2147483648 ≤ ((sI σ (40, 0, 0) (up (σ.1 (40, 0, 0)) 0 0))).1 (40, 0, 0) 17 ∧ ((sI σ (40, 0, 0) (up (σ.1 (40, 0, 0)) 0 0))).1 (40, 0, 0) 17 < 2147483648) (w2 : ((sI σ (40, 0, 0) (up (σ.1 (40, 0, 0)) 0 0))).1 (40, 0, 0) 17 ≠ 0 → Wp k_X12_undo d (14, [some (aR (some (40, 0, 0)))], [], am_hp ((sI σ (40, 0, 0) (up (σ.1 (40, 0, 0)) 0 0))), t) Q) (w3 : ((sI σ (40, 0, 0) (up (σ.1 (40, 0, 0)) 0 0))).1 (40, 0, 0) 17 = 0 → Wp k_X12_undo d (12, [some (aR (some (40, 0, 0)))], [], am_hp ((sI σ (40, 0, 0) (up (σ.1 (40, 0, 0)) 0 0))), t) Q) : Wp k_X12_undo d (0, [some (aR (some (40, 0, 0)))], [], am_hp σ, t) Q := by
  refine w_s (c' := (1, [some (aR (some (40, 0, 0)))], [aR (some (40, 0, 0))], am_hp σ, t)) rfl rfl ?_
  refine w_psh rfl zc_0 rfl ?_
  refine w_putI rfl (hp_40 _ 0) rfl rfl rfl ?_
  refine w_s (c' := (6, [some (aR (some (40, 0, 0)))], [aR (some (40, 0, 0))], am_hp ((sI σ (40, 0, 0) (up (σ.1 (40, 0, 0)) 0 0))), t)) rfl rfl ?_
  refine w_get rfl (hp_40 _ 0) rfl rfl ?_
  exact w_ifne rfl h1 rfl w2 w3

theorem e_X12_undo {h : AH} {t : KT} {d : Nat} {P : RS → Prop} (w : Wp k_X12_undo d (0, [some (aR (some (40, 0, 0)))], [], h, t) P) : ∃ r, Ca (d + 1) 207 [aR (some (40, 0, 0))] h t r ∧ P r := ca_W rfl rfl rfl rfl w

theorem b_X12_undo_12 {σ : SG} {t : KT} (q1 : Q (.inl (some (aI (iZ (-1)))), am_hp σ, t)) : Wp k_X12_undo d (12, [some (aR (some (40, 0, 0)))], [], am_hp σ, t) Q := by
  refine w_psh rfl zc_m1 rfl ?_
  exact w_ret rfl rfl q1

theorem b_X12_undo_14 {σ σ1 : SG} {t : KT} (c1 : Ca d 200 [aR (some (45, 0, 0)), aI (iZ (264 * (((sI σ (40, 0, 0) (up (σ.1 (40, 0, 0)) 17 ((σ.1 (40, 0, 0) 17) - 1)))).1 (40, 0, 0) 17))), aR (some (42, 0, 0)), aI (iZ 0)] (am_hp ((sI σ (40, 0, 0) (up (σ.1 (40, 0, 0)) 17 ((σ.1 (40, 0, 0) 17) - 1))))) t (.inl none, am_hp σ1, t)) (q2 : Q (.inl (some (aI (iZ (((sI σ1 (40, 0, 0) (up (σ1.1 (40, 0, 0)) 20 ((σ1.1 (40, 0, 0) 20) + 1)))).1 (40, 0, 0) 17)))), am_hp ((sI σ1 (40, 0, 0) (up (σ1.1 (40, 0, 0)) 20 ((σ1.1 (40, 0, 0) 20) + 1)))), t)) : Wp k_X12_undo d (14, [some (aR (some (40, 0, 0)))], [], am_hp σ, t) Q := by
  refine w_s (c' := (15, [some (aR (some (40, 0, 0)))], [aR (some (40, 0, 0))], am_hp σ, t)) rfl rfl ?_
  refine w_s (c' := (16, [some (aR (some (40, 0, 0)))], [aR (some (40, 0, 0)), aR (some (40, 0, 0))], am_hp σ, t)) rfl rfl ?_
  refine w_get rfl (hp_40 _ 0) rfl rfl ?_
  refine w_psh rfl zc_1 rfl ?_
  refine w_isub rfl rfl ?_
  refine w_putI rfl (hp_40 _ 0) rfl rfl rfl ?_
  refine w_s (c' := (25, [some (aR (some (40, 0, 0)))], [aR (some (40, 0, 0))], am_hp ((sI σ (40, 0, 0) (up (σ.1 (40, 0, 0)) 17 ((σ.1 (40, 0, 0) 17) - 1)))), t)) rfl rfl ?_
  refine w_get rfl (hp_40 _ 0) rfl rfl ?_
  refine w_psh rfl zc_264 rfl ?_
  refine w_s (c' := (32, [some (aR (some (40, 0, 0)))], [aR (some (40, 0, 0)), aI (iZ 264), aR (some (45, 0, 0))], am_hp ((sI σ (40, 0, 0) (up (σ.1 (40, 0, 0)) 17 ((σ.1 (40, 0, 0) 17) - 1)))), t)) rfl rfl ?_
  refine w_get rfl (hp_40 _ 0) rfl rfl ?_
  refine w_imul rfl rfl ?_
  refine w_s (c' := (37, [some (aR (some (40, 0, 0)))], [aR (some (40, 0, 0)), aI (iZ (264 * (((sI σ (40, 0, 0) (up (σ.1 (40, 0, 0)) 17 ((σ.1 (40, 0, 0) 17) - 1)))).1 (40, 0, 0) 17))), aR (some (45, 0, 0))], am_hp ((sI σ (40, 0, 0) (up (σ.1 (40, 0, 0)) 17 ((σ.1 (40, 0, 0) 17) - 1)))), t)) rfl rfl ?_
  refine w_get rfl (hp_40 _ 0) rfl rfl ?_
  refine w_psh rfl zc_0 rfl ?_
  refine w_c0 (c' := (44, [some (aR (some (40, 0, 0)))], [], am_hp σ1, t)) rfl rfl rfl rfl c1 (Nat.le_refl _) rfl ?_
  refine w_s (c' := (45, [some (aR (some (40, 0, 0)))], [aR (some (40, 0, 0))], am_hp σ1, t)) rfl rfl ?_
  refine w_s (c' := (46, [some (aR (some (40, 0, 0)))], [aR (some (40, 0, 0)), aR (some (40, 0, 0))], am_hp σ1, t)) rfl rfl ?_
  refine w_get rfl (hp_40 _ 0) rfl rfl ?_
  refine w_psh rfl zc_1 rfl ?_
  refine w_iadd rfl rfl ?_
  refine w_putI rfl (hp_40 _ 0) rfl rfl rfl ?_
  refine w_s (c' := (55, [some (aR (some (40, 0, 0)))], [aR (some (40, 0, 0))], am_hp ((sI σ1 (40, 0, 0) (up (σ1.1 (40, 0, 0)) 20 ((σ1.1 (40, 0, 0) 20) + 1)))), t)) rfl rfl ?_
  refine w_get rfl (hp_40 _ 0) rfl rfl ?_
  exact w_ret rfl rfl q2

theorem b_X12_refusal_0 {σ : SG} {t : KT} (q1 : Q (.inl (some (aI (iZ (((sI σ (40, 0, 0) (up (σ.1 (40, 0, 0)) 0 0))).1 (40, 0, 0) 21)))), am_hp ((sI σ (40, 0, 0) (up (σ.1 (40, 0, 0)) 0 0))), t)) : Wp k_X12_refusal d (0, [some (aR (some (40, 0, 0)))], [], am_hp σ, t) Q := by
  refine w_s (c' := (1, [some (aR (some (40, 0, 0)))], [aR (some (40, 0, 0))], am_hp σ, t)) rfl rfl ?_
  refine w_psh rfl zc_0 rfl ?_
  refine w_putI rfl (hp_40 _ 0) rfl rfl rfl ?_
  refine w_s (c' := (6, [some (aR (some (40, 0, 0)))], [aR (some (40, 0, 0))], am_hp ((sI σ (40, 0, 0) (up (σ.1 (40, 0, 0)) 0 0))), t)) rfl rfl ?_
  refine w_get rfl (hp_40 _ 0) rfl rfl ?_
  exact w_ret rfl rfl q1

theorem e_X12_refusal {h : AH} {t : KT} {d : Nat} {P : RS → Prop} (w : Wp k_X12_refusal d (0, [some (aR (some (40, 0, 0)))], [], h, t) P) : ∃ r, Ca (d + 1) 208 [aR (some (40, 0, 0))] h t r ∧ P r := ca_W rfl rfl rfl rfl w

theorem b_X12_account_0 {x1 : Int} {r1 : Int} {r2 : Int} {σ σ1 σ2 : SG} {t : KT} (h1 : -2147483648 ≤ x1 ∧ x1 < 2147483648) (c2 : Ca d 175 [aL (jZ x1), aL (jZ 0), aL (jZ 3)] (am_hp σ) t (.inl (some (aI (iZ r1))), am_hp σ1, t)) (c3 : Ca d 178 [aR (some (40, 0, 0)), aI (iZ r1)] (am_hp σ1) t (.inl (some (aI (iZ r2))), am_hp σ2, t)) (h4 : -2147483648 ≤ r2 ∧ r2 < 2147483648) (w5 : r2 ≠ 0 → Wp k_X12_account d (18, [some (aR (some (40, 0, 0))), some (aI (iZ x1))], [], am_hp σ2, t) Q) (w6 : r2 = 0 → Wp k_X12_account d (16, [some (aR (some (40, 0, 0))), some (aI (iZ x1))], [], am_hp σ2, t) Q) : Wp k_X12_account d (0, [some (aR (some (40, 0, 0))), some (aI (iZ x1))], [], am_hp σ, t) Q := by
  refine w_s (c' := (1, [some (aR (some (40, 0, 0))), some (aI (iZ x1))], [aR (some (40, 0, 0))], am_hp σ, t)) rfl rfl ?_
  refine w_s (c' := (2, [some (aR (some (40, 0, 0))), some (aI (iZ x1))], [aI (iZ x1), aR (some (40, 0, 0))], am_hp σ, t)) rfl rfl ?_
  refine w_i2l rfl rfl h1 ?_
  refine w_psL rfl yc_0 rfl ?_
  refine w_psL rfl yc_3 rfl ?_
  refine w_c0 (c' := (10, [some (aR (some (40, 0, 0))), some (aI (iZ x1))], [aI (iZ r1), aR (some (40, 0, 0))], am_hp σ1, t)) rfl rfl rfl rfl c2 (Nat.le_refl _) rfl ?_
  refine w_c0 (c' := (13, [some (aR (some (40, 0, 0))), some (aI (iZ x1))], [aI (iZ r2)], am_hp σ2, t)) rfl rfl (rcv_of (hp_40 _ 0)) rfl c3 (Nat.le_refl _) rfl ?_
  exact w_ifne rfl h4 rfl w5 w6

theorem e_X12_account {x1 : Int} {h : AH} {t : KT} {d : Nat} {P : RS → Prop} (w : Wp k_X12_account d (0, [some (aR (some (40, 0, 0))), some (aI (iZ x1))], [], h, t) P) : ∃ r, Ca (d + 1) 209 [aR (some (40, 0, 0)), aI (iZ x1)] h t r ∧ P r := ca_W rfl rfl rfl rfl w

theorem b_X12_account_16 {x1 : Int} {σ : SG} {t : KT} (q1 : Q (.inl (some (aI (iZ 0))), am_hp σ, t)) : Wp k_X12_account d (16, [some (aR (some (40, 0, 0))), some (aI (iZ x1))], [], am_hp σ, t) Q := by
  refine w_psh rfl zc_0 rfl ?_
  exact w_ret rfl rfl q1

theorem b_X12_account_18 {x1 : Int} {σ : SG} {t : KT} (h1 : -2147483648 ≤ x1 ∧ x1 < 2147483648) (w2 : x1 = 0 → Wp k_X12_account d (44, [some (aR (some (40, 0, 0))), some (aI (iZ x1))], [], am_hp σ, t) Q) (w3 : x1 = 1 → Wp k_X12_account d (49, [some (aR (some (40, 0, 0))), some (aI (iZ x1))], [], am_hp σ, t) Q) (w4 : x1 = 2 → Wp k_X12_account d (54, [some (aR (some (40, 0, 0))), some (aI (iZ x1))], [], am_hp σ, t) Q) (w5 : (x1 < 0 ∨ 3 ≤ x1) → Wp k_X12_account d (59, [some (aR (some (40, 0, 0))), some (aI (iZ x1))], [], am_hp σ, t) Q) : Wp k_X12_account d (18, [some (aR (some (40, 0, 0))), some (aI (iZ x1))], [], am_hp σ, t) Q := by
  refine w_s (c' := (19, [some (aR (some (40, 0, 0))), some (aI (iZ x1))], [aI (iZ x1)], am_hp σ, t)) rfl rfl ?_
  refine w_tab rfl h1 ?_
  rcases (by omega : x1 = 0 ∨ x1 = 1 ∨ x1 = 2 ∨ (x1 < 0 ∨ 3 ≤ x1)) with hd | hd | hd | hd
  · rw [show (if x1 < (0 : Int) then 59 else [44, 49, 54].getD (x1 - 0).toNat 59) = 44 by rw [hd]; rfl]; exact w2 hd
  · rw [show (if x1 < (0 : Int) then 59 else [44, 49, 54].getD (x1 - 0).toNat 59) = 49 by rw [hd]; rfl]; exact w3 hd
  · rw [show (if x1 < (0 : Int) then 59 else [44, 49, 54].getD (x1 - 0).toNat 59) = 54 by rw [hd]; rfl]; exact w4 hd
  · rw [show (if x1 < (0 : Int) then 59 else [44, 49, 54].getD (x1 - 0).toNat 59) = 59 by exact tgt_df [44, 49, 54] _ (by decide) hd]; exact w5 hd

theorem b_X12_account_44 {x1 : Int} {σ : SG} {t : KT} (q1 : Q (.inl (some (aI (iZ (σ.1 (40, 0, 0) 18)))), am_hp σ, t)) : Wp k_X12_account d (44, [some (aR (some (40, 0, 0))), some (aI (iZ x1))], [], am_hp σ, t) Q := by
  refine w_s (c' := (45, [some (aR (some (40, 0, 0))), some (aI (iZ x1))], [aR (some (40, 0, 0))], am_hp σ, t)) rfl rfl ?_
  refine w_get rfl (hp_40 _ 0) rfl rfl ?_
  exact w_ret rfl rfl q1

theorem b_X12_account_49 {x1 : Int} {σ : SG} {t : KT} (q1 : Q (.inl (some (aI (iZ (σ.1 (40, 0, 0) 19)))), am_hp σ, t)) : Wp k_X12_account d (49, [some (aR (some (40, 0, 0))), some (aI (iZ x1))], [], am_hp σ, t) Q := by
  refine w_s (c' := (50, [some (aR (some (40, 0, 0))), some (aI (iZ x1))], [aR (some (40, 0, 0))], am_hp σ, t)) rfl rfl ?_
  refine w_get rfl (hp_40 _ 0) rfl rfl ?_
  exact w_ret rfl rfl q1

theorem b_X12_account_54 {x1 : Int} {σ : SG} {t : KT} (q1 : Q (.inl (some (aI (iZ (σ.1 (40, 0, 0) 20)))), am_hp σ, t)) : Wp k_X12_account d (54, [some (aR (some (40, 0, 0))), some (aI (iZ x1))], [], am_hp σ, t) Q := by
  refine w_s (c' := (55, [some (aR (some (40, 0, 0))), some (aI (iZ x1))], [aR (some (40, 0, 0))], am_hp σ, t)) rfl rfl ?_
  refine w_get rfl (hp_40 _ 0) rfl rfl ?_
  exact w_ret rfl rfl q1

theorem b_X12_account_59 {x1 : Int} {σ : SG} {t : KT} (q1 : Q (.inl (some (aI (iZ (σ.1 (40, 0, 0) 22)))), am_hp σ, t)) : Wp k_X12_account d (59, [some (aR (some (40, 0, 0))), some (aI (iZ x1))], [], am_hp σ, t) Q := by
  refine w_s (c' := (60, [some (aR (some (40, 0, 0))), some (aI (iZ x1))], [aR (some (40, 0, 0))], am_hp σ, t)) rfl rfl ?_
  refine w_get rfl (hp_40 _ 0) rfl rfl ?_
  exact w_ret rfl rfl q1

theorem b_X12_save_0 {r2 : Int} {σ σ1 σ2 : SG} {t : KT} (c1 : Ca d 200 [aR (some (42, 0, 0)), aI (iZ 0), aR (some (43, 0, 0)), aI (iZ 0)] (am_hp ((sI σ (40, 0, 0) (up (σ.1 (40, 0, 0)) 0 0)))) t (.inl none, am_hp σ1, t)) (c2 : Ca d 212 [aR (some (40, 0, 0))] (am_hp ((sI σ1 (40, 0, 0) (up (σ1.1 (40, 0, 0)) 23 1)))) t (.inl (some (aI (iZ r2))), am_hp σ2, t)) (q3 : Q (.inl (some (aI (iZ r2))), am_hp σ2, t)) : Wp k_X12_save d (0, [some (aR (some (40, 0, 0)))], [], am_hp σ, t) Q := by
  refine w_s (c' := (1, [some (aR (some (40, 0, 0)))], [aR (some (40, 0, 0))], am_hp σ, t)) rfl rfl ?_
  refine w_psh rfl zc_0 rfl ?_
  refine w_putI rfl (hp_40 _ 0) rfl rfl rfl ?_
  refine w_s (c' := (6, [some (aR (some (40, 0, 0)))], [aR (some (40, 0, 0))], am_hp ((sI σ (40, 0, 0) (up (σ.1 (40, 0, 0)) 0 0))), t)) rfl rfl ?_
  refine w_get rfl (hp_40 _ 0) rfl rfl ?_
  refine w_psh rfl zc_0 rfl ?_
  refine w_s (c' := (11, [some (aR (some (40, 0, 0)))], [aR (some (40, 0, 0)), aI (iZ 0), aR (some (42, 0, 0))], am_hp ((sI σ (40, 0, 0) (up (σ.1 (40, 0, 0)) 0 0))), t)) rfl rfl ?_
  refine w_get rfl (hp_40 _ 0) rfl rfl ?_
  refine w_psh rfl zc_0 rfl ?_
  refine w_c0 (c' := (18, [some (aR (some (40, 0, 0)))], [], am_hp σ1, t)) rfl rfl rfl rfl c1 (Nat.le_refl _) rfl ?_
  refine w_s (c' := (19, [some (aR (some (40, 0, 0)))], [aR (some (40, 0, 0))], am_hp σ1, t)) rfl rfl ?_
  refine w_psh rfl zc_1 rfl ?_
  refine w_putb rfl (Or.inr rfl) (hp_40 _ 0) rfl rfl rfl ?_
  refine w_s (c' := (24, [some (aR (some (40, 0, 0)))], [aR (some (40, 0, 0))], am_hp ((sI σ1 (40, 0, 0) (up (σ1.1 (40, 0, 0)) 23 1))), t)) rfl rfl ?_
  refine w_c0 (c' := (27, [some (aR (some (40, 0, 0)))], [aI (iZ r2)], am_hp σ2, t)) rfl rfl (rcv_of (hp_40 _ 0)) rfl c2 (Nat.le_refl _) rfl ?_
  exact w_ret rfl rfl q3

theorem e_X12_save {h : AH} {t : KT} {d : Nat} {P : RS → Prop} (w : Wp k_X12_save d (0, [some (aR (some (40, 0, 0)))], [], h, t) P) : ∃ r, Ca (d + 1) 210 [aR (some (40, 0, 0))] h t r ∧ P r := ca_W rfl rfl rfl rfl w

theorem b_X12_restore_0 {r1 : Int} {σ σ1 : SG} {t : KT} (c1 : Ca d 178 [aR (some (40, 0, 0)), aI (iZ (σ.1 (40, 0, 0) 23))] (am_hp σ) t (.inl (some (aI (iZ r1))), am_hp σ1, t)) (h2 : -2147483648 ≤ r1 ∧ r1 < 2147483648) (w3 : r1 ≠ 0 → Wp k_X12_restore d (13, [some (aR (some (40, 0, 0)))], [], am_hp σ1, t) Q) (w4 : r1 = 0 → Wp k_X12_restore d (11, [some (aR (some (40, 0, 0)))], [], am_hp σ1, t) Q) : Wp k_X12_restore d (0, [some (aR (some (40, 0, 0)))], [], am_hp σ, t) Q := by
  refine w_s (c' := (1, [some (aR (some (40, 0, 0)))], [aR (some (40, 0, 0))], am_hp σ, t)) rfl rfl ?_
  refine w_s (c' := (2, [some (aR (some (40, 0, 0)))], [aR (some (40, 0, 0)), aR (some (40, 0, 0))], am_hp σ, t)) rfl rfl ?_
  refine w_get rfl (hp_40 _ 0) rfl rfl ?_
  refine w_c0 (c' := (8, [some (aR (some (40, 0, 0)))], [aI (iZ r1)], am_hp σ1, t)) rfl rfl (rcv_of (hp_40 _ 0)) rfl c1 (Nat.le_refl _) rfl ?_
  exact w_ifne rfl h2 rfl w3 w4

theorem e_X12_restore {h : AH} {t : KT} {d : Nat} {P : RS → Prop} (w : Wp k_X12_restore d (0, [some (aR (some (40, 0, 0)))], [], h, t) P) : ∃ r, Ca (d + 1) 211 [aR (some (40, 0, 0))] h t r ∧ P r := ca_W rfl rfl rfl rfl w

theorem b_X12_restore_11 {σ : SG} {t : KT} (q1 : Q (.inl (some (aI (iZ 0))), am_hp σ, t)) : Wp k_X12_restore d (11, [some (aR (some (40, 0, 0)))], [], am_hp σ, t) Q := by
  refine w_psh rfl zc_0 rfl ?_
  exact w_ret rfl rfl q1

theorem b_X12_restore_13 {r2 : Int} {σ σ1 σ2 : SG} {t : KT} (c1 : Ca d 200 [aR (some (43, 0, 0)), aI (iZ 0), aR (some (42, 0, 0)), aI (iZ 0)] (am_hp σ) t (.inl none, am_hp σ1, t)) (c2 : Ca d 212 [aR (some (40, 0, 0))] (am_hp ((sI σ1 (40, 0, 0) (up (σ1.1 (40, 0, 0)) 17 0)))) t (.inl (some (aI (iZ r2))), am_hp σ2, t)) (q3 : Q (.inl (some (aI (iZ r2))), am_hp σ2, t)) : Wp k_X12_restore d (13, [some (aR (some (40, 0, 0)))], [], am_hp σ, t) Q := by
  refine w_s (c' := (14, [some (aR (some (40, 0, 0)))], [aR (some (40, 0, 0))], am_hp σ, t)) rfl rfl ?_
  refine w_get rfl (hp_40 _ 0) rfl rfl ?_
  refine w_psh rfl zc_0 rfl ?_
  refine w_s (c' := (19, [some (aR (some (40, 0, 0)))], [aR (some (40, 0, 0)), aI (iZ 0), aR (some (43, 0, 0))], am_hp σ, t)) rfl rfl ?_
  refine w_get rfl (hp_40 _ 0) rfl rfl ?_
  refine w_psh rfl zc_0 rfl ?_
  refine w_c0 (c' := (26, [some (aR (some (40, 0, 0)))], [], am_hp σ1, t)) rfl rfl rfl rfl c1 (Nat.le_refl _) rfl ?_
  refine w_s (c' := (27, [some (aR (some (40, 0, 0)))], [aR (some (40, 0, 0))], am_hp σ1, t)) rfl rfl ?_
  refine w_psh rfl zc_0 rfl ?_
  refine w_putI rfl (hp_40 _ 0) rfl rfl rfl ?_
  refine w_s (c' := (32, [some (aR (some (40, 0, 0)))], [aR (some (40, 0, 0))], am_hp ((sI σ1 (40, 0, 0) (up (σ1.1 (40, 0, 0)) 17 0))), t)) rfl rfl ?_
  refine w_c0 (c' := (35, [some (aR (some (40, 0, 0)))], [aI (iZ r2)], am_hp σ2, t)) rfl rfl (rcv_of (hp_40 _ 0)) rfl c2 (Nat.le_refl _) rfl ?_
  exact w_ret rfl rfl q3

theorem b_X12_numbersAll_0 {σ : SG} {t : KT} (w1 : Wp k_X12_numbersAll d (4, [some (aR (some (40, 0, 0))), some (aI (iZ 0)), some (aI (iZ 0))], [], am_hp σ, t) Q) : Wp k_X12_numbersAll d (0, [some (aR (some (40, 0, 0))), none, none], [], am_hp σ, t) Q := by
  refine w_psh rfl zc_0 rfl ?_
  refine w_s (c' := (2, [some (aR (some (40, 0, 0))), some (aI (iZ 0)), none], [], am_hp σ, t)) rfl rfl ?_
  refine w_psh rfl zc_0 rfl ?_
  refine w_s (c' := (4, [some (aR (some (40, 0, 0))), some (aI (iZ 0)), some (aI (iZ 0))], [], am_hp σ, t)) rfl rfl ?_
  exact w1

theorem e_X12_numbersAll {h : AH} {t : KT} {d : Nat} {P : RS → Prop} (w : Wp k_X12_numbersAll d (0, [some (aR (some (40, 0, 0))), none, none], [], h, t) P) : ∃ r, Ca (d + 1) 212 [aR (some (40, 0, 0))] h t r ∧ P r := ca_W rfl rfl rfl rfl w

theorem b_X12_numbersAll_4 {x1 : Int} {x2 : Int} {σ : SG} {t : KT} (h1 : -2147483648 ≤ x2 ∧ x2 < 2147483648) (h2 : -2147483648 ≤ σ.1 (42, 0, 0) 0 ∧ σ.1 (42, 0, 0) 0 < 2147483648) (w3 : σ.1 (42, 0, 0) 0 ≤ x2 → Wp k_X12_numbersAll d (28, [some (aR (some (40, 0, 0))), some (aI (iZ x1)), some (aI (iZ x2))], [], am_hp σ, t) Q) (w4 : x2 < σ.1 (42, 0, 0) 0 → Wp k_X12_numbersAll d (14, [some (aR (some (40, 0, 0))), some (aI (iZ x1)), some (aI (iZ x2))], [], am_hp σ, t) Q) : Wp k_X12_numbersAll d (4, [some (aR (some (40, 0, 0))), some (aI (iZ x1)), some (aI (iZ x2))], [], am_hp σ, t) Q := by
  refine w_s (c' := (5, [some (aR (some (40, 0, 0))), some (aI (iZ x1)), some (aI (iZ x2))], [aI (iZ x2)], am_hp σ, t)) rfl rfl ?_
  refine w_s (c' := (6, [some (aR (some (40, 0, 0))), some (aI (iZ x1)), some (aI (iZ x2))], [aR (some (40, 0, 0)), aI (iZ x2)], am_hp σ, t)) rfl rfl ?_
  refine w_get rfl (hp_40 _ 0) rfl rfl ?_
  refine w_psh rfl zc_0 rfl ?_
  refine w_ial rfl (hp_42 _ 0 0) (by decide) rfl rfl ?_
  refine w_e (c' := (11, [some (aR (some (40, 0, 0))), some (aI (iZ x1)), some (aI (iZ x2))], [aI (iZ (σ.1 (42, 0, 0) 0)), aI (iZ x2)], am_hp σ, t)) rfl ?_
  exact w_icge rfl h1 h2 rfl w3 w4

theorem b_X12_numbersAll_14 {x1 : Int} {x2 : Int} {r1 : Int} {σ σ1 : SG} {t : KT} (c1 : Ca d 214 [aR (some (40, 0, 0)), aI (iZ x2)] (am_hp σ) t (.inl (some (aI (iZ r1))), am_hp σ1, t)) (w2 : Wp k_X12_numbersAll d (4, [some (aR (some (40, 0, 0))), some (aI (iZ (x1 + r1))), some (aI (iZ (x2 + 1)))], [], am_hp σ1, t) Q) : Wp k_X12_numbersAll d (14, [some (aR (some (40, 0, 0))), some (aI (iZ x1)), some (aI (iZ x2))], [], am_hp σ, t) Q := by
  refine w_s (c' := (15, [some (aR (some (40, 0, 0))), some (aI (iZ x1)), some (aI (iZ x2))], [aI (iZ x1)], am_hp σ, t)) rfl rfl ?_
  refine w_s (c' := (16, [some (aR (some (40, 0, 0))), some (aI (iZ x1)), some (aI (iZ x2))], [aR (some (40, 0, 0)), aI (iZ x1)], am_hp σ, t)) rfl rfl ?_
  refine w_s (c' := (17, [some (aR (some (40, 0, 0))), some (aI (iZ x1)), some (aI (iZ x2))], [aI (iZ x2), aR (some (40, 0, 0)), aI (iZ x1)], am_hp σ, t)) rfl rfl ?_
  refine w_c0 (c' := (20, [some (aR (some (40, 0, 0))), some (aI (iZ x1)), some (aI (iZ x2))], [aI (iZ r1), aI (iZ x1)], am_hp σ1, t)) rfl rfl (rcv_of (hp_40 _ 0)) rfl c1 (Nat.le_refl _) rfl ?_
  refine w_iadd rfl rfl ?_
  refine w_s (c' := (22, [some (aR (some (40, 0, 0))), some (aI (iZ (x1 + r1))), some (aI (iZ x2))], [], am_hp σ1, t)) rfl rfl ?_
  refine w_inc (a := x2) (ls' := [some (aR (some (40, 0, 0))), some (aI (iZ (x1 + r1))), some (aI (iZ (x2 + 1)))]) rfl rfl rfl zc_1 rfl rfl ?_
  refine w_s (c' := (4, [some (aR (some (40, 0, 0))), some (aI (iZ (x1 + r1))), some (aI (iZ (x2 + 1)))], [], am_hp σ1, t)) rfl rfl ?_
  exact w2

theorem b_X12_numbersAll_28 {x1 : Int} {x2 : Int} {σ : SG} {t : KT} (q1 : Q (.inl (some (aI (iZ x1))), am_hp σ, t)) : Wp k_X12_numbersAll d (28, [some (aR (some (40, 0, 0))), some (aI (iZ x1)), some (aI (iZ x2))], [], am_hp σ, t) Q := by
  refine w_s (c' := (29, [some (aR (some (40, 0, 0))), some (aI (iZ x1)), some (aI (iZ x2))], [aI (iZ x1)], am_hp σ, t)) rfl rfl ?_
  exact w_ret rfl rfl q1

theorem b_X12_base_0 {x0 : Int} {σ : SG} {t : KT} (q1 : Q (.inl (some (aI (iZ (12 + (63 * x0))))), am_hp σ, t)) : Wp k_X12_base d (0, [some (aI (iZ x0))], [], am_hp σ, t) Q := by
  refine w_psh rfl zc_12 rfl ?_
  refine w_psh rfl zc_63 rfl ?_
  refine w_s (c' := (5, [some (aI (iZ x0))], [aI (iZ x0), aI (iZ 63), aI (iZ 12)], am_hp σ, t)) rfl rfl ?_
  refine w_imul rfl rfl ?_
  refine w_iadd rfl rfl ?_
  exact w_ret rfl rfl q1

theorem e_X12_base {x0 : Int} {h : AH} {t : KT} {d : Nat} {P : RS → Prop} (w : Wp k_X12_base d (0, [some (aI (iZ x0))], [], h, t) P) : ∃ r, Ca (d + 1) 213 [aI (iZ x0)] h t r ∧ P r := ca_W rfl rfl rfl rfl w
end PCS
