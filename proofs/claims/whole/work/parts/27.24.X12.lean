/-! PIECES: X12 -/
set_option maxRecDepth 4000
section PCS
variable {d : Nat} {Q : RS → Prop}
theorem b_X12_insert_0 {x1 : Int} {x2 : Int} {x3 : Int} {r1 : Int} {r2 : Int} {r3 : Int} {σ σ1 σ2 σ3 : SG} {t : KT} (c1 : Ca d 309 [aR (some (40, 0, 0)), aI (iZ x1), aI (iZ x2)] (am_hp σ) t (.inl (some (aI (iZ r1))), am_hp σ1, t)) (c2 : Ca d 219 [aI (iZ x3)] (am_hp σ1) t (.inl (some (aI (iZ r2))), am_hp σ2, t)) (c3 : Ca d 179 [aR (some (40, 0, 0)), aI (iZ r1), aI (iZ r2)] (am_hp σ2) t (.inl (some (aI (iZ r3))), am_hp σ3, t)) (h4 : -2147483648 ≤ r3 ∧ r3 < 2147483648) (w5 : r3 ≠ 0 → Wp k_X12_insert d (19, [some (aR (some (40, 0, 0))), some (aI (iZ x1)), some (aI (iZ x2)), some (aI (iZ x3)), none], [], am_hp σ3, t) Q) (w6 : r3 = 0 → Wp k_X12_insert d (17, [some (aR (some (40, 0, 0))), some (aI (iZ x1)), some (aI (iZ x2)), some (aI (iZ x3)), none], [], am_hp σ3, t) Q) : Wp k_X12_insert d (0, [some (aR (some (40, 0, 0))), some (aI (iZ x1)), some (aI (iZ x2)), some (aI (iZ x3)), none], [], am_hp σ, t) Q := by
  refine w_s (c' := (1, [some (aR (some (40, 0, 0))), some (aI (iZ x1)), some (aI (iZ x2)), some (aI (iZ x3)), none], [aR (some (40, 0, 0))], am_hp σ, t)) rfl rfl ?_
  refine w_s (c' := (2, [some (aR (some (40, 0, 0))), some (aI (iZ x1)), some (aI (iZ x2)), some (aI (iZ x3)), none], [aR (some (40, 0, 0)), aR (some (40, 0, 0))], am_hp σ, t)) rfl rfl ?_
  refine w_s (c' := (3, [some (aR (some (40, 0, 0))), some (aI (iZ x1)), some (aI (iZ x2)), some (aI (iZ x3)), none], [aI (iZ x1), aR (some (40, 0, 0)), aR (some (40, 0, 0))], am_hp σ, t)) rfl rfl ?_
  refine w_s (c' := (4, [some (aR (some (40, 0, 0))), some (aI (iZ x1)), some (aI (iZ x2)), some (aI (iZ x3)), none], [aI (iZ x2), aI (iZ x1), aR (some (40, 0, 0)), aR (some (40, 0, 0))], am_hp σ, t)) rfl rfl ?_
  refine w_c0 (c' := (7, [some (aR (some (40, 0, 0))), some (aI (iZ x1)), some (aI (iZ x2)), some (aI (iZ x3)), none], [aI (iZ r1), aR (some (40, 0, 0))], am_hp σ1, t)) rfl rfl (rcv_of (hp_40 _ 0)) rfl c1 (Nat.le_refl _) rfl ?_
  refine w_s (c' := (8, [some (aR (some (40, 0, 0))), some (aI (iZ x1)), some (aI (iZ x2)), some (aI (iZ x3)), none], [aI (iZ x3), aI (iZ r1), aR (some (40, 0, 0))], am_hp σ1, t)) rfl rfl ?_
  refine w_c0 (c' := (11, [some (aR (some (40, 0, 0))), some (aI (iZ x1)), some (aI (iZ x2)), some (aI (iZ x3)), none], [aI (iZ r2), aI (iZ r1), aR (some (40, 0, 0))], am_hp σ2, t)) rfl rfl rfl rfl c2 (Nat.le_refl _) rfl ?_
  refine w_c0 (c' := (14, [some (aR (some (40, 0, 0))), some (aI (iZ x1)), some (aI (iZ x2)), some (aI (iZ x3)), none], [aI (iZ r3)], am_hp σ3, t)) rfl rfl (rcv_of (hp_40 _ 0)) rfl c3 (Nat.le_refl _) rfl ?_
  exact w_ifne rfl h4 rfl w5 w6

theorem e_X12_insert {x1 : Int} {x2 : Int} {x3 : Int} {h : AH} {t : KT} {d : Nat} {P : RS → Prop} (w : Wp k_X12_insert d (0, [some (aR (some (40, 0, 0))), some (aI (iZ x1)), some (aI (iZ x2)), some (aI (iZ x3)), none], [], h, t) P) : ∃ r, Ca (d + 1) 310 [aR (some (40, 0, 0)), aI (iZ x1), aI (iZ x2), aI (iZ x3)] h t r ∧ P r := ca_W rfl rfl rfl rfl w

theorem b_X12_insert_17 {x1 : Int} {x2 : Int} {x3 : Int} {σ : SG} {t : KT} (q1 : Q (.inl (some (aI (iZ 0))), am_hp σ, t)) : Wp k_X12_insert d (17, [some (aR (some (40, 0, 0))), some (aI (iZ x1)), some (aI (iZ x2)), some (aI (iZ x3)), none], [], am_hp σ, t) Q := by
  refine w_psh rfl zc_0 rfl ?_
  exact w_ret rfl rfl q1

theorem b_X12_insert_19 {x1 : Int} {x2 : Int} {x3 : Int} {r1 : Int} {σ σ1 : SG} {t : KT} (c1 : Ca d 241 [aR (some (40, 0, 0)), aI (iZ x1), aI (iZ 1)] (am_hp σ) t (.inl (some (aI (iZ r1))), am_hp σ1, t)) (h2 : -2147483648 ≤ r1 ∧ r1 < 2147483648) (w3 : r1 ≤ 0 → Wp k_X12_insert d (39, [some (aR (some (40, 0, 0))), some (aI (iZ x1)), some (aI (iZ x2)), some (aI (iZ x3)), some (aI (iZ r1))], [], am_hp σ1, t) Q) (w4 : 0 < r1 → Wp k_X12_insert d (32, [some (aR (some (40, 0, 0))), some (aI (iZ x1)), some (aI (iZ x2)), some (aI (iZ x3)), some (aI (iZ r1))], [], am_hp σ1, t) Q) : Wp k_X12_insert d (19, [some (aR (some (40, 0, 0))), some (aI (iZ x1)), some (aI (iZ x2)), some (aI (iZ x3)), none], [], am_hp σ, t) Q := by
  refine w_s (c' := (20, [some (aR (some (40, 0, 0))), some (aI (iZ x1)), some (aI (iZ x2)), some (aI (iZ x3)), none], [aR (some (40, 0, 0))], am_hp σ, t)) rfl rfl ?_
  refine w_s (c' := (21, [some (aR (some (40, 0, 0))), some (aI (iZ x1)), some (aI (iZ x2)), some (aI (iZ x3)), none], [aI (iZ x1), aR (some (40, 0, 0))], am_hp σ, t)) rfl rfl ?_
  refine w_psh rfl zc_1 rfl ?_
  refine w_c0 (c' := (25, [some (aR (some (40, 0, 0))), some (aI (iZ x1)), some (aI (iZ x2)), some (aI (iZ x3)), none], [aI (iZ r1)], am_hp σ1, t)) rfl rfl (rcv_of (hp_40 _ 0)) rfl c1 (Nat.le_refl _) rfl ?_
  refine w_s (c' := (27, [some (aR (some (40, 0, 0))), some (aI (iZ x1)), some (aI (iZ x2)), some (aI (iZ x3)), some (aI (iZ r1))], [], am_hp σ1, t)) rfl rfl ?_
  refine w_s (c' := (29, [some (aR (some (40, 0, 0))), some (aI (iZ x1)), some (aI (iZ x2)), some (aI (iZ x3)), some (aI (iZ r1))], [aI (iZ r1)], am_hp σ1, t)) rfl rfl ?_
  exact w_ifle rfl h2 rfl w3 w4

theorem b_X12_insert_32 {x1 : Int} {x2 : Int} {x3 : Int} {x4 : Int} {r1 : Int} {σ σ1 : SG} {t : KT} (c1 : Ca d 206 [aR (some (40, 0, 0)), aI (iZ x4)] (am_hp σ) t (.inl (some (aI (iZ r1))), am_hp σ1, t)) (q2 : Q (.inl (some (aI (iZ r1))), am_hp σ1, t)) : Wp k_X12_insert d (32, [some (aR (some (40, 0, 0))), some (aI (iZ x1)), some (aI (iZ x2)), some (aI (iZ x3)), some (aI (iZ x4))], [], am_hp σ, t) Q := by
  refine w_s (c' := (33, [some (aR (some (40, 0, 0))), some (aI (iZ x1)), some (aI (iZ x2)), some (aI (iZ x3)), some (aI (iZ x4))], [aR (some (40, 0, 0))], am_hp σ, t)) rfl rfl ?_
  refine w_s (c' := (35, [some (aR (some (40, 0, 0))), some (aI (iZ x1)), some (aI (iZ x2)), some (aI (iZ x3)), some (aI (iZ x4))], [aI (iZ x4), aR (some (40, 0, 0))], am_hp σ, t)) rfl rfl ?_
  refine w_c0 (c' := (38, [some (aR (some (40, 0, 0))), some (aI (iZ x1)), some (aI (iZ x2)), some (aI (iZ x3)), some (aI (iZ x4))], [aI (iZ r1)], am_hp σ1, t)) rfl rfl (rcv_of (hp_40 _ 0)) rfl c1 (Nat.le_refl _) rfl ?_
  exact w_ret rfl rfl q2

theorem b_X12_insert_39 {x1 : Int} {x2 : Int} {x3 : Int} {x4 : Int} {r3 : Int} {r4 : Int} {σ σ1 σ2 σ3 σ4 : SG} {t : KT} (c1 : Ca d 202 [aR (some (40, 0, 0))] (am_hp σ) t (.inl none, am_hp σ1, t)) (c2 : Ca d 304 [aR (some (40, 0, 0)), aI (iZ x1), aI (iZ x2), aI (iZ x3)] (am_hp σ1) t (.inl none, am_hp σ2, t)) (c3 : Ca d 235 [aR (some (40, 0, 0)), aI (iZ x1)] (am_hp σ2) t (.inl (some (aI (iZ r3))), am_hp σ3, t)) (c4 : Ca d 205 [aR (some (40, 0, 0)), aI (iZ r3)] (am_hp σ3) t (.inl (some (aI (iZ r4))), am_hp σ4, t)) (q5 : Q (.inl (some (aI (iZ r4))), am_hp σ4, t)) : Wp k_X12_insert d (39, [some (aR (some (40, 0, 0))), some (aI (iZ x1)), some (aI (iZ x2)), some (aI (iZ x3)), some (aI (iZ x4))], [], am_hp σ, t) Q := by
  refine w_s (c' := (40, [some (aR (some (40, 0, 0))), some (aI (iZ x1)), some (aI (iZ x2)), some (aI (iZ x3)), some (aI (iZ x4))], [aR (some (40, 0, 0))], am_hp σ, t)) rfl rfl ?_
  refine w_c0 (c' := (43, [some (aR (some (40, 0, 0))), some (aI (iZ x1)), some (aI (iZ x2)), some (aI (iZ x3)), some (aI (iZ x4))], [], am_hp σ1, t)) rfl rfl (rcv_of (hp_40 _ 0)) rfl c1 (Nat.le_refl _) rfl ?_
  refine w_s (c' := (44, [some (aR (some (40, 0, 0))), some (aI (iZ x1)), some (aI (iZ x2)), some (aI (iZ x3)), some (aI (iZ x4))], [aR (some (40, 0, 0))], am_hp σ1, t)) rfl rfl ?_
  refine w_s (c' := (45, [some (aR (some (40, 0, 0))), some (aI (iZ x1)), some (aI (iZ x2)), some (aI (iZ x3)), some (aI (iZ x4))], [aI (iZ x1), aR (some (40, 0, 0))], am_hp σ1, t)) rfl rfl ?_
  refine w_s (c' := (46, [some (aR (some (40, 0, 0))), some (aI (iZ x1)), some (aI (iZ x2)), some (aI (iZ x3)), some (aI (iZ x4))], [aI (iZ x2), aI (iZ x1), aR (some (40, 0, 0))], am_hp σ1, t)) rfl rfl ?_
  refine w_s (c' := (47, [some (aR (some (40, 0, 0))), some (aI (iZ x1)), some (aI (iZ x2)), some (aI (iZ x3)), some (aI (iZ x4))], [aI (iZ x3), aI (iZ x2), aI (iZ x1), aR (some (40, 0, 0))], am_hp σ1, t)) rfl rfl ?_
  refine w_c0 (c' := (50, [some (aR (some (40, 0, 0))), some (aI (iZ x1)), some (aI (iZ x2)), some (aI (iZ x3)), some (aI (iZ x4))], [], am_hp σ2, t)) rfl rfl (rcv_of (hp_40 _ 0)) rfl c2 (Nat.le_refl _) rfl ?_
  refine w_s (c' := (51, [some (aR (some (40, 0, 0))), some (aI (iZ x1)), some (aI (iZ x2)), some (aI (iZ x3)), some (aI (iZ x4))], [aR (some (40, 0, 0))], am_hp σ2, t)) rfl rfl ?_
  refine w_s (c' := (52, [some (aR (some (40, 0, 0))), some (aI (iZ x1)), some (aI (iZ x2)), some (aI (iZ x3)), some (aI (iZ x4))], [aR (some (40, 0, 0)), aR (some (40, 0, 0))], am_hp σ2, t)) rfl rfl ?_
  refine w_s (c' := (53, [some (aR (some (40, 0, 0))), some (aI (iZ x1)), some (aI (iZ x2)), some (aI (iZ x3)), some (aI (iZ x4))], [aI (iZ x1), aR (some (40, 0, 0)), aR (some (40, 0, 0))], am_hp σ2, t)) rfl rfl ?_
  refine w_c0 (c' := (56, [some (aR (some (40, 0, 0))), some (aI (iZ x1)), some (aI (iZ x2)), some (aI (iZ x3)), some (aI (iZ x4))], [aI (iZ r3), aR (some (40, 0, 0))], am_hp σ3, t)) rfl rfl (rcv_of (hp_40 _ 0)) rfl c3 (Nat.le_refl _) rfl ?_
  refine w_c0 (c' := (59, [some (aR (some (40, 0, 0))), some (aI (iZ x1)), some (aI (iZ x2)), some (aI (iZ x3)), some (aI (iZ x4))], [aI (iZ r4)], am_hp σ4, t)) rfl rfl (rcv_of (hp_40 _ 0)) rfl c4 (Nat.le_refl _) rfl ?_
  exact w_ret rfl rfl q5

theorem b_X12_remove_0 {x1 : Int} {x2 : Int} {r1 : Int} {r2 : Int} {σ σ1 σ2 : SG} {t : KT} (c1 : Ca d 218 [aR (some (40, 0, 0)), aI (iZ x1), aI (iZ x2)] (am_hp σ) t (.inl (some (aI (iZ r1))), am_hp σ1, t)) (c2 : Ca d 178 [aR (some (40, 0, 0)), aI (iZ r1)] (am_hp σ1) t (.inl (some (aI (iZ r2))), am_hp σ2, t)) (h3 : -2147483648 ≤ r2 ∧ r2 < 2147483648) (w4 : r2 ≠ 0 → Wp k_X12_remove d (15, [some (aR (some (40, 0, 0))), some (aI (iZ x1)), some (aI (iZ x2))], [], am_hp σ2, t) Q) (w5 : r2 = 0 → Wp k_X12_remove d (13, [some (aR (some (40, 0, 0))), some (aI (iZ x1)), some (aI (iZ x2))], [], am_hp σ2, t) Q) : Wp k_X12_remove d (0, [some (aR (some (40, 0, 0))), some (aI (iZ x1)), some (aI (iZ x2))], [], am_hp σ, t) Q := by
  refine w_s (c' := (1, [some (aR (some (40, 0, 0))), some (aI (iZ x1)), some (aI (iZ x2))], [aR (some (40, 0, 0))], am_hp σ, t)) rfl rfl ?_
  refine w_s (c' := (2, [some (aR (some (40, 0, 0))), some (aI (iZ x1)), some (aI (iZ x2))], [aR (some (40, 0, 0)), aR (some (40, 0, 0))], am_hp σ, t)) rfl rfl ?_
  refine w_s (c' := (3, [some (aR (some (40, 0, 0))), some (aI (iZ x1)), some (aI (iZ x2))], [aI (iZ x1), aR (some (40, 0, 0)), aR (some (40, 0, 0))], am_hp σ, t)) rfl rfl ?_
  refine w_s (c' := (4, [some (aR (some (40, 0, 0))), some (aI (iZ x1)), some (aI (iZ x2))], [aI (iZ x2), aI (iZ x1), aR (some (40, 0, 0)), aR (some (40, 0, 0))], am_hp σ, t)) rfl rfl ?_
  refine w_c0 (c' := (7, [some (aR (some (40, 0, 0))), some (aI (iZ x1)), some (aI (iZ x2))], [aI (iZ r1), aR (some (40, 0, 0))], am_hp σ1, t)) rfl rfl (rcv_of (hp_40 _ 0)) rfl c1 (Nat.le_refl _) rfl ?_
  refine w_c0 (c' := (10, [some (aR (some (40, 0, 0))), some (aI (iZ x1)), some (aI (iZ x2))], [aI (iZ r2)], am_hp σ2, t)) rfl rfl (rcv_of (hp_40 _ 0)) rfl c2 (Nat.le_refl _) rfl ?_
  exact w_ifne rfl h3 rfl w4 w5

theorem e_X12_remove {x1 : Int} {x2 : Int} {h : AH} {t : KT} {d : Nat} {P : RS → Prop} (w : Wp k_X12_remove d (0, [some (aR (some (40, 0, 0))), some (aI (iZ x1)), some (aI (iZ x2))], [], h, t) P) : ∃ r, Ca (d + 1) 311 [aR (some (40, 0, 0)), aI (iZ x1), aI (iZ x2)] h t r ∧ P r := ca_W rfl rfl rfl rfl w

theorem b_X12_remove_13 {x1 : Int} {x2 : Int} {σ : SG} {t : KT} (q1 : Q (.inl (some (aI (iZ 0))), am_hp σ, t)) : Wp k_X12_remove d (13, [some (aR (some (40, 0, 0))), some (aI (iZ x1)), some (aI (iZ x2))], [], am_hp σ, t) Q := by
  refine w_psh rfl zc_0 rfl ?_
  exact w_ret rfl rfl q1

theorem b_X12_remove_15 {x1 : Int} {x2 : Int} {r3 : Int} {r4 : Int} {σ σ1 σ2 σ3 σ4 : SG} {t : KT} (c1 : Ca d 202 [aR (some (40, 0, 0))] (am_hp σ) t (.inl none, am_hp σ1, t)) (c2 : Ca d 305 [aR (some (40, 0, 0)), aI (iZ x1), aI (iZ x2)] (am_hp σ1) t (.inl none, am_hp σ2, t)) (c3 : Ca d 235 [aR (some (40, 0, 0)), aI (iZ x1)] (am_hp σ2) t (.inl (some (aI (iZ r3))), am_hp σ3, t)) (c4 : Ca d 205 [aR (some (40, 0, 0)), aI (iZ r3)] (am_hp σ3) t (.inl (some (aI (iZ r4))), am_hp σ4, t)) (q5 : Q (.inl (some (aI (iZ r4))), am_hp σ4, t)) : Wp k_X12_remove d (15, [some (aR (some (40, 0, 0))), some (aI (iZ x1)), some (aI (iZ x2))], [], am_hp σ, t) Q := by
  refine w_s (c' := (16, [some (aR (some (40, 0, 0))), some (aI (iZ x1)), some (aI (iZ x2))], [aR (some (40, 0, 0))], am_hp σ, t)) rfl rfl ?_
  refine w_c0 (c' := (19, [some (aR (some (40, 0, 0))), some (aI (iZ x1)), some (aI (iZ x2))], [], am_hp σ1, t)) rfl rfl (rcv_of (hp_40 _ 0)) rfl c1 (Nat.le_refl _) rfl ?_
  refine w_s (c' := (20, [some (aR (some (40, 0, 0))), some (aI (iZ x1)), some (aI (iZ x2))], [aR (some (40, 0, 0))], am_hp σ1, t)) rfl rfl ?_
  refine w_s (c' := (21, [some (aR (some (40, 0, 0))), some (aI (iZ x1)), some (aI (iZ x2))], [aI (iZ x1), aR (some (40, 0, 0))], am_hp σ1, t)) rfl rfl ?_
  refine w_s (c' := (22, [some (aR (some (40, 0, 0))), some (aI (iZ x1)), some (aI (iZ x2))], [aI (iZ x2), aI (iZ x1), aR (some (40, 0, 0))], am_hp σ1, t)) rfl rfl ?_
  refine w_c0 (c' := (25, [some (aR (some (40, 0, 0))), some (aI (iZ x1)), some (aI (iZ x2))], [], am_hp σ2, t)) rfl rfl (rcv_of (hp_40 _ 0)) rfl c2 (Nat.le_refl _) rfl ?_
  refine w_s (c' := (26, [some (aR (some (40, 0, 0))), some (aI (iZ x1)), some (aI (iZ x2))], [aR (some (40, 0, 0))], am_hp σ2, t)) rfl rfl ?_
  refine w_s (c' := (27, [some (aR (some (40, 0, 0))), some (aI (iZ x1)), some (aI (iZ x2))], [aR (some (40, 0, 0)), aR (some (40, 0, 0))], am_hp σ2, t)) rfl rfl ?_
  refine w_s (c' := (28, [some (aR (some (40, 0, 0))), some (aI (iZ x1)), some (aI (iZ x2))], [aI (iZ x1), aR (some (40, 0, 0)), aR (some (40, 0, 0))], am_hp σ2, t)) rfl rfl ?_
  refine w_c0 (c' := (31, [some (aR (some (40, 0, 0))), some (aI (iZ x1)), some (aI (iZ x2))], [aI (iZ r3), aR (some (40, 0, 0))], am_hp σ3, t)) rfl rfl (rcv_of (hp_40 _ 0)) rfl c3 (Nat.le_refl _) rfl ?_
  refine w_c0 (c' := (34, [some (aR (some (40, 0, 0))), some (aI (iZ x1)), some (aI (iZ x2))], [aI (iZ r4)], am_hp σ4, t)) rfl rfl (rcv_of (hp_40 _ 0)) rfl c4 (Nat.le_refl _) rfl ?_
  exact w_ret rfl rfl q5

theorem b_X12_join_0 {x1 : Int} {x2 : Int} {r1 : Int} {σ σ1 : SG} {t : KT} (c1 : Ca d 217 [aR (some (40, 0, 0)), aI (iZ x1)] (am_hp σ) t (.inl (some (aI (iZ r1))), am_hp σ1, t)) (h2 : -2147483648 ≤ r1 ∧ r1 < 2147483648) (w3 : r1 = 0 → Wp k_X12_join d (21, [some (aR (some (40, 0, 0))), some (aI (iZ x1)), some (aI (iZ x2)), none], [aR (some (40, 0, 0))], am_hp σ1, t) Q) (w4 : r1 ≠ 0 → Wp k_X12_join d (9, [some (aR (some (40, 0, 0))), some (aI (iZ x1)), some (aI (iZ x2)), none], [aR (some (40, 0, 0))], am_hp σ1, t) Q) : Wp k_X12_join d (0, [some (aR (some (40, 0, 0))), some (aI (iZ x1)), some (aI (iZ x2)), none], [], am_hp σ, t) Q := by
  refine w_s (c' := (1, [some (aR (some (40, 0, 0))), some (aI (iZ x1)), some (aI (iZ x2)), none], [aR (some (40, 0, 0))], am_hp σ, t)) rfl rfl ?_
  refine w_s (c' := (2, [some (aR (some (40, 0, 0))), some (aI (iZ x1)), some (aI (iZ x2)), none], [aR (some (40, 0, 0)), aR (some (40, 0, 0))], am_hp σ, t)) rfl rfl ?_
  refine w_s (c' := (3, [some (aR (some (40, 0, 0))), some (aI (iZ x1)), some (aI (iZ x2)), none], [aI (iZ x1), aR (some (40, 0, 0)), aR (some (40, 0, 0))], am_hp σ, t)) rfl rfl ?_
  refine w_c0 (c' := (6, [some (aR (some (40, 0, 0))), some (aI (iZ x1)), some (aI (iZ x2)), none], [aI (iZ r1), aR (some (40, 0, 0))], am_hp σ1, t)) rfl rfl (rcv_of (hp_40 _ 0)) rfl c1 (Nat.le_refl _) rfl ?_
  exact w_ifeq rfl h2 rfl w3 w4

theorem e_X12_join {x1 : Int} {x2 : Int} {h : AH} {t : KT} {d : Nat} {P : RS → Prop} (w : Wp k_X12_join d (0, [some (aR (some (40, 0, 0))), some (aI (iZ x1)), some (aI (iZ x2)), none], [], h, t) P) : ∃ r, Ca (d + 1) 312 [aR (some (40, 0, 0)), aI (iZ x1), aI (iZ x2)] h t r ∧ P r := ca_W rfl rfl rfl rfl w

theorem b_X12_join_9 {x1 : Int} {x2 : Int} {r1 : Int} {σ σ1 : SG} {t : KT} (c1 : Ca d 217 [aR (some (40, 0, 0)), aI (iZ x2)] (am_hp σ) t (.inl (some (aI (iZ r1))), am_hp σ1, t)) (h2 : -2147483648 ≤ r1 ∧ r1 < 2147483648) (w3 : r1 = 0 → Wp k_X12_join d (21, [some (aR (some (40, 0, 0))), some (aI (iZ x1)), some (aI (iZ x2)), none], [aR (some (40, 0, 0))], am_hp σ1, t) Q) (w4 : r1 ≠ 0 → Wp k_X12_join d (17, [some (aR (some (40, 0, 0))), some (aI (iZ x1)), some (aI (iZ x2)), none], [aR (some (40, 0, 0))], am_hp σ1, t) Q) : Wp k_X12_join d (9, [some (aR (some (40, 0, 0))), some (aI (iZ x1)), some (aI (iZ x2)), none], [aR (some (40, 0, 0))], am_hp σ, t) Q := by
  refine w_s (c' := (10, [some (aR (some (40, 0, 0))), some (aI (iZ x1)), some (aI (iZ x2)), none], [aR (some (40, 0, 0)), aR (some (40, 0, 0))], am_hp σ, t)) rfl rfl ?_
  refine w_s (c' := (11, [some (aR (some (40, 0, 0))), some (aI (iZ x1)), some (aI (iZ x2)), none], [aI (iZ x2), aR (some (40, 0, 0)), aR (some (40, 0, 0))], am_hp σ, t)) rfl rfl ?_
  refine w_c0 (c' := (14, [some (aR (some (40, 0, 0))), some (aI (iZ x1)), some (aI (iZ x2)), none], [aI (iZ r1), aR (some (40, 0, 0))], am_hp σ1, t)) rfl rfl (rcv_of (hp_40 _ 0)) rfl c1 (Nat.le_refl _) rfl ?_
  exact w_ifeq rfl h2 rfl w3 w4

theorem b_X12_join_17 {x1 : Int} {x2 : Int} {σ : SG} {t : KT} (w1 : Wp k_X12_join d (22, [some (aR (some (40, 0, 0))), some (aI (iZ x1)), some (aI (iZ x2)), none], [aI (iZ 1), aR (some (40, 0, 0))], am_hp σ, t) Q) : Wp k_X12_join d (17, [some (aR (some (40, 0, 0))), some (aI (iZ x1)), some (aI (iZ x2)), none], [aR (some (40, 0, 0))], am_hp σ, t) Q := by
  refine w_psh rfl zc_1 rfl ?_
  refine w_s (c' := (22, [some (aR (some (40, 0, 0))), some (aI (iZ x1)), some (aI (iZ x2)), none], [aI (iZ 1), aR (some (40, 0, 0))], am_hp σ, t)) rfl rfl ?_
  exact w1

theorem b_X12_join_21 {x1 : Int} {x2 : Int} {σ : SG} {t : KT} (w1 : Wp k_X12_join d (22, [some (aR (some (40, 0, 0))), some (aI (iZ x1)), some (aI (iZ x2)), none], [aI (iZ 0), aR (some (40, 0, 0))], am_hp σ, t) Q) : Wp k_X12_join d (21, [some (aR (some (40, 0, 0))), some (aI (iZ x1)), some (aI (iZ x2)), none], [aR (some (40, 0, 0))], am_hp σ, t) Q := by
  refine w_psh rfl zc_0 rfl ?_
  exact w1

theorem b_X12_join_22 {x1 : Int} {x2 : Int} {xs0 : Int} {r1 : Int} {σ σ1 : SG} {t : KT} (c1 : Ca d 178 [aR (some (40, 0, 0)), aI (iZ xs0)] (am_hp σ) t (.inl (some (aI (iZ r1))), am_hp σ1, t)) (h2 : -2147483648 ≤ r1 ∧ r1 < 2147483648) (w3 : r1 ≠ 0 → Wp k_X12_join d (30, [some (aR (some (40, 0, 0))), some (aI (iZ x1)), some (aI (iZ x2)), none], [], am_hp σ1, t) Q) (w4 : r1 = 0 → Wp k_X12_join d (28, [some (aR (some (40, 0, 0))), some (aI (iZ x1)), some (aI (iZ x2)), none], [], am_hp σ1, t) Q) : Wp k_X12_join d (22, [some (aR (some (40, 0, 0))), some (aI (iZ x1)), some (aI (iZ x2)), none], [aI (iZ xs0), aR (some (40, 0, 0))], am_hp σ, t) Q := by
  refine w_c0 (c' := (25, [some (aR (some (40, 0, 0))), some (aI (iZ x1)), some (aI (iZ x2)), none], [aI (iZ r1)], am_hp σ1, t)) rfl rfl (rcv_of (hp_40 _ 0)) rfl c1 (Nat.le_refl _) rfl ?_
  exact w_ifne rfl h2 rfl w3 w4

theorem b_X12_join_28 {x1 : Int} {x2 : Int} {σ : SG} {t : KT} (q1 : Q (.inl (some (aI (iZ 0))), am_hp σ, t)) : Wp k_X12_join d (28, [some (aR (some (40, 0, 0))), some (aI (iZ x1)), some (aI (iZ x2)), none], [], am_hp σ, t) Q := by
  refine w_psh rfl zc_0 rfl ?_
  exact w_ret rfl rfl q1

theorem b_X12_join_30 {x1 : Int} {x2 : Int} {r1 : Int} {r2 : Int} {σ σ1 σ2 : SG} {t : KT} (c1 : Ca d 214 [aR (some (40, 0, 0)), aI (iZ x2)] (am_hp σ) t (.inl (some (aI (iZ r1))), am_hp σ1, t)) (c2 : Ca d 241 [aR (some (40, 0, 0)), aI (iZ x1), aI (iZ r1)] (am_hp σ1) t (.inl (some (aI (iZ r2))), am_hp σ2, t)) (h3 : -2147483648 ≤ r2 ∧ r2 < 2147483648) (w4 : r2 ≤ 0 → Wp k_X12_join d (51, [some (aR (some (40, 0, 0))), some (aI (iZ x1)), some (aI (iZ x2)), some (aI (iZ r2))], [], am_hp σ2, t) Q) (w5 : 0 < r2 → Wp k_X12_join d (45, [some (aR (some (40, 0, 0))), some (aI (iZ x1)), some (aI (iZ x2)), some (aI (iZ r2))], [], am_hp σ2, t) Q) : Wp k_X12_join d (30, [some (aR (some (40, 0, 0))), some (aI (iZ x1)), some (aI (iZ x2)), none], [], am_hp σ, t) Q := by
  refine w_s (c' := (31, [some (aR (some (40, 0, 0))), some (aI (iZ x1)), some (aI (iZ x2)), none], [aR (some (40, 0, 0))], am_hp σ, t)) rfl rfl ?_
  refine w_s (c' := (32, [some (aR (some (40, 0, 0))), some (aI (iZ x1)), some (aI (iZ x2)), none], [aI (iZ x1), aR (some (40, 0, 0))], am_hp σ, t)) rfl rfl ?_
  refine w_s (c' := (33, [some (aR (some (40, 0, 0))), some (aI (iZ x1)), some (aI (iZ x2)), none], [aR (some (40, 0, 0)), aI (iZ x1), aR (some (40, 0, 0))], am_hp σ, t)) rfl rfl ?_
  refine w_s (c' := (34, [some (aR (some (40, 0, 0))), some (aI (iZ x1)), some (aI (iZ x2)), none], [aI (iZ x2), aR (some (40, 0, 0)), aI (iZ x1), aR (some (40, 0, 0))], am_hp σ, t)) rfl rfl ?_
  refine w_c0 (c' := (37, [some (aR (some (40, 0, 0))), some (aI (iZ x1)), some (aI (iZ x2)), none], [aI (iZ r1), aI (iZ x1), aR (some (40, 0, 0))], am_hp σ1, t)) rfl rfl (rcv_of (hp_40 _ 0)) rfl c1 (Nat.le_refl _) rfl ?_
  refine w_c0 (c' := (40, [some (aR (some (40, 0, 0))), some (aI (iZ x1)), some (aI (iZ x2)), none], [aI (iZ r2)], am_hp σ2, t)) rfl rfl (rcv_of (hp_40 _ 0)) rfl c2 (Nat.le_refl _) rfl ?_
  refine w_s (c' := (41, [some (aR (some (40, 0, 0))), some (aI (iZ x1)), some (aI (iZ x2)), some (aI (iZ r2))], [], am_hp σ2, t)) rfl rfl ?_
  refine w_s (c' := (42, [some (aR (some (40, 0, 0))), some (aI (iZ x1)), some (aI (iZ x2)), some (aI (iZ r2))], [aI (iZ r2)], am_hp σ2, t)) rfl rfl ?_
  exact w_ifle rfl h3 rfl w4 w5

theorem b_X12_join_45 {x1 : Int} {x2 : Int} {x3 : Int} {r1 : Int} {σ σ1 : SG} {t : KT} (c1 : Ca d 206 [aR (some (40, 0, 0)), aI (iZ x3)] (am_hp σ) t (.inl (some (aI (iZ r1))), am_hp σ1, t)) (q2 : Q (.inl (some (aI (iZ r1))), am_hp σ1, t)) : Wp k_X12_join d (45, [some (aR (some (40, 0, 0))), some (aI (iZ x1)), some (aI (iZ x2)), some (aI (iZ x3))], [], am_hp σ, t) Q := by
  refine w_s (c' := (46, [some (aR (some (40, 0, 0))), some (aI (iZ x1)), some (aI (iZ x2)), some (aI (iZ x3))], [aR (some (40, 0, 0))], am_hp σ, t)) rfl rfl ?_
  refine w_s (c' := (47, [some (aR (some (40, 0, 0))), some (aI (iZ x1)), some (aI (iZ x2)), some (aI (iZ x3))], [aI (iZ x3), aR (some (40, 0, 0))], am_hp σ, t)) rfl rfl ?_
  refine w_c0 (c' := (50, [some (aR (some (40, 0, 0))), some (aI (iZ x1)), some (aI (iZ x2)), some (aI (iZ x3))], [aI (iZ r1)], am_hp σ1, t)) rfl rfl (rcv_of (hp_40 _ 0)) rfl c1 (Nat.le_refl _) rfl ?_
  exact w_ret rfl rfl q2

theorem b_X12_join_51 {x1 : Int} {x2 : Int} {x3 : Int} {r3 : Int} {r4 : Int} {σ σ1 σ2 σ3 σ4 : SG} {t : KT} (c1 : Ca d 202 [aR (some (40, 0, 0))] (am_hp σ) t (.inl none, am_hp σ1, t)) (c2 : Ca d 306 [aR (some (40, 0, 0)), aI (iZ x1), aI (iZ x2)] (am_hp σ1) t (.inl none, am_hp σ2, t)) (c3 : Ca d 235 [aR (some (40, 0, 0)), aI (iZ x1)] (am_hp σ2) t (.inl (some (aI (iZ r3))), am_hp σ3, t)) (c4 : Ca d 205 [aR (some (40, 0, 0)), aI (iZ r3)] (am_hp σ3) t (.inl (some (aI (iZ r4))), am_hp σ4, t)) (q5 : Q (.inl (some (aI (iZ r4))), am_hp σ4, t)) : Wp k_X12_join d (51, [some (aR (some (40, 0, 0))), some (aI (iZ x1)), some (aI (iZ x2)), some (aI (iZ x3))], [], am_hp σ, t) Q := by
  refine w_s (c' := (52, [some (aR (some (40, 0, 0))), some (aI (iZ x1)), some (aI (iZ x2)), some (aI (iZ x3))], [aR (some (40, 0, 0))], am_hp σ, t)) rfl rfl ?_
  refine w_c0 (c' := (55, [some (aR (some (40, 0, 0))), some (aI (iZ x1)), some (aI (iZ x2)), some (aI (iZ x3))], [], am_hp σ1, t)) rfl rfl (rcv_of (hp_40 _ 0)) rfl c1 (Nat.le_refl _) rfl ?_
  refine w_s (c' := (56, [some (aR (some (40, 0, 0))), some (aI (iZ x1)), some (aI (iZ x2)), some (aI (iZ x3))], [aR (some (40, 0, 0))], am_hp σ1, t)) rfl rfl ?_
  refine w_s (c' := (57, [some (aR (some (40, 0, 0))), some (aI (iZ x1)), some (aI (iZ x2)), some (aI (iZ x3))], [aI (iZ x1), aR (some (40, 0, 0))], am_hp σ1, t)) rfl rfl ?_
  refine w_s (c' := (58, [some (aR (some (40, 0, 0))), some (aI (iZ x1)), some (aI (iZ x2)), some (aI (iZ x3))], [aI (iZ x2), aI (iZ x1), aR (some (40, 0, 0))], am_hp σ1, t)) rfl rfl ?_
  refine w_c0 (c' := (61, [some (aR (some (40, 0, 0))), some (aI (iZ x1)), some (aI (iZ x2)), some (aI (iZ x3))], [], am_hp σ2, t)) rfl rfl (rcv_of (hp_40 _ 0)) rfl c2 (Nat.le_refl _) rfl ?_
  refine w_s (c' := (62, [some (aR (some (40, 0, 0))), some (aI (iZ x1)), some (aI (iZ x2)), some (aI (iZ x3))], [aR (some (40, 0, 0))], am_hp σ2, t)) rfl rfl ?_
  refine w_s (c' := (63, [some (aR (some (40, 0, 0))), some (aI (iZ x1)), some (aI (iZ x2)), some (aI (iZ x3))], [aR (some (40, 0, 0)), aR (some (40, 0, 0))], am_hp σ2, t)) rfl rfl ?_
  refine w_s (c' := (64, [some (aR (some (40, 0, 0))), some (aI (iZ x1)), some (aI (iZ x2)), some (aI (iZ x3))], [aI (iZ x1), aR (some (40, 0, 0)), aR (some (40, 0, 0))], am_hp σ2, t)) rfl rfl ?_
  refine w_c0 (c' := (67, [some (aR (some (40, 0, 0))), some (aI (iZ x1)), some (aI (iZ x2)), some (aI (iZ x3))], [aI (iZ r3), aR (some (40, 0, 0))], am_hp σ3, t)) rfl rfl (rcv_of (hp_40 _ 0)) rfl c3 (Nat.le_refl _) rfl ?_
  refine w_c0 (c' := (70, [some (aR (some (40, 0, 0))), some (aI (iZ x1)), some (aI (iZ x2)), some (aI (iZ x3))], [aI (iZ r4)], am_hp σ4, t)) rfl rfl (rcv_of (hp_40 _ 0)) rfl c4 (Nat.le_refl _) rfl ?_
  exact w_ret rfl rfl q5

theorem b_X12_setsCell_0 {x1 : Int} {x2 : Int} {σ : SG} {t : KT} (h1 : 0 ≤ x1 ∧ x1 < 264) (q2 : Q (.inl (some (aI (iZ (σ.1 (42, 0, 0) x1.toNat)))), am_hp ((sI σ (42, 0, 0) (up (σ.1 (42, 0, 0)) x1.toNat x2))), t)) : Wp k_X12_setsCell d (0, [some (aR (some (40, 0, 0))), some (aI (iZ x1)), some (aI (iZ x2)), none], [], am_hp σ, t) Q := by
  refine w_s (c' := (1, [some (aR (some (40, 0, 0))), some (aI (iZ x1)), some (aI (iZ x2)), none], [aR (some (40, 0, 0))], am_hp σ, t)) rfl rfl ?_
  refine w_get rfl (hp_40 _ 0) rfl rfl ?_
  refine w_s (c' := (5, [some (aR (some (40, 0, 0))), some (aI (iZ x1)), some (aI (iZ x2)), none], [aI (iZ x1), aR (some (42, 0, 0))], am_hp σ, t)) rfl rfl ?_
  refine w_ial rfl (hp_42 _ 0 0) h1 rfl rfl ?_
  refine w_s (c' := (7, [some (aR (some (40, 0, 0))), some (aI (iZ x1)), some (aI (iZ x2)), some (aI (iZ (σ.1 (42, 0, 0) x1.toNat)))], [], am_hp σ, t)) rfl rfl ?_
  refine w_s (c' := (8, [some (aR (some (40, 0, 0))), some (aI (iZ x1)), some (aI (iZ x2)), some (aI (iZ (σ.1 (42, 0, 0) x1.toNat)))], [aR (some (40, 0, 0))], am_hp σ, t)) rfl rfl ?_
  refine w_get rfl (hp_40 _ 0) rfl rfl ?_
  refine w_s (c' := (12, [some (aR (some (40, 0, 0))), some (aI (iZ x1)), some (aI (iZ x2)), some (aI (iZ (σ.1 (42, 0, 0) x1.toNat)))], [aI (iZ x1), aR (some (42, 0, 0))], am_hp σ, t)) rfl rfl ?_
  refine w_s (c' := (13, [some (aR (some (40, 0, 0))), some (aI (iZ x1)), some (aI (iZ x2)), some (aI (iZ (σ.1 (42, 0, 0) x1.toNat)))], [aI (iZ x2), aI (iZ x1), aR (some (42, 0, 0))], am_hp σ, t)) rfl rfl ?_
  refine w_ias rfl (mk_42 _ 0 0) h1 rfl rfl rfl ?_
  refine w_s (c' := (15, [some (aR (some (40, 0, 0))), some (aI (iZ x1)), some (aI (iZ x2)), some (aI (iZ (σ.1 (42, 0, 0) x1.toNat)))], [aI (iZ (σ.1 (42, 0, 0) x1.toNat))], am_hp ((sI σ (42, 0, 0) (up (σ.1 (42, 0, 0)) x1.toNat x2))), t)) rfl rfl ?_
  exact w_ret rfl rfl q2

theorem e_X12_setsCell {x1 : Int} {x2 : Int} {h : AH} {t : KT} {d : Nat} {P : RS → Prop} (w : Wp k_X12_setsCell d (0, [some (aR (some (40, 0, 0))), some (aI (iZ x1)), some (aI (iZ x2)), none], [], h, t) P) : ∃ r, Ca (d + 1) 313 [aR (some (40, 0, 0)), aI (iZ x1), aI (iZ x2)] h t r ∧ P r := ca_W rfl rfl rfl rfl w

theorem b_X12_setRule_0 {x1 : Int} {r1 : Int} {r2 : Int} {σ σ1 σ2 : SG} {t : KT} (c1 : Ca d 290 [aI (iZ x1)] (am_hp σ) t (.inl (some (aI (iZ r1))), am_hp σ1, t)) (c2 : Ca d 178 [aR (some (40, 0, 0)), aI (iZ r1)] (am_hp σ1) t (.inl (some (aI (iZ r2))), am_hp σ2, t)) (h3 : -2147483648 ≤ r2 ∧ r2 < 2147483648) (w4 : r2 ≠ 0 → Wp k_X12_setRule d (13, [some (aR (some (40, 0, 0))), some (aI (iZ x1))], [], am_hp σ2, t) Q) (w5 : r2 = 0 → Wp k_X12_setRule d (11, [some (aR (some (40, 0, 0))), some (aI (iZ x1))], [], am_hp σ2, t) Q) : Wp k_X12_setRule d (0, [some (aR (some (40, 0, 0))), some (aI (iZ x1))], [], am_hp σ, t) Q := by
  refine w_s (c' := (1, [some (aR (some (40, 0, 0))), some (aI (iZ x1))], [aR (some (40, 0, 0))], am_hp σ, t)) rfl rfl ?_
  refine w_s (c' := (2, [some (aR (some (40, 0, 0))), some (aI (iZ x1))], [aI (iZ x1), aR (some (40, 0, 0))], am_hp σ, t)) rfl rfl ?_
  refine w_c0 (c' := (5, [some (aR (some (40, 0, 0))), some (aI (iZ x1))], [aI (iZ r1), aR (some (40, 0, 0))], am_hp σ1, t)) rfl rfl rfl rfl c1 (Nat.le_refl _) rfl ?_
  refine w_c0 (c' := (8, [some (aR (some (40, 0, 0))), some (aI (iZ x1))], [aI (iZ r2)], am_hp σ2, t)) rfl rfl (rcv_of (hp_40 _ 0)) rfl c2 (Nat.le_refl _) rfl ?_
  exact w_ifne rfl h3 rfl w4 w5

theorem e_X12_setRule {x1 : Int} {h : AH} {t : KT} {d : Nat} {P : RS → Prop} (w : Wp k_X12_setRule d (0, [some (aR (some (40, 0, 0))), some (aI (iZ x1))], [], h, t) P) : ∃ r, Ca (d + 1) 314 [aR (some (40, 0, 0)), aI (iZ x1)] h t r ∧ P r := ca_W rfl rfl rfl rfl w

theorem b_X12_setRule_11 {x1 : Int} {σ : SG} {t : KT} (q1 : Q (.inl (some (aI (iZ 0))), am_hp σ, t)) : Wp k_X12_setRule d (11, [some (aR (some (40, 0, 0))), some (aI (iZ x1))], [], am_hp σ, t) Q := by
  refine w_psh rfl zc_0 rfl ?_
  exact w_ret rfl rfl q1

theorem b_X12_setRule_13 {x1 : Int} {r2 : Int} {r3 : Int} {σ σ1 σ2 σ3 : SG} {t : KT} (c1 : Ca d 202 [aR (some (40, 0, 0))] (am_hp σ) t (.inl none, am_hp σ1, t)) (c2 : Ca d 313 [aR (some (40, 0, 0)), aI (iZ 1), aI (iZ x1)] (am_hp σ1) t (.inl (some (aI (iZ r2))), am_hp σ2, t)) (c3 : Ca d 205 [aR (some (40, 0, 0)), aI (iZ r2)] (am_hp σ2) t (.inl (some (aI (iZ r3))), am_hp σ3, t)) (q4 : Q (.inl (some (aI (iZ r3))), am_hp σ3, t)) : Wp k_X12_setRule d (13, [some (aR (some (40, 0, 0))), some (aI (iZ x1))], [], am_hp σ, t) Q := by
  refine w_s (c' := (14, [some (aR (some (40, 0, 0))), some (aI (iZ x1))], [aR (some (40, 0, 0))], am_hp σ, t)) rfl rfl ?_
  refine w_c0 (c' := (17, [some (aR (some (40, 0, 0))), some (aI (iZ x1))], [], am_hp σ1, t)) rfl rfl (rcv_of (hp_40 _ 0)) rfl c1 (Nat.le_refl _) rfl ?_
  refine w_s (c' := (18, [some (aR (some (40, 0, 0))), some (aI (iZ x1))], [aR (some (40, 0, 0))], am_hp σ1, t)) rfl rfl ?_
  refine w_s (c' := (19, [some (aR (some (40, 0, 0))), some (aI (iZ x1))], [aR (some (40, 0, 0)), aR (some (40, 0, 0))], am_hp σ1, t)) rfl rfl ?_
  refine w_psh rfl zc_1 rfl ?_
  refine w_s (c' := (21, [some (aR (some (40, 0, 0))), some (aI (iZ x1))], [aI (iZ x1), aI (iZ 1), aR (some (40, 0, 0)), aR (some (40, 0, 0))], am_hp σ1, t)) rfl rfl ?_
  refine w_c0 (c' := (24, [some (aR (some (40, 0, 0))), some (aI (iZ x1))], [aI (iZ r2), aR (some (40, 0, 0))], am_hp σ2, t)) rfl rfl (rcv_of (hp_40 _ 0)) rfl c2 (Nat.le_refl _) rfl ?_
  refine w_c0 (c' := (27, [some (aR (some (40, 0, 0))), some (aI (iZ x1))], [aI (iZ r3)], am_hp σ3, t)) rfl rfl (rcv_of (hp_40 _ 0)) rfl c3 (Nat.le_refl _) rfl ?_
  exact w_ret rfl rfl q4

theorem b_X12_isSkip_0 {x0 : Int} {r1 : Int} {σ σ1 : SG} {t : KT} (h1 : -2147483648 ≤ x0 ∧ x0 < 2147483648) (c2 : Ca d 175 [aL (jZ x0), aL (jZ 1), aL (jZ 9)] (am_hp σ) t (.inl (some (aI (iZ r1))), am_hp σ1, t)) (h3 : r1 = 0 ∨ r1 = 1) (q4 : Q (.inl (some (aI (iZ r1))), am_hp σ1, t)) : Wp k_X12_isSkip d (0, [some (aI (iZ x0))], [], am_hp σ, t) Q := by
  refine w_s (c' := (1, [some (aI (iZ x0))], [aI (iZ x0)], am_hp σ, t)) rfl rfl ?_
  refine w_i2l rfl rfl h1 ?_
  refine w_psL rfl yc_1 rfl ?_
  refine w_psL rfl yc_9 rfl ?_
  refine w_c0 (c' := (9, [some (aI (iZ x0))], [aI (iZ r1)], am_hp σ1, t)) rfl rfl rfl rfl c2 (Nat.le_refl _) rfl ?_
  exact w_ret rfl (frt_b h3) q4

theorem e_X12_isSkip {x0 : Int} {h : AH} {t : KT} {d : Nat} {P : RS → Prop} (w : Wp k_X12_isSkip d (0, [some (aI (iZ x0))], [], h, t) P) : ∃ r, Ca (d + 1) 315 [aI (iZ x0)] h t r ∧ P r := ca_W rfl rfl rfl rfl w

theorem b_X12_setSkip_0 {x1 : Int} {r1 : Int} {r2 : Int} {σ σ1 σ2 : SG} {t : KT} (c1 : Ca d 315 [aI (iZ x1)] (am_hp σ) t (.inl (some (aI (iZ r1))), am_hp σ1, t)) (c2 : Ca d 178 [aR (some (40, 0, 0)), aI (iZ r1)] (am_hp σ1) t (.inl (some (aI (iZ r2))), am_hp σ2, t)) (h3 : -2147483648 ≤ r2 ∧ r2 < 2147483648) (w4 : r2 ≠ 0 → Wp k_X12_setSkip d (13, [some (aR (some (40, 0, 0))), some (aI (iZ x1))], [], am_hp σ2, t) Q) (w5 : r2 = 0 → Wp k_X12_setSkip d (11, [some (aR (some (40, 0, 0))), some (aI (iZ x1))], [], am_hp σ2, t) Q) : Wp k_X12_setSkip d (0, [some (aR (some (40, 0, 0))), some (aI (iZ x1))], [], am_hp σ, t) Q := by
  refine w_s (c' := (1, [some (aR (some (40, 0, 0))), some (aI (iZ x1))], [aR (some (40, 0, 0))], am_hp σ, t)) rfl rfl ?_
  refine w_s (c' := (2, [some (aR (some (40, 0, 0))), some (aI (iZ x1))], [aI (iZ x1), aR (some (40, 0, 0))], am_hp σ, t)) rfl rfl ?_
  refine w_c0 (c' := (5, [some (aR (some (40, 0, 0))), some (aI (iZ x1))], [aI (iZ r1), aR (some (40, 0, 0))], am_hp σ1, t)) rfl rfl rfl rfl c1 (Nat.le_refl _) rfl ?_
  refine w_c0 (c' := (8, [some (aR (some (40, 0, 0))), some (aI (iZ x1))], [aI (iZ r2)], am_hp σ2, t)) rfl rfl (rcv_of (hp_40 _ 0)) rfl c2 (Nat.le_refl _) rfl ?_
  exact w_ifne rfl h3 rfl w4 w5

theorem e_X12_setSkip {x1 : Int} {h : AH} {t : KT} {d : Nat} {P : RS → Prop} (w : Wp k_X12_setSkip d (0, [some (aR (some (40, 0, 0))), some (aI (iZ x1))], [], h, t) P) : ∃ r, Ca (d + 1) 316 [aR (some (40, 0, 0)), aI (iZ x1)] h t r ∧ P r := ca_W rfl rfl rfl rfl w

theorem b_X12_setSkip_11 {x1 : Int} {σ : SG} {t : KT} (q1 : Q (.inl (some (aI (iZ 0))), am_hp σ, t)) : Wp k_X12_setSkip d (11, [some (aR (some (40, 0, 0))), some (aI (iZ x1))], [], am_hp σ, t) Q := by
  refine w_psh rfl zc_0 rfl ?_
  exact w_ret rfl rfl q1

theorem b_X12_setSkip_13 {x1 : Int} {r2 : Int} {r3 : Int} {σ σ1 σ2 σ3 : SG} {t : KT} (c1 : Ca d 202 [aR (some (40, 0, 0))] (am_hp σ) t (.inl none, am_hp σ1, t)) (c2 : Ca d 313 [aR (some (40, 0, 0)), aI (iZ 2), aI (iZ x1)] (am_hp σ1) t (.inl (some (aI (iZ r2))), am_hp σ2, t)) (c3 : Ca d 205 [aR (some (40, 0, 0)), aI (iZ r2)] (am_hp σ2) t (.inl (some (aI (iZ r3))), am_hp σ3, t)) (q4 : Q (.inl (some (aI (iZ r3))), am_hp σ3, t)) : Wp k_X12_setSkip d (13, [some (aR (some (40, 0, 0))), some (aI (iZ x1))], [], am_hp σ, t) Q := by
  refine w_s (c' := (14, [some (aR (some (40, 0, 0))), some (aI (iZ x1))], [aR (some (40, 0, 0))], am_hp σ, t)) rfl rfl ?_
  refine w_c0 (c' := (17, [some (aR (some (40, 0, 0))), some (aI (iZ x1))], [], am_hp σ1, t)) rfl rfl (rcv_of (hp_40 _ 0)) rfl c1 (Nat.le_refl _) rfl ?_
  refine w_s (c' := (18, [some (aR (some (40, 0, 0))), some (aI (iZ x1))], [aR (some (40, 0, 0))], am_hp σ1, t)) rfl rfl ?_
  refine w_s (c' := (19, [some (aR (some (40, 0, 0))), some (aI (iZ x1))], [aR (some (40, 0, 0)), aR (some (40, 0, 0))], am_hp σ1, t)) rfl rfl ?_
  refine w_psh rfl zc_2 rfl ?_
  refine w_s (c' := (21, [some (aR (some (40, 0, 0))), some (aI (iZ x1))], [aI (iZ x1), aI (iZ 2), aR (some (40, 0, 0)), aR (some (40, 0, 0))], am_hp σ1, t)) rfl rfl ?_
  refine w_c0 (c' := (24, [some (aR (some (40, 0, 0))), some (aI (iZ x1))], [aI (iZ r2), aR (some (40, 0, 0))], am_hp σ2, t)) rfl rfl (rcv_of (hp_40 _ 0)) rfl c2 (Nat.le_refl _) rfl ?_
  refine w_c0 (c' := (27, [some (aR (some (40, 0, 0))), some (aI (iZ x1))], [aI (iZ r3)], am_hp σ3, t)) rfl rfl (rcv_of (hp_40 _ 0)) rfl c3 (Nat.le_refl _) rfl ?_
  exact w_ret rfl rfl q4

theorem b_X12_isPrice_0 {x0 : Int} {r1 : Int} {σ σ1 : SG} {t : KT} (h1 : -2147483648 ≤ x0 ∧ x0 < 2147483648) (c2 : Ca d 175 [aL (jZ x0), aL (jZ 0), aL (jZ 99)] (am_hp σ) t (.inl (some (aI (iZ r1))), am_hp σ1, t)) (h3 : r1 = 0 ∨ r1 = 1) (q4 : Q (.inl (some (aI (iZ r1))), am_hp σ1, t)) : Wp k_X12_isPrice d (0, [some (aI (iZ x0))], [], am_hp σ, t) Q := by
  refine w_s (c' := (1, [some (aI (iZ x0))], [aI (iZ x0)], am_hp σ, t)) rfl rfl ?_
  refine w_i2l rfl rfl h1 ?_
  refine w_psL rfl yc_0 rfl ?_
  refine w_psL rfl yc_99 rfl ?_
  refine w_c0 (c' := (9, [some (aI (iZ x0))], [aI (iZ r1)], am_hp σ1, t)) rfl rfl rfl rfl c2 (Nat.le_refl _) rfl ?_
  exact w_ret rfl (frt_b h3) q4

theorem e_X12_isPrice {x0 : Int} {h : AH} {t : KT} {d : Nat} {P : RS → Prop} (w : Wp k_X12_isPrice d (0, [some (aI (iZ x0))], [], h, t) P) : ∃ r, Ca (d + 1) 317 [aI (iZ x0)] h t r ∧ P r := ca_W rfl rfl rfl rfl w

theorem b_X12_setPrice_0 {x1 : Int} {x2 : Int} {r1 : Int} {r2 : Int} {r3 : Int} {σ σ1 σ2 σ3 : SG} {t : KT} (c1 : Ca d 223 [aI (iZ x1)] (am_hp σ) t (.inl (some (aI (iZ r1))), am_hp σ1, t)) (c2 : Ca d 317 [aI (iZ x2)] (am_hp σ1) t (.inl (some (aI (iZ r2))), am_hp σ2, t)) (c3 : Ca d 179 [aR (some (40, 0, 0)), aI (iZ r1), aI (iZ r2)] (am_hp σ2) t (.inl (some (aI (iZ r3))), am_hp σ3, t)) (h4 : -2147483648 ≤ r3 ∧ r3 < 2147483648) (w5 : r3 ≠ 0 → Wp k_X12_setPrice d (17, [some (aR (some (40, 0, 0))), some (aI (iZ x1)), some (aI (iZ x2))], [], am_hp σ3, t) Q) (w6 : r3 = 0 → Wp k_X12_setPrice d (15, [some (aR (some (40, 0, 0))), some (aI (iZ x1)), some (aI (iZ x2))], [], am_hp σ3, t) Q) : Wp k_X12_setPrice d (0, [some (aR (some (40, 0, 0))), some (aI (iZ x1)), some (aI (iZ x2))], [], am_hp σ, t) Q := by
  refine w_s (c' := (1, [some (aR (some (40, 0, 0))), some (aI (iZ x1)), some (aI (iZ x2))], [aR (some (40, 0, 0))], am_hp σ, t)) rfl rfl ?_
  refine w_s (c' := (2, [some (aR (some (40, 0, 0))), some (aI (iZ x1)), some (aI (iZ x2))], [aI (iZ x1), aR (some (40, 0, 0))], am_hp σ, t)) rfl rfl ?_
  refine w_c0 (c' := (5, [some (aR (some (40, 0, 0))), some (aI (iZ x1)), some (aI (iZ x2))], [aI (iZ r1), aR (some (40, 0, 0))], am_hp σ1, t)) rfl rfl rfl rfl c1 (Nat.le_refl _) rfl ?_
  refine w_s (c' := (6, [some (aR (some (40, 0, 0))), some (aI (iZ x1)), some (aI (iZ x2))], [aI (iZ x2), aI (iZ r1), aR (some (40, 0, 0))], am_hp σ1, t)) rfl rfl ?_
  refine w_c0 (c' := (9, [some (aR (some (40, 0, 0))), some (aI (iZ x1)), some (aI (iZ x2))], [aI (iZ r2), aI (iZ r1), aR (some (40, 0, 0))], am_hp σ2, t)) rfl rfl rfl rfl c2 (Nat.le_refl _) rfl ?_
  refine w_c0 (c' := (12, [some (aR (some (40, 0, 0))), some (aI (iZ x1)), some (aI (iZ x2))], [aI (iZ r3)], am_hp σ3, t)) rfl rfl (rcv_of (hp_40 _ 0)) rfl c3 (Nat.le_refl _) rfl ?_
  exact w_ifne rfl h4 rfl w5 w6

theorem e_X12_setPrice {x1 : Int} {x2 : Int} {h : AH} {t : KT} {d : Nat} {P : RS → Prop} (w : Wp k_X12_setPrice d (0, [some (aR (some (40, 0, 0))), some (aI (iZ x1)), some (aI (iZ x2))], [], h, t) P) : ∃ r, Ca (d + 1) 318 [aR (some (40, 0, 0)), aI (iZ x1), aI (iZ x2)] h t r ∧ P r := ca_W rfl rfl rfl rfl w

theorem b_X12_setPrice_15 {x1 : Int} {x2 : Int} {σ : SG} {t : KT} (q1 : Q (.inl (some (aI (iZ 0))), am_hp σ, t)) : Wp k_X12_setPrice d (15, [some (aR (some (40, 0, 0))), some (aI (iZ x1)), some (aI (iZ x2))], [], am_hp σ, t) Q := by
  refine w_psh rfl zc_0 rfl ?_
  exact w_ret rfl rfl q1

theorem b_X12_setPrice_17 {x1 : Int} {x2 : Int} {r2 : Int} {r3 : Int} {σ σ1 σ2 σ3 : SG} {t : KT} (c1 : Ca d 202 [aR (some (40, 0, 0))] (am_hp σ) t (.inl none, am_hp σ1, t)) (c2 : Ca d 313 [aR (some (40, 0, 0)), aI (iZ (3 + x1)), aI (iZ x2)] (am_hp σ1) t (.inl (some (aI (iZ r2))), am_hp σ2, t)) (c3 : Ca d 205 [aR (some (40, 0, 0)), aI (iZ r2)] (am_hp σ2) t (.inl (some (aI (iZ r3))), am_hp σ3, t)) (q4 : Q (.inl (some (aI (iZ r3))), am_hp σ3, t)) : Wp k_X12_setPrice d (17, [some (aR (some (40, 0, 0))), some (aI (iZ x1)), some (aI (iZ x2))], [], am_hp σ, t) Q := by
  refine w_s (c' := (18, [some (aR (some (40, 0, 0))), some (aI (iZ x1)), some (aI (iZ x2))], [aR (some (40, 0, 0))], am_hp σ, t)) rfl rfl ?_
  refine w_c0 (c' := (21, [some (aR (some (40, 0, 0))), some (aI (iZ x1)), some (aI (iZ x2))], [], am_hp σ1, t)) rfl rfl (rcv_of (hp_40 _ 0)) rfl c1 (Nat.le_refl _) rfl ?_
  refine w_s (c' := (22, [some (aR (some (40, 0, 0))), some (aI (iZ x1)), some (aI (iZ x2))], [aR (some (40, 0, 0))], am_hp σ1, t)) rfl rfl ?_
  refine w_s (c' := (23, [some (aR (some (40, 0, 0))), some (aI (iZ x1)), some (aI (iZ x2))], [aR (some (40, 0, 0)), aR (some (40, 0, 0))], am_hp σ1, t)) rfl rfl ?_
  refine w_psh rfl zc_3 rfl ?_
  refine w_s (c' := (25, [some (aR (some (40, 0, 0))), some (aI (iZ x1)), some (aI (iZ x2))], [aI (iZ x1), aI (iZ 3), aR (some (40, 0, 0)), aR (some (40, 0, 0))], am_hp σ1, t)) rfl rfl ?_
  refine w_iadd rfl rfl ?_
  refine w_s (c' := (27, [some (aR (some (40, 0, 0))), some (aI (iZ x1)), some (aI (iZ x2))], [aI (iZ x2), aI (iZ (3 + x1)), aR (some (40, 0, 0)), aR (some (40, 0, 0))], am_hp σ1, t)) rfl rfl ?_
  refine w_c0 (c' := (30, [some (aR (some (40, 0, 0))), some (aI (iZ x1)), some (aI (iZ x2))], [aI (iZ r2), aR (some (40, 0, 0))], am_hp σ2, t)) rfl rfl (rcv_of (hp_40 _ 0)) rfl c2 (Nat.le_refl _) rfl ?_
  refine w_c0 (c' := (33, [some (aR (some (40, 0, 0))), some (aI (iZ x1)), some (aI (iZ x2))], [aI (iZ r3)], am_hp σ3, t)) rfl rfl (rcv_of (hp_40 _ 0)) rfl c3 (Nat.le_refl _) rfl ?_
  exact w_ret rfl rfl q4

theorem b_X12_commandHere_0 {r1 : Int} {σ σ1 : SG} {t : KT} (c1 : Ca d 189 [aR (some (40, 0, 0)), aL (jZ 14519)] (am_hp σ) t (.inl (some (aI (iZ r1))), am_hp σ1, t)) (h2 : -2147483648 ≤ r1 ∧ r1 < 2147483648) (w3 : r1 = 0 → Wp k_X12_commandHere d (12, [some (aR (some (40, 0, 0)))], [], am_hp σ1, t) Q) (w4 : r1 ≠ 0 → Wp k_X12_commandHere d (10, [some (aR (some (40, 0, 0)))], [], am_hp σ1, t) Q) : Wp k_X12_commandHere d (0, [some (aR (some (40, 0, 0)))], [], am_hp σ, t) Q := by
  refine w_s (c' := (1, [some (aR (some (40, 0, 0)))], [aR (some (40, 0, 0))], am_hp σ, t)) rfl rfl ?_
  refine w_psL rfl yc_14519 rfl ?_
  refine w_c0 (c' := (7, [some (aR (some (40, 0, 0)))], [aI (iZ r1)], am_hp σ1, t)) rfl rfl (rcv_of (hp_40 _ 0)) rfl c1 (Nat.le_refl _) rfl ?_
  exact w_ifeq rfl h2 rfl w3 w4

theorem e_X12_commandHere {h : AH} {t : KT} {d : Nat} {P : RS → Prop} (w : Wp k_X12_commandHere d (0, [some (aR (some (40, 0, 0)))], [], h, t) P) : ∃ r, Ca (d + 1) 319 [aR (some (40, 0, 0))] h t r ∧ P r := ca_W rfl rfl rfl rfl w

theorem b_X12_commandHere_10 {σ : SG} {t : KT} (q1 : Q (.inl (some (aI (iZ 0))), am_hp σ, t)) : Wp k_X12_commandHere d (10, [some (aR (some (40, 0, 0)))], [], am_hp σ, t) Q := by
  refine w_psh rfl zc_0 rfl ?_
  exact w_ret rfl rfl q1

theorem b_X12_commandHere_12 {r1 : Int} {σ σ1 : SG} {t : KT} (c1 : Ca d 189 [aR (some (40, 0, 0)), aL (jZ 1156)] (am_hp σ) t (.inl (some (aI (iZ r1))), am_hp σ1, t)) (h2 : -2147483648 ≤ r1 ∧ r1 < 2147483648) (w3 : r1 = 0 → Wp k_X12_commandHere d (24, [some (aR (some (40, 0, 0)))], [], am_hp σ1, t) Q) (w4 : r1 ≠ 0 → Wp k_X12_commandHere d (22, [some (aR (some (40, 0, 0)))], [], am_hp σ1, t) Q) : Wp k_X12_commandHere d (12, [some (aR (some (40, 0, 0)))], [], am_hp σ, t) Q := by
  refine w_s (c' := (13, [some (aR (some (40, 0, 0)))], [aR (some (40, 0, 0))], am_hp σ, t)) rfl rfl ?_
  refine w_psL rfl yc_1156 rfl ?_
  refine w_c0 (c' := (19, [some (aR (some (40, 0, 0)))], [aI (iZ r1)], am_hp σ1, t)) rfl rfl (rcv_of (hp_40 _ 0)) rfl c1 (Nat.le_refl _) rfl ?_
  exact w_ifeq rfl h2 rfl w3 w4

theorem b_X12_commandHere_22 {σ : SG} {t : KT} (q1 : Q (.inl (some (aI (iZ 1))), am_hp σ, t)) : Wp k_X12_commandHere d (22, [some (aR (some (40, 0, 0)))], [], am_hp σ, t) Q := by
  refine w_psh rfl zc_1 rfl ?_
  exact w_ret rfl rfl q1

theorem b_X12_commandHere_24 {r1 : Int} {σ σ1 : SG} {t : KT} (c1 : Ca d 189 [aR (some (40, 0, 0)), aL (jZ 17076)] (am_hp σ) t (.inl (some (aI (iZ r1))), am_hp σ1, t)) (h2 : -2147483648 ≤ r1 ∧ r1 < 2147483648) (w3 : r1 = 0 → Wp k_X12_commandHere d (36, [some (aR (some (40, 0, 0)))], [], am_hp σ1, t) Q) (w4 : r1 ≠ 0 → Wp k_X12_commandHere d (34, [some (aR (some (40, 0, 0)))], [], am_hp σ1, t) Q) : Wp k_X12_commandHere d (24, [some (aR (some (40, 0, 0)))], [], am_hp σ, t) Q := by
  refine w_s (c' := (25, [some (aR (some (40, 0, 0)))], [aR (some (40, 0, 0))], am_hp σ, t)) rfl rfl ?_
  refine w_psL rfl yc_17076 rfl ?_
  refine w_c0 (c' := (31, [some (aR (some (40, 0, 0)))], [aI (iZ r1)], am_hp σ1, t)) rfl rfl (rcv_of (hp_40 _ 0)) rfl c1 (Nat.le_refl _) rfl ?_
  exact w_ifeq rfl h2 rfl w3 w4

theorem b_X12_commandHere_34 {σ : SG} {t : KT} (q1 : Q (.inl (some (aI (iZ 2))), am_hp σ, t)) : Wp k_X12_commandHere d (34, [some (aR (some (40, 0, 0)))], [], am_hp σ, t) Q := by
  refine w_psh rfl zc_2 rfl ?_
  exact w_ret rfl rfl q1

theorem b_X12_commandHere_36 {r1 : Int} {σ σ1 : SG} {t : KT} (c1 : Ca d 189 [aR (some (40, 0, 0)), aL (jZ 317298260)] (am_hp σ) t (.inl (some (aI (iZ r1))), am_hp σ1, t)) (h2 : -2147483648 ≤ r1 ∧ r1 < 2147483648) (w3 : r1 = 0 → Wp k_X12_commandHere d (48, [some (aR (some (40, 0, 0)))], [], am_hp σ1, t) Q) (w4 : r1 ≠ 0 → Wp k_X12_commandHere d (46, [some (aR (some (40, 0, 0)))], [], am_hp σ1, t) Q) : Wp k_X12_commandHere d (36, [some (aR (some (40, 0, 0)))], [], am_hp σ, t) Q := by
  refine w_s (c' := (37, [some (aR (some (40, 0, 0)))], [aR (some (40, 0, 0))], am_hp σ, t)) rfl rfl ?_
  refine w_psL rfl yc_317298260 rfl ?_
  refine w_c0 (c' := (43, [some (aR (some (40, 0, 0)))], [aI (iZ r1)], am_hp σ1, t)) rfl rfl (rcv_of (hp_40 _ 0)) rfl c1 (Nat.le_refl _) rfl ?_
  exact w_ifeq rfl h2 rfl w3 w4

theorem b_X12_commandHere_46 {σ : SG} {t : KT} (q1 : Q (.inl (some (aI (iZ 3))), am_hp σ, t)) : Wp k_X12_commandHere d (46, [some (aR (some (40, 0, 0)))], [], am_hp σ, t) Q := by
  refine w_psh rfl zc_3 rfl ?_
  exact w_ret rfl rfl q1

theorem b_X12_commandHere_48 {r1 : Int} {σ σ1 : SG} {t : KT} (c1 : Ca d 189 [aR (some (40, 0, 0)), aL (jZ 609664709)] (am_hp σ) t (.inl (some (aI (iZ r1))), am_hp σ1, t)) (h2 : -2147483648 ≤ r1 ∧ r1 < 2147483648) (w3 : r1 = 0 → Wp k_X12_commandHere d (60, [some (aR (some (40, 0, 0)))], [], am_hp σ1, t) Q) (w4 : r1 ≠ 0 → Wp k_X12_commandHere d (58, [some (aR (some (40, 0, 0)))], [], am_hp σ1, t) Q) : Wp k_X12_commandHere d (48, [some (aR (some (40, 0, 0)))], [], am_hp σ, t) Q := by
  refine w_s (c' := (49, [some (aR (some (40, 0, 0)))], [aR (some (40, 0, 0))], am_hp σ, t)) rfl rfl ?_
  refine w_psL rfl yc_609664709 rfl ?_
  refine w_c0 (c' := (55, [some (aR (some (40, 0, 0)))], [aI (iZ r1)], am_hp σ1, t)) rfl rfl (rcv_of (hp_40 _ 0)) rfl c1 (Nat.le_refl _) rfl ?_
  exact w_ifeq rfl h2 rfl w3 w4

theorem b_X12_commandHere_58 {σ : SG} {t : KT} (q1 : Q (.inl (some (aI (iZ 4))), am_hp σ, t)) : Wp k_X12_commandHere d (58, [some (aR (some (40, 0, 0)))], [], am_hp σ, t) Q := by
  refine w_psh rfl zc_4 rfl ?_
  exact w_ret rfl rfl q1

theorem b_X12_commandHere_60 {r1 : Int} {σ σ1 : SG} {t : KT} (c1 : Ca d 189 [aR (some (40, 0, 0)), aL (jZ 343342)] (am_hp σ) t (.inl (some (aI (iZ r1))), am_hp σ1, t)) (h2 : -2147483648 ≤ r1 ∧ r1 < 2147483648) (w3 : r1 = 0 → Wp k_X12_commandHere d (72, [some (aR (some (40, 0, 0)))], [], am_hp σ1, t) Q) (w4 : r1 ≠ 0 → Wp k_X12_commandHere d (70, [some (aR (some (40, 0, 0)))], [], am_hp σ1, t) Q) : Wp k_X12_commandHere d (60, [some (aR (some (40, 0, 0)))], [], am_hp σ, t) Q := by
  refine w_s (c' := (61, [some (aR (some (40, 0, 0)))], [aR (some (40, 0, 0))], am_hp σ, t)) rfl rfl ?_
  refine w_psL rfl yc_343342 rfl ?_
  refine w_c0 (c' := (67, [some (aR (some (40, 0, 0)))], [aI (iZ r1)], am_hp σ1, t)) rfl rfl (rcv_of (hp_40 _ 0)) rfl c1 (Nat.le_refl _) rfl ?_
  exact w_ifeq rfl h2 rfl w3 w4

theorem b_X12_commandHere_70 {σ : SG} {t : KT} (q1 : Q (.inl (some (aI (iZ 5))), am_hp σ, t)) : Wp k_X12_commandHere d (70, [some (aR (some (40, 0, 0)))], [], am_hp σ, t) Q := by
  refine w_psh rfl zc_5 rfl ?_
  exact w_ret rfl rfl q1

theorem b_X12_commandHere_72 {r1 : Int} {σ σ1 : SG} {t : KT} (c1 : Ca d 189 [aR (some (40, 0, 0)), aL (jZ 611717)] (am_hp σ) t (.inl (some (aI (iZ r1))), am_hp σ1, t)) (h2 : -2147483648 ≤ r1 ∧ r1 < 2147483648) (w3 : r1 = 0 → Wp k_X12_commandHere d (85, [some (aR (some (40, 0, 0)))], [], am_hp σ1, t) Q) (w4 : r1 ≠ 0 → Wp k_X12_commandHere d (82, [some (aR (some (40, 0, 0)))], [], am_hp σ1, t) Q) : Wp k_X12_commandHere d (72, [some (aR (some (40, 0, 0)))], [], am_hp σ, t) Q := by
  refine w_s (c' := (73, [some (aR (some (40, 0, 0)))], [aR (some (40, 0, 0))], am_hp σ, t)) rfl rfl ?_
  refine w_psL rfl yc_611717 rfl ?_
  refine w_c0 (c' := (79, [some (aR (some (40, 0, 0)))], [aI (iZ r1)], am_hp σ1, t)) rfl rfl (rcv_of (hp_40 _ 0)) rfl c1 (Nat.le_refl _) rfl ?_
  exact w_ifeq rfl h2 rfl w3 w4

theorem b_X12_commandHere_82 {σ : SG} {t : KT} (q1 : Q (.inl (some (aI (iZ 6))), am_hp σ, t)) : Wp k_X12_commandHere d (82, [some (aR (some (40, 0, 0)))], [], am_hp σ, t) Q := by
  refine w_psh rfl zc_6 rfl ?_
  exact w_ret rfl rfl q1

theorem b_X12_commandHere_85 {r1 : Int} {σ σ1 : SG} {t : KT} (c1 : Ca d 189 [aR (some (40, 0, 0)), aL (jZ 634160)] (am_hp σ) t (.inl (some (aI (iZ r1))), am_hp σ1, t)) (h2 : -2147483648 ≤ r1 ∧ r1 < 2147483648) (w3 : r1 = 0 → Wp k_X12_commandHere d (98, [some (aR (some (40, 0, 0)))], [], am_hp σ1, t) Q) (w4 : r1 ≠ 0 → Wp k_X12_commandHere d (95, [some (aR (some (40, 0, 0)))], [], am_hp σ1, t) Q) : Wp k_X12_commandHere d (85, [some (aR (some (40, 0, 0)))], [], am_hp σ, t) Q := by
  refine w_s (c' := (86, [some (aR (some (40, 0, 0)))], [aR (some (40, 0, 0))], am_hp σ, t)) rfl rfl ?_
  refine w_psL rfl yc_634160 rfl ?_
  refine w_c0 (c' := (92, [some (aR (some (40, 0, 0)))], [aI (iZ r1)], am_hp σ1, t)) rfl rfl (rcv_of (hp_40 _ 0)) rfl c1 (Nat.le_refl _) rfl ?_
  exact w_ifeq rfl h2 rfl w3 w4

theorem b_X12_commandHere_95 {σ : SG} {t : KT} (q1 : Q (.inl (some (aI (iZ 7))), am_hp σ, t)) : Wp k_X12_commandHere d (95, [some (aR (some (40, 0, 0)))], [], am_hp σ, t) Q := by
  refine w_psh rfl zc_7 rfl ?_
  exact w_ret rfl rfl q1

theorem b_X12_commandHere_98 {r1 : Int} {σ σ1 : SG} {t : KT} (c1 : Ca d 189 [aR (some (40, 0, 0)), aL (jZ 17376357)] (am_hp σ) t (.inl (some (aI (iZ r1))), am_hp σ1, t)) (h2 : -2147483648 ≤ r1 ∧ r1 < 2147483648) (w3 : r1 = 0 → Wp k_X12_commandHere d (111, [some (aR (some (40, 0, 0)))], [], am_hp σ1, t) Q) (w4 : r1 ≠ 0 → Wp k_X12_commandHere d (108, [some (aR (some (40, 0, 0)))], [], am_hp σ1, t) Q) : Wp k_X12_commandHere d (98, [some (aR (some (40, 0, 0)))], [], am_hp σ, t) Q := by
  refine w_s (c' := (99, [some (aR (some (40, 0, 0)))], [aR (some (40, 0, 0))], am_hp σ, t)) rfl rfl ?_
  refine w_psL rfl yc_17376357 rfl ?_
  refine w_c0 (c' := (105, [some (aR (some (40, 0, 0)))], [aI (iZ r1)], am_hp σ1, t)) rfl rfl (rcv_of (hp_40 _ 0)) rfl c1 (Nat.le_refl _) rfl ?_
  exact w_ifeq rfl h2 rfl w3 w4

theorem b_X12_commandHere_108 {σ : SG} {t : KT} (q1 : Q (.inl (some (aI (iZ 8))), am_hp σ, t)) : Wp k_X12_commandHere d (108, [some (aR (some (40, 0, 0)))], [], am_hp σ, t) Q := by
  refine w_psh rfl zc_8 rfl ?_
  exact w_ret rfl rfl q1

theorem b_X12_commandHere_111 {r1 : Int} {σ σ1 : SG} {t : KT} (c1 : Ca d 189 [aR (some (40, 0, 0)), aL (jZ 609752116)] (am_hp σ) t (.inl (some (aI (iZ r1))), am_hp σ1, t)) (h2 : -2147483648 ≤ r1 ∧ r1 < 2147483648) (w3 : r1 = 0 → Wp k_X12_commandHere d (126, [some (aR (some (40, 0, 0)))], [], am_hp σ1, t) Q) (w4 : r1 ≠ 0 → Wp k_X12_commandHere d (121, [some (aR (some (40, 0, 0)))], [], am_hp σ1, t) Q) : Wp k_X12_commandHere d (111, [some (aR (some (40, 0, 0)))], [], am_hp σ, t) Q := by
  refine w_s (c' := (112, [some (aR (some (40, 0, 0)))], [aR (some (40, 0, 0))], am_hp σ, t)) rfl rfl ?_
  refine w_psL rfl yc_609752116 rfl ?_
  refine w_c0 (c' := (118, [some (aR (some (40, 0, 0)))], [aI (iZ r1)], am_hp σ1, t)) rfl rfl (rcv_of (hp_40 _ 0)) rfl c1 (Nat.le_refl _) rfl ?_
  exact w_ifeq rfl h2 rfl w3 w4

theorem b_X12_commandHere_121 {σ : SG} {t : KT} (w1 : Wp k_X12_commandHere d (127, [some (aR (some (40, 0, 0)))], [aI (iZ 9)], am_hp σ, t) Q) : Wp k_X12_commandHere d (121, [some (aR (some (40, 0, 0)))], [], am_hp σ, t) Q := by
  refine w_psh rfl zc_9 rfl ?_
  refine w_s (c' := (127, [some (aR (some (40, 0, 0)))], [aI (iZ 9)], am_hp σ, t)) rfl rfl ?_
  exact w1

theorem b_X12_commandHere_126 {σ : SG} {t : KT} (w1 : Wp k_X12_commandHere d (127, [some (aR (some (40, 0, 0)))], [aI (iZ (-1))], am_hp σ, t) Q) : Wp k_X12_commandHere d (126, [some (aR (some (40, 0, 0)))], [], am_hp σ, t) Q := by
  refine w_psh rfl zc_m1 rfl ?_
  exact w1

theorem b_X12_commandHere_127 {xs0 : Int} {σ : SG} {t : KT} (q1 : Q (.inl (some (aI (iZ xs0))), am_hp σ, t)) : Wp k_X12_commandHere d (127, [some (aR (some (40, 0, 0)))], [aI (iZ xs0)], am_hp σ, t) Q := by
  exact w_ret rfl rfl q1

theorem b_X12_anyName_0 {r2 : Int} {σ σ1 σ2 : SG} {t : KT} (c1 : Ca d 242 [aR (some (40, 0, 0))] (am_hp σ) t (.inl none, am_hp σ1, t)) (c2 : Ca d 188 [aR (some (40, 0, 0))] (am_hp σ1) t (.inl (some (aI (iZ r2))), am_hp σ2, t)) (h3 : -2147483648 ≤ r2 ∧ r2 < 2147483648) (w4 : r2 = 0 → Wp k_X12_anyName d (20, [some (aR (some (40, 0, 0))), some (aL (jZ (σ1.2.1 (40, 0, 0) 12))), none], [], am_hp σ2, t) Q) (w5 : r2 ≠ 0 → Wp k_X12_anyName d (16, [some (aR (some (40, 0, 0))), some (aL (jZ (σ1.2.1 (40, 0, 0) 12))), none], [], am_hp σ2, t) Q) : Wp k_X12_anyName d (0, [some (aR (some (40, 0, 0))), none, none], [], am_hp σ, t) Q := by
  refine w_s (c' := (1, [some (aR (some (40, 0, 0))), none, none], [aR (some (40, 0, 0))], am_hp σ, t)) rfl rfl ?_
  refine w_c0 (c' := (4, [some (aR (some (40, 0, 0))), none, none], [], am_hp σ1, t)) rfl rfl (rcv_of (hp_40 _ 0)) rfl c1 (Nat.le_refl _) rfl ?_
  refine w_s (c' := (5, [some (aR (some (40, 0, 0))), none, none], [aR (some (40, 0, 0))], am_hp σ1, t)) rfl rfl ?_
  refine w_get rfl (hp_40 _ 0) rfl rfl ?_
  refine w_s (c' := (9, [some (aR (some (40, 0, 0))), some (aL (jZ (σ1.2.1 (40, 0, 0) 12))), none], [], am_hp σ1, t)) rfl rfl ?_
  refine w_s (c' := (10, [some (aR (some (40, 0, 0))), some (aL (jZ (σ1.2.1 (40, 0, 0) 12))), none], [aR (some (40, 0, 0))], am_hp σ1, t)) rfl rfl ?_
  refine w_c0 (c' := (13, [some (aR (some (40, 0, 0))), some (aL (jZ (σ1.2.1 (40, 0, 0) 12))), none], [aI (iZ r2)], am_hp σ2, t)) rfl rfl (rcv_of (hp_40 _ 0)) rfl c2 (Nat.le_refl _) rfl ?_
  exact w_ifeq rfl h3 rfl w4 w5

theorem e_X12_anyName {h : AH} {t : KT} {d : Nat} {P : RS → Prop} (w : Wp k_X12_anyName d (0, [some (aR (some (40, 0, 0))), none, none], [], h, t) P) : ∃ r, Ca (d + 1) 320 [aR (some (40, 0, 0))] h t r ∧ P r := ca_W rfl rfl rfl rfl w

theorem b_X12_anyName_16 {y1 : Int} {σ σ1 : SG} {t : KT} (c1 : Ca d 186 [aR (some (40, 0, 0))] (am_hp σ) t (.inl none, am_hp σ1, t)) (w2 : Wp k_X12_anyName d (20, [some (aR (some (40, 0, 0))), some (aL (jZ y1)), none], [], am_hp σ1, t) Q) : Wp k_X12_anyName d (16, [some (aR (some (40, 0, 0))), some (aL (jZ y1)), none], [], am_hp σ, t) Q := by
  refine w_s (c' := (17, [some (aR (some (40, 0, 0))), some (aL (jZ y1)), none], [aR (some (40, 0, 0))], am_hp σ, t)) rfl rfl ?_
  refine w_c0 (c' := (20, [some (aR (some (40, 0, 0))), some (aL (jZ y1)), none], [], am_hp σ1, t)) rfl rfl (rcv_of (hp_40 _ 0)) rfl c1 (Nat.le_refl _) rfl ?_
  exact w2

theorem b_X12_anyName_20 {y1 : Int} {σ : SG} {t : KT} (q1 : Q (.inl (some (aL (jZ y1))), am_hp σ, t)) : Wp k_X12_anyName d (20, [some (aR (some (40, 0, 0))), some (aL (jZ y1)), none], [], am_hp σ, t) Q := by
  refine w_s (c' := (21, [some (aR (some (40, 0, 0))), some (aL (jZ y1)), none], [aL (jZ y1)], am_hp σ, t)) rfl rfl ?_
  exact w_ret rfl rfl q1

theorem b_X12_readsRest_0 {x1 : Int} {x2 : Int} {σ : SG} {t : KT} (h1 : -2147483648 ≤ x2 ∧ x2 < 2147483648) (w2 : x2 ≠ 9 → Wp k_X12_readsRest d (26, [some (aR (some (40, 0, 0))), some (aI (iZ x1)), some (aI (iZ x2))], [], am_hp σ, t) Q) (w3 : x2 = 9 → Wp k_X12_readsRest d (6, [some (aR (some (40, 0, 0))), some (aI (iZ x1)), some (aI (iZ x2))], [], am_hp σ, t) Q) : Wp k_X12_readsRest d (0, [some (aR (some (40, 0, 0))), some (aI (iZ x1)), some (aI (iZ x2))], [], am_hp σ, t) Q := by
  refine w_s (c' := (1, [some (aR (some (40, 0, 0))), some (aI (iZ x1)), some (aI (iZ x2))], [aI (iZ x2)], am_hp σ, t)) rfl rfl ?_
  refine w_psh rfl zc_9 rfl ?_
  exact w_icne rfl h1 (by decide) rfl w2 w3

theorem e_X12_readsRest {x1 : Int} {x2 : Int} {h : AH} {t : KT} {d : Nat} {P : RS → Prop} (w : Wp k_X12_readsRest d (0, [some (aR (some (40, 0, 0))), some (aI (iZ x1)), some (aI (iZ x2))], [], h, t) P) : ∃ r, Ca (d + 1) 321 [aR (some (40, 0, 0)), aI (iZ x1), aI (iZ x2)] h t r ∧ P r := ca_W rfl rfl rfl rfl w

theorem b_X12_readsRest_6 {x1 : Int} {x2 : Int} {r1 : Int} {σ σ1 σ2 : SG} {t : KT} (c1 : Ca d 194 [aR (some (40, 0, 0)), aI (iZ 1), aI (iZ 20)] (am_hp σ) t (.inl (some (aI (iZ r1))), am_hp σ1, t)) (h2 : 0 ≤ x1 ∧ x1 < 60) (c3 : Ca d 191 [aR (some (40, 0, 0)), aI (iZ 40)] (am_hp ((sI σ1 (56, 0, 0) (up (σ1.1 (56, 0, 0)) x1.toNat r1)))) t (.inl none, am_hp σ2, t)) (q4 : Q (.inl none, am_hp σ2, t)) : Wp k_X12_readsRest d (6, [some (aR (some (40, 0, 0))), some (aI (iZ x1)), some (aI (iZ x2))], [], am_hp σ, t) Q := by
  refine w_s (c' := (7, [some (aR (some (40, 0, 0))), some (aI (iZ x1)), some (aI (iZ x2))], [aR (some (40, 0, 0))], am_hp σ, t)) rfl rfl ?_
  refine w_get rfl (hp_40 _ 0) rfl rfl ?_
  refine w_s (c' := (11, [some (aR (some (40, 0, 0))), some (aI (iZ x1)), some (aI (iZ x2))], [aI (iZ x1), aR (some (56, 0, 0))], am_hp σ, t)) rfl rfl ?_
  refine w_s (c' := (12, [some (aR (some (40, 0, 0))), some (aI (iZ x1)), some (aI (iZ x2))], [aR (some (40, 0, 0)), aI (iZ x1), aR (some (56, 0, 0))], am_hp σ, t)) rfl rfl ?_
  refine w_psh rfl zc_1 rfl ?_
  refine w_psh rfl zc_20 rfl ?_
  refine w_c0 (c' := (18, [some (aR (some (40, 0, 0))), some (aI (iZ x1)), some (aI (iZ x2))], [aI (iZ r1), aI (iZ x1), aR (some (56, 0, 0))], am_hp σ1, t)) rfl rfl (rcv_of (hp_40 _ 0)) rfl c1 (Nat.le_refl _) rfl ?_
  refine w_ias rfl (mk_56 _ 0 0) h2 rfl rfl rfl ?_
  refine w_s (c' := (20, [some (aR (some (40, 0, 0))), some (aI (iZ x1)), some (aI (iZ x2))], [aR (some (40, 0, 0))], am_hp ((sI σ1 (56, 0, 0) (up (σ1.1 (56, 0, 0)) x1.toNat r1))), t)) rfl rfl ?_
  refine w_psh rfl zc_40 rfl ?_
  refine w_c0 (c' := (25, [some (aR (some (40, 0, 0))), some (aI (iZ x1)), some (aI (iZ x2))], [], am_hp σ2, t)) rfl rfl (rcv_of (hp_40 _ 0)) rfl c3 (Nat.le_refl _) rfl ?_
  exact w_f rfl rfl q4

theorem b_X12_readsRest_26 {x1 : Int} {x2 : Int} {σ : SG} {t : KT} (h1 : -2147483648 ≤ x2 ∧ x2 < 2147483648) (w2 : 5 < x2 → Wp k_X12_readsRest d (41, [some (aR (some (40, 0, 0))), some (aI (iZ x1)), some (aI (iZ x2))], [], am_hp σ, t) Q) (w3 : x2 ≤ 5 → Wp k_X12_readsRest d (31, [some (aR (some (40, 0, 0))), some (aI (iZ x1)), some (aI (iZ x2))], [], am_hp σ, t) Q) : Wp k_X12_readsRest d (26, [some (aR (some (40, 0, 0))), some (aI (iZ x1)), some (aI (iZ x2))], [], am_hp σ, t) Q := by
  refine w_s (c' := (27, [some (aR (some (40, 0, 0))), some (aI (iZ x1)), some (aI (iZ x2))], [aI (iZ x2)], am_hp σ, t)) rfl rfl ?_
  refine w_psh rfl zc_5 rfl ?_
  exact w_icgt rfl h1 (by decide) rfl w2 w3

theorem b_X12_readsRest_31 {x1 : Int} {x2 : Int} {r1 : Int} {σ σ1 : SG} {t : KT} (c1 : Ca d 320 [aR (some (40, 0, 0))] (am_hp σ) t (.inl (some (aL (jZ r1))), am_hp σ1, t)) (h2 : 0 ≤ x1 ∧ x1 < 60) (w3 : Wp k_X12_readsRest d (41, [some (aR (some (40, 0, 0))), some (aI (iZ x1)), some (aI (iZ x2))], [], am_hp ((sJ σ1 (60, 0, 0) (up (σ1.2.1 (60, 0, 0)) x1.toNat r1))), t) Q) : Wp k_X12_readsRest d (31, [some (aR (some (40, 0, 0))), some (aI (iZ x1)), some (aI (iZ x2))], [], am_hp σ, t) Q := by
  refine w_s (c' := (32, [some (aR (some (40, 0, 0))), some (aI (iZ x1)), some (aI (iZ x2))], [aR (some (40, 0, 0))], am_hp σ, t)) rfl rfl ?_
  refine w_get rfl (hp_40 _ 0) rfl rfl ?_
  refine w_s (c' := (36, [some (aR (some (40, 0, 0))), some (aI (iZ x1)), some (aI (iZ x2))], [aI (iZ x1), aR (some (60, 0, 0))], am_hp σ, t)) rfl rfl ?_
  refine w_s (c' := (37, [some (aR (some (40, 0, 0))), some (aI (iZ x1)), some (aI (iZ x2))], [aR (some (40, 0, 0)), aI (iZ x1), aR (some (60, 0, 0))], am_hp σ, t)) rfl rfl ?_
  refine w_c0 (c' := (40, [some (aR (some (40, 0, 0))), some (aI (iZ x1)), some (aI (iZ x2))], [aL (jZ r1), aI (iZ x1), aR (some (60, 0, 0))], am_hp σ1, t)) rfl rfl (rcv_of (hp_40 _ 0)) rfl c1 (Nat.le_refl _) rfl ?_
  refine w_las rfl (mk_60 _ 0 0) h2 rfl rfl rfl ?_
  exact w3

theorem b_X12_readsRest_41 {x1 : Int} {x2 : Int} {σ : SG} {t : KT} (h1 : -2147483648 ≤ x2 ∧ x2 < 2147483648) (w2 : x2 ≠ 5 → Wp k_X12_readsRest d (56, [some (aR (some (40, 0, 0))), some (aI (iZ x1)), some (aI (iZ x2))], [], am_hp σ, t) Q) (w3 : x2 = 5 → Wp k_X12_readsRest d (46, [some (aR (some (40, 0, 0))), some (aI (iZ x1)), some (aI (iZ x2))], [], am_hp σ, t) Q) : Wp k_X12_readsRest d (41, [some (aR (some (40, 0, 0))), some (aI (iZ x1)), some (aI (iZ x2))], [], am_hp σ, t) Q := by
  refine w_s (c' := (42, [some (aR (some (40, 0, 0))), some (aI (iZ x1)), some (aI (iZ x2))], [aI (iZ x2)], am_hp σ, t)) rfl rfl ?_
  refine w_psh rfl zc_5 rfl ?_
  exact w_icne rfl h1 (by decide) rfl w2 w3

theorem b_X12_readsRest_46 {x1 : Int} {x2 : Int} {r1 : Int} {σ σ1 : SG} {t : KT} (c1 : Ca d 320 [aR (some (40, 0, 0))] (am_hp σ) t (.inl (some (aL (jZ r1))), am_hp σ1, t)) (h2 : 0 ≤ x1 ∧ x1 < 60) (w3 : Wp k_X12_readsRest d (56, [some (aR (some (40, 0, 0))), some (aI (iZ x1)), some (aI (iZ x2))], [], am_hp ((sJ σ1 (61, 0, 0) (up (σ1.2.1 (61, 0, 0)) x1.toNat r1))), t) Q) : Wp k_X12_readsRest d (46, [some (aR (some (40, 0, 0))), some (aI (iZ x1)), some (aI (iZ x2))], [], am_hp σ, t) Q := by
  refine w_s (c' := (47, [some (aR (some (40, 0, 0))), some (aI (iZ x1)), some (aI (iZ x2))], [aR (some (40, 0, 0))], am_hp σ, t)) rfl rfl ?_
  refine w_get rfl (hp_40 _ 0) rfl rfl ?_
  refine w_s (c' := (51, [some (aR (some (40, 0, 0))), some (aI (iZ x1)), some (aI (iZ x2))], [aI (iZ x1), aR (some (61, 0, 0))], am_hp σ, t)) rfl rfl ?_
  refine w_s (c' := (52, [some (aR (some (40, 0, 0))), some (aI (iZ x1)), some (aI (iZ x2))], [aR (some (40, 0, 0)), aI (iZ x1), aR (some (61, 0, 0))], am_hp σ, t)) rfl rfl ?_
  refine w_c0 (c' := (55, [some (aR (some (40, 0, 0))), some (aI (iZ x1)), some (aI (iZ x2))], [aL (jZ r1), aI (iZ x1), aR (some (61, 0, 0))], am_hp σ1, t)) rfl rfl (rcv_of (hp_40 _ 0)) rfl c1 (Nat.le_refl _) rfl ?_
  refine w_las rfl (mk_61 _ 0 0) h2 rfl rfl rfl ?_
  exact w3

theorem b_X12_readsRest_56 {x1 : Int} {x2 : Int} {σ : SG} {t : KT} (h1 : -2147483648 ≤ x2 ∧ x2 < 2147483648) (w2 : x2 = 0 → Wp k_X12_readsRest d (79, [some (aR (some (40, 0, 0))), some (aI (iZ x1)), some (aI (iZ x2))], [], am_hp σ, t) Q) (w3 : x2 ≠ 0 → Wp k_X12_readsRest d (60, [some (aR (some (40, 0, 0))), some (aI (iZ x1)), some (aI (iZ x2))], [], am_hp σ, t) Q) : Wp k_X12_readsRest d (56, [some (aR (some (40, 0, 0))), some (aI (iZ x1)), some (aI (iZ x2))], [], am_hp σ, t) Q := by
  refine w_s (c' := (57, [some (aR (some (40, 0, 0))), some (aI (iZ x1)), some (aI (iZ x2))], [aI (iZ x2)], am_hp σ, t)) rfl rfl ?_
  exact w_ifeq rfl h1 rfl w2 w3

theorem b_X12_readsRest_60 {x1 : Int} {x2 : Int} {σ : SG} {t : KT} (h1 : -2147483648 ≤ x2 ∧ x2 < 2147483648) (w2 : x2 = 5 → Wp k_X12_readsRest d (79, [some (aR (some (40, 0, 0))), some (aI (iZ x1)), some (aI (iZ x2))], [], am_hp σ, t) Q) (w3 : x2 ≠ 5 → Wp k_X12_readsRest d (65, [some (aR (some (40, 0, 0))), some (aI (iZ x1)), some (aI (iZ x2))], [], am_hp σ, t) Q) : Wp k_X12_readsRest d (60, [some (aR (some (40, 0, 0))), some (aI (iZ x1)), some (aI (iZ x2))], [], am_hp σ, t) Q := by
  refine w_s (c' := (61, [some (aR (some (40, 0, 0))), some (aI (iZ x1)), some (aI (iZ x2))], [aI (iZ x2)], am_hp σ, t)) rfl rfl ?_
  refine w_psh rfl zc_5 rfl ?_
  exact w_iceq rfl h1 (by decide) rfl w2 w3

theorem b_X12_readsRest_65 {x1 : Int} {x2 : Int} {r1 : Int} {σ σ1 : SG} {t : KT} (c1 : Ca d 194 [aR (some (40, 0, 0)), aI (iZ 0), aI (iZ 999999999)] (am_hp σ) t (.inl (some (aI (iZ r1))), am_hp σ1, t)) (h2 : 0 ≤ x1 ∧ x1 < 60) (w3 : Wp k_X12_readsRest d (79, [some (aR (some (40, 0, 0))), some (aI (iZ x1)), some (aI (iZ x2))], [], am_hp ((sI σ1 (56, 0, 0) (up (σ1.1 (56, 0, 0)) x1.toNat r1))), t) Q) : Wp k_X12_readsRest d (65, [some (aR (some (40, 0, 0))), some (aI (iZ x1)), some (aI (iZ x2))], [], am_hp σ, t) Q := by
  refine w_s (c' := (66, [some (aR (some (40, 0, 0))), some (aI (iZ x1)), some (aI (iZ x2))], [aR (some (40, 0, 0))], am_hp σ, t)) rfl rfl ?_
  refine w_get rfl (hp_40 _ 0) rfl rfl ?_
  refine w_s (c' := (70, [some (aR (some (40, 0, 0))), some (aI (iZ x1)), some (aI (iZ x2))], [aI (iZ x1), aR (some (56, 0, 0))], am_hp σ, t)) rfl rfl ?_
  refine w_s (c' := (71, [some (aR (some (40, 0, 0))), some (aI (iZ x1)), some (aI (iZ x2))], [aR (some (40, 0, 0)), aI (iZ x1), aR (some (56, 0, 0))], am_hp σ, t)) rfl rfl ?_
  refine w_psh rfl zc_0 rfl ?_
  refine w_psh rfl zc_999999999 rfl ?_
  refine w_c0 (c' := (78, [some (aR (some (40, 0, 0))), some (aI (iZ x1)), some (aI (iZ x2))], [aI (iZ r1), aI (iZ x1), aR (some (56, 0, 0))], am_hp σ1, t)) rfl rfl (rcv_of (hp_40 _ 0)) rfl c1 (Nat.le_refl _) rfl ?_
  refine w_ias rfl (mk_56 _ 0 0) h2 rfl rfl rfl ?_
  exact w3

theorem b_X12_readsRest_79 {x1 : Int} {x2 : Int} {σ : SG} {t : KT} (h1 : -2147483648 ≤ x2 ∧ x2 < 2147483648) (w2 : x2 = 2 → Wp k_X12_readsRest d (95, [some (aR (some (40, 0, 0))), some (aI (iZ x1)), some (aI (iZ x2))], [], am_hp σ, t) Q) (w3 : x2 ≠ 2 → Wp k_X12_readsRest d (84, [some (aR (some (40, 0, 0))), some (aI (iZ x1)), some (aI (iZ x2))], [], am_hp σ, t) Q) : Wp k_X12_readsRest d (79, [some (aR (some (40, 0, 0))), some (aI (iZ x1)), some (aI (iZ x2))], [], am_hp σ, t) Q := by
  refine w_s (c' := (80, [some (aR (some (40, 0, 0))), some (aI (iZ x1)), some (aI (iZ x2))], [aI (iZ x2)], am_hp σ, t)) rfl rfl ?_
  refine w_psh rfl zc_2 rfl ?_
  exact w_iceq rfl h1 (by decide) rfl w2 w3

theorem b_X12_readsRest_84 {x1 : Int} {x2 : Int} {σ : SG} {t : KT} (h1 : -2147483648 ≤ x2 ∧ x2 < 2147483648) (w2 : x2 = 3 → Wp k_X12_readsRest d (95, [some (aR (some (40, 0, 0))), some (aI (iZ x1)), some (aI (iZ x2))], [], am_hp σ, t) Q) (w3 : x2 ≠ 3 → Wp k_X12_readsRest d (89, [some (aR (some (40, 0, 0))), some (aI (iZ x1)), some (aI (iZ x2))], [], am_hp σ, t) Q) : Wp k_X12_readsRest d (84, [some (aR (some (40, 0, 0))), some (aI (iZ x1)), some (aI (iZ x2))], [], am_hp σ, t) Q := by
  refine w_s (c' := (85, [some (aR (some (40, 0, 0))), some (aI (iZ x1)), some (aI (iZ x2))], [aI (iZ x2)], am_hp σ, t)) rfl rfl ?_
  refine w_psh rfl zc_3 rfl ?_
  exact w_iceq rfl h1 (by decide) rfl w2 w3

theorem b_X12_readsRest_89 {x1 : Int} {x2 : Int} {σ : SG} {t : KT} (h1 : -2147483648 ≤ x2 ∧ x2 < 2147483648) (w2 : x2 ≠ 8 → Wp k_X12_readsRest d (109, [some (aR (some (40, 0, 0))), some (aI (iZ x1)), some (aI (iZ x2))], [], am_hp σ, t) Q) (w3 : x2 = 8 → Wp k_X12_readsRest d (95, [some (aR (some (40, 0, 0))), some (aI (iZ x1)), some (aI (iZ x2))], [], am_hp σ, t) Q) : Wp k_X12_readsRest d (89, [some (aR (some (40, 0, 0))), some (aI (iZ x1)), some (aI (iZ x2))], [], am_hp σ, t) Q := by
  refine w_s (c' := (90, [some (aR (some (40, 0, 0))), some (aI (iZ x1)), some (aI (iZ x2))], [aI (iZ x2)], am_hp σ, t)) rfl rfl ?_
  refine w_psh rfl zc_8 rfl ?_
  exact w_icne rfl h1 (by decide) rfl w2 w3

theorem b_X12_readsRest_95 {x1 : Int} {x2 : Int} {r1 : Int} {σ σ1 : SG} {t : KT} (c1 : Ca d 194 [aR (some (40, 0, 0)), aI (iZ 0), aI (iZ 999999999)] (am_hp σ) t (.inl (some (aI (iZ r1))), am_hp σ1, t)) (h2 : 0 ≤ x1 ∧ x1 < 60) (w3 : Wp k_X12_readsRest d (109, [some (aR (some (40, 0, 0))), some (aI (iZ x1)), some (aI (iZ x2))], [], am_hp ((sI σ1 (57, 0, 0) (up (σ1.1 (57, 0, 0)) x1.toNat r1))), t) Q) : Wp k_X12_readsRest d (95, [some (aR (some (40, 0, 0))), some (aI (iZ x1)), some (aI (iZ x2))], [], am_hp σ, t) Q := by
  refine w_s (c' := (96, [some (aR (some (40, 0, 0))), some (aI (iZ x1)), some (aI (iZ x2))], [aR (some (40, 0, 0))], am_hp σ, t)) rfl rfl ?_
  refine w_get rfl (hp_40 _ 0) rfl rfl ?_
  refine w_s (c' := (100, [some (aR (some (40, 0, 0))), some (aI (iZ x1)), some (aI (iZ x2))], [aI (iZ x1), aR (some (57, 0, 0))], am_hp σ, t)) rfl rfl ?_
  refine w_s (c' := (101, [some (aR (some (40, 0, 0))), some (aI (iZ x1)), some (aI (iZ x2))], [aR (some (40, 0, 0)), aI (iZ x1), aR (some (57, 0, 0))], am_hp σ, t)) rfl rfl ?_
  refine w_psh rfl zc_0 rfl ?_
  refine w_psh rfl zc_999999999 rfl ?_
  refine w_c0 (c' := (108, [some (aR (some (40, 0, 0))), some (aI (iZ x1)), some (aI (iZ x2))], [aI (iZ r1), aI (iZ x1), aR (some (57, 0, 0))], am_hp σ1, t)) rfl rfl (rcv_of (hp_40 _ 0)) rfl c1 (Nat.le_refl _) rfl ?_
  refine w_ias rfl (mk_57 _ 0 0) h2 rfl rfl rfl ?_
  exact w3

theorem b_X12_readsRest_109 {x1 : Int} {x2 : Int} {σ : SG} {t : KT} (q1 : Q (.inl none, am_hp σ, t)) : Wp k_X12_readsRest d (109, [some (aR (some (40, 0, 0))), some (aI (iZ x1)), some (aI (iZ x2))], [], am_hp σ, t) Q := by
  exact w_f rfl rfl q1

theorem b_X12_command_0 {r1 : Int} {σ σ1 : SG} {t : KT} (c1 : Ca d 319 [aR (some (40, 0, 0))] (am_hp σ) t (.inl (some (aI (iZ r1))), am_hp σ1, t)) (h2 : -2147483648 ≤ r1 ∧ r1 < 2147483648) (w3 : r1 ≠ -1 → Wp k_X12_command d (15, [some (aR (some (40, 0, 0))), some (aI (iZ r1)), none], [], am_hp σ1, t) Q) (w4 : r1 = -1 → Wp k_X12_command d (10, [some (aR (some (40, 0, 0))), some (aI (iZ r1)), none], [], am_hp σ1, t) Q) : Wp k_X12_command d (0, [some (aR (some (40, 0, 0))), none, none], [], am_hp σ, t) Q := by
  refine w_s (c' := (1, [some (aR (some (40, 0, 0))), none, none], [aR (some (40, 0, 0))], am_hp σ, t)) rfl rfl ?_
  refine w_c0 (c' := (4, [some (aR (some (40, 0, 0))), none, none], [aI (iZ r1)], am_hp σ1, t)) rfl rfl (rcv_of (hp_40 _ 0)) rfl c1 (Nat.le_refl _) rfl ?_
  refine w_s (c' := (5, [some (aR (some (40, 0, 0))), some (aI (iZ r1)), none], [], am_hp σ1, t)) rfl rfl ?_
  refine w_s (c' := (6, [some (aR (some (40, 0, 0))), some (aI (iZ r1)), none], [aI (iZ r1)], am_hp σ1, t)) rfl rfl ?_
  refine w_psh rfl zc_m1 rfl ?_
  exact w_icne rfl h2 (by decide) rfl w3 w4

theorem e_X12_command {h : AH} {t : KT} {d : Nat} {P : RS → Prop} (w : Wp k_X12_command d (0, [some (aR (some (40, 0, 0))), none, none], [], h, t) P) : ∃ r, Ca (d + 1) 322 [aR (some (40, 0, 0))] h t r ∧ P r := ca_W rfl rfl rfl rfl w

theorem b_X12_command_10 {x1 : Int} {σ σ1 : SG} {t : KT} (c1 : Ca d 187 [aR (some (40, 0, 0)), aI (iZ 1)] (am_hp σ) t (.inl none, am_hp σ1, t)) (w2 : Wp k_X12_command d (15, [some (aR (some (40, 0, 0))), some (aI (iZ x1)), none], [], am_hp σ1, t) Q) : Wp k_X12_command d (10, [some (aR (some (40, 0, 0))), some (aI (iZ x1)), none], [], am_hp σ, t) Q := by
  refine w_s (c' := (11, [some (aR (some (40, 0, 0))), some (aI (iZ x1)), none], [aR (some (40, 0, 0))], am_hp σ, t)) rfl rfl ?_
  refine w_psh rfl zc_1 rfl ?_
  refine w_c0 (c' := (15, [some (aR (some (40, 0, 0))), some (aI (iZ x1)), none], [], am_hp σ1, t)) rfl rfl (rcv_of (hp_40 _ 0)) rfl c1 (Nat.le_refl _) rfl ?_
  exact w2

theorem b_X12_command_15 {x1 : Int} {σ : SG} {t : KT} (h1 : -2147483648 ≤ x1 ∧ x1 < 2147483648) (w2 : x1 ≠ 9 → Wp k_X12_command d (34, [some (aR (some (40, 0, 0))), some (aI (iZ x1)), none], [], am_hp σ, t) Q) (w3 : x1 = 9 → Wp k_X12_command d (21, [some (aR (some (40, 0, 0))), some (aI (iZ x1)), none], [], am_hp σ, t) Q) : Wp k_X12_command d (15, [some (aR (some (40, 0, 0))), some (aI (iZ x1)), none], [], am_hp σ, t) Q := by
  refine w_s (c' := (16, [some (aR (some (40, 0, 0))), some (aI (iZ x1)), none], [aI (iZ x1)], am_hp σ, t)) rfl rfl ?_
  refine w_psh rfl zc_9 rfl ?_
  exact w_icne rfl h1 (by decide) rfl w2 w3

theorem b_X12_command_21 {x1 : Int} {σ : SG} {t : KT} (h1 : -2147483648 ≤ σ.1 (40, 0, 0) 45 ∧ σ.1 (40, 0, 0) 45 < 2147483648) (w2 : σ.1 (40, 0, 0) 45 ≠ 2 → Wp k_X12_command d (34, [some (aR (some (40, 0, 0))), some (aI (iZ x1)), none], [], am_hp σ, t) Q) (w3 : σ.1 (40, 0, 0) 45 = 2 → Wp k_X12_command d (29, [some (aR (some (40, 0, 0))), some (aI (iZ x1)), none], [], am_hp σ, t) Q) : Wp k_X12_command d (21, [some (aR (some (40, 0, 0))), some (aI (iZ x1)), none], [], am_hp σ, t) Q := by
  refine w_s (c' := (22, [some (aR (some (40, 0, 0))), some (aI (iZ x1)), none], [aR (some (40, 0, 0))], am_hp σ, t)) rfl rfl ?_
  refine w_get rfl (hp_40 _ 0) rfl rfl ?_
  refine w_psh rfl zc_2 rfl ?_
  exact w_icne rfl h1 (by decide) rfl w2 w3

theorem b_X12_command_29 {x1 : Int} {σ σ1 : SG} {t : KT} (c1 : Ca d 187 [aR (some (40, 0, 0)), aI (iZ 3)] (am_hp σ) t (.inl none, am_hp σ1, t)) (w2 : Wp k_X12_command d (34, [some (aR (some (40, 0, 0))), some (aI (iZ x1)), none], [], am_hp σ1, t) Q) : Wp k_X12_command d (29, [some (aR (some (40, 0, 0))), some (aI (iZ x1)), none], [], am_hp σ, t) Q := by
  refine w_s (c' := (30, [some (aR (some (40, 0, 0))), some (aI (iZ x1)), none], [aR (some (40, 0, 0))], am_hp σ, t)) rfl rfl ?_
  refine w_psh rfl zc_3 rfl ?_
  refine w_c0 (c' := (34, [some (aR (some (40, 0, 0))), some (aI (iZ x1)), none], [], am_hp σ1, t)) rfl rfl (rcv_of (hp_40 _ 0)) rfl c1 (Nat.le_refl _) rfl ?_
  exact w2

theorem b_X12_command_34 {x1 : Int} {σ : SG} {t : KT} (h1 : -2147483648 ≤ σ.1 (40, 0, 0) 44 ∧ σ.1 (40, 0, 0) 44 < 2147483648) (w2 : σ.1 (40, 0, 0) 44 ≠ 30 → Wp k_X12_command d (48, [some (aR (some (40, 0, 0))), some (aI (iZ x1)), none], [], am_hp σ, t) Q) (w3 : σ.1 (40, 0, 0) 44 = 30 → Wp k_X12_command d (43, [some (aR (some (40, 0, 0))), some (aI (iZ x1)), none], [], am_hp σ, t) Q) : Wp k_X12_command d (34, [some (aR (some (40, 0, 0))), some (aI (iZ x1)), none], [], am_hp σ, t) Q := by
  refine w_s (c' := (35, [some (aR (some (40, 0, 0))), some (aI (iZ x1)), none], [aR (some (40, 0, 0))], am_hp σ, t)) rfl rfl ?_
  refine w_get rfl (hp_40 _ 0) rfl rfl ?_
  refine w_psh rfl zc_30 rfl ?_
  exact w_icne rfl h1 (by decide) rfl w2 w3

theorem b_X12_command_43 {x1 : Int} {σ σ1 : SG} {t : KT} (c1 : Ca d 187 [aR (some (40, 0, 0)), aI (iZ 5)] (am_hp σ) t (.inl none, am_hp σ1, t)) (w2 : Wp k_X12_command d (48, [some (aR (some (40, 0, 0))), some (aI (iZ x1)), none], [], am_hp σ1, t) Q) : Wp k_X12_command d (43, [some (aR (some (40, 0, 0))), some (aI (iZ x1)), none], [], am_hp σ, t) Q := by
  refine w_s (c' := (44, [some (aR (some (40, 0, 0))), some (aI (iZ x1)), none], [aR (some (40, 0, 0))], am_hp σ, t)) rfl rfl ?_
  refine w_psh rfl zc_5 rfl ?_
  refine w_c0 (c' := (48, [some (aR (some (40, 0, 0))), some (aI (iZ x1)), none], [], am_hp σ1, t)) rfl rfl (rcv_of (hp_40 _ 0)) rfl c1 (Nat.le_refl _) rfl ?_
  exact w2

theorem b_X12_command_48 {x1 : Int} {r1 : Int} {σ σ1 : SG} {t : KT} (c1 : Ca d 188 [aR (some (40, 0, 0))] (am_hp σ) t (.inl (some (aI (iZ r1))), am_hp σ1, t)) (h2 : -2147483648 ≤ r1 ∧ r1 < 2147483648) (w3 : r1 ≠ 0 → Wp k_X12_command d (56, [some (aR (some (40, 0, 0))), some (aI (iZ x1)), none], [], am_hp σ1, t) Q) (w4 : r1 = 0 → Wp k_X12_command d (55, [some (aR (some (40, 0, 0))), some (aI (iZ x1)), none], [], am_hp σ1, t) Q) : Wp k_X12_command d (48, [some (aR (some (40, 0, 0))), some (aI (iZ x1)), none], [], am_hp σ, t) Q := by
  refine w_s (c' := (49, [some (aR (some (40, 0, 0))), some (aI (iZ x1)), none], [aR (some (40, 0, 0))], am_hp σ, t)) rfl rfl ?_
  refine w_c0 (c' := (52, [some (aR (some (40, 0, 0))), some (aI (iZ x1)), none], [aI (iZ r1)], am_hp σ1, t)) rfl rfl (rcv_of (hp_40 _ 0)) rfl c1 (Nat.le_refl _) rfl ?_
  exact w_ifne rfl h2 rfl w3 w4

theorem b_X12_command_55 {x1 : Int} {σ : SG} {t : KT} (q1 : Q (.inl none, am_hp σ, t)) : Wp k_X12_command d (55, [some (aR (some (40, 0, 0))), some (aI (iZ x1)), none], [], am_hp σ, t) Q := by
  exact w_f rfl rfl q1

theorem b_X12_command_56 {x1 : Int} {r3 : Int} {σ σ1 σ2 σ3 : SG} {t : KT} (c1 : Ca d 186 [aR (some (40, 0, 0))] (am_hp ((sI σ (40, 0, 0) (up (σ.1 (40, 0, 0)) 44 ((σ.1 (40, 0, 0) 44) + 1))))) t (.inl none, am_hp σ1, t)) (h2 : 0 ≤ σ1.1 (40, 0, 0) 43 ∧ σ1.1 (40, 0, 0) 43 < 60) (c3 : Ca d 321 [aR (some (40, 0, 0)), aI (iZ (σ1.1 (40, 0, 0) 43)), aI (iZ x1)] (am_hp ((sI σ1 (55, 0, 0) (up (σ1.1 (55, 0, 0)) (σ1.1 (40, 0, 0) 43).toNat x1)))) t (.inl none, am_hp σ2, t)) (c4 : Ca d 188 [aR (some (40, 0, 0))] (am_hp σ2) t (.inl (some (aI (iZ r3))), am_hp σ3, t)) (h5 : -2147483648 ≤ r3 ∧ r3 < 2147483648) (w6 : r3 ≠ 0 → Wp k_X12_command d (96, [some (aR (some (40, 0, 0))), some (aI (iZ x1)), some (aI (iZ (σ1.1 (40, 0, 0) 43)))], [], am_hp σ3, t) Q) (w7 : r3 = 0 → Wp k_X12_command d (95, [some (aR (some (40, 0, 0))), some (aI (iZ x1)), some (aI (iZ (σ1.1 (40, 0, 0) 43)))], [], am_hp σ3, t) Q) : Wp k_X12_command d (56, [some (aR (some (40, 0, 0))), some (aI (iZ x1)), none], [], am_hp σ, t) Q := by
  refine w_s (c' := (57, [some (aR (some (40, 0, 0))), some (aI (iZ x1)), none], [aR (some (40, 0, 0))], am_hp σ, t)) rfl rfl ?_
  refine w_s (c' := (58, [some (aR (some (40, 0, 0))), some (aI (iZ x1)), none], [aR (some (40, 0, 0)), aR (some (40, 0, 0))], am_hp σ, t)) rfl rfl ?_
  refine w_get rfl (hp_40 _ 0) rfl rfl ?_
  refine w_psh rfl zc_1 rfl ?_
  refine w_iadd rfl rfl ?_
  refine w_putI rfl (hp_40 _ 0) rfl rfl rfl ?_
  refine w_s (c' := (67, [some (aR (some (40, 0, 0))), some (aI (iZ x1)), none], [aR (some (40, 0, 0))], am_hp ((sI σ (40, 0, 0) (up (σ.1 (40, 0, 0)) 44 ((σ.1 (40, 0, 0) 44) + 1)))), t)) rfl rfl ?_
  refine w_c0 (c' := (70, [some (aR (some (40, 0, 0))), some (aI (iZ x1)), none], [], am_hp σ1, t)) rfl rfl (rcv_of (hp_40 _ 0)) rfl c1 (Nat.le_refl _) rfl ?_
  refine w_s (c' := (71, [some (aR (some (40, 0, 0))), some (aI (iZ x1)), none], [aR (some (40, 0, 0))], am_hp σ1, t)) rfl rfl ?_
  refine w_get rfl (hp_40 _ 0) rfl rfl ?_
  refine w_s (c' := (75, [some (aR (some (40, 0, 0))), some (aI (iZ x1)), some (aI (iZ (σ1.1 (40, 0, 0) 43)))], [], am_hp σ1, t)) rfl rfl ?_
  refine w_s (c' := (76, [some (aR (some (40, 0, 0))), some (aI (iZ x1)), some (aI (iZ (σ1.1 (40, 0, 0) 43)))], [aR (some (40, 0, 0))], am_hp σ1, t)) rfl rfl ?_
  refine w_get rfl (hp_40 _ 0) rfl rfl ?_
  refine w_s (c' := (80, [some (aR (some (40, 0, 0))), some (aI (iZ x1)), some (aI (iZ (σ1.1 (40, 0, 0) 43)))], [aI (iZ (σ1.1 (40, 0, 0) 43)), aR (some (55, 0, 0))], am_hp σ1, t)) rfl rfl ?_
  refine w_s (c' := (81, [some (aR (some (40, 0, 0))), some (aI (iZ x1)), some (aI (iZ (σ1.1 (40, 0, 0) 43)))], [aI (iZ x1), aI (iZ (σ1.1 (40, 0, 0) 43)), aR (some (55, 0, 0))], am_hp σ1, t)) rfl rfl ?_
  refine w_ias rfl (mk_55 _ 0 0) h2 rfl rfl rfl ?_
  refine w_s (c' := (83, [some (aR (some (40, 0, 0))), some (aI (iZ x1)), some (aI (iZ (σ1.1 (40, 0, 0) 43)))], [aR (some (40, 0, 0))], am_hp ((sI σ1 (55, 0, 0) (up (σ1.1 (55, 0, 0)) (σ1.1 (40, 0, 0) 43).toNat x1))), t)) rfl rfl ?_
  refine w_s (c' := (84, [some (aR (some (40, 0, 0))), some (aI (iZ x1)), some (aI (iZ (σ1.1 (40, 0, 0) 43)))], [aI (iZ (σ1.1 (40, 0, 0) 43)), aR (some (40, 0, 0))], am_hp ((sI σ1 (55, 0, 0) (up (σ1.1 (55, 0, 0)) (σ1.1 (40, 0, 0) 43).toNat x1))), t)) rfl rfl ?_
  refine w_s (c' := (85, [some (aR (some (40, 0, 0))), some (aI (iZ x1)), some (aI (iZ (σ1.1 (40, 0, 0) 43)))], [aI (iZ x1), aI (iZ (σ1.1 (40, 0, 0) 43)), aR (some (40, 0, 0))], am_hp ((sI σ1 (55, 0, 0) (up (σ1.1 (55, 0, 0)) (σ1.1 (40, 0, 0) 43).toNat x1))), t)) rfl rfl ?_
  refine w_c0 (c' := (88, [some (aR (some (40, 0, 0))), some (aI (iZ x1)), some (aI (iZ (σ1.1 (40, 0, 0) 43)))], [], am_hp σ2, t)) rfl rfl (rcv_of (hp_40 _ 0)) rfl c3 (Nat.le_refl _) rfl ?_
  refine w_s (c' := (89, [some (aR (some (40, 0, 0))), some (aI (iZ x1)), some (aI (iZ (σ1.1 (40, 0, 0) 43)))], [aR (some (40, 0, 0))], am_hp σ2, t)) rfl rfl ?_
  refine w_c0 (c' := (92, [some (aR (some (40, 0, 0))), some (aI (iZ x1)), some (aI (iZ (σ1.1 (40, 0, 0) 43)))], [aI (iZ r3)], am_hp σ3, t)) rfl rfl (rcv_of (hp_40 _ 0)) rfl c4 (Nat.le_refl _) rfl ?_
  exact w_ifne rfl h5 rfl w6 w7

theorem b_X12_command_95 {x1 : Int} {x2 : Int} {σ : SG} {t : KT} (q1 : Q (.inl none, am_hp σ, t)) : Wp k_X12_command d (95, [some (aR (some (40, 0, 0))), some (aI (iZ x1)), some (aI (iZ x2))], [], am_hp σ, t) Q := by
  exact w_f rfl rfl q1

theorem b_X12_command_96 {x1 : Int} {x2 : Int} {σ : SG} {t : KT} (h1 : -2147483648 ≤ x1 ∧ x1 < 2147483648) (w2 : x1 ≠ 9 → Wp k_X12_command d (121, [some (aR (some (40, 0, 0))), some (aI (iZ x1)), some (aI (iZ x2))], [aI (iZ (((sI σ (40, 0, 0) (up (σ.1 (40, 0, 0)) 43 ((σ.1 (40, 0, 0) 43) + 1)))).1 (40, 0, 0) 45)), aR (some (40, 0, 0))], am_hp ((sI σ (40, 0, 0) (up (σ.1 (40, 0, 0)) 43 ((σ.1 (40, 0, 0) 43) + 1)))), t) Q) (w3 : x1 = 9 → Wp k_X12_command d (117, [some (aR (some (40, 0, 0))), some (aI (iZ x1)), some (aI (iZ x2))], [aI (iZ (((sI σ (40, 0, 0) (up (σ.1 (40, 0, 0)) 43 ((σ.1 (40, 0, 0) 43) + 1)))).1 (40, 0, 0) 45)), aR (some (40, 0, 0))], am_hp ((sI σ (40, 0, 0) (up (σ.1 (40, 0, 0)) 43 ((σ.1 (40, 0, 0) 43) + 1)))), t) Q) : Wp k_X12_command d (96, [some (aR (some (40, 0, 0))), some (aI (iZ x1)), some (aI (iZ x2))], [], am_hp σ, t) Q := by
  refine w_s (c' := (97, [some (aR (some (40, 0, 0))), some (aI (iZ x1)), some (aI (iZ x2))], [aR (some (40, 0, 0))], am_hp σ, t)) rfl rfl ?_
  refine w_s (c' := (98, [some (aR (some (40, 0, 0))), some (aI (iZ x1)), some (aI (iZ x2))], [aR (some (40, 0, 0)), aR (some (40, 0, 0))], am_hp σ, t)) rfl rfl ?_
  refine w_get rfl (hp_40 _ 0) rfl rfl ?_
  refine w_psh rfl zc_1 rfl ?_
  refine w_iadd rfl rfl ?_
  refine w_putI rfl (hp_40 _ 0) rfl rfl rfl ?_
  refine w_s (c' := (107, [some (aR (some (40, 0, 0))), some (aI (iZ x1)), some (aI (iZ x2))], [aR (some (40, 0, 0))], am_hp ((sI σ (40, 0, 0) (up (σ.1 (40, 0, 0)) 43 ((σ.1 (40, 0, 0) 43) + 1)))), t)) rfl rfl ?_
  refine w_s (c' := (108, [some (aR (some (40, 0, 0))), some (aI (iZ x1)), some (aI (iZ x2))], [aR (some (40, 0, 0)), aR (some (40, 0, 0))], am_hp ((sI σ (40, 0, 0) (up (σ.1 (40, 0, 0)) 43 ((σ.1 (40, 0, 0) 43) + 1)))), t)) rfl rfl ?_
  refine w_get rfl (hp_40 _ 0) rfl rfl ?_
  refine w_s (c' := (112, [some (aR (some (40, 0, 0))), some (aI (iZ x1)), some (aI (iZ x2))], [aI (iZ x1), aI (iZ (((sI σ (40, 0, 0) (up (σ.1 (40, 0, 0)) 43 ((σ.1 (40, 0, 0) 43) + 1)))).1 (40, 0, 0) 45)), aR (some (40, 0, 0))], am_hp ((sI σ (40, 0, 0) (up (σ.1 (40, 0, 0)) 43 ((σ.1 (40, 0, 0) 43) + 1)))), t)) rfl rfl ?_
  refine w_psh rfl zc_9 rfl ?_
  exact w_icne rfl h1 (by decide) rfl w2 w3

theorem b_X12_command_117 {x1 : Int} {x2 : Int} {xs0 : Int} {σ : SG} {t : KT} (w1 : Wp k_X12_command d (122, [some (aR (some (40, 0, 0))), some (aI (iZ x1)), some (aI (iZ x2))], [aI (iZ 1), aI (iZ xs0), aR (some (40, 0, 0))], am_hp σ, t) Q) : Wp k_X12_command d (117, [some (aR (some (40, 0, 0))), some (aI (iZ x1)), some (aI (iZ x2))], [aI (iZ xs0), aR (some (40, 0, 0))], am_hp σ, t) Q := by
  refine w_psh rfl zc_1 rfl ?_
  refine w_s (c' := (122, [some (aR (some (40, 0, 0))), some (aI (iZ x1)), some (aI (iZ x2))], [aI (iZ 1), aI (iZ xs0), aR (some (40, 0, 0))], am_hp σ, t)) rfl rfl ?_
  exact w1

theorem b_X12_command_121 {x1 : Int} {x2 : Int} {xs0 : Int} {σ : SG} {t : KT} (w1 : Wp k_X12_command d (122, [some (aR (some (40, 0, 0))), some (aI (iZ x1)), some (aI (iZ x2))], [aI (iZ 0), aI (iZ xs0), aR (some (40, 0, 0))], am_hp σ, t) Q) : Wp k_X12_command d (121, [some (aR (some (40, 0, 0))), some (aI (iZ x1)), some (aI (iZ x2))], [aI (iZ xs0), aR (some (40, 0, 0))], am_hp σ, t) Q := by
  refine w_psh rfl zc_0 rfl ?_
  exact w1

theorem b_X12_command_122 {x1 : Int} {x2 : Int} {xs0 : Int} {xs1 : Int} {r1 : Int} {σ σ1 : SG} {t : KT} (c1 : Ca d 176 [aI (iZ xs0)] (am_hp σ) t (.inl (some (aI (iZ r1))), am_hp σ1, t)) (q2 : Q (.inl none, am_hp ((sI σ1 (40, 0, 0) (up (σ1.1 (40, 0, 0)) 45 (xs1 + r1)))), t)) : Wp k_X12_command d (122, [some (aR (some (40, 0, 0))), some (aI (iZ x1)), some (aI (iZ x2))], [aI (iZ xs0), aI (iZ xs1), aR (some (40, 0, 0))], am_hp σ, t) Q := by
  refine w_c0 (c' := (125, [some (aR (some (40, 0, 0))), some (aI (iZ x1)), some (aI (iZ x2))], [aI (iZ r1), aI (iZ xs1), aR (some (40, 0, 0))], am_hp σ1, t)) rfl rfl rfl rfl c1 (Nat.le_refl _) rfl ?_
  refine w_iadd rfl rfl ?_
  refine w_putI rfl (hp_40 _ 0) rfl rfl rfl ?_
  exact w_f rfl rfl q2

theorem b_X12_closes_0 {σ : SG} {t : KT} (h1 : -2147483648 ≤ σ.1 (40, 0, 0) 45 ∧ σ.1 (40, 0, 0) 45 < 2147483648) (w2 : σ.1 (40, 0, 0) 45 ≤ 0 → Wp k_X12_closes d (60, [some (aR (some (40, 0, 0)))], [], am_hp σ, t) Q) (w3 : 0 < σ.1 (40, 0, 0) 45 → Wp k_X12_closes d (7, [some (aR (some (40, 0, 0)))], [], am_hp σ, t) Q) : Wp k_X12_closes d (0, [some (aR (some (40, 0, 0)))], [], am_hp σ, t) Q := by
  refine w_s (c' := (1, [some (aR (some (40, 0, 0)))], [aR (some (40, 0, 0))], am_hp σ, t)) rfl rfl ?_
  refine w_get rfl (hp_40 _ 0) rfl rfl ?_
  exact w_ifle rfl h1 rfl w2 w3

theorem e_X12_closes {h : AH} {t : KT} {d : Nat} {P : RS → Prop} (w : Wp k_X12_closes d (0, [some (aR (some (40, 0, 0)))], [], h, t) P) : ∃ r, Ca (d + 1) 323 [aR (some (40, 0, 0))] h t r ∧ P r := ca_W rfl rfl rfl rfl w

theorem b_X12_closes_7 {r1 : Int} {σ σ1 : SG} {t : KT} (c1 : Ca d 190 [aR (some (40, 0, 0)), aI (iZ 41)] (am_hp σ) t (.inl (some (aI (iZ r1))), am_hp σ1, t)) (h2 : -2147483648 ≤ r1 ∧ r1 < 2147483648) (w3 : r1 = 0 → Wp k_X12_closes d (60, [some (aR (some (40, 0, 0)))], [], am_hp σ1, t) Q) (w4 : r1 ≠ 0 → Wp k_X12_closes d (16, [some (aR (some (40, 0, 0)))], [], am_hp σ1, t) Q) : Wp k_X12_closes d (7, [some (aR (some (40, 0, 0)))], [], am_hp σ, t) Q := by
  refine w_s (c' := (8, [some (aR (some (40, 0, 0)))], [aR (some (40, 0, 0))], am_hp σ, t)) rfl rfl ?_
  refine w_psh rfl zc_41 rfl ?_
  refine w_c0 (c' := (13, [some (aR (some (40, 0, 0)))], [aI (iZ r1)], am_hp σ1, t)) rfl rfl (rcv_of (hp_40 _ 0)) rfl c1 (Nat.le_refl _) rfl ?_
  exact w_ifeq rfl h2 rfl w3 w4

theorem b_X12_closes_16 {σ σ1 σ2 : SG} {t : KT} (h1 : 0 ≤ ((sI σ (40, 0, 0) (up (σ.1 (40, 0, 0)) 45 ((σ.1 (40, 0, 0) 45) - 1)))).1 (40, 0, 0) 43 ∧ ((sI σ (40, 0, 0) (up (σ.1 (40, 0, 0)) 45 ((σ.1 (40, 0, 0) 45) - 1)))).1 (40, 0, 0) 43 < 60) (c2 : Ca d 186 [aR (some (40, 0, 0))] (am_hp ((sI (sI (sI σ (40, 0, 0) (up (σ.1 (40, 0, 0)) 45 ((σ.1 (40, 0, 0) 45) - 1))) (55, 0, 0) (up (((sI σ (40, 0, 0) (up (σ.1 (40, 0, 0)) 45 ((σ.1 (40, 0, 0) 45) - 1)))).1 (55, 0, 0)) (((sI σ (40, 0, 0) (up (σ.1 (40, 0, 0)) 45 ((σ.1 (40, 0, 0) 45) - 1)))).1 (40, 0, 0) 43).toNat 10)) (40, 0, 0) (up (((sI (sI σ (40, 0, 0) (up (σ.1 (40, 0, 0)) 45 ((σ.1 (40, 0, 0) 45) - 1))) (55, 0, 0) (up (((sI σ (40, 0, 0) (up (σ.1 (40, 0, 0)) 45 ((σ.1 (40, 0, 0) 45) - 1)))).1 (55, 0, 0)) (((sI σ (40, 0, 0) (up (σ.1 (40, 0, 0)) 45 ((σ.1 (40, 0, 0) 45) - 1)))).1 (40, 0, 0) 43).toNat 10))).1 (40, 0, 0)) 43 ((((sI (sI σ (40, 0, 0) (up (σ.1 (40, 0, 0)) 45 ((σ.1 (40, 0, 0) 45) - 1))) (55, 0, 0) (up (((sI σ (40, 0, 0) (up (σ.1 (40, 0, 0)) 45 ((σ.1 (40, 0, 0) 45) - 1)))).1 (55, 0, 0)) (((sI σ (40, 0, 0) (up (σ.1 (40, 0, 0)) 45 ((σ.1 (40, 0, 0) 45) - 1)))).1 (40, 0, 0) 43).toNat 10))).1 (40, 0, 0) 43) + 1))))) t (.inl none, am_hp σ1, t)) (c3 : Ca d 191 [aR (some (40, 0, 0)), aI (iZ 59)] (am_hp σ1) t (.inl none, am_hp σ2, t)) (w4 : Wp k_X12_closes d (0, [some (aR (some (40, 0, 0)))], [], am_hp σ2, t) Q) : Wp k_X12_closes d (16, [some (aR (some (40, 0, 0)))], [], am_hp σ, t) Q := by
  refine w_s (c' := (17, [some (aR (some (40, 0, 0)))], [aR (some (40, 0, 0))], am_hp σ, t)) rfl rfl ?_
  refine w_s (c' := (18, [some (aR (some (40, 0, 0)))], [aR (some (40, 0, 0)), aR (some (40, 0, 0))], am_hp σ, t)) rfl rfl ?_
  refine w_get rfl (hp_40 _ 0) rfl rfl ?_
  refine w_psh rfl zc_1 rfl ?_
  refine w_isub rfl rfl ?_
  refine w_putI rfl (hp_40 _ 0) rfl rfl rfl ?_
  refine w_s (c' := (27, [some (aR (some (40, 0, 0)))], [aR (some (40, 0, 0))], am_hp ((sI σ (40, 0, 0) (up (σ.1 (40, 0, 0)) 45 ((σ.1 (40, 0, 0) 45) - 1)))), t)) rfl rfl ?_
  refine w_get rfl (hp_40 _ 0) rfl rfl ?_
  refine w_s (c' := (31, [some (aR (some (40, 0, 0)))], [aR (some (40, 0, 0)), aR (some (55, 0, 0))], am_hp ((sI σ (40, 0, 0) (up (σ.1 (40, 0, 0)) 45 ((σ.1 (40, 0, 0) 45) - 1)))), t)) rfl rfl ?_
  refine w_get rfl (hp_40 _ 0) rfl rfl ?_
  refine w_psh rfl zc_10 rfl ?_
  refine w_ias rfl (mk_55 _ 0 0) h1 rfl rfl rfl ?_
  refine w_s (c' := (38, [some (aR (some (40, 0, 0)))], [aR (some (40, 0, 0))], am_hp ((sI (sI σ (40, 0, 0) (up (σ.1 (40, 0, 0)) 45 ((σ.1 (40, 0, 0) 45) - 1))) (55, 0, 0) (up (((sI σ (40, 0, 0) (up (σ.1 (40, 0, 0)) 45 ((σ.1 (40, 0, 0) 45) - 1)))).1 (55, 0, 0)) (((sI σ (40, 0, 0) (up (σ.1 (40, 0, 0)) 45 ((σ.1 (40, 0, 0) 45) - 1)))).1 (40, 0, 0) 43).toNat 10))), t)) rfl rfl ?_
  refine w_s (c' := (39, [some (aR (some (40, 0, 0)))], [aR (some (40, 0, 0)), aR (some (40, 0, 0))], am_hp ((sI (sI σ (40, 0, 0) (up (σ.1 (40, 0, 0)) 45 ((σ.1 (40, 0, 0) 45) - 1))) (55, 0, 0) (up (((sI σ (40, 0, 0) (up (σ.1 (40, 0, 0)) 45 ((σ.1 (40, 0, 0) 45) - 1)))).1 (55, 0, 0)) (((sI σ (40, 0, 0) (up (σ.1 (40, 0, 0)) 45 ((σ.1 (40, 0, 0) 45) - 1)))).1 (40, 0, 0) 43).toNat 10))), t)) rfl rfl ?_
  refine w_get rfl (hp_40 _ 0) rfl rfl ?_
  refine w_psh rfl zc_1 rfl ?_
  refine w_iadd rfl rfl ?_
  refine w_putI rfl (hp_40 _ 0) rfl rfl rfl ?_
  refine w_s (c' := (48, [some (aR (some (40, 0, 0)))], [aR (some (40, 0, 0))], am_hp ((sI (sI (sI σ (40, 0, 0) (up (σ.1 (40, 0, 0)) 45 ((σ.1 (40, 0, 0) 45) - 1))) (55, 0, 0) (up (((sI σ (40, 0, 0) (up (σ.1 (40, 0, 0)) 45 ((σ.1 (40, 0, 0) 45) - 1)))).1 (55, 0, 0)) (((sI σ (40, 0, 0) (up (σ.1 (40, 0, 0)) 45 ((σ.1 (40, 0, 0) 45) - 1)))).1 (40, 0, 0) 43).toNat 10)) (40, 0, 0) (up (((sI (sI σ (40, 0, 0) (up (σ.1 (40, 0, 0)) 45 ((σ.1 (40, 0, 0) 45) - 1))) (55, 0, 0) (up (((sI σ (40, 0, 0) (up (σ.1 (40, 0, 0)) 45 ((σ.1 (40, 0, 0) 45) - 1)))).1 (55, 0, 0)) (((sI σ (40, 0, 0) (up (σ.1 (40, 0, 0)) 45 ((σ.1 (40, 0, 0) 45) - 1)))).1 (40, 0, 0) 43).toNat 10))).1 (40, 0, 0)) 43 ((((sI (sI σ (40, 0, 0) (up (σ.1 (40, 0, 0)) 45 ((σ.1 (40, 0, 0) 45) - 1))) (55, 0, 0) (up (((sI σ (40, 0, 0) (up (σ.1 (40, 0, 0)) 45 ((σ.1 (40, 0, 0) 45) - 1)))).1 (55, 0, 0)) (((sI σ (40, 0, 0) (up (σ.1 (40, 0, 0)) 45 ((σ.1 (40, 0, 0) 45) - 1)))).1 (40, 0, 0) 43).toNat 10))).1 (40, 0, 0) 43) + 1)))), t)) rfl rfl ?_
  refine w_c0 (c' := (51, [some (aR (some (40, 0, 0)))], [], am_hp σ1, t)) rfl rfl (rcv_of (hp_40 _ 0)) rfl c2 (Nat.le_refl _) rfl ?_
  refine w_s (c' := (52, [some (aR (some (40, 0, 0)))], [aR (some (40, 0, 0))], am_hp σ1, t)) rfl rfl ?_
  refine w_psh rfl zc_59 rfl ?_
  refine w_c0 (c' := (57, [some (aR (some (40, 0, 0)))], [], am_hp σ2, t)) rfl rfl (rcv_of (hp_40 _ 0)) rfl c3 (Nat.le_refl _) rfl ?_
  refine w_s (c' := (0, [some (aR (some (40, 0, 0)))], [], am_hp σ2, t)) rfl rfl ?_
  exact w4

theorem b_X12_closes_60 {σ : SG} {t : KT} (q1 : Q (.inl none, am_hp σ, t)) : Wp k_X12_closes d (60, [some (aR (some (40, 0, 0)))], [], am_hp σ, t) Q := by
  exact w_f rfl rfl q1
end PCS
