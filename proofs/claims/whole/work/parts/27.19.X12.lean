/-! PIECES: X12 -/
set_option maxRecDepth 4000
section PCS
variable {d : Nat} {Q : RS → Prop}
theorem b_X12_fillLine_0 {r3 : Int} {σ σ1 σ2 σ3 : SG} {t : KT} (c1 : Ca d 186 [aR (some (40, 0, 0))] (am_hp σ) t (.inl none, am_hp σ1, t)) (c2 : Ca d 242 [aR (some (40, 0, 0))] (am_hp σ1) t (.inl none, am_hp σ2, t)) (c3 : Ca d 188 [aR (some (40, 0, 0))] (am_hp σ2) t (.inl (some (aI (iZ r3))), am_hp σ3, t)) (h4 : -2147483648 ≤ r3 ∧ r3 < 2147483648) (w5 : r3 = 0 → Wp k_X12_fillLine d (26, [some (aR (some (40, 0, 0))), none, none, none, none], [], am_hp σ3, t) Q) (w6 : r3 ≠ 0 → Wp k_X12_fillLine d (15, [some (aR (some (40, 0, 0))), none, none, none, none], [], am_hp σ3, t) Q) : Wp k_X12_fillLine d (0, [some (aR (some (40, 0, 0))), none, none, none, none], [], am_hp σ, t) Q := by
  refine w_s (c' := (1, [some (aR (some (40, 0, 0))), none, none, none, none], [aR (some (40, 0, 0))], am_hp σ, t)) rfl rfl ?_
  refine w_c0 (c' := (4, [some (aR (some (40, 0, 0))), none, none, none, none], [], am_hp σ1, t)) rfl rfl (rcv_of (hp_40 _ 0)) rfl c1 (Nat.le_refl _) rfl ?_
  refine w_s (c' := (5, [some (aR (some (40, 0, 0))), none, none, none, none], [aR (some (40, 0, 0))], am_hp σ1, t)) rfl rfl ?_
  refine w_c0 (c' := (8, [some (aR (some (40, 0, 0))), none, none, none, none], [], am_hp σ2, t)) rfl rfl (rcv_of (hp_40 _ 0)) rfl c2 (Nat.le_refl _) rfl ?_
  refine w_s (c' := (9, [some (aR (some (40, 0, 0))), none, none, none, none], [aR (some (40, 0, 0))], am_hp σ2, t)) rfl rfl ?_
  refine w_c0 (c' := (12, [some (aR (some (40, 0, 0))), none, none, none, none], [aI (iZ r3)], am_hp σ3, t)) rfl rfl (rcv_of (hp_40 _ 0)) rfl c3 (Nat.le_refl _) rfl ?_
  exact w_ifeq rfl h4 rfl w5 w6

theorem e_X12_fillLine {h : AH} {t : KT} {d : Nat} {P : RS → Prop} (w : Wp k_X12_fillLine d (0, [some (aR (some (40, 0, 0))), none, none, none, none], [], h, t) P) : ∃ r, Ca (d + 1) 245 [aR (some (40, 0, 0))] h t r ∧ P r := ca_W rfl rfl rfl rfl w

theorem b_X12_fillLine_15 {r1 : Int} {σ σ1 : SG} {t : KT} (c1 : Ca d 221 [aR (some (40, 0, 0)), aL (jZ (σ.2.1 (40, 0, 0) 12))] (am_hp σ) t (.inl (some (aI (iZ r1))), am_hp σ1, t)) (w2 : Wp k_X12_fillLine d (27, [some (aR (some (40, 0, 0))), none, none, none, none], [aI (iZ r1)], am_hp σ1, t) Q) : Wp k_X12_fillLine d (15, [some (aR (some (40, 0, 0))), none, none, none, none], [], am_hp σ, t) Q := by
  refine w_s (c' := (16, [some (aR (some (40, 0, 0))), none, none, none, none], [aR (some (40, 0, 0))], am_hp σ, t)) rfl rfl ?_
  refine w_s (c' := (17, [some (aR (some (40, 0, 0))), none, none, none, none], [aR (some (40, 0, 0)), aR (some (40, 0, 0))], am_hp σ, t)) rfl rfl ?_
  refine w_get rfl (hp_40 _ 0) rfl rfl ?_
  refine w_c0 (c' := (23, [some (aR (some (40, 0, 0))), none, none, none, none], [aI (iZ r1)], am_hp σ1, t)) rfl rfl (rcv_of (hp_40 _ 0)) rfl c1 (Nat.le_refl _) rfl ?_
  refine w_s (c' := (27, [some (aR (some (40, 0, 0))), none, none, none, none], [aI (iZ r1)], am_hp σ1, t)) rfl rfl ?_
  exact w2

theorem b_X12_fillLine_26 {σ : SG} {t : KT} (w1 : Wp k_X12_fillLine d (27, [some (aR (some (40, 0, 0))), none, none, none, none], [aI (iZ 0)], am_hp σ, t) Q) : Wp k_X12_fillLine d (26, [some (aR (some (40, 0, 0))), none, none, none, none], [], am_hp σ, t) Q := by
  refine w_psh rfl zc_0 rfl ?_
  exact w1

theorem b_X12_fillLine_27 {xs0 : Int} {σ : SG} {t : KT} (h1 : -2147483648 ≤ xs0 ∧ xs0 < 2147483648) (w2 : xs0 ≠ -1 → Wp k_X12_fillLine d (38, [some (aR (some (40, 0, 0))), some (aI (iZ xs0)), none, none, none], [], am_hp σ, t) Q) (w3 : xs0 = -1 → Wp k_X12_fillLine d (33, [some (aR (some (40, 0, 0))), some (aI (iZ xs0)), none, none, none], [], am_hp σ, t) Q) : Wp k_X12_fillLine d (27, [some (aR (some (40, 0, 0))), none, none, none, none], [aI (iZ xs0)], am_hp σ, t) Q := by
  refine w_s (c' := (28, [some (aR (some (40, 0, 0))), some (aI (iZ xs0)), none, none, none], [], am_hp σ, t)) rfl rfl ?_
  refine w_s (c' := (29, [some (aR (some (40, 0, 0))), some (aI (iZ xs0)), none, none, none], [aI (iZ xs0)], am_hp σ, t)) rfl rfl ?_
  refine w_psh rfl zc_m1 rfl ?_
  exact w_icne rfl h1 (by decide) rfl w2 w3

theorem b_X12_fillLine_33 {x1 : Int} {σ σ1 : SG} {t : KT} (c1 : Ca d 187 [aR (some (40, 0, 0)), aI (iZ 4)] (am_hp σ) t (.inl none, am_hp σ1, t)) (w2 : Wp k_X12_fillLine d (38, [some (aR (some (40, 0, 0))), some (aI (iZ x1)), none, none, none], [], am_hp σ1, t) Q) : Wp k_X12_fillLine d (33, [some (aR (some (40, 0, 0))), some (aI (iZ x1)), none, none, none], [], am_hp σ, t) Q := by
  refine w_s (c' := (34, [some (aR (some (40, 0, 0))), some (aI (iZ x1)), none, none, none], [aR (some (40, 0, 0))], am_hp σ, t)) rfl rfl ?_
  refine w_psh rfl zc_4 rfl ?_
  refine w_c0 (c' := (38, [some (aR (some (40, 0, 0))), some (aI (iZ x1)), none, none, none], [], am_hp σ1, t)) rfl rfl (rcv_of (hp_40 _ 0)) rfl c1 (Nat.le_refl _) rfl ?_
  exact w2

theorem b_X12_fillLine_38 {x1 : Int} {r1 : Int} {σ σ1 : SG} {t : KT} (c1 : Ca d 188 [aR (some (40, 0, 0))] (am_hp σ) t (.inl (some (aI (iZ r1))), am_hp σ1, t)) (h2 : -2147483648 ≤ r1 ∧ r1 < 2147483648) (w3 : r1 = 0 → Wp k_X12_fillLine d (49, [some (aR (some (40, 0, 0))), some (aI (iZ x1)), none, none, none], [], am_hp σ1, t) Q) (w4 : r1 ≠ 0 → Wp k_X12_fillLine d (45, [some (aR (some (40, 0, 0))), some (aI (iZ x1)), none, none, none], [], am_hp σ1, t) Q) : Wp k_X12_fillLine d (38, [some (aR (some (40, 0, 0))), some (aI (iZ x1)), none, none, none], [], am_hp σ, t) Q := by
  refine w_s (c' := (39, [some (aR (some (40, 0, 0))), some (aI (iZ x1)), none, none, none], [aR (some (40, 0, 0))], am_hp σ, t)) rfl rfl ?_
  refine w_c0 (c' := (42, [some (aR (some (40, 0, 0))), some (aI (iZ x1)), none, none, none], [aI (iZ r1)], am_hp σ1, t)) rfl rfl (rcv_of (hp_40 _ 0)) rfl c1 (Nat.le_refl _) rfl ?_
  exact w_ifeq rfl h2 rfl w3 w4

theorem b_X12_fillLine_45 {x1 : Int} {σ σ1 : SG} {t : KT} (c1 : Ca d 186 [aR (some (40, 0, 0))] (am_hp σ) t (.inl none, am_hp σ1, t)) (w2 : Wp k_X12_fillLine d (49, [some (aR (some (40, 0, 0))), some (aI (iZ x1)), none, none, none], [], am_hp σ1, t) Q) : Wp k_X12_fillLine d (45, [some (aR (some (40, 0, 0))), some (aI (iZ x1)), none, none, none], [], am_hp σ, t) Q := by
  refine w_s (c' := (46, [some (aR (some (40, 0, 0))), some (aI (iZ x1)), none, none, none], [aR (some (40, 0, 0))], am_hp σ, t)) rfl rfl ?_
  refine w_c0 (c' := (49, [some (aR (some (40, 0, 0))), some (aI (iZ x1)), none, none, none], [], am_hp σ1, t)) rfl rfl (rcv_of (hp_40 _ 0)) rfl c1 (Nat.le_refl _) rfl ?_
  exact w2

theorem b_X12_fillLine_49 {x1 : Int} {r1 : Int} {r2 : Int} {σ σ1 σ2 : SG} {t : KT} (c1 : Ca d 193 [aR (some (40, 0, 0)), aI (iZ 1), aI (iZ 60)] (am_hp σ) t (.inl (some (aI (iZ r1))), am_hp σ1, t)) (c2 : Ca d 188 [aR (some (40, 0, 0))] (am_hp σ1) t (.inl (some (aI (iZ r2))), am_hp σ2, t)) (h3 : -2147483648 ≤ r2 ∧ r2 < 2147483648) (w4 : r2 = 0 → Wp k_X12_fillLine d (78, [some (aR (some (40, 0, 0))), some (aI (iZ x1)), some (aI (iZ r1)), none, none], [], am_hp σ2, t) Q) (w5 : r2 ≠ 0 → Wp k_X12_fillLine d (64, [some (aR (some (40, 0, 0))), some (aI (iZ x1)), some (aI (iZ r1)), none, none], [], am_hp σ2, t) Q) : Wp k_X12_fillLine d (49, [some (aR (some (40, 0, 0))), some (aI (iZ x1)), none, none, none], [], am_hp σ, t) Q := by
  refine w_s (c' := (50, [some (aR (some (40, 0, 0))), some (aI (iZ x1)), none, none, none], [aR (some (40, 0, 0))], am_hp σ, t)) rfl rfl ?_
  refine w_psh rfl zc_1 rfl ?_
  refine w_psh rfl zc_60 rfl ?_
  refine w_c0 (c' := (56, [some (aR (some (40, 0, 0))), some (aI (iZ x1)), none, none, none], [aI (iZ r1)], am_hp σ1, t)) rfl rfl (rcv_of (hp_40 _ 0)) rfl c1 (Nat.le_refl _) rfl ?_
  refine w_s (c' := (57, [some (aR (some (40, 0, 0))), some (aI (iZ x1)), some (aI (iZ r1)), none, none], [], am_hp σ1, t)) rfl rfl ?_
  refine w_s (c' := (58, [some (aR (some (40, 0, 0))), some (aI (iZ x1)), some (aI (iZ r1)), none, none], [aR (some (40, 0, 0))], am_hp σ1, t)) rfl rfl ?_
  refine w_c0 (c' := (61, [some (aR (some (40, 0, 0))), some (aI (iZ x1)), some (aI (iZ r1)), none, none], [aI (iZ r2)], am_hp σ2, t)) rfl rfl (rcv_of (hp_40 _ 0)) rfl c2 (Nat.le_refl _) rfl ?_
  exact w_ifeq rfl h3 rfl w4 w5

theorem b_X12_fillLine_64 {x1 : Int} {x2 : Int} {r1 : Int} {σ σ1 : SG} {t : KT} (c1 : Ca d 241 [aR (some (40, 0, 0)), aI (iZ x1), aI (iZ x2)] (am_hp σ) t (.inl (some (aI (iZ r1))), am_hp σ1, t)) (h2 : -2147483648 ≤ r1 ∧ r1 < 2147483648) (w3 : r1 ≤ 0 → Wp k_X12_fillLine d (78, [some (aR (some (40, 0, 0))), some (aI (iZ x1)), some (aI (iZ x2)), none, none], [], am_hp σ1, t) Q) (w4 : 0 < r1 → Wp k_X12_fillLine d (73, [some (aR (some (40, 0, 0))), some (aI (iZ x1)), some (aI (iZ x2)), none, none], [], am_hp σ1, t) Q) : Wp k_X12_fillLine d (64, [some (aR (some (40, 0, 0))), some (aI (iZ x1)), some (aI (iZ x2)), none, none], [], am_hp σ, t) Q := by
  refine w_s (c' := (65, [some (aR (some (40, 0, 0))), some (aI (iZ x1)), some (aI (iZ x2)), none, none], [aR (some (40, 0, 0))], am_hp σ, t)) rfl rfl ?_
  refine w_s (c' := (66, [some (aR (some (40, 0, 0))), some (aI (iZ x1)), some (aI (iZ x2)), none, none], [aI (iZ x1), aR (some (40, 0, 0))], am_hp σ, t)) rfl rfl ?_
  refine w_s (c' := (67, [some (aR (some (40, 0, 0))), some (aI (iZ x1)), some (aI (iZ x2)), none, none], [aI (iZ x2), aI (iZ x1), aR (some (40, 0, 0))], am_hp σ, t)) rfl rfl ?_
  refine w_c0 (c' := (70, [some (aR (some (40, 0, 0))), some (aI (iZ x1)), some (aI (iZ x2)), none, none], [aI (iZ r1)], am_hp σ1, t)) rfl rfl (rcv_of (hp_40 _ 0)) rfl c1 (Nat.le_refl _) rfl ?_
  exact w_ifle rfl h2 rfl w3 w4

theorem b_X12_fillLine_73 {x1 : Int} {x2 : Int} {σ σ1 : SG} {t : KT} (c1 : Ca d 187 [aR (some (40, 0, 0)), aI (iZ 5)] (am_hp σ) t (.inl none, am_hp σ1, t)) (w2 : Wp k_X12_fillLine d (78, [some (aR (some (40, 0, 0))), some (aI (iZ x1)), some (aI (iZ x2)), none, none], [], am_hp σ1, t) Q) : Wp k_X12_fillLine d (73, [some (aR (some (40, 0, 0))), some (aI (iZ x1)), some (aI (iZ x2)), none, none], [], am_hp σ, t) Q := by
  refine w_s (c' := (74, [some (aR (some (40, 0, 0))), some (aI (iZ x1)), some (aI (iZ x2)), none, none], [aR (some (40, 0, 0))], am_hp σ, t)) rfl rfl ?_
  refine w_psh rfl zc_5 rfl ?_
  refine w_c0 (c' := (78, [some (aR (some (40, 0, 0))), some (aI (iZ x1)), some (aI (iZ x2)), none, none], [], am_hp σ1, t)) rfl rfl (rcv_of (hp_40 _ 0)) rfl c1 (Nat.le_refl _) rfl ?_
  exact w2

theorem b_X12_fillLine_78 {x1 : Int} {x2 : Int} {r1 : Int} {σ σ1 : SG} {t : KT} (c1 : Ca d 188 [aR (some (40, 0, 0))] (am_hp σ) t (.inl (some (aI (iZ r1))), am_hp σ1, t)) (h2 : -2147483648 ≤ r1 ∧ r1 < 2147483648) (w3 : r1 = 0 → Wp k_X12_fillLine d (89, [some (aR (some (40, 0, 0))), some (aI (iZ x1)), some (aI (iZ x2)), none, none], [], am_hp σ1, t) Q) (w4 : r1 ≠ 0 → Wp k_X12_fillLine d (85, [some (aR (some (40, 0, 0))), some (aI (iZ x1)), some (aI (iZ x2)), none, none], [], am_hp σ1, t) Q) : Wp k_X12_fillLine d (78, [some (aR (some (40, 0, 0))), some (aI (iZ x1)), some (aI (iZ x2)), none, none], [], am_hp σ, t) Q := by
  refine w_s (c' := (79, [some (aR (some (40, 0, 0))), some (aI (iZ x1)), some (aI (iZ x2)), none, none], [aR (some (40, 0, 0))], am_hp σ, t)) rfl rfl ?_
  refine w_c0 (c' := (82, [some (aR (some (40, 0, 0))), some (aI (iZ x1)), some (aI (iZ x2)), none, none], [aI (iZ r1)], am_hp σ1, t)) rfl rfl (rcv_of (hp_40 _ 0)) rfl c1 (Nat.le_refl _) rfl ?_
  exact w_ifeq rfl h2 rfl w3 w4

theorem b_X12_fillLine_85 {x1 : Int} {x2 : Int} {σ σ1 : SG} {t : KT} (c1 : Ca d 186 [aR (some (40, 0, 0))] (am_hp σ) t (.inl none, am_hp σ1, t)) (w2 : Wp k_X12_fillLine d (89, [some (aR (some (40, 0, 0))), some (aI (iZ x1)), some (aI (iZ x2)), none, none], [], am_hp σ1, t) Q) : Wp k_X12_fillLine d (85, [some (aR (some (40, 0, 0))), some (aI (iZ x1)), some (aI (iZ x2)), none, none], [], am_hp σ, t) Q := by
  refine w_s (c' := (86, [some (aR (some (40, 0, 0))), some (aI (iZ x1)), some (aI (iZ x2)), none, none], [aR (some (40, 0, 0))], am_hp σ, t)) rfl rfl ?_
  refine w_c0 (c' := (89, [some (aR (some (40, 0, 0))), some (aI (iZ x1)), some (aI (iZ x2)), none, none], [], am_hp σ1, t)) rfl rfl (rcv_of (hp_40 _ 0)) rfl c1 (Nat.le_refl _) rfl ?_
  exact w2

theorem b_X12_fillLine_89 {x1 : Int} {x2 : Int} {r1 : Int} {r2 : Int} {σ σ1 σ2 : SG} {t : KT} (c1 : Ca d 194 [aR (some (40, 0, 0)), aI (iZ 0), aI (iZ 268435455)] (am_hp σ) t (.inl (some (aI (iZ r1))), am_hp σ1, t)) (c2 : Ca d 188 [aR (some (40, 0, 0))] (am_hp σ1) t (.inl (some (aI (iZ r2))), am_hp σ2, t)) (h3 : -2147483648 ≤ r2 ∧ r2 < 2147483648) (w4 : r2 ≠ 0 → Wp k_X12_fillLine d (106, [some (aR (some (40, 0, 0))), some (aI (iZ x1)), some (aI (iZ x2)), some (aI (iZ r1)), none], [], am_hp σ2, t) Q) (w5 : r2 = 0 → Wp k_X12_fillLine d (105, [some (aR (some (40, 0, 0))), some (aI (iZ x1)), some (aI (iZ x2)), some (aI (iZ r1)), none], [], am_hp σ2, t) Q) : Wp k_X12_fillLine d (89, [some (aR (some (40, 0, 0))), some (aI (iZ x1)), some (aI (iZ x2)), none, none], [], am_hp σ, t) Q := by
  refine w_s (c' := (90, [some (aR (some (40, 0, 0))), some (aI (iZ x1)), some (aI (iZ x2)), none, none], [aR (some (40, 0, 0))], am_hp σ, t)) rfl rfl ?_
  refine w_psh rfl zc_0 rfl ?_
  refine w_psh rfl zc_268435455 rfl ?_
  refine w_c0 (c' := (97, [some (aR (some (40, 0, 0))), some (aI (iZ x1)), some (aI (iZ x2)), none, none], [aI (iZ r1)], am_hp σ1, t)) rfl rfl (rcv_of (hp_40 _ 0)) rfl c1 (Nat.le_refl _) rfl ?_
  refine w_s (c' := (98, [some (aR (some (40, 0, 0))), some (aI (iZ x1)), some (aI (iZ x2)), some (aI (iZ r1)), none], [], am_hp σ1, t)) rfl rfl ?_
  refine w_s (c' := (99, [some (aR (some (40, 0, 0))), some (aI (iZ x1)), some (aI (iZ x2)), some (aI (iZ r1)), none], [aR (some (40, 0, 0))], am_hp σ1, t)) rfl rfl ?_
  refine w_c0 (c' := (102, [some (aR (some (40, 0, 0))), some (aI (iZ x1)), some (aI (iZ x2)), some (aI (iZ r1)), none], [aI (iZ r2)], am_hp σ2, t)) rfl rfl (rcv_of (hp_40 _ 0)) rfl c2 (Nat.le_refl _) rfl ?_
  exact w_ifne rfl h3 rfl w4 w5

theorem b_X12_fillLine_105 {x1 : Int} {x2 : Int} {x3 : Int} {σ : SG} {t : KT} (q1 : Q (.inl none, am_hp σ, t)) : Wp k_X12_fillLine d (105, [some (aR (some (40, 0, 0))), some (aI (iZ x1)), some (aI (iZ x2)), some (aI (iZ x3)), none], [], am_hp σ, t) Q := by
  exact w_f rfl rfl q1

theorem b_X12_fillLine_106 {x1 : Int} {x2 : Int} {x3 : Int} {σ : SG} {t : KT} (w1 : Wp k_X12_fillLine d (109, [some (aR (some (40, 0, 0))), some (aI (iZ x1)), some (aI (iZ x2)), some (aI (iZ x3)), some (aI (iZ 0))], [], am_hp σ, t) Q) : Wp k_X12_fillLine d (106, [some (aR (some (40, 0, 0))), some (aI (iZ x1)), some (aI (iZ x2)), some (aI (iZ x3)), none], [], am_hp σ, t) Q := by
  refine w_psh rfl zc_0 rfl ?_
  refine w_s (c' := (109, [some (aR (some (40, 0, 0))), some (aI (iZ x1)), some (aI (iZ x2)), some (aI (iZ x3)), some (aI (iZ 0))], [], am_hp σ, t)) rfl rfl ?_
  exact w1

theorem b_X12_fillLine_109 {x1 : Int} {x2 : Int} {x3 : Int} {x4 : Int} {σ : SG} {t : KT} (h1 : -2147483648 ≤ x4 ∧ x4 < 2147483648) (h2 : -2147483648 ≤ x2 ∧ x2 < 2147483648) (w3 : x2 ≤ x4 → Wp k_X12_fillLine d (127, [some (aR (some (40, 0, 0))), some (aI (iZ x1)), some (aI (iZ x2)), some (aI (iZ x3)), some (aI (iZ x4))], [], am_hp σ, t) Q) (w4 : x4 < x2 → Wp k_X12_fillLine d (115, [some (aR (some (40, 0, 0))), some (aI (iZ x1)), some (aI (iZ x2)), some (aI (iZ x3)), some (aI (iZ x4))], [], am_hp σ, t) Q) : Wp k_X12_fillLine d (109, [some (aR (some (40, 0, 0))), some (aI (iZ x1)), some (aI (iZ x2)), some (aI (iZ x3)), some (aI (iZ x4))], [], am_hp σ, t) Q := by
  refine w_s (c' := (111, [some (aR (some (40, 0, 0))), some (aI (iZ x1)), some (aI (iZ x2)), some (aI (iZ x3)), some (aI (iZ x4))], [aI (iZ x4)], am_hp σ, t)) rfl rfl ?_
  refine w_s (c' := (112, [some (aR (some (40, 0, 0))), some (aI (iZ x1)), some (aI (iZ x2)), some (aI (iZ x3)), some (aI (iZ x4))], [aI (iZ x2), aI (iZ x4)], am_hp σ, t)) rfl rfl ?_
  exact w_icge rfl h1 h2 rfl w3 w4

theorem b_X12_fillLine_115 {x1 : Int} {x2 : Int} {x3 : Int} {x4 : Int} {σ σ1 : SG} {t : KT} (c1 : Ca d 303 [aR (some (40, 0, 0)), aI (iZ x1), aI (iZ x3)] (am_hp σ) t (.inl none, am_hp σ1, t)) (w2 : Wp k_X12_fillLine d (109, [some (aR (some (40, 0, 0))), some (aI (iZ x1)), some (aI (iZ x2)), some (aI (iZ x3)), some (aI (iZ (x4 + 1)))], [], am_hp σ1, t) Q) : Wp k_X12_fillLine d (115, [some (aR (some (40, 0, 0))), some (aI (iZ x1)), some (aI (iZ x2)), some (aI (iZ x3)), some (aI (iZ x4))], [], am_hp σ, t) Q := by
  refine w_s (c' := (116, [some (aR (some (40, 0, 0))), some (aI (iZ x1)), some (aI (iZ x2)), some (aI (iZ x3)), some (aI (iZ x4))], [aR (some (40, 0, 0))], am_hp σ, t)) rfl rfl ?_
  refine w_s (c' := (117, [some (aR (some (40, 0, 0))), some (aI (iZ x1)), some (aI (iZ x2)), some (aI (iZ x3)), some (aI (iZ x4))], [aI (iZ x1), aR (some (40, 0, 0))], am_hp σ, t)) rfl rfl ?_
  refine w_s (c' := (118, [some (aR (some (40, 0, 0))), some (aI (iZ x1)), some (aI (iZ x2)), some (aI (iZ x3)), some (aI (iZ x4))], [aI (iZ x3), aI (iZ x1), aR (some (40, 0, 0))], am_hp σ, t)) rfl rfl ?_
  refine w_c0 (c' := (121, [some (aR (some (40, 0, 0))), some (aI (iZ x1)), some (aI (iZ x2)), some (aI (iZ x3)), some (aI (iZ x4))], [], am_hp σ1, t)) rfl rfl (rcv_of (hp_40 _ 0)) rfl c1 (Nat.le_refl _) rfl ?_
  refine w_inc (a := x4) (ls' := [some (aR (some (40, 0, 0))), some (aI (iZ x1)), some (aI (iZ x2)), some (aI (iZ x3)), some (aI (iZ (x4 + 1)))]) rfl rfl rfl zc_1 rfl rfl ?_
  refine w_s (c' := (109, [some (aR (some (40, 0, 0))), some (aI (iZ x1)), some (aI (iZ x2)), some (aI (iZ x3)), some (aI (iZ (x4 + 1)))], [], am_hp σ1, t)) rfl rfl ?_
  exact w2

theorem b_X12_fillLine_127 {x1 : Int} {x2 : Int} {x3 : Int} {x4 : Int} {σ : SG} {t : KT} (q1 : Q (.inl none, am_hp σ, t)) : Wp k_X12_fillLine d (127, [some (aR (some (40, 0, 0))), some (aI (iZ x1)), some (aI (iZ x2)), some (aI (iZ x3)), some (aI (iZ x4))], [], am_hp σ, t) Q := by
  exact w_f rfl rfl q1

theorem b_X12_statement_0 {r1 : Int} {σ σ1 : SG} {t : KT} (c1 : Ca d 189 [aR (some (40, 0, 0)), aL (jZ 18935)] (am_hp σ) t (.inl (some (aI (iZ r1))), am_hp σ1, t)) (h2 : -2147483648 ≤ r1 ∧ r1 < 2147483648) (w3 : r1 = 0 → Wp k_X12_statement d (17, [some (aR (some (40, 0, 0)))], [], am_hp σ1, t) Q) (w4 : r1 ≠ 0 → Wp k_X12_statement d (10, [some (aR (some (40, 0, 0)))], [], am_hp σ1, t) Q) : Wp k_X12_statement d (0, [some (aR (some (40, 0, 0)))], [], am_hp σ, t) Q := by
  refine w_s (c' := (1, [some (aR (some (40, 0, 0)))], [aR (some (40, 0, 0))], am_hp σ, t)) rfl rfl ?_
  refine w_psL rfl yc_18935 rfl ?_
  refine w_c0 (c' := (7, [some (aR (some (40, 0, 0)))], [aI (iZ r1)], am_hp σ1, t)) rfl rfl (rcv_of (hp_40 _ 0)) rfl c1 (Nat.le_refl _) rfl ?_
  exact w_ifeq rfl h2 rfl w3 w4

theorem e_X12_statement {h : AH} {t : KT} {d : Nat} {P : RS → Prop} (w : Wp k_X12_statement d (0, [some (aR (some (40, 0, 0)))], [], h, t) P) : ∃ r, Ca (d + 1) 246 [aR (some (40, 0, 0))] h t r ∧ P r := ca_W rfl rfl rfl rfl w

theorem b_X12_statement_10 {σ σ1 : SG} {t : KT} (c1 : Ca d 243 [aR (some (40, 0, 0))] (am_hp σ) t (.inl none, am_hp σ1, t)) (w2 : Wp k_X12_statement d (56, [some (aR (some (40, 0, 0)))], [], am_hp σ1, t) Q) : Wp k_X12_statement d (10, [some (aR (some (40, 0, 0)))], [], am_hp σ, t) Q := by
  refine w_s (c' := (11, [some (aR (some (40, 0, 0)))], [aR (some (40, 0, 0))], am_hp σ, t)) rfl rfl ?_
  refine w_c0 (c' := (14, [some (aR (some (40, 0, 0)))], [], am_hp σ1, t)) rfl rfl (rcv_of (hp_40 _ 0)) rfl c1 (Nat.le_refl _) rfl ?_
  refine w_s (c' := (56, [some (aR (some (40, 0, 0)))], [], am_hp σ1, t)) rfl rfl ?_
  exact w2

theorem b_X12_statement_17 {r1 : Int} {σ σ1 : SG} {t : KT} (c1 : Ca d 189 [aR (some (40, 0, 0)), aL (jZ 17376357)] (am_hp σ) t (.inl (some (aI (iZ r1))), am_hp σ1, t)) (h2 : -2147483648 ≤ r1 ∧ r1 < 2147483648) (w3 : r1 = 0 → Wp k_X12_statement d (34, [some (aR (some (40, 0, 0)))], [], am_hp σ1, t) Q) (w4 : r1 ≠ 0 → Wp k_X12_statement d (27, [some (aR (some (40, 0, 0)))], [], am_hp σ1, t) Q) : Wp k_X12_statement d (17, [some (aR (some (40, 0, 0)))], [], am_hp σ, t) Q := by
  refine w_s (c' := (18, [some (aR (some (40, 0, 0)))], [aR (some (40, 0, 0))], am_hp σ, t)) rfl rfl ?_
  refine w_psL rfl yc_17376357 rfl ?_
  refine w_c0 (c' := (24, [some (aR (some (40, 0, 0)))], [aI (iZ r1)], am_hp σ1, t)) rfl rfl (rcv_of (hp_40 _ 0)) rfl c1 (Nat.le_refl _) rfl ?_
  exact w_ifeq rfl h2 rfl w3 w4

theorem b_X12_statement_27 {σ σ1 : SG} {t : KT} (c1 : Ca d 244 [aR (some (40, 0, 0))] (am_hp σ) t (.inl none, am_hp σ1, t)) (w2 : Wp k_X12_statement d (56, [some (aR (some (40, 0, 0)))], [], am_hp σ1, t) Q) : Wp k_X12_statement d (27, [some (aR (some (40, 0, 0)))], [], am_hp σ, t) Q := by
  refine w_s (c' := (28, [some (aR (some (40, 0, 0)))], [aR (some (40, 0, 0))], am_hp σ, t)) rfl rfl ?_
  refine w_c0 (c' := (31, [some (aR (some (40, 0, 0)))], [], am_hp σ1, t)) rfl rfl (rcv_of (hp_40 _ 0)) rfl c1 (Nat.le_refl _) rfl ?_
  refine w_s (c' := (56, [some (aR (some (40, 0, 0)))], [], am_hp σ1, t)) rfl rfl ?_
  exact w2

theorem b_X12_statement_34 {r1 : Int} {σ σ1 : SG} {t : KT} (c1 : Ca d 189 [aR (some (40, 0, 0)), aL (jZ 206220)] (am_hp σ) t (.inl (some (aI (iZ r1))), am_hp σ1, t)) (h2 : -2147483648 ≤ r1 ∧ r1 < 2147483648) (w3 : r1 = 0 → Wp k_X12_statement d (51, [some (aR (some (40, 0, 0)))], [], am_hp σ1, t) Q) (w4 : r1 ≠ 0 → Wp k_X12_statement d (44, [some (aR (some (40, 0, 0)))], [], am_hp σ1, t) Q) : Wp k_X12_statement d (34, [some (aR (some (40, 0, 0)))], [], am_hp σ, t) Q := by
  refine w_s (c' := (35, [some (aR (some (40, 0, 0)))], [aR (some (40, 0, 0))], am_hp σ, t)) rfl rfl ?_
  refine w_psL rfl yc_206220 rfl ?_
  refine w_c0 (c' := (41, [some (aR (some (40, 0, 0)))], [aI (iZ r1)], am_hp σ1, t)) rfl rfl (rcv_of (hp_40 _ 0)) rfl c1 (Nat.le_refl _) rfl ?_
  exact w_ifeq rfl h2 rfl w3 w4

theorem b_X12_statement_44 {σ σ1 : SG} {t : KT} (c1 : Ca d 245 [aR (some (40, 0, 0))] (am_hp σ) t (.inl none, am_hp σ1, t)) (w2 : Wp k_X12_statement d (56, [some (aR (some (40, 0, 0)))], [], am_hp σ1, t) Q) : Wp k_X12_statement d (44, [some (aR (some (40, 0, 0)))], [], am_hp σ, t) Q := by
  refine w_s (c' := (45, [some (aR (some (40, 0, 0)))], [aR (some (40, 0, 0))], am_hp σ, t)) rfl rfl ?_
  refine w_c0 (c' := (48, [some (aR (some (40, 0, 0)))], [], am_hp σ1, t)) rfl rfl (rcv_of (hp_40 _ 0)) rfl c1 (Nat.le_refl _) rfl ?_
  refine w_s (c' := (56, [some (aR (some (40, 0, 0)))], [], am_hp σ1, t)) rfl rfl ?_
  exact w2

theorem b_X12_statement_51 {σ σ1 : SG} {t : KT} (c1 : Ca d 187 [aR (some (40, 0, 0)), aI (iZ 1)] (am_hp σ) t (.inl none, am_hp σ1, t)) (w2 : Wp k_X12_statement d (56, [some (aR (some (40, 0, 0)))], [], am_hp σ1, t) Q) : Wp k_X12_statement d (51, [some (aR (some (40, 0, 0)))], [], am_hp σ, t) Q := by
  refine w_s (c' := (52, [some (aR (some (40, 0, 0)))], [aR (some (40, 0, 0))], am_hp σ, t)) rfl rfl ?_
  refine w_psh rfl zc_1 rfl ?_
  refine w_c0 (c' := (56, [some (aR (some (40, 0, 0)))], [], am_hp σ1, t)) rfl rfl (rcv_of (hp_40 _ 0)) rfl c1 (Nat.le_refl _) rfl ?_
  exact w2

theorem b_X12_statement_56 {σ : SG} {t : KT} (q1 : Q (.inl none, am_hp σ, t)) : Wp k_X12_statement d (56, [some (aR (some (40, 0, 0)))], [], am_hp σ, t) Q := by
  exact w_f rfl rfl q1

theorem b_X12_readText_0 {r5 : Int} {r6 : Int} {r7 : Int} {σ σ1 σ2 σ3 σ4 σ5 σ6 σ7 : SG} {t : KT} (c1 : Ca d 202 [aR (some (40, 0, 0))] (am_hp σ) t (.inl none, am_hp σ1, t)) (c2 : Ca d 195 [aR (some (40, 0, 0))] (am_hp σ1) t (.inl none, am_hp σ2, t)) (c3 : Ca d 201 [aR (some (40, 0, 0))] (am_hp σ2) t (.inl none, am_hp σ3, t)) (c4 : Ca d 192 [aR (some (40, 0, 0)), aL (jZ 525419)] (am_hp ((sI σ3 (40, 0, 0) (up (σ3.1 (40, 0, 0)) 35 0)))) t (.inl none, am_hp σ4, t)) (c5 : Ca d 194 [aR (some (40, 0, 0)), aI (iZ 0), aI (iZ 2)] (am_hp σ4) t (.inl (some (aI (iZ r5))), am_hp σ5, t)) (c6 : Ca d 194 [aR (some (40, 0, 0)), aI (iZ 1), aI (iZ 9)] (am_hp σ5) t (.inl (some (aI (iZ r6))), am_hp σ6, t)) (c7 : Ca d 188 [aR (some (40, 0, 0))] (am_hp σ6) t (.inl (some (aI (iZ r7))), am_hp σ7, t)) (h8 : -2147483648 ≤ r7 ∧ r7 < 2147483648) (w9 : r7 = 0 → Wp k_X12_readText d (60, [some (aR (some (40, 0, 0))), some (aI (iZ r5)), some (aI (iZ r6))], [], am_hp σ7, t) Q) (w10 : r7 ≠ 0 → Wp k_X12_readText d (46, [some (aR (some (40, 0, 0))), some (aI (iZ r5)), some (aI (iZ r6))], [], am_hp σ7, t) Q) : Wp k_X12_readText d (0, [some (aR (some (40, 0, 0))), none, none], [], am_hp σ, t) Q := by
  refine w_s (c' := (1, [some (aR (some (40, 0, 0))), none, none], [aR (some (40, 0, 0))], am_hp σ, t)) rfl rfl ?_
  refine w_c0 (c' := (4, [some (aR (some (40, 0, 0))), none, none], [], am_hp σ1, t)) rfl rfl (rcv_of (hp_40 _ 0)) rfl c1 (Nat.le_refl _) rfl ?_
  refine w_s (c' := (5, [some (aR (some (40, 0, 0))), none, none], [aR (some (40, 0, 0))], am_hp σ1, t)) rfl rfl ?_
  refine w_c0 (c' := (8, [some (aR (some (40, 0, 0))), none, none], [], am_hp σ2, t)) rfl rfl (rcv_of (hp_40 _ 0)) rfl c2 (Nat.le_refl _) rfl ?_
  refine w_s (c' := (9, [some (aR (some (40, 0, 0))), none, none], [aR (some (40, 0, 0))], am_hp σ2, t)) rfl rfl ?_
  refine w_c0 (c' := (12, [some (aR (some (40, 0, 0))), none, none], [], am_hp σ3, t)) rfl rfl (rcv_of (hp_40 _ 0)) rfl c3 (Nat.le_refl _) rfl ?_
  refine w_s (c' := (13, [some (aR (some (40, 0, 0))), none, none], [aR (some (40, 0, 0))], am_hp σ3, t)) rfl rfl ?_
  refine w_psh rfl zc_0 rfl ?_
  refine w_putI rfl (hp_40 _ 0) rfl rfl rfl ?_
  refine w_s (c' := (18, [some (aR (some (40, 0, 0))), none, none], [aR (some (40, 0, 0))], am_hp ((sI σ3 (40, 0, 0) (up (σ3.1 (40, 0, 0)) 35 0))), t)) rfl rfl ?_
  refine w_psL rfl yc_525419 rfl ?_
  refine w_c0 (c' := (24, [some (aR (some (40, 0, 0))), none, none], [], am_hp σ4, t)) rfl rfl (rcv_of (hp_40 _ 0)) rfl c4 (Nat.le_refl _) rfl ?_
  refine w_s (c' := (25, [some (aR (some (40, 0, 0))), none, none], [aR (some (40, 0, 0))], am_hp σ4, t)) rfl rfl ?_
  refine w_psh rfl zc_0 rfl ?_
  refine w_psh rfl zc_2 rfl ?_
  refine w_c0 (c' := (30, [some (aR (some (40, 0, 0))), none, none], [aI (iZ r5)], am_hp σ5, t)) rfl rfl (rcv_of (hp_40 _ 0)) rfl c5 (Nat.le_refl _) rfl ?_
  refine w_s (c' := (31, [some (aR (some (40, 0, 0))), some (aI (iZ r5)), none], [], am_hp σ5, t)) rfl rfl ?_
  refine w_s (c' := (32, [some (aR (some (40, 0, 0))), some (aI (iZ r5)), none], [aR (some (40, 0, 0))], am_hp σ5, t)) rfl rfl ?_
  refine w_psh rfl zc_1 rfl ?_
  refine w_psh rfl zc_9 rfl ?_
  refine w_c0 (c' := (38, [some (aR (some (40, 0, 0))), some (aI (iZ r5)), none], [aI (iZ r6)], am_hp σ6, t)) rfl rfl (rcv_of (hp_40 _ 0)) rfl c6 (Nat.le_refl _) rfl ?_
  refine w_s (c' := (39, [some (aR (some (40, 0, 0))), some (aI (iZ r5)), some (aI (iZ r6))], [], am_hp σ6, t)) rfl rfl ?_
  refine w_s (c' := (40, [some (aR (some (40, 0, 0))), some (aI (iZ r5)), some (aI (iZ r6))], [aR (some (40, 0, 0))], am_hp σ6, t)) rfl rfl ?_
  refine w_c0 (c' := (43, [some (aR (some (40, 0, 0))), some (aI (iZ r5)), some (aI (iZ r6))], [aI (iZ r7)], am_hp σ7, t)) rfl rfl (rcv_of (hp_40 _ 0)) rfl c7 (Nat.le_refl _) rfl ?_
  exact w_ifeq rfl h8 rfl w9 w10

theorem e_X12_readText {h : AH} {t : KT} {d : Nat} {P : RS → Prop} (w : Wp k_X12_readText d (0, [some (aR (some (40, 0, 0))), none, none], [], h, t) P) : ∃ r, Ca (d + 1) 247 [aR (some (40, 0, 0))] h t r ∧ P r := ca_W rfl rfl rfl rfl w

theorem b_X12_readText_46 {x1 : Int} {x2 : Int} {σ : SG} {t : KT} (w1 : Wp k_X12_readText d (60, [some (aR (some (40, 0, 0))), some (aI (iZ x1)), some (aI (iZ x2))], [], am_hp ((sI (sI σ (42, 0, 0) (up (σ.1 (42, 0, 0)) (1 : Int).toNat x1)) (42, 0, 0) (up (((sI σ (42, 0, 0) (up (σ.1 (42, 0, 0)) (1 : Int).toNat x1))).1 (42, 0, 0)) (2 : Int).toNat x2))), t) Q) : Wp k_X12_readText d (46, [some (aR (some (40, 0, 0))), some (aI (iZ x1)), some (aI (iZ x2))], [], am_hp σ, t) Q := by
  refine w_s (c' := (47, [some (aR (some (40, 0, 0))), some (aI (iZ x1)), some (aI (iZ x2))], [aR (some (40, 0, 0))], am_hp σ, t)) rfl rfl ?_
  refine w_get rfl (hp_40 _ 0) rfl rfl ?_
  refine w_psh rfl zc_1 rfl ?_
  refine w_s (c' := (52, [some (aR (some (40, 0, 0))), some (aI (iZ x1)), some (aI (iZ x2))], [aI (iZ x1), aI (iZ 1), aR (some (42, 0, 0))], am_hp σ, t)) rfl rfl ?_
  refine w_ias rfl (mk_42 _ 0 0) (by decide) rfl rfl rfl ?_
  refine w_s (c' := (54, [some (aR (some (40, 0, 0))), some (aI (iZ x1)), some (aI (iZ x2))], [aR (some (40, 0, 0))], am_hp ((sI σ (42, 0, 0) (up (σ.1 (42, 0, 0)) (1 : Int).toNat x1))), t)) rfl rfl ?_
  refine w_get rfl (hp_40 _ 0) rfl rfl ?_
  refine w_psh rfl zc_2 rfl ?_
  refine w_s (c' := (59, [some (aR (some (40, 0, 0))), some (aI (iZ x1)), some (aI (iZ x2))], [aI (iZ x2), aI (iZ 2), aR (some (42, 0, 0))], am_hp ((sI σ (42, 0, 0) (up (σ.1 (42, 0, 0)) (1 : Int).toNat x1))), t)) rfl rfl ?_
  refine w_ias rfl (mk_42 _ 0 0) (by decide) rfl rfl rfl ?_
  exact w1

theorem b_X12_readText_60 {x1 : Int} {x2 : Int} {σ σ1 : SG} {t : KT} (c1 : Ca d 191 [aR (some (40, 0, 0)), aI (iZ 59)] (am_hp σ) t (.inl none, am_hp σ1, t)) (w2 : Wp k_X12_readText d (66, [some (aR (some (40, 0, 0))), some (aI (iZ x1)), some (aI (iZ x2))], [], am_hp σ1, t) Q) : Wp k_X12_readText d (60, [some (aR (some (40, 0, 0))), some (aI (iZ x1)), some (aI (iZ x2))], [], am_hp σ, t) Q := by
  refine w_s (c' := (61, [some (aR (some (40, 0, 0))), some (aI (iZ x1)), some (aI (iZ x2))], [aR (some (40, 0, 0))], am_hp σ, t)) rfl rfl ?_
  refine w_psh rfl zc_59 rfl ?_
  refine w_c0 (c' := (66, [some (aR (some (40, 0, 0))), some (aI (iZ x1)), some (aI (iZ x2))], [], am_hp σ1, t)) rfl rfl (rcv_of (hp_40 _ 0)) rfl c1 (Nat.le_refl _) rfl ?_
  exact w2

theorem b_X12_readText_66 {x1 : Int} {x2 : Int} {r1 : Int} {σ σ1 : SG} {t : KT} (c1 : Ca d 188 [aR (some (40, 0, 0))] (am_hp σ) t (.inl (some (aI (iZ r1))), am_hp σ1, t)) (h2 : -2147483648 ≤ r1 ∧ r1 < 2147483648) (w3 : r1 = 0 → Wp k_X12_readText d (93, [some (aR (some (40, 0, 0))), some (aI (iZ x1)), some (aI (iZ x2))], [], am_hp σ1, t) Q) (w4 : r1 ≠ 0 → Wp k_X12_readText d (73, [some (aR (some (40, 0, 0))), some (aI (iZ x1)), some (aI (iZ x2))], [], am_hp σ1, t) Q) : Wp k_X12_readText d (66, [some (aR (some (40, 0, 0))), some (aI (iZ x1)), some (aI (iZ x2))], [], am_hp σ, t) Q := by
  refine w_s (c' := (67, [some (aR (some (40, 0, 0))), some (aI (iZ x1)), some (aI (iZ x2))], [aR (some (40, 0, 0))], am_hp σ, t)) rfl rfl ?_
  refine w_c0 (c' := (70, [some (aR (some (40, 0, 0))), some (aI (iZ x1)), some (aI (iZ x2))], [aI (iZ r1)], am_hp σ1, t)) rfl rfl (rcv_of (hp_40 _ 0)) rfl c1 (Nat.le_refl _) rfl ?_
  exact w_ifeq rfl h2 rfl w3 w4

theorem b_X12_readText_73 {x1 : Int} {x2 : Int} {σ : SG} {t : KT} (h1 : -2147483648 ≤ σ.1 (40, 0, 0) 6 ∧ σ.1 (40, 0, 0) 6 < 2147483648) (w2 : σ.1 (40, 0, 0) 6 = 0 → Wp k_X12_readText d (93, [some (aR (some (40, 0, 0))), some (aI (iZ x1)), some (aI (iZ x2))], [], am_hp σ, t) Q) (w3 : σ.1 (40, 0, 0) 6 ≠ 0 → Wp k_X12_readText d (80, [some (aR (some (40, 0, 0))), some (aI (iZ x1)), some (aI (iZ x2))], [], am_hp σ, t) Q) : Wp k_X12_readText d (73, [some (aR (some (40, 0, 0))), some (aI (iZ x1)), some (aI (iZ x2))], [], am_hp σ, t) Q := by
  refine w_s (c' := (74, [some (aR (some (40, 0, 0))), some (aI (iZ x1)), some (aI (iZ x2))], [aR (some (40, 0, 0))], am_hp σ, t)) rfl rfl ?_
  refine w_get rfl (hp_40 _ 0) rfl rfl ?_
  exact w_ifeq rfl h1 rfl w2 w3

theorem b_X12_readText_80 {x1 : Int} {x2 : Int} {σ σ1 σ2 : SG} {t : KT} (c1 : Ca d 246 [aR (some (40, 0, 0))] (am_hp σ) t (.inl none, am_hp σ1, t)) (c2 : Ca d 191 [aR (some (40, 0, 0)), aI (iZ 59)] (am_hp σ1) t (.inl none, am_hp σ2, t)) (w3 : Wp k_X12_readText d (66, [some (aR (some (40, 0, 0))), some (aI (iZ x1)), some (aI (iZ x2))], [], am_hp σ2, t) Q) : Wp k_X12_readText d (80, [some (aR (some (40, 0, 0))), some (aI (iZ x1)), some (aI (iZ x2))], [], am_hp σ, t) Q := by
  refine w_s (c' := (81, [some (aR (some (40, 0, 0))), some (aI (iZ x1)), some (aI (iZ x2))], [aR (some (40, 0, 0))], am_hp σ, t)) rfl rfl ?_
  refine w_c0 (c' := (84, [some (aR (some (40, 0, 0))), some (aI (iZ x1)), some (aI (iZ x2))], [], am_hp σ1, t)) rfl rfl (rcv_of (hp_40 _ 0)) rfl c1 (Nat.le_refl _) rfl ?_
  refine w_s (c' := (85, [some (aR (some (40, 0, 0))), some (aI (iZ x1)), some (aI (iZ x2))], [aR (some (40, 0, 0))], am_hp σ1, t)) rfl rfl ?_
  refine w_psh rfl zc_59 rfl ?_
  refine w_c0 (c' := (90, [some (aR (some (40, 0, 0))), some (aI (iZ x1)), some (aI (iZ x2))], [], am_hp σ2, t)) rfl rfl (rcv_of (hp_40 _ 0)) rfl c2 (Nat.le_refl _) rfl ?_
  refine w_s (c' := (66, [some (aR (some (40, 0, 0))), some (aI (iZ x1)), some (aI (iZ x2))], [], am_hp σ2, t)) rfl rfl ?_
  exact w3

theorem b_X12_readText_93 {x1 : Int} {x2 : Int} {r1 : Int} {σ σ1 : SG} {t : KT} (c1 : Ca d 196 [aR (some (40, 0, 0))] (am_hp σ) t (.inl (some (aI (iZ r1))), am_hp σ1, t)) (h2 : -2147483648 ≤ r1 ∧ r1 < 2147483648) (w3 : r1 ≠ 0 → Wp k_X12_readText d (106, [some (aR (some (40, 0, 0))), some (aI (iZ x1)), some (aI (iZ x2))], [], am_hp σ1, t) Q) (w4 : r1 = 0 → Wp k_X12_readText d (100, [some (aR (some (40, 0, 0))), some (aI (iZ x1)), some (aI (iZ x2))], [], am_hp σ1, t) Q) : Wp k_X12_readText d (93, [some (aR (some (40, 0, 0))), some (aI (iZ x1)), some (aI (iZ x2))], [], am_hp σ, t) Q := by
  refine w_s (c' := (94, [some (aR (some (40, 0, 0))), some (aI (iZ x1)), some (aI (iZ x2))], [aR (some (40, 0, 0))], am_hp σ, t)) rfl rfl ?_
  refine w_c0 (c' := (97, [some (aR (some (40, 0, 0))), some (aI (iZ x1)), some (aI (iZ x2))], [aI (iZ r1)], am_hp σ1, t)) rfl rfl (rcv_of (hp_40 _ 0)) rfl c1 (Nat.le_refl _) rfl ?_
  exact w_ifne rfl h2 rfl w3 w4

theorem b_X12_readText_100 {x1 : Int} {x2 : Int} {σ σ1 : SG} {t : KT} (c1 : Ca d 203 [aR (some (40, 0, 0))] (am_hp σ) t (.inl none, am_hp σ1, t)) (q2 : Q (.inl (some (aI (iZ 0))), am_hp σ1, t)) : Wp k_X12_readText d (100, [some (aR (some (40, 0, 0))), some (aI (iZ x1)), some (aI (iZ x2))], [], am_hp σ, t) Q := by
  refine w_s (c' := (101, [some (aR (some (40, 0, 0))), some (aI (iZ x1)), some (aI (iZ x2))], [aR (some (40, 0, 0))], am_hp σ, t)) rfl rfl ?_
  refine w_c0 (c' := (104, [some (aR (some (40, 0, 0))), some (aI (iZ x1)), some (aI (iZ x2))], [], am_hp σ1, t)) rfl rfl (rcv_of (hp_40 _ 0)) rfl c1 (Nat.le_refl _) rfl ?_
  refine w_psh rfl zc_0 rfl ?_
  exact w_ret rfl rfl q2

theorem b_X12_readText_106 {x1 : Int} {x2 : Int} {σ : SG} {t : KT} (q1 : Q (.inl (some (aI (iZ (((sI σ (40, 0, 0) (up (σ.1 (40, 0, 0)) 17 0))).1 (42, 0, 0) 0)))), am_hp ((sI σ (40, 0, 0) (up (σ.1 (40, 0, 0)) 17 0))), t)) : Wp k_X12_readText d (106, [some (aR (some (40, 0, 0))), some (aI (iZ x1)), some (aI (iZ x2))], [], am_hp σ, t) Q := by
  refine w_s (c' := (107, [some (aR (some (40, 0, 0))), some (aI (iZ x1)), some (aI (iZ x2))], [aR (some (40, 0, 0))], am_hp σ, t)) rfl rfl ?_
  refine w_psh rfl zc_0 rfl ?_
  refine w_putI rfl (hp_40 _ 0) rfl rfl rfl ?_
  refine w_s (c' := (112, [some (aR (some (40, 0, 0))), some (aI (iZ x1)), some (aI (iZ x2))], [aR (some (40, 0, 0))], am_hp ((sI σ (40, 0, 0) (up (σ.1 (40, 0, 0)) 17 0))), t)) rfl rfl ?_
  refine w_get rfl (hp_40 _ 0) rfl rfl ?_
  refine w_psh rfl zc_0 rfl ?_
  refine w_ial rfl (hp_42 _ 0 0) (by decide) rfl rfl ?_
  refine w_e (c' := (117, [some (aR (some (40, 0, 0))), some (aI (iZ x1)), some (aI (iZ x2))], [aI (iZ (((sI σ (40, 0, 0) (up (σ.1 (40, 0, 0)) 17 0))).1 (42, 0, 0) 0))], am_hp ((sI σ (40, 0, 0) (up (σ.1 (40, 0, 0)) 17 0))), t)) rfl ?_
  exact w_ret rfl rfl q1

theorem b_X12_wordsAll_0 {σ : SG} {t : KT} (w1 : Wp k_X12_wordsAll d (4, [some (aR (some (40, 0, 0))), some (aI (iZ 0)), some (aI (iZ 0))], [], am_hp σ, t) Q) : Wp k_X12_wordsAll d (0, [some (aR (some (40, 0, 0))), none, none], [], am_hp σ, t) Q := by
  refine w_psh rfl zc_0 rfl ?_
  refine w_s (c' := (2, [some (aR (some (40, 0, 0))), some (aI (iZ 0)), none], [], am_hp σ, t)) rfl rfl ?_
  refine w_psh rfl zc_0 rfl ?_
  refine w_s (c' := (4, [some (aR (some (40, 0, 0))), some (aI (iZ 0)), some (aI (iZ 0))], [], am_hp σ, t)) rfl rfl ?_
  exact w1

theorem e_X12_wordsAll {h : AH} {t : KT} {d : Nat} {P : RS → Prop} (w : Wp k_X12_wordsAll d (0, [some (aR (some (40, 0, 0))), none, none], [], h, t) P) : ∃ r, Ca (d + 1) 248 [aR (some (40, 0, 0))] h t r ∧ P r := ca_W rfl rfl rfl rfl w

theorem b_X12_wordsAll_4 {x1 : Int} {x2 : Int} {σ : SG} {t : KT} (h1 : -2147483648 ≤ x2 ∧ x2 < 2147483648) (h2 : -2147483648 ≤ σ.1 (42, 0, 0) 0 ∧ σ.1 (42, 0, 0) 0 < 2147483648) (w3 : σ.1 (42, 0, 0) 0 ≤ x2 → Wp k_X12_wordsAll d (28, [some (aR (some (40, 0, 0))), some (aI (iZ x1)), some (aI (iZ x2))], [], am_hp σ, t) Q) (w4 : x2 < σ.1 (42, 0, 0) 0 → Wp k_X12_wordsAll d (14, [some (aR (some (40, 0, 0))), some (aI (iZ x1)), some (aI (iZ x2))], [], am_hp σ, t) Q) : Wp k_X12_wordsAll d (4, [some (aR (some (40, 0, 0))), some (aI (iZ x1)), some (aI (iZ x2))], [], am_hp σ, t) Q := by
  refine w_s (c' := (5, [some (aR (some (40, 0, 0))), some (aI (iZ x1)), some (aI (iZ x2))], [aI (iZ x2)], am_hp σ, t)) rfl rfl ?_
  refine w_s (c' := (6, [some (aR (some (40, 0, 0))), some (aI (iZ x1)), some (aI (iZ x2))], [aR (some (40, 0, 0)), aI (iZ x2)], am_hp σ, t)) rfl rfl ?_
  refine w_get rfl (hp_40 _ 0) rfl rfl ?_
  refine w_psh rfl zc_0 rfl ?_
  refine w_ial rfl (hp_42 _ 0 0) (by decide) rfl rfl ?_
  refine w_e (c' := (11, [some (aR (some (40, 0, 0))), some (aI (iZ x1)), some (aI (iZ x2))], [aI (iZ (σ.1 (42, 0, 0) 0)), aI (iZ x2)], am_hp σ, t)) rfl ?_
  exact w_icge rfl h1 h2 rfl w3 w4

theorem b_X12_wordsAll_14 {x1 : Int} {x2 : Int} {r1 : Int} {σ σ1 : SG} {t : KT} (c1 : Ca d 235 [aR (some (40, 0, 0)), aI (iZ x2)] (am_hp σ) t (.inl (some (aI (iZ r1))), am_hp σ1, t)) (w2 : Wp k_X12_wordsAll d (4, [some (aR (some (40, 0, 0))), some (aI (iZ (x1 + r1))), some (aI (iZ (x2 + 1)))], [], am_hp σ1, t) Q) : Wp k_X12_wordsAll d (14, [some (aR (some (40, 0, 0))), some (aI (iZ x1)), some (aI (iZ x2))], [], am_hp σ, t) Q := by
  refine w_s (c' := (15, [some (aR (some (40, 0, 0))), some (aI (iZ x1)), some (aI (iZ x2))], [aI (iZ x1)], am_hp σ, t)) rfl rfl ?_
  refine w_s (c' := (16, [some (aR (some (40, 0, 0))), some (aI (iZ x1)), some (aI (iZ x2))], [aR (some (40, 0, 0)), aI (iZ x1)], am_hp σ, t)) rfl rfl ?_
  refine w_s (c' := (17, [some (aR (some (40, 0, 0))), some (aI (iZ x1)), some (aI (iZ x2))], [aI (iZ x2), aR (some (40, 0, 0)), aI (iZ x1)], am_hp σ, t)) rfl rfl ?_
  refine w_c0 (c' := (20, [some (aR (some (40, 0, 0))), some (aI (iZ x1)), some (aI (iZ x2))], [aI (iZ r1), aI (iZ x1)], am_hp σ1, t)) rfl rfl (rcv_of (hp_40 _ 0)) rfl c1 (Nat.le_refl _) rfl ?_
  refine w_iadd rfl rfl ?_
  refine w_s (c' := (22, [some (aR (some (40, 0, 0))), some (aI (iZ (x1 + r1))), some (aI (iZ x2))], [], am_hp σ1, t)) rfl rfl ?_
  refine w_inc (a := x2) (ls' := [some (aR (some (40, 0, 0))), some (aI (iZ (x1 + r1))), some (aI (iZ (x2 + 1)))]) rfl rfl rfl zc_1 rfl rfl ?_
  refine w_s (c' := (4, [some (aR (some (40, 0, 0))), some (aI (iZ (x1 + r1))), some (aI (iZ (x2 + 1)))], [], am_hp σ1, t)) rfl rfl ?_
  exact w2

theorem b_X12_wordsAll_28 {x1 : Int} {x2 : Int} {σ : SG} {t : KT} (q1 : Q (.inl (some (aI (iZ x1))), am_hp σ, t)) : Wp k_X12_wordsAll d (28, [some (aR (some (40, 0, 0))), some (aI (iZ x1)), some (aI (iZ x2))], [], am_hp σ, t) Q := by
  refine w_s (c' := (29, [some (aR (some (40, 0, 0))), some (aI (iZ x1)), some (aI (iZ x2))], [aI (iZ x1)], am_hp σ, t)) rfl rfl ?_
  exact w_ret rfl rfl q1

theorem b_X12_pricesAll_0 {σ : SG} {t : KT} (w1 : Wp k_X12_pricesAll d (4, [some (aR (some (40, 0, 0))), some (aI (iZ 0)), some (aI (iZ 0))], [], am_hp σ, t) Q) : Wp k_X12_pricesAll d (0, [some (aR (some (40, 0, 0))), none, none], [], am_hp σ, t) Q := by
  refine w_psh rfl zc_0 rfl ?_
  refine w_s (c' := (2, [some (aR (some (40, 0, 0))), some (aI (iZ 0)), none], [], am_hp σ, t)) rfl rfl ?_
  refine w_psh rfl zc_0 rfl ?_
  refine w_s (c' := (4, [some (aR (some (40, 0, 0))), some (aI (iZ 0)), some (aI (iZ 0))], [], am_hp σ, t)) rfl rfl ?_
  exact w1

theorem e_X12_pricesAll {h : AH} {t : KT} {d : Nat} {P : RS → Prop} (w : Wp k_X12_pricesAll d (0, [some (aR (some (40, 0, 0))), none, none], [], h, t) P) : ∃ r, Ca (d + 1) 249 [aR (some (40, 0, 0))] h t r ∧ P r := ca_W rfl rfl rfl rfl w

theorem b_X12_pricesAll_4 {x1 : Int} {x2 : Int} {σ : SG} {t : KT} (h1 : -2147483648 ≤ x2 ∧ x2 < 2147483648) (h2 : -2147483648 ≤ σ.1 (42, 0, 0) 0 ∧ σ.1 (42, 0, 0) 0 < 2147483648) (w3 : σ.1 (42, 0, 0) 0 ≤ x2 → Wp k_X12_pricesAll d (28, [some (aR (some (40, 0, 0))), some (aI (iZ x1)), some (aI (iZ x2))], [], am_hp σ, t) Q) (w4 : x2 < σ.1 (42, 0, 0) 0 → Wp k_X12_pricesAll d (14, [some (aR (some (40, 0, 0))), some (aI (iZ x1)), some (aI (iZ x2))], [], am_hp σ, t) Q) : Wp k_X12_pricesAll d (4, [some (aR (some (40, 0, 0))), some (aI (iZ x1)), some (aI (iZ x2))], [], am_hp σ, t) Q := by
  refine w_s (c' := (5, [some (aR (some (40, 0, 0))), some (aI (iZ x1)), some (aI (iZ x2))], [aI (iZ x2)], am_hp σ, t)) rfl rfl ?_
  refine w_s (c' := (6, [some (aR (some (40, 0, 0))), some (aI (iZ x1)), some (aI (iZ x2))], [aR (some (40, 0, 0)), aI (iZ x2)], am_hp σ, t)) rfl rfl ?_
  refine w_get rfl (hp_40 _ 0) rfl rfl ?_
  refine w_psh rfl zc_0 rfl ?_
  refine w_ial rfl (hp_42 _ 0 0) (by decide) rfl rfl ?_
  refine w_e (c' := (11, [some (aR (some (40, 0, 0))), some (aI (iZ x1)), some (aI (iZ x2))], [aI (iZ (σ.1 (42, 0, 0) 0)), aI (iZ x2)], am_hp σ, t)) rfl ?_
  exact w_icge rfl h1 h2 rfl w3 w4

theorem b_X12_pricesAll_14 {x1 : Int} {x2 : Int} {r1 : Int} {σ σ1 : SG} {t : KT} (c1 : Ca d 250 [aR (some (40, 0, 0)), aI (iZ x2)] (am_hp σ) t (.inl (some (aI (iZ r1))), am_hp σ1, t)) (w2 : Wp k_X12_pricesAll d (4, [some (aR (some (40, 0, 0))), some (aI (iZ (x1 + r1))), some (aI (iZ (x2 + 1)))], [], am_hp σ1, t) Q) : Wp k_X12_pricesAll d (14, [some (aR (some (40, 0, 0))), some (aI (iZ x1)), some (aI (iZ x2))], [], am_hp σ, t) Q := by
  refine w_s (c' := (15, [some (aR (some (40, 0, 0))), some (aI (iZ x1)), some (aI (iZ x2))], [aI (iZ x1)], am_hp σ, t)) rfl rfl ?_
  refine w_s (c' := (16, [some (aR (some (40, 0, 0))), some (aI (iZ x1)), some (aI (iZ x2))], [aR (some (40, 0, 0)), aI (iZ x1)], am_hp σ, t)) rfl rfl ?_
  refine w_s (c' := (17, [some (aR (some (40, 0, 0))), some (aI (iZ x1)), some (aI (iZ x2))], [aI (iZ x2), aR (some (40, 0, 0)), aI (iZ x1)], am_hp σ, t)) rfl rfl ?_
  refine w_c0 (c' := (20, [some (aR (some (40, 0, 0))), some (aI (iZ x1)), some (aI (iZ x2))], [aI (iZ r1), aI (iZ x1)], am_hp σ1, t)) rfl rfl (rcv_of (hp_40 _ 0)) rfl c1 (Nat.le_refl _) rfl ?_
  refine w_iadd rfl rfl ?_
  refine w_s (c' := (22, [some (aR (some (40, 0, 0))), some (aI (iZ (x1 + r1))), some (aI (iZ x2))], [], am_hp σ1, t)) rfl rfl ?_
  refine w_inc (a := x2) (ls' := [some (aR (some (40, 0, 0))), some (aI (iZ (x1 + r1))), some (aI (iZ (x2 + 1)))]) rfl rfl rfl zc_1 rfl rfl ?_
  refine w_s (c' := (4, [some (aR (some (40, 0, 0))), some (aI (iZ (x1 + r1))), some (aI (iZ (x2 + 1)))], [], am_hp σ1, t)) rfl rfl ?_
  exact w2

theorem b_X12_pricesAll_28 {x1 : Int} {x2 : Int} {σ : SG} {t : KT} (q1 : Q (.inl (some (aI (iZ x1))), am_hp σ, t)) : Wp k_X12_pricesAll d (28, [some (aR (some (40, 0, 0))), some (aI (iZ x1)), some (aI (iZ x2))], [], am_hp σ, t) Q := by
  refine w_s (c' := (29, [some (aR (some (40, 0, 0))), some (aI (iZ x1)), some (aI (iZ x2))], [aI (iZ x1)], am_hp σ, t)) rfl rfl ?_
  exact w_ret rfl rfl q1

theorem b_X12_priceOf_0 {x1 : Int} {r1 : Int} {σ σ1 : SG} {t : KT} (c1 : Ca d 235 [aR (some (40, 0, 0)), aI (iZ x1)] (am_hp σ) t (.inl (some (aI (iZ r1))), am_hp σ1, t)) (h2 : -2147483648 ≤ r1 ∧ r1 < 2147483648) (w3 : r1 ≠ 0 → Wp k_X12_priceOf d (14, [some (aR (some (40, 0, 0))), some (aI (iZ x1)), some (aI (iZ r1))], [], am_hp σ1, t) Q) (w4 : r1 = 0 → Wp k_X12_priceOf d (10, [some (aR (some (40, 0, 0))), some (aI (iZ x1)), some (aI (iZ r1))], [], am_hp σ1, t) Q) : Wp k_X12_priceOf d (0, [some (aR (some (40, 0, 0))), some (aI (iZ x1)), none], [], am_hp σ, t) Q := by
  refine w_s (c' := (1, [some (aR (some (40, 0, 0))), some (aI (iZ x1)), none], [aR (some (40, 0, 0))], am_hp σ, t)) rfl rfl ?_
  refine w_s (c' := (2, [some (aR (some (40, 0, 0))), some (aI (iZ x1)), none], [aI (iZ x1), aR (some (40, 0, 0))], am_hp σ, t)) rfl rfl ?_
  refine w_c0 (c' := (5, [some (aR (some (40, 0, 0))), some (aI (iZ x1)), none], [aI (iZ r1)], am_hp σ1, t)) rfl rfl (rcv_of (hp_40 _ 0)) rfl c1 (Nat.le_refl _) rfl ?_
  refine w_s (c' := (6, [some (aR (some (40, 0, 0))), some (aI (iZ x1)), some (aI (iZ r1))], [], am_hp σ1, t)) rfl rfl ?_
  refine w_s (c' := (7, [some (aR (some (40, 0, 0))), some (aI (iZ x1)), some (aI (iZ r1))], [aI (iZ r1)], am_hp σ1, t)) rfl rfl ?_
  exact w_ifne rfl h2 rfl w3 w4

theorem e_X12_priceOf {x1 : Int} {h : AH} {t : KT} {d : Nat} {P : RS → Prop} (w : Wp k_X12_priceOf d (0, [some (aR (some (40, 0, 0))), some (aI (iZ x1)), none], [], h, t) P) : ∃ r, Ca (d + 1) 250 [aR (some (40, 0, 0)), aI (iZ x1)] h t r ∧ P r := ca_W rfl rfl rfl rfl w

theorem b_X12_priceOf_10 {x1 : Int} {x2 : Int} {σ : SG} {t : KT} (w1 : Wp k_X12_priceOf d (18, [some (aR (some (40, 0, 0))), some (aI (iZ x1)), some (aI (iZ x2))], [aI (iZ 0)], am_hp σ, t) Q) : Wp k_X12_priceOf d (10, [some (aR (some (40, 0, 0))), some (aI (iZ x1)), some (aI (iZ x2))], [], am_hp σ, t) Q := by
  refine w_psh rfl zc_0 rfl ?_
  refine w_s (c' := (18, [some (aR (some (40, 0, 0))), some (aI (iZ x1)), some (aI (iZ x2))], [aI (iZ 0)], am_hp σ, t)) rfl rfl ?_
  exact w1

theorem b_X12_priceOf_14 {x1 : Int} {x2 : Int} {r1 : Int} {σ σ1 : SG} {t : KT} (c1 : Ca d 239 [aR (some (40, 0, 0))] (am_hp σ) t (.inl (some (aI (iZ r1))), am_hp σ1, t)) (w2 : Wp k_X12_priceOf d (18, [some (aR (some (40, 0, 0))), some (aI (iZ x1)), some (aI (iZ x2))], [aI (iZ r1)], am_hp σ1, t) Q) : Wp k_X12_priceOf d (14, [some (aR (some (40, 0, 0))), some (aI (iZ x1)), some (aI (iZ x2))], [], am_hp σ, t) Q := by
  refine w_s (c' := (15, [some (aR (some (40, 0, 0))), some (aI (iZ x1)), some (aI (iZ x2))], [aR (some (40, 0, 0))], am_hp σ, t)) rfl rfl ?_
  refine w_c0 (c' := (18, [some (aR (some (40, 0, 0))), some (aI (iZ x1)), some (aI (iZ x2))], [aI (iZ r1)], am_hp σ1, t)) rfl rfl (rcv_of (hp_40 _ 0)) rfl c1 (Nat.le_refl _) rfl ?_
  exact w2

theorem b_X12_priceOf_18 {x1 : Int} {x2 : Int} {xs0 : Int} {σ : SG} {t : KT} (q1 : Q (.inl (some (aI (iZ xs0))), am_hp σ, t)) : Wp k_X12_priceOf d (18, [some (aR (some (40, 0, 0))), some (aI (iZ x1)), some (aI (iZ x2))], [aI (iZ xs0)], am_hp σ, t) Q := by
  exact w_ret rfl rfl q1

theorem b_X12_setting_0 {x1 : Int} {r1 : Int} {r2 : Int} {σ σ1 σ2 : SG} {t : KT} (h1 : -2147483648 ≤ x1 ∧ x1 < 2147483648) (c2 : Ca d 175 [aL (jZ x1), aL (jZ 0), aL (jZ 5)] (am_hp σ) t (.inl (some (aI (iZ r1))), am_hp σ1, t)) (c3 : Ca d 178 [aR (some (40, 0, 0)), aI (iZ r1)] (am_hp σ1) t (.inl (some (aI (iZ r2))), am_hp σ2, t)) (h4 : -2147483648 ≤ r2 ∧ r2 < 2147483648) (w5 : r2 ≠ 0 → Wp k_X12_setting d (18, [some (aR (some (40, 0, 0))), some (aI (iZ x1))], [], am_hp σ2, t) Q) (w6 : r2 = 0 → Wp k_X12_setting d (16, [some (aR (some (40, 0, 0))), some (aI (iZ x1))], [], am_hp σ2, t) Q) : Wp k_X12_setting d (0, [some (aR (some (40, 0, 0))), some (aI (iZ x1))], [], am_hp σ, t) Q := by
  refine w_s (c' := (1, [some (aR (some (40, 0, 0))), some (aI (iZ x1))], [aR (some (40, 0, 0))], am_hp σ, t)) rfl rfl ?_
  refine w_s (c' := (2, [some (aR (some (40, 0, 0))), some (aI (iZ x1))], [aI (iZ x1), aR (some (40, 0, 0))], am_hp σ, t)) rfl rfl ?_
  refine w_i2l rfl rfl h1 ?_
  refine w_psL rfl yc_0 rfl ?_
  refine w_psL rfl yc_5 rfl ?_
  refine w_c0 (c' := (10, [some (aR (some (40, 0, 0))), some (aI (iZ x1))], [aI (iZ r1), aR (some (40, 0, 0))], am_hp σ1, t)) rfl rfl rfl rfl c2 (Nat.le_refl _) rfl ?_
  refine w_c0 (c' := (13, [some (aR (some (40, 0, 0))), some (aI (iZ x1))], [aI (iZ r2)], am_hp σ2, t)) rfl rfl (rcv_of (hp_40 _ 0)) rfl c3 (Nat.le_refl _) rfl ?_
  exact w_ifne rfl h4 rfl w5 w6

theorem e_X12_setting {x1 : Int} {h : AH} {t : KT} {d : Nat} {P : RS → Prop} (w : Wp k_X12_setting d (0, [some (aR (some (40, 0, 0))), some (aI (iZ x1))], [], h, t) P) : ∃ r, Ca (d + 1) 251 [aR (some (40, 0, 0)), aI (iZ x1)] h t r ∧ P r := ca_W rfl rfl rfl rfl w

theorem b_X12_setting_16 {x1 : Int} {σ : SG} {t : KT} (q1 : Q (.inl (some (aI (iZ 0))), am_hp σ, t)) : Wp k_X12_setting d (16, [some (aR (some (40, 0, 0))), some (aI (iZ x1))], [], am_hp σ, t) Q := by
  refine w_psh rfl zc_0 rfl ?_
  exact w_ret rfl rfl q1

theorem b_X12_setting_18 {x1 : Int} {σ : SG} {t : KT} (h1 : -2147483648 ≤ x1 ∧ x1 < 2147483648) (w2 : x1 = 3 → Wp k_X12_setting d (44, [some (aR (some (40, 0, 0))), some (aI (iZ x1))], [], am_hp σ, t) Q) (w3 : x1 = 4 → Wp k_X12_setting d (49, [some (aR (some (40, 0, 0))), some (aI (iZ x1))], [], am_hp σ, t) Q) (w4 : x1 = 5 → Wp k_X12_setting d (54, [some (aR (some (40, 0, 0))), some (aI (iZ x1))], [], am_hp σ, t) Q) (w5 : (x1 < 3 ∨ 6 ≤ x1) → Wp k_X12_setting d (59, [some (aR (some (40, 0, 0))), some (aI (iZ x1))], [], am_hp σ, t) Q) : Wp k_X12_setting d (18, [some (aR (some (40, 0, 0))), some (aI (iZ x1))], [], am_hp σ, t) Q := by
  refine w_s (c' := (19, [some (aR (some (40, 0, 0))), some (aI (iZ x1))], [aI (iZ x1)], am_hp σ, t)) rfl rfl ?_
  refine w_tab rfl h1 ?_
  rcases (by omega : x1 = 3 ∨ x1 = 4 ∨ x1 = 5 ∨ (x1 < 3 ∨ 6 ≤ x1)) with hd | hd | hd | hd
  · rw [show (if x1 < (3 : Int) then 59 else [44, 49, 54].getD (x1 - 3).toNat 59) = 44 by rw [hd]; rfl]; exact w2 hd
  · rw [show (if x1 < (3 : Int) then 59 else [44, 49, 54].getD (x1 - 3).toNat 59) = 49 by rw [hd]; rfl]; exact w3 hd
  · rw [show (if x1 < (3 : Int) then 59 else [44, 49, 54].getD (x1 - 3).toNat 59) = 54 by rw [hd]; rfl]; exact w4 hd
  · rw [show (if x1 < (3 : Int) then 59 else [44, 49, 54].getD (x1 - 3).toNat 59) = 59 by exact tgt_df [44, 49, 54] _ (by decide) hd]; exact w5 hd

theorem b_X12_setting_44 {x1 : Int} {r1 : Int} {σ σ1 : SG} {t : KT} (c1 : Ca d 212 [aR (some (40, 0, 0))] (am_hp σ) t (.inl (some (aI (iZ r1))), am_hp σ1, t)) (q2 : Q (.inl (some (aI (iZ r1))), am_hp σ1, t)) : Wp k_X12_setting d (44, [some (aR (some (40, 0, 0))), some (aI (iZ x1))], [], am_hp σ, t) Q := by
  refine w_s (c' := (45, [some (aR (some (40, 0, 0))), some (aI (iZ x1))], [aR (some (40, 0, 0))], am_hp σ, t)) rfl rfl ?_
  refine w_c0 (c' := (48, [some (aR (some (40, 0, 0))), some (aI (iZ x1))], [aI (iZ r1)], am_hp σ1, t)) rfl rfl (rcv_of (hp_40 _ 0)) rfl c1 (Nat.le_refl _) rfl ?_
  exact w_ret rfl rfl q2

theorem b_X12_setting_49 {x1 : Int} {r1 : Int} {σ σ1 : SG} {t : KT} (c1 : Ca d 248 [aR (some (40, 0, 0))] (am_hp σ) t (.inl (some (aI (iZ r1))), am_hp σ1, t)) (q2 : Q (.inl (some (aI (iZ r1))), am_hp σ1, t)) : Wp k_X12_setting d (49, [some (aR (some (40, 0, 0))), some (aI (iZ x1))], [], am_hp σ, t) Q := by
  refine w_s (c' := (50, [some (aR (some (40, 0, 0))), some (aI (iZ x1))], [aR (some (40, 0, 0))], am_hp σ, t)) rfl rfl ?_
  refine w_c0 (c' := (53, [some (aR (some (40, 0, 0))), some (aI (iZ x1))], [aI (iZ r1)], am_hp σ1, t)) rfl rfl (rcv_of (hp_40 _ 0)) rfl c1 (Nat.le_refl _) rfl ?_
  exact w_ret rfl rfl q2

theorem b_X12_setting_54 {x1 : Int} {r1 : Int} {σ σ1 : SG} {t : KT} (c1 : Ca d 249 [aR (some (40, 0, 0))] (am_hp σ) t (.inl (some (aI (iZ r1))), am_hp σ1, t)) (q2 : Q (.inl (some (aI (iZ r1))), am_hp σ1, t)) : Wp k_X12_setting d (54, [some (aR (some (40, 0, 0))), some (aI (iZ x1))], [], am_hp σ, t) Q := by
  refine w_s (c' := (55, [some (aR (some (40, 0, 0))), some (aI (iZ x1))], [aR (some (40, 0, 0))], am_hp σ, t)) rfl rfl ?_
  refine w_c0 (c' := (58, [some (aR (some (40, 0, 0))), some (aI (iZ x1))], [aI (iZ r1)], am_hp σ1, t)) rfl rfl (rcv_of (hp_40 _ 0)) rfl c1 (Nat.le_refl _) rfl ?_
  exact w_ret rfl rfl q2

theorem b_X12_setting_59 {x1 : Int} {σ : SG} {t : KT} (h1 : 0 ≤ x1 ∧ x1 < 264) (q2 : Q (.inl (some (aI (iZ (σ.1 (42, 0, 0) x1.toNat)))), am_hp σ, t)) : Wp k_X12_setting d (59, [some (aR (some (40, 0, 0))), some (aI (iZ x1))], [], am_hp σ, t) Q := by
  refine w_s (c' := (60, [some (aR (some (40, 0, 0))), some (aI (iZ x1))], [aR (some (40, 0, 0))], am_hp σ, t)) rfl rfl ?_
  refine w_get rfl (hp_40 _ 0) rfl rfl ?_
  refine w_s (c' := (64, [some (aR (some (40, 0, 0))), some (aI (iZ x1))], [aI (iZ x1), aR (some (42, 0, 0))], am_hp σ, t)) rfl rfl ?_
  refine w_ial rfl (hp_42 _ 0 0) h1 rfl rfl ?_
  exact w_ret rfl rfl q2

theorem b_X12_lettersOf_0 {y0 : Int} {σ : SG} {t : KT} (w1 : Wp k_X12_lettersOf d (4, [some (aL (jZ y0)), none, some (aI (iZ 0)), some (aL (jZ y0)), none], [], am_hp σ, t) Q) : Wp k_X12_lettersOf d (0, [some (aL (jZ y0)), none, none, none, none], [], am_hp σ, t) Q := by
  refine w_psh rfl zc_0 rfl ?_
  refine w_s (c' := (2, [some (aL (jZ y0)), none, some (aI (iZ 0)), none, none], [], am_hp σ, t)) rfl rfl ?_
  refine w_s (c' := (3, [some (aL (jZ y0)), none, some (aI (iZ 0)), none, none], [aL (jZ y0)], am_hp σ, t)) rfl rfl ?_
  refine w_s (c' := (4, [some (aL (jZ y0)), none, some (aI (iZ 0)), some (aL (jZ y0)), none], [], am_hp σ, t)) rfl rfl ?_
  exact w1

theorem e_X12_lettersOf {y0 : Int} {h : AH} {t : KT} {d : Nat} {P : RS → Prop} (w : Wp k_X12_lettersOf d (0, [some (aL (jZ y0)), none, none, none, none], [], h, t) P) : ∃ r, Ca (d + 1) 252 [aL (jZ y0)] h t r ∧ P r := ca_W rfl rfl rfl rfl w

theorem b_X12_lettersOf_4 {y0 : Int} {x2 : Int} {y3 : Int} {σ : SG} {t : KT} (h1 : -2147483648 ≤ ycmp y3 0 ∧ ycmp y3 0 < 2147483648) (w2 : ycmp y3 0 ≤ 0 → Wp k_X12_lettersOf d (20, [some (aL (jZ y0)), none, some (aI (iZ x2)), some (aL (jZ y3)), none], [], am_hp σ, t) Q) (w3 : 0 < ycmp y3 0 → Wp k_X12_lettersOf d (10, [some (aL (jZ y0)), none, some (aI (iZ x2)), some (aL (jZ y3)), none], [], am_hp σ, t) Q) : Wp k_X12_lettersOf d (4, [some (aL (jZ y0)), none, some (aI (iZ x2)), some (aL (jZ y3)), none], [], am_hp σ, t) Q := by
  refine w_s (c' := (5, [some (aL (jZ y0)), none, some (aI (iZ x2)), some (aL (jZ y3)), none], [aL (jZ y3)], am_hp σ, t)) rfl rfl ?_
  refine w_psL rfl yc_0 rfl ?_
  refine w_lcmp rfl rfl ?_
  exact w_ifle rfl h1 rfl w2 w3

theorem b_X12_lettersOf_10 {y0 : Int} {x2 : Int} {y3 : Int} {σ : SG} {t : KT} (w1 : Wp k_X12_lettersOf d (4, [some (aL (jZ y0)), none, some (aI (iZ (x2 + 1))), some (aL (jZ (yshr y3 5))), none], [], am_hp σ, t) Q) : Wp k_X12_lettersOf d (10, [some (aL (jZ y0)), none, some (aI (iZ x2)), some (aL (jZ y3)), none], [], am_hp σ, t) Q := by
  refine w_inc (a := x2) (ls' := [some (aL (jZ y0)), none, some (aI (iZ (x2 + 1))), some (aL (jZ y3)), none]) rfl rfl rfl zc_1 rfl rfl ?_
  refine w_s (c' := (14, [some (aL (jZ y0)), none, some (aI (iZ (x2 + 1))), some (aL (jZ y3)), none], [aL (jZ y3)], am_hp σ, t)) rfl rfl ?_
  refine w_psh rfl zc_5 rfl ?_
  refine w_lshr rfl rfl ?_
  refine w_s (c' := (17, [some (aL (jZ y0)), none, some (aI (iZ (x2 + 1))), some (aL (jZ (yshr y3 5))), none], [], am_hp σ, t)) rfl rfl ?_
  refine w_s (c' := (4, [some (aL (jZ y0)), none, some (aI (iZ (x2 + 1))), some (aL (jZ (yshr y3 5))), none], [], am_hp σ, t)) rfl rfl ?_
  exact w1

theorem b_X12_lettersOf_20 {y0 : Int} {x2 : Int} {y3 : Int} {σ : SG} {t : KT} (q1 : Q (.inl (some (aI (iZ x2))), am_hp σ, t)) : Wp k_X12_lettersOf d (20, [some (aL (jZ y0)), none, some (aI (iZ x2)), some (aL (jZ y3)), none], [], am_hp σ, t) Q := by
  refine w_s (c' := (21, [some (aL (jZ y0)), none, some (aI (iZ x2)), some (aL (jZ y3)), none], [aI (iZ x2)], am_hp σ, t)) rfl rfl ?_
  exact w_ret rfl rfl q1

theorem b_X12_letterOf_0 {y0 : Int} {x2 : Int} {r1 : Int} {r2 : Int} {σ σ1 σ2 : SG} {t : KT} (c1 : Ca d 252 [aL (jZ y0)] (am_hp σ) t (.inl (some (aI (iZ r1))), am_hp σ1, t)) (h2 : -2147483648 ≤ x2 ∧ x2 < 2147483648) (h3 : -2147483648 ≤ r1 - 1 ∧ r1 - 1 < 2147483648) (c4 : Ca d 175 [aL (jZ x2), aL (jZ 0), aL (jZ (r1 - 1))] (am_hp σ1) t (.inl (some (aI (iZ r2))), am_hp σ2, t)) (h5 : -2147483648 ≤ r2 ∧ r2 < 2147483648) (w6 : r2 = 0 → Wp k_X12_letterOf d (35, [some (aL (jZ y0)), none, some (aI (iZ x2)), some (aI (iZ r1))], [], am_hp σ2, t) Q) (w7 : r2 ≠ 0 → Wp k_X12_letterOf d (18, [some (aL (jZ y0)), none, some (aI (iZ x2)), some (aI (iZ r1))], [], am_hp σ2, t) Q) : Wp k_X12_letterOf d (0, [some (aL (jZ y0)), none, some (aI (iZ x2)), none], [], am_hp σ, t) Q := by
  refine w_s (c' := (1, [some (aL (jZ y0)), none, some (aI (iZ x2)), none], [aL (jZ y0)], am_hp σ, t)) rfl rfl ?_
  refine w_c0 (c' := (4, [some (aL (jZ y0)), none, some (aI (iZ x2)), none], [aI (iZ r1)], am_hp σ1, t)) rfl rfl rfl rfl c1 (Nat.le_refl _) rfl ?_
  refine w_s (c' := (5, [some (aL (jZ y0)), none, some (aI (iZ x2)), some (aI (iZ r1))], [], am_hp σ1, t)) rfl rfl ?_
  refine w_s (c' := (6, [some (aL (jZ y0)), none, some (aI (iZ x2)), some (aI (iZ r1))], [aI (iZ x2)], am_hp σ1, t)) rfl rfl ?_
  refine w_i2l rfl rfl h2 ?_
  refine w_psL rfl yc_0 rfl ?_
  refine w_s (c' := (9, [some (aL (jZ y0)), none, some (aI (iZ x2)), some (aI (iZ r1))], [aI (iZ r1), aL (jZ 0), aL (jZ x2)], am_hp σ1, t)) rfl rfl ?_
  refine w_psh rfl zc_1 rfl ?_
  refine w_isub rfl rfl ?_
  refine w_i2l rfl rfl h3 ?_
  refine w_c0 (c' := (15, [some (aL (jZ y0)), none, some (aI (iZ x2)), some (aI (iZ r1))], [aI (iZ r2)], am_hp σ2, t)) rfl rfl rfl rfl c4 (Nat.le_refl _) rfl ?_
  exact w_ifeq rfl h5 rfl w6 w7

theorem e_X12_letterOf {y0 : Int} {x2 : Int} {h : AH} {t : KT} {d : Nat} {P : RS → Prop} (w : Wp k_X12_letterOf d (0, [some (aL (jZ y0)), none, some (aI (iZ x2)), none], [], h, t) P) : ∃ r, Ca (d + 1) 253 [aL (jZ y0), aI (iZ x2)] h t r ∧ P r := ca_W rfl rfl rfl rfl w

theorem b_X12_letterOf_18 {y0 : Int} {x2 : Int} {x3 : Int} {σ : SG} {t : KT} (w1 : Wp k_X12_letterOf d (36, [some (aL (jZ y0)), none, some (aI (iZ x2)), some (aI (iZ x3))], [aI (iZ (zl2i (yand (yshr y0 (5 * ((x3 - 1) - x2))) 31)))], am_hp σ, t) Q) : Wp k_X12_letterOf d (18, [some (aL (jZ y0)), none, some (aI (iZ x2)), some (aI (iZ x3))], [], am_hp σ, t) Q := by
  refine w_s (c' := (19, [some (aL (jZ y0)), none, some (aI (iZ x2)), some (aI (iZ x3))], [aL (jZ y0)], am_hp σ, t)) rfl rfl ?_
  refine w_psh rfl zc_5 rfl ?_
  refine w_s (c' := (21, [some (aL (jZ y0)), none, some (aI (iZ x2)), some (aI (iZ x3))], [aI (iZ x3), aI (iZ 5), aL (jZ y0)], am_hp σ, t)) rfl rfl ?_
  refine w_psh rfl zc_1 rfl ?_
  refine w_isub rfl rfl ?_
  refine w_s (c' := (24, [some (aL (jZ y0)), none, some (aI (iZ x2)), some (aI (iZ x3))], [aI (iZ x2), aI (iZ (x3 - 1)), aI (iZ 5), aL (jZ y0)], am_hp σ, t)) rfl rfl ?_
  refine w_isub rfl rfl ?_
  refine w_imul rfl rfl ?_
  refine w_lshr rfl rfl ?_
  refine w_psL rfl yc_31 rfl ?_
  refine w_land rfl rfl ?_
  refine w_l2i rfl rfl ?_
  refine w_s (c' := (36, [some (aL (jZ y0)), none, some (aI (iZ x2)), some (aI (iZ x3))], [aI (iZ (zl2i (yand (yshr y0 (5 * ((x3 - 1) - x2))) 31)))], am_hp σ, t)) rfl rfl ?_
  exact w1

theorem b_X12_letterOf_35 {y0 : Int} {x2 : Int} {x3 : Int} {σ : SG} {t : KT} (w1 : Wp k_X12_letterOf d (36, [some (aL (jZ y0)), none, some (aI (iZ x2)), some (aI (iZ x3))], [aI (iZ 0)], am_hp σ, t) Q) : Wp k_X12_letterOf d (35, [some (aL (jZ y0)), none, some (aI (iZ x2)), some (aI (iZ x3))], [], am_hp σ, t) Q := by
  refine w_psh rfl zc_0 rfl ?_
  exact w1

theorem b_X12_letterOf_36 {y0 : Int} {x2 : Int} {x3 : Int} {xs0 : Int} {σ : SG} {t : KT} (q1 : Q (.inl (some (aI (iZ xs0))), am_hp σ, t)) : Wp k_X12_letterOf d (36, [some (aL (jZ y0)), none, some (aI (iZ x2)), some (aI (iZ x3))], [aI (iZ xs0)], am_hp σ, t) Q := by
  exact w_ret rfl rfl q1

theorem b_X12_letter_0 {x1 : Int} {x2 : Int} {r1 : Int} {r2 : Int} {σ σ1 σ2 : SG} {t : KT} (c1 : Ca d 217 [aR (some (40, 0, 0)), aI (iZ x1)] (am_hp σ) t (.inl (some (aI (iZ r1))), am_hp σ1, t)) (c2 : Ca d 178 [aR (some (40, 0, 0)), aI (iZ r1)] (am_hp σ1) t (.inl (some (aI (iZ r2))), am_hp σ2, t)) (h3 : -2147483648 ≤ r2 ∧ r2 < 2147483648) (w4 : r2 = 0 → Wp k_X12_letter d (24, [some (aR (some (40, 0, 0))), some (aI (iZ x1)), some (aI (iZ x2))], [], am_hp σ2, t) Q) (w5 : r2 ≠ 0 → Wp k_X12_letter d (12, [some (aR (some (40, 0, 0))), some (aI (iZ x1)), some (aI (iZ x2))], [], am_hp σ2, t) Q) : Wp k_X12_letter d (0, [some (aR (some (40, 0, 0))), some (aI (iZ x1)), some (aI (iZ x2))], [], am_hp σ, t) Q := by
  refine w_s (c' := (1, [some (aR (some (40, 0, 0))), some (aI (iZ x1)), some (aI (iZ x2))], [aR (some (40, 0, 0))], am_hp σ, t)) rfl rfl ?_
  refine w_s (c' := (2, [some (aR (some (40, 0, 0))), some (aI (iZ x1)), some (aI (iZ x2))], [aR (some (40, 0, 0)), aR (some (40, 0, 0))], am_hp σ, t)) rfl rfl ?_
  refine w_s (c' := (3, [some (aR (some (40, 0, 0))), some (aI (iZ x1)), some (aI (iZ x2))], [aI (iZ x1), aR (some (40, 0, 0)), aR (some (40, 0, 0))], am_hp σ, t)) rfl rfl ?_
  refine w_c0 (c' := (6, [some (aR (some (40, 0, 0))), some (aI (iZ x1)), some (aI (iZ x2))], [aI (iZ r1), aR (some (40, 0, 0))], am_hp σ1, t)) rfl rfl (rcv_of (hp_40 _ 0)) rfl c1 (Nat.le_refl _) rfl ?_
  refine w_c0 (c' := (9, [some (aR (some (40, 0, 0))), some (aI (iZ x1)), some (aI (iZ x2))], [aI (iZ r2)], am_hp σ2, t)) rfl rfl (rcv_of (hp_40 _ 0)) rfl c2 (Nat.le_refl _) rfl ?_
  exact w_ifeq rfl h3 rfl w4 w5

theorem e_X12_letter {x1 : Int} {x2 : Int} {h : AH} {t : KT} {d : Nat} {P : RS → Prop} (w : Wp k_X12_letter d (0, [some (aR (some (40, 0, 0))), some (aI (iZ x1)), some (aI (iZ x2))], [], h, t) P) : ∃ r, Ca (d + 1) 254 [aR (some (40, 0, 0)), aI (iZ x1), aI (iZ x2)] h t r ∧ P r := ca_W rfl rfl rfl rfl w

theorem b_X12_letter_12 {x1 : Int} {x2 : Int} {r1 : Int} {r2 : Int} {σ σ1 σ2 : SG} {t : KT} (c1 : Ca d 220 [aR (some (40, 0, 0)), aI (iZ x1)] (am_hp σ) t (.inl (some (aL (jZ r1))), am_hp σ1, t)) (c2 : Ca d 253 [aL (jZ r1), aI (iZ x2)] (am_hp σ1) t (.inl (some (aI (iZ r2))), am_hp σ2, t)) (w3 : Wp k_X12_letter d (25, [some (aR (some (40, 0, 0))), some (aI (iZ x1)), some (aI (iZ x2))], [aI (iZ r2)], am_hp σ2, t) Q) : Wp k_X12_letter d (12, [some (aR (some (40, 0, 0))), some (aI (iZ x1)), some (aI (iZ x2))], [], am_hp σ, t) Q := by
  refine w_s (c' := (13, [some (aR (some (40, 0, 0))), some (aI (iZ x1)), some (aI (iZ x2))], [aR (some (40, 0, 0))], am_hp σ, t)) rfl rfl ?_
  refine w_s (c' := (14, [some (aR (some (40, 0, 0))), some (aI (iZ x1)), some (aI (iZ x2))], [aI (iZ x1), aR (some (40, 0, 0))], am_hp σ, t)) rfl rfl ?_
  refine w_c0 (c' := (17, [some (aR (some (40, 0, 0))), some (aI (iZ x1)), some (aI (iZ x2))], [aL (jZ r1)], am_hp σ1, t)) rfl rfl (rcv_of (hp_40 _ 0)) rfl c1 (Nat.le_refl _) rfl ?_
  refine w_s (c' := (18, [some (aR (some (40, 0, 0))), some (aI (iZ x1)), some (aI (iZ x2))], [aI (iZ x2), aL (jZ r1)], am_hp σ1, t)) rfl rfl ?_
  refine w_c0 (c' := (21, [some (aR (some (40, 0, 0))), some (aI (iZ x1)), some (aI (iZ x2))], [aI (iZ r2)], am_hp σ2, t)) rfl rfl rfl rfl c2 (Nat.le_refl _) rfl ?_
  refine w_s (c' := (25, [some (aR (some (40, 0, 0))), some (aI (iZ x1)), some (aI (iZ x2))], [aI (iZ r2)], am_hp σ2, t)) rfl rfl ?_
  exact w3

theorem b_X12_letter_24 {x1 : Int} {x2 : Int} {σ : SG} {t : KT} (w1 : Wp k_X12_letter d (25, [some (aR (some (40, 0, 0))), some (aI (iZ x1)), some (aI (iZ x2))], [aI (iZ 0)], am_hp σ, t) Q) : Wp k_X12_letter d (24, [some (aR (some (40, 0, 0))), some (aI (iZ x1)), some (aI (iZ x2))], [], am_hp σ, t) Q := by
  refine w_psh rfl zc_0 rfl ?_
  exact w1

theorem b_X12_letter_25 {x1 : Int} {x2 : Int} {xs0 : Int} {σ : SG} {t : KT} (q1 : Q (.inl (some (aI (iZ xs0))), am_hp σ, t)) : Wp k_X12_letter d (25, [some (aR (some (40, 0, 0))), some (aI (iZ x1)), some (aI (iZ x2))], [aI (iZ xs0)], am_hp σ, t) Q := by
  exact w_ret rfl rfl q1

theorem b_X12_wordsBySetWay_0 {x1 : Int} {σ : SG} {t : KT} (w1 : Wp k_X12_wordsBySetWay d (4, [some (aR (some (40, 0, 0))), some (aI (iZ x1)), some (aI (iZ 0)), some (aI (iZ 0)), none, none], [], am_hp σ, t) Q) : Wp k_X12_wordsBySetWay d (0, [some (aR (some (40, 0, 0))), some (aI (iZ x1)), none, none, none, none], [], am_hp σ, t) Q := by
  refine w_psh rfl zc_0 rfl ?_
  refine w_s (c' := (2, [some (aR (some (40, 0, 0))), some (aI (iZ x1)), some (aI (iZ 0)), none, none, none], [], am_hp σ, t)) rfl rfl ?_
  refine w_psh rfl zc_0 rfl ?_
  refine w_s (c' := (4, [some (aR (some (40, 0, 0))), some (aI (iZ x1)), some (aI (iZ 0)), some (aI (iZ 0)), none, none], [], am_hp σ, t)) rfl rfl ?_
  exact w1

theorem e_X12_wordsBySetWay {x1 : Int} {h : AH} {t : KT} {d : Nat} {P : RS → Prop} (w : Wp k_X12_wordsBySetWay d (0, [some (aR (some (40, 0, 0))), some (aI (iZ x1)), none, none, none, none], [], h, t) P) : ∃ r, Ca (d + 1) 255 [aR (some (40, 0, 0)), aI (iZ x1)] h t r ∧ P r := ca_W rfl rfl rfl rfl w

theorem b_X12_wordsBySetWay_4 {x1 : Int} {x2 : Int} {x3 : Int} {u4 : Option AV} {u5 : Option AV} {σ : SG} {t : KT} (h1 : -2147483648 ≤ x3 ∧ x3 < 2147483648) (h2 : -2147483648 ≤ σ.1 (42, 0, 0) 0 ∧ σ.1 (42, 0, 0) 0 < 2147483648) (w3 : σ.1 (42, 0, 0) 0 ≤ x3 → Wp k_X12_wordsBySetWay d (65, [some (aR (some (40, 0, 0))), some (aI (iZ x1)), some (aI (iZ x2)), some (aI (iZ x3)), u4, u5], [], am_hp σ, t) Q) (w4 : x3 < σ.1 (42, 0, 0) 0 → Wp k_X12_wordsBySetWay d (14, [some (aR (some (40, 0, 0))), some (aI (iZ x1)), some (aI (iZ x2)), some (aI (iZ x3)), u4, u5], [], am_hp σ, t) Q) : Wp k_X12_wordsBySetWay d (4, [some (aR (some (40, 0, 0))), some (aI (iZ x1)), some (aI (iZ x2)), some (aI (iZ x3)), u4, u5], [], am_hp σ, t) Q := by
  refine w_s (c' := (5, [some (aR (some (40, 0, 0))), some (aI (iZ x1)), some (aI (iZ x2)), some (aI (iZ x3)), u4, u5], [aI (iZ x3)], am_hp σ, t)) rfl rfl ?_
  refine w_s (c' := (6, [some (aR (some (40, 0, 0))), some (aI (iZ x1)), some (aI (iZ x2)), some (aI (iZ x3)), u4, u5], [aR (some (40, 0, 0)), aI (iZ x3)], am_hp σ, t)) rfl rfl ?_
  refine w_get rfl (hp_40 _ 0) rfl rfl ?_
  refine w_psh rfl zc_0 rfl ?_
  refine w_ial rfl (hp_42 _ 0 0) (by decide) rfl rfl ?_
  refine w_e (c' := (11, [some (aR (some (40, 0, 0))), some (aI (iZ x1)), some (aI (iZ x2)), some (aI (iZ x3)), u4, u5], [aI (iZ (σ.1 (42, 0, 0) 0)), aI (iZ x3)], am_hp σ, t)) rfl ?_
  exact w_icge rfl h1 h2 rfl w3 w4

theorem b_X12_wordsBySetWay_14 {x1 : Int} {x2 : Int} {x3 : Int} {u4 : Option AV} {u5 : Option AV} {r1 : Int} {σ σ1 : SG} {t : KT} (c1 : Ca d 235 [aR (some (40, 0, 0)), aI (iZ x3)] (am_hp σ) t (.inl (some (aI (iZ r1))), am_hp σ1, t)) (w2 : Wp k_X12_wordsBySetWay d (24, [some (aR (some (40, 0, 0))), some (aI (iZ x1)), some (aI (iZ x2)), some (aI (iZ x3)), some (aI (iZ r1)), some (aI (iZ 0))], [], am_hp σ1, t) Q) : Wp k_X12_wordsBySetWay d (14, [some (aR (some (40, 0, 0))), some (aI (iZ x1)), some (aI (iZ x2)), some (aI (iZ x3)), u4, u5], [], am_hp σ, t) Q := by
  refine w_s (c' := (15, [some (aR (some (40, 0, 0))), some (aI (iZ x1)), some (aI (iZ x2)), some (aI (iZ x3)), u4, u5], [aR (some (40, 0, 0))], am_hp σ, t)) rfl rfl ?_
  refine w_s (c' := (16, [some (aR (some (40, 0, 0))), some (aI (iZ x1)), some (aI (iZ x2)), some (aI (iZ x3)), u4, u5], [aI (iZ x3), aR (some (40, 0, 0))], am_hp σ, t)) rfl rfl ?_
  refine w_c0 (c' := (19, [some (aR (some (40, 0, 0))), some (aI (iZ x1)), some (aI (iZ x2)), some (aI (iZ x3)), u4, u5], [aI (iZ r1)], am_hp σ1, t)) rfl rfl (rcv_of (hp_40 _ 0)) rfl c1 (Nat.le_refl _) rfl ?_
  refine w_s (c' := (21, [some (aR (some (40, 0, 0))), some (aI (iZ x1)), some (aI (iZ x2)), some (aI (iZ x3)), some (aI (iZ r1)), u5], [], am_hp σ1, t)) rfl rfl ?_
  refine w_psh rfl zc_0 rfl ?_
  refine w_s (c' := (24, [some (aR (some (40, 0, 0))), some (aI (iZ x1)), some (aI (iZ x2)), some (aI (iZ x3)), some (aI (iZ r1)), some (aI (iZ 0))], [], am_hp σ1, t)) rfl rfl ?_
  exact w2

theorem b_X12_wordsBySetWay_24 {x1 : Int} {x2 : Int} {x3 : Int} {x4 : Int} {x5 : Int} {σ : SG} {t : KT} (h1 : -2147483648 ≤ x5 ∧ x5 < 2147483648) (h2 : -2147483648 ≤ x4 ∧ x4 < 2147483648) (w3 : x4 ≤ x5 → Wp k_X12_wordsBySetWay d (59, [some (aR (some (40, 0, 0))), some (aI (iZ x1)), some (aI (iZ x2)), some (aI (iZ x3)), some (aI (iZ x4)), some (aI (iZ x5))], [], am_hp σ, t) Q) (w4 : x5 < x4 → Wp k_X12_wordsBySetWay d (31, [some (aR (some (40, 0, 0))), some (aI (iZ x1)), some (aI (iZ x2)), some (aI (iZ x3)), some (aI (iZ x4)), some (aI (iZ x5))], [], am_hp σ, t) Q) : Wp k_X12_wordsBySetWay d (24, [some (aR (some (40, 0, 0))), some (aI (iZ x1)), some (aI (iZ x2)), some (aI (iZ x3)), some (aI (iZ x4)), some (aI (iZ x5))], [], am_hp σ, t) Q := by
  refine w_s (c' := (26, [some (aR (some (40, 0, 0))), some (aI (iZ x1)), some (aI (iZ x2)), some (aI (iZ x3)), some (aI (iZ x4)), some (aI (iZ x5))], [aI (iZ x5)], am_hp σ, t)) rfl rfl ?_
  refine w_s (c' := (28, [some (aR (some (40, 0, 0))), some (aI (iZ x1)), some (aI (iZ x2)), some (aI (iZ x3)), some (aI (iZ x4)), some (aI (iZ x5))], [aI (iZ x4), aI (iZ x5)], am_hp σ, t)) rfl rfl ?_
  exact w_icge rfl h1 h2 rfl w3 w4

theorem b_X12_wordsBySetWay_31 {x1 : Int} {x2 : Int} {x3 : Int} {x4 : Int} {x5 : Int} {σ : SG} {t : KT} (h1 : 0 ≤ x5 ∧ x5 < 120) (h2 : -2147483648 ≤ σ.1 (51, 0, 0) x5.toNat ∧ σ.1 (51, 0, 0) x5.toNat < 2147483648) (h3 : -2147483648 ≤ x1 ∧ x1 < 2147483648) (w4 : σ.1 (51, 0, 0) x5.toNat ≠ x1 → Wp k_X12_wordsBySetWay d (47, [some (aR (some (40, 0, 0))), some (aI (iZ x1)), some (aI (iZ x2)), some (aI (iZ x3)), some (aI (iZ x4)), some (aI (iZ x5))], [aI (iZ x2)], am_hp σ, t) Q) (w5 : σ.1 (51, 0, 0) x5.toNat = x1 → Wp k_X12_wordsBySetWay d (43, [some (aR (some (40, 0, 0))), some (aI (iZ x1)), some (aI (iZ x2)), some (aI (iZ x3)), some (aI (iZ x4)), some (aI (iZ x5))], [aI (iZ x2)], am_hp σ, t) Q) : Wp k_X12_wordsBySetWay d (31, [some (aR (some (40, 0, 0))), some (aI (iZ x1)), some (aI (iZ x2)), some (aI (iZ x3)), some (aI (iZ x4)), some (aI (iZ x5))], [], am_hp σ, t) Q := by
  refine w_s (c' := (32, [some (aR (some (40, 0, 0))), some (aI (iZ x1)), some (aI (iZ x2)), some (aI (iZ x3)), some (aI (iZ x4)), some (aI (iZ x5))], [aI (iZ x2)], am_hp σ, t)) rfl rfl ?_
  refine w_s (c' := (33, [some (aR (some (40, 0, 0))), some (aI (iZ x1)), some (aI (iZ x2)), some (aI (iZ x3)), some (aI (iZ x4)), some (aI (iZ x5))], [aR (some (40, 0, 0)), aI (iZ x2)], am_hp σ, t)) rfl rfl ?_
  refine w_get rfl (hp_40 _ 0) rfl rfl ?_
  refine w_s (c' := (38, [some (aR (some (40, 0, 0))), some (aI (iZ x1)), some (aI (iZ x2)), some (aI (iZ x3)), some (aI (iZ x4)), some (aI (iZ x5))], [aI (iZ x5), aR (some (51, 0, 0)), aI (iZ x2)], am_hp σ, t)) rfl rfl ?_
  refine w_ial rfl (hp_51 _ 0 0) h1 rfl rfl ?_
  refine w_s (c' := (40, [some (aR (some (40, 0, 0))), some (aI (iZ x1)), some (aI (iZ x2)), some (aI (iZ x3)), some (aI (iZ x4)), some (aI (iZ x5))], [aI (iZ x1), aI (iZ (σ.1 (51, 0, 0) x5.toNat)), aI (iZ x2)], am_hp σ, t)) rfl rfl ?_
  exact w_icne rfl h2 h3 rfl w4 w5

theorem b_X12_wordsBySetWay_43 {x1 : Int} {x2 : Int} {x3 : Int} {x4 : Int} {x5 : Int} {xs0 : Int} {σ : SG} {t : KT} (w1 : Wp k_X12_wordsBySetWay d (48, [some (aR (some (40, 0, 0))), some (aI (iZ x1)), some (aI (iZ x2)), some (aI (iZ x3)), some (aI (iZ x4)), some (aI (iZ x5))], [aI (iZ 1), aI (iZ xs0)], am_hp σ, t) Q) : Wp k_X12_wordsBySetWay d (43, [some (aR (some (40, 0, 0))), some (aI (iZ x1)), some (aI (iZ x2)), some (aI (iZ x3)), some (aI (iZ x4)), some (aI (iZ x5))], [aI (iZ xs0)], am_hp σ, t) Q := by
  refine w_psh rfl zc_1 rfl ?_
  refine w_s (c' := (48, [some (aR (some (40, 0, 0))), some (aI (iZ x1)), some (aI (iZ x2)), some (aI (iZ x3)), some (aI (iZ x4)), some (aI (iZ x5))], [aI (iZ 1), aI (iZ xs0)], am_hp σ, t)) rfl rfl ?_
  exact w1

theorem b_X12_wordsBySetWay_47 {x1 : Int} {x2 : Int} {x3 : Int} {x4 : Int} {x5 : Int} {xs0 : Int} {σ : SG} {t : KT} (w1 : Wp k_X12_wordsBySetWay d (48, [some (aR (some (40, 0, 0))), some (aI (iZ x1)), some (aI (iZ x2)), some (aI (iZ x3)), some (aI (iZ x4)), some (aI (iZ x5))], [aI (iZ 0), aI (iZ xs0)], am_hp σ, t) Q) : Wp k_X12_wordsBySetWay d (47, [some (aR (some (40, 0, 0))), some (aI (iZ x1)), some (aI (iZ x2)), some (aI (iZ x3)), some (aI (iZ x4)), some (aI (iZ x5))], [aI (iZ xs0)], am_hp σ, t) Q := by
  refine w_psh rfl zc_0 rfl ?_
  exact w1

theorem b_X12_wordsBySetWay_48 {x1 : Int} {x2 : Int} {x3 : Int} {x4 : Int} {x5 : Int} {xs0 : Int} {xs1 : Int} {r1 : Int} {σ σ1 : SG} {t : KT} (c1 : Ca d 176 [aI (iZ xs0)] (am_hp σ) t (.inl (some (aI (iZ r1))), am_hp σ1, t)) (w2 : Wp k_X12_wordsBySetWay d (24, [some (aR (some (40, 0, 0))), some (aI (iZ x1)), some (aI (iZ (xs1 + r1))), some (aI (iZ x3)), some (aI (iZ x4)), some (aI (iZ (x5 + 1)))], [], am_hp σ1, t) Q) : Wp k_X12_wordsBySetWay d (48, [some (aR (some (40, 0, 0))), some (aI (iZ x1)), some (aI (iZ x2)), some (aI (iZ x3)), some (aI (iZ x4)), some (aI (iZ x5))], [aI (iZ xs0), aI (iZ xs1)], am_hp σ, t) Q := by
  refine w_c0 (c' := (51, [some (aR (some (40, 0, 0))), some (aI (iZ x1)), some (aI (iZ x2)), some (aI (iZ x3)), some (aI (iZ x4)), some (aI (iZ x5))], [aI (iZ r1), aI (iZ xs1)], am_hp σ1, t)) rfl rfl rfl rfl c1 (Nat.le_refl _) rfl ?_
  refine w_iadd rfl rfl ?_
  refine w_s (c' := (53, [some (aR (some (40, 0, 0))), some (aI (iZ x1)), some (aI (iZ (xs1 + r1))), some (aI (iZ x3)), some (aI (iZ x4)), some (aI (iZ x5))], [], am_hp σ1, t)) rfl rfl ?_
  refine w_inc (a := x5) (ls' := [some (aR (some (40, 0, 0))), some (aI (iZ x1)), some (aI (iZ (xs1 + r1))), some (aI (iZ x3)), some (aI (iZ x4)), some (aI (iZ (x5 + 1)))]) rfl rfl rfl zc_1 rfl rfl ?_
  refine w_s (c' := (24, [some (aR (some (40, 0, 0))), some (aI (iZ x1)), some (aI (iZ (xs1 + r1))), some (aI (iZ x3)), some (aI (iZ x4)), some (aI (iZ (x5 + 1)))], [], am_hp σ1, t)) rfl rfl ?_
  exact w2

theorem b_X12_wordsBySetWay_59 {x1 : Int} {x2 : Int} {x3 : Int} {x4 : Int} {x5 : Int} {σ : SG} {t : KT} (w1 : Wp k_X12_wordsBySetWay d (4, [some (aR (some (40, 0, 0))), some (aI (iZ x1)), some (aI (iZ x2)), some (aI (iZ (x3 + 1))), some (aI (iZ x4)), some (aI (iZ x5))], [], am_hp σ, t) Q) : Wp k_X12_wordsBySetWay d (59, [some (aR (some (40, 0, 0))), some (aI (iZ x1)), some (aI (iZ x2)), some (aI (iZ x3)), some (aI (iZ x4)), some (aI (iZ x5))], [], am_hp σ, t) Q := by
  refine w_inc (a := x3) (ls' := [some (aR (some (40, 0, 0))), some (aI (iZ x1)), some (aI (iZ x2)), some (aI (iZ (x3 + 1))), some (aI (iZ x4)), some (aI (iZ x5))]) rfl rfl rfl zc_1 rfl rfl ?_
  refine w_s (c' := (4, [some (aR (some (40, 0, 0))), some (aI (iZ x1)), some (aI (iZ x2)), some (aI (iZ (x3 + 1))), some (aI (iZ x4)), some (aI (iZ x5))], [], am_hp σ, t)) rfl rfl ?_
  exact w1

theorem b_X12_wordsBySetWay_65 {x1 : Int} {x2 : Int} {x3 : Int} {u4 : Option AV} {u5 : Option AV} {σ : SG} {t : KT} (q1 : Q (.inl (some (aI (iZ x2))), am_hp σ, t)) : Wp k_X12_wordsBySetWay d (65, [some (aR (some (40, 0, 0))), some (aI (iZ x1)), some (aI (iZ x2)), some (aI (iZ x3)), u4, u5], [], am_hp σ, t) Q := by
  refine w_s (c' := (66, [some (aR (some (40, 0, 0))), some (aI (iZ x1)), some (aI (iZ x2)), some (aI (iZ x3)), u4, u5], [aI (iZ x2)], am_hp σ, t)) rfl rfl ?_
  exact w_ret rfl rfl q1

theorem b_X12_way_0 {x1 : Int} {x2 : Int} {r1 : Int} {r2 : Int} {r3 : Int} {σ σ1 σ2 σ3 : SG} {t : KT} (c1 : Ca d 223 [aI (iZ x1)] (am_hp σ) t (.inl (some (aI (iZ r1))), am_hp σ1, t)) (h2 : -2147483648 ≤ x2 ∧ x2 < 2147483648) (c3 : Ca d 175 [aL (jZ x2), aL (jZ 0), aL (jZ 3)] (am_hp σ1) t (.inl (some (aI (iZ r2))), am_hp σ2, t)) (c4 : Ca d 179 [aR (some (40, 0, 0)), aI (iZ r1), aI (iZ r2)] (am_hp σ2) t (.inl (some (aI (iZ r3))), am_hp σ3, t)) (h5 : -2147483648 ≤ r3 ∧ r3 < 2147483648) (w6 : r3 ≠ 0 → Wp k_X12_way d (22, [some (aR (some (40, 0, 0))), some (aI (iZ x1)), some (aI (iZ x2))], [], am_hp σ3, t) Q) (w7 : r3 = 0 → Wp k_X12_way d (20, [some (aR (some (40, 0, 0))), some (aI (iZ x1)), some (aI (iZ x2))], [], am_hp σ3, t) Q) : Wp k_X12_way d (0, [some (aR (some (40, 0, 0))), some (aI (iZ x1)), some (aI (iZ x2))], [], am_hp σ, t) Q := by
  refine w_s (c' := (1, [some (aR (some (40, 0, 0))), some (aI (iZ x1)), some (aI (iZ x2))], [aR (some (40, 0, 0))], am_hp σ, t)) rfl rfl ?_
  refine w_s (c' := (2, [some (aR (some (40, 0, 0))), some (aI (iZ x1)), some (aI (iZ x2))], [aI (iZ x1), aR (some (40, 0, 0))], am_hp σ, t)) rfl rfl ?_
  refine w_c0 (c' := (5, [some (aR (some (40, 0, 0))), some (aI (iZ x1)), some (aI (iZ x2))], [aI (iZ r1), aR (some (40, 0, 0))], am_hp σ1, t)) rfl rfl rfl rfl c1 (Nat.le_refl _) rfl ?_
  refine w_s (c' := (6, [some (aR (some (40, 0, 0))), some (aI (iZ x1)), some (aI (iZ x2))], [aI (iZ x2), aI (iZ r1), aR (some (40, 0, 0))], am_hp σ1, t)) rfl rfl ?_
  refine w_i2l rfl rfl h2 ?_
  refine w_psL rfl yc_0 rfl ?_
  refine w_psL rfl yc_3 rfl ?_
  refine w_c0 (c' := (14, [some (aR (some (40, 0, 0))), some (aI (iZ x1)), some (aI (iZ x2))], [aI (iZ r2), aI (iZ r1), aR (some (40, 0, 0))], am_hp σ2, t)) rfl rfl rfl rfl c3 (Nat.le_refl _) rfl ?_
  refine w_c0 (c' := (17, [some (aR (some (40, 0, 0))), some (aI (iZ x1)), some (aI (iZ x2))], [aI (iZ r3)], am_hp σ3, t)) rfl rfl (rcv_of (hp_40 _ 0)) rfl c4 (Nat.le_refl _) rfl ?_
  exact w_ifne rfl h5 rfl w6 w7

theorem e_X12_way {x1 : Int} {x2 : Int} {h : AH} {t : KT} {d : Nat} {P : RS → Prop} (w : Wp k_X12_way d (0, [some (aR (some (40, 0, 0))), some (aI (iZ x1)), some (aI (iZ x2))], [], h, t) P) : ∃ r, Ca (d + 1) 256 [aR (some (40, 0, 0)), aI (iZ x1), aI (iZ x2)] h t r ∧ P r := ca_W rfl rfl rfl rfl w

theorem b_X12_way_20 {x1 : Int} {x2 : Int} {σ : SG} {t : KT} (q1 : Q (.inl (some (aI (iZ 0))), am_hp σ, t)) : Wp k_X12_way d (20, [some (aR (some (40, 0, 0))), some (aI (iZ x1)), some (aI (iZ x2))], [], am_hp σ, t) Q := by
  refine w_psh rfl zc_0 rfl ?_
  exact w_ret rfl rfl q1

theorem b_X12_way_22 {x1 : Int} {x2 : Int} {σ : SG} {t : KT} (h1 : -2147483648 ≤ x2 ∧ x2 < 2147483648) (w2 : x2 = 0 → Wp k_X12_way d (48, [some (aR (some (40, 0, 0))), some (aI (iZ x1)), some (aI (iZ x2))], [], am_hp σ, t) Q) (w3 : x2 = 1 → Wp k_X12_way d (55, [some (aR (some (40, 0, 0))), some (aI (iZ x1)), some (aI (iZ x2))], [], am_hp σ, t) Q) (w4 : x2 = 2 → Wp k_X12_way d (62, [some (aR (some (40, 0, 0))), some (aI (iZ x1)), some (aI (iZ x2))], [], am_hp σ, t) Q) (w5 : (x2 < 0 ∨ 3 ≤ x2) → Wp k_X12_way d (71, [some (aR (some (40, 0, 0))), some (aI (iZ x1)), some (aI (iZ x2))], [], am_hp σ, t) Q) : Wp k_X12_way d (22, [some (aR (some (40, 0, 0))), some (aI (iZ x1)), some (aI (iZ x2))], [], am_hp σ, t) Q := by
  refine w_s (c' := (23, [some (aR (some (40, 0, 0))), some (aI (iZ x1)), some (aI (iZ x2))], [aI (iZ x2)], am_hp σ, t)) rfl rfl ?_
  refine w_tab rfl h1 ?_
  rcases (by omega : x2 = 0 ∨ x2 = 1 ∨ x2 = 2 ∨ (x2 < 0 ∨ 3 ≤ x2)) with hd | hd | hd | hd
  · rw [show (if x2 < (0 : Int) then 71 else [48, 55, 62].getD (x2 - 0).toNat 71) = 48 by rw [hd]; rfl]; exact w2 hd
  · rw [show (if x2 < (0 : Int) then 71 else [48, 55, 62].getD (x2 - 0).toNat 71) = 55 by rw [hd]; rfl]; exact w3 hd
  · rw [show (if x2 < (0 : Int) then 71 else [48, 55, 62].getD (x2 - 0).toNat 71) = 62 by rw [hd]; rfl]; exact w4 hd
  · rw [show (if x2 < (0 : Int) then 71 else [48, 55, 62].getD (x2 - 0).toNat 71) = 71 by exact tgt_df [48, 55, 62] _ (by decide) hd]; exact w5 hd

theorem b_X12_way_48 {x1 : Int} {x2 : Int} {σ : SG} {t : KT} (h1 : 0 ≤ x1 ∧ x1 < 9) (q2 : Q (.inl (some (aI (iZ (σ.1 (46, 0, 0) x1.toNat)))), am_hp σ, t)) : Wp k_X12_way d (48, [some (aR (some (40, 0, 0))), some (aI (iZ x1)), some (aI (iZ x2))], [], am_hp σ, t) Q := by
  refine w_s (c' := (49, [some (aR (some (40, 0, 0))), some (aI (iZ x1)), some (aI (iZ x2))], [aR (some (40, 0, 0))], am_hp σ, t)) rfl rfl ?_
  refine w_get rfl (hp_40 _ 0) rfl rfl ?_
  refine w_s (c' := (53, [some (aR (some (40, 0, 0))), some (aI (iZ x1)), some (aI (iZ x2))], [aI (iZ x1), aR (some (46, 0, 0))], am_hp σ, t)) rfl rfl ?_
  refine w_ial rfl (hp_46 _ 0 0) h1 rfl rfl ?_
  exact w_ret rfl rfl q2

theorem b_X12_way_55 {x1 : Int} {x2 : Int} {σ : SG} {t : KT} (h1 : 0 ≤ x1 ∧ x1 < 9) (q2 : Q (.inl (some (aI (iZ (σ.1 (47, 0, 0) x1.toNat)))), am_hp σ, t)) : Wp k_X12_way d (55, [some (aR (some (40, 0, 0))), some (aI (iZ x1)), some (aI (iZ x2))], [], am_hp σ, t) Q := by
  refine w_s (c' := (56, [some (aR (some (40, 0, 0))), some (aI (iZ x1)), some (aI (iZ x2))], [aR (some (40, 0, 0))], am_hp σ, t)) rfl rfl ?_
  refine w_get rfl (hp_40 _ 0) rfl rfl ?_
  refine w_s (c' := (60, [some (aR (some (40, 0, 0))), some (aI (iZ x1)), some (aI (iZ x2))], [aI (iZ x1), aR (some (47, 0, 0))], am_hp σ, t)) rfl rfl ?_
  refine w_ial rfl (hp_47 _ 0 0) h1 rfl rfl ?_
  exact w_ret rfl rfl q2

theorem b_X12_way_62 {x1 : Int} {x2 : Int} {σ : SG} {t : KT} (h1 : 0 ≤ 3 + x1 ∧ 3 + x1 < 264) (q2 : Q (.inl (some (aI (iZ (σ.1 (42, 0, 0) (3 + x1).toNat)))), am_hp σ, t)) : Wp k_X12_way d (62, [some (aR (some (40, 0, 0))), some (aI (iZ x1)), some (aI (iZ x2))], [], am_hp σ, t) Q := by
  refine w_s (c' := (63, [some (aR (some (40, 0, 0))), some (aI (iZ x1)), some (aI (iZ x2))], [aR (some (40, 0, 0))], am_hp σ, t)) rfl rfl ?_
  refine w_get rfl (hp_40 _ 0) rfl rfl ?_
  refine w_psh rfl zc_3 rfl ?_
  refine w_s (c' := (68, [some (aR (some (40, 0, 0))), some (aI (iZ x1)), some (aI (iZ x2))], [aI (iZ x1), aI (iZ 3), aR (some (42, 0, 0))], am_hp σ, t)) rfl rfl ?_
  refine w_iadd rfl rfl ?_
  refine w_ial rfl (hp_42 _ 0 0) h1 rfl rfl ?_
  exact w_ret rfl rfl q2

theorem b_X12_way_71 {x1 : Int} {x2 : Int} {r1 : Int} {σ σ1 : SG} {t : KT} (c1 : Ca d 255 [aR (some (40, 0, 0)), aI (iZ x1)] (am_hp σ) t (.inl (some (aI (iZ r1))), am_hp σ1, t)) (q2 : Q (.inl (some (aI (iZ r1))), am_hp σ1, t)) : Wp k_X12_way d (71, [some (aR (some (40, 0, 0))), some (aI (iZ x1)), some (aI (iZ x2))], [], am_hp σ, t) Q := by
  refine w_s (c' := (72, [some (aR (some (40, 0, 0))), some (aI (iZ x1)), some (aI (iZ x2))], [aR (some (40, 0, 0))], am_hp σ, t)) rfl rfl ?_
  refine w_s (c' := (73, [some (aR (some (40, 0, 0))), some (aI (iZ x1)), some (aI (iZ x2))], [aI (iZ x1), aR (some (40, 0, 0))], am_hp σ, t)) rfl rfl ?_
  refine w_c0 (c' := (76, [some (aR (some (40, 0, 0))), some (aI (iZ x1)), some (aI (iZ x2))], [aI (iZ r1)], am_hp σ1, t)) rfl rfl (rcv_of (hp_40 _ 0)) rfl c1 (Nat.le_refl _) rfl ?_
  exact w_ret rfl rfl q2

theorem b_X12_emptyIn_0 {x1 : Int} {r1 : Int} {σ σ1 : SG} {t : KT} (h1 : 0 ≤ x1 ∧ x1 < 120) (h2 : 0 ≤ σ.1 (51, 0, 0) x1.toNat ∧ σ.1 (51, 0, 0) x1.toNat < 9) (c3 : Ca d 237 [aR (some (40, 0, 0)), aI (iZ x1)] (am_hp σ) t (.inl (some (aI (iZ r1))), am_hp σ1, t)) (q4 : Q (.inl (some (aI (iZ (28 - ((σ.1 (47, 0, 0) (σ.1 (51, 0, 0) x1.toNat).toNat) * r1))))), am_hp σ1, t)) : Wp k_X12_emptyIn d (0, [some (aR (some (40, 0, 0))), some (aI (iZ x1))], [], am_hp σ, t) Q := by
  refine w_psh rfl zc_28 rfl ?_
  refine w_s (c' := (3, [some (aR (some (40, 0, 0))), some (aI (iZ x1))], [aR (some (40, 0, 0)), aI (iZ 28)], am_hp σ, t)) rfl rfl ?_
  refine w_get rfl (hp_40 _ 0) rfl rfl ?_
  refine w_s (c' := (7, [some (aR (some (40, 0, 0))), some (aI (iZ x1))], [aR (some (40, 0, 0)), aR (some (47, 0, 0)), aI (iZ 28)], am_hp σ, t)) rfl rfl ?_
  refine w_get rfl (hp_40 _ 0) rfl rfl ?_
  refine w_s (c' := (11, [some (aR (some (40, 0, 0))), some (aI (iZ x1))], [aI (iZ x1), aR (some (51, 0, 0)), aR (some (47, 0, 0)), aI (iZ 28)], am_hp σ, t)) rfl rfl ?_
  refine w_ial rfl (hp_51 _ 0 0) h1 rfl rfl ?_
  refine w_ial rfl (hp_47 _ 0 0) h2 rfl rfl ?_
  refine w_s (c' := (14, [some (aR (some (40, 0, 0))), some (aI (iZ x1))], [aR (some (40, 0, 0)), aI (iZ (σ.1 (47, 0, 0) (σ.1 (51, 0, 0) x1.toNat).toNat)), aI (iZ 28)], am_hp σ, t)) rfl rfl ?_
  refine w_s (c' := (15, [some (aR (some (40, 0, 0))), some (aI (iZ x1))], [aI (iZ x1), aR (some (40, 0, 0)), aI (iZ (σ.1 (47, 0, 0) (σ.1 (51, 0, 0) x1.toNat).toNat)), aI (iZ 28)], am_hp σ, t)) rfl rfl ?_
  refine w_c0 (c' := (18, [some (aR (some (40, 0, 0))), some (aI (iZ x1))], [aI (iZ r1), aI (iZ (σ.1 (47, 0, 0) (σ.1 (51, 0, 0) x1.toNat).toNat)), aI (iZ 28)], am_hp σ1, t)) rfl rfl (rcv_of (hp_40 _ 0)) rfl c3 (Nat.le_refl _) rfl ?_
  refine w_imul rfl rfl ?_
  refine w_isub rfl rfl ?_
  exact w_ret rfl rfl q4

theorem e_X12_emptyIn {x1 : Int} {h : AH} {t : KT} {d : Nat} {P : RS → Prop} (w : Wp k_X12_emptyIn d (0, [some (aR (some (40, 0, 0))), some (aI (iZ x1))], [], h, t) P) : ∃ r, Ca (d + 1) 257 [aR (some (40, 0, 0)), aI (iZ x1)] h t r ∧ P r := ca_W rfl rfl rfl rfl w

theorem b_X12_emptyBits_0 {σ : SG} {t : KT} (w1 : Wp k_X12_emptyBits d (4, [some (aR (some (40, 0, 0))), some (aI (iZ 0)), some (aI (iZ 0))], [], am_hp σ, t) Q) : Wp k_X12_emptyBits d (0, [some (aR (some (40, 0, 0))), none, none], [], am_hp σ, t) Q := by
  refine w_psh rfl zc_0 rfl ?_
  refine w_s (c' := (2, [some (aR (some (40, 0, 0))), some (aI (iZ 0)), none], [], am_hp σ, t)) rfl rfl ?_
  refine w_psh rfl zc_0 rfl ?_
  refine w_s (c' := (4, [some (aR (some (40, 0, 0))), some (aI (iZ 0)), some (aI (iZ 0))], [], am_hp σ, t)) rfl rfl ?_
  exact w1

theorem e_X12_emptyBits {h : AH} {t : KT} {d : Nat} {P : RS → Prop} (w : Wp k_X12_emptyBits d (0, [some (aR (some (40, 0, 0))), none, none], [], h, t) P) : ∃ r, Ca (d + 1) 258 [aR (some (40, 0, 0))] h t r ∧ P r := ca_W rfl rfl rfl rfl w

theorem b_X12_emptyBits_4 {x1 : Int} {x2 : Int} {σ : SG} {t : KT} (h1 : -2147483648 ≤ x2 ∧ x2 < 2147483648) (h2 : -2147483648 ≤ σ.1 (40, 0, 0) 34 ∧ σ.1 (40, 0, 0) 34 < 2147483648) (w3 : σ.1 (40, 0, 0) 34 ≤ x2 → Wp k_X12_emptyBits d (26, [some (aR (some (40, 0, 0))), some (aI (iZ x1)), some (aI (iZ x2))], [], am_hp σ, t) Q) (w4 : x2 < σ.1 (40, 0, 0) 34 → Wp k_X12_emptyBits d (12, [some (aR (some (40, 0, 0))), some (aI (iZ x1)), some (aI (iZ x2))], [], am_hp σ, t) Q) : Wp k_X12_emptyBits d (4, [some (aR (some (40, 0, 0))), some (aI (iZ x1)), some (aI (iZ x2))], [], am_hp σ, t) Q := by
  refine w_s (c' := (5, [some (aR (some (40, 0, 0))), some (aI (iZ x1)), some (aI (iZ x2))], [aI (iZ x2)], am_hp σ, t)) rfl rfl ?_
  refine w_s (c' := (6, [some (aR (some (40, 0, 0))), some (aI (iZ x1)), some (aI (iZ x2))], [aR (some (40, 0, 0)), aI (iZ x2)], am_hp σ, t)) rfl rfl ?_
  refine w_get rfl (hp_40 _ 0) rfl rfl ?_
  exact w_icge rfl h1 h2 rfl w3 w4

theorem b_X12_emptyBits_12 {x1 : Int} {x2 : Int} {r1 : Int} {σ σ1 : SG} {t : KT} (c1 : Ca d 257 [aR (some (40, 0, 0)), aI (iZ x2)] (am_hp σ) t (.inl (some (aI (iZ r1))), am_hp σ1, t)) (w2 : Wp k_X12_emptyBits d (4, [some (aR (some (40, 0, 0))), some (aI (iZ (x1 + r1))), some (aI (iZ (x2 + 1)))], [], am_hp σ1, t) Q) : Wp k_X12_emptyBits d (12, [some (aR (some (40, 0, 0))), some (aI (iZ x1)), some (aI (iZ x2))], [], am_hp σ, t) Q := by
  refine w_s (c' := (13, [some (aR (some (40, 0, 0))), some (aI (iZ x1)), some (aI (iZ x2))], [aI (iZ x1)], am_hp σ, t)) rfl rfl ?_
  refine w_s (c' := (14, [some (aR (some (40, 0, 0))), some (aI (iZ x1)), some (aI (iZ x2))], [aR (some (40, 0, 0)), aI (iZ x1)], am_hp σ, t)) rfl rfl ?_
  refine w_s (c' := (15, [some (aR (some (40, 0, 0))), some (aI (iZ x1)), some (aI (iZ x2))], [aI (iZ x2), aR (some (40, 0, 0)), aI (iZ x1)], am_hp σ, t)) rfl rfl ?_
  refine w_c0 (c' := (18, [some (aR (some (40, 0, 0))), some (aI (iZ x1)), some (aI (iZ x2))], [aI (iZ r1), aI (iZ x1)], am_hp σ1, t)) rfl rfl (rcv_of (hp_40 _ 0)) rfl c1 (Nat.le_refl _) rfl ?_
  refine w_iadd rfl rfl ?_
  refine w_s (c' := (20, [some (aR (some (40, 0, 0))), some (aI (iZ (x1 + r1))), some (aI (iZ x2))], [], am_hp σ1, t)) rfl rfl ?_
  refine w_inc (a := x2) (ls' := [some (aR (some (40, 0, 0))), some (aI (iZ (x1 + r1))), some (aI (iZ (x2 + 1)))]) rfl rfl rfl zc_1 rfl rfl ?_
  refine w_s (c' := (4, [some (aR (some (40, 0, 0))), some (aI (iZ (x1 + r1))), some (aI (iZ (x2 + 1)))], [], am_hp σ1, t)) rfl rfl ?_
  exact w2

theorem b_X12_emptyBits_26 {x1 : Int} {x2 : Int} {σ : SG} {t : KT} (q1 : Q (.inl (some (aI (iZ x1))), am_hp σ, t)) : Wp k_X12_emptyBits d (26, [some (aR (some (40, 0, 0))), some (aI (iZ x1)), some (aI (iZ x2))], [], am_hp σ, t) Q := by
  refine w_s (c' := (27, [some (aR (some (40, 0, 0))), some (aI (iZ x1)), some (aI (iZ x2))], [aI (iZ x1)], am_hp σ, t)) rfl rfl ?_
  exact w_ret rfl rfl q1
end PCS
