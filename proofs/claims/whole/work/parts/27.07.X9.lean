/-! PIECES: X9 -/
set_option maxRecDepth 4000
section PCS
variable {d : Nat} {Q : RS → Prop}
theorem b_X9_readFrom_0 {r3 : Int} {σ σ1 σ2 σ3 : SG} {t : KT} (c1 : Ca d 41 [aR (some (8, 1, 0))] (am_hp σ) t (.inl none, am_hp σ1, t)) (c2 : Ca d 78 [aR (some (2, 0, 0))] (am_hp ((sI σ1 (14, 0, 0) (up (σ1.1 (14, 0, 0)) 1 0)))) t (.inl none, am_hp σ2, t)) (c3 : Ca d 65 [aR (some (14, 0, 0)), aR (some (2, 0, 0))] (am_hp σ2) t (.inl (some (aI (iZ r3))), am_hp σ3, t)) (h4 : -2147483648 ≤ r3 ∧ r3 < 2147483648) (w5 : r3 = 0 → Wp k_X9_readFrom d (32, [some (aR (some (14, 0, 0))), some (aR (some (2, 0, 0))), none], [], am_hp σ3, t) Q) (w6 : r3 ≠ 0 → Wp k_X9_readFrom d (24, [some (aR (some (14, 0, 0))), some (aR (some (2, 0, 0))), none], [], am_hp σ3, t) Q) : Wp k_X9_readFrom d (0, [some (aR (some (14, 0, 0))), some (aR (some (2, 0, 0))), none], [], am_hp σ, t) Q := by
  refine w_s (c' := (1, [some (aR (some (14, 0, 0))), some (aR (some (2, 0, 0))), none], [aR (some (14, 0, 0))], am_hp σ, t)) rfl rfl ?_
  refine w_get rfl (hp_14 _ 0) rfl rfl ?_
  refine w_c0 (c' := (7, [some (aR (some (14, 0, 0))), some (aR (some (2, 0, 0))), none], [], am_hp σ1, t)) rfl rfl (rcv_of (hp_8 _ 1)) rfl c1 (Nat.le_refl _) rfl ?_
  refine w_s (c' := (8, [some (aR (some (14, 0, 0))), some (aR (some (2, 0, 0))), none], [aR (some (14, 0, 0))], am_hp σ1, t)) rfl rfl ?_
  refine w_psh rfl zc_0 rfl ?_
  refine w_putI rfl (hp_14 _ 0) rfl rfl rfl ?_
  refine w_s (c' := (13, [some (aR (some (14, 0, 0))), some (aR (some (2, 0, 0))), none], [aR (some (2, 0, 0))], am_hp ((sI σ1 (14, 0, 0) (up (σ1.1 (14, 0, 0)) 1 0))), t)) rfl rfl ?_
  refine w_c0 (c' := (16, [some (aR (some (14, 0, 0))), some (aR (some (2, 0, 0))), none], [], am_hp σ2, t)) rfl rfl (rcv_of (hp_2 _ 0)) rfl c2 (Nat.le_refl _) rfl ?_
  refine w_s (c' := (17, [some (aR (some (14, 0, 0))), some (aR (some (2, 0, 0))), none], [aR (some (14, 0, 0))], am_hp σ2, t)) rfl rfl ?_
  refine w_s (c' := (18, [some (aR (some (14, 0, 0))), some (aR (some (2, 0, 0))), none], [aR (some (2, 0, 0)), aR (some (14, 0, 0))], am_hp σ2, t)) rfl rfl ?_
  refine w_c0 (c' := (21, [some (aR (some (14, 0, 0))), some (aR (some (2, 0, 0))), none], [aI (iZ r3)], am_hp σ3, t)) rfl rfl (rcv_of (hp_14 _ 0)) rfl c3 (Nat.le_refl _) rfl ?_
  exact w_ifeq rfl h4 rfl w5 w6

theorem e_X9_readFrom {h : AH} {t : KT} {d : Nat} {P : RS → Prop} (w : Wp k_X9_readFrom d (0, [some (aR (some (14, 0, 0))), some (aR (some (2, 0, 0))), none], [], h, t) P) : ∃ r, Ca (d + 1) 64 [aR (some (14, 0, 0)), aR (some (2, 0, 0))] h t r ∧ P r := ca_W rfl rfl rfl rfl w

theorem b_X9_readFrom_24 {r1 : Int} {σ σ1 : SG} {t : KT} (c1 : Ca d 87 [aR (some (2, 0, 0)), aI (iZ 3)] (am_hp σ) t (.inl (some (aI (iZ r1))), am_hp σ1, t)) (h2 : -2147483648 ≤ r1 ∧ r1 < 2147483648) (w3 : r1 ≠ 0 → Wp k_X9_readFrom d (34, [some (aR (some (14, 0, 0))), some (aR (some (2, 0, 0))), none], [], am_hp σ1, t) Q) (w4 : r1 = 0 → Wp k_X9_readFrom d (32, [some (aR (some (14, 0, 0))), some (aR (some (2, 0, 0))), none], [], am_hp σ1, t) Q) : Wp k_X9_readFrom d (24, [some (aR (some (14, 0, 0))), some (aR (some (2, 0, 0))), none], [], am_hp σ, t) Q := by
  refine w_s (c' := (25, [some (aR (some (14, 0, 0))), some (aR (some (2, 0, 0))), none], [aR (some (2, 0, 0))], am_hp σ, t)) rfl rfl ?_
  refine w_psh rfl zc_3 rfl ?_
  refine w_c0 (c' := (29, [some (aR (some (14, 0, 0))), some (aR (some (2, 0, 0))), none], [aI (iZ r1)], am_hp σ1, t)) rfl rfl (rcv_of (hp_2 _ 0)) rfl c1 (Nat.le_refl _) rfl ?_
  exact w_ifne rfl h2 rfl w3 w4

theorem b_X9_readFrom_32 {σ : SG} {t : KT} (q1 : Q (.inl (some (aI (iZ 0))), am_hp σ, t)) : Wp k_X9_readFrom d (32, [some (aR (some (14, 0, 0))), some (aR (some (2, 0, 0))), none], [], am_hp σ, t) Q := by
  refine w_psh rfl zc_0 rfl ?_
  exact w_ret rfl (frt_b (by decide)) q1

theorem b_X9_readFrom_34 {σ : SG} {t : KT} (w1 : Wp k_X9_readFrom d (36, [some (aR (some (14, 0, 0))), some (aR (some (2, 0, 0))), some (aI (iZ 0))], [], am_hp σ, t) Q) : Wp k_X9_readFrom d (34, [some (aR (some (14, 0, 0))), some (aR (some (2, 0, 0))), none], [], am_hp σ, t) Q := by
  refine w_psh rfl zc_0 rfl ?_
  refine w_s (c' := (36, [some (aR (some (14, 0, 0))), some (aR (some (2, 0, 0))), some (aI (iZ 0))], [], am_hp σ, t)) rfl rfl ?_
  exact w1

theorem b_X9_readFrom_36 {x2 : Int} {σ : SG} {t : KT} (h1 : -2147483648 ≤ x2 ∧ x2 < 2147483648) (w2 : 600 ≤ x2 → Wp k_X9_readFrom d (74, [some (aR (some (14, 0, 0))), some (aR (some (2, 0, 0))), some (aI (iZ x2))], [], am_hp σ, t) Q) (w3 : x2 < 600 → Wp k_X9_readFrom d (43, [some (aR (some (14, 0, 0))), some (aR (some (2, 0, 0))), some (aI (iZ x2))], [], am_hp σ, t) Q) : Wp k_X9_readFrom d (36, [some (aR (some (14, 0, 0))), some (aR (some (2, 0, 0))), some (aI (iZ x2))], [], am_hp σ, t) Q := by
  refine w_s (c' := (37, [some (aR (some (14, 0, 0))), some (aR (some (2, 0, 0))), some (aI (iZ x2))], [aI (iZ x2)], am_hp σ, t)) rfl rfl ?_
  refine w_psh rfl zc_600 rfl ?_
  exact w_icge rfl h1 (by decide) rfl w2 w3

theorem b_X9_readFrom_43 {x2 : Int} {σ : SG} {t : KT} (h1 : -2147483648 ≤ σ.1 (2, 0, 0) 2 ∧ σ.1 (2, 0, 0) 2 < 2147483648) (w2 : σ.1 (2, 0, 0) 2 = 0 → Wp k_X9_readFrom d (74, [some (aR (some (14, 0, 0))), some (aR (some (2, 0, 0))), some (aI (iZ x2))], [], am_hp σ, t) Q) (w3 : σ.1 (2, 0, 0) 2 ≠ 0 → Wp k_X9_readFrom d (50, [some (aR (some (14, 0, 0))), some (aR (some (2, 0, 0))), some (aI (iZ x2))], [], am_hp σ, t) Q) : Wp k_X9_readFrom d (43, [some (aR (some (14, 0, 0))), some (aR (some (2, 0, 0))), some (aI (iZ x2))], [], am_hp σ, t) Q := by
  refine w_s (c' := (44, [some (aR (some (14, 0, 0))), some (aR (some (2, 0, 0))), some (aI (iZ x2))], [aR (some (2, 0, 0))], am_hp σ, t)) rfl rfl ?_
  refine w_get rfl (hp_2 _ 0) rfl rfl ?_
  exact w_ifeq rfl h1 rfl w2 w3

theorem b_X9_readFrom_50 {x2 : Int} {r1 : Int} {σ σ1 : SG} {t : KT} (c1 : Ca d 66 [aR (some (14, 0, 0)), aR (some (2, 0, 0))] (am_hp σ) t (.inl (some (aI (iZ r1))), am_hp σ1, t)) (h2 : -2147483648 ≤ r1 ∧ r1 < 2147483648) (w3 : r1 = 0 → Wp k_X9_readFrom d (66, [some (aR (some (14, 0, 0))), some (aR (some (2, 0, 0))), some (aI (iZ x2))], [], am_hp σ1, t) Q) (w4 : r1 ≠ 0 → Wp k_X9_readFrom d (58, [some (aR (some (14, 0, 0))), some (aR (some (2, 0, 0))), some (aI (iZ x2))], [], am_hp σ1, t) Q) : Wp k_X9_readFrom d (50, [some (aR (some (14, 0, 0))), some (aR (some (2, 0, 0))), some (aI (iZ x2))], [], am_hp σ, t) Q := by
  refine w_s (c' := (51, [some (aR (some (14, 0, 0))), some (aR (some (2, 0, 0))), some (aI (iZ x2))], [aR (some (14, 0, 0))], am_hp σ, t)) rfl rfl ?_
  refine w_s (c' := (52, [some (aR (some (14, 0, 0))), some (aR (some (2, 0, 0))), some (aI (iZ x2))], [aR (some (2, 0, 0)), aR (some (14, 0, 0))], am_hp σ, t)) rfl rfl ?_
  refine w_c0 (c' := (55, [some (aR (some (14, 0, 0))), some (aR (some (2, 0, 0))), some (aI (iZ x2))], [aI (iZ r1)], am_hp σ1, t)) rfl rfl (rcv_of (hp_14 _ 0)) rfl c1 (Nat.le_refl _) rfl ?_
  exact w_ifeq rfl h2 rfl w3 w4

theorem b_X9_readFrom_58 {x2 : Int} {r1 : Int} {σ σ1 : SG} {t : KT} (c1 : Ca d 87 [aR (some (2, 0, 0)), aI (iZ 3)] (am_hp σ) t (.inl (some (aI (iZ r1))), am_hp σ1, t)) (h2 : -2147483648 ≤ r1 ∧ r1 < 2147483648) (w3 : r1 ≠ 0 → Wp k_X9_readFrom d (68, [some (aR (some (14, 0, 0))), some (aR (some (2, 0, 0))), some (aI (iZ x2))], [], am_hp σ1, t) Q) (w4 : r1 = 0 → Wp k_X9_readFrom d (66, [some (aR (some (14, 0, 0))), some (aR (some (2, 0, 0))), some (aI (iZ x2))], [], am_hp σ1, t) Q) : Wp k_X9_readFrom d (58, [some (aR (some (14, 0, 0))), some (aR (some (2, 0, 0))), some (aI (iZ x2))], [], am_hp σ, t) Q := by
  refine w_s (c' := (59, [some (aR (some (14, 0, 0))), some (aR (some (2, 0, 0))), some (aI (iZ x2))], [aR (some (2, 0, 0))], am_hp σ, t)) rfl rfl ?_
  refine w_psh rfl zc_3 rfl ?_
  refine w_c0 (c' := (63, [some (aR (some (14, 0, 0))), some (aR (some (2, 0, 0))), some (aI (iZ x2))], [aI (iZ r1)], am_hp σ1, t)) rfl rfl (rcv_of (hp_2 _ 0)) rfl c1 (Nat.le_refl _) rfl ?_
  exact w_ifne rfl h2 rfl w3 w4

theorem b_X9_readFrom_66 {x2 : Int} {σ : SG} {t : KT} (q1 : Q (.inl (some (aI (iZ 0))), am_hp σ, t)) : Wp k_X9_readFrom d (66, [some (aR (some (14, 0, 0))), some (aR (some (2, 0, 0))), some (aI (iZ x2))], [], am_hp σ, t) Q := by
  refine w_psh rfl zc_0 rfl ?_
  exact w_ret rfl (frt_b (by decide)) q1

theorem b_X9_readFrom_68 {x2 : Int} {σ : SG} {t : KT} (w1 : Wp k_X9_readFrom d (36, [some (aR (some (14, 0, 0))), some (aR (some (2, 0, 0))), some (aI (iZ (x2 + 1)))], [], am_hp σ, t) Q) : Wp k_X9_readFrom d (68, [some (aR (some (14, 0, 0))), some (aR (some (2, 0, 0))), some (aI (iZ x2))], [], am_hp σ, t) Q := by
  refine w_inc (a := x2) (ls' := [some (aR (some (14, 0, 0))), some (aR (some (2, 0, 0))), some (aI (iZ (x2 + 1)))]) rfl rfl rfl zc_1 rfl rfl ?_
  refine w_s (c' := (36, [some (aR (some (14, 0, 0))), some (aR (some (2, 0, 0))), some (aI (iZ (x2 + 1)))], [], am_hp σ, t)) rfl rfl ?_
  exact w1

theorem b_X9_readFrom_74 {x2 : Int} {σ : SG} {t : KT} (q1 : Q (.inl (some (aI (iZ 1))), am_hp σ, t)) : Wp k_X9_readFrom d (74, [some (aR (some (14, 0, 0))), some (aR (some (2, 0, 0))), some (aI (iZ x2))], [], am_hp σ, t) Q := by
  refine w_psh rfl zc_1 rfl ?_
  exact w_ret rfl (frt_b (by decide)) q1

theorem b_X9_readPack_0 {r1 : Int} {σ σ1 : SG} {t : KT} (c1 : Ca d 84 [aR (some (2, 0, 0)), aR (some (94, 10, 0))] (am_hp σ) t (.inl (some (aI (iZ r1))), am_hp σ1, t)) (h2 : -2147483648 ≤ r1 ∧ r1 < 2147483648) (w3 : r1 ≠ 0 → Wp k_X9_readPack d (15, [some (aR (some (14, 0, 0))), some (aR (some (2, 0, 0)))], [], am_hp σ1, t) Q) (w4 : r1 = 0 → Wp k_X9_readPack d (9, [some (aR (some (14, 0, 0))), some (aR (some (2, 0, 0)))], [], am_hp σ1, t) Q) : Wp k_X9_readPack d (0, [some (aR (some (14, 0, 0))), some (aR (some (2, 0, 0)))], [], am_hp σ, t) Q := by
  refine w_s (c' := (1, [some (aR (some (14, 0, 0))), some (aR (some (2, 0, 0)))], [aR (some (2, 0, 0))], am_hp σ, t)) rfl rfl ?_
  refine w_s (c' := (3, [some (aR (some (14, 0, 0))), some (aR (some (2, 0, 0)))], [aR (some (94, 10, 0)), aR (some (2, 0, 0))], am_hp σ, t)) rfl rfl ?_
  refine w_c0 (c' := (6, [some (aR (some (14, 0, 0))), some (aR (some (2, 0, 0)))], [aI (iZ r1)], am_hp σ1, t)) rfl rfl (rcv_of (hp_2 _ 0)) rfl c1 (Nat.le_refl _) rfl ?_
  exact w_ifne rfl h2 rfl w3 w4

theorem e_X9_readPack {h : AH} {t : KT} {d : Nat} {P : RS → Prop} (w : Wp k_X9_readPack d (0, [some (aR (some (14, 0, 0))), some (aR (some (2, 0, 0)))], [], h, t) P) : ∃ r, Ca (d + 1) 65 [aR (some (14, 0, 0)), aR (some (2, 0, 0))] h t r ∧ P r := ca_W rfl rfl rfl rfl w

theorem b_X9_readPack_9 {r1 : Int} {σ σ1 : SG} {t : KT} (c1 : Ca d 83 [aR (some (2, 0, 0)), aI (iZ 1)] (am_hp σ) t (.inl (some (aI (iZ r1))), am_hp σ1, t)) (h2 : r1 = 0 ∨ r1 = 1) (q3 : Q (.inl (some (aI (iZ r1))), am_hp σ1, t)) : Wp k_X9_readPack d (9, [some (aR (some (14, 0, 0))), some (aR (some (2, 0, 0)))], [], am_hp σ, t) Q := by
  refine w_s (c' := (10, [some (aR (some (14, 0, 0))), some (aR (some (2, 0, 0)))], [aR (some (2, 0, 0))], am_hp σ, t)) rfl rfl ?_
  refine w_psh rfl zc_1 rfl ?_
  refine w_c0 (c' := (14, [some (aR (some (14, 0, 0))), some (aR (some (2, 0, 0)))], [aI (iZ r1)], am_hp σ1, t)) rfl rfl (rcv_of (hp_2 _ 0)) rfl c1 (Nat.le_refl _) rfl ?_
  exact w_ret rfl (frt_b h2) q3

theorem b_X9_readPack_15 {r2 : Int} {σ σ1 σ2 : SG} {t : KT} (c1 : Ca d 79 [aR (some (2, 0, 0))] (am_hp σ) t (.inl none, am_hp σ1, t)) (c2 : Ca d 86 [aR (some (2, 0, 0)), aI (iZ 0), aI (iZ 2)] (am_hp σ1) t (.inl (some (aI (iZ r2))), am_hp σ2, t)) (h3 : -2147483648 ≤ r2 ∧ r2 < 2147483648) (w4 : r2 ≠ 0 → Wp k_X9_readPack d (30, [some (aR (some (14, 0, 0))), some (aR (some (2, 0, 0)))], [], am_hp σ2, t) Q) (w5 : r2 = 0 → Wp k_X9_readPack d (28, [some (aR (some (14, 0, 0))), some (aR (some (2, 0, 0)))], [], am_hp σ2, t) Q) : Wp k_X9_readPack d (15, [some (aR (some (14, 0, 0))), some (aR (some (2, 0, 0)))], [], am_hp σ, t) Q := by
  refine w_s (c' := (16, [some (aR (some (14, 0, 0))), some (aR (some (2, 0, 0)))], [aR (some (2, 0, 0))], am_hp σ, t)) rfl rfl ?_
  refine w_c0 (c' := (19, [some (aR (some (14, 0, 0))), some (aR (some (2, 0, 0)))], [], am_hp σ1, t)) rfl rfl (rcv_of (hp_2 _ 0)) rfl c1 (Nat.le_refl _) rfl ?_
  refine w_s (c' := (20, [some (aR (some (14, 0, 0))), some (aR (some (2, 0, 0)))], [aR (some (2, 0, 0))], am_hp σ1, t)) rfl rfl ?_
  refine w_psh rfl zc_0 rfl ?_
  refine w_psh rfl zc_2 rfl ?_
  refine w_c0 (c' := (25, [some (aR (some (14, 0, 0))), some (aR (some (2, 0, 0)))], [aI (iZ r2)], am_hp σ2, t)) rfl rfl (rcv_of (hp_2 _ 0)) rfl c2 (Nat.le_refl _) rfl ?_
  exact w_ifne rfl h3 rfl w4 w5

theorem b_X9_readPack_28 {σ : SG} {t : KT} (q1 : Q (.inl (some (aI (iZ 0))), am_hp σ, t)) : Wp k_X9_readPack d (28, [some (aR (some (14, 0, 0))), some (aR (some (2, 0, 0)))], [], am_hp σ, t) Q := by
  refine w_psh rfl zc_0 rfl ?_
  exact w_ret rfl (frt_b (by decide)) q1

theorem b_X9_readPack_30 {r2 : Int} {σ σ1 σ2 : SG} {t : KT} (c1 : Ca d 79 [aR (some (2, 0, 0))] (am_hp ((sI σ (8, 1, 0) (up (σ.1 (8, 1, 0)) 5 (σ.1 (2, 0, 0) 3))))) t (.inl none, am_hp σ1, t)) (c2 : Ca d 86 [aR (some (2, 0, 0)), aI (iZ 1), aI (iZ 9)] (am_hp σ1) t (.inl (some (aI (iZ r2))), am_hp σ2, t)) (h3 : -2147483648 ≤ r2 ∧ r2 < 2147483648) (w4 : r2 ≠ 0 → Wp k_X9_readPack d (57, [some (aR (some (14, 0, 0))), some (aR (some (2, 0, 0)))], [], am_hp σ2, t) Q) (w5 : r2 = 0 → Wp k_X9_readPack d (55, [some (aR (some (14, 0, 0))), some (aR (some (2, 0, 0)))], [], am_hp σ2, t) Q) : Wp k_X9_readPack d (30, [some (aR (some (14, 0, 0))), some (aR (some (2, 0, 0)))], [], am_hp σ, t) Q := by
  refine w_s (c' := (31, [some (aR (some (14, 0, 0))), some (aR (some (2, 0, 0)))], [aR (some (14, 0, 0))], am_hp σ, t)) rfl rfl ?_
  refine w_get rfl (hp_14 _ 0) rfl rfl ?_
  refine w_s (c' := (35, [some (aR (some (14, 0, 0))), some (aR (some (2, 0, 0)))], [aR (some (2, 0, 0)), aR (some (8, 1, 0))], am_hp σ, t)) rfl rfl ?_
  refine w_get rfl (hp_2 _ 0) rfl rfl ?_
  refine w_putI rfl (hp_8 _ 1) rfl rfl rfl ?_
  refine w_s (c' := (42, [some (aR (some (14, 0, 0))), some (aR (some (2, 0, 0)))], [aR (some (2, 0, 0))], am_hp ((sI σ (8, 1, 0) (up (σ.1 (8, 1, 0)) 5 (σ.1 (2, 0, 0) 3)))), t)) rfl rfl ?_
  refine w_c0 (c' := (45, [some (aR (some (14, 0, 0))), some (aR (some (2, 0, 0)))], [], am_hp σ1, t)) rfl rfl (rcv_of (hp_2 _ 0)) rfl c1 (Nat.le_refl _) rfl ?_
  refine w_s (c' := (46, [some (aR (some (14, 0, 0))), some (aR (some (2, 0, 0)))], [aR (some (2, 0, 0))], am_hp σ1, t)) rfl rfl ?_
  refine w_psh rfl zc_1 rfl ?_
  refine w_psh rfl zc_9 rfl ?_
  refine w_c0 (c' := (52, [some (aR (some (14, 0, 0))), some (aR (some (2, 0, 0)))], [aI (iZ r2)], am_hp σ2, t)) rfl rfl (rcv_of (hp_2 _ 0)) rfl c2 (Nat.le_refl _) rfl ?_
  exact w_ifne rfl h3 rfl w4 w5

theorem b_X9_readPack_55 {σ : SG} {t : KT} (q1 : Q (.inl (some (aI (iZ 0))), am_hp σ, t)) : Wp k_X9_readPack d (55, [some (aR (some (14, 0, 0))), some (aR (some (2, 0, 0)))], [], am_hp σ, t) Q := by
  refine w_psh rfl zc_0 rfl ?_
  exact w_ret rfl (frt_b (by decide)) q1

theorem b_X9_readPack_57 {σ σ1 : SG} {t : KT} (c1 : Ca d 79 [aR (some (2, 0, 0))] (am_hp ((sI σ (8, 1, 0) (up (σ.1 (8, 1, 0)) 6 (σ.1 (2, 0, 0) 3))))) t (.inl none, am_hp σ1, t)) (q2 : Q (.inl (some (aI (iZ 1))), am_hp σ1, t)) : Wp k_X9_readPack d (57, [some (aR (some (14, 0, 0))), some (aR (some (2, 0, 0)))], [], am_hp σ, t) Q := by
  refine w_s (c' := (58, [some (aR (some (14, 0, 0))), some (aR (some (2, 0, 0)))], [aR (some (14, 0, 0))], am_hp σ, t)) rfl rfl ?_
  refine w_get rfl (hp_14 _ 0) rfl rfl ?_
  refine w_s (c' := (62, [some (aR (some (14, 0, 0))), some (aR (some (2, 0, 0)))], [aR (some (2, 0, 0)), aR (some (8, 1, 0))], am_hp σ, t)) rfl rfl ?_
  refine w_get rfl (hp_2 _ 0) rfl rfl ?_
  refine w_putI rfl (hp_8 _ 1) rfl rfl rfl ?_
  refine w_s (c' := (69, [some (aR (some (14, 0, 0))), some (aR (some (2, 0, 0)))], [aR (some (2, 0, 0))], am_hp ((sI σ (8, 1, 0) (up (σ.1 (8, 1, 0)) 6 (σ.1 (2, 0, 0) 3)))), t)) rfl rfl ?_
  refine w_c0 (c' := (72, [some (aR (some (14, 0, 0))), some (aR (some (2, 0, 0)))], [], am_hp σ1, t)) rfl rfl (rcv_of (hp_2 _ 0)) rfl c1 (Nat.le_refl _) rfl ?_
  refine w_psh rfl zc_1 rfl ?_
  exact w_ret rfl (frt_b (by decide)) q2

theorem b_X9_readStatement_0 {r1 : Int} {σ σ1 : SG} {t : KT} (c1 : Ca d 84 [aR (some (2, 0, 0)), aR (some (94, 11, 0))] (am_hp σ) t (.inl (some (aI (iZ r1))), am_hp σ1, t)) (h2 : -2147483648 ≤ r1 ∧ r1 < 2147483648) (w3 : r1 = 0 → Wp k_X9_readStatement d (15, [some (aR (some (14, 0, 0))), some (aR (some (2, 0, 0)))], [], am_hp σ1, t) Q) (w4 : r1 ≠ 0 → Wp k_X9_readStatement d (9, [some (aR (some (14, 0, 0))), some (aR (some (2, 0, 0)))], [], am_hp σ1, t) Q) : Wp k_X9_readStatement d (0, [some (aR (some (14, 0, 0))), some (aR (some (2, 0, 0)))], [], am_hp σ, t) Q := by
  refine w_s (c' := (1, [some (aR (some (14, 0, 0))), some (aR (some (2, 0, 0)))], [aR (some (2, 0, 0))], am_hp σ, t)) rfl rfl ?_
  refine w_s (c' := (3, [some (aR (some (14, 0, 0))), some (aR (some (2, 0, 0)))], [aR (some (94, 11, 0)), aR (some (2, 0, 0))], am_hp σ, t)) rfl rfl ?_
  refine w_c0 (c' := (6, [some (aR (some (14, 0, 0))), some (aR (some (2, 0, 0)))], [aI (iZ r1)], am_hp σ1, t)) rfl rfl (rcv_of (hp_2 _ 0)) rfl c1 (Nat.le_refl _) rfl ?_
  exact w_ifeq rfl h2 rfl w3 w4

theorem e_X9_readStatement {h : AH} {t : KT} {d : Nat} {P : RS → Prop} (w : Wp k_X9_readStatement d (0, [some (aR (some (14, 0, 0))), some (aR (some (2, 0, 0)))], [], h, t) P) : ∃ r, Ca (d + 1) 66 [aR (some (14, 0, 0)), aR (some (2, 0, 0))] h t r ∧ P r := ca_W rfl rfl rfl rfl w

theorem b_X9_readStatement_9 {r1 : Int} {σ σ1 : SG} {t : KT} (c1 : Ca d 67 [aR (some (14, 0, 0)), aR (some (2, 0, 0))] (am_hp σ) t (.inl (some (aI (iZ r1))), am_hp σ1, t)) (h2 : r1 = 0 ∨ r1 = 1) (q3 : Q (.inl (some (aI (iZ r1))), am_hp σ1, t)) : Wp k_X9_readStatement d (9, [some (aR (some (14, 0, 0))), some (aR (some (2, 0, 0)))], [], am_hp σ, t) Q := by
  refine w_s (c' := (10, [some (aR (some (14, 0, 0))), some (aR (some (2, 0, 0)))], [aR (some (14, 0, 0))], am_hp σ, t)) rfl rfl ?_
  refine w_s (c' := (11, [some (aR (some (14, 0, 0))), some (aR (some (2, 0, 0)))], [aR (some (2, 0, 0)), aR (some (14, 0, 0))], am_hp σ, t)) rfl rfl ?_
  refine w_c0 (c' := (14, [some (aR (some (14, 0, 0))), some (aR (some (2, 0, 0)))], [aI (iZ r1)], am_hp σ1, t)) rfl rfl (rcv_of (hp_14 _ 0)) rfl c1 (Nat.le_refl _) rfl ?_
  exact w_ret rfl (frt_b h2) q3

theorem b_X9_readStatement_15 {r1 : Int} {σ σ1 : SG} {t : KT} (c1 : Ca d 84 [aR (some (2, 0, 0)), aR (some (94, 12, 0))] (am_hp σ) t (.inl (some (aI (iZ r1))), am_hp σ1, t)) (h2 : -2147483648 ≤ r1 ∧ r1 < 2147483648) (w3 : r1 = 0 → Wp k_X9_readStatement d (30, [some (aR (some (14, 0, 0))), some (aR (some (2, 0, 0)))], [], am_hp σ1, t) Q) (w4 : r1 ≠ 0 → Wp k_X9_readStatement d (24, [some (aR (some (14, 0, 0))), some (aR (some (2, 0, 0)))], [], am_hp σ1, t) Q) : Wp k_X9_readStatement d (15, [some (aR (some (14, 0, 0))), some (aR (some (2, 0, 0)))], [], am_hp σ, t) Q := by
  refine w_s (c' := (16, [some (aR (some (14, 0, 0))), some (aR (some (2, 0, 0)))], [aR (some (2, 0, 0))], am_hp σ, t)) rfl rfl ?_
  refine w_s (c' := (18, [some (aR (some (14, 0, 0))), some (aR (some (2, 0, 0)))], [aR (some (94, 12, 0)), aR (some (2, 0, 0))], am_hp σ, t)) rfl rfl ?_
  refine w_c0 (c' := (21, [some (aR (some (14, 0, 0))), some (aR (some (2, 0, 0)))], [aI (iZ r1)], am_hp σ1, t)) rfl rfl (rcv_of (hp_2 _ 0)) rfl c1 (Nat.le_refl _) rfl ?_
  exact w_ifeq rfl h2 rfl w3 w4

theorem b_X9_readStatement_24 {r1 : Int} {σ σ1 : SG} {t : KT} (c1 : Ca d 69 [aR (some (14, 0, 0)), aR (some (2, 0, 0))] (am_hp σ) t (.inl (some (aI (iZ r1))), am_hp σ1, t)) (h2 : r1 = 0 ∨ r1 = 1) (q3 : Q (.inl (some (aI (iZ r1))), am_hp σ1, t)) : Wp k_X9_readStatement d (24, [some (aR (some (14, 0, 0))), some (aR (some (2, 0, 0)))], [], am_hp σ, t) Q := by
  refine w_s (c' := (25, [some (aR (some (14, 0, 0))), some (aR (some (2, 0, 0)))], [aR (some (14, 0, 0))], am_hp σ, t)) rfl rfl ?_
  refine w_s (c' := (26, [some (aR (some (14, 0, 0))), some (aR (some (2, 0, 0)))], [aR (some (2, 0, 0)), aR (some (14, 0, 0))], am_hp σ, t)) rfl rfl ?_
  refine w_c0 (c' := (29, [some (aR (some (14, 0, 0))), some (aR (some (2, 0, 0)))], [aI (iZ r1)], am_hp σ1, t)) rfl rfl (rcv_of (hp_14 _ 0)) rfl c1 (Nat.le_refl _) rfl ?_
  exact w_ret rfl (frt_b h2) q3

theorem b_X9_readStatement_30 {r1 : Int} {σ σ1 : SG} {t : KT} (c1 : Ca d 84 [aR (some (2, 0, 0)), aR (some (94, 13, 0))] (am_hp σ) t (.inl (some (aI (iZ r1))), am_hp σ1, t)) (h2 : -2147483648 ≤ r1 ∧ r1 < 2147483648) (w3 : r1 = 0 → Wp k_X9_readStatement d (47, [some (aR (some (14, 0, 0))), some (aR (some (2, 0, 0)))], [], am_hp σ1, t) Q) (w4 : r1 ≠ 0 → Wp k_X9_readStatement d (39, [some (aR (some (14, 0, 0))), some (aR (some (2, 0, 0)))], [], am_hp σ1, t) Q) : Wp k_X9_readStatement d (30, [some (aR (some (14, 0, 0))), some (aR (some (2, 0, 0)))], [], am_hp σ, t) Q := by
  refine w_s (c' := (31, [some (aR (some (14, 0, 0))), some (aR (some (2, 0, 0)))], [aR (some (2, 0, 0))], am_hp σ, t)) rfl rfl ?_
  refine w_s (c' := (33, [some (aR (some (14, 0, 0))), some (aR (some (2, 0, 0)))], [aR (some (94, 13, 0)), aR (some (2, 0, 0))], am_hp σ, t)) rfl rfl ?_
  refine w_c0 (c' := (36, [some (aR (some (14, 0, 0))), some (aR (some (2, 0, 0)))], [aI (iZ r1)], am_hp σ1, t)) rfl rfl (rcv_of (hp_2 _ 0)) rfl c1 (Nat.le_refl _) rfl ?_
  exact w_ifeq rfl h2 rfl w3 w4

theorem b_X9_readStatement_39 {r1 : Int} {σ σ1 : SG} {t : KT} (c1 : Ca d 70 [aR (some (14, 0, 0)), aR (some (2, 0, 0))] (am_hp σ) t (.inl (some (aI (iZ r1))), am_hp σ1, t)) (w2 : Wp k_X9_readStatement d (52, [some (aR (some (14, 0, 0))), some (aR (some (2, 0, 0)))], [aI (iZ r1)], am_hp σ1, t) Q) : Wp k_X9_readStatement d (39, [some (aR (some (14, 0, 0))), some (aR (some (2, 0, 0)))], [], am_hp σ, t) Q := by
  refine w_s (c' := (40, [some (aR (some (14, 0, 0))), some (aR (some (2, 0, 0)))], [aR (some (14, 0, 0))], am_hp σ, t)) rfl rfl ?_
  refine w_s (c' := (41, [some (aR (some (14, 0, 0))), some (aR (some (2, 0, 0)))], [aR (some (2, 0, 0)), aR (some (14, 0, 0))], am_hp σ, t)) rfl rfl ?_
  refine w_c0 (c' := (44, [some (aR (some (14, 0, 0))), some (aR (some (2, 0, 0)))], [aI (iZ r1)], am_hp σ1, t)) rfl rfl (rcv_of (hp_14 _ 0)) rfl c1 (Nat.le_refl _) rfl ?_
  refine w_s (c' := (52, [some (aR (some (14, 0, 0))), some (aR (some (2, 0, 0)))], [aI (iZ r1)], am_hp σ1, t)) rfl rfl ?_
  exact w2

theorem b_X9_readStatement_47 {r1 : Int} {σ σ1 : SG} {t : KT} (c1 : Ca d 83 [aR (some (2, 0, 0)), aI (iZ 1)] (am_hp σ) t (.inl (some (aI (iZ r1))), am_hp σ1, t)) (w2 : Wp k_X9_readStatement d (52, [some (aR (some (14, 0, 0))), some (aR (some (2, 0, 0)))], [aI (iZ r1)], am_hp σ1, t) Q) : Wp k_X9_readStatement d (47, [some (aR (some (14, 0, 0))), some (aR (some (2, 0, 0)))], [], am_hp σ, t) Q := by
  refine w_s (c' := (48, [some (aR (some (14, 0, 0))), some (aR (some (2, 0, 0)))], [aR (some (2, 0, 0))], am_hp σ, t)) rfl rfl ?_
  refine w_psh rfl zc_1 rfl ?_
  refine w_c0 (c' := (52, [some (aR (some (14, 0, 0))), some (aR (some (2, 0, 0)))], [aI (iZ r1)], am_hp σ1, t)) rfl rfl (rcv_of (hp_2 _ 0)) rfl c1 (Nat.le_refl _) rfl ?_
  exact w2

theorem b_X9_readStatement_52 {xs0 : Int} {σ : SG} {t : KT} (h1 : xs0 = 0 ∨ xs0 = 1) (q2 : Q (.inl (some (aI (iZ xs0))), am_hp σ, t)) : Wp k_X9_readStatement d (52, [some (aR (some (14, 0, 0))), some (aR (some (2, 0, 0)))], [aI (iZ xs0)], am_hp σ, t) Q := by
  exact w_ret rfl (frt_b h1) q2

theorem b_X9_readRow_0 {σ : SG} {t : KT} (h1 : -2147483648 ≤ σ.1 (8, 1, 0) 4 ∧ σ.1 (8, 1, 0) 4 < 2147483648) (w2 : σ.1 (8, 1, 0) 4 < 4 → Wp k_X9_readRow d (17, [some (aR (some (14, 0, 0))), some (aR (some (2, 0, 0)))], [], am_hp σ, t) Q) (w3 : 4 ≤ σ.1 (8, 1, 0) 4 → Wp k_X9_readRow d (11, [some (aR (some (14, 0, 0))), some (aR (some (2, 0, 0)))], [], am_hp σ, t) Q) : Wp k_X9_readRow d (0, [some (aR (some (14, 0, 0))), some (aR (some (2, 0, 0)))], [], am_hp σ, t) Q := by
  refine w_s (c' := (1, [some (aR (some (14, 0, 0))), some (aR (some (2, 0, 0)))], [aR (some (14, 0, 0))], am_hp σ, t)) rfl rfl ?_
  refine w_get rfl (hp_14 _ 0) rfl rfl ?_
  refine w_get rfl (hp_8 _ 1) rfl rfl ?_
  refine w_psh rfl zc_4 rfl ?_
  exact w_iclt rfl h1 (by decide) rfl w2 w3

theorem e_X9_readRow {h : AH} {t : KT} {d : Nat} {P : RS → Prop} (w : Wp k_X9_readRow d (0, [some (aR (some (14, 0, 0))), some (aR (some (2, 0, 0)))], [], h, t) P) : ∃ r, Ca (d + 1) 67 [aR (some (14, 0, 0)), aR (some (2, 0, 0))] h t r ∧ P r := ca_W rfl rfl rfl rfl w

theorem b_X9_readRow_11 {r1 : Int} {σ σ1 : SG} {t : KT} (c1 : Ca d 83 [aR (some (2, 0, 0)), aI (iZ 5)] (am_hp σ) t (.inl (some (aI (iZ r1))), am_hp σ1, t)) (h2 : r1 = 0 ∨ r1 = 1) (q3 : Q (.inl (some (aI (iZ r1))), am_hp σ1, t)) : Wp k_X9_readRow d (11, [some (aR (some (14, 0, 0))), some (aR (some (2, 0, 0)))], [], am_hp σ, t) Q := by
  refine w_s (c' := (12, [some (aR (some (14, 0, 0))), some (aR (some (2, 0, 0)))], [aR (some (2, 0, 0))], am_hp σ, t)) rfl rfl ?_
  refine w_psh rfl zc_5 rfl ?_
  refine w_c0 (c' := (16, [some (aR (some (14, 0, 0))), some (aR (some (2, 0, 0)))], [aI (iZ r1)], am_hp σ1, t)) rfl rfl (rcv_of (hp_2 _ 0)) rfl c1 (Nat.le_refl _) rfl ?_
  exact w_ret rfl (frt_b h2) q3

theorem b_X9_readRow_17 {r2 : Int} {σ σ1 σ2 : SG} {t : KT} (c1 : Ca d 79 [aR (some (2, 0, 0))] (am_hp σ) t (.inl none, am_hp σ1, t)) (c2 : Ca d 85 [aR (some (2, 0, 0)), aI (iZ 1)] (am_hp σ1) t (.inl (some (aI (iZ r2))), am_hp σ2, t)) (h3 : -2147483648 ≤ r2 ∧ r2 < 2147483648) (w4 : r2 ≠ 0 → Wp k_X9_readRow d (31, [some (aR (some (14, 0, 0))), some (aR (some (2, 0, 0)))], [], am_hp σ2, t) Q) (w5 : r2 = 0 → Wp k_X9_readRow d (29, [some (aR (some (14, 0, 0))), some (aR (some (2, 0, 0)))], [], am_hp σ2, t) Q) : Wp k_X9_readRow d (17, [some (aR (some (14, 0, 0))), some (aR (some (2, 0, 0)))], [], am_hp σ, t) Q := by
  refine w_s (c' := (18, [some (aR (some (14, 0, 0))), some (aR (some (2, 0, 0)))], [aR (some (2, 0, 0))], am_hp σ, t)) rfl rfl ?_
  refine w_c0 (c' := (21, [some (aR (some (14, 0, 0))), some (aR (some (2, 0, 0)))], [], am_hp σ1, t)) rfl rfl (rcv_of (hp_2 _ 0)) rfl c1 (Nat.le_refl _) rfl ?_
  refine w_s (c' := (22, [some (aR (some (14, 0, 0))), some (aR (some (2, 0, 0)))], [aR (some (2, 0, 0))], am_hp σ1, t)) rfl rfl ?_
  refine w_psh rfl zc_1 rfl ?_
  refine w_c0 (c' := (26, [some (aR (some (14, 0, 0))), some (aR (some (2, 0, 0)))], [aI (iZ r2)], am_hp σ2, t)) rfl rfl (rcv_of (hp_2 _ 0)) rfl c2 (Nat.le_refl _) rfl ?_
  exact w_ifne rfl h3 rfl w4 w5

theorem b_X9_readRow_29 {σ : SG} {t : KT} (q1 : Q (.inl (some (aI (iZ 0))), am_hp σ, t)) : Wp k_X9_readRow d (29, [some (aR (some (14, 0, 0))), some (aR (some (2, 0, 0)))], [], am_hp σ, t) Q := by
  refine w_psh rfl zc_0 rfl ?_
  exact w_ret rfl (frt_b (by decide)) q1

theorem b_X9_readRow_31 {r1 : Int} {σ σ1 : SG} {t : KT} (c1 : Ca d 46 [aR (some (8, 1, 0)), aL (jZ (σ.2.1 (2, 0, 0) 4))] (am_hp σ) t (.inl (some (aI (iZ r1))), am_hp σ1, t)) (h2 : -2147483648 ≤ r1 ∧ r1 < 2147483648) (w3 : r1 = -1 → Wp k_X9_readRow d (52, [some (aR (some (14, 0, 0))), some (aR (some (2, 0, 0)))], [], am_hp σ1, t) Q) (w4 : r1 ≠ -1 → Wp k_X9_readRow d (46, [some (aR (some (14, 0, 0))), some (aR (some (2, 0, 0)))], [], am_hp σ1, t) Q) : Wp k_X9_readRow d (31, [some (aR (some (14, 0, 0))), some (aR (some (2, 0, 0)))], [], am_hp σ, t) Q := by
  refine w_s (c' := (32, [some (aR (some (14, 0, 0))), some (aR (some (2, 0, 0)))], [aR (some (14, 0, 0))], am_hp σ, t)) rfl rfl ?_
  refine w_get rfl (hp_14 _ 0) rfl rfl ?_
  refine w_s (c' := (36, [some (aR (some (14, 0, 0))), some (aR (some (2, 0, 0)))], [aR (some (2, 0, 0)), aR (some (8, 1, 0))], am_hp σ, t)) rfl rfl ?_
  refine w_get rfl (hp_2 _ 0) rfl rfl ?_
  refine w_c0 (c' := (42, [some (aR (some (14, 0, 0))), some (aR (some (2, 0, 0)))], [aI (iZ r1)], am_hp σ1, t)) rfl rfl (rcv_of (hp_8 _ 1)) rfl c1 (Nat.le_refl _) rfl ?_
  refine w_psh rfl zc_m1 rfl ?_
  exact w_iceq rfl h2 (by decide) rfl w3 w4

theorem b_X9_readRow_46 {r1 : Int} {σ σ1 : SG} {t : KT} (c1 : Ca d 83 [aR (some (2, 0, 0)), aI (iZ 3)] (am_hp σ) t (.inl (some (aI (iZ r1))), am_hp σ1, t)) (h2 : r1 = 0 ∨ r1 = 1) (q3 : Q (.inl (some (aI (iZ r1))), am_hp σ1, t)) : Wp k_X9_readRow d (46, [some (aR (some (14, 0, 0))), some (aR (some (2, 0, 0)))], [], am_hp σ, t) Q := by
  refine w_s (c' := (47, [some (aR (some (14, 0, 0))), some (aR (some (2, 0, 0)))], [aR (some (2, 0, 0))], am_hp σ, t)) rfl rfl ?_
  refine w_psh rfl zc_3 rfl ?_
  refine w_c0 (c' := (51, [some (aR (some (14, 0, 0))), some (aR (some (2, 0, 0)))], [aI (iZ r1)], am_hp σ1, t)) rfl rfl (rcv_of (hp_2 _ 0)) rfl c1 (Nat.le_refl _) rfl ?_
  exact w_ret rfl (frt_b h2) q3

theorem b_X9_readRow_52 {r3 : Int} {σ σ1 σ2 σ3 : SG} {t : KT} (c1 : Ca d 50 [aR (some (8, 1, 0)), aL (jZ (σ.2.1 (2, 0, 0) 4))] (am_hp σ) t (.inl none, am_hp σ1, t)) (c2 : Ca d 79 [aR (some (2, 0, 0))] (am_hp σ1) t (.inl none, am_hp σ2, t)) (c3 : Ca d 68 [aR (some (14, 0, 0)), aR (some (2, 0, 0)), aI (iZ ((σ2.1 (8, 1, 0) 4) - 1))] (am_hp σ2) t (.inl (some (aI (iZ r3))), am_hp σ3, t)) (h4 : r3 = 0 ∨ r3 = 1) (q5 : Q (.inl (some (aI (iZ r3))), am_hp σ3, t)) : Wp k_X9_readRow d (52, [some (aR (some (14, 0, 0))), some (aR (some (2, 0, 0)))], [], am_hp σ, t) Q := by
  refine w_s (c' := (53, [some (aR (some (14, 0, 0))), some (aR (some (2, 0, 0)))], [aR (some (14, 0, 0))], am_hp σ, t)) rfl rfl ?_
  refine w_get rfl (hp_14 _ 0) rfl rfl ?_
  refine w_s (c' := (57, [some (aR (some (14, 0, 0))), some (aR (some (2, 0, 0)))], [aR (some (2, 0, 0)), aR (some (8, 1, 0))], am_hp σ, t)) rfl rfl ?_
  refine w_get rfl (hp_2 _ 0) rfl rfl ?_
  refine w_c0 (c' := (63, [some (aR (some (14, 0, 0))), some (aR (some (2, 0, 0)))], [], am_hp σ1, t)) rfl rfl (rcv_of (hp_8 _ 1)) rfl c1 (Nat.le_refl _) rfl ?_
  refine w_s (c' := (64, [some (aR (some (14, 0, 0))), some (aR (some (2, 0, 0)))], [aR (some (2, 0, 0))], am_hp σ1, t)) rfl rfl ?_
  refine w_c0 (c' := (67, [some (aR (some (14, 0, 0))), some (aR (some (2, 0, 0)))], [], am_hp σ2, t)) rfl rfl (rcv_of (hp_2 _ 0)) rfl c2 (Nat.le_refl _) rfl ?_
  refine w_s (c' := (68, [some (aR (some (14, 0, 0))), some (aR (some (2, 0, 0)))], [aR (some (14, 0, 0))], am_hp σ2, t)) rfl rfl ?_
  refine w_s (c' := (69, [some (aR (some (14, 0, 0))), some (aR (some (2, 0, 0)))], [aR (some (2, 0, 0)), aR (some (14, 0, 0))], am_hp σ2, t)) rfl rfl ?_
  refine w_s (c' := (70, [some (aR (some (14, 0, 0))), some (aR (some (2, 0, 0)))], [aR (some (14, 0, 0)), aR (some (2, 0, 0)), aR (some (14, 0, 0))], am_hp σ2, t)) rfl rfl ?_
  refine w_get rfl (hp_14 _ 0) rfl rfl ?_
  refine w_get rfl (hp_8 _ 1) rfl rfl ?_
  refine w_psh rfl zc_1 rfl ?_
  refine w_isub rfl rfl ?_
  refine w_c0 (c' := (81, [some (aR (some (14, 0, 0))), some (aR (some (2, 0, 0)))], [aI (iZ r3)], am_hp σ3, t)) rfl rfl (rcv_of (hp_14 _ 0)) rfl c3 (Nat.le_refl _) rfl ?_
  exact w_ret rfl (frt_b h4) q5

theorem b_X9_readNumbers_0 {x2 : Int} {σ : SG} {t : KT} (w1 : Wp k_X9_readNumbers d (2, [some (aR (some (14, 0, 0))), some (aR (some (2, 0, 0))), some (aI (iZ x2)), some (aI (iZ 0))], [], am_hp σ, t) Q) : Wp k_X9_readNumbers d (0, [some (aR (some (14, 0, 0))), some (aR (some (2, 0, 0))), some (aI (iZ x2)), none], [], am_hp σ, t) Q := by
  refine w_psh rfl zc_0 rfl ?_
  refine w_s (c' := (2, [some (aR (some (14, 0, 0))), some (aR (some (2, 0, 0))), some (aI (iZ x2)), some (aI (iZ 0))], [], am_hp σ, t)) rfl rfl ?_
  exact w1

theorem e_X9_readNumbers {x2 : Int} {h : AH} {t : KT} {d : Nat} {P : RS → Prop} (w : Wp k_X9_readNumbers d (0, [some (aR (some (14, 0, 0))), some (aR (some (2, 0, 0))), some (aI (iZ x2)), none], [], h, t) P) : ∃ r, Ca (d + 1) 68 [aR (some (14, 0, 0)), aR (some (2, 0, 0)), aI (iZ x2)] h t r ∧ P r := ca_W rfl rfl rfl rfl w

theorem b_X9_readNumbers_2 {x2 : Int} {x3 : Int} {σ : SG} {t : KT} (h1 : -2147483648 ≤ x3 ∧ x3 < 2147483648) (w2 : 60 < x3 → Wp k_X9_readNumbers d (77, [some (aR (some (14, 0, 0))), some (aR (some (2, 0, 0))), some (aI (iZ x2)), some (aI (iZ x3))], [], am_hp σ, t) Q) (w3 : x3 ≤ 60 → Wp k_X9_readNumbers d (8, [some (aR (some (14, 0, 0))), some (aR (some (2, 0, 0))), some (aI (iZ x2)), some (aI (iZ x3))], [], am_hp σ, t) Q) : Wp k_X9_readNumbers d (2, [some (aR (some (14, 0, 0))), some (aR (some (2, 0, 0))), some (aI (iZ x2)), some (aI (iZ x3))], [], am_hp σ, t) Q := by
  refine w_s (c' := (3, [some (aR (some (14, 0, 0))), some (aR (some (2, 0, 0))), some (aI (iZ x2)), some (aI (iZ x3))], [aI (iZ x3)], am_hp σ, t)) rfl rfl ?_
  refine w_psh rfl zc_60 rfl ?_
  exact w_icgt rfl h1 (by decide) rfl w2 w3

theorem b_X9_readNumbers_8 {x2 : Int} {x3 : Int} {σ : SG} {t : KT} (h1 : -2147483648 ≤ σ.1 (2, 0, 0) 2 ∧ σ.1 (2, 0, 0) 2 < 2147483648) (w2 : σ.1 (2, 0, 0) 2 ≠ 2 → Wp k_X9_readNumbers d (77, [some (aR (some (14, 0, 0))), some (aR (some (2, 0, 0))), some (aI (iZ x2)), some (aI (iZ x3))], [], am_hp σ, t) Q) (w3 : σ.1 (2, 0, 0) 2 = 2 → Wp k_X9_readNumbers d (16, [some (aR (some (14, 0, 0))), some (aR (some (2, 0, 0))), some (aI (iZ x2)), some (aI (iZ x3))], [], am_hp σ, t) Q) : Wp k_X9_readNumbers d (8, [some (aR (some (14, 0, 0))), some (aR (some (2, 0, 0))), some (aI (iZ x2)), some (aI (iZ x3))], [], am_hp σ, t) Q := by
  refine w_s (c' := (9, [some (aR (some (14, 0, 0))), some (aR (some (2, 0, 0))), some (aI (iZ x2)), some (aI (iZ x3))], [aR (some (2, 0, 0))], am_hp σ, t)) rfl rfl ?_
  refine w_get rfl (hp_2 _ 0) rfl rfl ?_
  refine w_psh rfl zc_2 rfl ?_
  exact w_icne rfl h1 (by decide) rfl w2 w3

theorem b_X9_readNumbers_16 {x2 : Int} {x3 : Int} {r1 : Int} {σ σ1 : SG} {t : KT} (c1 : Ca d 86 [aR (some (2, 0, 0)), aI (iZ 0), aI (iZ 268435455)] (am_hp σ) t (.inl (some (aI (iZ r1))), am_hp σ1, t)) (h2 : -2147483648 ≤ r1 ∧ r1 < 2147483648) (w3 : r1 ≠ 0 → Wp k_X9_readNumbers d (28, [some (aR (some (14, 0, 0))), some (aR (some (2, 0, 0))), some (aI (iZ x2)), some (aI (iZ x3))], [], am_hp σ1, t) Q) (w4 : r1 = 0 → Wp k_X9_readNumbers d (26, [some (aR (some (14, 0, 0))), some (aR (some (2, 0, 0))), some (aI (iZ x2)), some (aI (iZ x3))], [], am_hp σ1, t) Q) : Wp k_X9_readNumbers d (16, [some (aR (some (14, 0, 0))), some (aR (some (2, 0, 0))), some (aI (iZ x2)), some (aI (iZ x3))], [], am_hp σ, t) Q := by
  refine w_s (c' := (17, [some (aR (some (14, 0, 0))), some (aR (some (2, 0, 0))), some (aI (iZ x2)), some (aI (iZ x3))], [aR (some (2, 0, 0))], am_hp σ, t)) rfl rfl ?_
  refine w_psh rfl zc_0 rfl ?_
  refine w_psh rfl zc_268435455 rfl ?_
  refine w_c0 (c' := (23, [some (aR (some (14, 0, 0))), some (aR (some (2, 0, 0))), some (aI (iZ x2)), some (aI (iZ x3))], [aI (iZ r1)], am_hp σ1, t)) rfl rfl (rcv_of (hp_2 _ 0)) rfl c1 (Nat.le_refl _) rfl ?_
  exact w_ifne rfl h2 rfl w3 w4

theorem b_X9_readNumbers_26 {x2 : Int} {x3 : Int} {σ : SG} {t : KT} (q1 : Q (.inl (some (aI (iZ 0))), am_hp σ, t)) : Wp k_X9_readNumbers d (26, [some (aR (some (14, 0, 0))), some (aR (some (2, 0, 0))), some (aI (iZ x2)), some (aI (iZ x3))], [], am_hp σ, t) Q := by
  refine w_psh rfl zc_0 rfl ?_
  exact w_ret rfl (frt_b (by decide)) q1

theorem b_X9_readNumbers_28 {x2 : Int} {x3 : Int} {r1 : Int} {σ σ1 : SG} {t : KT} (c1 : Ca d 44 [aR (some (8, 1, 0)), aI (iZ x2)] (am_hp σ) t (.inl (some (aI (iZ r1))), am_hp σ1, t)) (h2 : -2147483648 ≤ r1 ∧ r1 < 2147483648) (w3 : r1 < 60 → Wp k_X9_readNumbers d (47, [some (aR (some (14, 0, 0))), some (aR (some (2, 0, 0))), some (aI (iZ x2)), some (aI (iZ x3))], [], am_hp σ1, t) Q) (w4 : 60 ≤ r1 → Wp k_X9_readNumbers d (41, [some (aR (some (14, 0, 0))), some (aR (some (2, 0, 0))), some (aI (iZ x2)), some (aI (iZ x3))], [], am_hp σ1, t) Q) : Wp k_X9_readNumbers d (28, [some (aR (some (14, 0, 0))), some (aR (some (2, 0, 0))), some (aI (iZ x2)), some (aI (iZ x3))], [], am_hp σ, t) Q := by
  refine w_s (c' := (29, [some (aR (some (14, 0, 0))), some (aR (some (2, 0, 0))), some (aI (iZ x2)), some (aI (iZ x3))], [aR (some (14, 0, 0))], am_hp σ, t)) rfl rfl ?_
  refine w_get rfl (hp_14 _ 0) rfl rfl ?_
  refine w_s (c' := (33, [some (aR (some (14, 0, 0))), some (aR (some (2, 0, 0))), some (aI (iZ x2)), some (aI (iZ x3))], [aI (iZ x2), aR (some (8, 1, 0))], am_hp σ, t)) rfl rfl ?_
  refine w_c0 (c' := (36, [some (aR (some (14, 0, 0))), some (aR (some (2, 0, 0))), some (aI (iZ x2)), some (aI (iZ x3))], [aI (iZ r1)], am_hp σ1, t)) rfl rfl (rcv_of (hp_8 _ 1)) rfl c1 (Nat.le_refl _) rfl ?_
  refine w_psh rfl zc_60 rfl ?_
  exact w_iclt rfl h2 (by decide) rfl w3 w4

theorem b_X9_readNumbers_41 {x2 : Int} {x3 : Int} {r1 : Int} {σ σ1 : SG} {t : KT} (c1 : Ca d 83 [aR (some (2, 0, 0)), aI (iZ 5)] (am_hp σ) t (.inl (some (aI (iZ r1))), am_hp σ1, t)) (h2 : r1 = 0 ∨ r1 = 1) (q3 : Q (.inl (some (aI (iZ r1))), am_hp σ1, t)) : Wp k_X9_readNumbers d (41, [some (aR (some (14, 0, 0))), some (aR (some (2, 0, 0))), some (aI (iZ x2)), some (aI (iZ x3))], [], am_hp σ, t) Q := by
  refine w_s (c' := (42, [some (aR (some (14, 0, 0))), some (aR (some (2, 0, 0))), some (aI (iZ x2)), some (aI (iZ x3))], [aR (some (2, 0, 0))], am_hp σ, t)) rfl rfl ?_
  refine w_psh rfl zc_5 rfl ?_
  refine w_c0 (c' := (46, [some (aR (some (14, 0, 0))), some (aR (some (2, 0, 0))), some (aI (iZ x2)), some (aI (iZ x3))], [aI (iZ r1)], am_hp σ1, t)) rfl rfl (rcv_of (hp_2 _ 0)) rfl c1 (Nat.le_refl _) rfl ?_
  exact w_ret rfl (frt_b h2) q3

theorem b_X9_readNumbers_47 {x2 : Int} {x3 : Int} {r1 : Int} {σ σ1 σ2 σ3 : SG} {t : KT} (c1 : Ca d 44 [aR (some (8, 1, 0)), aI (iZ x2)] (am_hp σ) t (.inl (some (aI (iZ r1))), am_hp σ1, t)) (c2 : Ca d 52 [aR (some (8, 1, 0)), aI (iZ x2), aI (iZ r1), aI (iZ (σ1.1 (2, 0, 0) 3))] (am_hp σ1) t (.inl none, am_hp σ2, t)) (c3 : Ca d 79 [aR (some (2, 0, 0))] (am_hp σ2) t (.inl none, am_hp σ3, t)) (w4 : Wp k_X9_readNumbers d (2, [some (aR (some (14, 0, 0))), some (aR (some (2, 0, 0))), some (aI (iZ x2)), some (aI (iZ (x3 + 1)))], [], am_hp σ3, t) Q) : Wp k_X9_readNumbers d (47, [some (aR (some (14, 0, 0))), some (aR (some (2, 0, 0))), some (aI (iZ x2)), some (aI (iZ x3))], [], am_hp σ, t) Q := by
  refine w_s (c' := (48, [some (aR (some (14, 0, 0))), some (aR (some (2, 0, 0))), some (aI (iZ x2)), some (aI (iZ x3))], [aR (some (14, 0, 0))], am_hp σ, t)) rfl rfl ?_
  refine w_get rfl (hp_14 _ 0) rfl rfl ?_
  refine w_s (c' := (52, [some (aR (some (14, 0, 0))), some (aR (some (2, 0, 0))), some (aI (iZ x2)), some (aI (iZ x3))], [aI (iZ x2), aR (some (8, 1, 0))], am_hp σ, t)) rfl rfl ?_
  refine w_s (c' := (53, [some (aR (some (14, 0, 0))), some (aR (some (2, 0, 0))), some (aI (iZ x2)), some (aI (iZ x3))], [aR (some (14, 0, 0)), aI (iZ x2), aR (some (8, 1, 0))], am_hp σ, t)) rfl rfl ?_
  refine w_get rfl (hp_14 _ 0) rfl rfl ?_
  refine w_s (c' := (57, [some (aR (some (14, 0, 0))), some (aR (some (2, 0, 0))), some (aI (iZ x2)), some (aI (iZ x3))], [aI (iZ x2), aR (some (8, 1, 0)), aI (iZ x2), aR (some (8, 1, 0))], am_hp σ, t)) rfl rfl ?_
  refine w_c0 (c' := (60, [some (aR (some (14, 0, 0))), some (aR (some (2, 0, 0))), some (aI (iZ x2)), some (aI (iZ x3))], [aI (iZ r1), aI (iZ x2), aR (some (8, 1, 0))], am_hp σ1, t)) rfl rfl (rcv_of (hp_8 _ 1)) rfl c1 (Nat.le_refl _) rfl ?_
  refine w_s (c' := (61, [some (aR (some (14, 0, 0))), some (aR (some (2, 0, 0))), some (aI (iZ x2)), some (aI (iZ x3))], [aR (some (2, 0, 0)), aI (iZ r1), aI (iZ x2), aR (some (8, 1, 0))], am_hp σ1, t)) rfl rfl ?_
  refine w_get rfl (hp_2 _ 0) rfl rfl ?_
  refine w_c0 (c' := (67, [some (aR (some (14, 0, 0))), some (aR (some (2, 0, 0))), some (aI (iZ x2)), some (aI (iZ x3))], [], am_hp σ2, t)) rfl rfl (rcv_of (hp_8 _ 1)) rfl c2 (Nat.le_refl _) rfl ?_
  refine w_s (c' := (68, [some (aR (some (14, 0, 0))), some (aR (some (2, 0, 0))), some (aI (iZ x2)), some (aI (iZ x3))], [aR (some (2, 0, 0))], am_hp σ2, t)) rfl rfl ?_
  refine w_c0 (c' := (71, [some (aR (some (14, 0, 0))), some (aR (some (2, 0, 0))), some (aI (iZ x2)), some (aI (iZ x3))], [], am_hp σ3, t)) rfl rfl (rcv_of (hp_2 _ 0)) rfl c3 (Nat.le_refl _) rfl ?_
  refine w_inc (a := x3) (ls' := [some (aR (some (14, 0, 0))), some (aR (some (2, 0, 0))), some (aI (iZ x2)), some (aI (iZ (x3 + 1)))]) rfl rfl rfl zc_1 rfl rfl ?_
  refine w_s (c' := (2, [some (aR (some (14, 0, 0))), some (aR (some (2, 0, 0))), some (aI (iZ x2)), some (aI (iZ (x3 + 1)))], [], am_hp σ3, t)) rfl rfl ?_
  exact w4

theorem b_X9_readNumbers_77 {x2 : Int} {x3 : Int} {σ : SG} {t : KT} (q1 : Q (.inl (some (aI (iZ 1))), am_hp σ, t)) : Wp k_X9_readNumbers d (77, [some (aR (some (14, 0, 0))), some (aR (some (2, 0, 0))), some (aI (iZ x2)), some (aI (iZ x3))], [], am_hp σ, t) Q := by
  refine w_psh rfl zc_1 rfl ?_
  exact w_ret rfl (frt_b (by decide)) q1

theorem b_X9_readPrice_0 {r2 : Int} {σ σ1 σ2 : SG} {t : KT} (c1 : Ca d 79 [aR (some (2, 0, 0))] (am_hp σ) t (.inl none, am_hp σ1, t)) (c2 : Ca d 86 [aR (some (2, 0, 0)), aI (iZ 0), aI (iZ 8)] (am_hp σ1) t (.inl (some (aI (iZ r2))), am_hp σ2, t)) (h3 : -2147483648 ≤ r2 ∧ r2 < 2147483648) (w4 : r2 ≠ 0 → Wp k_X9_readPrice d (16, [some (aR (some (14, 0, 0))), some (aR (some (2, 0, 0))), none], [], am_hp σ2, t) Q) (w5 : r2 = 0 → Wp k_X9_readPrice d (14, [some (aR (some (14, 0, 0))), some (aR (some (2, 0, 0))), none], [], am_hp σ2, t) Q) : Wp k_X9_readPrice d (0, [some (aR (some (14, 0, 0))), some (aR (some (2, 0, 0))), none], [], am_hp σ, t) Q := by
  refine w_s (c' := (1, [some (aR (some (14, 0, 0))), some (aR (some (2, 0, 0))), none], [aR (some (2, 0, 0))], am_hp σ, t)) rfl rfl ?_
  refine w_c0 (c' := (4, [some (aR (some (14, 0, 0))), some (aR (some (2, 0, 0))), none], [], am_hp σ1, t)) rfl rfl (rcv_of (hp_2 _ 0)) rfl c1 (Nat.le_refl _) rfl ?_
  refine w_s (c' := (5, [some (aR (some (14, 0, 0))), some (aR (some (2, 0, 0))), none], [aR (some (2, 0, 0))], am_hp σ1, t)) rfl rfl ?_
  refine w_psh rfl zc_0 rfl ?_
  refine w_psh rfl zc_8 rfl ?_
  refine w_c0 (c' := (11, [some (aR (some (14, 0, 0))), some (aR (some (2, 0, 0))), none], [aI (iZ r2)], am_hp σ2, t)) rfl rfl (rcv_of (hp_2 _ 0)) rfl c2 (Nat.le_refl _) rfl ?_
  exact w_ifne rfl h3 rfl w4 w5

theorem e_X9_readPrice {h : AH} {t : KT} {d : Nat} {P : RS → Prop} (w : Wp k_X9_readPrice d (0, [some (aR (some (14, 0, 0))), some (aR (some (2, 0, 0))), none], [], h, t) P) : ∃ r, Ca (d + 1) 69 [aR (some (14, 0, 0)), aR (some (2, 0, 0))] h t r ∧ P r := ca_W rfl rfl rfl rfl w

theorem b_X9_readPrice_14 {σ : SG} {t : KT} (q1 : Q (.inl (some (aI (iZ 0))), am_hp σ, t)) : Wp k_X9_readPrice d (14, [some (aR (some (14, 0, 0))), some (aR (some (2, 0, 0))), none], [], am_hp σ, t) Q := by
  refine w_psh rfl zc_0 rfl ?_
  exact w_ret rfl (frt_b (by decide)) q1

theorem b_X9_readPrice_16 {σ : SG} {t : KT} (h1 : -2147483648 ≤ zand (zshr (σ.1 (14, 0, 0) 1) (σ.1 (2, 0, 0) 3)) 1 ∧ zand (zshr (σ.1 (14, 0, 0) 1) (σ.1 (2, 0, 0) 3)) 1 < 2147483648) (w2 : zand (zshr (σ.1 (14, 0, 0) 1) (σ.1 (2, 0, 0) 3)) 1 ≠ 1 → Wp k_X9_readPrice d (39, [some (aR (some (14, 0, 0))), some (aR (some (2, 0, 0))), some (aI (iZ (σ.1 (2, 0, 0) 3)))], [], am_hp σ, t) Q) (w3 : zand (zshr (σ.1 (14, 0, 0) 1) (σ.1 (2, 0, 0) 3)) 1 = 1 → Wp k_X9_readPrice d (33, [some (aR (some (14, 0, 0))), some (aR (some (2, 0, 0))), some (aI (iZ (σ.1 (2, 0, 0) 3)))], [], am_hp σ, t) Q) : Wp k_X9_readPrice d (16, [some (aR (some (14, 0, 0))), some (aR (some (2, 0, 0))), none], [], am_hp σ, t) Q := by
  refine w_s (c' := (17, [some (aR (some (14, 0, 0))), some (aR (some (2, 0, 0))), none], [aR (some (2, 0, 0))], am_hp σ, t)) rfl rfl ?_
  refine w_get rfl (hp_2 _ 0) rfl rfl ?_
  refine w_s (c' := (21, [some (aR (some (14, 0, 0))), some (aR (some (2, 0, 0))), some (aI (iZ (σ.1 (2, 0, 0) 3)))], [], am_hp σ, t)) rfl rfl ?_
  refine w_s (c' := (22, [some (aR (some (14, 0, 0))), some (aR (some (2, 0, 0))), some (aI (iZ (σ.1 (2, 0, 0) 3)))], [aR (some (14, 0, 0))], am_hp σ, t)) rfl rfl ?_
  refine w_get rfl (hp_14 _ 0) rfl rfl ?_
  refine w_s (c' := (26, [some (aR (some (14, 0, 0))), some (aR (some (2, 0, 0))), some (aI (iZ (σ.1 (2, 0, 0) 3)))], [aI (iZ (σ.1 (2, 0, 0) 3)), aI (iZ (σ.1 (14, 0, 0) 1))], am_hp σ, t)) rfl rfl ?_
  refine w_ishr rfl rfl ?_
  refine w_psh rfl zc_1 rfl ?_
  refine w_iand rfl rfl ?_
  refine w_psh rfl zc_1 rfl ?_
  exact w_icne rfl h1 (by decide) rfl w2 w3

theorem b_X9_readPrice_33 {x2 : Int} {r1 : Int} {σ σ1 : SG} {t : KT} (c1 : Ca d 83 [aR (some (2, 0, 0)), aI (iZ 3)] (am_hp σ) t (.inl (some (aI (iZ r1))), am_hp σ1, t)) (h2 : r1 = 0 ∨ r1 = 1) (q3 : Q (.inl (some (aI (iZ r1))), am_hp σ1, t)) : Wp k_X9_readPrice d (33, [some (aR (some (14, 0, 0))), some (aR (some (2, 0, 0))), some (aI (iZ x2))], [], am_hp σ, t) Q := by
  refine w_s (c' := (34, [some (aR (some (14, 0, 0))), some (aR (some (2, 0, 0))), some (aI (iZ x2))], [aR (some (2, 0, 0))], am_hp σ, t)) rfl rfl ?_
  refine w_psh rfl zc_3 rfl ?_
  refine w_c0 (c' := (38, [some (aR (some (14, 0, 0))), some (aR (some (2, 0, 0))), some (aI (iZ x2))], [aI (iZ r1)], am_hp σ1, t)) rfl rfl (rcv_of (hp_2 _ 0)) rfl c1 (Nat.le_refl _) rfl ?_
  exact w_ret rfl (frt_b h2) q3

theorem b_X9_readPrice_39 {x2 : Int} {r2 : Int} {σ σ1 σ2 : SG} {t : KT} (c1 : Ca d 79 [aR (some (2, 0, 0))] (am_hp ((sI σ (14, 0, 0) (up (σ.1 (14, 0, 0)) 1 (zor (σ.1 (14, 0, 0) 1) (zshl 1 x2)))))) t (.inl none, am_hp σ1, t)) (c2 : Ca d 86 [aR (some (2, 0, 0)), aI (iZ 0), aI (iZ 99)] (am_hp σ1) t (.inl (some (aI (iZ r2))), am_hp σ2, t)) (h3 : -2147483648 ≤ r2 ∧ r2 < 2147483648) (w4 : r2 ≠ 0 → Wp k_X9_readPrice d (67, [some (aR (some (14, 0, 0))), some (aR (some (2, 0, 0))), some (aI (iZ x2))], [], am_hp σ2, t) Q) (w5 : r2 = 0 → Wp k_X9_readPrice d (65, [some (aR (some (14, 0, 0))), some (aR (some (2, 0, 0))), some (aI (iZ x2))], [], am_hp σ2, t) Q) : Wp k_X9_readPrice d (39, [some (aR (some (14, 0, 0))), some (aR (some (2, 0, 0))), some (aI (iZ x2))], [], am_hp σ, t) Q := by
  refine w_s (c' := (40, [some (aR (some (14, 0, 0))), some (aR (some (2, 0, 0))), some (aI (iZ x2))], [aR (some (14, 0, 0))], am_hp σ, t)) rfl rfl ?_
  refine w_s (c' := (41, [some (aR (some (14, 0, 0))), some (aR (some (2, 0, 0))), some (aI (iZ x2))], [aR (some (14, 0, 0)), aR (some (14, 0, 0))], am_hp σ, t)) rfl rfl ?_
  refine w_get rfl (hp_14 _ 0) rfl rfl ?_
  refine w_psh rfl zc_1 rfl ?_
  refine w_s (c' := (46, [some (aR (some (14, 0, 0))), some (aR (some (2, 0, 0))), some (aI (iZ x2))], [aI (iZ x2), aI (iZ 1), aI (iZ (σ.1 (14, 0, 0) 1)), aR (some (14, 0, 0))], am_hp σ, t)) rfl rfl ?_
  refine w_ishl rfl rfl ?_
  refine w_ior rfl rfl ?_
  refine w_putI rfl (hp_14 _ 0) rfl rfl rfl ?_
  refine w_s (c' := (52, [some (aR (some (14, 0, 0))), some (aR (some (2, 0, 0))), some (aI (iZ x2))], [aR (some (2, 0, 0))], am_hp ((sI σ (14, 0, 0) (up (σ.1 (14, 0, 0)) 1 (zor (σ.1 (14, 0, 0) 1) (zshl 1 x2))))), t)) rfl rfl ?_
  refine w_c0 (c' := (55, [some (aR (some (14, 0, 0))), some (aR (some (2, 0, 0))), some (aI (iZ x2))], [], am_hp σ1, t)) rfl rfl (rcv_of (hp_2 _ 0)) rfl c1 (Nat.le_refl _) rfl ?_
  refine w_s (c' := (56, [some (aR (some (14, 0, 0))), some (aR (some (2, 0, 0))), some (aI (iZ x2))], [aR (some (2, 0, 0))], am_hp σ1, t)) rfl rfl ?_
  refine w_psh rfl zc_0 rfl ?_
  refine w_psh rfl zc_99 rfl ?_
  refine w_c0 (c' := (62, [some (aR (some (14, 0, 0))), some (aR (some (2, 0, 0))), some (aI (iZ x2))], [aI (iZ r2)], am_hp σ2, t)) rfl rfl (rcv_of (hp_2 _ 0)) rfl c2 (Nat.le_refl _) rfl ?_
  exact w_ifne rfl h3 rfl w4 w5

theorem b_X9_readPrice_65 {x2 : Int} {σ : SG} {t : KT} (q1 : Q (.inl (some (aI (iZ 0))), am_hp σ, t)) : Wp k_X9_readPrice d (65, [some (aR (some (14, 0, 0))), some (aR (some (2, 0, 0))), some (aI (iZ x2))], [], am_hp σ, t) Q := by
  refine w_psh rfl zc_0 rfl ?_
  exact w_ret rfl (frt_b (by decide)) q1

theorem b_X9_readPrice_67 {x2 : Int} {σ σ1 σ2 : SG} {t : KT} (c1 : Ca d 55 [aR (some (8, 1, 0)), aI (iZ x2), aI (iZ (σ.1 (2, 0, 0) 3))] (am_hp σ) t (.inl none, am_hp σ1, t)) (c2 : Ca d 79 [aR (some (2, 0, 0))] (am_hp σ1) t (.inl none, am_hp σ2, t)) (q3 : Q (.inl (some (aI (iZ 1))), am_hp σ2, t)) : Wp k_X9_readPrice d (67, [some (aR (some (14, 0, 0))), some (aR (some (2, 0, 0))), some (aI (iZ x2))], [], am_hp σ, t) Q := by
  refine w_s (c' := (68, [some (aR (some (14, 0, 0))), some (aR (some (2, 0, 0))), some (aI (iZ x2))], [aR (some (14, 0, 0))], am_hp σ, t)) rfl rfl ?_
  refine w_get rfl (hp_14 _ 0) rfl rfl ?_
  refine w_s (c' := (72, [some (aR (some (14, 0, 0))), some (aR (some (2, 0, 0))), some (aI (iZ x2))], [aI (iZ x2), aR (some (8, 1, 0))], am_hp σ, t)) rfl rfl ?_
  refine w_s (c' := (73, [some (aR (some (14, 0, 0))), some (aR (some (2, 0, 0))), some (aI (iZ x2))], [aR (some (2, 0, 0)), aI (iZ x2), aR (some (8, 1, 0))], am_hp σ, t)) rfl rfl ?_
  refine w_get rfl (hp_2 _ 0) rfl rfl ?_
  refine w_c0 (c' := (79, [some (aR (some (14, 0, 0))), some (aR (some (2, 0, 0))), some (aI (iZ x2))], [], am_hp σ1, t)) rfl rfl (rcv_of (hp_8 _ 1)) rfl c1 (Nat.le_refl _) rfl ?_
  refine w_s (c' := (80, [some (aR (some (14, 0, 0))), some (aR (some (2, 0, 0))), some (aI (iZ x2))], [aR (some (2, 0, 0))], am_hp σ1, t)) rfl rfl ?_
  refine w_c0 (c' := (83, [some (aR (some (14, 0, 0))), some (aR (some (2, 0, 0))), some (aI (iZ x2))], [], am_hp σ2, t)) rfl rfl (rcv_of (hp_2 _ 0)) rfl c2 (Nat.le_refl _) rfl ?_
  refine w_psh rfl zc_1 rfl ?_
  exact w_ret rfl (frt_b (by decide)) q3

theorem b_X9_readFill_0 {r2 : Int} {σ σ1 σ2 : SG} {t : KT} (c1 : Ca d 79 [aR (some (2, 0, 0))] (am_hp σ) t (.inl none, am_hp σ1, t)) (c2 : Ca d 85 [aR (some (2, 0, 0)), aI (iZ 1)] (am_hp σ1) t (.inl (some (aI (iZ r2))), am_hp σ2, t)) (h3 : -2147483648 ≤ r2 ∧ r2 < 2147483648) (w4 : r2 ≠ 0 → Wp k_X9_readFill d (14, [some (aR (some (14, 0, 0))), some (aR (some (2, 0, 0))), none, none, none], [], am_hp σ2, t) Q) (w5 : r2 = 0 → Wp k_X9_readFill d (12, [some (aR (some (14, 0, 0))), some (aR (some (2, 0, 0))), none, none, none], [], am_hp σ2, t) Q) : Wp k_X9_readFill d (0, [some (aR (some (14, 0, 0))), some (aR (some (2, 0, 0))), none, none, none], [], am_hp σ, t) Q := by
  refine w_s (c' := (1, [some (aR (some (14, 0, 0))), some (aR (some (2, 0, 0))), none, none, none], [aR (some (2, 0, 0))], am_hp σ, t)) rfl rfl ?_
  refine w_c0 (c' := (4, [some (aR (some (14, 0, 0))), some (aR (some (2, 0, 0))), none, none, none], [], am_hp σ1, t)) rfl rfl (rcv_of (hp_2 _ 0)) rfl c1 (Nat.le_refl _) rfl ?_
  refine w_s (c' := (5, [some (aR (some (14, 0, 0))), some (aR (some (2, 0, 0))), none, none, none], [aR (some (2, 0, 0))], am_hp σ1, t)) rfl rfl ?_
  refine w_psh rfl zc_1 rfl ?_
  refine w_c0 (c' := (9, [some (aR (some (14, 0, 0))), some (aR (some (2, 0, 0))), none, none, none], [aI (iZ r2)], am_hp σ2, t)) rfl rfl (rcv_of (hp_2 _ 0)) rfl c2 (Nat.le_refl _) rfl ?_
  exact w_ifne rfl h3 rfl w4 w5

theorem e_X9_readFill {h : AH} {t : KT} {d : Nat} {P : RS → Prop} (w : Wp k_X9_readFill d (0, [some (aR (some (14, 0, 0))), some (aR (some (2, 0, 0))), none, none, none], [], h, t) P) : ∃ r, Ca (d + 1) 70 [aR (some (14, 0, 0)), aR (some (2, 0, 0))] h t r ∧ P r := ca_W rfl rfl rfl rfl w

theorem b_X9_readFill_12 {σ : SG} {t : KT} (q1 : Q (.inl (some (aI (iZ 0))), am_hp σ, t)) : Wp k_X9_readFill d (12, [some (aR (some (14, 0, 0))), some (aR (some (2, 0, 0))), none, none, none], [], am_hp σ, t) Q := by
  refine w_psh rfl zc_0 rfl ?_
  exact w_ret rfl (frt_b (by decide)) q1

theorem b_X9_readFill_14 {r1 : Int} {σ σ1 : SG} {t : KT} (c1 : Ca d 46 [aR (some (8, 1, 0)), aL (jZ (σ.2.1 (2, 0, 0) 4))] (am_hp σ) t (.inl (some (aI (iZ r1))), am_hp σ1, t)) (h2 : -2147483648 ≤ r1 ∧ r1 < 2147483648) (w3 : r1 ≠ -1 → Wp k_X9_readFill d (37, [some (aR (some (14, 0, 0))), some (aR (some (2, 0, 0))), some (aI (iZ r1)), none, none], [], am_hp σ1, t) Q) (w4 : r1 = -1 → Wp k_X9_readFill d (31, [some (aR (some (14, 0, 0))), some (aR (some (2, 0, 0))), some (aI (iZ r1)), none, none], [], am_hp σ1, t) Q) : Wp k_X9_readFill d (14, [some (aR (some (14, 0, 0))), some (aR (some (2, 0, 0))), none, none, none], [], am_hp σ, t) Q := by
  refine w_s (c' := (15, [some (aR (some (14, 0, 0))), some (aR (some (2, 0, 0))), none, none, none], [aR (some (14, 0, 0))], am_hp σ, t)) rfl rfl ?_
  refine w_get rfl (hp_14 _ 0) rfl rfl ?_
  refine w_s (c' := (19, [some (aR (some (14, 0, 0))), some (aR (some (2, 0, 0))), none, none, none], [aR (some (2, 0, 0)), aR (some (8, 1, 0))], am_hp σ, t)) rfl rfl ?_
  refine w_get rfl (hp_2 _ 0) rfl rfl ?_
  refine w_c0 (c' := (25, [some (aR (some (14, 0, 0))), some (aR (some (2, 0, 0))), none, none, none], [aI (iZ r1)], am_hp σ1, t)) rfl rfl (rcv_of (hp_8 _ 1)) rfl c1 (Nat.le_refl _) rfl ?_
  refine w_s (c' := (26, [some (aR (some (14, 0, 0))), some (aR (some (2, 0, 0))), some (aI (iZ r1)), none, none], [], am_hp σ1, t)) rfl rfl ?_
  refine w_s (c' := (27, [some (aR (some (14, 0, 0))), some (aR (some (2, 0, 0))), some (aI (iZ r1)), none, none], [aI (iZ r1)], am_hp σ1, t)) rfl rfl ?_
  refine w_psh rfl zc_m1 rfl ?_
  exact w_icne rfl h2 (by decide) rfl w3 w4

theorem b_X9_readFill_31 {x2 : Int} {r1 : Int} {σ σ1 : SG} {t : KT} (c1 : Ca d 83 [aR (some (2, 0, 0)), aI (iZ 4)] (am_hp σ) t (.inl (some (aI (iZ r1))), am_hp σ1, t)) (h2 : r1 = 0 ∨ r1 = 1) (q3 : Q (.inl (some (aI (iZ r1))), am_hp σ1, t)) : Wp k_X9_readFill d (31, [some (aR (some (14, 0, 0))), some (aR (some (2, 0, 0))), some (aI (iZ x2)), none, none], [], am_hp σ, t) Q := by
  refine w_s (c' := (32, [some (aR (some (14, 0, 0))), some (aR (some (2, 0, 0))), some (aI (iZ x2)), none, none], [aR (some (2, 0, 0))], am_hp σ, t)) rfl rfl ?_
  refine w_psh rfl zc_4 rfl ?_
  refine w_c0 (c' := (36, [some (aR (some (14, 0, 0))), some (aR (some (2, 0, 0))), some (aI (iZ x2)), none, none], [aI (iZ r1)], am_hp σ1, t)) rfl rfl (rcv_of (hp_2 _ 0)) rfl c1 (Nat.le_refl _) rfl ?_
  exact w_ret rfl (frt_b h2) q3

theorem b_X9_readFill_37 {x2 : Int} {r2 : Int} {σ σ1 σ2 : SG} {t : KT} (c1 : Ca d 79 [aR (some (2, 0, 0))] (am_hp σ) t (.inl none, am_hp σ1, t)) (c2 : Ca d 86 [aR (some (2, 0, 0)), aI (iZ 1), aI (iZ 60)] (am_hp σ1) t (.inl (some (aI (iZ r2))), am_hp σ2, t)) (h3 : -2147483648 ≤ r2 ∧ r2 < 2147483648) (w4 : r2 ≠ 0 → Wp k_X9_readFill d (53, [some (aR (some (14, 0, 0))), some (aR (some (2, 0, 0))), some (aI (iZ x2)), none, none], [], am_hp σ2, t) Q) (w5 : r2 = 0 → Wp k_X9_readFill d (51, [some (aR (some (14, 0, 0))), some (aR (some (2, 0, 0))), some (aI (iZ x2)), none, none], [], am_hp σ2, t) Q) : Wp k_X9_readFill d (37, [some (aR (some (14, 0, 0))), some (aR (some (2, 0, 0))), some (aI (iZ x2)), none, none], [], am_hp σ, t) Q := by
  refine w_s (c' := (38, [some (aR (some (14, 0, 0))), some (aR (some (2, 0, 0))), some (aI (iZ x2)), none, none], [aR (some (2, 0, 0))], am_hp σ, t)) rfl rfl ?_
  refine w_c0 (c' := (41, [some (aR (some (14, 0, 0))), some (aR (some (2, 0, 0))), some (aI (iZ x2)), none, none], [], am_hp σ1, t)) rfl rfl (rcv_of (hp_2 _ 0)) rfl c1 (Nat.le_refl _) rfl ?_
  refine w_s (c' := (42, [some (aR (some (14, 0, 0))), some (aR (some (2, 0, 0))), some (aI (iZ x2)), none, none], [aR (some (2, 0, 0))], am_hp σ1, t)) rfl rfl ?_
  refine w_psh rfl zc_1 rfl ?_
  refine w_psh rfl zc_60 rfl ?_
  refine w_c0 (c' := (48, [some (aR (some (14, 0, 0))), some (aR (some (2, 0, 0))), some (aI (iZ x2)), none, none], [aI (iZ r2)], am_hp σ2, t)) rfl rfl (rcv_of (hp_2 _ 0)) rfl c2 (Nat.le_refl _) rfl ?_
  exact w_ifne rfl h3 rfl w4 w5

theorem b_X9_readFill_51 {x2 : Int} {σ : SG} {t : KT} (q1 : Q (.inl (some (aI (iZ 0))), am_hp σ, t)) : Wp k_X9_readFill d (51, [some (aR (some (14, 0, 0))), some (aR (some (2, 0, 0))), some (aI (iZ x2)), none, none], [], am_hp σ, t) Q := by
  refine w_psh rfl zc_0 rfl ?_
  exact w_ret rfl (frt_b (by decide)) q1

theorem b_X9_readFill_53 {x2 : Int} {r1 : Int} {σ σ1 : SG} {t : KT} (c1 : Ca d 44 [aR (some (8, 1, 0)), aI (iZ x2)] (am_hp σ) t (.inl (some (aI (iZ r1))), am_hp σ1, t)) (h2 : -2147483648 ≤ r1 + (σ.1 (2, 0, 0) 3) ∧ r1 + (σ.1 (2, 0, 0) 3) < 2147483648) (w3 : r1 + (σ.1 (2, 0, 0) 3) ≤ 60 → Wp k_X9_readFill d (79, [some (aR (some (14, 0, 0))), some (aR (some (2, 0, 0))), some (aI (iZ x2)), some (aI (iZ (σ.1 (2, 0, 0) 3))), none], [], am_hp σ1, t) Q) (w4 : 60 < r1 + (σ.1 (2, 0, 0) 3) → Wp k_X9_readFill d (73, [some (aR (some (14, 0, 0))), some (aR (some (2, 0, 0))), some (aI (iZ x2)), some (aI (iZ (σ.1 (2, 0, 0) 3))), none], [], am_hp σ1, t) Q) : Wp k_X9_readFill d (53, [some (aR (some (14, 0, 0))), some (aR (some (2, 0, 0))), some (aI (iZ x2)), none, none], [], am_hp σ, t) Q := by
  refine w_s (c' := (54, [some (aR (some (14, 0, 0))), some (aR (some (2, 0, 0))), some (aI (iZ x2)), none, none], [aR (some (2, 0, 0))], am_hp σ, t)) rfl rfl ?_
  refine w_get rfl (hp_2 _ 0) rfl rfl ?_
  refine w_s (c' := (58, [some (aR (some (14, 0, 0))), some (aR (some (2, 0, 0))), some (aI (iZ x2)), some (aI (iZ (σ.1 (2, 0, 0) 3))), none], [], am_hp σ, t)) rfl rfl ?_
  refine w_s (c' := (59, [some (aR (some (14, 0, 0))), some (aR (some (2, 0, 0))), some (aI (iZ x2)), some (aI (iZ (σ.1 (2, 0, 0) 3))), none], [aR (some (14, 0, 0))], am_hp σ, t)) rfl rfl ?_
  refine w_get rfl (hp_14 _ 0) rfl rfl ?_
  refine w_s (c' := (63, [some (aR (some (14, 0, 0))), some (aR (some (2, 0, 0))), some (aI (iZ x2)), some (aI (iZ (σ.1 (2, 0, 0) 3))), none], [aI (iZ x2), aR (some (8, 1, 0))], am_hp σ, t)) rfl rfl ?_
  refine w_c0 (c' := (66, [some (aR (some (14, 0, 0))), some (aR (some (2, 0, 0))), some (aI (iZ x2)), some (aI (iZ (σ.1 (2, 0, 0) 3))), none], [aI (iZ r1)], am_hp σ1, t)) rfl rfl (rcv_of (hp_8 _ 1)) rfl c1 (Nat.le_refl _) rfl ?_
  refine w_s (c' := (67, [some (aR (some (14, 0, 0))), some (aR (some (2, 0, 0))), some (aI (iZ x2)), some (aI (iZ (σ.1 (2, 0, 0) 3))), none], [aI (iZ (σ.1 (2, 0, 0) 3)), aI (iZ r1)], am_hp σ1, t)) rfl rfl ?_
  refine w_iadd rfl rfl ?_
  refine w_psh rfl zc_60 rfl ?_
  exact w_icle rfl h2 (by decide) rfl w3 w4

theorem b_X9_readFill_73 {x2 : Int} {x3 : Int} {r1 : Int} {σ σ1 : SG} {t : KT} (c1 : Ca d 83 [aR (some (2, 0, 0)), aI (iZ 5)] (am_hp σ) t (.inl (some (aI (iZ r1))), am_hp σ1, t)) (h2 : r1 = 0 ∨ r1 = 1) (q3 : Q (.inl (some (aI (iZ r1))), am_hp σ1, t)) : Wp k_X9_readFill d (73, [some (aR (some (14, 0, 0))), some (aR (some (2, 0, 0))), some (aI (iZ x2)), some (aI (iZ x3)), none], [], am_hp σ, t) Q := by
  refine w_s (c' := (74, [some (aR (some (14, 0, 0))), some (aR (some (2, 0, 0))), some (aI (iZ x2)), some (aI (iZ x3)), none], [aR (some (2, 0, 0))], am_hp σ, t)) rfl rfl ?_
  refine w_psh rfl zc_5 rfl ?_
  refine w_c0 (c' := (78, [some (aR (some (14, 0, 0))), some (aR (some (2, 0, 0))), some (aI (iZ x2)), some (aI (iZ x3)), none], [aI (iZ r1)], am_hp σ1, t)) rfl rfl (rcv_of (hp_2 _ 0)) rfl c1 (Nat.le_refl _) rfl ?_
  exact w_ret rfl (frt_b h2) q3

theorem b_X9_readFill_79 {x2 : Int} {x3 : Int} {r2 : Int} {σ σ1 σ2 : SG} {t : KT} (c1 : Ca d 79 [aR (some (2, 0, 0))] (am_hp σ) t (.inl none, am_hp σ1, t)) (c2 : Ca d 86 [aR (some (2, 0, 0)), aI (iZ 0), aI (iZ 268435455)] (am_hp σ1) t (.inl (some (aI (iZ r2))), am_hp σ2, t)) (h3 : -2147483648 ≤ r2 ∧ r2 < 2147483648) (w4 : r2 ≠ 0 → Wp k_X9_readFill d (95, [some (aR (some (14, 0, 0))), some (aR (some (2, 0, 0))), some (aI (iZ x2)), some (aI (iZ x3)), none], [], am_hp σ2, t) Q) (w5 : r2 = 0 → Wp k_X9_readFill d (93, [some (aR (some (14, 0, 0))), some (aR (some (2, 0, 0))), some (aI (iZ x2)), some (aI (iZ x3)), none], [], am_hp σ2, t) Q) : Wp k_X9_readFill d (79, [some (aR (some (14, 0, 0))), some (aR (some (2, 0, 0))), some (aI (iZ x2)), some (aI (iZ x3)), none], [], am_hp σ, t) Q := by
  refine w_s (c' := (80, [some (aR (some (14, 0, 0))), some (aR (some (2, 0, 0))), some (aI (iZ x2)), some (aI (iZ x3)), none], [aR (some (2, 0, 0))], am_hp σ, t)) rfl rfl ?_
  refine w_c0 (c' := (83, [some (aR (some (14, 0, 0))), some (aR (some (2, 0, 0))), some (aI (iZ x2)), some (aI (iZ x3)), none], [], am_hp σ1, t)) rfl rfl (rcv_of (hp_2 _ 0)) rfl c1 (Nat.le_refl _) rfl ?_
  refine w_s (c' := (84, [some (aR (some (14, 0, 0))), some (aR (some (2, 0, 0))), some (aI (iZ x2)), some (aI (iZ x3)), none], [aR (some (2, 0, 0))], am_hp σ1, t)) rfl rfl ?_
  refine w_psh rfl zc_0 rfl ?_
  refine w_psh rfl zc_268435455 rfl ?_
  refine w_c0 (c' := (90, [some (aR (some (14, 0, 0))), some (aR (some (2, 0, 0))), some (aI (iZ x2)), some (aI (iZ x3)), none], [aI (iZ r2)], am_hp σ2, t)) rfl rfl (rcv_of (hp_2 _ 0)) rfl c2 (Nat.le_refl _) rfl ?_
  exact w_ifne rfl h3 rfl w4 w5

theorem b_X9_readFill_93 {x2 : Int} {x3 : Int} {σ : SG} {t : KT} (q1 : Q (.inl (some (aI (iZ 0))), am_hp σ, t)) : Wp k_X9_readFill d (93, [some (aR (some (14, 0, 0))), some (aR (some (2, 0, 0))), some (aI (iZ x2)), some (aI (iZ x3)), none], [], am_hp σ, t) Q := by
  refine w_psh rfl zc_0 rfl ?_
  exact w_ret rfl (frt_b (by decide)) q1

theorem b_X9_readFill_95 {x2 : Int} {x3 : Int} {σ : SG} {t : KT} (w1 : Wp k_X9_readFill d (98, [some (aR (some (14, 0, 0))), some (aR (some (2, 0, 0))), some (aI (iZ x2)), some (aI (iZ x3)), some (aI (iZ 0))], [], am_hp σ, t) Q) : Wp k_X9_readFill d (95, [some (aR (some (14, 0, 0))), some (aR (some (2, 0, 0))), some (aI (iZ x2)), some (aI (iZ x3)), none], [], am_hp σ, t) Q := by
  refine w_psh rfl zc_0 rfl ?_
  refine w_s (c' := (98, [some (aR (some (14, 0, 0))), some (aR (some (2, 0, 0))), some (aI (iZ x2)), some (aI (iZ x3)), some (aI (iZ 0))], [], am_hp σ, t)) rfl rfl ?_
  exact w1

theorem b_X9_readFill_98 {x2 : Int} {x3 : Int} {x4 : Int} {σ : SG} {t : KT} (h1 : -2147483648 ≤ x4 ∧ x4 < 2147483648) (h2 : -2147483648 ≤ x3 ∧ x3 < 2147483648) (w3 : x3 ≤ x4 → Wp k_X9_readFill d (130, [some (aR (some (14, 0, 0))), some (aR (some (2, 0, 0))), some (aI (iZ x2)), some (aI (iZ x3)), some (aI (iZ x4))], [], am_hp σ, t) Q) (w4 : x4 < x3 → Wp k_X9_readFill d (104, [some (aR (some (14, 0, 0))), some (aR (some (2, 0, 0))), some (aI (iZ x2)), some (aI (iZ x3)), some (aI (iZ x4))], [], am_hp σ, t) Q) : Wp k_X9_readFill d (98, [some (aR (some (14, 0, 0))), some (aR (some (2, 0, 0))), some (aI (iZ x2)), some (aI (iZ x3)), some (aI (iZ x4))], [], am_hp σ, t) Q := by
  refine w_s (c' := (100, [some (aR (some (14, 0, 0))), some (aR (some (2, 0, 0))), some (aI (iZ x2)), some (aI (iZ x3)), some (aI (iZ x4))], [aI (iZ x4)], am_hp σ, t)) rfl rfl ?_
  refine w_s (c' := (101, [some (aR (some (14, 0, 0))), some (aR (some (2, 0, 0))), some (aI (iZ x2)), some (aI (iZ x3)), some (aI (iZ x4))], [aI (iZ x3), aI (iZ x4)], am_hp σ, t)) rfl rfl ?_
  exact w_icge rfl h1 h2 rfl w3 w4

theorem b_X9_readFill_104 {x2 : Int} {x3 : Int} {x4 : Int} {r1 : Int} {σ σ1 σ2 : SG} {t : KT} (c1 : Ca d 44 [aR (some (8, 1, 0)), aI (iZ x2)] (am_hp σ) t (.inl (some (aI (iZ r1))), am_hp σ1, t)) (c2 : Ca d 52 [aR (some (8, 1, 0)), aI (iZ x2), aI (iZ r1), aI (iZ (σ1.1 (2, 0, 0) 3))] (am_hp σ1) t (.inl none, am_hp σ2, t)) (w3 : Wp k_X9_readFill d (98, [some (aR (some (14, 0, 0))), some (aR (some (2, 0, 0))), some (aI (iZ x2)), some (aI (iZ x3)), some (aI (iZ (x4 + 1)))], [], am_hp σ2, t) Q) : Wp k_X9_readFill d (104, [some (aR (some (14, 0, 0))), some (aR (some (2, 0, 0))), some (aI (iZ x2)), some (aI (iZ x3)), some (aI (iZ x4))], [], am_hp σ, t) Q := by
  refine w_s (c' := (105, [some (aR (some (14, 0, 0))), some (aR (some (2, 0, 0))), some (aI (iZ x2)), some (aI (iZ x3)), some (aI (iZ x4))], [aR (some (14, 0, 0))], am_hp σ, t)) rfl rfl ?_
  refine w_get rfl (hp_14 _ 0) rfl rfl ?_
  refine w_s (c' := (109, [some (aR (some (14, 0, 0))), some (aR (some (2, 0, 0))), some (aI (iZ x2)), some (aI (iZ x3)), some (aI (iZ x4))], [aI (iZ x2), aR (some (8, 1, 0))], am_hp σ, t)) rfl rfl ?_
  refine w_s (c' := (110, [some (aR (some (14, 0, 0))), some (aR (some (2, 0, 0))), some (aI (iZ x2)), some (aI (iZ x3)), some (aI (iZ x4))], [aR (some (14, 0, 0)), aI (iZ x2), aR (some (8, 1, 0))], am_hp σ, t)) rfl rfl ?_
  refine w_get rfl (hp_14 _ 0) rfl rfl ?_
  refine w_s (c' := (114, [some (aR (some (14, 0, 0))), some (aR (some (2, 0, 0))), some (aI (iZ x2)), some (aI (iZ x3)), some (aI (iZ x4))], [aI (iZ x2), aR (some (8, 1, 0)), aI (iZ x2), aR (some (8, 1, 0))], am_hp σ, t)) rfl rfl ?_
  refine w_c0 (c' := (117, [some (aR (some (14, 0, 0))), some (aR (some (2, 0, 0))), some (aI (iZ x2)), some (aI (iZ x3)), some (aI (iZ x4))], [aI (iZ r1), aI (iZ x2), aR (some (8, 1, 0))], am_hp σ1, t)) rfl rfl (rcv_of (hp_8 _ 1)) rfl c1 (Nat.le_refl _) rfl ?_
  refine w_s (c' := (118, [some (aR (some (14, 0, 0))), some (aR (some (2, 0, 0))), some (aI (iZ x2)), some (aI (iZ x3)), some (aI (iZ x4))], [aR (some (2, 0, 0)), aI (iZ r1), aI (iZ x2), aR (some (8, 1, 0))], am_hp σ1, t)) rfl rfl ?_
  refine w_get rfl (hp_2 _ 0) rfl rfl ?_
  refine w_c0 (c' := (124, [some (aR (some (14, 0, 0))), some (aR (some (2, 0, 0))), some (aI (iZ x2)), some (aI (iZ x3)), some (aI (iZ x4))], [], am_hp σ2, t)) rfl rfl (rcv_of (hp_8 _ 1)) rfl c2 (Nat.le_refl _) rfl ?_
  refine w_inc (a := x4) (ls' := [some (aR (some (14, 0, 0))), some (aR (some (2, 0, 0))), some (aI (iZ x2)), some (aI (iZ x3)), some (aI (iZ (x4 + 1)))]) rfl rfl rfl zc_1 rfl rfl ?_
  refine w_s (c' := (98, [some (aR (some (14, 0, 0))), some (aR (some (2, 0, 0))), some (aI (iZ x2)), some (aI (iZ x3)), some (aI (iZ (x4 + 1)))], [], am_hp σ2, t)) rfl rfl ?_
  exact w3

theorem b_X9_readFill_130 {x2 : Int} {x3 : Int} {x4 : Int} {σ σ1 : SG} {t : KT} (c1 : Ca d 79 [aR (some (2, 0, 0))] (am_hp σ) t (.inl none, am_hp σ1, t)) (q2 : Q (.inl (some (aI (iZ 1))), am_hp σ1, t)) : Wp k_X9_readFill d (130, [some (aR (some (14, 0, 0))), some (aR (some (2, 0, 0))), some (aI (iZ x2)), some (aI (iZ x3)), some (aI (iZ x4))], [], am_hp σ, t) Q := by
  refine w_s (c' := (131, [some (aR (some (14, 0, 0))), some (aR (some (2, 0, 0))), some (aI (iZ x2)), some (aI (iZ x3)), some (aI (iZ x4))], [aR (some (2, 0, 0))], am_hp σ, t)) rfl rfl ?_
  refine w_c0 (c' := (134, [some (aR (some (14, 0, 0))), some (aR (some (2, 0, 0))), some (aI (iZ x2)), some (aI (iZ x3)), some (aI (iZ x4))], [], am_hp σ1, t)) rfl rfl (rcv_of (hp_2 _ 0)) rfl c1 (Nat.le_refl _) rfl ?_
  refine w_psh rfl zc_1 rfl ?_
  exact w_ret rfl (frt_b (by decide)) q2
end PCS
