/-! PIECES: X6 -/
set_option maxRecDepth 4000
section PCS
variable {d : Nat} {Q : RS → Prop}
theorem b_X6_addByte_0 {x1 : Int} {σ : SG} {t : KT} (h1 : -2147483648 ≤ σ.1 (25, 0, 0) 1 ∧ σ.1 (25, 0, 0) 1 < 2147483648) (w2 : 730 ≤ σ.1 (25, 0, 0) 1 → Wp k_X6_addByte d (31, [some (aR (some (25, 0, 0))), some (aI (iZ x1))], [], am_hp σ, t) Q) (w3 : σ.1 (25, 0, 0) 1 < 730 → Wp k_X6_addByte d (10, [some (aR (some (25, 0, 0))), some (aI (iZ x1))], [], am_hp σ, t) Q) : Wp k_X6_addByte d (0, [some (aR (some (25, 0, 0))), some (aI (iZ x1))], [], am_hp σ, t) Q := by
  refine w_s (c' := (1, [some (aR (some (25, 0, 0))), some (aI (iZ x1))], [aR (some (25, 0, 0))], am_hp σ, t)) rfl rfl ?_
  refine w_get rfl (hp_25 _ 0) rfl rfl ?_
  refine w_psh rfl zc_730 rfl ?_
  exact w_icge rfl h1 (by decide) rfl w2 w3

theorem e_X6_addByte {x1 : Int} {h : AH} {t : KT} {d : Nat} {P : RS → Prop} (w : Wp k_X6_addByte d (0, [some (aR (some (25, 0, 0))), some (aI (iZ x1))], [], h, t) P) : ∃ r, Ca (d + 1) 36 [aR (some (25, 0, 0)), aI (iZ x1)] h t r ∧ P r := ca_W rfl rfl rfl rfl w

theorem b_X6_addByte_10 {x1 : Int} {σ : SG} {t : KT} (h1 : 0 ≤ σ.1 (25, 0, 0) 1 ∧ σ.1 (25, 0, 0) 1 < 730) (w2 : Wp k_X6_addByte d (31, [some (aR (some (25, 0, 0))), some (aI (iZ x1))], [], am_hp ((sI (sI σ (26, 0, 0) (up (σ.1 (26, 0, 0)) (σ.1 (25, 0, 0) 1).toNat (zb (zi2b x1)))) (25, 0, 0) (up (((sI σ (26, 0, 0) (up (σ.1 (26, 0, 0)) (σ.1 (25, 0, 0) 1).toNat (zb (zi2b x1))))).1 (25, 0, 0)) 1 ((((sI σ (26, 0, 0) (up (σ.1 (26, 0, 0)) (σ.1 (25, 0, 0) 1).toNat (zb (zi2b x1))))).1 (25, 0, 0) 1) + 1)))), t) Q) : Wp k_X6_addByte d (10, [some (aR (some (25, 0, 0))), some (aI (iZ x1))], [], am_hp σ, t) Q := by
  refine w_s (c' := (11, [some (aR (some (25, 0, 0))), some (aI (iZ x1))], [aR (some (25, 0, 0))], am_hp σ, t)) rfl rfl ?_
  refine w_get rfl (hp_25 _ 0) rfl rfl ?_
  refine w_s (c' := (15, [some (aR (some (25, 0, 0))), some (aI (iZ x1))], [aR (some (25, 0, 0)), aR (some (26, 0, 0))], am_hp σ, t)) rfl rfl ?_
  refine w_get rfl (hp_25 _ 0) rfl rfl ?_
  refine w_s (c' := (19, [some (aR (some (25, 0, 0))), some (aI (iZ x1))], [aI (iZ x1), aI (iZ (σ.1 (25, 0, 0) 1)), aR (some (26, 0, 0))], am_hp σ, t)) rfl rfl ?_
  refine w_i2b rfl rfl ?_
  refine w_bas rfl (mk_26 _ 0 0) h1 rfl rfl rfl ?_
  refine w_s (c' := (22, [some (aR (some (25, 0, 0))), some (aI (iZ x1))], [aR (some (25, 0, 0))], am_hp ((sI σ (26, 0, 0) (up (σ.1 (26, 0, 0)) (σ.1 (25, 0, 0) 1).toNat (zb (zi2b x1))))), t)) rfl rfl ?_
  refine w_s (c' := (23, [some (aR (some (25, 0, 0))), some (aI (iZ x1))], [aR (some (25, 0, 0)), aR (some (25, 0, 0))], am_hp ((sI σ (26, 0, 0) (up (σ.1 (26, 0, 0)) (σ.1 (25, 0, 0) 1).toNat (zb (zi2b x1))))), t)) rfl rfl ?_
  refine w_get rfl (hp_25 _ 0) rfl rfl ?_
  refine w_psh rfl zc_1 rfl ?_
  refine w_iadd rfl rfl ?_
  refine w_putI rfl (hp_25 _ 0) rfl rfl rfl ?_
  exact w2

theorem b_X6_addByte_31 {x1 : Int} {σ : SG} {t : KT} (q1 : Q (.inl none, am_hp σ, t)) : Wp k_X6_addByte d (31, [some (aR (some (25, 0, 0))), some (aI (iZ x1))], [], am_hp σ, t) Q := by
  exact w_f rfl rfl q1

theorem b_X6_addName_0 {y1 : Int} {σ : SG} {t : KT} (w1 : Wp k_X6_addName d (2, [some (aR (some (25, 0, 0))), some (aL (jZ y1)), none, some (aI (iZ 0))], [], am_hp σ, t) Q) : Wp k_X6_addName d (0, [some (aR (some (25, 0, 0))), some (aL (jZ y1)), none, none], [], am_hp σ, t) Q := by
  refine w_psh rfl zc_0 rfl ?_
  refine w_s (c' := (2, [some (aR (some (25, 0, 0))), some (aL (jZ y1)), none, some (aI (iZ 0))], [], am_hp σ, t)) rfl rfl ?_
  exact w1

theorem e_X6_addName {y1 : Int} {h : AH} {t : KT} {d : Nat} {P : RS → Prop} (w : Wp k_X6_addName d (0, [some (aR (some (25, 0, 0))), some (aL (jZ y1)), none, none], [], h, t) P) : ∃ r, Ca (d + 1) 37 [aR (some (25, 0, 0)), aL (jZ y1)] h t r ∧ P r := ca_W rfl rfl rfl rfl w

theorem b_X6_addName_2 {y1 : Int} {x3 : Int} {σ : SG} {t : KT} (h1 : -2147483648 ≤ x3 ∧ x3 < 2147483648) (w2 : 8 ≤ x3 → Wp k_X6_addName d (34, [some (aR (some (25, 0, 0))), some (aL (jZ y1)), none, some (aI (iZ x3))], [], am_hp σ, t) Q) (w3 : x3 < 8 → Wp k_X6_addName d (8, [some (aR (some (25, 0, 0))), some (aL (jZ y1)), none, some (aI (iZ x3))], [], am_hp σ, t) Q) : Wp k_X6_addName d (2, [some (aR (some (25, 0, 0))), some (aL (jZ y1)), none, some (aI (iZ x3))], [], am_hp σ, t) Q := by
  refine w_s (c' := (3, [some (aR (some (25, 0, 0))), some (aL (jZ y1)), none, some (aI (iZ x3))], [aI (iZ x3)], am_hp σ, t)) rfl rfl ?_
  refine w_psh rfl zc_8 rfl ?_
  exact w_icge rfl h1 (by decide) rfl w2 w3

theorem b_X6_addName_8 {y1 : Int} {x3 : Int} {r1 : Int} {σ σ1 : SG} {t : KT} (c1 : Ca d 149 [aL (jZ y1), aI (iZ x3)] (am_hp σ) t (.inl (some (aI (iZ r1))), am_hp σ1, t)) (h2 : -2147483648 ≤ r1 ∧ r1 < 2147483648) (w3 : r1 = 0 → Wp k_X6_addName d (34, [some (aR (some (25, 0, 0))), some (aL (jZ y1)), none, some (aI (iZ x3))], [], am_hp σ1, t) Q) (w4 : r1 ≠ 0 → Wp k_X6_addName d (16, [some (aR (some (25, 0, 0))), some (aL (jZ y1)), none, some (aI (iZ x3))], [], am_hp σ1, t) Q) : Wp k_X6_addName d (8, [some (aR (some (25, 0, 0))), some (aL (jZ y1)), none, some (aI (iZ x3))], [], am_hp σ, t) Q := by
  refine w_s (c' := (9, [some (aR (some (25, 0, 0))), some (aL (jZ y1)), none, some (aI (iZ x3))], [aL (jZ y1)], am_hp σ, t)) rfl rfl ?_
  refine w_s (c' := (10, [some (aR (some (25, 0, 0))), some (aL (jZ y1)), none, some (aI (iZ x3))], [aI (iZ x3), aL (jZ y1)], am_hp σ, t)) rfl rfl ?_
  refine w_c0 (c' := (13, [some (aR (some (25, 0, 0))), some (aL (jZ y1)), none, some (aI (iZ x3))], [aI (iZ r1)], am_hp σ1, t)) rfl rfl rfl rfl c1 (Nat.le_refl _) rfl ?_
  exact w_ifeq rfl h2 rfl w3 w4

theorem b_X6_addName_16 {y1 : Int} {x3 : Int} {r1 : Int} {σ σ1 σ2 : SG} {t : KT} (c1 : Ca d 149 [aL (jZ y1), aI (iZ x3)] (am_hp σ) t (.inl (some (aI (iZ r1))), am_hp σ1, t)) (c2 : Ca d 36 [aR (some (25, 0, 0)), aI (iZ (96 + r1))] (am_hp σ1) t (.inl none, am_hp σ2, t)) (w3 : Wp k_X6_addName d (2, [some (aR (some (25, 0, 0))), some (aL (jZ y1)), none, some (aI (iZ (x3 + 1)))], [], am_hp σ2, t) Q) : Wp k_X6_addName d (16, [some (aR (some (25, 0, 0))), some (aL (jZ y1)), none, some (aI (iZ x3))], [], am_hp σ, t) Q := by
  refine w_s (c' := (17, [some (aR (some (25, 0, 0))), some (aL (jZ y1)), none, some (aI (iZ x3))], [aR (some (25, 0, 0))], am_hp σ, t)) rfl rfl ?_
  refine w_psh rfl zc_96 rfl ?_
  refine w_s (c' := (20, [some (aR (some (25, 0, 0))), some (aL (jZ y1)), none, some (aI (iZ x3))], [aL (jZ y1), aI (iZ 96), aR (some (25, 0, 0))], am_hp σ, t)) rfl rfl ?_
  refine w_s (c' := (21, [some (aR (some (25, 0, 0))), some (aL (jZ y1)), none, some (aI (iZ x3))], [aI (iZ x3), aL (jZ y1), aI (iZ 96), aR (some (25, 0, 0))], am_hp σ, t)) rfl rfl ?_
  refine w_c0 (c' := (24, [some (aR (some (25, 0, 0))), some (aL (jZ y1)), none, some (aI (iZ x3))], [aI (iZ r1), aI (iZ 96), aR (some (25, 0, 0))], am_hp σ1, t)) rfl rfl rfl rfl c1 (Nat.le_refl _) rfl ?_
  refine w_iadd rfl rfl ?_
  refine w_c0 (c' := (28, [some (aR (some (25, 0, 0))), some (aL (jZ y1)), none, some (aI (iZ x3))], [], am_hp σ2, t)) rfl rfl (rcv_of (hp_25 _ 0)) rfl c2 (Nat.le_refl _) rfl ?_
  refine w_inc (a := x3) (ls' := [some (aR (some (25, 0, 0))), some (aL (jZ y1)), none, some (aI (iZ (x3 + 1)))]) rfl rfl rfl zc_1 rfl rfl ?_
  refine w_s (c' := (2, [some (aR (some (25, 0, 0))), some (aL (jZ y1)), none, some (aI (iZ (x3 + 1)))], [], am_hp σ2, t)) rfl rfl ?_
  exact w3

theorem b_X6_addName_34 {y1 : Int} {x3 : Int} {σ : SG} {t : KT} (q1 : Q (.inl none, am_hp σ, t)) : Wp k_X6_addName d (34, [some (aR (some (25, 0, 0))), some (aL (jZ y1)), none, some (aI (iZ x3))], [], am_hp σ, t) Q := by
  exact w_f rfl rfl q1

theorem b_X6_addWord_0 {p1 : Nat} {x2 : Int} {r1 : Int} {σ σ1 σ2 σ3 : SG} {t : KT} (c1 : Ca d 8 [aR (some (28, p1, 0)), aI (iZ x2)] (am_hp σ) t (.inl (some (aI (iZ r1))), am_hp σ1, t)) (c2 : Ca d 36 [aR (some (25, 0, 0)), aI (iZ (48 + r1))] (am_hp σ1) t (.inl none, am_hp σ2, t)) (c3 : Ca d 36 [aR (some (25, 0, 0)), aI (iZ 40)] (am_hp σ2) t (.inl none, am_hp σ3, t)) (w4 : Wp k_X6_addWord d (20, [some (aR (some (25, 0, 0))), some (aR (some (28, p1, 0))), some (aI (iZ x2)), some (aI (iZ 0))], [], am_hp σ3, t) Q) : Wp k_X6_addWord d (0, [some (aR (some (25, 0, 0))), some (aR (some (28, p1, 0))), some (aI (iZ x2)), none], [], am_hp σ, t) Q := by
  refine w_s (c' := (1, [some (aR (some (25, 0, 0))), some (aR (some (28, p1, 0))), some (aI (iZ x2)), none], [aR (some (25, 0, 0))], am_hp σ, t)) rfl rfl ?_
  refine w_psh rfl zc_48 rfl ?_
  refine w_s (c' := (4, [some (aR (some (25, 0, 0))), some (aR (some (28, p1, 0))), some (aI (iZ x2)), none], [aR (some (28, p1, 0)), aI (iZ 48), aR (some (25, 0, 0))], am_hp σ, t)) rfl rfl ?_
  refine w_s (c' := (5, [some (aR (some (25, 0, 0))), some (aR (some (28, p1, 0))), some (aI (iZ x2)), none], [aI (iZ x2), aR (some (28, p1, 0)), aI (iZ 48), aR (some (25, 0, 0))], am_hp σ, t)) rfl rfl ?_
  refine w_c0 (c' := (8, [some (aR (some (25, 0, 0))), some (aR (some (28, p1, 0))), some (aI (iZ x2)), none], [aI (iZ r1), aI (iZ 48), aR (some (25, 0, 0))], am_hp σ1, t)) rfl rfl (rcv_of (hp_28 _ p1)) rfl c1 (Nat.le_refl _) rfl ?_
  refine w_iadd rfl rfl ?_
  refine w_c0 (c' := (12, [some (aR (some (25, 0, 0))), some (aR (some (28, p1, 0))), some (aI (iZ x2)), none], [], am_hp σ2, t)) rfl rfl (rcv_of (hp_25 _ 0)) rfl c2 (Nat.le_refl _) rfl ?_
  refine w_s (c' := (13, [some (aR (some (25, 0, 0))), some (aR (some (28, p1, 0))), some (aI (iZ x2)), none], [aR (some (25, 0, 0))], am_hp σ2, t)) rfl rfl ?_
  refine w_psh rfl zc_40 rfl ?_
  refine w_c0 (c' := (18, [some (aR (some (25, 0, 0))), some (aR (some (28, p1, 0))), some (aI (iZ x2)), none], [], am_hp σ3, t)) rfl rfl (rcv_of (hp_25 _ 0)) rfl c3 (Nat.le_refl _) rfl ?_
  refine w_psh rfl zc_0 rfl ?_
  refine w_s (c' := (20, [some (aR (some (25, 0, 0))), some (aR (some (28, p1, 0))), some (aI (iZ x2)), some (aI (iZ 0))], [], am_hp σ3, t)) rfl rfl ?_
  exact w4

theorem e_X6_addWord {p1 : Nat} {x2 : Int} {h : AH} {t : KT} {d : Nat} {P : RS → Prop} (w : Wp k_X6_addWord d (0, [some (aR (some (25, 0, 0))), some (aR (some (28, p1, 0))), some (aI (iZ x2)), none], [], h, t) P) : ∃ r, Ca (d + 1) 38 [aR (some (25, 0, 0)), aR (some (28, p1, 0)), aI (iZ x2)] h t r ∧ P r := ca_W rfl rfl rfl rfl w

theorem b_X6_addWord_20 {p1 : Nat} {x2 : Int} {x3 : Int} {r1 : Int} {σ σ1 : SG} {t : KT} (c1 : Ca d 9 [aR (some (28, p1, 0)), aI (iZ x2)] (am_hp σ) t (.inl (some (aI (iZ r1))), am_hp σ1, t)) (h2 : -2147483648 ≤ x3 ∧ x3 < 2147483648) (h3 : -2147483648 ≤ r1 ∧ r1 < 2147483648) (w4 : r1 ≤ x3 → Wp k_X6_addWord d (55, [some (aR (some (25, 0, 0))), some (aR (some (28, p1, 0))), some (aI (iZ x2)), some (aI (iZ x3))], [], am_hp σ1, t) Q) (w5 : x3 < r1 → Wp k_X6_addWord d (29, [some (aR (some (25, 0, 0))), some (aR (some (28, p1, 0))), some (aI (iZ x2)), some (aI (iZ x3))], [], am_hp σ1, t) Q) : Wp k_X6_addWord d (20, [some (aR (some (25, 0, 0))), some (aR (some (28, p1, 0))), some (aI (iZ x2)), some (aI (iZ x3))], [], am_hp σ, t) Q := by
  refine w_s (c' := (21, [some (aR (some (25, 0, 0))), some (aR (some (28, p1, 0))), some (aI (iZ x2)), some (aI (iZ x3))], [aI (iZ x3)], am_hp σ, t)) rfl rfl ?_
  refine w_s (c' := (22, [some (aR (some (25, 0, 0))), some (aR (some (28, p1, 0))), some (aI (iZ x2)), some (aI (iZ x3))], [aR (some (28, p1, 0)), aI (iZ x3)], am_hp σ, t)) rfl rfl ?_
  refine w_s (c' := (23, [some (aR (some (25, 0, 0))), some (aR (some (28, p1, 0))), some (aI (iZ x2)), some (aI (iZ x3))], [aI (iZ x2), aR (some (28, p1, 0)), aI (iZ x3)], am_hp σ, t)) rfl rfl ?_
  refine w_c0 (c' := (26, [some (aR (some (25, 0, 0))), some (aR (some (28, p1, 0))), some (aI (iZ x2)), some (aI (iZ x3))], [aI (iZ r1), aI (iZ x3)], am_hp σ1, t)) rfl rfl (rcv_of (hp_28 _ p1)) rfl c1 (Nat.le_refl _) rfl ?_
  exact w_icge rfl h2 h3 rfl w4 w5

theorem b_X6_addWord_29 {p1 : Nat} {x2 : Int} {x3 : Int} {σ : SG} {t : KT} (h1 : -2147483648 ≤ x3 ∧ x3 < 2147483648) (w2 : x3 ≤ 0 → Wp k_X6_addWord d (39, [some (aR (some (25, 0, 0))), some (aR (some (28, p1, 0))), some (aI (iZ x2)), some (aI (iZ x3))], [], am_hp σ, t) Q) (w3 : 0 < x3 → Wp k_X6_addWord d (33, [some (aR (some (25, 0, 0))), some (aR (some (28, p1, 0))), some (aI (iZ x2)), some (aI (iZ x3))], [], am_hp σ, t) Q) : Wp k_X6_addWord d (29, [some (aR (some (25, 0, 0))), some (aR (some (28, p1, 0))), some (aI (iZ x2)), some (aI (iZ x3))], [], am_hp σ, t) Q := by
  refine w_s (c' := (30, [some (aR (some (25, 0, 0))), some (aR (some (28, p1, 0))), some (aI (iZ x2)), some (aI (iZ x3))], [aI (iZ x3)], am_hp σ, t)) rfl rfl ?_
  exact w_ifle rfl h1 rfl w2 w3

theorem b_X6_addWord_33 {p1 : Nat} {x2 : Int} {x3 : Int} {σ σ1 : SG} {t : KT} (c1 : Ca d 36 [aR (some (25, 0, 0)), aI (iZ 44)] (am_hp σ) t (.inl none, am_hp σ1, t)) (w2 : Wp k_X6_addWord d (39, [some (aR (some (25, 0, 0))), some (aR (some (28, p1, 0))), some (aI (iZ x2)), some (aI (iZ x3))], [], am_hp σ1, t) Q) : Wp k_X6_addWord d (33, [some (aR (some (25, 0, 0))), some (aR (some (28, p1, 0))), some (aI (iZ x2)), some (aI (iZ x3))], [], am_hp σ, t) Q := by
  refine w_s (c' := (34, [some (aR (some (25, 0, 0))), some (aR (some (28, p1, 0))), some (aI (iZ x2)), some (aI (iZ x3))], [aR (some (25, 0, 0))], am_hp σ, t)) rfl rfl ?_
  refine w_psh rfl zc_44 rfl ?_
  refine w_c0 (c' := (39, [some (aR (some (25, 0, 0))), some (aR (some (28, p1, 0))), some (aI (iZ x2)), some (aI (iZ x3))], [], am_hp σ1, t)) rfl rfl (rcv_of (hp_25 _ 0)) rfl c1 (Nat.le_refl _) rfl ?_
  exact w2

theorem b_X6_addWord_39 {p1 : Nat} {x2 : Int} {x3 : Int} {r1 : Int} {σ σ1 σ2 : SG} {t : KT} (c1 : Ca d 17 [aR (some (28, p1, 0)), aI (iZ x2), aI (iZ x3)] (am_hp σ) t (.inl (some (aI (iZ r1))), am_hp σ1, t)) (c2 : Ca d 39 [aR (some (25, 0, 0)), aI (iZ r1)] (am_hp σ1) t (.inl none, am_hp σ2, t)) (w3 : Wp k_X6_addWord d (20, [some (aR (some (25, 0, 0))), some (aR (some (28, p1, 0))), some (aI (iZ x2)), some (aI (iZ (x3 + 1)))], [], am_hp σ2, t) Q) : Wp k_X6_addWord d (39, [some (aR (some (25, 0, 0))), some (aR (some (28, p1, 0))), some (aI (iZ x2)), some (aI (iZ x3))], [], am_hp σ, t) Q := by
  refine w_s (c' := (40, [some (aR (some (25, 0, 0))), some (aR (some (28, p1, 0))), some (aI (iZ x2)), some (aI (iZ x3))], [aR (some (25, 0, 0))], am_hp σ, t)) rfl rfl ?_
  refine w_s (c' := (41, [some (aR (some (25, 0, 0))), some (aR (some (28, p1, 0))), some (aI (iZ x2)), some (aI (iZ x3))], [aR (some (28, p1, 0)), aR (some (25, 0, 0))], am_hp σ, t)) rfl rfl ?_
  refine w_s (c' := (42, [some (aR (some (25, 0, 0))), some (aR (some (28, p1, 0))), some (aI (iZ x2)), some (aI (iZ x3))], [aI (iZ x2), aR (some (28, p1, 0)), aR (some (25, 0, 0))], am_hp σ, t)) rfl rfl ?_
  refine w_s (c' := (43, [some (aR (some (25, 0, 0))), some (aR (some (28, p1, 0))), some (aI (iZ x2)), some (aI (iZ x3))], [aI (iZ x3), aI (iZ x2), aR (some (28, p1, 0)), aR (some (25, 0, 0))], am_hp σ, t)) rfl rfl ?_
  refine w_c0 (c' := (46, [some (aR (some (25, 0, 0))), some (aR (some (28, p1, 0))), some (aI (iZ x2)), some (aI (iZ x3))], [aI (iZ r1), aR (some (25, 0, 0))], am_hp σ1, t)) rfl rfl (rcv_of (hp_28 _ p1)) rfl c1 (Nat.le_refl _) rfl ?_
  refine w_c0 (c' := (49, [some (aR (some (25, 0, 0))), some (aR (some (28, p1, 0))), some (aI (iZ x2)), some (aI (iZ x3))], [], am_hp σ2, t)) rfl rfl (rcv_of (hp_25 _ 0)) rfl c2 (Nat.le_refl _) rfl ?_
  refine w_inc (a := x3) (ls' := [some (aR (some (25, 0, 0))), some (aR (some (28, p1, 0))), some (aI (iZ x2)), some (aI (iZ (x3 + 1)))]) rfl rfl rfl zc_1 rfl rfl ?_
  refine w_s (c' := (20, [some (aR (some (25, 0, 0))), some (aR (some (28, p1, 0))), some (aI (iZ x2)), some (aI (iZ (x3 + 1)))], [], am_hp σ2, t)) rfl rfl ?_
  exact w3

theorem b_X6_addWord_55 {p1 : Nat} {x2 : Int} {x3 : Int} {σ σ1 : SG} {t : KT} (c1 : Ca d 36 [aR (some (25, 0, 0)), aI (iZ 41)] (am_hp σ) t (.inl none, am_hp σ1, t)) (q2 : Q (.inl none, am_hp σ1, t)) : Wp k_X6_addWord d (55, [some (aR (some (25, 0, 0))), some (aR (some (28, p1, 0))), some (aI (iZ x2)), some (aI (iZ x3))], [], am_hp σ, t) Q := by
  refine w_s (c' := (56, [some (aR (some (25, 0, 0))), some (aR (some (28, p1, 0))), some (aI (iZ x2)), some (aI (iZ x3))], [aR (some (25, 0, 0))], am_hp σ, t)) rfl rfl ?_
  refine w_psh rfl zc_41 rfl ?_
  refine w_c0 (c' := (61, [some (aR (some (25, 0, 0))), some (aR (some (28, p1, 0))), some (aI (iZ x2)), some (aI (iZ x3))], [], am_hp σ1, t)) rfl rfl (rcv_of (hp_25 _ 0)) rfl c1 (Nat.le_refl _) rfl ?_
  exact w_f rfl rfl q2

theorem b_X6_addNumber_0 {x1 : Int} {σ : SG} {t : KT} (w1 : Wp k_X6_addNumber d (5, [some (aR (some (25, 0, 0))), some (aI (iZ x1)), some (aI (iZ 0)), some (aI (iZ 100000000))], [], am_hp σ, t) Q) : Wp k_X6_addNumber d (0, [some (aR (some (25, 0, 0))), some (aI (iZ x1)), none, none], [], am_hp σ, t) Q := by
  refine w_psh rfl zc_0 rfl ?_
  refine w_s (c' := (2, [some (aR (some (25, 0, 0))), some (aI (iZ x1)), some (aI (iZ 0)), none], [], am_hp σ, t)) rfl rfl ?_
  refine w_psh rfl zc_100000000 rfl ?_
  refine w_s (c' := (5, [some (aR (some (25, 0, 0))), some (aI (iZ x1)), some (aI (iZ 0)), some (aI (iZ 100000000))], [], am_hp σ, t)) rfl rfl ?_
  exact w1

theorem e_X6_addNumber {x1 : Int} {h : AH} {t : KT} {d : Nat} {P : RS → Prop} (w : Wp k_X6_addNumber d (0, [some (aR (some (25, 0, 0))), some (aI (iZ x1)), none, none], [], h, t) P) : ∃ r, Ca (d + 1) 39 [aR (some (25, 0, 0)), aI (iZ x1)] h t r ∧ P r := ca_W rfl rfl rfl rfl w

theorem b_X6_addNumber_5 {x1 : Int} {x2 : Int} {x3 : Int} {σ : SG} {t : KT} (h1 : -2147483648 ≤ x3 ∧ x3 < 2147483648) (w2 : x3 ≤ 0 → Wp k_X6_addNumber d (54, [some (aR (some (25, 0, 0))), some (aI (iZ x1)), some (aI (iZ x2)), some (aI (iZ x3))], [], am_hp σ, t) Q) (w3 : 0 < x3 → Wp k_X6_addNumber d (9, [some (aR (some (25, 0, 0))), some (aI (iZ x1)), some (aI (iZ x2)), some (aI (iZ x3))], [], am_hp σ, t) Q) : Wp k_X6_addNumber d (5, [some (aR (some (25, 0, 0))), some (aI (iZ x1)), some (aI (iZ x2)), some (aI (iZ x3))], [], am_hp σ, t) Q := by
  refine w_s (c' := (6, [some (aR (some (25, 0, 0))), some (aI (iZ x1)), some (aI (iZ x2)), some (aI (iZ x3))], [aI (iZ x3)], am_hp σ, t)) rfl rfl ?_
  exact w_ifle rfl h1 rfl w2 w3

theorem b_X6_addNumber_9 {x1 : Int} {x2 : Int} {x3 : Int} {σ : SG} {t : KT} (h1 : -2147483648 ≤ x2 ∧ x2 < 2147483648) (w2 : x2 ≠ 0 → Wp k_X6_addNumber d (23, [some (aR (some (25, 0, 0))), some (aI (iZ x1)), some (aI (iZ x2)), some (aI (iZ x3))], [], am_hp σ, t) Q) (w3 : x2 = 0 → Wp k_X6_addNumber d (13, [some (aR (some (25, 0, 0))), some (aI (iZ x1)), some (aI (iZ x2)), some (aI (iZ x3))], [], am_hp σ, t) Q) : Wp k_X6_addNumber d (9, [some (aR (some (25, 0, 0))), some (aI (iZ x1)), some (aI (iZ x2)), some (aI (iZ x3))], [], am_hp σ, t) Q := by
  refine w_s (c' := (10, [some (aR (some (25, 0, 0))), some (aI (iZ x1)), some (aI (iZ x2)), some (aI (iZ x3))], [aI (iZ x2)], am_hp σ, t)) rfl rfl ?_
  exact w_ifne rfl h1 rfl w2 w3

theorem b_X6_addNumber_13 {x1 : Int} {x2 : Int} {x3 : Int} {σ : SG} {t : KT} (h1 : -2147483648 ≤ x3 ∧ x3 < 2147483648) (w2 : x3 = 1 → Wp k_X6_addNumber d (23, [some (aR (some (25, 0, 0))), some (aI (iZ x1)), some (aI (iZ x2)), some (aI (iZ x3))], [], am_hp σ, t) Q) (w3 : x3 ≠ 1 → Wp k_X6_addNumber d (18, [some (aR (some (25, 0, 0))), some (aI (iZ x1)), some (aI (iZ x2)), some (aI (iZ x3))], [], am_hp σ, t) Q) : Wp k_X6_addNumber d (13, [some (aR (some (25, 0, 0))), some (aI (iZ x1)), some (aI (iZ x2)), some (aI (iZ x3))], [], am_hp σ, t) Q := by
  refine w_s (c' := (14, [some (aR (some (25, 0, 0))), some (aI (iZ x1)), some (aI (iZ x2)), some (aI (iZ x3))], [aI (iZ x3)], am_hp σ, t)) rfl rfl ?_
  refine w_psh rfl zc_1 rfl ?_
  exact w_iceq rfl h1 (by decide) rfl w2 w3

theorem b_X6_addNumber_18 {x1 : Int} {x2 : Int} {x3 : Int} {σ : SG} {t : KT} (h1 : -2147483648 ≤ x1 ∧ x1 < 2147483648) (h2 : -2147483648 ≤ x3 ∧ x3 < 2147483648) (w3 : x1 < x3 → Wp k_X6_addNumber d (27, [some (aR (some (25, 0, 0))), some (aI (iZ x1)), some (aI (iZ x2)), some (aI (iZ x3))], [], am_hp σ, t) Q) (w4 : x3 ≤ x1 → Wp k_X6_addNumber d (23, [some (aR (some (25, 0, 0))), some (aI (iZ x1)), some (aI (iZ x2)), some (aI (iZ x3))], [], am_hp σ, t) Q) : Wp k_X6_addNumber d (18, [some (aR (some (25, 0, 0))), some (aI (iZ x1)), some (aI (iZ x2)), some (aI (iZ x3))], [], am_hp σ, t) Q := by
  refine w_s (c' := (19, [some (aR (some (25, 0, 0))), some (aI (iZ x1)), some (aI (iZ x2)), some (aI (iZ x3))], [aI (iZ x1)], am_hp σ, t)) rfl rfl ?_
  refine w_s (c' := (20, [some (aR (some (25, 0, 0))), some (aI (iZ x1)), some (aI (iZ x2)), some (aI (iZ x3))], [aI (iZ x3), aI (iZ x1)], am_hp σ, t)) rfl rfl ?_
  exact w_iclt rfl h1 h2 rfl w3 w4

theorem b_X6_addNumber_23 {x1 : Int} {x2 : Int} {x3 : Int} {σ : SG} {t : KT} (w1 : Wp k_X6_addNumber d (28, [some (aR (some (25, 0, 0))), some (aI (iZ x1)), some (aI (iZ x2)), some (aI (iZ x3))], [aI (iZ 1)], am_hp σ, t) Q) : Wp k_X6_addNumber d (23, [some (aR (some (25, 0, 0))), some (aI (iZ x1)), some (aI (iZ x2)), some (aI (iZ x3))], [], am_hp σ, t) Q := by
  refine w_psh rfl zc_1 rfl ?_
  refine w_s (c' := (28, [some (aR (some (25, 0, 0))), some (aI (iZ x1)), some (aI (iZ x2)), some (aI (iZ x3))], [aI (iZ 1)], am_hp σ, t)) rfl rfl ?_
  exact w1

theorem b_X6_addNumber_27 {x1 : Int} {x2 : Int} {x3 : Int} {σ : SG} {t : KT} (w1 : Wp k_X6_addNumber d (28, [some (aR (some (25, 0, 0))), some (aI (iZ x1)), some (aI (iZ x2)), some (aI (iZ x3))], [aI (iZ 0)], am_hp σ, t) Q) : Wp k_X6_addNumber d (27, [some (aR (some (25, 0, 0))), some (aI (iZ x1)), some (aI (iZ x2)), some (aI (iZ x3))], [], am_hp σ, t) Q := by
  refine w_psh rfl zc_0 rfl ?_
  exact w1

theorem b_X6_addNumber_28 {x1 : Int} {x2 : Int} {x3 : Int} {xs0 : Int} {σ : SG} {t : KT} (h1 : -2147483648 ≤ xs0 ∧ xs0 < 2147483648) (w2 : xs0 = 0 → Wp k_X6_addNumber d (46, [some (aR (some (25, 0, 0))), some (aI (iZ x1)), some (aI (iZ xs0)), some (aI (iZ x3))], [], am_hp σ, t) Q) (w3 : xs0 ≠ 0 → Wp k_X6_addNumber d (33, [some (aR (some (25, 0, 0))), some (aI (iZ x1)), some (aI (iZ xs0)), some (aI (iZ x3))], [], am_hp σ, t) Q) : Wp k_X6_addNumber d (28, [some (aR (some (25, 0, 0))), some (aI (iZ x1)), some (aI (iZ x2)), some (aI (iZ x3))], [aI (iZ xs0)], am_hp σ, t) Q := by
  refine w_s (c' := (29, [some (aR (some (25, 0, 0))), some (aI (iZ x1)), some (aI (iZ xs0)), some (aI (iZ x3))], [], am_hp σ, t)) rfl rfl ?_
  refine w_s (c' := (30, [some (aR (some (25, 0, 0))), some (aI (iZ x1)), some (aI (iZ xs0)), some (aI (iZ x3))], [aI (iZ xs0)], am_hp σ, t)) rfl rfl ?_
  exact w_ifeq rfl h1 rfl w2 w3

theorem b_X6_addNumber_33 {x1 : Int} {x2 : Int} {x3 : Int} {σ σ1 : SG} {t : KT} (h1 : -2147483648 ≤ x3 ∧ x3 < 2147483648 ∧ x3 ≠ 0) (c2 : Ca d 36 [aR (some (25, 0, 0)), aI (iZ (48 + (zrem (zdiv x1 x3) 10)))] (am_hp σ) t (.inl none, am_hp σ1, t)) (w3 : Wp k_X6_addNumber d (46, [some (aR (some (25, 0, 0))), some (aI (iZ x1)), some (aI (iZ x2)), some (aI (iZ x3))], [], am_hp σ1, t) Q) : Wp k_X6_addNumber d (33, [some (aR (some (25, 0, 0))), some (aI (iZ x1)), some (aI (iZ x2)), some (aI (iZ x3))], [], am_hp σ, t) Q := by
  refine w_s (c' := (34, [some (aR (some (25, 0, 0))), some (aI (iZ x1)), some (aI (iZ x2)), some (aI (iZ x3))], [aR (some (25, 0, 0))], am_hp σ, t)) rfl rfl ?_
  refine w_psh rfl zc_48 rfl ?_
  refine w_s (c' := (37, [some (aR (some (25, 0, 0))), some (aI (iZ x1)), some (aI (iZ x2)), some (aI (iZ x3))], [aI (iZ x1), aI (iZ 48), aR (some (25, 0, 0))], am_hp σ, t)) rfl rfl ?_
  refine w_s (c' := (38, [some (aR (some (25, 0, 0))), some (aI (iZ x1)), some (aI (iZ x2)), some (aI (iZ x3))], [aI (iZ x3), aI (iZ x1), aI (iZ 48), aR (some (25, 0, 0))], am_hp σ, t)) rfl rfl ?_
  refine w_idiv rfl rfl h1 ?_
  refine w_psh rfl zc_10 rfl ?_
  refine w_irem rfl rfl (by decide) ?_
  refine w_iadd rfl rfl ?_
  refine w_c0 (c' := (46, [some (aR (some (25, 0, 0))), some (aI (iZ x1)), some (aI (iZ x2)), some (aI (iZ x3))], [], am_hp σ1, t)) rfl rfl (rcv_of (hp_25 _ 0)) rfl c2 (Nat.le_refl _) rfl ?_
  exact w3

theorem b_X6_addNumber_46 {x1 : Int} {x2 : Int} {x3 : Int} {σ : SG} {t : KT} (w1 : Wp k_X6_addNumber d (5, [some (aR (some (25, 0, 0))), some (aI (iZ x1)), some (aI (iZ x2)), some (aI (iZ (zdiv x3 10)))], [], am_hp σ, t) Q) : Wp k_X6_addNumber d (46, [some (aR (some (25, 0, 0))), some (aI (iZ x1)), some (aI (iZ x2)), some (aI (iZ x3))], [], am_hp σ, t) Q := by
  refine w_s (c' := (47, [some (aR (some (25, 0, 0))), some (aI (iZ x1)), some (aI (iZ x2)), some (aI (iZ x3))], [aI (iZ x3)], am_hp σ, t)) rfl rfl ?_
  refine w_psh rfl zc_10 rfl ?_
  refine w_idiv rfl rfl (by decide) ?_
  refine w_s (c' := (51, [some (aR (some (25, 0, 0))), some (aI (iZ x1)), some (aI (iZ x2)), some (aI (iZ (zdiv x3 10)))], [], am_hp σ, t)) rfl rfl ?_
  refine w_s (c' := (5, [some (aR (some (25, 0, 0))), some (aI (iZ x1)), some (aI (iZ x2)), some (aI (iZ (zdiv x3 10)))], [], am_hp σ, t)) rfl rfl ?_
  exact w1

theorem b_X6_addNumber_54 {x1 : Int} {x2 : Int} {x3 : Int} {σ : SG} {t : KT} (q1 : Q (.inl none, am_hp σ, t)) : Wp k_X6_addNumber d (54, [some (aR (some (25, 0, 0))), some (aI (iZ x1)), some (aI (iZ x2)), some (aI (iZ x3))], [], am_hp σ, t) Q := by
  exact w_f rfl rfl q1
end PCS
