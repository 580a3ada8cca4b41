/-! PIECES: X10 -/
set_option maxRecDepth 4000
section PCS
variable {d : Nat} {Q : RS → Prop}
theorem b_X10_addBytesOf_0 {x1 : Int} {σ : SG} {t : KT} (w1 : Wp k_X10_addBytesOf d (3, [some (aR (some (2, 0, 0))), some (aI (iZ x1)), some (aI (iZ 24))], [], am_hp σ, t) Q) : Wp k_X10_addBytesOf d (0, [some (aR (some (2, 0, 0))), some (aI (iZ x1)), none], [], am_hp σ, t) Q := by
  refine w_psh rfl zc_24 rfl ?_
  refine w_s (c' := (3, [some (aR (some (2, 0, 0))), some (aI (iZ x1)), some (aI (iZ 24))], [], am_hp σ, t)) rfl rfl ?_
  exact w1

theorem e_X10_addBytesOf {x1 : Int} {h : AH} {t : KT} {d : Nat} {P : RS → Prop} (w : Wp k_X10_addBytesOf d (0, [some (aR (some (2, 0, 0))), some (aI (iZ x1)), none], [], h, t) P) : ∃ r, Ca (d + 1) 72 [aR (some (2, 0, 0)), aI (iZ x1)] h t r ∧ P r := ca_W rfl rfl rfl rfl w

theorem b_X10_addBytesOf_3 {x1 : Int} {x2 : Int} {σ : SG} {t : KT} (h1 : -2147483648 ≤ x2 ∧ x2 < 2147483648) (w2 : x2 < 0 → Wp k_X10_addBytesOf d (46, [some (aR (some (2, 0, 0))), some (aI (iZ x1)), some (aI (iZ x2))], [], am_hp σ, t) Q) (w3 : 0 ≤ x2 → Wp k_X10_addBytesOf d (7, [some (aR (some (2, 0, 0))), some (aI (iZ x1)), some (aI (iZ x2))], [], am_hp σ, t) Q) : Wp k_X10_addBytesOf d (3, [some (aR (some (2, 0, 0))), some (aI (iZ x1)), some (aI (iZ x2))], [], am_hp σ, t) Q := by
  refine w_s (c' := (4, [some (aR (some (2, 0, 0))), some (aI (iZ x1)), some (aI (iZ x2))], [aI (iZ x2)], am_hp σ, t)) rfl rfl ?_
  exact w_iflt rfl h1 rfl w2 w3

theorem b_X10_addBytesOf_7 {x1 : Int} {x2 : Int} {σ : SG} {t : KT} (h1 : -2147483648 ≤ σ.1 (2, 0, 0) 1 ∧ σ.1 (2, 0, 0) 1 < 2147483648) (w2 : 600 ≤ σ.1 (2, 0, 0) 1 → Wp k_X10_addBytesOf d (46, [some (aR (some (2, 0, 0))), some (aI (iZ x1)), some (aI (iZ x2))], [], am_hp σ, t) Q) (w3 : σ.1 (2, 0, 0) 1 < 600 → Wp k_X10_addBytesOf d (17, [some (aR (some (2, 0, 0))), some (aI (iZ x1)), some (aI (iZ x2))], [], am_hp σ, t) Q) : Wp k_X10_addBytesOf d (7, [some (aR (some (2, 0, 0))), some (aI (iZ x1)), some (aI (iZ x2))], [], am_hp σ, t) Q := by
  refine w_s (c' := (8, [some (aR (some (2, 0, 0))), some (aI (iZ x1)), some (aI (iZ x2))], [aR (some (2, 0, 0))], am_hp σ, t)) rfl rfl ?_
  refine w_get rfl (hp_2 _ 0) rfl rfl ?_
  refine w_psh rfl zc_600 rfl ?_
  exact w_icge rfl h1 (by decide) rfl w2 w3

theorem b_X10_addBytesOf_17 {x1 : Int} {x2 : Int} {σ : SG} {t : KT} (h1 : 0 ≤ σ.1 (2, 0, 0) 1 ∧ σ.1 (2, 0, 0) 1 < 600) (w2 : Wp k_X10_addBytesOf d (3, [some (aR (some (2, 0, 0))), some (aI (iZ x1)), some (aI (iZ (x2 + (-8))))], [], am_hp ((sI (sI σ (3, 0, 0) (up (σ.1 (3, 0, 0)) (σ.1 (2, 0, 0) 1).toNat (zb (zi2b (zshr x1 x2))))) (2, 0, 0) (up (((sI σ (3, 0, 0) (up (σ.1 (3, 0, 0)) (σ.1 (2, 0, 0) 1).toNat (zb (zi2b (zshr x1 x2)))))).1 (2, 0, 0)) 1 ((((sI σ (3, 0, 0) (up (σ.1 (3, 0, 0)) (σ.1 (2, 0, 0) 1).toNat (zb (zi2b (zshr x1 x2)))))).1 (2, 0, 0) 1) + 1)))), t) Q) : Wp k_X10_addBytesOf d (17, [some (aR (some (2, 0, 0))), some (aI (iZ x1)), some (aI (iZ x2))], [], am_hp σ, t) Q := by
  refine w_s (c' := (18, [some (aR (some (2, 0, 0))), some (aI (iZ x1)), some (aI (iZ x2))], [aR (some (2, 0, 0))], am_hp σ, t)) rfl rfl ?_
  refine w_get rfl (hp_2 _ 0) rfl rfl ?_
  refine w_s (c' := (22, [some (aR (some (2, 0, 0))), some (aI (iZ x1)), some (aI (iZ x2))], [aR (some (2, 0, 0)), aR (some (3, 0, 0))], am_hp σ, t)) rfl rfl ?_
  refine w_get rfl (hp_2 _ 0) rfl rfl ?_
  refine w_s (c' := (26, [some (aR (some (2, 0, 0))), some (aI (iZ x1)), some (aI (iZ x2))], [aI (iZ x1), aI (iZ (σ.1 (2, 0, 0) 1)), aR (some (3, 0, 0))], am_hp σ, t)) rfl rfl ?_
  refine w_s (c' := (27, [some (aR (some (2, 0, 0))), some (aI (iZ x1)), some (aI (iZ x2))], [aI (iZ x2), aI (iZ x1), aI (iZ (σ.1 (2, 0, 0) 1)), aR (some (3, 0, 0))], am_hp σ, t)) rfl rfl ?_
  refine w_ishr rfl rfl ?_
  refine w_i2b rfl rfl ?_
  refine w_bas rfl (mk_3 _ 0 0) h1 rfl rfl rfl ?_
  refine w_s (c' := (31, [some (aR (some (2, 0, 0))), some (aI (iZ x1)), some (aI (iZ x2))], [aR (some (2, 0, 0))], am_hp ((sI σ (3, 0, 0) (up (σ.1 (3, 0, 0)) (σ.1 (2, 0, 0) 1).toNat (zb (zi2b (zshr x1 x2)))))), t)) rfl rfl ?_
  refine w_s (c' := (32, [some (aR (some (2, 0, 0))), some (aI (iZ x1)), some (aI (iZ x2))], [aR (some (2, 0, 0)), aR (some (2, 0, 0))], am_hp ((sI σ (3, 0, 0) (up (σ.1 (3, 0, 0)) (σ.1 (2, 0, 0) 1).toNat (zb (zi2b (zshr x1 x2)))))), t)) rfl rfl ?_
  refine w_get rfl (hp_2 _ 0) rfl rfl ?_
  refine w_psh rfl zc_1 rfl ?_
  refine w_iadd rfl rfl ?_
  refine w_putI rfl (hp_2 _ 0) rfl rfl rfl ?_
  refine w_inc (a := x2) (ls' := [some (aR (some (2, 0, 0))), some (aI (iZ x1)), some (aI (iZ (x2 + (-8))))]) rfl rfl rfl zc_m8 rfl rfl ?_
  refine w_s (c' := (3, [some (aR (some (2, 0, 0))), some (aI (iZ x1)), some (aI (iZ (x2 + (-8))))], [], am_hp ((sI (sI σ (3, 0, 0) (up (σ.1 (3, 0, 0)) (σ.1 (2, 0, 0) 1).toNat (zb (zi2b (zshr x1 x2))))) (2, 0, 0) (up (((sI σ (3, 0, 0) (up (σ.1 (3, 0, 0)) (σ.1 (2, 0, 0) 1).toNat (zb (zi2b (zshr x1 x2)))))).1 (2, 0, 0)) 1 ((((sI σ (3, 0, 0) (up (σ.1 (3, 0, 0)) (σ.1 (2, 0, 0) 1).toNat (zb (zi2b (zshr x1 x2)))))).1 (2, 0, 0) 1) + 1)))), t)) rfl rfl ?_
  exact w2

theorem b_X10_addBytesOf_46 {x1 : Int} {x2 : Int} {σ : SG} {t : KT} (q1 : Q (.inl none, am_hp σ, t)) : Wp k_X10_addBytesOf d (46, [some (aR (some (2, 0, 0))), some (aI (iZ x1)), some (aI (iZ x2))], [], am_hp σ, t) Q := by
  exact w_f rfl rfl q1

theorem b_X10_byteAt_0 {x1 : Int} {σ : SG} {t : KT} (h1 : -2147483648 ≤ x1 ∧ x1 < 2147483648) (w2 : x1 < 0 → Wp k_X10_byteAt d (19, [some (aR (some (2, 0, 0))), some (aI (iZ x1))], [], am_hp σ, t) Q) (w3 : 0 ≤ x1 → Wp k_X10_byteAt d (4, [some (aR (some (2, 0, 0))), some (aI (iZ x1))], [], am_hp σ, t) Q) : Wp k_X10_byteAt d (0, [some (aR (some (2, 0, 0))), some (aI (iZ x1))], [], am_hp σ, t) Q := by
  refine w_s (c' := (1, [some (aR (some (2, 0, 0))), some (aI (iZ x1))], [aI (iZ x1)], am_hp σ, t)) rfl rfl ?_
  exact w_iflt rfl h1 rfl w2 w3

theorem e_X10_byteAt {x1 : Int} {h : AH} {t : KT} {d : Nat} {P : RS → Prop} (w : Wp k_X10_byteAt d (0, [some (aR (some (2, 0, 0))), some (aI (iZ x1))], [], h, t) P) : ∃ r, Ca (d + 1) 73 [aR (some (2, 0, 0)), aI (iZ x1)] h t r ∧ P r := ca_W rfl rfl rfl rfl w

theorem b_X10_byteAt_4 {x1 : Int} {σ : SG} {t : KT} (h1 : -2147483648 ≤ x1 ∧ x1 < 2147483648) (h2 : -2147483648 ≤ σ.1 (2, 0, 0) 1 ∧ σ.1 (2, 0, 0) 1 < 2147483648) (w3 : σ.1 (2, 0, 0) 1 ≤ x1 → Wp k_X10_byteAt d (19, [some (aR (some (2, 0, 0))), some (aI (iZ x1))], [], am_hp σ, t) Q) (w4 : x1 < σ.1 (2, 0, 0) 1 → Wp k_X10_byteAt d (12, [some (aR (some (2, 0, 0))), some (aI (iZ x1))], [], am_hp σ, t) Q) : Wp k_X10_byteAt d (4, [some (aR (some (2, 0, 0))), some (aI (iZ x1))], [], am_hp σ, t) Q := by
  refine w_s (c' := (5, [some (aR (some (2, 0, 0))), some (aI (iZ x1))], [aI (iZ x1)], am_hp σ, t)) rfl rfl ?_
  refine w_s (c' := (6, [some (aR (some (2, 0, 0))), some (aI (iZ x1))], [aR (some (2, 0, 0)), aI (iZ x1)], am_hp σ, t)) rfl rfl ?_
  refine w_get rfl (hp_2 _ 0) rfl rfl ?_
  exact w_icge rfl h1 h2 rfl w3 w4

theorem b_X10_byteAt_12 {x1 : Int} {σ : SG} {t : KT} (h1 : -2147483648 ≤ x1 ∧ x1 < 2147483648) (w2 : x1 < 600 → Wp k_X10_byteAt d (23, [some (aR (some (2, 0, 0))), some (aI (iZ x1))], [], am_hp σ, t) Q) (w3 : 600 ≤ x1 → Wp k_X10_byteAt d (19, [some (aR (some (2, 0, 0))), some (aI (iZ x1))], [], am_hp σ, t) Q) : Wp k_X10_byteAt d (12, [some (aR (some (2, 0, 0))), some (aI (iZ x1))], [], am_hp σ, t) Q := by
  refine w_s (c' := (13, [some (aR (some (2, 0, 0))), some (aI (iZ x1))], [aI (iZ x1)], am_hp σ, t)) rfl rfl ?_
  refine w_psh rfl zc_600 rfl ?_
  exact w_iclt rfl h1 (by decide) rfl w2 w3

theorem b_X10_byteAt_19 {x1 : Int} {σ : SG} {t : KT} (w1 : Wp k_X10_byteAt d (29, [some (aR (some (2, 0, 0))), some (aI (iZ x1))], [aI (iZ 0)], am_hp σ, t) Q) : Wp k_X10_byteAt d (19, [some (aR (some (2, 0, 0))), some (aI (iZ x1))], [], am_hp σ, t) Q := by
  refine w_psh rfl zc_0 rfl ?_
  refine w_s (c' := (29, [some (aR (some (2, 0, 0))), some (aI (iZ x1))], [aI (iZ 0)], am_hp σ, t)) rfl rfl ?_
  exact w1

theorem b_X10_byteAt_23 {x1 : Int} {σ : SG} {t : KT} (h1 : 0 ≤ x1 ∧ x1 < 600) (w2 : Wp k_X10_byteAt d (29, [some (aR (some (2, 0, 0))), some (aI (iZ x1))], [aI (iZ (σ.1 (3, 0, 0) x1.toNat))], am_hp σ, t) Q) : Wp k_X10_byteAt d (23, [some (aR (some (2, 0, 0))), some (aI (iZ x1))], [], am_hp σ, t) Q := by
  refine w_s (c' := (24, [some (aR (some (2, 0, 0))), some (aI (iZ x1))], [aR (some (2, 0, 0))], am_hp σ, t)) rfl rfl ?_
  refine w_get rfl (hp_2 _ 0) rfl rfl ?_
  refine w_s (c' := (28, [some (aR (some (2, 0, 0))), some (aI (iZ x1))], [aI (iZ x1), aR (some (3, 0, 0))], am_hp σ, t)) rfl rfl ?_
  refine w_bal rfl (hp_3 _ 0 0) h1 rfl rfl ?_
  exact w2

theorem b_X10_byteAt_29 {x1 : Int} {xs0 : Int} {σ : SG} {t : KT} (q1 : Q (.inl (some (aI (iZ xs0))), am_hp σ, t)) : Wp k_X10_byteAt d (29, [some (aR (some (2, 0, 0))), some (aI (iZ x1))], [aI (iZ xs0)], am_hp σ, t) Q := by
  exact w_ret rfl rfl q1

theorem b_X10_isLetter_0 {x0 : Int} {σ : SG} {t : KT} (h1 : -2147483648 ≤ x0 ∧ x0 < 2147483648) (w2 : x0 < 97 → Wp k_X10_isLetter d (16, [some (aI (iZ x0))], [], am_hp σ, t) Q) (w3 : 97 ≤ x0 → Wp k_X10_isLetter d (6, [some (aI (iZ x0))], [], am_hp σ, t) Q) : Wp k_X10_isLetter d (0, [some (aI (iZ x0))], [], am_hp σ, t) Q := by
  refine w_s (c' := (1, [some (aI (iZ x0))], [aI (iZ x0)], am_hp σ, t)) rfl rfl ?_
  refine w_psh rfl zc_97 rfl ?_
  exact w_iclt rfl h1 (by decide) rfl w2 w3

theorem e_X10_isLetter {x0 : Int} {h : AH} {t : KT} {d : Nat} {P : RS → Prop} (w : Wp k_X10_isLetter d (0, [some (aI (iZ x0))], [], h, t) P) : ∃ r, Ca (d + 1) 74 [aI (iZ x0)] h t r ∧ P r := ca_W rfl rfl rfl rfl w

theorem b_X10_isLetter_6 {x0 : Int} {σ : SG} {t : KT} (h1 : -2147483648 ≤ x0 ∧ x0 < 2147483648) (w2 : 122 < x0 → Wp k_X10_isLetter d (16, [some (aI (iZ x0))], [], am_hp σ, t) Q) (w3 : x0 ≤ 122 → Wp k_X10_isLetter d (12, [some (aI (iZ x0))], [], am_hp σ, t) Q) : Wp k_X10_isLetter d (6, [some (aI (iZ x0))], [], am_hp σ, t) Q := by
  refine w_s (c' := (7, [some (aI (iZ x0))], [aI (iZ x0)], am_hp σ, t)) rfl rfl ?_
  refine w_psh rfl zc_122 rfl ?_
  exact w_icgt rfl h1 (by decide) rfl w2 w3

theorem b_X10_isLetter_12 {x0 : Int} {σ : SG} {t : KT} (w1 : Wp k_X10_isLetter d (17, [some (aI (iZ x0))], [aI (iZ 1)], am_hp σ, t) Q) : Wp k_X10_isLetter d (12, [some (aI (iZ x0))], [], am_hp σ, t) Q := by
  refine w_psh rfl zc_1 rfl ?_
  refine w_s (c' := (17, [some (aI (iZ x0))], [aI (iZ 1)], am_hp σ, t)) rfl rfl ?_
  exact w1

theorem b_X10_isLetter_16 {x0 : Int} {σ : SG} {t : KT} (w1 : Wp k_X10_isLetter d (17, [some (aI (iZ x0))], [aI (iZ 0)], am_hp σ, t) Q) : Wp k_X10_isLetter d (16, [some (aI (iZ x0))], [], am_hp σ, t) Q := by
  refine w_psh rfl zc_0 rfl ?_
  exact w1

theorem b_X10_isLetter_17 {x0 : Int} {xs0 : Int} {σ : SG} {t : KT} (h1 : xs0 = 0 ∨ xs0 = 1) (q2 : Q (.inl (some (aI (iZ xs0))), am_hp σ, t)) : Wp k_X10_isLetter d (17, [some (aI (iZ x0))], [aI (iZ xs0)], am_hp σ, t) Q := by
  exact w_ret rfl (frt_b h1) q2

theorem b_X10_isDigit_0 {x0 : Int} {σ : SG} {t : KT} (h1 : -2147483648 ≤ x0 ∧ x0 < 2147483648) (w2 : x0 < 48 → Wp k_X10_isDigit d (16, [some (aI (iZ x0))], [], am_hp σ, t) Q) (w3 : 48 ≤ x0 → Wp k_X10_isDigit d (6, [some (aI (iZ x0))], [], am_hp σ, t) Q) : Wp k_X10_isDigit d (0, [some (aI (iZ x0))], [], am_hp σ, t) Q := by
  refine w_s (c' := (1, [some (aI (iZ x0))], [aI (iZ x0)], am_hp σ, t)) rfl rfl ?_
  refine w_psh rfl zc_48 rfl ?_
  exact w_iclt rfl h1 (by decide) rfl w2 w3

theorem e_X10_isDigit {x0 : Int} {h : AH} {t : KT} {d : Nat} {P : RS → Prop} (w : Wp k_X10_isDigit d (0, [some (aI (iZ x0))], [], h, t) P) : ∃ r, Ca (d + 1) 75 [aI (iZ x0)] h t r ∧ P r := ca_W rfl rfl rfl rfl w

theorem b_X10_isDigit_6 {x0 : Int} {σ : SG} {t : KT} (h1 : -2147483648 ≤ x0 ∧ x0 < 2147483648) (w2 : 57 < x0 → Wp k_X10_isDigit d (16, [some (aI (iZ x0))], [], am_hp σ, t) Q) (w3 : x0 ≤ 57 → Wp k_X10_isDigit d (12, [some (aI (iZ x0))], [], am_hp σ, t) Q) : Wp k_X10_isDigit d (6, [some (aI (iZ x0))], [], am_hp σ, t) Q := by
  refine w_s (c' := (7, [some (aI (iZ x0))], [aI (iZ x0)], am_hp σ, t)) rfl rfl ?_
  refine w_psh rfl zc_57 rfl ?_
  exact w_icgt rfl h1 (by decide) rfl w2 w3

theorem b_X10_isDigit_12 {x0 : Int} {σ : SG} {t : KT} (w1 : Wp k_X10_isDigit d (17, [some (aI (iZ x0))], [aI (iZ 1)], am_hp σ, t) Q) : Wp k_X10_isDigit d (12, [some (aI (iZ x0))], [], am_hp σ, t) Q := by
  refine w_psh rfl zc_1 rfl ?_
  refine w_s (c' := (17, [some (aI (iZ x0))], [aI (iZ 1)], am_hp σ, t)) rfl rfl ?_
  exact w1

theorem b_X10_isDigit_16 {x0 : Int} {σ : SG} {t : KT} (w1 : Wp k_X10_isDigit d (17, [some (aI (iZ x0))], [aI (iZ 0)], am_hp σ, t) Q) : Wp k_X10_isDigit d (16, [some (aI (iZ x0))], [], am_hp σ, t) Q := by
  refine w_psh rfl zc_0 rfl ?_
  exact w1

theorem b_X10_isDigit_17 {x0 : Int} {xs0 : Int} {σ : SG} {t : KT} (h1 : xs0 = 0 ∨ xs0 = 1) (q2 : Q (.inl (some (aI (iZ xs0))), am_hp σ, t)) : Wp k_X10_isDigit d (17, [some (aI (iZ x0))], [aI (iZ xs0)], am_hp σ, t) Q := by
  exact w_ret rfl (frt_b h1) q2

theorem b_X10_isBlank_0 {x0 : Int} {σ : SG} {t : KT} (h1 : -2147483648 ≤ x0 ∧ x0 < 2147483648) (w2 : x0 = 32 → Wp k_X10_isBlank d (12, [some (aI (iZ x0))], [], am_hp σ, t) Q) (w3 : x0 ≠ 32 → Wp k_X10_isBlank d (6, [some (aI (iZ x0))], [], am_hp σ, t) Q) : Wp k_X10_isBlank d (0, [some (aI (iZ x0))], [], am_hp σ, t) Q := by
  refine w_s (c' := (1, [some (aI (iZ x0))], [aI (iZ x0)], am_hp σ, t)) rfl rfl ?_
  refine w_psh rfl zc_32 rfl ?_
  exact w_iceq rfl h1 (by decide) rfl w2 w3

theorem e_X10_isBlank {x0 : Int} {h : AH} {t : KT} {d : Nat} {P : RS → Prop} (w : Wp k_X10_isBlank d (0, [some (aI (iZ x0))], [], h, t) P) : ∃ r, Ca (d + 1) 76 [aI (iZ x0)] h t r ∧ P r := ca_W rfl rfl rfl rfl w

theorem b_X10_isBlank_6 {x0 : Int} {σ : SG} {t : KT} (h1 : -2147483648 ≤ x0 ∧ x0 < 2147483648) (w2 : x0 ≠ 10 → Wp k_X10_isBlank d (16, [some (aI (iZ x0))], [], am_hp σ, t) Q) (w3 : x0 = 10 → Wp k_X10_isBlank d (12, [some (aI (iZ x0))], [], am_hp σ, t) Q) : Wp k_X10_isBlank d (6, [some (aI (iZ x0))], [], am_hp σ, t) Q := by
  refine w_s (c' := (7, [some (aI (iZ x0))], [aI (iZ x0)], am_hp σ, t)) rfl rfl ?_
  refine w_psh rfl zc_10 rfl ?_
  exact w_icne rfl h1 (by decide) rfl w2 w3

theorem b_X10_isBlank_12 {x0 : Int} {σ : SG} {t : KT} (w1 : Wp k_X10_isBlank d (17, [some (aI (iZ x0))], [aI (iZ 1)], am_hp σ, t) Q) : Wp k_X10_isBlank d (12, [some (aI (iZ x0))], [], am_hp σ, t) Q := by
  refine w_psh rfl zc_1 rfl ?_
  refine w_s (c' := (17, [some (aI (iZ x0))], [aI (iZ 1)], am_hp σ, t)) rfl rfl ?_
  exact w1

theorem b_X10_isBlank_16 {x0 : Int} {σ : SG} {t : KT} (w1 : Wp k_X10_isBlank d (17, [some (aI (iZ x0))], [aI (iZ 0)], am_hp σ, t) Q) : Wp k_X10_isBlank d (16, [some (aI (iZ x0))], [], am_hp σ, t) Q := by
  refine w_psh rfl zc_0 rfl ?_
  exact w1

theorem b_X10_isBlank_17 {x0 : Int} {xs0 : Int} {σ : SG} {t : KT} (h1 : xs0 = 0 ∨ xs0 = 1) (q2 : Q (.inl (some (aI (iZ xs0))), am_hp σ, t)) : Wp k_X10_isBlank d (17, [some (aI (iZ x0))], [aI (iZ xs0)], am_hp σ, t) Q := by
  exact w_ret rfl (frt_b h1) q2

theorem b_X10_wholeName_0 {σ σ1 : SG} {t : KT} (c1 : Ca d 81 [aR (some (2, 0, 0))] (am_hp ((sI (sI σ (2, 0, 0) (up (σ.1 (2, 0, 0)) 7 0)) (2, 0, 0) (up (((sI σ (2, 0, 0) (up (σ.1 (2, 0, 0)) 7 0))).1 (2, 0, 0)) 8 0)))) t (.inl none, am_hp σ1, t)) (h2 : -2147483648 ≤ σ1.1 (2, 0, 0) 2 ∧ σ1.1 (2, 0, 0) 2 < 2147483648) (w3 : σ1.1 (2, 0, 0) 2 ≠ 1 → Wp k_X10_wholeName d (40, [some (aR (some (2, 0, 0)))], [], am_hp σ1, t) Q) (w4 : σ1.1 (2, 0, 0) 2 = 1 → Wp k_X10_wholeName d (22, [some (aR (some (2, 0, 0)))], [], am_hp σ1, t) Q) : Wp k_X10_wholeName d (0, [some (aR (some (2, 0, 0)))], [], am_hp σ, t) Q := by
  refine w_s (c' := (1, [some (aR (some (2, 0, 0)))], [aR (some (2, 0, 0))], am_hp σ, t)) rfl rfl ?_
  refine w_psh rfl zc_0 rfl ?_
  refine w_putI rfl (hp_2 _ 0) rfl rfl rfl ?_
  refine w_s (c' := (6, [some (aR (some (2, 0, 0)))], [aR (some (2, 0, 0))], am_hp ((sI σ (2, 0, 0) (up (σ.1 (2, 0, 0)) 7 0))), t)) rfl rfl ?_
  refine w_psh rfl zc_0 rfl ?_
  refine w_putI rfl (hp_2 _ 0) rfl rfl rfl ?_
  refine w_s (c' := (11, [some (aR (some (2, 0, 0)))], [aR (some (2, 0, 0))], am_hp ((sI (sI σ (2, 0, 0) (up (σ.1 (2, 0, 0)) 7 0)) (2, 0, 0) (up (((sI σ (2, 0, 0) (up (σ.1 (2, 0, 0)) 7 0))).1 (2, 0, 0)) 8 0))), t)) rfl rfl ?_
  refine w_c0 (c' := (14, [some (aR (some (2, 0, 0)))], [], am_hp σ1, t)) rfl rfl (rcv_of (hp_2 _ 0)) rfl c1 (Nat.le_refl _) rfl ?_
  refine w_s (c' := (15, [some (aR (some (2, 0, 0)))], [aR (some (2, 0, 0))], am_hp σ1, t)) rfl rfl ?_
  refine w_get rfl (hp_2 _ 0) rfl rfl ?_
  refine w_psh rfl zc_1 rfl ?_
  exact w_icne rfl h2 (by decide) rfl w3 w4

theorem e_X10_wholeName {h : AH} {t : KT} {d : Nat} {P : RS → Prop} (w : Wp k_X10_wholeName d (0, [some (aR (some (2, 0, 0)))], [], h, t) P) : ∃ r, Ca (d + 1) 77 [aR (some (2, 0, 0))] h t r ∧ P r := ca_W rfl rfl rfl rfl w

theorem b_X10_wholeName_22 {σ : SG} {t : KT} (h1 : -2147483648 ≤ σ.1 (2, 0, 0) 8 ∧ σ.1 (2, 0, 0) 8 < 2147483648) (h2 : -2147483648 ≤ σ.1 (2, 0, 0) 1 ∧ σ.1 (2, 0, 0) 1 < 2147483648) (w3 : σ.1 (2, 0, 0) 8 ≠ σ.1 (2, 0, 0) 1 → Wp k_X10_wholeName d (40, [some (aR (some (2, 0, 0)))], [], am_hp σ, t) Q) (w4 : σ.1 (2, 0, 0) 8 = σ.1 (2, 0, 0) 1 → Wp k_X10_wholeName d (33, [some (aR (some (2, 0, 0)))], [], am_hp σ, t) Q) : Wp k_X10_wholeName d (22, [some (aR (some (2, 0, 0)))], [], am_hp σ, t) Q := by
  refine w_s (c' := (23, [some (aR (some (2, 0, 0)))], [aR (some (2, 0, 0))], am_hp σ, t)) rfl rfl ?_
  refine w_get rfl (hp_2 _ 0) rfl rfl ?_
  refine w_s (c' := (27, [some (aR (some (2, 0, 0)))], [aR (some (2, 0, 0)), aI (iZ (σ.1 (2, 0, 0) 8))], am_hp σ, t)) rfl rfl ?_
  refine w_get rfl (hp_2 _ 0) rfl rfl ?_
  exact w_icne rfl h1 h2 rfl w3 w4

theorem b_X10_wholeName_33 {σ : SG} {t : KT} (w1 : Wp k_X10_wholeName d (41, [some (aR (some (2, 0, 0)))], [aL (jZ (σ.2.1 (2, 0, 0) 4))], am_hp σ, t) Q) : Wp k_X10_wholeName d (33, [some (aR (some (2, 0, 0)))], [], am_hp σ, t) Q := by
  refine w_s (c' := (34, [some (aR (some (2, 0, 0)))], [aR (some (2, 0, 0))], am_hp σ, t)) rfl rfl ?_
  refine w_get rfl (hp_2 _ 0) rfl rfl ?_
  refine w_s (c' := (41, [some (aR (some (2, 0, 0)))], [aL (jZ (σ.2.1 (2, 0, 0) 4))], am_hp σ, t)) rfl rfl ?_
  exact w1

theorem b_X10_wholeName_40 {σ : SG} {t : KT} (w1 : Wp k_X10_wholeName d (41, [some (aR (some (2, 0, 0)))], [aL (jZ 0)], am_hp σ, t) Q) : Wp k_X10_wholeName d (40, [some (aR (some (2, 0, 0)))], [], am_hp σ, t) Q := by
  refine w_psL rfl yc_0 rfl ?_
  exact w1

theorem b_X10_wholeName_41 {ys0 : Int} {σ : SG} {t : KT} (q1 : Q (.inl (some (aL (jZ ys0))), am_hp σ, t)) : Wp k_X10_wholeName d (41, [some (aR (some (2, 0, 0)))], [aL (jZ ys0)], am_hp σ, t) Q := by
  exact w_ret rfl rfl q1

theorem b_X10_begin_0 {σ σ1 : SG} {t : KT} (c1 : Ca d 79 [aR (some (2, 0, 0))] (am_hp ((sI (sI (sI σ (2, 0, 0) (up (σ.1 (2, 0, 0)) 5 0)) (2, 0, 0) (up (((sI σ (2, 0, 0) (up (σ.1 (2, 0, 0)) 5 0))).1 (2, 0, 0)) 6 (-1))) (2, 0, 0) (up (((sI (sI σ (2, 0, 0) (up (σ.1 (2, 0, 0)) 5 0)) (2, 0, 0) (up (((sI σ (2, 0, 0) (up (σ.1 (2, 0, 0)) 5 0))).1 (2, 0, 0)) 6 (-1)))).1 (2, 0, 0)) 8 0)))) t (.inl none, am_hp σ1, t)) (q2 : Q (.inl none, am_hp σ1, t)) : Wp k_X10_begin d (0, [some (aR (some (2, 0, 0)))], [], am_hp σ, t) Q := by
  refine w_s (c' := (1, [some (aR (some (2, 0, 0)))], [aR (some (2, 0, 0))], am_hp σ, t)) rfl rfl ?_
  refine w_psh rfl zc_0 rfl ?_
  refine w_putI rfl (hp_2 _ 0) rfl rfl rfl ?_
  refine w_s (c' := (6, [some (aR (some (2, 0, 0)))], [aR (some (2, 0, 0))], am_hp ((sI σ (2, 0, 0) (up (σ.1 (2, 0, 0)) 5 0))), t)) rfl rfl ?_
  refine w_psh rfl zc_m1 rfl ?_
  refine w_putI rfl (hp_2 _ 0) rfl rfl rfl ?_
  refine w_s (c' := (11, [some (aR (some (2, 0, 0)))], [aR (some (2, 0, 0))], am_hp ((sI (sI σ (2, 0, 0) (up (σ.1 (2, 0, 0)) 5 0)) (2, 0, 0) (up (((sI σ (2, 0, 0) (up (σ.1 (2, 0, 0)) 5 0))).1 (2, 0, 0)) 6 (-1)))), t)) rfl rfl ?_
  refine w_psh rfl zc_0 rfl ?_
  refine w_putI rfl (hp_2 _ 0) rfl rfl rfl ?_
  refine w_s (c' := (16, [some (aR (some (2, 0, 0)))], [aR (some (2, 0, 0))], am_hp ((sI (sI (sI σ (2, 0, 0) (up (σ.1 (2, 0, 0)) 5 0)) (2, 0, 0) (up (((sI σ (2, 0, 0) (up (σ.1 (2, 0, 0)) 5 0))).1 (2, 0, 0)) 6 (-1))) (2, 0, 0) (up (((sI (sI σ (2, 0, 0) (up (σ.1 (2, 0, 0)) 5 0)) (2, 0, 0) (up (((sI σ (2, 0, 0) (up (σ.1 (2, 0, 0)) 5 0))).1 (2, 0, 0)) 6 (-1)))).1 (2, 0, 0)) 8 0))), t)) rfl rfl ?_
  refine w_c0 (c' := (19, [some (aR (some (2, 0, 0)))], [], am_hp σ1, t)) rfl rfl (rcv_of (hp_2 _ 0)) rfl c1 (Nat.le_refl _) rfl ?_
  exact w_f rfl rfl q2

theorem e_X10_begin {h : AH} {t : KT} {d : Nat} {P : RS → Prop} (w : Wp k_X10_begin d (0, [some (aR (some (2, 0, 0)))], [], h, t) P) : ∃ r, Ca (d + 1) 78 [aR (some (2, 0, 0))] h t r ∧ P r := ca_W rfl rfl rfl rfl w

theorem b_X10_advance_0 {σ : SG} {t : KT} (h1 : -2147483648 ≤ σ.1 (2, 0, 0) 8 ∧ σ.1 (2, 0, 0) 8 < 2147483648) (h2 : -2147483648 ≤ σ.1 (2, 0, 0) 1 ∧ σ.1 (2, 0, 0) 1 < 2147483648) (w3 : σ.1 (2, 0, 0) 1 ≤ σ.1 (2, 0, 0) 8 → Wp k_X10_advance d (38, [some (aR (some (2, 0, 0)))], [], am_hp σ, t) Q) (w4 : σ.1 (2, 0, 0) 8 < σ.1 (2, 0, 0) 1 → Wp k_X10_advance d (11, [some (aR (some (2, 0, 0)))], [], am_hp σ, t) Q) : Wp k_X10_advance d (0, [some (aR (some (2, 0, 0)))], [], am_hp σ, t) Q := by
  refine w_s (c' := (1, [some (aR (some (2, 0, 0)))], [aR (some (2, 0, 0))], am_hp σ, t)) rfl rfl ?_
  refine w_get rfl (hp_2 _ 0) rfl rfl ?_
  refine w_s (c' := (5, [some (aR (some (2, 0, 0)))], [aR (some (2, 0, 0)), aI (iZ (σ.1 (2, 0, 0) 8))], am_hp σ, t)) rfl rfl ?_
  refine w_get rfl (hp_2 _ 0) rfl rfl ?_
  exact w_icge rfl h1 h2 rfl w3 w4

theorem e_X10_advance {h : AH} {t : KT} {d : Nat} {P : RS → Prop} (w : Wp k_X10_advance d (0, [some (aR (some (2, 0, 0)))], [], h, t) P) : ∃ r, Ca (d + 1) 79 [aR (some (2, 0, 0))] h t r ∧ P r := ca_W rfl rfl rfl rfl w

theorem b_X10_advance_11 {r1 : Int} {r2 : Int} {σ σ1 σ2 : SG} {t : KT} (c1 : Ca d 73 [aR (some (2, 0, 0)), aI (iZ (σ.1 (2, 0, 0) 8))] (am_hp σ) t (.inl (some (aI (iZ r1))), am_hp σ1, t)) (c2 : Ca d 76 [aI (iZ r1)] (am_hp σ1) t (.inl (some (aI (iZ r2))), am_hp σ2, t)) (h3 : -2147483648 ≤ r2 ∧ r2 < 2147483648) (w4 : r2 = 0 → Wp k_X10_advance d (38, [some (aR (some (2, 0, 0)))], [], am_hp σ2, t) Q) (w5 : r2 ≠ 0 → Wp k_X10_advance d (25, [some (aR (some (2, 0, 0)))], [], am_hp σ2, t) Q) : Wp k_X10_advance d (11, [some (aR (some (2, 0, 0)))], [], am_hp σ, t) Q := by
  refine w_s (c' := (12, [some (aR (some (2, 0, 0)))], [aR (some (2, 0, 0))], am_hp σ, t)) rfl rfl ?_
  refine w_s (c' := (13, [some (aR (some (2, 0, 0)))], [aR (some (2, 0, 0)), aR (some (2, 0, 0))], am_hp σ, t)) rfl rfl ?_
  refine w_get rfl (hp_2 _ 0) rfl rfl ?_
  refine w_c0 (c' := (19, [some (aR (some (2, 0, 0)))], [aI (iZ r1)], am_hp σ1, t)) rfl rfl (rcv_of (hp_2 _ 0)) rfl c1 (Nat.le_refl _) rfl ?_
  refine w_c0 (c' := (22, [some (aR (some (2, 0, 0)))], [aI (iZ r2)], am_hp σ2, t)) rfl rfl rfl rfl c2 (Nat.le_refl _) rfl ?_
  exact w_ifeq rfl h3 rfl w4 w5

theorem b_X10_advance_25 {σ : SG} {t : KT} (w1 : Wp k_X10_advance d (0, [some (aR (some (2, 0, 0)))], [], am_hp ((sI σ (2, 0, 0) (up (σ.1 (2, 0, 0)) 8 ((σ.1 (2, 0, 0) 8) + 1)))), t) Q) : Wp k_X10_advance d (25, [some (aR (some (2, 0, 0)))], [], am_hp σ, t) Q := by
  refine w_s (c' := (26, [some (aR (some (2, 0, 0)))], [aR (some (2, 0, 0))], am_hp σ, t)) rfl rfl ?_
  refine w_s (c' := (27, [some (aR (some (2, 0, 0)))], [aR (some (2, 0, 0)), aR (some (2, 0, 0))], am_hp σ, t)) rfl rfl ?_
  refine w_get rfl (hp_2 _ 0) rfl rfl ?_
  refine w_psh rfl zc_1 rfl ?_
  refine w_iadd rfl rfl ?_
  refine w_putI rfl (hp_2 _ 0) rfl rfl rfl ?_
  refine w_s (c' := (0, [some (aR (some (2, 0, 0)))], [], am_hp ((sI σ (2, 0, 0) (up (σ.1 (2, 0, 0)) 8 ((σ.1 (2, 0, 0) 8) + 1)))), t)) rfl rfl ?_
  exact w1

theorem b_X10_advance_38 {σ : SG} {t : KT} (h1 : -2147483648 ≤ ((sI σ (2, 0, 0) (up (σ.1 (2, 0, 0)) 7 (σ.1 (2, 0, 0) 8)))).1 (2, 0, 0) 8 ∧ ((sI σ (2, 0, 0) (up (σ.1 (2, 0, 0)) 7 (σ.1 (2, 0, 0) 8)))).1 (2, 0, 0) 8 < 2147483648) (h2 : -2147483648 ≤ ((sI σ (2, 0, 0) (up (σ.1 (2, 0, 0)) 7 (σ.1 (2, 0, 0) 8)))).1 (2, 0, 0) 1 ∧ ((sI σ (2, 0, 0) (up (σ.1 (2, 0, 0)) 7 (σ.1 (2, 0, 0) 8)))).1 (2, 0, 0) 1 < 2147483648) (w3 : ((sI σ (2, 0, 0) (up (σ.1 (2, 0, 0)) 7 (σ.1 (2, 0, 0) 8)))).1 (2, 0, 0) 8 < ((sI σ (2, 0, 0) (up (σ.1 (2, 0, 0)) 7 (σ.1 (2, 0, 0) 8)))).1 (2, 0, 0) 1 → Wp k_X10_advance d (65, [some (aR (some (2, 0, 0)))], [], am_hp ((sI σ (2, 0, 0) (up (σ.1 (2, 0, 0)) 7 (σ.1 (2, 0, 0) 8)))), t) Q) (w4 : ((sI σ (2, 0, 0) (up (σ.1 (2, 0, 0)) 7 (σ.1 (2, 0, 0) 8)))).1 (2, 0, 0) 1 ≤ ((sI σ (2, 0, 0) (up (σ.1 (2, 0, 0)) 7 (σ.1 (2, 0, 0) 8)))).1 (2, 0, 0) 8 → Wp k_X10_advance d (57, [some (aR (some (2, 0, 0)))], [], am_hp ((sI σ (2, 0, 0) (up (σ.1 (2, 0, 0)) 7 (σ.1 (2, 0, 0) 8)))), t) Q) : Wp k_X10_advance d (38, [some (aR (some (2, 0, 0)))], [], am_hp σ, t) Q := by
  refine w_s (c' := (39, [some (aR (some (2, 0, 0)))], [aR (some (2, 0, 0))], am_hp σ, t)) rfl rfl ?_
  refine w_s (c' := (40, [some (aR (some (2, 0, 0)))], [aR (some (2, 0, 0)), aR (some (2, 0, 0))], am_hp σ, t)) rfl rfl ?_
  refine w_get rfl (hp_2 _ 0) rfl rfl ?_
  refine w_putI rfl (hp_2 _ 0) rfl rfl rfl ?_
  refine w_s (c' := (47, [some (aR (some (2, 0, 0)))], [aR (some (2, 0, 0))], am_hp ((sI σ (2, 0, 0) (up (σ.1 (2, 0, 0)) 7 (σ.1 (2, 0, 0) 8)))), t)) rfl rfl ?_
  refine w_get rfl (hp_2 _ 0) rfl rfl ?_
  refine w_s (c' := (51, [some (aR (some (2, 0, 0)))], [aR (some (2, 0, 0)), aI (iZ (((sI σ (2, 0, 0) (up (σ.1 (2, 0, 0)) 7 (σ.1 (2, 0, 0) 8)))).1 (2, 0, 0) 8))], am_hp ((sI σ (2, 0, 0) (up (σ.1 (2, 0, 0)) 7 (σ.1 (2, 0, 0) 8)))), t)) rfl rfl ?_
  refine w_get rfl (hp_2 _ 0) rfl rfl ?_
  exact w_iclt rfl h1 h2 rfl w3 w4

theorem b_X10_advance_57 {σ : SG} {t : KT} (w1 : Wp k_X10_advance d (132, [some (aR (some (2, 0, 0)))], [], am_hp ((sI σ (2, 0, 0) (up (σ.1 (2, 0, 0)) 2 0))), t) Q) : Wp k_X10_advance d (57, [some (aR (some (2, 0, 0)))], [], am_hp σ, t) Q := by
  refine w_s (c' := (58, [some (aR (some (2, 0, 0)))], [aR (some (2, 0, 0))], am_hp σ, t)) rfl rfl ?_
  refine w_psh rfl zc_0 rfl ?_
  refine w_putI rfl (hp_2 _ 0) rfl rfl rfl ?_
  refine w_s (c' := (132, [some (aR (some (2, 0, 0)))], [], am_hp ((sI σ (2, 0, 0) (up (σ.1 (2, 0, 0)) 2 0))), t)) rfl rfl ?_
  exact w1

theorem b_X10_advance_65 {r1 : Int} {r2 : Int} {σ σ1 σ2 : SG} {t : KT} (c1 : Ca d 73 [aR (some (2, 0, 0)), aI (iZ (σ.1 (2, 0, 0) 8))] (am_hp σ) t (.inl (some (aI (iZ r1))), am_hp σ1, t)) (c2 : Ca d 74 [aI (iZ r1)] (am_hp σ1) t (.inl (some (aI (iZ r2))), am_hp σ2, t)) (h3 : -2147483648 ≤ r2 ∧ r2 < 2147483648) (w4 : r2 = 0 → Wp k_X10_advance d (86, [some (aR (some (2, 0, 0)))], [], am_hp σ2, t) Q) (w5 : r2 ≠ 0 → Wp k_X10_advance d (79, [some (aR (some (2, 0, 0)))], [], am_hp σ2, t) Q) : Wp k_X10_advance d (65, [some (aR (some (2, 0, 0)))], [], am_hp σ, t) Q := by
  refine w_s (c' := (66, [some (aR (some (2, 0, 0)))], [aR (some (2, 0, 0))], am_hp σ, t)) rfl rfl ?_
  refine w_s (c' := (67, [some (aR (some (2, 0, 0)))], [aR (some (2, 0, 0)), aR (some (2, 0, 0))], am_hp σ, t)) rfl rfl ?_
  refine w_get rfl (hp_2 _ 0) rfl rfl ?_
  refine w_c0 (c' := (73, [some (aR (some (2, 0, 0)))], [aI (iZ r1)], am_hp σ1, t)) rfl rfl (rcv_of (hp_2 _ 0)) rfl c1 (Nat.le_refl _) rfl ?_
  refine w_c0 (c' := (76, [some (aR (some (2, 0, 0)))], [aI (iZ r2)], am_hp σ2, t)) rfl rfl rfl rfl c2 (Nat.le_refl _) rfl ?_
  exact w_ifeq rfl h3 rfl w4 w5

theorem b_X10_advance_79 {σ σ1 : SG} {t : KT} (c1 : Ca d 81 [aR (some (2, 0, 0))] (am_hp σ) t (.inl none, am_hp σ1, t)) (w2 : Wp k_X10_advance d (132, [some (aR (some (2, 0, 0)))], [], am_hp σ1, t) Q) : Wp k_X10_advance d (79, [some (aR (some (2, 0, 0)))], [], am_hp σ, t) Q := by
  refine w_s (c' := (80, [some (aR (some (2, 0, 0)))], [aR (some (2, 0, 0))], am_hp σ, t)) rfl rfl ?_
  refine w_c0 (c' := (83, [some (aR (some (2, 0, 0)))], [], am_hp σ1, t)) rfl rfl (rcv_of (hp_2 _ 0)) rfl c1 (Nat.le_refl _) rfl ?_
  refine w_s (c' := (132, [some (aR (some (2, 0, 0)))], [], am_hp σ1, t)) rfl rfl ?_
  exact w2

theorem b_X10_advance_86 {r1 : Int} {r2 : Int} {σ σ1 σ2 : SG} {t : KT} (c1 : Ca d 73 [aR (some (2, 0, 0)), aI (iZ (σ.1 (2, 0, 0) 8))] (am_hp σ) t (.inl (some (aI (iZ r1))), am_hp σ1, t)) (c2 : Ca d 75 [aI (iZ r1)] (am_hp σ1) t (.inl (some (aI (iZ r2))), am_hp σ2, t)) (h3 : -2147483648 ≤ r2 ∧ r2 < 2147483648) (w4 : r2 = 0 → Wp k_X10_advance d (107, [some (aR (some (2, 0, 0)))], [], am_hp σ2, t) Q) (w5 : r2 ≠ 0 → Wp k_X10_advance d (100, [some (aR (some (2, 0, 0)))], [], am_hp σ2, t) Q) : Wp k_X10_advance d (86, [some (aR (some (2, 0, 0)))], [], am_hp σ, t) Q := by
  refine w_s (c' := (87, [some (aR (some (2, 0, 0)))], [aR (some (2, 0, 0))], am_hp σ, t)) rfl rfl ?_
  refine w_s (c' := (88, [some (aR (some (2, 0, 0)))], [aR (some (2, 0, 0)), aR (some (2, 0, 0))], am_hp σ, t)) rfl rfl ?_
  refine w_get rfl (hp_2 _ 0) rfl rfl ?_
  refine w_c0 (c' := (94, [some (aR (some (2, 0, 0)))], [aI (iZ r1)], am_hp σ1, t)) rfl rfl (rcv_of (hp_2 _ 0)) rfl c1 (Nat.le_refl _) rfl ?_
  refine w_c0 (c' := (97, [some (aR (some (2, 0, 0)))], [aI (iZ r2)], am_hp σ2, t)) rfl rfl rfl rfl c2 (Nat.le_refl _) rfl ?_
  exact w_ifeq rfl h3 rfl w4 w5

theorem b_X10_advance_100 {σ σ1 : SG} {t : KT} (c1 : Ca d 82 [aR (some (2, 0, 0))] (am_hp σ) t (.inl none, am_hp σ1, t)) (w2 : Wp k_X10_advance d (132, [some (aR (some (2, 0, 0)))], [], am_hp σ1, t) Q) : Wp k_X10_advance d (100, [some (aR (some (2, 0, 0)))], [], am_hp σ, t) Q := by
  refine w_s (c' := (101, [some (aR (some (2, 0, 0)))], [aR (some (2, 0, 0))], am_hp σ, t)) rfl rfl ?_
  refine w_c0 (c' := (104, [some (aR (some (2, 0, 0)))], [], am_hp σ1, t)) rfl rfl (rcv_of (hp_2 _ 0)) rfl c1 (Nat.le_refl _) rfl ?_
  refine w_s (c' := (132, [some (aR (some (2, 0, 0)))], [], am_hp σ1, t)) rfl rfl ?_
  exact w2

theorem b_X10_advance_107 {r1 : Int} {r2 : Int} {σ σ1 σ2 : SG} {t : KT} (c1 : Ca d 73 [aR (some (2, 0, 0)), aI (iZ (σ.1 (2, 0, 0) 8))] (am_hp σ) t (.inl (some (aI (iZ r1))), am_hp σ1, t)) (c2 : Ca d 80 [aI (iZ r1)] (am_hp σ1) t (.inl (some (aI (iZ r2))), am_hp σ2, t)) (w3 : Wp k_X10_advance d (132, [some (aR (some (2, 0, 0)))], [], am_hp ((sI (sI σ2 (2, 0, 0) (up (σ2.1 (2, 0, 0)) 2 r2)) (2, 0, 0) (up (((sI σ2 (2, 0, 0) (up (σ2.1 (2, 0, 0)) 2 r2))).1 (2, 0, 0)) 8 ((((sI σ2 (2, 0, 0) (up (σ2.1 (2, 0, 0)) 2 r2))).1 (2, 0, 0) 8) + 1)))), t) Q) : Wp k_X10_advance d (107, [some (aR (some (2, 0, 0)))], [], am_hp σ, t) Q := by
  refine w_s (c' := (108, [some (aR (some (2, 0, 0)))], [aR (some (2, 0, 0))], am_hp σ, t)) rfl rfl ?_
  refine w_s (c' := (109, [some (aR (some (2, 0, 0)))], [aR (some (2, 0, 0)), aR (some (2, 0, 0))], am_hp σ, t)) rfl rfl ?_
  refine w_s (c' := (110, [some (aR (some (2, 0, 0)))], [aR (some (2, 0, 0)), aR (some (2, 0, 0)), aR (some (2, 0, 0))], am_hp σ, t)) rfl rfl ?_
  refine w_get rfl (hp_2 _ 0) rfl rfl ?_
  refine w_c0 (c' := (116, [some (aR (some (2, 0, 0)))], [aI (iZ r1), aR (some (2, 0, 0))], am_hp σ1, t)) rfl rfl (rcv_of (hp_2 _ 0)) rfl c1 (Nat.le_refl _) rfl ?_
  refine w_c0 (c' := (119, [some (aR (some (2, 0, 0)))], [aI (iZ r2), aR (some (2, 0, 0))], am_hp σ2, t)) rfl rfl rfl rfl c2 (Nat.le_refl _) rfl ?_
  refine w_putI rfl (hp_2 _ 0) rfl rfl rfl ?_
  refine w_s (c' := (123, [some (aR (some (2, 0, 0)))], [aR (some (2, 0, 0))], am_hp ((sI σ2 (2, 0, 0) (up (σ2.1 (2, 0, 0)) 2 r2))), t)) rfl rfl ?_
  refine w_s (c' := (124, [some (aR (some (2, 0, 0)))], [aR (some (2, 0, 0)), aR (some (2, 0, 0))], am_hp ((sI σ2 (2, 0, 0) (up (σ2.1 (2, 0, 0)) 2 r2))), t)) rfl rfl ?_
  refine w_get rfl (hp_2 _ 0) rfl rfl ?_
  refine w_psh rfl zc_1 rfl ?_
  refine w_iadd rfl rfl ?_
  refine w_putI rfl (hp_2 _ 0) rfl rfl rfl ?_
  exact w3

theorem b_X10_advance_132 {σ : SG} {t : KT} (q1 : Q (.inl none, am_hp σ, t)) : Wp k_X10_advance d (132, [some (aR (some (2, 0, 0)))], [], am_hp σ, t) Q := by
  exact w_f rfl rfl q1

theorem b_X10_kindOfSign_0 {x0 : Int} {σ : SG} {t : KT} (h1 : -2147483648 ≤ x0 ∧ x0 < 2147483648) (w2 : x0 = 40 → Wp k_X10_kindOfSign d (38, [some (aI (iZ x0))], [], am_hp σ, t) Q) (w3 : x0 = 41 → Wp k_X10_kindOfSign d (40, [some (aI (iZ x0))], [], am_hp σ, t) Q) (w4 : x0 = 59 → Wp k_X10_kindOfSign d (36, [some (aI (iZ x0))], [], am_hp σ, t) Q) (w5 : x0 ≠ 40 ∧ x0 ≠ 41 ∧ x0 ≠ 59 → Wp k_X10_kindOfSign d (42, [some (aI (iZ x0))], [], am_hp σ, t) Q) : Wp k_X10_kindOfSign d (0, [some (aI (iZ x0))], [], am_hp σ, t) Q := by
  refine w_s (c' := (1, [some (aI (iZ x0))], [aI (iZ x0)], am_hp σ, t)) rfl rfl ?_
  refine w_lkp rfl ?_
  by_cases hd40 : x0 = 40
  · have he := w2 hd40
    rw [hd40] at he ⊢
    exact he
  by_cases hd41 : x0 = 41
  · have he := w3 hd41
    rw [hd41] at he ⊢
    exact he
  by_cases hd59 : x0 = 59
  · have he := w4 hd59
    rw [hd59] at he ⊢
    exact he
  have he : am_lks [(40, 38), (41, 40), (59, 36)] 42 (iZ x0) = 42 := by
    unfold am_lks
    simp only [am_lks, iZ_get h1]
    rw [if_neg (fun z => hd40 z.symm), if_neg (fun z => hd41 z.symm), if_neg (fun z => hd59 z.symm)]
  rw [he]
  exact w5 ⟨hd40, hd41, hd59⟩

theorem e_X10_kindOfSign {x0 : Int} {h : AH} {t : KT} {d : Nat} {P : RS → Prop} (w : Wp k_X10_kindOfSign d (0, [some (aI (iZ x0))], [], h, t) P) : ∃ r, Ca (d + 1) 80 [aI (iZ x0)] h t r ∧ P r := ca_W rfl rfl rfl rfl w

theorem b_X10_kindOfSign_36 {x0 : Int} {σ : SG} {t : KT} (q1 : Q (.inl (some (aI (iZ 3))), am_hp σ, t)) : Wp k_X10_kindOfSign d (36, [some (aI (iZ x0))], [], am_hp σ, t) Q := by
  refine w_psh rfl zc_3 rfl ?_
  exact w_ret rfl rfl q1

theorem b_X10_kindOfSign_38 {x0 : Int} {σ : SG} {t : KT} (q1 : Q (.inl (some (aI (iZ 4))), am_hp σ, t)) : Wp k_X10_kindOfSign d (38, [some (aI (iZ x0))], [], am_hp σ, t) Q := by
  refine w_psh rfl zc_4 rfl ?_
  exact w_ret rfl rfl q1

theorem b_X10_kindOfSign_40 {x0 : Int} {σ : SG} {t : KT} (q1 : Q (.inl (some (aI (iZ 5))), am_hp σ, t)) : Wp k_X10_kindOfSign d (40, [some (aI (iZ x0))], [], am_hp σ, t) Q := by
  refine w_psh rfl zc_5 rfl ?_
  exact w_ret rfl rfl q1

theorem b_X10_kindOfSign_42 {x0 : Int} {σ : SG} {t : KT} (q1 : Q (.inl (some (aI (iZ 6))), am_hp σ, t)) : Wp k_X10_kindOfSign d (42, [some (aI (iZ x0))], [], am_hp σ, t) Q := by
  refine w_psh rfl zc_6 rfl ?_
  exact w_ret rfl rfl q1

theorem b_X10_takeWord_0 {σ : SG} {t : KT} (w1 : Wp k_X10_takeWord d (5, [some (aR (some (2, 0, 0)))], [], am_hp ((sJ σ (2, 0, 0) (up (σ.2.1 (2, 0, 0)) 4 0))), t) Q) : Wp k_X10_takeWord d (0, [some (aR (some (2, 0, 0)))], [], am_hp σ, t) Q := by
  refine w_s (c' := (1, [some (aR (some (2, 0, 0)))], [aR (some (2, 0, 0))], am_hp σ, t)) rfl rfl ?_
  refine w_psL rfl yc_0 rfl ?_
  refine w_putJ rfl (hp_2 _ 0) rfl rfl rfl ?_
  exact w1

theorem e_X10_takeWord {h : AH} {t : KT} {d : Nat} {P : RS → Prop} (w : Wp k_X10_takeWord d (0, [some (aR (some (2, 0, 0)))], [], h, t) P) : ∃ r, Ca (d + 1) 81 [aR (some (2, 0, 0))] h t r ∧ P r := ca_W rfl rfl rfl rfl w

theorem b_X10_takeWord_5 {σ : SG} {t : KT} (h1 : -2147483648 ≤ σ.1 (2, 0, 0) 8 ∧ σ.1 (2, 0, 0) 8 < 2147483648) (h2 : -2147483648 ≤ σ.1 (2, 0, 0) 1 ∧ σ.1 (2, 0, 0) 1 < 2147483648) (w3 : σ.1 (2, 0, 0) 1 ≤ σ.1 (2, 0, 0) 8 → Wp k_X10_takeWord d (90, [some (aR (some (2, 0, 0)))], [], am_hp σ, t) Q) (w4 : σ.1 (2, 0, 0) 8 < σ.1 (2, 0, 0) 1 → Wp k_X10_takeWord d (16, [some (aR (some (2, 0, 0)))], [], am_hp σ, t) Q) : Wp k_X10_takeWord d (5, [some (aR (some (2, 0, 0)))], [], am_hp σ, t) Q := by
  refine w_s (c' := (6, [some (aR (some (2, 0, 0)))], [aR (some (2, 0, 0))], am_hp σ, t)) rfl rfl ?_
  refine w_get rfl (hp_2 _ 0) rfl rfl ?_
  refine w_s (c' := (10, [some (aR (some (2, 0, 0)))], [aR (some (2, 0, 0)), aI (iZ (σ.1 (2, 0, 0) 8))], am_hp σ, t)) rfl rfl ?_
  refine w_get rfl (hp_2 _ 0) rfl rfl ?_
  exact w_icge rfl h1 h2 rfl w3 w4

theorem b_X10_takeWord_16 {r1 : Int} {r2 : Int} {σ σ1 σ2 : SG} {t : KT} (c1 : Ca d 73 [aR (some (2, 0, 0)), aI (iZ (σ.1 (2, 0, 0) 8))] (am_hp σ) t (.inl (some (aI (iZ r1))), am_hp σ1, t)) (c2 : Ca d 74 [aI (iZ r1)] (am_hp σ1) t (.inl (some (aI (iZ r2))), am_hp σ2, t)) (h3 : -2147483648 ≤ r2 ∧ r2 < 2147483648) (w4 : r2 = 0 → Wp k_X10_takeWord d (90, [some (aR (some (2, 0, 0)))], [], am_hp σ2, t) Q) (w5 : r2 ≠ 0 → Wp k_X10_takeWord d (30, [some (aR (some (2, 0, 0)))], [], am_hp σ2, t) Q) : Wp k_X10_takeWord d (16, [some (aR (some (2, 0, 0)))], [], am_hp σ, t) Q := by
  refine w_s (c' := (17, [some (aR (some (2, 0, 0)))], [aR (some (2, 0, 0))], am_hp σ, t)) rfl rfl ?_
  refine w_s (c' := (18, [some (aR (some (2, 0, 0)))], [aR (some (2, 0, 0)), aR (some (2, 0, 0))], am_hp σ, t)) rfl rfl ?_
  refine w_get rfl (hp_2 _ 0) rfl rfl ?_
  refine w_c0 (c' := (24, [some (aR (some (2, 0, 0)))], [aI (iZ r1)], am_hp σ1, t)) rfl rfl (rcv_of (hp_2 _ 0)) rfl c1 (Nat.le_refl _) rfl ?_
  refine w_c0 (c' := (27, [some (aR (some (2, 0, 0)))], [aI (iZ r2)], am_hp σ2, t)) rfl rfl rfl rfl c2 (Nat.le_refl _) rfl ?_
  exact w_ifeq rfl h3 rfl w4 w5

theorem b_X10_takeWord_30 {σ : SG} {t : KT} (h1 : -2147483648 ≤ (σ.1 (2, 0, 0) 8) - (σ.1 (2, 0, 0) 7) ∧ (σ.1 (2, 0, 0) 8) - (σ.1 (2, 0, 0) 7) < 2147483648) (w2 : 8 ≤ (σ.1 (2, 0, 0) 8) - (σ.1 (2, 0, 0) 7) → Wp k_X10_takeWord d (77, [some (aR (some (2, 0, 0)))], [], am_hp σ, t) Q) (w3 : (σ.1 (2, 0, 0) 8) - (σ.1 (2, 0, 0) 7) < 8 → Wp k_X10_takeWord d (44, [some (aR (some (2, 0, 0)))], [], am_hp σ, t) Q) : Wp k_X10_takeWord d (30, [some (aR (some (2, 0, 0)))], [], am_hp σ, t) Q := by
  refine w_s (c' := (31, [some (aR (some (2, 0, 0)))], [aR (some (2, 0, 0))], am_hp σ, t)) rfl rfl ?_
  refine w_get rfl (hp_2 _ 0) rfl rfl ?_
  refine w_s (c' := (35, [some (aR (some (2, 0, 0)))], [aR (some (2, 0, 0)), aI (iZ (σ.1 (2, 0, 0) 8))], am_hp σ, t)) rfl rfl ?_
  refine w_get rfl (hp_2 _ 0) rfl rfl ?_
  refine w_isub rfl rfl ?_
  refine w_psh rfl zc_8 rfl ?_
  exact w_icge rfl h1 (by decide) rfl w2 w3

theorem b_X10_takeWord_44 {r1 : Int} {r2 : Int} {σ σ1 σ2 : SG} {t : KT} (c1 : Ca d 73 [aR (some (2, 0, 0)), aI (iZ (σ.1 (2, 0, 0) 8))] (am_hp σ) t (.inl (some (aI (iZ r1))), am_hp σ1, t)) (c2 : Ca d 148 [aL (jZ (σ.2.1 (2, 0, 0) 4)), aI (iZ ((σ.1 (2, 0, 0) 8) - (σ.1 (2, 0, 0) 7))), aI (iZ ((r1 - 97) + 1))] (am_hp σ1) t (.inl (some (aL (jZ r2))), am_hp σ2, t)) (w3 : Wp k_X10_takeWord d (77, [some (aR (some (2, 0, 0)))], [], am_hp ((sJ σ2 (2, 0, 0) (up (σ2.2.1 (2, 0, 0)) 4 r2))), t) Q) : Wp k_X10_takeWord d (44, [some (aR (some (2, 0, 0)))], [], am_hp σ, t) Q := by
  refine w_s (c' := (45, [some (aR (some (2, 0, 0)))], [aR (some (2, 0, 0))], am_hp σ, t)) rfl rfl ?_
  refine w_s (c' := (46, [some (aR (some (2, 0, 0)))], [aR (some (2, 0, 0)), aR (some (2, 0, 0))], am_hp σ, t)) rfl rfl ?_
  refine w_get rfl (hp_2 _ 0) rfl rfl ?_
  refine w_s (c' := (50, [some (aR (some (2, 0, 0)))], [aR (some (2, 0, 0)), aL (jZ (σ.2.1 (2, 0, 0) 4)), aR (some (2, 0, 0))], am_hp σ, t)) rfl rfl ?_
  refine w_get rfl (hp_2 _ 0) rfl rfl ?_
  refine w_s (c' := (54, [some (aR (some (2, 0, 0)))], [aR (some (2, 0, 0)), aI (iZ (σ.1 (2, 0, 0) 8)), aL (jZ (σ.2.1 (2, 0, 0) 4)), aR (some (2, 0, 0))], am_hp σ, t)) rfl rfl ?_
  refine w_get rfl (hp_2 _ 0) rfl rfl ?_
  refine w_isub rfl rfl ?_
  refine w_s (c' := (59, [some (aR (some (2, 0, 0)))], [aR (some (2, 0, 0)), aI (iZ ((σ.1 (2, 0, 0) 8) - (σ.1 (2, 0, 0) 7))), aL (jZ (σ.2.1 (2, 0, 0) 4)), aR (some (2, 0, 0))], am_hp σ, t)) rfl rfl ?_
  refine w_s (c' := (60, [some (aR (some (2, 0, 0)))], [aR (some (2, 0, 0)), aR (some (2, 0, 0)), aI (iZ ((σ.1 (2, 0, 0) 8) - (σ.1 (2, 0, 0) 7))), aL (jZ (σ.2.1 (2, 0, 0) 4)), aR (some (2, 0, 0))], am_hp σ, t)) rfl rfl ?_
  refine w_get rfl (hp_2 _ 0) rfl rfl ?_
  refine w_c0 (c' := (66, [some (aR (some (2, 0, 0)))], [aI (iZ r1), aI (iZ ((σ.1 (2, 0, 0) 8) - (σ.1 (2, 0, 0) 7))), aL (jZ (σ.2.1 (2, 0, 0) 4)), aR (some (2, 0, 0))], am_hp σ1, t)) rfl rfl (rcv_of (hp_2 _ 0)) rfl c1 (Nat.le_refl _) rfl ?_
  refine w_psh rfl zc_97 rfl ?_
  refine w_isub rfl rfl ?_
  refine w_psh rfl zc_1 rfl ?_
  refine w_iadd rfl rfl ?_
  refine w_c0 (c' := (74, [some (aR (some (2, 0, 0)))], [aL (jZ r2), aR (some (2, 0, 0))], am_hp σ2, t)) rfl rfl rfl rfl c2 (Nat.le_refl _) rfl ?_
  refine w_putJ rfl (hp_2 _ 0) rfl rfl rfl ?_
  exact w3

theorem b_X10_takeWord_77 {σ : SG} {t : KT} (w1 : Wp k_X10_takeWord d (5, [some (aR (some (2, 0, 0)))], [], am_hp ((sI σ (2, 0, 0) (up (σ.1 (2, 0, 0)) 8 ((σ.1 (2, 0, 0) 8) + 1)))), t) Q) : Wp k_X10_takeWord d (77, [some (aR (some (2, 0, 0)))], [], am_hp σ, t) Q := by
  refine w_s (c' := (78, [some (aR (some (2, 0, 0)))], [aR (some (2, 0, 0))], am_hp σ, t)) rfl rfl ?_
  refine w_s (c' := (79, [some (aR (some (2, 0, 0)))], [aR (some (2, 0, 0)), aR (some (2, 0, 0))], am_hp σ, t)) rfl rfl ?_
  refine w_get rfl (hp_2 _ 0) rfl rfl ?_
  refine w_psh rfl zc_1 rfl ?_
  refine w_iadd rfl rfl ?_
  refine w_putI rfl (hp_2 _ 0) rfl rfl rfl ?_
  refine w_s (c' := (5, [some (aR (some (2, 0, 0)))], [], am_hp ((sI σ (2, 0, 0) (up (σ.1 (2, 0, 0)) 8 ((σ.1 (2, 0, 0) 8) + 1)))), t)) rfl rfl ?_
  exact w1

theorem b_X10_takeWord_90 {σ : SG} {t : KT} (h1 : -2147483648 ≤ σ.1 (2, 0, 0) 8 ∧ σ.1 (2, 0, 0) 8 < 2147483648) (h2 : -2147483648 ≤ σ.1 (2, 0, 0) 7 ∧ σ.1 (2, 0, 0) 7 < 2147483648) (w3 : σ.1 (2, 0, 0) 8 = σ.1 (2, 0, 0) 7 → Wp k_X10_takeWord d (116, [some (aR (some (2, 0, 0)))], [aR (some (2, 0, 0))], am_hp σ, t) Q) (w4 : σ.1 (2, 0, 0) 8 ≠ σ.1 (2, 0, 0) 7 → Wp k_X10_takeWord d (102, [some (aR (some (2, 0, 0)))], [aR (some (2, 0, 0))], am_hp σ, t) Q) : Wp k_X10_takeWord d (90, [some (aR (some (2, 0, 0)))], [], am_hp σ, t) Q := by
  refine w_s (c' := (91, [some (aR (some (2, 0, 0)))], [aR (some (2, 0, 0))], am_hp σ, t)) rfl rfl ?_
  refine w_s (c' := (92, [some (aR (some (2, 0, 0)))], [aR (some (2, 0, 0)), aR (some (2, 0, 0))], am_hp σ, t)) rfl rfl ?_
  refine w_get rfl (hp_2 _ 0) rfl rfl ?_
  refine w_s (c' := (96, [some (aR (some (2, 0, 0)))], [aR (some (2, 0, 0)), aI (iZ (σ.1 (2, 0, 0) 8)), aR (some (2, 0, 0))], am_hp σ, t)) rfl rfl ?_
  refine w_get rfl (hp_2 _ 0) rfl rfl ?_
  exact w_iceq rfl h1 h2 rfl w3 w4

theorem b_X10_takeWord_102 {σ : SG} {t : KT} (h1 : -2147483648 ≤ (σ.1 (2, 0, 0) 8) - (σ.1 (2, 0, 0) 7) ∧ (σ.1 (2, 0, 0) 8) - (σ.1 (2, 0, 0) 7) < 2147483648) (w2 : (σ.1 (2, 0, 0) 8) - (σ.1 (2, 0, 0) 7) ≤ 8 → Wp k_X10_takeWord d (121, [some (aR (some (2, 0, 0)))], [aR (some (2, 0, 0))], am_hp σ, t) Q) (w3 : 8 < (σ.1 (2, 0, 0) 8) - (σ.1 (2, 0, 0) 7) → Wp k_X10_takeWord d (116, [some (aR (some (2, 0, 0)))], [aR (some (2, 0, 0))], am_hp σ, t) Q) : Wp k_X10_takeWord d (102, [some (aR (some (2, 0, 0)))], [aR (some (2, 0, 0))], am_hp σ, t) Q := by
  refine w_s (c' := (103, [some (aR (some (2, 0, 0)))], [aR (some (2, 0, 0)), aR (some (2, 0, 0))], am_hp σ, t)) rfl rfl ?_
  refine w_get rfl (hp_2 _ 0) rfl rfl ?_
  refine w_s (c' := (107, [some (aR (some (2, 0, 0)))], [aR (some (2, 0, 0)), aI (iZ (σ.1 (2, 0, 0) 8)), aR (some (2, 0, 0))], am_hp σ, t)) rfl rfl ?_
  refine w_get rfl (hp_2 _ 0) rfl rfl ?_
  refine w_isub rfl rfl ?_
  refine w_psh rfl zc_8 rfl ?_
  exact w_icle rfl h1 (by decide) rfl w2 w3

theorem b_X10_takeWord_116 {σ : SG} {t : KT} (w1 : Wp k_X10_takeWord d (122, [some (aR (some (2, 0, 0)))], [aI (iZ 6), aR (some (2, 0, 0))], am_hp σ, t) Q) : Wp k_X10_takeWord d (116, [some (aR (some (2, 0, 0)))], [aR (some (2, 0, 0))], am_hp σ, t) Q := by
  refine w_psh rfl zc_6 rfl ?_
  refine w_s (c' := (122, [some (aR (some (2, 0, 0)))], [aI (iZ 6), aR (some (2, 0, 0))], am_hp σ, t)) rfl rfl ?_
  exact w1

theorem b_X10_takeWord_121 {σ : SG} {t : KT} (w1 : Wp k_X10_takeWord d (122, [some (aR (some (2, 0, 0)))], [aI (iZ 1), aR (some (2, 0, 0))], am_hp σ, t) Q) : Wp k_X10_takeWord d (121, [some (aR (some (2, 0, 0)))], [aR (some (2, 0, 0))], am_hp σ, t) Q := by
  refine w_psh rfl zc_1 rfl ?_
  exact w1

theorem b_X10_takeWord_122 {xs0 : Int} {σ : SG} {t : KT} (q1 : Q (.inl none, am_hp ((sI σ (2, 0, 0) (up (σ.1 (2, 0, 0)) 2 xs0))), t)) : Wp k_X10_takeWord d (122, [some (aR (some (2, 0, 0)))], [aI (iZ xs0), aR (some (2, 0, 0))], am_hp σ, t) Q := by
  refine w_putI rfl (hp_2 _ 0) rfl rfl rfl ?_
  exact w_f rfl rfl q1

theorem b_X10_takeNumber_0 {σ : SG} {t : KT} (w1 : Wp k_X10_takeNumber d (5, [some (aR (some (2, 0, 0)))], [], am_hp ((sI σ (2, 0, 0) (up (σ.1 (2, 0, 0)) 3 0))), t) Q) : Wp k_X10_takeNumber d (0, [some (aR (some (2, 0, 0)))], [], am_hp σ, t) Q := by
  refine w_s (c' := (1, [some (aR (some (2, 0, 0)))], [aR (some (2, 0, 0))], am_hp σ, t)) rfl rfl ?_
  refine w_psh rfl zc_0 rfl ?_
  refine w_putI rfl (hp_2 _ 0) rfl rfl rfl ?_
  exact w1

theorem e_X10_takeNumber {h : AH} {t : KT} {d : Nat} {P : RS → Prop} (w : Wp k_X10_takeNumber d (0, [some (aR (some (2, 0, 0)))], [], h, t) P) : ∃ r, Ca (d + 1) 82 [aR (some (2, 0, 0))] h t r ∧ P r := ca_W rfl rfl rfl rfl w

theorem b_X10_takeNumber_5 {σ : SG} {t : KT} (h1 : -2147483648 ≤ σ.1 (2, 0, 0) 8 ∧ σ.1 (2, 0, 0) 8 < 2147483648) (h2 : -2147483648 ≤ σ.1 (2, 0, 0) 1 ∧ σ.1 (2, 0, 0) 1 < 2147483648) (w3 : σ.1 (2, 0, 0) 1 ≤ σ.1 (2, 0, 0) 8 → Wp k_X10_takeNumber d (80, [some (aR (some (2, 0, 0)))], [], am_hp σ, t) Q) (w4 : σ.1 (2, 0, 0) 8 < σ.1 (2, 0, 0) 1 → Wp k_X10_takeNumber d (16, [some (aR (some (2, 0, 0)))], [], am_hp σ, t) Q) : Wp k_X10_takeNumber d (5, [some (aR (some (2, 0, 0)))], [], am_hp σ, t) Q := by
  refine w_s (c' := (6, [some (aR (some (2, 0, 0)))], [aR (some (2, 0, 0))], am_hp σ, t)) rfl rfl ?_
  refine w_get rfl (hp_2 _ 0) rfl rfl ?_
  refine w_s (c' := (10, [some (aR (some (2, 0, 0)))], [aR (some (2, 0, 0)), aI (iZ (σ.1 (2, 0, 0) 8))], am_hp σ, t)) rfl rfl ?_
  refine w_get rfl (hp_2 _ 0) rfl rfl ?_
  exact w_icge rfl h1 h2 rfl w3 w4

theorem b_X10_takeNumber_16 {r1 : Int} {r2 : Int} {σ σ1 σ2 : SG} {t : KT} (c1 : Ca d 73 [aR (some (2, 0, 0)), aI (iZ (σ.1 (2, 0, 0) 8))] (am_hp σ) t (.inl (some (aI (iZ r1))), am_hp σ1, t)) (c2 : Ca d 75 [aI (iZ r1)] (am_hp σ1) t (.inl (some (aI (iZ r2))), am_hp σ2, t)) (h3 : -2147483648 ≤ r2 ∧ r2 < 2147483648) (w4 : r2 = 0 → Wp k_X10_takeNumber d (80, [some (aR (some (2, 0, 0)))], [], am_hp σ2, t) Q) (w5 : r2 ≠ 0 → Wp k_X10_takeNumber d (30, [some (aR (some (2, 0, 0)))], [], am_hp σ2, t) Q) : Wp k_X10_takeNumber d (16, [some (aR (some (2, 0, 0)))], [], am_hp σ, t) Q := by
  refine w_s (c' := (17, [some (aR (some (2, 0, 0)))], [aR (some (2, 0, 0))], am_hp σ, t)) rfl rfl ?_
  refine w_s (c' := (18, [some (aR (some (2, 0, 0)))], [aR (some (2, 0, 0)), aR (some (2, 0, 0))], am_hp σ, t)) rfl rfl ?_
  refine w_get rfl (hp_2 _ 0) rfl rfl ?_
  refine w_c0 (c' := (24, [some (aR (some (2, 0, 0)))], [aI (iZ r1)], am_hp σ1, t)) rfl rfl (rcv_of (hp_2 _ 0)) rfl c1 (Nat.le_refl _) rfl ?_
  refine w_c0 (c' := (27, [some (aR (some (2, 0, 0)))], [aI (iZ r2)], am_hp σ2, t)) rfl rfl rfl rfl c2 (Nat.le_refl _) rfl ?_
  exact w_ifeq rfl h3 rfl w4 w5

theorem b_X10_takeNumber_30 {σ : SG} {t : KT} (h1 : -2147483648 ≤ (σ.1 (2, 0, 0) 8) - (σ.1 (2, 0, 0) 7) ∧ (σ.1 (2, 0, 0) 8) - (σ.1 (2, 0, 0) 7) < 2147483648) (w2 : 9 ≤ (σ.1 (2, 0, 0) 8) - (σ.1 (2, 0, 0) 7) → Wp k_X10_takeNumber d (67, [some (aR (some (2, 0, 0)))], [], am_hp σ, t) Q) (w3 : (σ.1 (2, 0, 0) 8) - (σ.1 (2, 0, 0) 7) < 9 → Wp k_X10_takeNumber d (44, [some (aR (some (2, 0, 0)))], [], am_hp σ, t) Q) : Wp k_X10_takeNumber d (30, [some (aR (some (2, 0, 0)))], [], am_hp σ, t) Q := by
  refine w_s (c' := (31, [some (aR (some (2, 0, 0)))], [aR (some (2, 0, 0))], am_hp σ, t)) rfl rfl ?_
  refine w_get rfl (hp_2 _ 0) rfl rfl ?_
  refine w_s (c' := (35, [some (aR (some (2, 0, 0)))], [aR (some (2, 0, 0)), aI (iZ (σ.1 (2, 0, 0) 8))], am_hp σ, t)) rfl rfl ?_
  refine w_get rfl (hp_2 _ 0) rfl rfl ?_
  refine w_isub rfl rfl ?_
  refine w_psh rfl zc_9 rfl ?_
  exact w_icge rfl h1 (by decide) rfl w2 w3

theorem b_X10_takeNumber_44 {r1 : Int} {σ σ1 : SG} {t : KT} (c1 : Ca d 73 [aR (some (2, 0, 0)), aI (iZ (σ.1 (2, 0, 0) 8))] (am_hp σ) t (.inl (some (aI (iZ r1))), am_hp σ1, t)) (w2 : Wp k_X10_takeNumber d (67, [some (aR (some (2, 0, 0)))], [], am_hp ((sI σ1 (2, 0, 0) (up (σ1.1 (2, 0, 0)) 3 ((((σ.1 (2, 0, 0) 3) * 10) + r1) - 48)))), t) Q) : Wp k_X10_takeNumber d (44, [some (aR (some (2, 0, 0)))], [], am_hp σ, t) Q := by
  refine w_s (c' := (45, [some (aR (some (2, 0, 0)))], [aR (some (2, 0, 0))], am_hp σ, t)) rfl rfl ?_
  refine w_s (c' := (46, [some (aR (some (2, 0, 0)))], [aR (some (2, 0, 0)), aR (some (2, 0, 0))], am_hp σ, t)) rfl rfl ?_
  refine w_get rfl (hp_2 _ 0) rfl rfl ?_
  refine w_psh rfl zc_10 rfl ?_
  refine w_imul rfl rfl ?_
  refine w_s (c' := (53, [some (aR (some (2, 0, 0)))], [aR (some (2, 0, 0)), aI (iZ ((σ.1 (2, 0, 0) 3) * 10)), aR (some (2, 0, 0))], am_hp σ, t)) rfl rfl ?_
  refine w_s (c' := (54, [some (aR (some (2, 0, 0)))], [aR (some (2, 0, 0)), aR (some (2, 0, 0)), aI (iZ ((σ.1 (2, 0, 0) 3) * 10)), aR (some (2, 0, 0))], am_hp σ, t)) rfl rfl ?_
  refine w_get rfl (hp_2 _ 0) rfl rfl ?_
  refine w_c0 (c' := (60, [some (aR (some (2, 0, 0)))], [aI (iZ r1), aI (iZ ((σ.1 (2, 0, 0) 3) * 10)), aR (some (2, 0, 0))], am_hp σ1, t)) rfl rfl (rcv_of (hp_2 _ 0)) rfl c1 (Nat.le_refl _) rfl ?_
  refine w_iadd rfl rfl ?_
  refine w_psh rfl zc_48 rfl ?_
  refine w_isub rfl rfl ?_
  refine w_putI rfl (hp_2 _ 0) rfl rfl rfl ?_
  exact w2

theorem b_X10_takeNumber_67 {σ : SG} {t : KT} (w1 : Wp k_X10_takeNumber d (5, [some (aR (some (2, 0, 0)))], [], am_hp ((sI σ (2, 0, 0) (up (σ.1 (2, 0, 0)) 8 ((σ.1 (2, 0, 0) 8) + 1)))), t) Q) : Wp k_X10_takeNumber d (67, [some (aR (some (2, 0, 0)))], [], am_hp σ, t) Q := by
  refine w_s (c' := (68, [some (aR (some (2, 0, 0)))], [aR (some (2, 0, 0))], am_hp σ, t)) rfl rfl ?_
  refine w_s (c' := (69, [some (aR (some (2, 0, 0)))], [aR (some (2, 0, 0)), aR (some (2, 0, 0))], am_hp σ, t)) rfl rfl ?_
  refine w_get rfl (hp_2 _ 0) rfl rfl ?_
  refine w_psh rfl zc_1 rfl ?_
  refine w_iadd rfl rfl ?_
  refine w_putI rfl (hp_2 _ 0) rfl rfl rfl ?_
  refine w_s (c' := (5, [some (aR (some (2, 0, 0)))], [], am_hp ((sI σ (2, 0, 0) (up (σ.1 (2, 0, 0)) 8 ((σ.1 (2, 0, 0) 8) + 1)))), t)) rfl rfl ?_
  exact w1

theorem b_X10_takeNumber_80 {σ : SG} {t : KT} (h1 : -2147483648 ≤ (σ.1 (2, 0, 0) 8) - (σ.1 (2, 0, 0) 7) ∧ (σ.1 (2, 0, 0) 8) - (σ.1 (2, 0, 0) 7) < 2147483648) (w2 : (σ.1 (2, 0, 0) 8) - (σ.1 (2, 0, 0) 7) ≤ 9 → Wp k_X10_takeNumber d (100, [some (aR (some (2, 0, 0)))], [aR (some (2, 0, 0))], am_hp σ, t) Q) (w3 : 9 < (σ.1 (2, 0, 0) 8) - (σ.1 (2, 0, 0) 7) → Wp k_X10_takeNumber d (95, [some (aR (some (2, 0, 0)))], [aR (some (2, 0, 0))], am_hp σ, t) Q) : Wp k_X10_takeNumber d (80, [some (aR (some (2, 0, 0)))], [], am_hp σ, t) Q := by
  refine w_s (c' := (81, [some (aR (some (2, 0, 0)))], [aR (some (2, 0, 0))], am_hp σ, t)) rfl rfl ?_
  refine w_s (c' := (82, [some (aR (some (2, 0, 0)))], [aR (some (2, 0, 0)), aR (some (2, 0, 0))], am_hp σ, t)) rfl rfl ?_
  refine w_get rfl (hp_2 _ 0) rfl rfl ?_
  refine w_s (c' := (86, [some (aR (some (2, 0, 0)))], [aR (some (2, 0, 0)), aI (iZ (σ.1 (2, 0, 0) 8)), aR (some (2, 0, 0))], am_hp σ, t)) rfl rfl ?_
  refine w_get rfl (hp_2 _ 0) rfl rfl ?_
  refine w_isub rfl rfl ?_
  refine w_psh rfl zc_9 rfl ?_
  exact w_icle rfl h1 (by decide) rfl w2 w3

theorem b_X10_takeNumber_95 {σ : SG} {t : KT} (w1 : Wp k_X10_takeNumber d (101, [some (aR (some (2, 0, 0)))], [aI (iZ 6), aR (some (2, 0, 0))], am_hp σ, t) Q) : Wp k_X10_takeNumber d (95, [some (aR (some (2, 0, 0)))], [aR (some (2, 0, 0))], am_hp σ, t) Q := by
  refine w_psh rfl zc_6 rfl ?_
  refine w_s (c' := (101, [some (aR (some (2, 0, 0)))], [aI (iZ 6), aR (some (2, 0, 0))], am_hp σ, t)) rfl rfl ?_
  exact w1

theorem b_X10_takeNumber_100 {σ : SG} {t : KT} (w1 : Wp k_X10_takeNumber d (101, [some (aR (some (2, 0, 0)))], [aI (iZ 2), aR (some (2, 0, 0))], am_hp σ, t) Q) : Wp k_X10_takeNumber d (100, [some (aR (some (2, 0, 0)))], [aR (some (2, 0, 0))], am_hp σ, t) Q := by
  refine w_psh rfl zc_2 rfl ?_
  exact w1

theorem b_X10_takeNumber_101 {xs0 : Int} {σ : SG} {t : KT} (q1 : Q (.inl none, am_hp ((sI σ (2, 0, 0) (up (σ.1 (2, 0, 0)) 2 xs0))), t)) : Wp k_X10_takeNumber d (101, [some (aR (some (2, 0, 0)))], [aI (iZ xs0), aR (some (2, 0, 0))], am_hp σ, t) Q := by
  refine w_putI rfl (hp_2 _ 0) rfl rfl rfl ?_
  exact w_f rfl rfl q1

theorem b_X10_fail_0 {x1 : Int} {σ : SG} {t : KT} (q1 : Q (.inl (some (aI (iZ 0))), am_hp ((sI (sI σ (2, 0, 0) (up (σ.1 (2, 0, 0)) 5 x1)) (2, 0, 0) (up (((sI σ (2, 0, 0) (up (σ.1 (2, 0, 0)) 5 x1))).1 (2, 0, 0)) 6 (((sI σ (2, 0, 0) (up (σ.1 (2, 0, 0)) 5 x1))).1 (2, 0, 0) 7)))), t)) : Wp k_X10_fail d (0, [some (aR (some (2, 0, 0))), some (aI (iZ x1))], [], am_hp σ, t) Q := by
  refine w_s (c' := (1, [some (aR (some (2, 0, 0))), some (aI (iZ x1))], [aR (some (2, 0, 0))], am_hp σ, t)) rfl rfl ?_
  refine w_s (c' := (2, [some (aR (some (2, 0, 0))), some (aI (iZ x1))], [aI (iZ x1), aR (some (2, 0, 0))], am_hp σ, t)) rfl rfl ?_
  refine w_putI rfl (hp_2 _ 0) rfl rfl rfl ?_
  refine w_s (c' := (6, [some (aR (some (2, 0, 0))), some (aI (iZ x1))], [aR (some (2, 0, 0))], am_hp ((sI σ (2, 0, 0) (up (σ.1 (2, 0, 0)) 5 x1))), t)) rfl rfl ?_
  refine w_s (c' := (7, [some (aR (some (2, 0, 0))), some (aI (iZ x1))], [aR (some (2, 0, 0)), aR (some (2, 0, 0))], am_hp ((sI σ (2, 0, 0) (up (σ.1 (2, 0, 0)) 5 x1))), t)) rfl rfl ?_
  refine w_get rfl (hp_2 _ 0) rfl rfl ?_
  refine w_putI rfl (hp_2 _ 0) rfl rfl rfl ?_
  refine w_psh rfl zc_0 rfl ?_
  exact w_ret rfl (frt_b (by decide)) q1

theorem e_X10_fail {x1 : Int} {h : AH} {t : KT} {d : Nat} {P : RS → Prop} (w : Wp k_X10_fail d (0, [some (aR (some (2, 0, 0))), some (aI (iZ x1))], [], h, t) P) : ∃ r, Ca (d + 1) 83 [aR (some (2, 0, 0)), aI (iZ x1)] h t r ∧ P r := ca_W rfl rfl rfl rfl w

theorem b_X10_isWord_0 {p1 : Nat} {σ : SG} {t : KT} (h1 : -2147483648 ≤ σ.1 (2, 0, 0) 2 ∧ σ.1 (2, 0, 0) 2 < 2147483648) (w2 : σ.1 (2, 0, 0) 2 ≠ 1 → Wp k_X10_isWord d (24, [some (aR (some (2, 0, 0))), some (aR (some (94, p1, 0)))], [], am_hp σ, t) Q) (w3 : σ.1 (2, 0, 0) 2 = 1 → Wp k_X10_isWord d (8, [some (aR (some (2, 0, 0))), some (aR (some (94, p1, 0)))], [], am_hp σ, t) Q) : Wp k_X10_isWord d (0, [some (aR (some (2, 0, 0))), some (aR (some (94, p1, 0)))], [], am_hp σ, t) Q := by
  refine w_s (c' := (1, [some (aR (some (2, 0, 0))), some (aR (some (94, p1, 0)))], [aR (some (2, 0, 0))], am_hp σ, t)) rfl rfl ?_
  refine w_get rfl (hp_2 _ 0) rfl rfl ?_
  refine w_psh rfl zc_1 rfl ?_
  exact w_icne rfl h1 (by decide) rfl w2 w3

theorem e_X10_isWord {p1 : Nat} {h : AH} {t : KT} {d : Nat} {P : RS → Prop} (w : Wp k_X10_isWord d (0, [some (aR (some (2, 0, 0))), some (aR (some (94, p1, 0)))], [], h, t) P) : ∃ r, Ca (d + 1) 84 [aR (some (2, 0, 0)), aR (some (94, p1, 0))] h t r ∧ P r := ca_W rfl rfl rfl rfl w

theorem b_X10_isWord_8 {p1 : Nat} {r1 : Int} {σ σ1 : SG} {t : KT} (c1 : Ca d 150 [aR (some (94, p1, 0))] (am_hp σ) t (.inl (some (aL (jZ r1))), am_hp σ1, t)) (h2 : -2147483648 ≤ ycmp (σ.2.1 (2, 0, 0) 4) r1 ∧ ycmp (σ.2.1 (2, 0, 0) 4) r1 < 2147483648) (w3 : ycmp (σ.2.1 (2, 0, 0) 4) r1 ≠ 0 → Wp k_X10_isWord d (24, [some (aR (some (2, 0, 0))), some (aR (some (94, p1, 0)))], [], am_hp σ1, t) Q) (w4 : ycmp (σ.2.1 (2, 0, 0) 4) r1 = 0 → Wp k_X10_isWord d (20, [some (aR (some (2, 0, 0))), some (aR (some (94, p1, 0)))], [], am_hp σ1, t) Q) : Wp k_X10_isWord d (8, [some (aR (some (2, 0, 0))), some (aR (some (94, p1, 0)))], [], am_hp σ, t) Q := by
  refine w_s (c' := (9, [some (aR (some (2, 0, 0))), some (aR (some (94, p1, 0)))], [aR (some (2, 0, 0))], am_hp σ, t)) rfl rfl ?_
  refine w_get rfl (hp_2 _ 0) rfl rfl ?_
  refine w_s (c' := (13, [some (aR (some (2, 0, 0))), some (aR (some (94, p1, 0)))], [aR (some (94, p1, 0)), aL (jZ (σ.2.1 (2, 0, 0) 4))], am_hp σ, t)) rfl rfl ?_
  refine w_c0 (c' := (16, [some (aR (some (2, 0, 0))), some (aR (some (94, p1, 0)))], [aL (jZ r1), aL (jZ (σ.2.1 (2, 0, 0) 4))], am_hp σ1, t)) rfl rfl rfl rfl c1 (Nat.le_refl _) rfl ?_
  refine w_lcmp rfl rfl ?_
  exact w_ifne rfl h2 rfl w3 w4

theorem b_X10_isWord_20 {p1 : Nat} {σ : SG} {t : KT} (w1 : Wp k_X10_isWord d (25, [some (aR (some (2, 0, 0))), some (aR (some (94, p1, 0)))], [aI (iZ 1)], am_hp σ, t) Q) : Wp k_X10_isWord d (20, [some (aR (some (2, 0, 0))), some (aR (some (94, p1, 0)))], [], am_hp σ, t) Q := by
  refine w_psh rfl zc_1 rfl ?_
  refine w_s (c' := (25, [some (aR (some (2, 0, 0))), some (aR (some (94, p1, 0)))], [aI (iZ 1)], am_hp σ, t)) rfl rfl ?_
  exact w1

theorem b_X10_isWord_24 {p1 : Nat} {σ : SG} {t : KT} (w1 : Wp k_X10_isWord d (25, [some (aR (some (2, 0, 0))), some (aR (some (94, p1, 0)))], [aI (iZ 0)], am_hp σ, t) Q) : Wp k_X10_isWord d (24, [some (aR (some (2, 0, 0))), some (aR (some (94, p1, 0)))], [], am_hp σ, t) Q := by
  refine w_psh rfl zc_0 rfl ?_
  exact w1

theorem b_X10_isWord_25 {p1 : Nat} {xs0 : Int} {σ : SG} {t : KT} (h1 : xs0 = 0 ∨ xs0 = 1) (q2 : Q (.inl (some (aI (iZ xs0))), am_hp σ, t)) : Wp k_X10_isWord d (25, [some (aR (some (2, 0, 0))), some (aR (some (94, p1, 0)))], [aI (iZ xs0)], am_hp σ, t) Q := by
  exact w_ret rfl (frt_b h1) q2

theorem b_X10_sees_0 {x1 : Int} {σ : SG} {t : KT} (h1 : -2147483648 ≤ σ.1 (2, 0, 0) 2 ∧ σ.1 (2, 0, 0) 2 < 2147483648) (h2 : -2147483648 ≤ x1 ∧ x1 < 2147483648) (w3 : σ.1 (2, 0, 0) 2 = x1 → Wp k_X10_sees d (16, [some (aR (some (2, 0, 0))), some (aI (iZ x1))], [], am_hp σ, t) Q) (w4 : σ.1 (2, 0, 0) 2 ≠ x1 → Wp k_X10_sees d (8, [some (aR (some (2, 0, 0))), some (aI (iZ x1))], [], am_hp σ, t) Q) : Wp k_X10_sees d (0, [some (aR (some (2, 0, 0))), some (aI (iZ x1))], [], am_hp σ, t) Q := by
  refine w_s (c' := (1, [some (aR (some (2, 0, 0))), some (aI (iZ x1))], [aR (some (2, 0, 0))], am_hp σ, t)) rfl rfl ?_
  refine w_get rfl (hp_2 _ 0) rfl rfl ?_
  refine w_s (c' := (5, [some (aR (some (2, 0, 0))), some (aI (iZ x1))], [aI (iZ x1), aI (iZ (σ.1 (2, 0, 0) 2))], am_hp σ, t)) rfl rfl ?_
  exact w_iceq rfl h1 h2 rfl w3 w4

theorem e_X10_sees {x1 : Int} {h : AH} {t : KT} {d : Nat} {P : RS → Prop} (w : Wp k_X10_sees d (0, [some (aR (some (2, 0, 0))), some (aI (iZ x1))], [], h, t) P) : ∃ r, Ca (d + 1) 85 [aR (some (2, 0, 0)), aI (iZ x1)] h t r ∧ P r := ca_W rfl rfl rfl rfl w

theorem b_X10_sees_8 {x1 : Int} {r1 : Int} {σ σ1 : SG} {t : KT} (c1 : Ca d 83 [aR (some (2, 0, 0)), aI (iZ 1)] (am_hp σ) t (.inl (some (aI (iZ r1))), am_hp σ1, t)) (h2 : -2147483648 ≤ r1 ∧ r1 < 2147483648) (w3 : r1 = 0 → Wp k_X10_sees d (20, [some (aR (some (2, 0, 0))), some (aI (iZ x1))], [], am_hp σ1, t) Q) (w4 : r1 ≠ 0 → Wp k_X10_sees d (16, [some (aR (some (2, 0, 0))), some (aI (iZ x1))], [], am_hp σ1, t) Q) : Wp k_X10_sees d (8, [some (aR (some (2, 0, 0))), some (aI (iZ x1))], [], am_hp σ, t) Q := by
  refine w_s (c' := (9, [some (aR (some (2, 0, 0))), some (aI (iZ x1))], [aR (some (2, 0, 0))], am_hp σ, t)) rfl rfl ?_
  refine w_psh rfl zc_1 rfl ?_
  refine w_c0 (c' := (13, [some (aR (some (2, 0, 0))), some (aI (iZ x1))], [aI (iZ r1)], am_hp σ1, t)) rfl rfl (rcv_of (hp_2 _ 0)) rfl c1 (Nat.le_refl _) rfl ?_
  exact w_ifeq rfl h2 rfl w3 w4

theorem b_X10_sees_16 {x1 : Int} {σ : SG} {t : KT} (w1 : Wp k_X10_sees d (21, [some (aR (some (2, 0, 0))), some (aI (iZ x1))], [aI (iZ 1)], am_hp σ, t) Q) : Wp k_X10_sees d (16, [some (aR (some (2, 0, 0))), some (aI (iZ x1))], [], am_hp σ, t) Q := by
  refine w_psh rfl zc_1 rfl ?_
  refine w_s (c' := (21, [some (aR (some (2, 0, 0))), some (aI (iZ x1))], [aI (iZ 1)], am_hp σ, t)) rfl rfl ?_
  exact w1

theorem b_X10_sees_20 {x1 : Int} {σ : SG} {t : KT} (w1 : Wp k_X10_sees d (21, [some (aR (some (2, 0, 0))), some (aI (iZ x1))], [aI (iZ 0)], am_hp σ, t) Q) : Wp k_X10_sees d (20, [some (aR (some (2, 0, 0))), some (aI (iZ x1))], [], am_hp σ, t) Q := by
  refine w_psh rfl zc_0 rfl ?_
  exact w1

theorem b_X10_sees_21 {x1 : Int} {xs0 : Int} {σ : SG} {t : KT} (h1 : xs0 = 0 ∨ xs0 = 1) (q2 : Q (.inl (some (aI (iZ xs0))), am_hp σ, t)) : Wp k_X10_sees d (21, [some (aR (some (2, 0, 0))), some (aI (iZ x1))], [aI (iZ xs0)], am_hp σ, t) Q := by
  exact w_ret rfl (frt_b h1) q2

theorem b_X10_seesNumber_0 {x1 : Int} {x2 : Int} {r1 : Int} {σ σ1 : SG} {t : KT} (c1 : Ca d 85 [aR (some (2, 0, 0)), aI (iZ 2)] (am_hp σ) t (.inl (some (aI (iZ r1))), am_hp σ1, t)) (h2 : -2147483648 ≤ r1 ∧ r1 < 2147483648) (w3 : r1 ≠ 0 → Wp k_X10_seesNumber d (10, [some (aR (some (2, 0, 0))), some (aI (iZ x1)), some (aI (iZ x2))], [], am_hp σ1, t) Q) (w4 : r1 = 0 → Wp k_X10_seesNumber d (8, [some (aR (some (2, 0, 0))), some (aI (iZ x1)), some (aI (iZ x2))], [], am_hp σ1, t) Q) : Wp k_X10_seesNumber d (0, [some (aR (some (2, 0, 0))), some (aI (iZ x1)), some (aI (iZ x2))], [], am_hp σ, t) Q := by
  refine w_s (c' := (1, [some (aR (some (2, 0, 0))), some (aI (iZ x1)), some (aI (iZ x2))], [aR (some (2, 0, 0))], am_hp σ, t)) rfl rfl ?_
  refine w_psh rfl zc_2 rfl ?_
  refine w_c0 (c' := (5, [some (aR (some (2, 0, 0))), some (aI (iZ x1)), some (aI (iZ x2))], [aI (iZ r1)], am_hp σ1, t)) rfl rfl (rcv_of (hp_2 _ 0)) rfl c1 (Nat.le_refl _) rfl ?_
  exact w_ifne rfl h2 rfl w3 w4

theorem e_X10_seesNumber {x1 : Int} {x2 : Int} {h : AH} {t : KT} {d : Nat} {P : RS → Prop} (w : Wp k_X10_seesNumber d (0, [some (aR (some (2, 0, 0))), some (aI (iZ x1)), some (aI (iZ x2))], [], h, t) P) : ∃ r, Ca (d + 1) 86 [aR (some (2, 0, 0)), aI (iZ x1), aI (iZ x2)] h t r ∧ P r := ca_W rfl rfl rfl rfl w

theorem b_X10_seesNumber_8 {x1 : Int} {x2 : Int} {σ : SG} {t : KT} (q1 : Q (.inl (some (aI (iZ 0))), am_hp σ, t)) : Wp k_X10_seesNumber d (8, [some (aR (some (2, 0, 0))), some (aI (iZ x1)), some (aI (iZ x2))], [], am_hp σ, t) Q := by
  refine w_psh rfl zc_0 rfl ?_
  exact w_ret rfl (frt_b (by decide)) q1

theorem b_X10_seesNumber_10 {x1 : Int} {x2 : Int} {σ : SG} {t : KT} (h1 : -2147483648 ≤ σ.1 (2, 0, 0) 3 ∧ σ.1 (2, 0, 0) 3 < 2147483648) (h2 : -2147483648 ≤ x1 ∧ x1 < 2147483648) (w3 : σ.1 (2, 0, 0) 3 < x1 → Wp k_X10_seesNumber d (26, [some (aR (some (2, 0, 0))), some (aI (iZ x1)), some (aI (iZ x2))], [], am_hp σ, t) Q) (w4 : x1 ≤ σ.1 (2, 0, 0) 3 → Wp k_X10_seesNumber d (18, [some (aR (some (2, 0, 0))), some (aI (iZ x1)), some (aI (iZ x2))], [], am_hp σ, t) Q) : Wp k_X10_seesNumber d (10, [some (aR (some (2, 0, 0))), some (aI (iZ x1)), some (aI (iZ x2))], [], am_hp σ, t) Q := by
  refine w_s (c' := (11, [some (aR (some (2, 0, 0))), some (aI (iZ x1)), some (aI (iZ x2))], [aR (some (2, 0, 0))], am_hp σ, t)) rfl rfl ?_
  refine w_get rfl (hp_2 _ 0) rfl rfl ?_
  refine w_s (c' := (15, [some (aR (some (2, 0, 0))), some (aI (iZ x1)), some (aI (iZ x2))], [aI (iZ x1), aI (iZ (σ.1 (2, 0, 0) 3))], am_hp σ, t)) rfl rfl ?_
  exact w_iclt rfl h1 h2 rfl w3 w4

theorem b_X10_seesNumber_18 {x1 : Int} {x2 : Int} {σ : SG} {t : KT} (h1 : -2147483648 ≤ σ.1 (2, 0, 0) 3 ∧ σ.1 (2, 0, 0) 3 < 2147483648) (h2 : -2147483648 ≤ x2 ∧ x2 < 2147483648) (w3 : σ.1 (2, 0, 0) 3 ≤ x2 → Wp k_X10_seesNumber d (34, [some (aR (some (2, 0, 0))), some (aI (iZ x1)), some (aI (iZ x2))], [], am_hp σ, t) Q) (w4 : x2 < σ.1 (2, 0, 0) 3 → Wp k_X10_seesNumber d (26, [some (aR (some (2, 0, 0))), some (aI (iZ x1)), some (aI (iZ x2))], [], am_hp σ, t) Q) : Wp k_X10_seesNumber d (18, [some (aR (some (2, 0, 0))), some (aI (iZ x1)), some (aI (iZ x2))], [], am_hp σ, t) Q := by
  refine w_s (c' := (19, [some (aR (some (2, 0, 0))), some (aI (iZ x1)), some (aI (iZ x2))], [aR (some (2, 0, 0))], am_hp σ, t)) rfl rfl ?_
  refine w_get rfl (hp_2 _ 0) rfl rfl ?_
  refine w_s (c' := (23, [some (aR (some (2, 0, 0))), some (aI (iZ x1)), some (aI (iZ x2))], [aI (iZ x2), aI (iZ (σ.1 (2, 0, 0) 3))], am_hp σ, t)) rfl rfl ?_
  exact w_icle rfl h1 h2 rfl w3 w4

theorem b_X10_seesNumber_26 {x1 : Int} {x2 : Int} {r1 : Int} {σ σ1 : SG} {t : KT} (c1 : Ca d 83 [aR (some (2, 0, 0)), aI (iZ 2)] (am_hp σ) t (.inl (some (aI (iZ r1))), am_hp σ1, t)) (h2 : -2147483648 ≤ r1 ∧ r1 < 2147483648) (w3 : r1 = 0 → Wp k_X10_seesNumber d (38, [some (aR (some (2, 0, 0))), some (aI (iZ x1)), some (aI (iZ x2))], [], am_hp σ1, t) Q) (w4 : r1 ≠ 0 → Wp k_X10_seesNumber d (34, [some (aR (some (2, 0, 0))), some (aI (iZ x1)), some (aI (iZ x2))], [], am_hp σ1, t) Q) : Wp k_X10_seesNumber d (26, [some (aR (some (2, 0, 0))), some (aI (iZ x1)), some (aI (iZ x2))], [], am_hp σ, t) Q := by
  refine w_s (c' := (27, [some (aR (some (2, 0, 0))), some (aI (iZ x1)), some (aI (iZ x2))], [aR (some (2, 0, 0))], am_hp σ, t)) rfl rfl ?_
  refine w_psh rfl zc_2 rfl ?_
  refine w_c0 (c' := (31, [some (aR (some (2, 0, 0))), some (aI (iZ x1)), some (aI (iZ x2))], [aI (iZ r1)], am_hp σ1, t)) rfl rfl (rcv_of (hp_2 _ 0)) rfl c1 (Nat.le_refl _) rfl ?_
  exact w_ifeq rfl h2 rfl w3 w4

theorem b_X10_seesNumber_34 {x1 : Int} {x2 : Int} {σ : SG} {t : KT} (w1 : Wp k_X10_seesNumber d (39, [some (aR (some (2, 0, 0))), some (aI (iZ x1)), some (aI (iZ x2))], [aI (iZ 1)], am_hp σ, t) Q) : Wp k_X10_seesNumber d (34, [some (aR (some (2, 0, 0))), some (aI (iZ x1)), some (aI (iZ x2))], [], am_hp σ, t) Q := by
  refine w_psh rfl zc_1 rfl ?_
  refine w_s (c' := (39, [some (aR (some (2, 0, 0))), some (aI (iZ x1)), some (aI (iZ x2))], [aI (iZ 1)], am_hp σ, t)) rfl rfl ?_
  exact w1

theorem b_X10_seesNumber_38 {x1 : Int} {x2 : Int} {σ : SG} {t : KT} (w1 : Wp k_X10_seesNumber d (39, [some (aR (some (2, 0, 0))), some (aI (iZ x1)), some (aI (iZ x2))], [aI (iZ 0)], am_hp σ, t) Q) : Wp k_X10_seesNumber d (38, [some (aR (some (2, 0, 0))), some (aI (iZ x1)), some (aI (iZ x2))], [], am_hp σ, t) Q := by
  refine w_psh rfl zc_0 rfl ?_
  exact w1

theorem b_X10_seesNumber_39 {x1 : Int} {x2 : Int} {xs0 : Int} {σ : SG} {t : KT} (h1 : xs0 = 0 ∨ xs0 = 1) (q2 : Q (.inl (some (aI (iZ xs0))), am_hp σ, t)) : Wp k_X10_seesNumber d (39, [some (aR (some (2, 0, 0))), some (aI (iZ x1)), some (aI (iZ x2))], [aI (iZ xs0)], am_hp σ, t) Q := by
  exact w_ret rfl (frt_b h1) q2

theorem b_X10_passes_0 {x1 : Int} {r1 : Int} {σ σ1 : SG} {t : KT} (c1 : Ca d 85 [aR (some (2, 0, 0)), aI (iZ x1)] (am_hp σ) t (.inl (some (aI (iZ r1))), am_hp σ1, t)) (h2 : -2147483648 ≤ r1 ∧ r1 < 2147483648) (w3 : r1 ≠ 0 → Wp k_X10_passes d (10, [some (aR (some (2, 0, 0))), some (aI (iZ x1))], [], am_hp σ1, t) Q) (w4 : r1 = 0 → Wp k_X10_passes d (8, [some (aR (some (2, 0, 0))), some (aI (iZ x1))], [], am_hp σ1, t) Q) : Wp k_X10_passes d (0, [some (aR (some (2, 0, 0))), some (aI (iZ x1))], [], am_hp σ, t) Q := by
  refine w_s (c' := (1, [some (aR (some (2, 0, 0))), some (aI (iZ x1))], [aR (some (2, 0, 0))], am_hp σ, t)) rfl rfl ?_
  refine w_s (c' := (2, [some (aR (some (2, 0, 0))), some (aI (iZ x1))], [aI (iZ x1), aR (some (2, 0, 0))], am_hp σ, t)) rfl rfl ?_
  refine w_c0 (c' := (5, [some (aR (some (2, 0, 0))), some (aI (iZ x1))], [aI (iZ r1)], am_hp σ1, t)) rfl rfl (rcv_of (hp_2 _ 0)) rfl c1 (Nat.le_refl _) rfl ?_
  exact w_ifne rfl h2 rfl w3 w4

theorem e_X10_passes {x1 : Int} {h : AH} {t : KT} {d : Nat} {P : RS → Prop} (w : Wp k_X10_passes d (0, [some (aR (some (2, 0, 0))), some (aI (iZ x1))], [], h, t) P) : ∃ r, Ca (d + 1) 87 [aR (some (2, 0, 0)), aI (iZ x1)] h t r ∧ P r := ca_W rfl rfl rfl rfl w

theorem b_X10_passes_8 {x1 : Int} {σ : SG} {t : KT} (q1 : Q (.inl (some (aI (iZ 0))), am_hp σ, t)) : Wp k_X10_passes d (8, [some (aR (some (2, 0, 0))), some (aI (iZ x1))], [], am_hp σ, t) Q := by
  refine w_psh rfl zc_0 rfl ?_
  exact w_ret rfl (frt_b (by decide)) q1

theorem b_X10_passes_10 {x1 : Int} {σ σ1 : SG} {t : KT} (c1 : Ca d 79 [aR (some (2, 0, 0))] (am_hp σ) t (.inl none, am_hp σ1, t)) (q2 : Q (.inl (some (aI (iZ 1))), am_hp σ1, t)) : Wp k_X10_passes d (10, [some (aR (some (2, 0, 0))), some (aI (iZ x1))], [], am_hp σ, t) Q := by
  refine w_s (c' := (11, [some (aR (some (2, 0, 0))), some (aI (iZ x1))], [aR (some (2, 0, 0))], am_hp σ, t)) rfl rfl ?_
  refine w_c0 (c' := (14, [some (aR (some (2, 0, 0))), some (aI (iZ x1))], [], am_hp σ1, t)) rfl rfl (rcv_of (hp_2 _ 0)) rfl c1 (Nat.le_refl _) rfl ?_
  refine w_psh rfl zc_1 rfl ?_
  exact w_ret rfl (frt_b (by decide)) q2
end PCS
