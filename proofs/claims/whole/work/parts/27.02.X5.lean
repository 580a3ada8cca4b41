/-! PIECES: X5 -/
set_option maxRecDepth 4000
section PCS
variable {d : Nat} {Q : RS → Prop}
theorem b_X5_load_0 {p1 : Nat} {x2 : Int} {σ σ1 : SG} {t : KT} (c1 : Ca d 23 [aR (some (18, 0, 0)), aR (some (8, p1, 0)), aI (iZ x2)] (am_hp ((sI σ (18, 0, 0) (up (σ.1 (18, 0, 0)) 6 0)))) t (.inl none, am_hp σ1, t)) (q2 : Q (.inl none, am_hp σ1, t)) : Wp k_X5_load d (0, [some (aR (some (18, 0, 0))), some (aR (some (8, p1, 0))), some (aI (iZ x2))], [], am_hp σ, t) Q := by
  refine w_s (c' := (1, [some (aR (some (18, 0, 0))), some (aR (some (8, p1, 0))), some (aI (iZ x2))], [aR (some (18, 0, 0))], am_hp σ, t)) rfl rfl ?_
  refine w_psh rfl zc_0 rfl ?_
  refine w_putI rfl (hp_18 _ 0) rfl rfl rfl ?_
  refine w_s (c' := (6, [some (aR (some (18, 0, 0))), some (aR (some (8, p1, 0))), some (aI (iZ x2))], [aR (some (18, 0, 0))], am_hp ((sI σ (18, 0, 0) (up (σ.1 (18, 0, 0)) 6 0))), t)) rfl rfl ?_
  refine w_s (c' := (7, [some (aR (some (18, 0, 0))), some (aR (some (8, p1, 0))), some (aI (iZ x2))], [aR (some (8, p1, 0)), aR (some (18, 0, 0))], am_hp ((sI σ (18, 0, 0) (up (σ.1 (18, 0, 0)) 6 0))), t)) rfl rfl ?_
  refine w_s (c' := (8, [some (aR (some (18, 0, 0))), some (aR (some (8, p1, 0))), some (aI (iZ x2))], [aI (iZ x2), aR (some (8, p1, 0)), aR (some (18, 0, 0))], am_hp ((sI σ (18, 0, 0) (up (σ.1 (18, 0, 0)) 6 0))), t)) rfl rfl ?_
  refine w_c0 (c' := (11, [some (aR (some (18, 0, 0))), some (aR (some (8, p1, 0))), some (aI (iZ x2))], [], am_hp σ1, t)) rfl rfl (rcv_of (hp_18 _ 0)) rfl c1 (Nat.le_refl _) rfl ?_
  exact w_f rfl rfl q2

theorem e_X5_load {p1 : Nat} {x2 : Int} {h : AH} {t : KT} {d : Nat} {P : RS → Prop} (w : Wp k_X5_load d (0, [some (aR (some (18, 0, 0))), some (aR (some (8, p1, 0))), some (aI (iZ x2))], [], h, t) P) : ∃ r, Ca (d + 1) 22 [aR (some (18, 0, 0)), aR (some (8, p1, 0)), aI (iZ x2)] h t r ∧ P r := ca_W rfl rfl rfl rfl w

theorem b_X5_loadBehind_0 {p1 : Nat} {x2 : Int} {r1 : Int} {σ σ1 : SG} {t : KT} (c1 : Ca d 44 [aR (some (8, p1, 0)), aI (iZ x2)] (am_hp σ) t (.inl (some (aI (iZ r1))), am_hp σ1, t)) (h2 : -2147483648 ≤ r1 ∧ r1 < 2147483648) (h3 : -2147483648 ≤ 120 - (σ1.1 (18, 0, 0) 6) ∧ 120 - (σ1.1 (18, 0, 0) 6) < 2147483648) (h4 : -2147483648 ≤ min r1 (120 - (σ1.1 (18, 0, 0) 6)) ∧ min r1 (120 - (σ1.1 (18, 0, 0) 6)) < 2147483648) (w5 : min r1 (120 - (σ1.1 (18, 0, 0) 6)) ≤ 0 → Wp k_X5_loadBehind d (49, [some (aR (some (18, 0, 0))), some (aR (some (8, p1, 0))), some (aI (iZ x2)), some (aI (iZ (min r1 (120 - (σ1.1 (18, 0, 0) 6)))))], [], am_hp σ1, t) Q) (w6 : 0 < min r1 (120 - (σ1.1 (18, 0, 0) 6)) → Wp k_X5_loadBehind d (20, [some (aR (some (18, 0, 0))), some (aR (some (8, p1, 0))), some (aI (iZ x2)), some (aI (iZ (min r1 (120 - (σ1.1 (18, 0, 0) 6)))))], [], am_hp σ1, t) Q) : Wp k_X5_loadBehind d (0, [some (aR (some (18, 0, 0))), some (aR (some (8, p1, 0))), some (aI (iZ x2)), none], [], am_hp σ, t) Q := by
  refine w_s (c' := (1, [some (aR (some (18, 0, 0))), some (aR (some (8, p1, 0))), some (aI (iZ x2)), none], [aR (some (8, p1, 0))], am_hp σ, t)) rfl rfl ?_
  refine w_s (c' := (2, [some (aR (some (18, 0, 0))), some (aR (some (8, p1, 0))), some (aI (iZ x2)), none], [aI (iZ x2), aR (some (8, p1, 0))], am_hp σ, t)) rfl rfl ?_
  refine w_c0 (c' := (5, [some (aR (some (18, 0, 0))), some (aR (some (8, p1, 0))), some (aI (iZ x2)), none], [aI (iZ r1)], am_hp σ1, t)) rfl rfl (rcv_of (hp_8 _ p1)) rfl c1 (Nat.le_refl _) rfl ?_
  refine w_psh rfl zc_120 rfl ?_
  refine w_s (c' := (8, [some (aR (some (18, 0, 0))), some (aR (some (8, p1, 0))), some (aI (iZ x2)), none], [aR (some (18, 0, 0)), aI (iZ 120), aI (iZ r1)], am_hp σ1, t)) rfl rfl ?_
  refine w_get rfl (hp_18 _ 0) rfl rfl ?_
  refine w_isub rfl rfl ?_
  refine w_min rfl h2 h3 rfl rfl ?_
  refine w_s (c' := (16, [some (aR (some (18, 0, 0))), some (aR (some (8, p1, 0))), some (aI (iZ x2)), some (aI (iZ (min r1 (120 - (σ1.1 (18, 0, 0) 6)))))], [], am_hp σ1, t)) rfl rfl ?_
  refine w_s (c' := (17, [some (aR (some (18, 0, 0))), some (aR (some (8, p1, 0))), some (aI (iZ x2)), some (aI (iZ (min r1 (120 - (σ1.1 (18, 0, 0) 6)))))], [aI (iZ (min r1 (120 - (σ1.1 (18, 0, 0) 6))))], am_hp σ1, t)) rfl rfl ?_
  exact w_ifle rfl h4 rfl w5 w6

theorem e_X5_loadBehind {p1 : Nat} {x2 : Int} {h : AH} {t : KT} {d : Nat} {P : RS → Prop} (w : Wp k_X5_loadBehind d (0, [some (aR (some (18, 0, 0))), some (aR (some (8, p1, 0))), some (aI (iZ x2)), none], [], h, t) P) : ∃ r, Ca (d + 1) 23 [aR (some (18, 0, 0)), aR (some (8, p1, 0)), aI (iZ x2)] h t r ∧ P r := ca_W rfl rfl rfl rfl w

theorem b_X5_loadBehind_20 {p1 : Nat} {x2 : Int} {x3 : Int} {σ : SG} {t : KT} (h1 : 0 ≤ x2 ∧ x2 < 4) (h2 : (0 : Int) ≤ 0 ∧ (0 : Int) ≤ σ.1 (18, 0, 0) 6 ∧ (0 : Int) ≤ x3 ∧ (0 : Int) + x3 ≤ 60 ∧ (σ.1 (18, 0, 0) 6 : Int) + x3 ≤ 120) (w3 : Wp k_X5_loadBehind d (49, [some (aR (some (18, 0, 0))), some (aR (some (8, p1, 0))), some (aI (iZ x2)), some (aI (iZ x3))], [], am_hp ((sI (sI σ (19, 0, 0) (cpy (σ.1 (12, p1, x2.toNat)) (σ.1 (19, 0, 0)) (0 : Int).toNat (σ.1 (18, 0, 0) 6).toNat x3.toNat)) (18, 0, 0) (up (((sI σ (19, 0, 0) (cpy (σ.1 (12, p1, x2.toNat)) (σ.1 (19, 0, 0)) (0 : Int).toNat (σ.1 (18, 0, 0) 6).toNat x3.toNat))).1 (18, 0, 0)) 6 ((((sI σ (19, 0, 0) (cpy (σ.1 (12, p1, x2.toNat)) (σ.1 (19, 0, 0)) (0 : Int).toNat (σ.1 (18, 0, 0) 6).toNat x3.toNat))).1 (18, 0, 0) 6) + x3)))), t) Q) : Wp k_X5_loadBehind d (20, [some (aR (some (18, 0, 0))), some (aR (some (8, p1, 0))), some (aI (iZ x2)), some (aI (iZ x3))], [], am_hp σ, t) Q := by
  refine w_s (c' := (21, [some (aR (some (18, 0, 0))), some (aR (some (8, p1, 0))), some (aI (iZ x2)), some (aI (iZ x3))], [aR (some (8, p1, 0))], am_hp σ, t)) rfl rfl ?_
  refine w_get rfl (hp_8 _ p1) rfl rfl ?_
  refine w_s (c' := (25, [some (aR (some (18, 0, 0))), some (aR (some (8, p1, 0))), some (aI (iZ x2)), some (aI (iZ x3))], [aI (iZ x2), aR (some (11, p1, 0))], am_hp σ, t)) rfl rfl ?_
  refine w_aal rfl (hp_11 _ p1) h1 rfl rfl ?_
  refine w_psh rfl zc_0 rfl ?_
  refine w_s (c' := (28, [some (aR (some (18, 0, 0))), some (aR (some (8, p1, 0))), some (aI (iZ x2)), some (aI (iZ x3))], [aR (some (18, 0, 0)), aI (iZ 0), aR (some (12, p1, x2.toNat))], am_hp σ, t)) rfl rfl ?_
  refine w_get rfl (hp_18 _ 0) rfl rfl ?_
  refine w_s (c' := (32, [some (aR (some (18, 0, 0))), some (aR (some (8, p1, 0))), some (aI (iZ x2)), some (aI (iZ x3))], [aR (some (18, 0, 0)), aR (some (19, 0, 0)), aI (iZ 0), aR (some (12, p1, x2.toNat))], am_hp σ, t)) rfl rfl ?_
  refine w_get rfl (hp_18 _ 0) rfl rfl ?_
  refine w_s (c' := (36, [some (aR (some (18, 0, 0))), some (aR (some (8, p1, 0))), some (aI (iZ x2)), some (aI (iZ x3))], [aI (iZ x3), aI (iZ (σ.1 (18, 0, 0) 6)), aR (some (19, 0, 0)), aI (iZ 0), aR (some (12, p1, x2.toNat))], am_hp σ, t)) rfl rfl ?_
  refine w_cpi rfl (hp_12 _ p1 x2.toNat) (mk_19 _ 0 0) h2 ⟨rfl, rfl⟩ ⟨rfl, rfl⟩ rfl rfl ?_
  refine w_s (c' := (40, [some (aR (some (18, 0, 0))), some (aR (some (8, p1, 0))), some (aI (iZ x2)), some (aI (iZ x3))], [aR (some (18, 0, 0))], am_hp ((sI σ (19, 0, 0) (cpy (σ.1 (12, p1, x2.toNat)) (σ.1 (19, 0, 0)) (0 : Int).toNat (σ.1 (18, 0, 0) 6).toNat x3.toNat))), t)) rfl rfl ?_
  refine w_s (c' := (41, [some (aR (some (18, 0, 0))), some (aR (some (8, p1, 0))), some (aI (iZ x2)), some (aI (iZ x3))], [aR (some (18, 0, 0)), aR (some (18, 0, 0))], am_hp ((sI σ (19, 0, 0) (cpy (σ.1 (12, p1, x2.toNat)) (σ.1 (19, 0, 0)) (0 : Int).toNat (σ.1 (18, 0, 0) 6).toNat x3.toNat))), t)) rfl rfl ?_
  refine w_get rfl (hp_18 _ 0) rfl rfl ?_
  refine w_s (c' := (45, [some (aR (some (18, 0, 0))), some (aR (some (8, p1, 0))), some (aI (iZ x2)), some (aI (iZ x3))], [aI (iZ x3), aI (iZ (((sI σ (19, 0, 0) (cpy (σ.1 (12, p1, x2.toNat)) (σ.1 (19, 0, 0)) (0 : Int).toNat (σ.1 (18, 0, 0) 6).toNat x3.toNat))).1 (18, 0, 0) 6)), aR (some (18, 0, 0))], am_hp ((sI σ (19, 0, 0) (cpy (σ.1 (12, p1, x2.toNat)) (σ.1 (19, 0, 0)) (0 : Int).toNat (σ.1 (18, 0, 0) 6).toNat x3.toNat))), t)) rfl rfl ?_
  refine w_iadd rfl rfl ?_
  refine w_putI rfl (hp_18 _ 0) rfl rfl rfl ?_
  exact w3

theorem b_X5_loadBehind_49 {p1 : Nat} {x2 : Int} {x3 : Int} {σ : SG} {t : KT} (q1 : Q (.inl none, am_hp σ, t)) : Wp k_X5_loadBehind d (49, [some (aR (some (18, 0, 0))), some (aR (some (8, p1, 0))), some (aI (iZ x2)), some (aI (iZ x3))], [], am_hp σ, t) Q := by
  exact w_f rfl rfl q1

theorem b_X5_replace_0 {x1 : Int} {x2 : Int} {σ : SG} {t : KT} (h1 : -2147483648 ≤ x1 ∧ x1 < 2147483648) (w2 : x1 < 0 → Wp k_X5_replace d (19, [some (aR (some (18, 0, 0))), some (aI (iZ x1)), some (aI (iZ x2))], [], am_hp σ, t) Q) (w3 : 0 ≤ x1 → Wp k_X5_replace d (4, [some (aR (some (18, 0, 0))), some (aI (iZ x1)), some (aI (iZ x2))], [], am_hp σ, t) Q) : Wp k_X5_replace d (0, [some (aR (some (18, 0, 0))), some (aI (iZ x1)), some (aI (iZ x2))], [], am_hp σ, t) Q := by
  refine w_s (c' := (1, [some (aR (some (18, 0, 0))), some (aI (iZ x1)), some (aI (iZ x2))], [aI (iZ x1)], am_hp σ, t)) rfl rfl ?_
  exact w_iflt rfl h1 rfl w2 w3

theorem e_X5_replace {x1 : Int} {x2 : Int} {h : AH} {t : KT} {d : Nat} {P : RS → Prop} (w : Wp k_X5_replace d (0, [some (aR (some (18, 0, 0))), some (aI (iZ x1)), some (aI (iZ x2))], [], h, t) P) : ∃ r, Ca (d + 1) 24 [aR (some (18, 0, 0)), aI (iZ x1), aI (iZ x2)] h t r ∧ P r := ca_W rfl rfl rfl rfl w

theorem b_X5_replace_4 {x1 : Int} {x2 : Int} {σ : SG} {t : KT} (h1 : -2147483648 ≤ x1 ∧ x1 < 2147483648) (h2 : -2147483648 ≤ σ.1 (18, 0, 0) 6 ∧ σ.1 (18, 0, 0) 6 < 2147483648) (w3 : σ.1 (18, 0, 0) 6 ≤ x1 → Wp k_X5_replace d (19, [some (aR (some (18, 0, 0))), some (aI (iZ x1)), some (aI (iZ x2))], [], am_hp σ, t) Q) (w4 : x1 < σ.1 (18, 0, 0) 6 → Wp k_X5_replace d (12, [some (aR (some (18, 0, 0))), some (aI (iZ x1)), some (aI (iZ x2))], [], am_hp σ, t) Q) : Wp k_X5_replace d (4, [some (aR (some (18, 0, 0))), some (aI (iZ x1)), some (aI (iZ x2))], [], am_hp σ, t) Q := by
  refine w_s (c' := (5, [some (aR (some (18, 0, 0))), some (aI (iZ x1)), some (aI (iZ x2))], [aI (iZ x1)], am_hp σ, t)) rfl rfl ?_
  refine w_s (c' := (6, [some (aR (some (18, 0, 0))), some (aI (iZ x1)), some (aI (iZ x2))], [aR (some (18, 0, 0)), aI (iZ x1)], am_hp σ, t)) rfl rfl ?_
  refine w_get rfl (hp_18 _ 0) rfl rfl ?_
  exact w_icge rfl h1 h2 rfl w3 w4

theorem b_X5_replace_12 {x1 : Int} {x2 : Int} {σ : SG} {t : KT} (h1 : 0 ≤ x1 ∧ x1 < 120) (w2 : Wp k_X5_replace d (19, [some (aR (some (18, 0, 0))), some (aI (iZ x1)), some (aI (iZ x2))], [], am_hp ((sI σ (19, 0, 0) (up (σ.1 (19, 0, 0)) x1.toNat x2))), t) Q) : Wp k_X5_replace d (12, [some (aR (some (18, 0, 0))), some (aI (iZ x1)), some (aI (iZ x2))], [], am_hp σ, t) Q := by
  refine w_s (c' := (13, [some (aR (some (18, 0, 0))), some (aI (iZ x1)), some (aI (iZ x2))], [aR (some (18, 0, 0))], am_hp σ, t)) rfl rfl ?_
  refine w_get rfl (hp_18 _ 0) rfl rfl ?_
  refine w_s (c' := (17, [some (aR (some (18, 0, 0))), some (aI (iZ x1)), some (aI (iZ x2))], [aI (iZ x1), aR (some (19, 0, 0))], am_hp σ, t)) rfl rfl ?_
  refine w_s (c' := (18, [some (aR (some (18, 0, 0))), some (aI (iZ x1)), some (aI (iZ x2))], [aI (iZ x2), aI (iZ x1), aR (some (19, 0, 0))], am_hp σ, t)) rfl rfl ?_
  refine w_ias rfl (mk_19 _ 0 0) h1 rfl rfl rfl ?_
  exact w2

theorem b_X5_replace_19 {x1 : Int} {x2 : Int} {σ : SG} {t : KT} (q1 : Q (.inl none, am_hp σ, t)) : Wp k_X5_replace d (19, [some (aR (some (18, 0, 0))), some (aI (iZ x1)), some (aI (iZ x2))], [], am_hp σ, t) Q := by
  exact w_f rfl rfl q1

theorem b_X5_drop_0 {x1 : Int} {σ : SG} {t : KT} (h1 : -2147483648 ≤ x1 ∧ x1 < 2147483648) (w2 : x1 < 0 → Wp k_X5_drop d (45, [some (aR (some (18, 0, 0))), some (aI (iZ x1))], [], am_hp σ, t) Q) (w3 : 0 ≤ x1 → Wp k_X5_drop d (4, [some (aR (some (18, 0, 0))), some (aI (iZ x1))], [], am_hp σ, t) Q) : Wp k_X5_drop d (0, [some (aR (some (18, 0, 0))), some (aI (iZ x1))], [], am_hp σ, t) Q := by
  refine w_s (c' := (1, [some (aR (some (18, 0, 0))), some (aI (iZ x1))], [aI (iZ x1)], am_hp σ, t)) rfl rfl ?_
  exact w_iflt rfl h1 rfl w2 w3

theorem e_X5_drop {x1 : Int} {h : AH} {t : KT} {d : Nat} {P : RS → Prop} (w : Wp k_X5_drop d (0, [some (aR (some (18, 0, 0))), some (aI (iZ x1))], [], h, t) P) : ∃ r, Ca (d + 1) 25 [aR (some (18, 0, 0)), aI (iZ x1)] h t r ∧ P r := ca_W rfl rfl rfl rfl w

theorem b_X5_drop_4 {x1 : Int} {σ : SG} {t : KT} (h1 : -2147483648 ≤ x1 ∧ x1 < 2147483648) (h2 : -2147483648 ≤ σ.1 (18, 0, 0) 6 ∧ σ.1 (18, 0, 0) 6 < 2147483648) (w3 : σ.1 (18, 0, 0) 6 ≤ x1 → Wp k_X5_drop d (45, [some (aR (some (18, 0, 0))), some (aI (iZ x1))], [], am_hp σ, t) Q) (w4 : x1 < σ.1 (18, 0, 0) 6 → Wp k_X5_drop d (12, [some (aR (some (18, 0, 0))), some (aI (iZ x1))], [], am_hp σ, t) Q) : Wp k_X5_drop d (4, [some (aR (some (18, 0, 0))), some (aI (iZ x1))], [], am_hp σ, t) Q := by
  refine w_s (c' := (5, [some (aR (some (18, 0, 0))), some (aI (iZ x1))], [aI (iZ x1)], am_hp σ, t)) rfl rfl ?_
  refine w_s (c' := (6, [some (aR (some (18, 0, 0))), some (aI (iZ x1))], [aR (some (18, 0, 0)), aI (iZ x1)], am_hp σ, t)) rfl rfl ?_
  refine w_get rfl (hp_18 _ 0) rfl rfl ?_
  exact w_icge rfl h1 h2 rfl w3 w4

theorem b_X5_drop_12 {x1 : Int} {σ : SG} {t : KT} (h1 : (0 : Int) ≤ x1 + 1 ∧ (0 : Int) ≤ x1 ∧ (0 : Int) ≤ ((σ.1 (18, 0, 0) 6) - x1) - 1 ∧ (x1 + 1 : Int) + (((σ.1 (18, 0, 0) 6) - x1) - 1) ≤ 120 ∧ (x1 : Int) + (((σ.1 (18, 0, 0) 6) - x1) - 1) ≤ 120) (w2 : Wp k_X5_drop d (45, [some (aR (some (18, 0, 0))), some (aI (iZ x1))], [], am_hp ((sI (sI σ (19, 0, 0) (cpy (σ.1 (19, 0, 0)) (σ.1 (19, 0, 0)) (x1 + 1).toNat x1.toNat (((σ.1 (18, 0, 0) 6) - x1) - 1).toNat)) (18, 0, 0) (up (((sI σ (19, 0, 0) (cpy (σ.1 (19, 0, 0)) (σ.1 (19, 0, 0)) (x1 + 1).toNat x1.toNat (((σ.1 (18, 0, 0) 6) - x1) - 1).toNat))).1 (18, 0, 0)) 6 ((((sI σ (19, 0, 0) (cpy (σ.1 (19, 0, 0)) (σ.1 (19, 0, 0)) (x1 + 1).toNat x1.toNat (((σ.1 (18, 0, 0) 6) - x1) - 1).toNat))).1 (18, 0, 0) 6) - 1)))), t) Q) : Wp k_X5_drop d (12, [some (aR (some (18, 0, 0))), some (aI (iZ x1))], [], am_hp σ, t) Q := by
  refine w_s (c' := (13, [some (aR (some (18, 0, 0))), some (aI (iZ x1))], [aR (some (18, 0, 0))], am_hp σ, t)) rfl rfl ?_
  refine w_get rfl (hp_18 _ 0) rfl rfl ?_
  refine w_s (c' := (17, [some (aR (some (18, 0, 0))), some (aI (iZ x1))], [aI (iZ x1), aR (some (19, 0, 0))], am_hp σ, t)) rfl rfl ?_
  refine w_psh rfl zc_1 rfl ?_
  refine w_iadd rfl rfl ?_
  refine w_s (c' := (20, [some (aR (some (18, 0, 0))), some (aI (iZ x1))], [aR (some (18, 0, 0)), aI (iZ (x1 + 1)), aR (some (19, 0, 0))], am_hp σ, t)) rfl rfl ?_
  refine w_get rfl (hp_18 _ 0) rfl rfl ?_
  refine w_s (c' := (24, [some (aR (some (18, 0, 0))), some (aI (iZ x1))], [aI (iZ x1), aR (some (19, 0, 0)), aI (iZ (x1 + 1)), aR (some (19, 0, 0))], am_hp σ, t)) rfl rfl ?_
  refine w_s (c' := (25, [some (aR (some (18, 0, 0))), some (aI (iZ x1))], [aR (some (18, 0, 0)), aI (iZ x1), aR (some (19, 0, 0)), aI (iZ (x1 + 1)), aR (some (19, 0, 0))], am_hp σ, t)) rfl rfl ?_
  refine w_get rfl (hp_18 _ 0) rfl rfl ?_
  refine w_s (c' := (29, [some (aR (some (18, 0, 0))), some (aI (iZ x1))], [aI (iZ x1), aI (iZ (σ.1 (18, 0, 0) 6)), aI (iZ x1), aR (some (19, 0, 0)), aI (iZ (x1 + 1)), aR (some (19, 0, 0))], am_hp σ, t)) rfl rfl ?_
  refine w_isub rfl rfl ?_
  refine w_psh rfl zc_1 rfl ?_
  refine w_isub rfl rfl ?_
  refine w_cpi rfl (hp_19 _ 0 0) (mk_19 _ 0 0) h1 ⟨rfl, rfl⟩ ⟨rfl, rfl⟩ rfl rfl ?_
  refine w_s (c' := (36, [some (aR (some (18, 0, 0))), some (aI (iZ x1))], [aR (some (18, 0, 0))], am_hp ((sI σ (19, 0, 0) (cpy (σ.1 (19, 0, 0)) (σ.1 (19, 0, 0)) (x1 + 1).toNat x1.toNat (((σ.1 (18, 0, 0) 6) - x1) - 1).toNat))), t)) rfl rfl ?_
  refine w_s (c' := (37, [some (aR (some (18, 0, 0))), some (aI (iZ x1))], [aR (some (18, 0, 0)), aR (some (18, 0, 0))], am_hp ((sI σ (19, 0, 0) (cpy (σ.1 (19, 0, 0)) (σ.1 (19, 0, 0)) (x1 + 1).toNat x1.toNat (((σ.1 (18, 0, 0) 6) - x1) - 1).toNat))), t)) rfl rfl ?_
  refine w_get rfl (hp_18 _ 0) rfl rfl ?_
  refine w_psh rfl zc_1 rfl ?_
  refine w_isub rfl rfl ?_
  refine w_putI rfl (hp_18 _ 0) rfl rfl rfl ?_
  exact w2

theorem b_X5_drop_45 {x1 : Int} {σ : SG} {t : KT} (q1 : Q (.inl none, am_hp σ, t)) : Wp k_X5_drop d (45, [some (aR (some (18, 0, 0))), some (aI (iZ x1))], [], am_hp σ, t) Q := by
  exact w_f rfl rfl q1

theorem b_X5_findTakeable_0 {σ : SG} {t : KT} (w1 : Wp k_X5_findTakeable d (2, [some (aR (some (18, 0, 0))), some (aI (iZ 0)), none], [], am_hp σ, t) Q) : Wp k_X5_findTakeable d (0, [some (aR (some (18, 0, 0))), none, none], [], am_hp σ, t) Q := by
  refine w_psh rfl zc_0 rfl ?_
  refine w_s (c' := (2, [some (aR (some (18, 0, 0))), some (aI (iZ 0)), none], [], am_hp σ, t)) rfl rfl ?_
  exact w1

theorem e_X5_findTakeable {h : AH} {t : KT} {d : Nat} {P : RS → Prop} (w : Wp k_X5_findTakeable d (0, [some (aR (some (18, 0, 0))), none, none], [], h, t) P) : ∃ r, Ca (d + 1) 26 [aR (some (18, 0, 0))] h t r ∧ P r := ca_W rfl rfl rfl rfl w

theorem b_X5_findTakeable_2 {x1 : Int} {σ : SG} {t : KT} (h1 : -2147483648 ≤ x1 ∧ x1 < 2147483648) (w2 : 9 ≤ x1 → Wp k_X5_findTakeable d (21, [some (aR (some (18, 0, 0))), some (aI (iZ x1)), none], [], am_hp σ, t) Q) (w3 : x1 < 9 → Wp k_X5_findTakeable d (8, [some (aR (some (18, 0, 0))), some (aI (iZ x1)), none], [], am_hp σ, t) Q) : Wp k_X5_findTakeable d (2, [some (aR (some (18, 0, 0))), some (aI (iZ x1)), none], [], am_hp σ, t) Q := by
  refine w_s (c' := (3, [some (aR (some (18, 0, 0))), some (aI (iZ x1)), none], [aI (iZ x1)], am_hp σ, t)) rfl rfl ?_
  refine w_psh rfl zc_9 rfl ?_
  exact w_icge rfl h1 (by decide) rfl w2 w3

theorem b_X5_findTakeable_8 {x1 : Int} {σ : SG} {t : KT} (h1 : 0 ≤ x1 ∧ x1 < 9) (w2 : Wp k_X5_findTakeable d (2, [some (aR (some (18, 0, 0))), some (aI (iZ (x1 + 1))), none], [], am_hp ((sI σ (24, 0, 0) (up (σ.1 (24, 0, 0)) x1.toNat 0))), t) Q) : Wp k_X5_findTakeable d (8, [some (aR (some (18, 0, 0))), some (aI (iZ x1)), none], [], am_hp σ, t) Q := by
  refine w_s (c' := (9, [some (aR (some (18, 0, 0))), some (aI (iZ x1)), none], [aR (some (18, 0, 0))], am_hp σ, t)) rfl rfl ?_
  refine w_get rfl (hp_18 _ 0) rfl rfl ?_
  refine w_s (c' := (13, [some (aR (some (18, 0, 0))), some (aI (iZ x1)), none], [aI (iZ x1), aR (some (24, 0, 0))], am_hp σ, t)) rfl rfl ?_
  refine w_psh rfl zc_0 rfl ?_
  refine w_ias rfl (mk_24 _ 0 0) h1 rfl rfl rfl ?_
  refine w_inc (a := x1) (ls' := [some (aR (some (18, 0, 0))), some (aI (iZ (x1 + 1))), none]) rfl rfl rfl zc_1 rfl rfl ?_
  refine w_s (c' := (2, [some (aR (some (18, 0, 0))), some (aI (iZ (x1 + 1))), none], [], am_hp ((sI σ (24, 0, 0) (up (σ.1 (24, 0, 0)) x1.toNat 0))), t)) rfl rfl ?_
  exact w2

theorem b_X5_findTakeable_21 {x1 : Int} {σ : SG} {t : KT} (w1 : Wp k_X5_findTakeable d (28, [some (aR (some (18, 0, 0))), some (aI (iZ ((σ.1 (18, 0, 0) 6) - 1))), none], [], am_hp σ, t) Q) : Wp k_X5_findTakeable d (21, [some (aR (some (18, 0, 0))), some (aI (iZ x1)), none], [], am_hp σ, t) Q := by
  refine w_s (c' := (22, [some (aR (some (18, 0, 0))), some (aI (iZ x1)), none], [aR (some (18, 0, 0))], am_hp σ, t)) rfl rfl ?_
  refine w_get rfl (hp_18 _ 0) rfl rfl ?_
  refine w_psh rfl zc_1 rfl ?_
  refine w_isub rfl rfl ?_
  refine w_s (c' := (28, [some (aR (some (18, 0, 0))), some (aI (iZ ((σ.1 (18, 0, 0) 6) - 1))), none], [], am_hp σ, t)) rfl rfl ?_
  exact w1

theorem b_X5_findTakeable_28 {x1 : Int} {u2 : Option AV} {σ : SG} {t : KT} (h1 : -2147483648 ≤ x1 ∧ x1 < 2147483648) (w2 : x1 < 0 → Wp k_X5_findTakeable d (124, [some (aR (some (18, 0, 0))), some (aI (iZ x1)), u2], [], am_hp σ, t) Q) (w3 : 0 ≤ x1 → Wp k_X5_findTakeable d (32, [some (aR (some (18, 0, 0))), some (aI (iZ x1)), u2], [], am_hp σ, t) Q) : Wp k_X5_findTakeable d (28, [some (aR (some (18, 0, 0))), some (aI (iZ x1)), u2], [], am_hp σ, t) Q := by
  refine w_s (c' := (29, [some (aR (some (18, 0, 0))), some (aI (iZ x1)), u2], [aI (iZ x1)], am_hp σ, t)) rfl rfl ?_
  exact w_iflt rfl h1 rfl w2 w3

theorem b_X5_findTakeable_32 {x1 : Int} {u2 : Option AV} {σ : SG} {t : KT} (h1 : 0 ≤ x1 ∧ x1 < 120) (w2 : Wp k_X5_findTakeable d (41, [some (aR (some (18, 0, 0))), some (aI (iZ x1)), some (aI (iZ 0))], [], am_hp ((sI σ (20, 0, 0) (up (σ.1 (20, 0, 0)) x1.toNat 0))), t) Q) : Wp k_X5_findTakeable d (32, [some (aR (some (18, 0, 0))), some (aI (iZ x1)), u2], [], am_hp σ, t) Q := by
  refine w_s (c' := (33, [some (aR (some (18, 0, 0))), some (aI (iZ x1)), u2], [aR (some (18, 0, 0))], am_hp σ, t)) rfl rfl ?_
  refine w_get rfl (hp_18 _ 0) rfl rfl ?_
  refine w_s (c' := (37, [some (aR (some (18, 0, 0))), some (aI (iZ x1)), u2], [aI (iZ x1), aR (some (20, 0, 0))], am_hp σ, t)) rfl rfl ?_
  refine w_psh rfl zc_0 rfl ?_
  refine w_ias rfl (mk_20 _ 0 0) h1 rfl rfl rfl ?_
  refine w_psh rfl zc_0 rfl ?_
  refine w_s (c' := (41, [some (aR (some (18, 0, 0))), some (aI (iZ x1)), some (aI (iZ 0))], [], am_hp ((sI σ (20, 0, 0) (up (σ.1 (20, 0, 0)) x1.toNat 0))), t)) rfl rfl ?_
  exact w2

theorem b_X5_findTakeable_41 {x1 : Int} {x2 : Int} {σ : SG} {t : KT} (h1 : -2147483648 ≤ x2 ∧ x2 < 2147483648) (w2 : 9 ≤ x2 → Wp k_X5_findTakeable d (118, [some (aR (some (18, 0, 0))), some (aI (iZ x1)), some (aI (iZ x2))], [], am_hp σ, t) Q) (w3 : x2 < 9 → Wp k_X5_findTakeable d (47, [some (aR (some (18, 0, 0))), some (aI (iZ x1)), some (aI (iZ x2))], [], am_hp σ, t) Q) : Wp k_X5_findTakeable d (41, [some (aR (some (18, 0, 0))), some (aI (iZ x1)), some (aI (iZ x2))], [], am_hp σ, t) Q := by
  refine w_s (c' := (42, [some (aR (some (18, 0, 0))), some (aI (iZ x1)), some (aI (iZ x2))], [aI (iZ x2)], am_hp σ, t)) rfl rfl ?_
  refine w_psh rfl zc_9 rfl ?_
  exact w_icge rfl h1 (by decide) rfl w2 w3

theorem b_X5_findTakeable_47 {x1 : Int} {x2 : Int} {r1 : Int} {σ σ1 : SG} {t : KT} (h1 : 0 ≤ x1 ∧ x1 < 120) (c2 : Ca d 146 [aI (iZ (σ.1 (19, 0, 0) x1.toNat)), aI (iZ x2)] (am_hp σ) t (.inl (some (aI (iZ r1))), am_hp σ1, t)) (h3 : -2147483648 ≤ r1 ∧ r1 < 2147483648) (w4 : r1 = 0 → Wp k_X5_findTakeable d (76, [some (aR (some (18, 0, 0))), some (aI (iZ x1)), some (aI (iZ x2))], [aI (iZ x2), aR (some (24, 0, 0))], am_hp σ1, t) Q) (w5 : r1 ≠ 0 → Wp k_X5_findTakeable d (65, [some (aR (some (18, 0, 0))), some (aI (iZ x1)), some (aI (iZ x2))], [aI (iZ x2), aR (some (24, 0, 0))], am_hp σ1, t) Q) : Wp k_X5_findTakeable d (47, [some (aR (some (18, 0, 0))), some (aI (iZ x1)), some (aI (iZ x2))], [], am_hp σ, t) Q := by
  refine w_s (c' := (48, [some (aR (some (18, 0, 0))), some (aI (iZ x1)), some (aI (iZ x2))], [aR (some (18, 0, 0))], am_hp σ, t)) rfl rfl ?_
  refine w_get rfl (hp_18 _ 0) rfl rfl ?_
  refine w_s (c' := (52, [some (aR (some (18, 0, 0))), some (aI (iZ x1)), some (aI (iZ x2))], [aI (iZ x2), aR (some (24, 0, 0))], am_hp σ, t)) rfl rfl ?_
  refine w_s (c' := (53, [some (aR (some (18, 0, 0))), some (aI (iZ x1)), some (aI (iZ x2))], [aR (some (18, 0, 0)), aI (iZ x2), aR (some (24, 0, 0))], am_hp σ, t)) rfl rfl ?_
  refine w_get rfl (hp_18 _ 0) rfl rfl ?_
  refine w_s (c' := (57, [some (aR (some (18, 0, 0))), some (aI (iZ x1)), some (aI (iZ x2))], [aI (iZ x1), aR (some (19, 0, 0)), aI (iZ x2), aR (some (24, 0, 0))], am_hp σ, t)) rfl rfl ?_
  refine w_ial rfl (hp_19 _ 0 0) h1 rfl rfl ?_
  refine w_s (c' := (59, [some (aR (some (18, 0, 0))), some (aI (iZ x1)), some (aI (iZ x2))], [aI (iZ x2), aI (iZ (σ.1 (19, 0, 0) x1.toNat)), aI (iZ x2), aR (some (24, 0, 0))], am_hp σ, t)) rfl rfl ?_
  refine w_c0 (c' := (62, [some (aR (some (18, 0, 0))), some (aI (iZ x1)), some (aI (iZ x2))], [aI (iZ r1), aI (iZ x2), aR (some (24, 0, 0))], am_hp σ1, t)) rfl rfl rfl rfl c2 (Nat.le_refl _) rfl ?_
  exact w_ifeq rfl h3 rfl w4 w5

theorem b_X5_findTakeable_65 {x1 : Int} {x2 : Int} {xs0 : Int} {σ : SG} {t : KT} (h1 : 0 ≤ x2 ∧ x2 < 9) (w2 : Wp k_X5_findTakeable d (77, [some (aR (some (18, 0, 0))), some (aI (iZ x1)), some (aI (iZ x2))], [aI (iZ ((σ.1 (24, 0, 0) x2.toNat) + 1)), aI (iZ xs0), aR (some (24, 0, 0))], am_hp σ, t) Q) : Wp k_X5_findTakeable d (65, [some (aR (some (18, 0, 0))), some (aI (iZ x1)), some (aI (iZ x2))], [aI (iZ xs0), aR (some (24, 0, 0))], am_hp σ, t) Q := by
  refine w_s (c' := (66, [some (aR (some (18, 0, 0))), some (aI (iZ x1)), some (aI (iZ x2))], [aR (some (18, 0, 0)), aI (iZ xs0), aR (some (24, 0, 0))], am_hp σ, t)) rfl rfl ?_
  refine w_get rfl (hp_18 _ 0) rfl rfl ?_
  refine w_s (c' := (70, [some (aR (some (18, 0, 0))), some (aI (iZ x1)), some (aI (iZ x2))], [aI (iZ x2), aR (some (24, 0, 0)), aI (iZ xs0), aR (some (24, 0, 0))], am_hp σ, t)) rfl rfl ?_
  refine w_ial rfl (hp_24 _ 0 0) h1 rfl rfl ?_
  refine w_psh rfl zc_1 rfl ?_
  refine w_iadd rfl rfl ?_
  refine w_s (c' := (77, [some (aR (some (18, 0, 0))), some (aI (iZ x1)), some (aI (iZ x2))], [aI (iZ ((σ.1 (24, 0, 0) x2.toNat) + 1)), aI (iZ xs0), aR (some (24, 0, 0))], am_hp σ, t)) rfl rfl ?_
  exact w2

theorem b_X5_findTakeable_76 {x1 : Int} {x2 : Int} {xs0 : Int} {σ : SG} {t : KT} (w1 : Wp k_X5_findTakeable d (77, [some (aR (some (18, 0, 0))), some (aI (iZ x1)), some (aI (iZ x2))], [aI (iZ 0), aI (iZ xs0), aR (some (24, 0, 0))], am_hp σ, t) Q) : Wp k_X5_findTakeable d (76, [some (aR (some (18, 0, 0))), some (aI (iZ x1)), some (aI (iZ x2))], [aI (iZ xs0), aR (some (24, 0, 0))], am_hp σ, t) Q := by
  refine w_psh rfl zc_0 rfl ?_
  exact w1

theorem b_X5_findTakeable_77 {x1 : Int} {x2 : Int} {xs0 : Int} {xs1 : Int} {r1 : Int} {σ σ1 : SG} {t : KT} (h1 : 0 ≤ xs1 ∧ xs1 < 9) (h2 : 0 ≤ x2 ∧ x2 < 9) (c3 : Ca d 143 [aI (iZ x2)] (am_hp ((sI σ (24, 0, 0) (up (σ.1 (24, 0, 0)) xs1.toNat xs0)))) t (.inl (some (aI (iZ r1))), am_hp σ1, t)) (h4 : -2147483648 ≤ r1 ∧ r1 < 2147483648) (h5 : -2147483648 ≤ (σ1.1 (18, 0, 0) 6) - x1 ∧ (σ1.1 (18, 0, 0) 6) - x1 < 2147483648) (h6 : -2147483648 ≤ ((sI σ (24, 0, 0) (up (σ.1 (24, 0, 0)) xs1.toNat xs0))).1 (24, 0, 0) x2.toNat ∧ ((sI σ (24, 0, 0) (up (σ.1 (24, 0, 0)) xs1.toNat xs0))).1 (24, 0, 0) x2.toNat < 2147483648) (h7 : -2147483648 ≤ min r1 ((σ1.1 (18, 0, 0) 6) - x1) ∧ min r1 ((σ1.1 (18, 0, 0) 6) - x1) < 2147483648) (w8 : ((sI σ (24, 0, 0) (up (σ.1 (24, 0, 0)) xs1.toNat xs0))).1 (24, 0, 0) x2.toNat < min r1 ((σ1.1 (18, 0, 0) 6) - x1) → Wp k_X5_findTakeable d (112, [some (aR (some (18, 0, 0))), some (aI (iZ x1)), some (aI (iZ x2))], [], am_hp σ1, t) Q) (w9 : min r1 ((σ1.1 (18, 0, 0) 6) - x1) ≤ ((sI σ (24, 0, 0) (up (σ.1 (24, 0, 0)) xs1.toNat xs0))).1 (24, 0, 0) x2.toNat → Wp k_X5_findTakeable d (100, [some (aR (some (18, 0, 0))), some (aI (iZ x1)), some (aI (iZ x2))], [], am_hp σ1, t) Q) : Wp k_X5_findTakeable d (77, [some (aR (some (18, 0, 0))), some (aI (iZ x1)), some (aI (iZ x2))], [aI (iZ xs0), aI (iZ xs1), aR (some (24, 0, 0))], am_hp σ, t) Q := by
  refine w_ias rfl (mk_24 _ 0 0) h1 rfl rfl rfl ?_
  refine w_s (c' := (79, [some (aR (some (18, 0, 0))), some (aI (iZ x1)), some (aI (iZ x2))], [aR (some (18, 0, 0))], am_hp ((sI σ (24, 0, 0) (up (σ.1 (24, 0, 0)) xs1.toNat xs0))), t)) rfl rfl ?_
  refine w_get rfl (hp_18 _ 0) rfl rfl ?_
  refine w_s (c' := (83, [some (aR (some (18, 0, 0))), some (aI (iZ x1)), some (aI (iZ x2))], [aI (iZ x2), aR (some (24, 0, 0))], am_hp ((sI σ (24, 0, 0) (up (σ.1 (24, 0, 0)) xs1.toNat xs0))), t)) rfl rfl ?_
  refine w_ial rfl (hp_24 _ 0 0) h2 rfl rfl ?_
  refine w_s (c' := (85, [some (aR (some (18, 0, 0))), some (aI (iZ x1)), some (aI (iZ x2))], [aI (iZ x2), aI (iZ (((sI σ (24, 0, 0) (up (σ.1 (24, 0, 0)) xs1.toNat xs0))).1 (24, 0, 0) x2.toNat))], am_hp ((sI σ (24, 0, 0) (up (σ.1 (24, 0, 0)) xs1.toNat xs0))), t)) rfl rfl ?_
  refine w_c0 (c' := (88, [some (aR (some (18, 0, 0))), some (aI (iZ x1)), some (aI (iZ x2))], [aI (iZ r1), aI (iZ (((sI σ (24, 0, 0) (up (σ.1 (24, 0, 0)) xs1.toNat xs0))).1 (24, 0, 0) x2.toNat))], am_hp σ1, t)) rfl rfl rfl rfl c3 (Nat.le_refl _) rfl ?_
  refine w_s (c' := (89, [some (aR (some (18, 0, 0))), some (aI (iZ x1)), some (aI (iZ x2))], [aR (some (18, 0, 0)), aI (iZ r1), aI (iZ (((sI σ (24, 0, 0) (up (σ.1 (24, 0, 0)) xs1.toNat xs0))).1 (24, 0, 0) x2.toNat))], am_hp σ1, t)) rfl rfl ?_
  refine w_get rfl (hp_18 _ 0) rfl rfl ?_
  refine w_s (c' := (93, [some (aR (some (18, 0, 0))), some (aI (iZ x1)), some (aI (iZ x2))], [aI (iZ x1), aI (iZ (σ1.1 (18, 0, 0) 6)), aI (iZ r1), aI (iZ (((sI σ (24, 0, 0) (up (σ.1 (24, 0, 0)) xs1.toNat xs0))).1 (24, 0, 0) x2.toNat))], am_hp σ1, t)) rfl rfl ?_
  refine w_isub rfl rfl ?_
  refine w_min rfl h4 h5 rfl rfl ?_
  exact w_iclt rfl h6 h7 rfl w8 w9

theorem b_X5_findTakeable_100 {x1 : Int} {x2 : Int} {σ : SG} {t : KT} (h1 : 0 ≤ x1 ∧ x1 < 120) (w2 : Wp k_X5_findTakeable d (112, [some (aR (some (18, 0, 0))), some (aI (iZ x1)), some (aI (iZ x2))], [], am_hp ((sI σ (20, 0, 0) (up (σ.1 (20, 0, 0)) x1.toNat (zor (σ.1 (20, 0, 0) x1.toNat) (zshl 1 x2))))), t) Q) : Wp k_X5_findTakeable d (100, [some (aR (some (18, 0, 0))), some (aI (iZ x1)), some (aI (iZ x2))], [], am_hp σ, t) Q := by
  refine w_s (c' := (101, [some (aR (some (18, 0, 0))), some (aI (iZ x1)), some (aI (iZ x2))], [aR (some (18, 0, 0))], am_hp σ, t)) rfl rfl ?_
  refine w_get rfl (hp_18 _ 0) rfl rfl ?_
  refine w_s (c' := (105, [some (aR (some (18, 0, 0))), some (aI (iZ x1)), some (aI (iZ x2))], [aI (iZ x1), aR (some (20, 0, 0))], am_hp σ, t)) rfl rfl ?_
  refine w_s (c' := (106, [some (aR (some (18, 0, 0))), some (aI (iZ x1)), some (aI (iZ x2))], [aI (iZ x1), aR (some (20, 0, 0)), aI (iZ x1), aR (some (20, 0, 0))], am_hp σ, t)) rfl rfl ?_
  refine w_ial rfl (hp_20 _ 0 0) h1 rfl rfl ?_
  refine w_psh rfl zc_1 rfl ?_
  refine w_s (c' := (109, [some (aR (some (18, 0, 0))), some (aI (iZ x1)), some (aI (iZ x2))], [aI (iZ x2), aI (iZ 1), aI (iZ (σ.1 (20, 0, 0) x1.toNat)), aI (iZ x1), aR (some (20, 0, 0))], am_hp σ, t)) rfl rfl ?_
  refine w_ishl rfl rfl ?_
  refine w_ior rfl rfl ?_
  refine w_ias rfl (mk_20 _ 0 0) h1 rfl rfl rfl ?_
  exact w2

theorem b_X5_findTakeable_112 {x1 : Int} {x2 : Int} {σ : SG} {t : KT} (w1 : Wp k_X5_findTakeable d (41, [some (aR (some (18, 0, 0))), some (aI (iZ x1)), some (aI (iZ (x2 + 1)))], [], am_hp σ, t) Q) : Wp k_X5_findTakeable d (112, [some (aR (some (18, 0, 0))), some (aI (iZ x1)), some (aI (iZ x2))], [], am_hp σ, t) Q := by
  refine w_inc (a := x2) (ls' := [some (aR (some (18, 0, 0))), some (aI (iZ x1)), some (aI (iZ (x2 + 1)))]) rfl rfl rfl zc_1 rfl rfl ?_
  refine w_s (c' := (41, [some (aR (some (18, 0, 0))), some (aI (iZ x1)), some (aI (iZ (x2 + 1)))], [], am_hp σ, t)) rfl rfl ?_
  exact w1

theorem b_X5_findTakeable_118 {x1 : Int} {x2 : Int} {σ : SG} {t : KT} (w1 : Wp k_X5_findTakeable d (28, [some (aR (some (18, 0, 0))), some (aI (iZ (x1 + (-1)))), some (aI (iZ x2))], [], am_hp σ, t) Q) : Wp k_X5_findTakeable d (118, [some (aR (some (18, 0, 0))), some (aI (iZ x1)), some (aI (iZ x2))], [], am_hp σ, t) Q := by
  refine w_inc (a := x1) (ls' := [some (aR (some (18, 0, 0))), some (aI (iZ (x1 + (-1)))), some (aI (iZ x2))]) rfl rfl rfl zc_m1 rfl rfl ?_
  refine w_s (c' := (28, [some (aR (some (18, 0, 0))), some (aI (iZ (x1 + (-1)))), some (aI (iZ x2))], [], am_hp σ, t)) rfl rfl ?_
  exact w1

theorem b_X5_findTakeable_124 {x1 : Int} {u2 : Option AV} {σ : SG} {t : KT} (q1 : Q (.inl none, am_hp σ, t)) : Wp k_X5_findTakeable d (124, [some (aR (some (18, 0, 0))), some (aI (iZ x1)), u2], [], am_hp σ, t) Q := by
  exact w_f rfl rfl q1

theorem b_X5_canTake_0 {x1 : Int} {x2 : Int} {σ : SG} {t : KT} (h1 : -2147483648 ≤ x1 ∧ x1 < 2147483648) (w2 : x1 < 0 → Wp k_X5_canTake d (30, [some (aR (some (18, 0, 0))), some (aI (iZ x1)), some (aI (iZ x2))], [], am_hp σ, t) Q) (w3 : 0 ≤ x1 → Wp k_X5_canTake d (4, [some (aR (some (18, 0, 0))), some (aI (iZ x1)), some (aI (iZ x2))], [], am_hp σ, t) Q) : Wp k_X5_canTake d (0, [some (aR (some (18, 0, 0))), some (aI (iZ x1)), some (aI (iZ x2))], [], am_hp σ, t) Q := by
  refine w_s (c' := (1, [some (aR (some (18, 0, 0))), some (aI (iZ x1)), some (aI (iZ x2))], [aI (iZ x1)], am_hp σ, t)) rfl rfl ?_
  exact w_iflt rfl h1 rfl w2 w3

theorem e_X5_canTake {x1 : Int} {x2 : Int} {h : AH} {t : KT} {d : Nat} {P : RS → Prop} (w : Wp k_X5_canTake d (0, [some (aR (some (18, 0, 0))), some (aI (iZ x1)), some (aI (iZ x2))], [], h, t) P) : ∃ r, Ca (d + 1) 27 [aR (some (18, 0, 0)), aI (iZ x1), aI (iZ x2)] h t r ∧ P r := ca_W rfl rfl rfl rfl w

theorem b_X5_canTake_4 {x1 : Int} {x2 : Int} {σ : SG} {t : KT} (h1 : -2147483648 ≤ x1 ∧ x1 < 2147483648) (h2 : -2147483648 ≤ σ.1 (18, 0, 0) 6 ∧ σ.1 (18, 0, 0) 6 < 2147483648) (w3 : σ.1 (18, 0, 0) 6 ≤ x1 → Wp k_X5_canTake d (30, [some (aR (some (18, 0, 0))), some (aI (iZ x1)), some (aI (iZ x2))], [], am_hp σ, t) Q) (w4 : x1 < σ.1 (18, 0, 0) 6 → Wp k_X5_canTake d (12, [some (aR (some (18, 0, 0))), some (aI (iZ x1)), some (aI (iZ x2))], [], am_hp σ, t) Q) : Wp k_X5_canTake d (4, [some (aR (some (18, 0, 0))), some (aI (iZ x1)), some (aI (iZ x2))], [], am_hp σ, t) Q := by
  refine w_s (c' := (5, [some (aR (some (18, 0, 0))), some (aI (iZ x1)), some (aI (iZ x2))], [aI (iZ x1)], am_hp σ, t)) rfl rfl ?_
  refine w_s (c' := (6, [some (aR (some (18, 0, 0))), some (aI (iZ x1)), some (aI (iZ x2))], [aR (some (18, 0, 0)), aI (iZ x1)], am_hp σ, t)) rfl rfl ?_
  refine w_get rfl (hp_18 _ 0) rfl rfl ?_
  exact w_icge rfl h1 h2 rfl w3 w4

theorem b_X5_canTake_12 {x1 : Int} {x2 : Int} {σ : SG} {t : KT} (h1 : 0 ≤ x1 ∧ x1 < 120) (h2 : -2147483648 ≤ zand (zshr (σ.1 (20, 0, 0) x1.toNat) x2) 1 ∧ zand (zshr (σ.1 (20, 0, 0) x1.toNat) x2) 1 < 2147483648) (w3 : zand (zshr (σ.1 (20, 0, 0) x1.toNat) x2) 1 ≠ 1 → Wp k_X5_canTake d (30, [some (aR (some (18, 0, 0))), some (aI (iZ x1)), some (aI (iZ x2))], [], am_hp σ, t) Q) (w4 : zand (zshr (σ.1 (20, 0, 0) x1.toNat) x2) 1 = 1 → Wp k_X5_canTake d (26, [some (aR (some (18, 0, 0))), some (aI (iZ x1)), some (aI (iZ x2))], [], am_hp σ, t) Q) : Wp k_X5_canTake d (12, [some (aR (some (18, 0, 0))), some (aI (iZ x1)), some (aI (iZ x2))], [], am_hp σ, t) Q := by
  refine w_s (c' := (13, [some (aR (some (18, 0, 0))), some (aI (iZ x1)), some (aI (iZ x2))], [aR (some (18, 0, 0))], am_hp σ, t)) rfl rfl ?_
  refine w_get rfl (hp_18 _ 0) rfl rfl ?_
  refine w_s (c' := (17, [some (aR (some (18, 0, 0))), some (aI (iZ x1)), some (aI (iZ x2))], [aI (iZ x1), aR (some (20, 0, 0))], am_hp σ, t)) rfl rfl ?_
  refine w_ial rfl (hp_20 _ 0 0) h1 rfl rfl ?_
  refine w_s (c' := (19, [some (aR (some (18, 0, 0))), some (aI (iZ x1)), some (aI (iZ x2))], [aI (iZ x2), aI (iZ (σ.1 (20, 0, 0) x1.toNat))], am_hp σ, t)) rfl rfl ?_
  refine w_ishr rfl rfl ?_
  refine w_psh rfl zc_1 rfl ?_
  refine w_iand rfl rfl ?_
  refine w_psh rfl zc_1 rfl ?_
  exact w_icne rfl h2 (by decide) rfl w3 w4

theorem b_X5_canTake_26 {x1 : Int} {x2 : Int} {σ : SG} {t : KT} (w1 : Wp k_X5_canTake d (31, [some (aR (some (18, 0, 0))), some (aI (iZ x1)), some (aI (iZ x2))], [aI (iZ 1)], am_hp σ, t) Q) : Wp k_X5_canTake d (26, [some (aR (some (18, 0, 0))), some (aI (iZ x1)), some (aI (iZ x2))], [], am_hp σ, t) Q := by
  refine w_psh rfl zc_1 rfl ?_
  refine w_s (c' := (31, [some (aR (some (18, 0, 0))), some (aI (iZ x1)), some (aI (iZ x2))], [aI (iZ 1)], am_hp σ, t)) rfl rfl ?_
  exact w1

theorem b_X5_canTake_30 {x1 : Int} {x2 : Int} {σ : SG} {t : KT} (w1 : Wp k_X5_canTake d (31, [some (aR (some (18, 0, 0))), some (aI (iZ x1)), some (aI (iZ x2))], [aI (iZ 0)], am_hp σ, t) Q) : Wp k_X5_canTake d (30, [some (aR (some (18, 0, 0))), some (aI (iZ x1)), some (aI (iZ x2))], [], am_hp σ, t) Q := by
  refine w_psh rfl zc_0 rfl ?_
  exact w1

theorem b_X5_canTake_31 {x1 : Int} {x2 : Int} {xs0 : Int} {σ : SG} {t : KT} (h1 : xs0 = 0 ∨ xs0 = 1) (q2 : Q (.inl (some (aI (iZ xs0))), am_hp σ, t)) : Wp k_X5_canTake d (31, [some (aR (some (18, 0, 0))), some (aI (iZ x1)), some (aI (iZ x2))], [aI (iZ xs0)], am_hp σ, t) Q := by
  exact w_ret rfl (frt_b h1) q2

theorem b_X5_choose_0 {x1 : Int} {p2 : Nat} {σ σ1 : SG} {t : KT} (c1 : Ca d 26 [aR (some (18, 0, 0))] (am_hp σ) t (.inl none, am_hp σ1, t)) (w2 : Wp k_X5_choose d (6, [some (aR (some (18, 0, 0))), some (aI (iZ x1)), some (aR (some (13, p2, 0))), some (aI (iZ 0))], [], am_hp σ1, t) Q) : Wp k_X5_choose d (0, [some (aR (some (18, 0, 0))), some (aI (iZ x1)), some (aR (some (13, p2, 0))), none], [], am_hp σ, t) Q := by
  refine w_s (c' := (1, [some (aR (some (18, 0, 0))), some (aI (iZ x1)), some (aR (some (13, p2, 0))), none], [aR (some (18, 0, 0))], am_hp σ, t)) rfl rfl ?_
  refine w_c0 (c' := (4, [some (aR (some (18, 0, 0))), some (aI (iZ x1)), some (aR (some (13, p2, 0))), none], [], am_hp σ1, t)) rfl rfl (rcv_of (hp_18 _ 0)) rfl c1 (Nat.le_refl _) rfl ?_
  refine w_psh rfl zc_0 rfl ?_
  refine w_s (c' := (6, [some (aR (some (18, 0, 0))), some (aI (iZ x1)), some (aR (some (13, p2, 0))), some (aI (iZ 0))], [], am_hp σ1, t)) rfl rfl ?_
  exact w2

theorem e_X5_choose {x1 : Int} {p2 : Nat} {h : AH} {t : KT} {d : Nat} {P : RS → Prop} (w : Wp k_X5_choose d (0, [some (aR (some (18, 0, 0))), some (aI (iZ x1)), some (aR (some (13, p2, 0))), none], [], h, t) P) : ∃ r, Ca (d + 1) 28 [aR (some (18, 0, 0)), aI (iZ x1), aR (some (13, p2, 0))] h t r ∧ P r := ca_W rfl rfl rfl rfl w

theorem b_X5_choose_6 {x1 : Int} {p2 : Nat} {x3 : Int} {σ : SG} {t : KT} (h1 : -2147483648 ≤ x3 ∧ x3 < 2147483648) (w2 : 9 ≤ x3 → Wp k_X5_choose d (42, [some (aR (some (18, 0, 0))), some (aI (iZ x1)), some (aR (some (13, p2, 0))), some (aI (iZ x3))], [], am_hp σ, t) Q) (w3 : x3 < 9 → Wp k_X5_choose d (12, [some (aR (some (18, 0, 0))), some (aI (iZ x1)), some (aR (some (13, p2, 0))), some (aI (iZ x3))], [], am_hp σ, t) Q) : Wp k_X5_choose d (6, [some (aR (some (18, 0, 0))), some (aI (iZ x1)), some (aR (some (13, p2, 0))), some (aI (iZ x3))], [], am_hp σ, t) Q := by
  refine w_s (c' := (7, [some (aR (some (18, 0, 0))), some (aI (iZ x1)), some (aR (some (13, p2, 0))), some (aI (iZ x3))], [aI (iZ x3)], am_hp σ, t)) rfl rfl ?_
  refine w_psh rfl zc_9 rfl ?_
  exact w_icge rfl h1 (by decide) rfl w2 w3

theorem b_X5_choose_12 {x1 : Int} {p2 : Nat} {x3 : Int} {σ : SG} {t : KT} (h1 : -2147483648 ≤ x1 ∧ x1 < 2147483648) (w2 : x1 ≠ 2 → Wp k_X5_choose d (34, [some (aR (some (18, 0, 0))), some (aI (iZ x1)), some (aR (some (13, p2, 0))), some (aI (iZ x3))], [aI (iZ x3), aR (some (23, 0, 0))], am_hp σ, t) Q) (w3 : x1 = 2 → Wp k_X5_choose d (22, [some (aR (some (18, 0, 0))), some (aI (iZ x1)), some (aR (some (13, p2, 0))), some (aI (iZ x3))], [aI (iZ x3), aR (some (23, 0, 0))], am_hp σ, t) Q) : Wp k_X5_choose d (12, [some (aR (some (18, 0, 0))), some (aI (iZ x1)), some (aR (some (13, p2, 0))), some (aI (iZ x3))], [], am_hp σ, t) Q := by
  refine w_s (c' := (13, [some (aR (some (18, 0, 0))), some (aI (iZ x1)), some (aR (some (13, p2, 0))), some (aI (iZ x3))], [aR (some (18, 0, 0))], am_hp σ, t)) rfl rfl ?_
  refine w_get rfl (hp_18 _ 0) rfl rfl ?_
  refine w_s (c' := (17, [some (aR (some (18, 0, 0))), some (aI (iZ x1)), some (aR (some (13, p2, 0))), some (aI (iZ x3))], [aI (iZ x3), aR (some (23, 0, 0))], am_hp σ, t)) rfl rfl ?_
  refine w_s (c' := (18, [some (aR (some (18, 0, 0))), some (aI (iZ x1)), some (aR (some (13, p2, 0))), some (aI (iZ x3))], [aI (iZ x1), aI (iZ x3), aR (some (23, 0, 0))], am_hp σ, t)) rfl rfl ?_
  refine w_psh rfl zc_2 rfl ?_
  exact w_icne rfl h1 (by decide) rfl w2 w3

theorem b_X5_choose_22 {x1 : Int} {p2 : Nat} {x3 : Int} {xs0 : Int} {σ : SG} {t : KT} (h1 : 0 ≤ x3 ∧ x3 < 9) (w2 : Wp k_X5_choose d (35, [some (aR (some (18, 0, 0))), some (aI (iZ x1)), some (aR (some (13, p2, 0))), some (aI (iZ x3))], [aI (iZ (((σ.1 (13, p2, 0) x3.toNat) * 1024) + 1)), aI (iZ xs0), aR (some (23, 0, 0))], am_hp σ, t) Q) : Wp k_X5_choose d (22, [some (aR (some (18, 0, 0))), some (aI (iZ x1)), some (aR (some (13, p2, 0))), some (aI (iZ x3))], [aI (iZ xs0), aR (some (23, 0, 0))], am_hp σ, t) Q := by
  refine w_s (c' := (23, [some (aR (some (18, 0, 0))), some (aI (iZ x1)), some (aR (some (13, p2, 0))), some (aI (iZ x3))], [aR (some (13, p2, 0)), aI (iZ xs0), aR (some (23, 0, 0))], am_hp σ, t)) rfl rfl ?_
  refine w_s (c' := (24, [some (aR (some (18, 0, 0))), some (aI (iZ x1)), some (aR (some (13, p2, 0))), some (aI (iZ x3))], [aI (iZ x3), aR (some (13, p2, 0)), aI (iZ xs0), aR (some (23, 0, 0))], am_hp σ, t)) rfl rfl ?_
  refine w_ial rfl (hp_13 _ p2 0) h1 rfl rfl ?_
  refine w_psh rfl zc_1024 rfl ?_
  refine w_imul rfl rfl ?_
  refine w_psh rfl zc_1 rfl ?_
  refine w_iadd rfl rfl ?_
  refine w_s (c' := (35, [some (aR (some (18, 0, 0))), some (aI (iZ x1)), some (aR (some (13, p2, 0))), some (aI (iZ x3))], [aI (iZ (((σ.1 (13, p2, 0) x3.toNat) * 1024) + 1)), aI (iZ xs0), aR (some (23, 0, 0))], am_hp σ, t)) rfl rfl ?_
  exact w2

theorem b_X5_choose_34 {x1 : Int} {p2 : Nat} {x3 : Int} {xs0 : Int} {σ : SG} {t : KT} (w1 : Wp k_X5_choose d (35, [some (aR (some (18, 0, 0))), some (aI (iZ x1)), some (aR (some (13, p2, 0))), some (aI (iZ x3))], [aI (iZ 1), aI (iZ xs0), aR (some (23, 0, 0))], am_hp σ, t) Q) : Wp k_X5_choose d (34, [some (aR (some (18, 0, 0))), some (aI (iZ x1)), some (aR (some (13, p2, 0))), some (aI (iZ x3))], [aI (iZ xs0), aR (some (23, 0, 0))], am_hp σ, t) Q := by
  refine w_psh rfl zc_1 rfl ?_
  exact w1

theorem b_X5_choose_35 {x1 : Int} {p2 : Nat} {x3 : Int} {xs0 : Int} {xs1 : Int} {σ : SG} {t : KT} (h1 : 0 ≤ xs1 ∧ xs1 < 9) (w2 : Wp k_X5_choose d (6, [some (aR (some (18, 0, 0))), some (aI (iZ x1)), some (aR (some (13, p2, 0))), some (aI (iZ (x3 + 1)))], [], am_hp ((sI σ (23, 0, 0) (up (σ.1 (23, 0, 0)) xs1.toNat xs0))), t) Q) : Wp k_X5_choose d (35, [some (aR (some (18, 0, 0))), some (aI (iZ x1)), some (aR (some (13, p2, 0))), some (aI (iZ x3))], [aI (iZ xs0), aI (iZ xs1), aR (some (23, 0, 0))], am_hp σ, t) Q := by
  refine w_ias rfl (mk_23 _ 0 0) h1 rfl rfl rfl ?_
  refine w_inc (a := x3) (ls' := [some (aR (some (18, 0, 0))), some (aI (iZ x1)), some (aR (some (13, p2, 0))), some (aI (iZ (x3 + 1)))]) rfl rfl rfl zc_1 rfl rfl ?_
  refine w_s (c' := (6, [some (aR (some (18, 0, 0))), some (aI (iZ x1)), some (aR (some (13, p2, 0))), some (aI (iZ (x3 + 1)))], [], am_hp ((sI σ (23, 0, 0) (up (σ.1 (23, 0, 0)) xs1.toNat xs0))), t)) rfl rfl ?_
  exact w2

theorem b_X5_choose_42 {x1 : Int} {p2 : Nat} {x3 : Int} {σ : SG} {t : KT} (h1 : -2147483648 ≤ x1 ∧ x1 < 2147483648) (w2 : x1 ≠ 0 → Wp k_X5_choose d (53, [some (aR (some (18, 0, 0))), some (aI (iZ x1)), some (aR (some (13, p2, 0))), some (aI (iZ x3))], [], am_hp σ, t) Q) (w3 : x1 = 0 → Wp k_X5_choose d (46, [some (aR (some (18, 0, 0))), some (aI (iZ x1)), some (aR (some (13, p2, 0))), some (aI (iZ x3))], [], am_hp σ, t) Q) : Wp k_X5_choose d (42, [some (aR (some (18, 0, 0))), some (aI (iZ x1)), some (aR (some (13, p2, 0))), some (aI (iZ x3))], [], am_hp σ, t) Q := by
  refine w_s (c' := (43, [some (aR (some (18, 0, 0))), some (aI (iZ x1)), some (aR (some (13, p2, 0))), some (aI (iZ x3))], [aI (iZ x1)], am_hp σ, t)) rfl rfl ?_
  exact w_ifne rfl h1 rfl w2 w3

theorem b_X5_choose_46 {x1 : Int} {p2 : Nat} {x3 : Int} {σ σ1 : SG} {t : KT} (c1 : Ca d 29 [aR (some (18, 0, 0))] (am_hp σ) t (.inl none, am_hp σ1, t)) (w2 : Wp k_X5_choose d (57, [some (aR (some (18, 0, 0))), some (aI (iZ x1)), some (aR (some (13, p2, 0))), some (aI (iZ x3))], [], am_hp σ1, t) Q) : Wp k_X5_choose d (46, [some (aR (some (18, 0, 0))), some (aI (iZ x1)), some (aR (some (13, p2, 0))), some (aI (iZ x3))], [], am_hp σ, t) Q := by
  refine w_s (c' := (47, [some (aR (some (18, 0, 0))), some (aI (iZ x1)), some (aR (some (13, p2, 0))), some (aI (iZ x3))], [aR (some (18, 0, 0))], am_hp σ, t)) rfl rfl ?_
  refine w_c0 (c' := (50, [some (aR (some (18, 0, 0))), some (aI (iZ x1)), some (aR (some (13, p2, 0))), some (aI (iZ x3))], [], am_hp σ1, t)) rfl rfl (rcv_of (hp_18 _ 0)) rfl c1 (Nat.le_refl _) rfl ?_
  refine w_s (c' := (57, [some (aR (some (18, 0, 0))), some (aI (iZ x1)), some (aR (some (13, p2, 0))), some (aI (iZ x3))], [], am_hp σ1, t)) rfl rfl ?_
  exact w2

theorem b_X5_choose_53 {x1 : Int} {p2 : Nat} {x3 : Int} {σ σ1 : SG} {t : KT} (c1 : Ca d 30 [aR (some (18, 0, 0))] (am_hp σ) t (.inl none, am_hp σ1, t)) (w2 : Wp k_X5_choose d (57, [some (aR (some (18, 0, 0))), some (aI (iZ x1)), some (aR (some (13, p2, 0))), some (aI (iZ x3))], [], am_hp σ1, t) Q) : Wp k_X5_choose d (53, [some (aR (some (18, 0, 0))), some (aI (iZ x1)), some (aR (some (13, p2, 0))), some (aI (iZ x3))], [], am_hp σ, t) Q := by
  refine w_s (c' := (54, [some (aR (some (18, 0, 0))), some (aI (iZ x1)), some (aR (some (13, p2, 0))), some (aI (iZ x3))], [aR (some (18, 0, 0))], am_hp σ, t)) rfl rfl ?_
  refine w_c0 (c' := (57, [some (aR (some (18, 0, 0))), some (aI (iZ x1)), some (aR (some (13, p2, 0))), some (aI (iZ x3))], [], am_hp σ1, t)) rfl rfl (rcv_of (hp_18 _ 0)) rfl c1 (Nat.le_refl _) rfl ?_
  exact w2

theorem b_X5_choose_57 {x1 : Int} {p2 : Nat} {x3 : Int} {σ : SG} {t : KT} (q1 : Q (.inl none, am_hp σ, t)) : Wp k_X5_choose d (57, [some (aR (some (18, 0, 0))), some (aI (iZ x1)), some (aR (some (13, p2, 0))), some (aI (iZ x3))], [], am_hp σ, t) Q := by
  exact w_f rfl rfl q1

theorem b_X5_chooseLowest_0 {σ : SG} {t : KT} (w1 : Wp k_X5_chooseLowest d (2, [some (aR (some (18, 0, 0))), some (aI (iZ 0)), none], [], am_hp σ, t) Q) : Wp k_X5_chooseLowest d (0, [some (aR (some (18, 0, 0))), none, none], [], am_hp σ, t) Q := by
  refine w_psh rfl zc_0 rfl ?_
  refine w_s (c' := (2, [some (aR (some (18, 0, 0))), some (aI (iZ 0)), none], [], am_hp σ, t)) rfl rfl ?_
  exact w1

theorem e_X5_chooseLowest {h : AH} {t : KT} {d : Nat} {P : RS → Prop} (w : Wp k_X5_chooseLowest d (0, [some (aR (some (18, 0, 0))), none, none], [], h, t) P) : ∃ r, Ca (d + 1) 29 [aR (some (18, 0, 0))] h t r ∧ P r := ca_W rfl rfl rfl rfl w

theorem b_X5_chooseLowest_2 {x1 : Int} {u2 : Option AV} {σ : SG} {t : KT} (h1 : -2147483648 ≤ x1 ∧ x1 < 2147483648) (h2 : -2147483648 ≤ σ.1 (18, 0, 0) 6 ∧ σ.1 (18, 0, 0) 6 < 2147483648) (w3 : σ.1 (18, 0, 0) 6 ≤ x1 → Wp k_X5_chooseLowest d (46, [some (aR (some (18, 0, 0))), some (aI (iZ x1)), u2], [], am_hp σ, t) Q) (w4 : x1 < σ.1 (18, 0, 0) 6 → Wp k_X5_chooseLowest d (10, [some (aR (some (18, 0, 0))), some (aI (iZ x1)), u2], [], am_hp σ, t) Q) : Wp k_X5_chooseLowest d (2, [some (aR (some (18, 0, 0))), some (aI (iZ x1)), u2], [], am_hp σ, t) Q := by
  refine w_s (c' := (3, [some (aR (some (18, 0, 0))), some (aI (iZ x1)), u2], [aI (iZ x1)], am_hp σ, t)) rfl rfl ?_
  refine w_s (c' := (4, [some (aR (some (18, 0, 0))), some (aI (iZ x1)), u2], [aR (some (18, 0, 0)), aI (iZ x1)], am_hp σ, t)) rfl rfl ?_
  refine w_get rfl (hp_18 _ 0) rfl rfl ?_
  exact w_icge rfl h1 h2 rfl w3 w4

theorem b_X5_chooseLowest_10 {x1 : Int} {u2 : Option AV} {σ : SG} {t : KT} (w1 : Wp k_X5_chooseLowest d (12, [some (aR (some (18, 0, 0))), some (aI (iZ x1)), some (aI (iZ 0))], [], am_hp σ, t) Q) : Wp k_X5_chooseLowest d (10, [some (aR (some (18, 0, 0))), some (aI (iZ x1)), u2], [], am_hp σ, t) Q := by
  refine w_psh rfl zc_0 rfl ?_
  refine w_s (c' := (12, [some (aR (some (18, 0, 0))), some (aI (iZ x1)), some (aI (iZ 0))], [], am_hp σ, t)) rfl rfl ?_
  exact w1

theorem b_X5_chooseLowest_12 {x1 : Int} {x2 : Int} {σ : SG} {t : KT} (h1 : -2147483648 ≤ x2 ∧ x2 < 2147483648) (w2 : 8 ≤ x2 → Wp k_X5_chooseLowest d (33, [some (aR (some (18, 0, 0))), some (aI (iZ x1)), some (aI (iZ x2))], [], am_hp σ, t) Q) (w3 : x2 < 8 → Wp k_X5_chooseLowest d (18, [some (aR (some (18, 0, 0))), some (aI (iZ x1)), some (aI (iZ x2))], [], am_hp σ, t) Q) : Wp k_X5_chooseLowest d (12, [some (aR (some (18, 0, 0))), some (aI (iZ x1)), some (aI (iZ x2))], [], am_hp σ, t) Q := by
  refine w_s (c' := (13, [some (aR (some (18, 0, 0))), some (aI (iZ x1)), some (aI (iZ x2))], [aI (iZ x2)], am_hp σ, t)) rfl rfl ?_
  refine w_psh rfl zc_8 rfl ?_
  exact w_icge rfl h1 (by decide) rfl w2 w3

theorem b_X5_chooseLowest_18 {x1 : Int} {x2 : Int} {r1 : Int} {σ σ1 : SG} {t : KT} (c1 : Ca d 27 [aR (some (18, 0, 0)), aI (iZ x1), aI (iZ x2)] (am_hp σ) t (.inl (some (aI (iZ r1))), am_hp σ1, t)) (h2 : -2147483648 ≤ r1 ∧ r1 < 2147483648) (w3 : r1 ≠ 0 → Wp k_X5_chooseLowest d (33, [some (aR (some (18, 0, 0))), some (aI (iZ x1)), some (aI (iZ x2))], [], am_hp σ1, t) Q) (w4 : r1 = 0 → Wp k_X5_chooseLowest d (27, [some (aR (some (18, 0, 0))), some (aI (iZ x1)), some (aI (iZ x2))], [], am_hp σ1, t) Q) : Wp k_X5_chooseLowest d (18, [some (aR (some (18, 0, 0))), some (aI (iZ x1)), some (aI (iZ x2))], [], am_hp σ, t) Q := by
  refine w_s (c' := (19, [some (aR (some (18, 0, 0))), some (aI (iZ x1)), some (aI (iZ x2))], [aR (some (18, 0, 0))], am_hp σ, t)) rfl rfl ?_
  refine w_s (c' := (20, [some (aR (some (18, 0, 0))), some (aI (iZ x1)), some (aI (iZ x2))], [aI (iZ x1), aR (some (18, 0, 0))], am_hp σ, t)) rfl rfl ?_
  refine w_s (c' := (21, [some (aR (some (18, 0, 0))), some (aI (iZ x1)), some (aI (iZ x2))], [aI (iZ x2), aI (iZ x1), aR (some (18, 0, 0))], am_hp σ, t)) rfl rfl ?_
  refine w_c0 (c' := (24, [some (aR (some (18, 0, 0))), some (aI (iZ x1)), some (aI (iZ x2))], [aI (iZ r1)], am_hp σ1, t)) rfl rfl (rcv_of (hp_18 _ 0)) rfl c1 (Nat.le_refl _) rfl ?_
  exact w_ifne rfl h2 rfl w3 w4

theorem b_X5_chooseLowest_27 {x1 : Int} {x2 : Int} {σ : SG} {t : KT} (w1 : Wp k_X5_chooseLowest d (12, [some (aR (some (18, 0, 0))), some (aI (iZ x1)), some (aI (iZ (x2 + 1)))], [], am_hp σ, t) Q) : Wp k_X5_chooseLowest d (27, [some (aR (some (18, 0, 0))), some (aI (iZ x1)), some (aI (iZ x2))], [], am_hp σ, t) Q := by
  refine w_inc (a := x2) (ls' := [some (aR (some (18, 0, 0))), some (aI (iZ x1)), some (aI (iZ (x2 + 1)))]) rfl rfl rfl zc_1 rfl rfl ?_
  refine w_s (c' := (12, [some (aR (some (18, 0, 0))), some (aI (iZ x1)), some (aI (iZ (x2 + 1)))], [], am_hp σ, t)) rfl rfl ?_
  exact w1

theorem b_X5_chooseLowest_33 {x1 : Int} {x2 : Int} {σ : SG} {t : KT} (h1 : 0 ≤ x1 ∧ x1 < 120) (w2 : Wp k_X5_chooseLowest d (2, [some (aR (some (18, 0, 0))), some (aI (iZ (x1 + 1))), some (aI (iZ x2))], [], am_hp ((sI σ (21, 0, 0) (up (σ.1 (21, 0, 0)) x1.toNat x2))), t) Q) : Wp k_X5_chooseLowest d (33, [some (aR (some (18, 0, 0))), some (aI (iZ x1)), some (aI (iZ x2))], [], am_hp σ, t) Q := by
  refine w_s (c' := (34, [some (aR (some (18, 0, 0))), some (aI (iZ x1)), some (aI (iZ x2))], [aR (some (18, 0, 0))], am_hp σ, t)) rfl rfl ?_
  refine w_get rfl (hp_18 _ 0) rfl rfl ?_
  refine w_s (c' := (38, [some (aR (some (18, 0, 0))), some (aI (iZ x1)), some (aI (iZ x2))], [aI (iZ x1), aR (some (21, 0, 0))], am_hp σ, t)) rfl rfl ?_
  refine w_s (c' := (39, [some (aR (some (18, 0, 0))), some (aI (iZ x1)), some (aI (iZ x2))], [aI (iZ x2), aI (iZ x1), aR (some (21, 0, 0))], am_hp σ, t)) rfl rfl ?_
  refine w_ias rfl (mk_21 _ 0 0) h1 rfl rfl rfl ?_
  refine w_inc (a := x1) (ls' := [some (aR (some (18, 0, 0))), some (aI (iZ (x1 + 1))), some (aI (iZ x2))]) rfl rfl rfl zc_1 rfl rfl ?_
  refine w_s (c' := (2, [some (aR (some (18, 0, 0))), some (aI (iZ (x1 + 1))), some (aI (iZ x2))], [], am_hp ((sI σ (21, 0, 0) (up (σ.1 (21, 0, 0)) x1.toNat x2))), t)) rfl rfl ?_
  exact w2

theorem b_X5_chooseLowest_46 {x1 : Int} {u2 : Option AV} {σ : SG} {t : KT} (q1 : Q (.inl none, am_hp σ, t)) : Wp k_X5_chooseLowest d (46, [some (aR (some (18, 0, 0))), some (aI (iZ x1)), u2], [], am_hp σ, t) Q := by
  exact w_f rfl rfl q1

theorem b_X5_chooseCheapest_0 {σ : SG} {t : KT} (h1 : 0 ≤ σ.1 (18, 0, 0) 6 ∧ σ.1 (18, 0, 0) 6 < 121) (w2 : Wp k_X5_chooseCheapest d (17, [some (aR (some (18, 0, 0))), some (aI (iZ ((((sI σ (22, 0, 0) (up (σ.1 (22, 0, 0)) (σ.1 (18, 0, 0) 6).toNat 0))).1 (18, 0, 0) 6) - 1))), none, none], [], am_hp ((sI σ (22, 0, 0) (up (σ.1 (22, 0, 0)) (σ.1 (18, 0, 0) 6).toNat 0))), t) Q) : Wp k_X5_chooseCheapest d (0, [some (aR (some (18, 0, 0))), none, none, none], [], am_hp σ, t) Q := by
  refine w_s (c' := (1, [some (aR (some (18, 0, 0))), none, none, none], [aR (some (18, 0, 0))], am_hp σ, t)) rfl rfl ?_
  refine w_get rfl (hp_18 _ 0) rfl rfl ?_
  refine w_s (c' := (5, [some (aR (some (18, 0, 0))), none, none, none], [aR (some (18, 0, 0)), aR (some (22, 0, 0))], am_hp σ, t)) rfl rfl ?_
  refine w_get rfl (hp_18 _ 0) rfl rfl ?_
  refine w_psh rfl zc_0 rfl ?_
  refine w_ias rfl (mk_22 _ 0 0) h1 rfl rfl rfl ?_
  refine w_s (c' := (11, [some (aR (some (18, 0, 0))), none, none, none], [aR (some (18, 0, 0))], am_hp ((sI σ (22, 0, 0) (up (σ.1 (22, 0, 0)) (σ.1 (18, 0, 0) 6).toNat 0))), t)) rfl rfl ?_
  refine w_get rfl (hp_18 _ 0) rfl rfl ?_
  refine w_psh rfl zc_1 rfl ?_
  refine w_isub rfl rfl ?_
  refine w_s (c' := (17, [some (aR (some (18, 0, 0))), some (aI (iZ ((((sI σ (22, 0, 0) (up (σ.1 (22, 0, 0)) (σ.1 (18, 0, 0) 6).toNat 0))).1 (18, 0, 0) 6) - 1))), none, none], [], am_hp ((sI σ (22, 0, 0) (up (σ.1 (22, 0, 0)) (σ.1 (18, 0, 0) 6).toNat 0))), t)) rfl rfl ?_
  exact w2

theorem e_X5_chooseCheapest {h : AH} {t : KT} {d : Nat} {P : RS → Prop} (w : Wp k_X5_chooseCheapest d (0, [some (aR (some (18, 0, 0))), none, none, none], [], h, t) P) : ∃ r, Ca (d + 1) 30 [aR (some (18, 0, 0))] h t r ∧ P r := ca_W rfl rfl rfl rfl w

theorem b_X5_chooseCheapest_17 {x1 : Int} {u2 : Option AV} {u3 : Option AV} {σ : SG} {t : KT} (h1 : -2147483648 ≤ x1 ∧ x1 < 2147483648) (w2 : x1 < 0 → Wp k_X5_chooseCheapest d (108, [some (aR (some (18, 0, 0))), some (aI (iZ x1)), u2, u3], [], am_hp σ, t) Q) (w3 : 0 ≤ x1 → Wp k_X5_chooseCheapest d (21, [some (aR (some (18, 0, 0))), some (aI (iZ x1)), u2, u3], [], am_hp σ, t) Q) : Wp k_X5_chooseCheapest d (17, [some (aR (some (18, 0, 0))), some (aI (iZ x1)), u2, u3], [], am_hp σ, t) Q := by
  refine w_s (c' := (18, [some (aR (some (18, 0, 0))), some (aI (iZ x1)), u2, u3], [aI (iZ x1)], am_hp σ, t)) rfl rfl ?_
  exact w_iflt rfl h1 rfl w2 w3

theorem b_X5_chooseCheapest_21 {x1 : Int} {u2 : Option AV} {u3 : Option AV} {σ : SG} {t : KT} (h1 : 0 ≤ x1 ∧ x1 < 121) (w2 : Wp k_X5_chooseCheapest d (31, [some (aR (some (18, 0, 0))), some (aI (iZ x1)), some (aI (iZ 0)), u3], [], am_hp ((sI σ (22, 0, 0) (up (σ.1 (22, 0, 0)) x1.toNat 1073741824))), t) Q) : Wp k_X5_chooseCheapest d (21, [some (aR (some (18, 0, 0))), some (aI (iZ x1)), u2, u3], [], am_hp σ, t) Q := by
  refine w_s (c' := (22, [some (aR (some (18, 0, 0))), some (aI (iZ x1)), u2, u3], [aR (some (18, 0, 0))], am_hp σ, t)) rfl rfl ?_
  refine w_get rfl (hp_18 _ 0) rfl rfl ?_
  refine w_s (c' := (26, [some (aR (some (18, 0, 0))), some (aI (iZ x1)), u2, u3], [aI (iZ x1), aR (some (22, 0, 0))], am_hp σ, t)) rfl rfl ?_
  refine w_psh rfl zc_1073741824 rfl ?_
  refine w_ias rfl (mk_22 _ 0 0) h1 rfl rfl rfl ?_
  refine w_psh rfl zc_0 rfl ?_
  refine w_s (c' := (31, [some (aR (some (18, 0, 0))), some (aI (iZ x1)), some (aI (iZ 0)), u3], [], am_hp ((sI σ (22, 0, 0) (up (σ.1 (22, 0, 0)) x1.toNat 1073741824))), t)) rfl rfl ?_
  exact w2

theorem b_X5_chooseCheapest_31 {x1 : Int} {x2 : Int} {u3 : Option AV} {σ : SG} {t : KT} (h1 : -2147483648 ≤ x2 ∧ x2 < 2147483648) (w2 : 9 ≤ x2 → Wp k_X5_chooseCheapest d (102, [some (aR (some (18, 0, 0))), some (aI (iZ x1)), some (aI (iZ x2)), u3], [], am_hp σ, t) Q) (w3 : x2 < 9 → Wp k_X5_chooseCheapest d (37, [some (aR (some (18, 0, 0))), some (aI (iZ x1)), some (aI (iZ x2)), u3], [], am_hp σ, t) Q) : Wp k_X5_chooseCheapest d (31, [some (aR (some (18, 0, 0))), some (aI (iZ x1)), some (aI (iZ x2)), u3], [], am_hp σ, t) Q := by
  refine w_s (c' := (32, [some (aR (some (18, 0, 0))), some (aI (iZ x1)), some (aI (iZ x2)), u3], [aI (iZ x2)], am_hp σ, t)) rfl rfl ?_
  refine w_psh rfl zc_9 rfl ?_
  exact w_icge rfl h1 (by decide) rfl w2 w3

theorem b_X5_chooseCheapest_37 {x1 : Int} {x2 : Int} {u3 : Option AV} {r1 : Int} {σ σ1 : SG} {t : KT} (c1 : Ca d 27 [aR (some (18, 0, 0)), aI (iZ x1), aI (iZ x2)] (am_hp σ) t (.inl (some (aI (iZ r1))), am_hp σ1, t)) (h2 : -2147483648 ≤ r1 ∧ r1 < 2147483648) (w3 : r1 = 0 → Wp k_X5_chooseCheapest d (96, [some (aR (some (18, 0, 0))), some (aI (iZ x1)), some (aI (iZ x2)), u3], [], am_hp σ1, t) Q) (w4 : r1 ≠ 0 → Wp k_X5_chooseCheapest d (46, [some (aR (some (18, 0, 0))), some (aI (iZ x1)), some (aI (iZ x2)), u3], [], am_hp σ1, t) Q) : Wp k_X5_chooseCheapest d (37, [some (aR (some (18, 0, 0))), some (aI (iZ x1)), some (aI (iZ x2)), u3], [], am_hp σ, t) Q := by
  refine w_s (c' := (38, [some (aR (some (18, 0, 0))), some (aI (iZ x1)), some (aI (iZ x2)), u3], [aR (some (18, 0, 0))], am_hp σ, t)) rfl rfl ?_
  refine w_s (c' := (39, [some (aR (some (18, 0, 0))), some (aI (iZ x1)), some (aI (iZ x2)), u3], [aI (iZ x1), aR (some (18, 0, 0))], am_hp σ, t)) rfl rfl ?_
  refine w_s (c' := (40, [some (aR (some (18, 0, 0))), some (aI (iZ x1)), some (aI (iZ x2)), u3], [aI (iZ x2), aI (iZ x1), aR (some (18, 0, 0))], am_hp σ, t)) rfl rfl ?_
  refine w_c0 (c' := (43, [some (aR (some (18, 0, 0))), some (aI (iZ x1)), some (aI (iZ x2)), u3], [aI (iZ r1)], am_hp σ1, t)) rfl rfl (rcv_of (hp_18 _ 0)) rfl c1 (Nat.le_refl _) rfl ?_
  exact w_ifeq rfl h2 rfl w3 w4

theorem b_X5_chooseCheapest_46 {x1 : Int} {x2 : Int} {u3 : Option AV} {r1 : Int} {σ σ1 : SG} {t : KT} (h1 : 0 ≤ x2 ∧ x2 < 9) (c2 : Ca d 143 [aI (iZ x2)] (am_hp σ) t (.inl (some (aI (iZ r1))), am_hp σ1, t)) (h3 : -2147483648 ≤ x1 + r1 ∧ x1 + r1 < 2147483648) (h4 : -2147483648 ≤ σ1.1 (18, 0, 0) 6 ∧ σ1.1 (18, 0, 0) 6 < 2147483648) (h5 : 0 ≤ min (x1 + r1) (σ1.1 (18, 0, 0) 6) ∧ min (x1 + r1) (σ1.1 (18, 0, 0) 6) < 121) (h6 : 0 ≤ x1 ∧ x1 < 121) (h7 : -2147483648 ≤ (σ.1 (23, 0, 0) x2.toNat) + (σ1.1 (22, 0, 0) (min (x1 + r1) (σ1.1 (18, 0, 0) 6)).toNat) ∧ (σ.1 (23, 0, 0) x2.toNat) + (σ1.1 (22, 0, 0) (min (x1 + r1) (σ1.1 (18, 0, 0) 6)).toNat) < 2147483648) (h8 : -2147483648 ≤ σ1.1 (22, 0, 0) x1.toNat ∧ σ1.1 (22, 0, 0) x1.toNat < 2147483648) (w9 : σ1.1 (22, 0, 0) x1.toNat ≤ (σ.1 (23, 0, 0) x2.toNat) + (σ1.1 (22, 0, 0) (min (x1 + r1) (σ1.1 (18, 0, 0) 6)).toNat) → Wp k_X5_chooseCheapest d (96, [some (aR (some (18, 0, 0))), some (aI (iZ x1)), some (aI (iZ x2)), some (aI (iZ ((σ.1 (23, 0, 0) x2.toNat) + (σ1.1 (22, 0, 0) (min (x1 + r1) (σ1.1 (18, 0, 0) 6)).toNat))))], [], am_hp σ1, t) Q) (w10 : (σ.1 (23, 0, 0) x2.toNat) + (σ1.1 (22, 0, 0) (min (x1 + r1) (σ1.1 (18, 0, 0) 6)).toNat) < σ1.1 (22, 0, 0) x1.toNat → Wp k_X5_chooseCheapest d (82, [some (aR (some (18, 0, 0))), some (aI (iZ x1)), some (aI (iZ x2)), some (aI (iZ ((σ.1 (23, 0, 0) x2.toNat) + (σ1.1 (22, 0, 0) (min (x1 + r1) (σ1.1 (18, 0, 0) 6)).toNat))))], [], am_hp σ1, t) Q) : Wp k_X5_chooseCheapest d (46, [some (aR (some (18, 0, 0))), some (aI (iZ x1)), some (aI (iZ x2)), u3], [], am_hp σ, t) Q := by
  refine w_s (c' := (47, [some (aR (some (18, 0, 0))), some (aI (iZ x1)), some (aI (iZ x2)), u3], [aR (some (18, 0, 0))], am_hp σ, t)) rfl rfl ?_
  refine w_get rfl (hp_18 _ 0) rfl rfl ?_
  refine w_s (c' := (51, [some (aR (some (18, 0, 0))), some (aI (iZ x1)), some (aI (iZ x2)), u3], [aI (iZ x2), aR (some (23, 0, 0))], am_hp σ, t)) rfl rfl ?_
  refine w_ial rfl (hp_23 _ 0 0) h1 rfl rfl ?_
  refine w_s (c' := (53, [some (aR (some (18, 0, 0))), some (aI (iZ x1)), some (aI (iZ x2)), u3], [aR (some (18, 0, 0)), aI (iZ (σ.1 (23, 0, 0) x2.toNat))], am_hp σ, t)) rfl rfl ?_
  refine w_get rfl (hp_18 _ 0) rfl rfl ?_
  refine w_s (c' := (57, [some (aR (some (18, 0, 0))), some (aI (iZ x1)), some (aI (iZ x2)), u3], [aI (iZ x1), aR (some (22, 0, 0)), aI (iZ (σ.1 (23, 0, 0) x2.toNat))], am_hp σ, t)) rfl rfl ?_
  refine w_s (c' := (58, [some (aR (some (18, 0, 0))), some (aI (iZ x1)), some (aI (iZ x2)), u3], [aI (iZ x2), aI (iZ x1), aR (some (22, 0, 0)), aI (iZ (σ.1 (23, 0, 0) x2.toNat))], am_hp σ, t)) rfl rfl ?_
  refine w_c0 (c' := (61, [some (aR (some (18, 0, 0))), some (aI (iZ x1)), some (aI (iZ x2)), u3], [aI (iZ r1), aI (iZ x1), aR (some (22, 0, 0)), aI (iZ (σ.1 (23, 0, 0) x2.toNat))], am_hp σ1, t)) rfl rfl rfl rfl c2 (Nat.le_refl _) rfl ?_
  refine w_iadd rfl rfl ?_
  refine w_s (c' := (63, [some (aR (some (18, 0, 0))), some (aI (iZ x1)), some (aI (iZ x2)), u3], [aR (some (18, 0, 0)), aI (iZ (x1 + r1)), aR (some (22, 0, 0)), aI (iZ (σ.1 (23, 0, 0) x2.toNat))], am_hp σ1, t)) rfl rfl ?_
  refine w_get rfl (hp_18 _ 0) rfl rfl ?_
  refine w_min rfl h3 h4 rfl rfl ?_
  refine w_ial rfl (hp_22 _ 0 0) h5 rfl rfl ?_
  refine w_iadd rfl rfl ?_
  refine w_s (c' := (72, [some (aR (some (18, 0, 0))), some (aI (iZ x1)), some (aI (iZ x2)), some (aI (iZ ((σ.1 (23, 0, 0) x2.toNat) + (σ1.1 (22, 0, 0) (min (x1 + r1) (σ1.1 (18, 0, 0) 6)).toNat))))], [], am_hp σ1, t)) rfl rfl ?_
  refine w_s (c' := (73, [some (aR (some (18, 0, 0))), some (aI (iZ x1)), some (aI (iZ x2)), some (aI (iZ ((σ.1 (23, 0, 0) x2.toNat) + (σ1.1 (22, 0, 0) (min (x1 + r1) (σ1.1 (18, 0, 0) 6)).toNat))))], [aI (iZ ((σ.1 (23, 0, 0) x2.toNat) + (σ1.1 (22, 0, 0) (min (x1 + r1) (σ1.1 (18, 0, 0) 6)).toNat)))], am_hp σ1, t)) rfl rfl ?_
  refine w_s (c' := (74, [some (aR (some (18, 0, 0))), some (aI (iZ x1)), some (aI (iZ x2)), some (aI (iZ ((σ.1 (23, 0, 0) x2.toNat) + (σ1.1 (22, 0, 0) (min (x1 + r1) (σ1.1 (18, 0, 0) 6)).toNat))))], [aR (some (18, 0, 0)), aI (iZ ((σ.1 (23, 0, 0) x2.toNat) + (σ1.1 (22, 0, 0) (min (x1 + r1) (σ1.1 (18, 0, 0) 6)).toNat)))], am_hp σ1, t)) rfl rfl ?_
  refine w_get rfl (hp_18 _ 0) rfl rfl ?_
  refine w_s (c' := (78, [some (aR (some (18, 0, 0))), some (aI (iZ x1)), some (aI (iZ x2)), some (aI (iZ ((σ.1 (23, 0, 0) x2.toNat) + (σ1.1 (22, 0, 0) (min (x1 + r1) (σ1.1 (18, 0, 0) 6)).toNat))))], [aI (iZ x1), aR (some (22, 0, 0)), aI (iZ ((σ.1 (23, 0, 0) x2.toNat) + (σ1.1 (22, 0, 0) (min (x1 + r1) (σ1.1 (18, 0, 0) 6)).toNat)))], am_hp σ1, t)) rfl rfl ?_
  refine w_ial rfl (hp_22 _ 0 0) h6 rfl rfl ?_
  exact w_icge rfl h7 h8 rfl w9 w10

theorem b_X5_chooseCheapest_82 {x1 : Int} {x2 : Int} {x3 : Int} {σ : SG} {t : KT} (h1 : 0 ≤ x1 ∧ x1 < 121) (h2 : 0 ≤ x1 ∧ x1 < 120) (w3 : Wp k_X5_chooseCheapest d (96, [some (aR (some (18, 0, 0))), some (aI (iZ x1)), some (aI (iZ x2)), some (aI (iZ x3))], [], am_hp ((sI (sI σ (22, 0, 0) (up (σ.1 (22, 0, 0)) x1.toNat x3)) (21, 0, 0) (up (((sI σ (22, 0, 0) (up (σ.1 (22, 0, 0)) x1.toNat x3))).1 (21, 0, 0)) x1.toNat x2))), t) Q) : Wp k_X5_chooseCheapest d (82, [some (aR (some (18, 0, 0))), some (aI (iZ x1)), some (aI (iZ x2)), some (aI (iZ x3))], [], am_hp σ, t) Q := by
  refine w_s (c' := (83, [some (aR (some (18, 0, 0))), some (aI (iZ x1)), some (aI (iZ x2)), some (aI (iZ x3))], [aR (some (18, 0, 0))], am_hp σ, t)) rfl rfl ?_
  refine w_get rfl (hp_18 _ 0) rfl rfl ?_
  refine w_s (c' := (87, [some (aR (some (18, 0, 0))), some (aI (iZ x1)), some (aI (iZ x2)), some (aI (iZ x3))], [aI (iZ x1), aR (some (22, 0, 0))], am_hp σ, t)) rfl rfl ?_
  refine w_s (c' := (88, [some (aR (some (18, 0, 0))), some (aI (iZ x1)), some (aI (iZ x2)), some (aI (iZ x3))], [aI (iZ x3), aI (iZ x1), aR (some (22, 0, 0))], am_hp σ, t)) rfl rfl ?_
  refine w_ias rfl (mk_22 _ 0 0) h1 rfl rfl rfl ?_
  refine w_s (c' := (90, [some (aR (some (18, 0, 0))), some (aI (iZ x1)), some (aI (iZ x2)), some (aI (iZ x3))], [aR (some (18, 0, 0))], am_hp ((sI σ (22, 0, 0) (up (σ.1 (22, 0, 0)) x1.toNat x3))), t)) rfl rfl ?_
  refine w_get rfl (hp_18 _ 0) rfl rfl ?_
  refine w_s (c' := (94, [some (aR (some (18, 0, 0))), some (aI (iZ x1)), some (aI (iZ x2)), some (aI (iZ x3))], [aI (iZ x1), aR (some (21, 0, 0))], am_hp ((sI σ (22, 0, 0) (up (σ.1 (22, 0, 0)) x1.toNat x3))), t)) rfl rfl ?_
  refine w_s (c' := (95, [some (aR (some (18, 0, 0))), some (aI (iZ x1)), some (aI (iZ x2)), some (aI (iZ x3))], [aI (iZ x2), aI (iZ x1), aR (some (21, 0, 0))], am_hp ((sI σ (22, 0, 0) (up (σ.1 (22, 0, 0)) x1.toNat x3))), t)) rfl rfl ?_
  refine w_ias rfl (mk_21 _ 0 0) h2 rfl rfl rfl ?_
  exact w3

theorem b_X5_chooseCheapest_96 {x1 : Int} {x2 : Int} {u3 : Option AV} {σ : SG} {t : KT} (w1 : Wp k_X5_chooseCheapest d (31, [some (aR (some (18, 0, 0))), some (aI (iZ x1)), some (aI (iZ (x2 + 1))), u3], [], am_hp σ, t) Q) : Wp k_X5_chooseCheapest d (96, [some (aR (some (18, 0, 0))), some (aI (iZ x1)), some (aI (iZ x2)), u3], [], am_hp σ, t) Q := by
  refine w_inc (a := x2) (ls' := [some (aR (some (18, 0, 0))), some (aI (iZ x1)), some (aI (iZ (x2 + 1))), u3]) rfl rfl rfl zc_1 rfl rfl ?_
  refine w_s (c' := (31, [some (aR (some (18, 0, 0))), some (aI (iZ x1)), some (aI (iZ (x2 + 1))), u3], [], am_hp σ, t)) rfl rfl ?_
  exact w1

theorem b_X5_chooseCheapest_102 {x1 : Int} {x2 : Int} {u3 : Option AV} {σ : SG} {t : KT} (w1 : Wp k_X5_chooseCheapest d (17, [some (aR (some (18, 0, 0))), some (aI (iZ (x1 + (-1)))), some (aI (iZ x2)), u3], [], am_hp σ, t) Q) : Wp k_X5_chooseCheapest d (102, [some (aR (some (18, 0, 0))), some (aI (iZ x1)), some (aI (iZ x2)), u3], [], am_hp σ, t) Q := by
  refine w_inc (a := x1) (ls' := [some (aR (some (18, 0, 0))), some (aI (iZ (x1 + (-1)))), some (aI (iZ x2)), u3]) rfl rfl rfl zc_m1 rfl rfl ?_
  refine w_s (c' := (17, [some (aR (some (18, 0, 0))), some (aI (iZ (x1 + (-1)))), some (aI (iZ x2)), u3], [], am_hp σ, t)) rfl rfl ?_
  exact w1

theorem b_X5_chooseCheapest_108 {x1 : Int} {u2 : Option AV} {u3 : Option AV} {σ : SG} {t : KT} (q1 : Q (.inl none, am_hp σ, t)) : Wp k_X5_chooseCheapest d (108, [some (aR (some (18, 0, 0))), some (aI (iZ x1)), u2, u3], [], am_hp σ, t) Q := by
  exact w_f rfl rfl q1

theorem b_X5_canGetBelow_0 {x1 : Int} {x2 : Int} {σ : SG} {t : KT} (h1 : -2147483648 ≤ x2 ∧ x2 < 2147483648) (w2 : x2 < 0 → Wp k_X5_canGetBelow d (10, [some (aR (some (18, 0, 0))), some (aI (iZ x1)), some (aI (iZ x2)), none, none, none], [], am_hp σ, t) Q) (w3 : 0 ≤ x2 → Wp k_X5_canGetBelow d (4, [some (aR (some (18, 0, 0))), some (aI (iZ x1)), some (aI (iZ x2)), none, none, none], [], am_hp σ, t) Q) : Wp k_X5_canGetBelow d (0, [some (aR (some (18, 0, 0))), some (aI (iZ x1)), some (aI (iZ x2)), none, none, none], [], am_hp σ, t) Q := by
  refine w_s (c' := (1, [some (aR (some (18, 0, 0))), some (aI (iZ x1)), some (aI (iZ x2)), none, none, none], [aI (iZ x2)], am_hp σ, t)) rfl rfl ?_
  exact w_iflt rfl h1 rfl w2 w3

theorem e_X5_canGetBelow {x1 : Int} {x2 : Int} {h : AH} {t : KT} {d : Nat} {P : RS → Prop} (w : Wp k_X5_canGetBelow d (0, [some (aR (some (18, 0, 0))), some (aI (iZ x1)), some (aI (iZ x2)), none, none, none], [], h, t) P) : ∃ r, Ca (d + 1) 31 [aR (some (18, 0, 0)), aI (iZ x1), aI (iZ x2)] h t r ∧ P r := ca_W rfl rfl rfl rfl w

theorem b_X5_canGetBelow_4 {x1 : Int} {x2 : Int} {σ : SG} {t : KT} (h1 : -2147483648 ≤ x2 ∧ x2 < 2147483648) (w2 : x2 < 9 → Wp k_X5_canGetBelow d (12, [some (aR (some (18, 0, 0))), some (aI (iZ x1)), some (aI (iZ x2)), none, none, none], [], am_hp σ, t) Q) (w3 : 9 ≤ x2 → Wp k_X5_canGetBelow d (10, [some (aR (some (18, 0, 0))), some (aI (iZ x1)), some (aI (iZ x2)), none, none, none], [], am_hp σ, t) Q) : Wp k_X5_canGetBelow d (4, [some (aR (some (18, 0, 0))), some (aI (iZ x1)), some (aI (iZ x2)), none, none, none], [], am_hp σ, t) Q := by
  refine w_s (c' := (5, [some (aR (some (18, 0, 0))), some (aI (iZ x1)), some (aI (iZ x2)), none, none, none], [aI (iZ x2)], am_hp σ, t)) rfl rfl ?_
  refine w_psh rfl zc_9 rfl ?_
  exact w_iclt rfl h1 (by decide) rfl w2 w3

theorem b_X5_canGetBelow_10 {x1 : Int} {x2 : Int} {σ : SG} {t : KT} (q1 : Q (.inl (some (aI (iZ 0))), am_hp σ, t)) : Wp k_X5_canGetBelow d (10, [some (aR (some (18, 0, 0))), some (aI (iZ x1)), some (aI (iZ x2)), none, none, none], [], am_hp σ, t) Q := by
  refine w_psh rfl zc_0 rfl ?_
  exact w_ret rfl (frt_b (by decide)) q1

theorem b_X5_canGetBelow_12 {x1 : Int} {x2 : Int} {σ : SG} {t : KT} (h1 : 0 ≤ x2 ∧ x2 < 9) (w2 : Wp k_X5_canGetBelow d (25, [some (aR (some (18, 0, 0))), some (aI (iZ x1)), some (aI (iZ x2)), some (aI (iZ (σ.1 (23, 0, 0) x2.toNat))), some (aI (iZ 0)), some (aI (iZ 0))], [], am_hp σ, t) Q) : Wp k_X5_canGetBelow d (12, [some (aR (some (18, 0, 0))), some (aI (iZ x1)), some (aI (iZ x2)), none, none, none], [], am_hp σ, t) Q := by
  refine w_s (c' := (13, [some (aR (some (18, 0, 0))), some (aI (iZ x1)), some (aI (iZ x2)), none, none, none], [aR (some (18, 0, 0))], am_hp σ, t)) rfl rfl ?_
  refine w_get rfl (hp_18 _ 0) rfl rfl ?_
  refine w_s (c' := (17, [some (aR (some (18, 0, 0))), some (aI (iZ x1)), some (aI (iZ x2)), none, none, none], [aI (iZ x2), aR (some (23, 0, 0))], am_hp σ, t)) rfl rfl ?_
  refine w_ial rfl (hp_23 _ 0 0) h1 rfl rfl ?_
  refine w_s (c' := (19, [some (aR (some (18, 0, 0))), some (aI (iZ x1)), some (aI (iZ x2)), some (aI (iZ (σ.1 (23, 0, 0) x2.toNat))), none, none], [], am_hp σ, t)) rfl rfl ?_
  refine w_psh rfl zc_0 rfl ?_
  refine w_s (c' := (22, [some (aR (some (18, 0, 0))), some (aI (iZ x1)), some (aI (iZ x2)), some (aI (iZ (σ.1 (23, 0, 0) x2.toNat))), some (aI (iZ 0)), none], [], am_hp σ, t)) rfl rfl ?_
  refine w_psh rfl zc_0 rfl ?_
  refine w_s (c' := (25, [some (aR (some (18, 0, 0))), some (aI (iZ x1)), some (aI (iZ x2)), some (aI (iZ (σ.1 (23, 0, 0) x2.toNat))), some (aI (iZ 0)), some (aI (iZ 0))], [], am_hp σ, t)) rfl rfl ?_
  exact w2

theorem b_X5_canGetBelow_25 {x1 : Int} {x2 : Int} {x3 : Int} {x4 : Int} {x5 : Int} {σ : SG} {t : KT} (h1 : -2147483648 ≤ x5 ∧ x5 < 2147483648) (w2 : 99 < x5 → Wp k_X5_canGetBelow d (76, [some (aR (some (18, 0, 0))), some (aI (iZ x1)), some (aI (iZ x2)), some (aI (iZ x3)), some (aI (iZ x4)), some (aI (iZ x5))], [], am_hp σ, t) Q) (w3 : x5 ≤ 99 → Wp k_X5_canGetBelow d (32, [some (aR (some (18, 0, 0))), some (aI (iZ x1)), some (aI (iZ x2)), some (aI (iZ x3)), some (aI (iZ x4)), some (aI (iZ x5))], [], am_hp σ, t) Q) : Wp k_X5_canGetBelow d (25, [some (aR (some (18, 0, 0))), some (aI (iZ x1)), some (aI (iZ x2)), some (aI (iZ x3)), some (aI (iZ x4)), some (aI (iZ x5))], [], am_hp σ, t) Q := by
  refine w_s (c' := (27, [some (aR (some (18, 0, 0))), some (aI (iZ x1)), some (aI (iZ x2)), some (aI (iZ x3)), some (aI (iZ x4)), some (aI (iZ x5))], [aI (iZ x5)], am_hp σ, t)) rfl rfl ?_
  refine w_psh rfl zc_99 rfl ?_
  exact w_icgt rfl h1 (by decide) rfl w2 w3

theorem b_X5_canGetBelow_32 {x1 : Int} {x2 : Int} {x3 : Int} {x4 : Int} {x5 : Int} {σ : SG} {t : KT} (h1 : -2147483648 ≤ x4 ∧ x4 < 2147483648) (w2 : x4 ≠ 0 → Wp k_X5_canGetBelow d (76, [some (aR (some (18, 0, 0))), some (aI (iZ x1)), some (aI (iZ x2)), some (aI (iZ x3)), some (aI (iZ x4)), some (aI (iZ x5))], [], am_hp σ, t) Q) (w3 : x4 = 0 → Wp k_X5_canGetBelow d (37, [some (aR (some (18, 0, 0))), some (aI (iZ x1)), some (aI (iZ x2)), some (aI (iZ x3)), some (aI (iZ x4)), some (aI (iZ x5))], [], am_hp σ, t) Q) : Wp k_X5_canGetBelow d (32, [some (aR (some (18, 0, 0))), some (aI (iZ x1)), some (aI (iZ x2)), some (aI (iZ x3)), some (aI (iZ x4)), some (aI (iZ x5))], [], am_hp σ, t) Q := by
  refine w_s (c' := (34, [some (aR (some (18, 0, 0))), some (aI (iZ x1)), some (aI (iZ x2)), some (aI (iZ x3)), some (aI (iZ x4)), some (aI (iZ x5))], [aI (iZ x4)], am_hp σ, t)) rfl rfl ?_
  exact w_ifne rfl h1 rfl w2 w3

theorem b_X5_canGetBelow_37 {x1 : Int} {x2 : Int} {x3 : Int} {x4 : Int} {x5 : Int} {r2 : Int} {σ σ1 σ2 : SG} {t : KT} (h1 : 0 ≤ x2 ∧ x2 < 9) (c2 : Ca d 30 [aR (some (18, 0, 0))] (am_hp ((sI σ (23, 0, 0) (up (σ.1 (23, 0, 0)) x2.toNat ((x5 * 1024) + 1))))) t (.inl none, am_hp σ1, t)) (c3 : Ca d 32 [aR (some (18, 0, 0))] (am_hp σ1) t (.inl (some (aI (iZ r2))), am_hp σ2, t)) (h4 : -2147483648 ≤ r2 ∧ r2 < 2147483648) (h5 : -2147483648 ≤ x1 ∧ x1 < 2147483648) (w6 : x1 ≤ r2 → Wp k_X5_canGetBelow d (67, [some (aR (some (18, 0, 0))), some (aI (iZ x1)), some (aI (iZ x2)), some (aI (iZ x3)), some (aI (iZ x4)), some (aI (iZ x5))], [], am_hp σ2, t) Q) (w7 : r2 < x1 → Wp k_X5_canGetBelow d (63, [some (aR (some (18, 0, 0))), some (aI (iZ x1)), some (aI (iZ x2)), some (aI (iZ x3)), some (aI (iZ x4)), some (aI (iZ x5))], [], am_hp σ2, t) Q) : Wp k_X5_canGetBelow d (37, [some (aR (some (18, 0, 0))), some (aI (iZ x1)), some (aI (iZ x2)), some (aI (iZ x3)), some (aI (iZ x4)), some (aI (iZ x5))], [], am_hp σ, t) Q := by
  refine w_s (c' := (38, [some (aR (some (18, 0, 0))), some (aI (iZ x1)), some (aI (iZ x2)), some (aI (iZ x3)), some (aI (iZ x4)), some (aI (iZ x5))], [aR (some (18, 0, 0))], am_hp σ, t)) rfl rfl ?_
  refine w_get rfl (hp_18 _ 0) rfl rfl ?_
  refine w_s (c' := (42, [some (aR (some (18, 0, 0))), some (aI (iZ x1)), some (aI (iZ x2)), some (aI (iZ x3)), some (aI (iZ x4)), some (aI (iZ x5))], [aI (iZ x2), aR (some (23, 0, 0))], am_hp σ, t)) rfl rfl ?_
  refine w_s (c' := (44, [some (aR (some (18, 0, 0))), some (aI (iZ x1)), some (aI (iZ x2)), some (aI (iZ x3)), some (aI (iZ x4)), some (aI (iZ x5))], [aI (iZ x5), aI (iZ x2), aR (some (23, 0, 0))], am_hp σ, t)) rfl rfl ?_
  refine w_psh rfl zc_1024 rfl ?_
  refine w_imul rfl rfl ?_
  refine w_psh rfl zc_1 rfl ?_
  refine w_iadd rfl rfl ?_
  refine w_ias rfl (mk_23 _ 0 0) h1 rfl rfl rfl ?_
  refine w_s (c' := (52, [some (aR (some (18, 0, 0))), some (aI (iZ x1)), some (aI (iZ x2)), some (aI (iZ x3)), some (aI (iZ x4)), some (aI (iZ x5))], [aR (some (18, 0, 0))], am_hp ((sI σ (23, 0, 0) (up (σ.1 (23, 0, 0)) x2.toNat ((x5 * 1024) + 1)))), t)) rfl rfl ?_
  refine w_c0 (c' := (55, [some (aR (some (18, 0, 0))), some (aI (iZ x1)), some (aI (iZ x2)), some (aI (iZ x3)), some (aI (iZ x4)), some (aI (iZ x5))], [], am_hp σ1, t)) rfl rfl (rcv_of (hp_18 _ 0)) rfl c2 (Nat.le_refl _) rfl ?_
  refine w_s (c' := (56, [some (aR (some (18, 0, 0))), some (aI (iZ x1)), some (aI (iZ x2)), some (aI (iZ x3)), some (aI (iZ x4)), some (aI (iZ x5))], [aR (some (18, 0, 0))], am_hp σ1, t)) rfl rfl ?_
  refine w_c0 (c' := (59, [some (aR (some (18, 0, 0))), some (aI (iZ x1)), some (aI (iZ x2)), some (aI (iZ x3)), some (aI (iZ x4)), some (aI (iZ x5))], [aI (iZ r2)], am_hp σ2, t)) rfl rfl (rcv_of (hp_18 _ 0)) rfl c3 (Nat.le_refl _) rfl ?_
  refine w_s (c' := (60, [some (aR (some (18, 0, 0))), some (aI (iZ x1)), some (aI (iZ x2)), some (aI (iZ x3)), some (aI (iZ x4)), some (aI (iZ x5))], [aI (iZ x1), aI (iZ r2)], am_hp σ2, t)) rfl rfl ?_
  exact w_icge rfl h4 h5 rfl w6 w7

theorem b_X5_canGetBelow_63 {x1 : Int} {x2 : Int} {x3 : Int} {x4 : Int} {x5 : Int} {σ : SG} {t : KT} (w1 : Wp k_X5_canGetBelow d (68, [some (aR (some (18, 0, 0))), some (aI (iZ x1)), some (aI (iZ x2)), some (aI (iZ x3)), some (aI (iZ x4)), some (aI (iZ x5))], [aI (iZ 1)], am_hp σ, t) Q) : Wp k_X5_canGetBelow d (63, [some (aR (some (18, 0, 0))), some (aI (iZ x1)), some (aI (iZ x2)), some (aI (iZ x3)), some (aI (iZ x4)), some (aI (iZ x5))], [], am_hp σ, t) Q := by
  refine w_psh rfl zc_1 rfl ?_
  refine w_s (c' := (68, [some (aR (some (18, 0, 0))), some (aI (iZ x1)), some (aI (iZ x2)), some (aI (iZ x3)), some (aI (iZ x4)), some (aI (iZ x5))], [aI (iZ 1)], am_hp σ, t)) rfl rfl ?_
  exact w1

theorem b_X5_canGetBelow_67 {x1 : Int} {x2 : Int} {x3 : Int} {x4 : Int} {x5 : Int} {σ : SG} {t : KT} (w1 : Wp k_X5_canGetBelow d (68, [some (aR (some (18, 0, 0))), some (aI (iZ x1)), some (aI (iZ x2)), some (aI (iZ x3)), some (aI (iZ x4)), some (aI (iZ x5))], [aI (iZ 0)], am_hp σ, t) Q) : Wp k_X5_canGetBelow d (67, [some (aR (some (18, 0, 0))), some (aI (iZ x1)), some (aI (iZ x2)), some (aI (iZ x3)), some (aI (iZ x4)), some (aI (iZ x5))], [], am_hp σ, t) Q := by
  refine w_psh rfl zc_0 rfl ?_
  exact w1

theorem b_X5_canGetBelow_68 {x1 : Int} {x2 : Int} {x3 : Int} {x4 : Int} {x5 : Int} {xs0 : Int} {σ : SG} {t : KT} (w1 : Wp k_X5_canGetBelow d (25, [some (aR (some (18, 0, 0))), some (aI (iZ x1)), some (aI (iZ x2)), some (aI (iZ x3)), some (aI (iZ xs0)), some (aI (iZ (x5 + 1)))], [], am_hp σ, t) Q) : Wp k_X5_canGetBelow d (68, [some (aR (some (18, 0, 0))), some (aI (iZ x1)), some (aI (iZ x2)), some (aI (iZ x3)), some (aI (iZ x4)), some (aI (iZ x5))], [aI (iZ xs0)], am_hp σ, t) Q := by
  refine w_s (c' := (70, [some (aR (some (18, 0, 0))), some (aI (iZ x1)), some (aI (iZ x2)), some (aI (iZ x3)), some (aI (iZ xs0)), some (aI (iZ x5))], [], am_hp σ, t)) rfl rfl ?_
  refine w_inc (a := x5) (ls' := [some (aR (some (18, 0, 0))), some (aI (iZ x1)), some (aI (iZ x2)), some (aI (iZ x3)), some (aI (iZ xs0)), some (aI (iZ (x5 + 1)))]) rfl rfl rfl zc_1 rfl rfl ?_
  refine w_s (c' := (25, [some (aR (some (18, 0, 0))), some (aI (iZ x1)), some (aI (iZ x2)), some (aI (iZ x3)), some (aI (iZ xs0)), some (aI (iZ (x5 + 1)))], [], am_hp σ, t)) rfl rfl ?_
  exact w1

theorem b_X5_canGetBelow_76 {x1 : Int} {x2 : Int} {x3 : Int} {x4 : Int} {x5 : Int} {σ : SG} {t : KT} (h1 : 0 ≤ x2 ∧ x2 < 9) (h2 : x4 = 0 ∨ x4 = 1) (q3 : Q (.inl (some (aI (iZ x4))), am_hp ((sI σ (23, 0, 0) (up (σ.1 (23, 0, 0)) x2.toNat x3))), t)) : Wp k_X5_canGetBelow d (76, [some (aR (some (18, 0, 0))), some (aI (iZ x1)), some (aI (iZ x2)), some (aI (iZ x3)), some (aI (iZ x4)), some (aI (iZ x5))], [], am_hp σ, t) Q := by
  refine w_s (c' := (77, [some (aR (some (18, 0, 0))), some (aI (iZ x1)), some (aI (iZ x2)), some (aI (iZ x3)), some (aI (iZ x4)), some (aI (iZ x5))], [aR (some (18, 0, 0))], am_hp σ, t)) rfl rfl ?_
  refine w_get rfl (hp_18 _ 0) rfl rfl ?_
  refine w_s (c' := (81, [some (aR (some (18, 0, 0))), some (aI (iZ x1)), some (aI (iZ x2)), some (aI (iZ x3)), some (aI (iZ x4)), some (aI (iZ x5))], [aI (iZ x2), aR (some (23, 0, 0))], am_hp σ, t)) rfl rfl ?_
  refine w_s (c' := (82, [some (aR (some (18, 0, 0))), some (aI (iZ x1)), some (aI (iZ x2)), some (aI (iZ x3)), some (aI (iZ x4)), some (aI (iZ x5))], [aI (iZ x3), aI (iZ x2), aR (some (23, 0, 0))], am_hp σ, t)) rfl rfl ?_
  refine w_ias rfl (mk_23 _ 0 0) h1 rfl rfl rfl ?_
  refine w_s (c' := (85, [some (aR (some (18, 0, 0))), some (aI (iZ x1)), some (aI (iZ x2)), some (aI (iZ x3)), some (aI (iZ x4)), some (aI (iZ x5))], [aI (iZ x4)], am_hp ((sI σ (23, 0, 0) (up (σ.1 (23, 0, 0)) x2.toNat x3))), t)) rfl rfl ?_
  exact w_ret rfl (frt_b h2) q3

theorem b_X5_countWords_0 {σ : SG} {t : KT} (w1 : Wp k_X5_countWords d (4, [some (aR (some (18, 0, 0))), some (aI (iZ 0)), some (aI (iZ 0))], [], am_hp σ, t) Q) : Wp k_X5_countWords d (0, [some (aR (some (18, 0, 0))), none, none], [], am_hp σ, t) Q := by
  refine w_psh rfl zc_0 rfl ?_
  refine w_s (c' := (2, [some (aR (some (18, 0, 0))), some (aI (iZ 0)), none], [], am_hp σ, t)) rfl rfl ?_
  refine w_psh rfl zc_0 rfl ?_
  refine w_s (c' := (4, [some (aR (some (18, 0, 0))), some (aI (iZ 0)), some (aI (iZ 0))], [], am_hp σ, t)) rfl rfl ?_
  exact w1

theorem e_X5_countWords {h : AH} {t : KT} {d : Nat} {P : RS → Prop} (w : Wp k_X5_countWords d (0, [some (aR (some (18, 0, 0))), none, none], [], h, t) P) : ∃ r, Ca (d + 1) 32 [aR (some (18, 0, 0))] h t r ∧ P r := ca_W rfl rfl rfl rfl w

theorem b_X5_countWords_4 {x1 : Int} {x2 : Int} {σ : SG} {t : KT} (h1 : -2147483648 ≤ x2 ∧ x2 < 2147483648) (h2 : -2147483648 ≤ σ.1 (18, 0, 0) 6 ∧ σ.1 (18, 0, 0) 6 < 2147483648) (w3 : σ.1 (18, 0, 0) 6 ≤ x2 → Wp k_X5_countWords d (30, [some (aR (some (18, 0, 0))), some (aI (iZ x1)), some (aI (iZ x2))], [], am_hp σ, t) Q) (w4 : x2 < σ.1 (18, 0, 0) 6 → Wp k_X5_countWords d (12, [some (aR (some (18, 0, 0))), some (aI (iZ x1)), some (aI (iZ x2))], [], am_hp σ, t) Q) : Wp k_X5_countWords d (4, [some (aR (some (18, 0, 0))), some (aI (iZ x1)), some (aI (iZ x2))], [], am_hp σ, t) Q := by
  refine w_s (c' := (5, [some (aR (some (18, 0, 0))), some (aI (iZ x1)), some (aI (iZ x2))], [aI (iZ x2)], am_hp σ, t)) rfl rfl ?_
  refine w_s (c' := (6, [some (aR (some (18, 0, 0))), some (aI (iZ x1)), some (aI (iZ x2))], [aR (some (18, 0, 0)), aI (iZ x2)], am_hp σ, t)) rfl rfl ?_
  refine w_get rfl (hp_18 _ 0) rfl rfl ?_
  exact w_icge rfl h1 h2 rfl w3 w4

theorem b_X5_countWords_12 {x1 : Int} {x2 : Int} {r1 : Int} {σ σ1 : SG} {t : KT} (h1 : 0 ≤ x2 ∧ x2 < 120) (c2 : Ca d 143 [aI (iZ (σ.1 (21, 0, 0) x2.toNat))] (am_hp σ) t (.inl (some (aI (iZ r1))), am_hp σ1, t)) (w3 : Wp k_X5_countWords d (4, [some (aR (some (18, 0, 0))), some (aI (iZ (x1 + 1))), some (aI (iZ (x2 + r1)))], [], am_hp σ1, t) Q) : Wp k_X5_countWords d (12, [some (aR (some (18, 0, 0))), some (aI (iZ x1)), some (aI (iZ x2))], [], am_hp σ, t) Q := by
  refine w_inc (a := x1) (ls' := [some (aR (some (18, 0, 0))), some (aI (iZ (x1 + 1))), some (aI (iZ x2))]) rfl rfl rfl zc_1 rfl rfl ?_
  refine w_s (c' := (16, [some (aR (some (18, 0, 0))), some (aI (iZ (x1 + 1))), some (aI (iZ x2))], [aI (iZ x2)], am_hp σ, t)) rfl rfl ?_
  refine w_s (c' := (17, [some (aR (some (18, 0, 0))), some (aI (iZ (x1 + 1))), some (aI (iZ x2))], [aR (some (18, 0, 0)), aI (iZ x2)], am_hp σ, t)) rfl rfl ?_
  refine w_get rfl (hp_18 _ 0) rfl rfl ?_
  refine w_s (c' := (21, [some (aR (some (18, 0, 0))), some (aI (iZ (x1 + 1))), some (aI (iZ x2))], [aI (iZ x2), aR (some (21, 0, 0)), aI (iZ x2)], am_hp σ, t)) rfl rfl ?_
  refine w_ial rfl (hp_21 _ 0 0) h1 rfl rfl ?_
  refine w_c0 (c' := (25, [some (aR (some (18, 0, 0))), some (aI (iZ (x1 + 1))), some (aI (iZ x2))], [aI (iZ r1), aI (iZ x2)], am_hp σ1, t)) rfl rfl rfl rfl c2 (Nat.le_refl _) rfl ?_
  refine w_iadd rfl rfl ?_
  refine w_s (c' := (27, [some (aR (some (18, 0, 0))), some (aI (iZ (x1 + 1))), some (aI (iZ (x2 + r1)))], [], am_hp σ1, t)) rfl rfl ?_
  refine w_s (c' := (4, [some (aR (some (18, 0, 0))), some (aI (iZ (x1 + 1))), some (aI (iZ (x2 + r1)))], [], am_hp σ1, t)) rfl rfl ?_
  exact w3

theorem b_X5_countWords_30 {x1 : Int} {x2 : Int} {σ : SG} {t : KT} (q1 : Q (.inl (some (aI (iZ x1))), am_hp σ, t)) : Wp k_X5_countWords d (30, [some (aR (some (18, 0, 0))), some (aI (iZ x1)), some (aI (iZ x2))], [], am_hp σ, t) Q := by
  refine w_s (c' := (31, [some (aR (some (18, 0, 0))), some (aI (iZ x1)), some (aI (iZ x2))], [aI (iZ x1)], am_hp σ, t)) rfl rfl ?_
  exact w_ret rfl rfl q1

theorem b_X5_sumPrices_0 {p1 : Nat} {σ : SG} {t : KT} (w1 : Wp k_X5_sumPrices d (4, [some (aR (some (18, 0, 0))), some (aR (some (13, p1, 0))), some (aI (iZ 0)), some (aI (iZ 0))], [], am_hp σ, t) Q) : Wp k_X5_sumPrices d (0, [some (aR (some (18, 0, 0))), some (aR (some (13, p1, 0))), none, none], [], am_hp σ, t) Q := by
  refine w_psh rfl zc_0 rfl ?_
  refine w_s (c' := (2, [some (aR (some (18, 0, 0))), some (aR (some (13, p1, 0))), some (aI (iZ 0)), none], [], am_hp σ, t)) rfl rfl ?_
  refine w_psh rfl zc_0 rfl ?_
  refine w_s (c' := (4, [some (aR (some (18, 0, 0))), some (aR (some (13, p1, 0))), some (aI (iZ 0)), some (aI (iZ 0))], [], am_hp σ, t)) rfl rfl ?_
  exact w1

theorem e_X5_sumPrices {p1 : Nat} {h : AH} {t : KT} {d : Nat} {P : RS → Prop} (w : Wp k_X5_sumPrices d (0, [some (aR (some (18, 0, 0))), some (aR (some (13, p1, 0))), none, none], [], h, t) P) : ∃ r, Ca (d + 1) 33 [aR (some (18, 0, 0)), aR (some (13, p1, 0))] h t r ∧ P r := ca_W rfl rfl rfl rfl w

theorem b_X5_sumPrices_4 {p1 : Nat} {x2 : Int} {x3 : Int} {σ : SG} {t : KT} (h1 : -2147483648 ≤ x3 ∧ x3 < 2147483648) (h2 : -2147483648 ≤ σ.1 (18, 0, 0) 6 ∧ σ.1 (18, 0, 0) 6 < 2147483648) (w3 : σ.1 (18, 0, 0) 6 ≤ x3 → Wp k_X5_sumPrices d (40, [some (aR (some (18, 0, 0))), some (aR (some (13, p1, 0))), some (aI (iZ x2)), some (aI (iZ x3))], [], am_hp σ, t) Q) (w4 : x3 < σ.1 (18, 0, 0) 6 → Wp k_X5_sumPrices d (12, [some (aR (some (18, 0, 0))), some (aR (some (13, p1, 0))), some (aI (iZ x2)), some (aI (iZ x3))], [], am_hp σ, t) Q) : Wp k_X5_sumPrices d (4, [some (aR (some (18, 0, 0))), some (aR (some (13, p1, 0))), some (aI (iZ x2)), some (aI (iZ x3))], [], am_hp σ, t) Q := by
  refine w_s (c' := (5, [some (aR (some (18, 0, 0))), some (aR (some (13, p1, 0))), some (aI (iZ x2)), some (aI (iZ x3))], [aI (iZ x3)], am_hp σ, t)) rfl rfl ?_
  refine w_s (c' := (6, [some (aR (some (18, 0, 0))), some (aR (some (13, p1, 0))), some (aI (iZ x2)), some (aI (iZ x3))], [aR (some (18, 0, 0)), aI (iZ x3)], am_hp σ, t)) rfl rfl ?_
  refine w_get rfl (hp_18 _ 0) rfl rfl ?_
  exact w_icge rfl h1 h2 rfl w3 w4

theorem b_X5_sumPrices_12 {p1 : Nat} {x2 : Int} {x3 : Int} {r1 : Int} {r2 : Int} {σ σ1 σ2 : SG} {t : KT} (h1 : 0 ≤ x3 ∧ x3 < 120) (c2 : Ca d 145 [aI (iZ (σ.1 (21, 0, 0) x3.toNat)), aR (some (13, p1, 0))] (am_hp σ) t (.inl (some (aI (iZ r1))), am_hp σ1, t)) (c3 : Ca d 143 [aI (iZ (σ1.1 (21, 0, 0) x3.toNat))] (am_hp σ1) t (.inl (some (aI (iZ r2))), am_hp σ2, t)) (w4 : Wp k_X5_sumPrices d (4, [some (aR (some (18, 0, 0))), some (aR (some (13, p1, 0))), some (aI (iZ (x2 + r1))), some (aI (iZ (x3 + r2)))], [], am_hp σ2, t) Q) : Wp k_X5_sumPrices d (12, [some (aR (some (18, 0, 0))), some (aR (some (13, p1, 0))), some (aI (iZ x2)), some (aI (iZ x3))], [], am_hp σ, t) Q := by
  refine w_s (c' := (13, [some (aR (some (18, 0, 0))), some (aR (some (13, p1, 0))), some (aI (iZ x2)), some (aI (iZ x3))], [aI (iZ x2)], am_hp σ, t)) rfl rfl ?_
  refine w_s (c' := (14, [some (aR (some (18, 0, 0))), some (aR (some (13, p1, 0))), some (aI (iZ x2)), some (aI (iZ x3))], [aR (some (18, 0, 0)), aI (iZ x2)], am_hp σ, t)) rfl rfl ?_
  refine w_get rfl (hp_18 _ 0) rfl rfl ?_
  refine w_s (c' := (18, [some (aR (some (18, 0, 0))), some (aR (some (13, p1, 0))), some (aI (iZ x2)), some (aI (iZ x3))], [aI (iZ x3), aR (some (21, 0, 0)), aI (iZ x2)], am_hp σ, t)) rfl rfl ?_
  refine w_ial rfl (hp_21 _ 0 0) h1 rfl rfl ?_
  refine w_s (c' := (20, [some (aR (some (18, 0, 0))), some (aR (some (13, p1, 0))), some (aI (iZ x2)), some (aI (iZ x3))], [aR (some (13, p1, 0)), aI (iZ (σ.1 (21, 0, 0) x3.toNat)), aI (iZ x2)], am_hp σ, t)) rfl rfl ?_
  refine w_c0 (c' := (23, [some (aR (some (18, 0, 0))), some (aR (some (13, p1, 0))), some (aI (iZ x2)), some (aI (iZ x3))], [aI (iZ r1), aI (iZ x2)], am_hp σ1, t)) rfl rfl rfl rfl c2 (Nat.le_refl _) rfl ?_
  refine w_iadd rfl rfl ?_
  refine w_s (c' := (25, [some (aR (some (18, 0, 0))), some (aR (some (13, p1, 0))), some (aI (iZ (x2 + r1))), some (aI (iZ x3))], [], am_hp σ1, t)) rfl rfl ?_
  refine w_s (c' := (26, [some (aR (some (18, 0, 0))), some (aR (some (13, p1, 0))), some (aI (iZ (x2 + r1))), some (aI (iZ x3))], [aI (iZ x3)], am_hp σ1, t)) rfl rfl ?_
  refine w_s (c' := (27, [some (aR (some (18, 0, 0))), some (aR (some (13, p1, 0))), some (aI (iZ (x2 + r1))), some (aI (iZ x3))], [aR (some (18, 0, 0)), aI (iZ x3)], am_hp σ1, t)) rfl rfl ?_
  refine w_get rfl (hp_18 _ 0) rfl rfl ?_
  refine w_s (c' := (31, [some (aR (some (18, 0, 0))), some (aR (some (13, p1, 0))), some (aI (iZ (x2 + r1))), some (aI (iZ x3))], [aI (iZ x3), aR (some (21, 0, 0)), aI (iZ x3)], am_hp σ1, t)) rfl rfl ?_
  refine w_ial rfl (hp_21 _ 0 0) h1 rfl rfl ?_
  refine w_c0 (c' := (35, [some (aR (some (18, 0, 0))), some (aR (some (13, p1, 0))), some (aI (iZ (x2 + r1))), some (aI (iZ x3))], [aI (iZ r2), aI (iZ x3)], am_hp σ2, t)) rfl rfl rfl rfl c3 (Nat.le_refl _) rfl ?_
  refine w_iadd rfl rfl ?_
  refine w_s (c' := (37, [some (aR (some (18, 0, 0))), some (aR (some (13, p1, 0))), some (aI (iZ (x2 + r1))), some (aI (iZ (x3 + r2)))], [], am_hp σ2, t)) rfl rfl ?_
  refine w_s (c' := (4, [some (aR (some (18, 0, 0))), some (aR (some (13, p1, 0))), some (aI (iZ (x2 + r1))), some (aI (iZ (x3 + r2)))], [], am_hp σ2, t)) rfl rfl ?_
  exact w4

theorem b_X5_sumPrices_40 {p1 : Nat} {x2 : Int} {x3 : Int} {σ : SG} {t : KT} (q1 : Q (.inl (some (aI (iZ x2))), am_hp σ, t)) : Wp k_X5_sumPrices d (40, [some (aR (some (18, 0, 0))), some (aR (some (13, p1, 0))), some (aI (iZ x2)), some (aI (iZ x3))], [], am_hp σ, t) Q := by
  refine w_s (c' := (41, [some (aR (some (18, 0, 0))), some (aR (some (13, p1, 0))), some (aI (iZ x2)), some (aI (iZ x3))], [aI (iZ x2)], am_hp σ, t)) rfl rfl ?_
  exact w_ret rfl rfl q1
end PCS
