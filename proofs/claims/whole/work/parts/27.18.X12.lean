/-! PIECES: X12 -/
set_option maxRecDepth 4000
section PCS
variable {d : Nat} {Q : RS → Prop}
theorem b_X12_weighs_0 {x1 : Int} {σ : SG} {t : KT} (h1 : 0 ≤ σ.1 (40, 0, 0) 33 ∧ σ.1 (40, 0, 0) 33 < 121) (h2 : 0 ≤ ((sI σ (53, 0, 0) (up (σ.1 (53, 0, 0)) (σ.1 (40, 0, 0) 33).toNat 0))).1 (40, 0, 0) 33 ∧ ((sI σ (53, 0, 0) (up (σ.1 (53, 0, 0)) (σ.1 (40, 0, 0) 33).toNat 0))).1 (40, 0, 0) 33 < 121) (w3 : Wp k_X12_weighs d (27, [some (aR (some (40, 0, 0))), some (aI (iZ x1)), some (aI (iZ ((((sI (sI σ (53, 0, 0) (up (σ.1 (53, 0, 0)) (σ.1 (40, 0, 0) 33).toNat 0)) (54, 0, 0) (up (((sI σ (53, 0, 0) (up (σ.1 (53, 0, 0)) (σ.1 (40, 0, 0) 33).toNat 0))).1 (54, 0, 0)) (((sI σ (53, 0, 0) (up (σ.1 (53, 0, 0)) (σ.1 (40, 0, 0) 33).toNat 0))).1 (40, 0, 0) 33).toNat 0))).1 (40, 0, 0) 33) - 1))), none], [], am_hp ((sI (sI σ (53, 0, 0) (up (σ.1 (53, 0, 0)) (σ.1 (40, 0, 0) 33).toNat 0)) (54, 0, 0) (up (((sI σ (53, 0, 0) (up (σ.1 (53, 0, 0)) (σ.1 (40, 0, 0) 33).toNat 0))).1 (54, 0, 0)) (((sI σ (53, 0, 0) (up (σ.1 (53, 0, 0)) (σ.1 (40, 0, 0) 33).toNat 0))).1 (40, 0, 0) 33).toNat 0))), t) Q) : Wp k_X12_weighs d (0, [some (aR (some (40, 0, 0))), some (aI (iZ x1)), none, none], [], am_hp σ, t) Q := by
  refine w_s (c' := (1, [some (aR (some (40, 0, 0))), some (aI (iZ x1)), none, none], [aR (some (40, 0, 0))], am_hp σ, t)) rfl rfl ?_
  refine w_get rfl (hp_40 _ 0) rfl rfl ?_
  refine w_s (c' := (5, [some (aR (some (40, 0, 0))), some (aI (iZ x1)), none, none], [aR (some (40, 0, 0)), aR (some (53, 0, 0))], am_hp σ, t)) rfl rfl ?_
  refine w_get rfl (hp_40 _ 0) rfl rfl ?_
  refine w_psh rfl zc_0 rfl ?_
  refine w_ias rfl (mk_53 _ 0 0) h1 rfl rfl rfl ?_
  refine w_s (c' := (11, [some (aR (some (40, 0, 0))), some (aI (iZ x1)), none, none], [aR (some (40, 0, 0))], am_hp ((sI σ (53, 0, 0) (up (σ.1 (53, 0, 0)) (σ.1 (40, 0, 0) 33).toNat 0))), t)) rfl rfl ?_
  refine w_get rfl (hp_40 _ 0) rfl rfl ?_
  refine w_s (c' := (15, [some (aR (some (40, 0, 0))), some (aI (iZ x1)), none, none], [aR (some (40, 0, 0)), aR (some (54, 0, 0))], am_hp ((sI σ (53, 0, 0) (up (σ.1 (53, 0, 0)) (σ.1 (40, 0, 0) 33).toNat 0))), t)) rfl rfl ?_
  refine w_get rfl (hp_40 _ 0) rfl rfl ?_
  refine w_psh rfl zc_0 rfl ?_
  refine w_ias rfl (mk_54 _ 0 0) h2 rfl rfl rfl ?_
  refine w_s (c' := (21, [some (aR (some (40, 0, 0))), some (aI (iZ x1)), none, none], [aR (some (40, 0, 0))], am_hp ((sI (sI σ (53, 0, 0) (up (σ.1 (53, 0, 0)) (σ.1 (40, 0, 0) 33).toNat 0)) (54, 0, 0) (up (((sI σ (53, 0, 0) (up (σ.1 (53, 0, 0)) (σ.1 (40, 0, 0) 33).toNat 0))).1 (54, 0, 0)) (((sI σ (53, 0, 0) (up (σ.1 (53, 0, 0)) (σ.1 (40, 0, 0) 33).toNat 0))).1 (40, 0, 0) 33).toNat 0))), t)) rfl rfl ?_
  refine w_get rfl (hp_40 _ 0) rfl rfl ?_
  refine w_psh rfl zc_1 rfl ?_
  refine w_isub rfl rfl ?_
  refine w_s (c' := (27, [some (aR (some (40, 0, 0))), some (aI (iZ x1)), some (aI (iZ ((((sI (sI σ (53, 0, 0) (up (σ.1 (53, 0, 0)) (σ.1 (40, 0, 0) 33).toNat 0)) (54, 0, 0) (up (((sI σ (53, 0, 0) (up (σ.1 (53, 0, 0)) (σ.1 (40, 0, 0) 33).toNat 0))).1 (54, 0, 0)) (((sI σ (53, 0, 0) (up (σ.1 (53, 0, 0)) (σ.1 (40, 0, 0) 33).toNat 0))).1 (40, 0, 0) 33).toNat 0))).1 (40, 0, 0) 33) - 1))), none], [], am_hp ((sI (sI σ (53, 0, 0) (up (σ.1 (53, 0, 0)) (σ.1 (40, 0, 0) 33).toNat 0)) (54, 0, 0) (up (((sI σ (53, 0, 0) (up (σ.1 (53, 0, 0)) (σ.1 (40, 0, 0) 33).toNat 0))).1 (54, 0, 0)) (((sI σ (53, 0, 0) (up (σ.1 (53, 0, 0)) (σ.1 (40, 0, 0) 33).toNat 0))).1 (40, 0, 0) 33).toNat 0))), t)) rfl rfl ?_
  exact w3

theorem e_X12_weighs {x1 : Int} {h : AH} {t : KT} {d : Nat} {P : RS → Prop} (w : Wp k_X12_weighs d (0, [some (aR (some (40, 0, 0))), some (aI (iZ x1)), none, none], [], h, t) P) : ∃ r, Ca (d + 1) 233 [aR (some (40, 0, 0)), aI (iZ x1)] h t r ∧ P r := ca_W rfl rfl rfl rfl w

theorem b_X12_weighs_27 {x1 : Int} {x2 : Int} {u3 : Option AV} {σ : SG} {t : KT} (h1 : -2147483648 ≤ x2 ∧ x2 < 2147483648) (w2 : x2 < 0 → Wp k_X12_weighs d (87, [some (aR (some (40, 0, 0))), some (aI (iZ x1)), some (aI (iZ x2)), u3], [], am_hp σ, t) Q) (w3 : 0 ≤ x2 → Wp k_X12_weighs d (31, [some (aR (some (40, 0, 0))), some (aI (iZ x1)), some (aI (iZ x2)), u3], [], am_hp σ, t) Q) : Wp k_X12_weighs d (27, [some (aR (some (40, 0, 0))), some (aI (iZ x1)), some (aI (iZ x2)), u3], [], am_hp σ, t) Q := by
  refine w_s (c' := (28, [some (aR (some (40, 0, 0))), some (aI (iZ x1)), some (aI (iZ x2)), u3], [aI (iZ x2)], am_hp σ, t)) rfl rfl ?_
  exact w_iflt rfl h1 rfl w2 w3

theorem b_X12_weighs_31 {x1 : Int} {x2 : Int} {u3 : Option AV} {r1 : Int} {r2 : Int} {r3 : Int} {σ σ1 σ2 σ3 : SG} {t : KT} (c1 : Ca d 231 [aR (some (40, 0, 0)), aI (iZ x2), aI (iZ x1)] (am_hp σ) t (.inl (some (aI (iZ r1))), am_hp σ1, t)) (c2 : Ca d 229 [aR (some (40, 0, 0)), aI (iZ x2), aI (iZ r1)] (am_hp σ1) t (.inl (some (aI (iZ r2))), am_hp σ2, t)) (h3 : 0 ≤ r2 ∧ r2 < 121) (h4 : 0 ≤ x2 ∧ x2 < 121) (h5 : 0 ≤ r1 ∧ r1 < 9) (c6 : Ca d 229 [aR (some (40, 0, 0)), aI (iZ x2), aI (iZ r1)] (am_hp ((sI σ2 (53, 0, 0) (up (σ2.1 (53, 0, 0)) x2.toNat (1 + (σ2.1 (53, 0, 0) r2.toNat)))))) t (.inl (some (aI (iZ r3))), am_hp σ3, t)) (h7 : 0 ≤ r3 ∧ r3 < 121) (w8 : Wp k_X12_weighs d (27, [some (aR (some (40, 0, 0))), some (aI (iZ x1)), some (aI (iZ (x2 + (-1)))), some (aI (iZ r1))], [], am_hp ((sI σ3 (54, 0, 0) (up (σ3.1 (54, 0, 0)) x2.toNat ((((sI σ2 (53, 0, 0) (up (σ2.1 (53, 0, 0)) x2.toNat (1 + (σ2.1 (53, 0, 0) r2.toNat))))).1 (50, 0, 0) r1.toNat) + (σ3.1 (54, 0, 0) r3.toNat))))), t) Q) : Wp k_X12_weighs d (31, [some (aR (some (40, 0, 0))), some (aI (iZ x1)), some (aI (iZ x2)), u3], [], am_hp σ, t) Q := by
  refine w_s (c' := (32, [some (aR (some (40, 0, 0))), some (aI (iZ x1)), some (aI (iZ x2)), u3], [aR (some (40, 0, 0))], am_hp σ, t)) rfl rfl ?_
  refine w_s (c' := (33, [some (aR (some (40, 0, 0))), some (aI (iZ x1)), some (aI (iZ x2)), u3], [aI (iZ x2), aR (some (40, 0, 0))], am_hp σ, t)) rfl rfl ?_
  refine w_s (c' := (34, [some (aR (some (40, 0, 0))), some (aI (iZ x1)), some (aI (iZ x2)), u3], [aI (iZ x1), aI (iZ x2), aR (some (40, 0, 0))], am_hp σ, t)) rfl rfl ?_
  refine w_c0 (c' := (37, [some (aR (some (40, 0, 0))), some (aI (iZ x1)), some (aI (iZ x2)), u3], [aI (iZ r1)], am_hp σ1, t)) rfl rfl (rcv_of (hp_40 _ 0)) rfl c1 (Nat.le_refl _) rfl ?_
  refine w_s (c' := (38, [some (aR (some (40, 0, 0))), some (aI (iZ x1)), some (aI (iZ x2)), some (aI (iZ r1))], [], am_hp σ1, t)) rfl rfl ?_
  refine w_s (c' := (39, [some (aR (some (40, 0, 0))), some (aI (iZ x1)), some (aI (iZ x2)), some (aI (iZ r1))], [aR (some (40, 0, 0))], am_hp σ1, t)) rfl rfl ?_
  refine w_get rfl (hp_40 _ 0) rfl rfl ?_
  refine w_s (c' := (43, [some (aR (some (40, 0, 0))), some (aI (iZ x1)), some (aI (iZ x2)), some (aI (iZ r1))], [aI (iZ x2), aR (some (53, 0, 0))], am_hp σ1, t)) rfl rfl ?_
  refine w_psh rfl zc_1 rfl ?_
  refine w_s (c' := (45, [some (aR (some (40, 0, 0))), some (aI (iZ x1)), some (aI (iZ x2)), some (aI (iZ r1))], [aR (some (40, 0, 0)), aI (iZ 1), aI (iZ x2), aR (some (53, 0, 0))], am_hp σ1, t)) rfl rfl ?_
  refine w_get rfl (hp_40 _ 0) rfl rfl ?_
  refine w_s (c' := (49, [some (aR (some (40, 0, 0))), some (aI (iZ x1)), some (aI (iZ x2)), some (aI (iZ r1))], [aR (some (40, 0, 0)), aR (some (53, 0, 0)), aI (iZ 1), aI (iZ x2), aR (some (53, 0, 0))], am_hp σ1, t)) rfl rfl ?_
  refine w_s (c' := (50, [some (aR (some (40, 0, 0))), some (aI (iZ x1)), some (aI (iZ x2)), some (aI (iZ r1))], [aI (iZ x2), aR (some (40, 0, 0)), aR (some (53, 0, 0)), aI (iZ 1), aI (iZ x2), aR (some (53, 0, 0))], am_hp σ1, t)) rfl rfl ?_
  refine w_s (c' := (51, [some (aR (some (40, 0, 0))), some (aI (iZ x1)), some (aI (iZ x2)), some (aI (iZ r1))], [aI (iZ r1), aI (iZ x2), aR (some (40, 0, 0)), aR (some (53, 0, 0)), aI (iZ 1), aI (iZ x2), aR (some (53, 0, 0))], am_hp σ1, t)) rfl rfl ?_
  refine w_c0 (c' := (54, [some (aR (some (40, 0, 0))), some (aI (iZ x1)), some (aI (iZ x2)), some (aI (iZ r1))], [aI (iZ r2), aR (some (53, 0, 0)), aI (iZ 1), aI (iZ x2), aR (some (53, 0, 0))], am_hp σ2, t)) rfl rfl (rcv_of (hp_40 _ 0)) rfl c2 (Nat.le_refl _) rfl ?_
  refine w_ial rfl (hp_53 _ 0 0) h3 rfl rfl ?_
  refine w_iadd rfl rfl ?_
  refine w_ias rfl (mk_53 _ 0 0) h4 rfl rfl rfl ?_
  refine w_s (c' := (58, [some (aR (some (40, 0, 0))), some (aI (iZ x1)), some (aI (iZ x2)), some (aI (iZ r1))], [aR (some (40, 0, 0))], am_hp ((sI σ2 (53, 0, 0) (up (σ2.1 (53, 0, 0)) x2.toNat (1 + (σ2.1 (53, 0, 0) r2.toNat))))), t)) rfl rfl ?_
  refine w_get rfl (hp_40 _ 0) rfl rfl ?_
  refine w_s (c' := (62, [some (aR (some (40, 0, 0))), some (aI (iZ x1)), some (aI (iZ x2)), some (aI (iZ r1))], [aI (iZ x2), aR (some (54, 0, 0))], am_hp ((sI σ2 (53, 0, 0) (up (σ2.1 (53, 0, 0)) x2.toNat (1 + (σ2.1 (53, 0, 0) r2.toNat))))), t)) rfl rfl ?_
  refine w_s (c' := (63, [some (aR (some (40, 0, 0))), some (aI (iZ x1)), some (aI (iZ x2)), some (aI (iZ r1))], [aR (some (40, 0, 0)), aI (iZ x2), aR (some (54, 0, 0))], am_hp ((sI σ2 (53, 0, 0) (up (σ2.1 (53, 0, 0)) x2.toNat (1 + (σ2.1 (53, 0, 0) r2.toNat))))), t)) rfl rfl ?_
  refine w_get rfl (hp_40 _ 0) rfl rfl ?_
  refine w_s (c' := (67, [some (aR (some (40, 0, 0))), some (aI (iZ x1)), some (aI (iZ x2)), some (aI (iZ r1))], [aI (iZ r1), aR (some (50, 0, 0)), aI (iZ x2), aR (some (54, 0, 0))], am_hp ((sI σ2 (53, 0, 0) (up (σ2.1 (53, 0, 0)) x2.toNat (1 + (σ2.1 (53, 0, 0) r2.toNat))))), t)) rfl rfl ?_
  refine w_ial rfl (hp_50 _ 0 0) h5 rfl rfl ?_
  refine w_s (c' := (69, [some (aR (some (40, 0, 0))), some (aI (iZ x1)), some (aI (iZ x2)), some (aI (iZ r1))], [aR (some (40, 0, 0)), aI (iZ (((sI σ2 (53, 0, 0) (up (σ2.1 (53, 0, 0)) x2.toNat (1 + (σ2.1 (53, 0, 0) r2.toNat))))).1 (50, 0, 0) r1.toNat)), aI (iZ x2), aR (some (54, 0, 0))], am_hp ((sI σ2 (53, 0, 0) (up (σ2.1 (53, 0, 0)) x2.toNat (1 + (σ2.1 (53, 0, 0) r2.toNat))))), t)) rfl rfl ?_
  refine w_get rfl (hp_40 _ 0) rfl rfl ?_
  refine w_s (c' := (73, [some (aR (some (40, 0, 0))), some (aI (iZ x1)), some (aI (iZ x2)), some (aI (iZ r1))], [aR (some (40, 0, 0)), aR (some (54, 0, 0)), aI (iZ (((sI σ2 (53, 0, 0) (up (σ2.1 (53, 0, 0)) x2.toNat (1 + (σ2.1 (53, 0, 0) r2.toNat))))).1 (50, 0, 0) r1.toNat)), aI (iZ x2), aR (some (54, 0, 0))], am_hp ((sI σ2 (53, 0, 0) (up (σ2.1 (53, 0, 0)) x2.toNat (1 + (σ2.1 (53, 0, 0) r2.toNat))))), t)) rfl rfl ?_
  refine w_s (c' := (74, [some (aR (some (40, 0, 0))), some (aI (iZ x1)), some (aI (iZ x2)), some (aI (iZ r1))], [aI (iZ x2), aR (some (40, 0, 0)), aR (some (54, 0, 0)), aI (iZ (((sI σ2 (53, 0, 0) (up (σ2.1 (53, 0, 0)) x2.toNat (1 + (σ2.1 (53, 0, 0) r2.toNat))))).1 (50, 0, 0) r1.toNat)), aI (iZ x2), aR (some (54, 0, 0))], am_hp ((sI σ2 (53, 0, 0) (up (σ2.1 (53, 0, 0)) x2.toNat (1 + (σ2.1 (53, 0, 0) r2.toNat))))), t)) rfl rfl ?_
  refine w_s (c' := (75, [some (aR (some (40, 0, 0))), some (aI (iZ x1)), some (aI (iZ x2)), some (aI (iZ r1))], [aI (iZ r1), aI (iZ x2), aR (some (40, 0, 0)), aR (some (54, 0, 0)), aI (iZ (((sI σ2 (53, 0, 0) (up (σ2.1 (53, 0, 0)) x2.toNat (1 + (σ2.1 (53, 0, 0) r2.toNat))))).1 (50, 0, 0) r1.toNat)), aI (iZ x2), aR (some (54, 0, 0))], am_hp ((sI σ2 (53, 0, 0) (up (σ2.1 (53, 0, 0)) x2.toNat (1 + (σ2.1 (53, 0, 0) r2.toNat))))), t)) rfl rfl ?_
  refine w_c0 (c' := (78, [some (aR (some (40, 0, 0))), some (aI (iZ x1)), some (aI (iZ x2)), some (aI (iZ r1))], [aI (iZ r3), aR (some (54, 0, 0)), aI (iZ (((sI σ2 (53, 0, 0) (up (σ2.1 (53, 0, 0)) x2.toNat (1 + (σ2.1 (53, 0, 0) r2.toNat))))).1 (50, 0, 0) r1.toNat)), aI (iZ x2), aR (some (54, 0, 0))], am_hp σ3, t)) rfl rfl (rcv_of (hp_40 _ 0)) rfl c6 (Nat.le_refl _) rfl ?_
  refine w_ial rfl (hp_54 _ 0 0) h7 rfl rfl ?_
  refine w_iadd rfl rfl ?_
  refine w_ias rfl (mk_54 _ 0 0) h4 rfl rfl rfl ?_
  refine w_inc (a := x2) (ls' := [some (aR (some (40, 0, 0))), some (aI (iZ x1)), some (aI (iZ (x2 + (-1)))), some (aI (iZ r1))]) rfl rfl rfl zc_m1 rfl rfl ?_
  refine w_s (c' := (27, [some (aR (some (40, 0, 0))), some (aI (iZ x1)), some (aI (iZ (x2 + (-1)))), some (aI (iZ r1))], [], am_hp ((sI σ3 (54, 0, 0) (up (σ3.1 (54, 0, 0)) x2.toNat ((((sI σ2 (53, 0, 0) (up (σ2.1 (53, 0, 0)) x2.toNat (1 + (σ2.1 (53, 0, 0) r2.toNat))))).1 (50, 0, 0) r1.toNat) + (σ3.1 (54, 0, 0) r3.toNat))))), t)) rfl rfl ?_
  exact w8

theorem b_X12_weighs_87 {x1 : Int} {x2 : Int} {u3 : Option AV} {σ : SG} {t : KT} (q1 : Q (.inl none, am_hp σ, t)) : Wp k_X12_weighs d (87, [some (aR (some (40, 0, 0))), some (aI (iZ x1)), some (aI (iZ x2)), u3], [], am_hp σ, t) Q := by
  exact w_f rfl rfl q1

theorem b_X12_packs_0 {x1 : Int} {σ : SG} {t : KT} (h1 : -2147483648 ≤ x1 ∧ x1 < 2147483648) (w2 : x1 ≤ 0 → Wp k_X12_packs d (23, [some (aR (some (40, 0, 0))), some (aI (iZ x1)), none, none], [], am_hp ((sI σ (40, 0, 0) (up (σ.1 (40, 0, 0)) 34 0))), t) Q) (w3 : 0 < x1 → Wp k_X12_packs d (9, [some (aR (some (40, 0, 0))), some (aI (iZ x1)), none, none], [], am_hp ((sI σ (40, 0, 0) (up (σ.1 (40, 0, 0)) 34 0))), t) Q) : Wp k_X12_packs d (0, [some (aR (some (40, 0, 0))), some (aI (iZ x1)), none, none], [], am_hp σ, t) Q := by
  refine w_s (c' := (1, [some (aR (some (40, 0, 0))), some (aI (iZ x1)), none, none], [aR (some (40, 0, 0))], am_hp σ, t)) rfl rfl ?_
  refine w_psh rfl zc_0 rfl ?_
  refine w_putI rfl (hp_40 _ 0) rfl rfl rfl ?_
  refine w_s (c' := (6, [some (aR (some (40, 0, 0))), some (aI (iZ x1)), none, none], [aI (iZ x1)], am_hp ((sI σ (40, 0, 0) (up (σ.1 (40, 0, 0)) 34 0))), t)) rfl rfl ?_
  exact w_ifle rfl h1 rfl w2 w3

theorem e_X12_packs {x1 : Int} {h : AH} {t : KT} {d : Nat} {P : RS → Prop} (w : Wp k_X12_packs d (0, [some (aR (some (40, 0, 0))), some (aI (iZ x1)), none, none], [], h, t) P) : ∃ r, Ca (d + 1) 234 [aR (some (40, 0, 0)), aI (iZ x1)] h t r ∧ P r := ca_W rfl rfl rfl rfl w

theorem b_X12_packs_9 {x1 : Int} {σ : SG} {t : KT} (h1 : -2147483648 ≤ x1 ∧ x1 < 2147483648) (w2 : x1 ≠ 2 → Wp k_X12_packs d (19, [some (aR (some (40, 0, 0))), some (aI (iZ x1)), none, none], [aR (some (40, 0, 0))], am_hp σ, t) Q) (w3 : x1 = 2 → Wp k_X12_packs d (15, [some (aR (some (40, 0, 0))), some (aI (iZ x1)), none, none], [aR (some (40, 0, 0))], am_hp σ, t) Q) : Wp k_X12_packs d (9, [some (aR (some (40, 0, 0))), some (aI (iZ x1)), none, none], [], am_hp σ, t) Q := by
  refine w_s (c' := (10, [some (aR (some (40, 0, 0))), some (aI (iZ x1)), none, none], [aR (some (40, 0, 0))], am_hp σ, t)) rfl rfl ?_
  refine w_s (c' := (11, [some (aR (some (40, 0, 0))), some (aI (iZ x1)), none, none], [aI (iZ x1), aR (some (40, 0, 0))], am_hp σ, t)) rfl rfl ?_
  refine w_psh rfl zc_2 rfl ?_
  exact w_icne rfl h1 (by decide) rfl w2 w3

theorem b_X12_packs_15 {x1 : Int} {σ : SG} {t : KT} (w1 : Wp k_X12_packs d (20, [some (aR (some (40, 0, 0))), some (aI (iZ x1)), none, none], [aI (iZ 1), aR (some (40, 0, 0))], am_hp σ, t) Q) : Wp k_X12_packs d (15, [some (aR (some (40, 0, 0))), some (aI (iZ x1)), none, none], [aR (some (40, 0, 0))], am_hp σ, t) Q := by
  refine w_psh rfl zc_1 rfl ?_
  refine w_s (c' := (20, [some (aR (some (40, 0, 0))), some (aI (iZ x1)), none, none], [aI (iZ 1), aR (some (40, 0, 0))], am_hp σ, t)) rfl rfl ?_
  exact w1

theorem b_X12_packs_19 {x1 : Int} {σ : SG} {t : KT} (w1 : Wp k_X12_packs d (20, [some (aR (some (40, 0, 0))), some (aI (iZ x1)), none, none], [aI (iZ 0), aR (some (40, 0, 0))], am_hp σ, t) Q) : Wp k_X12_packs d (19, [some (aR (some (40, 0, 0))), some (aI (iZ x1)), none, none], [aR (some (40, 0, 0))], am_hp σ, t) Q := by
  refine w_psh rfl zc_0 rfl ?_
  exact w1

theorem b_X12_packs_20 {x1 : Int} {xs0 : Int} {σ σ1 : SG} {t : KT} (c1 : Ca d 233 [aR (some (40, 0, 0)), aI (iZ xs0)] (am_hp σ) t (.inl none, am_hp σ1, t)) (w2 : Wp k_X12_packs d (23, [some (aR (some (40, 0, 0))), some (aI (iZ x1)), none, none], [], am_hp σ1, t) Q) : Wp k_X12_packs d (20, [some (aR (some (40, 0, 0))), some (aI (iZ x1)), none, none], [aI (iZ xs0), aR (some (40, 0, 0))], am_hp σ, t) Q := by
  refine w_c0 (c' := (23, [some (aR (some (40, 0, 0))), some (aI (iZ x1)), none, none], [], am_hp σ1, t)) rfl rfl (rcv_of (hp_40 _ 0)) rfl c1 (Nat.le_refl _) rfl ?_
  exact w2

theorem b_X12_packs_23 {x1 : Int} {σ : SG} {t : KT} (w1 : Wp k_X12_packs d (25, [some (aR (some (40, 0, 0))), some (aI (iZ x1)), some (aI (iZ 0)), none], [], am_hp σ, t) Q) : Wp k_X12_packs d (23, [some (aR (some (40, 0, 0))), some (aI (iZ x1)), none, none], [], am_hp σ, t) Q := by
  refine w_psh rfl zc_0 rfl ?_
  refine w_s (c' := (25, [some (aR (some (40, 0, 0))), some (aI (iZ x1)), some (aI (iZ 0)), none], [], am_hp σ, t)) rfl rfl ?_
  exact w1

theorem b_X12_packs_25 {x1 : Int} {x2 : Int} {u3 : Option AV} {σ : SG} {t : KT} (h1 : -2147483648 ≤ x2 ∧ x2 < 2147483648) (h2 : -2147483648 ≤ σ.1 (40, 0, 0) 33 ∧ σ.1 (40, 0, 0) 33 < 2147483648) (w3 : σ.1 (40, 0, 0) 33 ≤ x2 → Wp k_X12_packs d (101, [some (aR (some (40, 0, 0))), some (aI (iZ x1)), some (aI (iZ x2)), u3], [], am_hp σ, t) Q) (w4 : x2 < σ.1 (40, 0, 0) 33 → Wp k_X12_packs d (33, [some (aR (some (40, 0, 0))), some (aI (iZ x1)), some (aI (iZ x2)), u3], [], am_hp σ, t) Q) : Wp k_X12_packs d (25, [some (aR (some (40, 0, 0))), some (aI (iZ x1)), some (aI (iZ x2)), u3], [], am_hp σ, t) Q := by
  refine w_s (c' := (26, [some (aR (some (40, 0, 0))), some (aI (iZ x1)), some (aI (iZ x2)), u3], [aI (iZ x2)], am_hp σ, t)) rfl rfl ?_
  refine w_s (c' := (27, [some (aR (some (40, 0, 0))), some (aI (iZ x1)), some (aI (iZ x2)), u3], [aR (some (40, 0, 0)), aI (iZ x2)], am_hp σ, t)) rfl rfl ?_
  refine w_get rfl (hp_40 _ 0) rfl rfl ?_
  exact w_icge rfl h1 h2 rfl w3 w4

theorem b_X12_packs_33 {x1 : Int} {x2 : Int} {u3 : Option AV} {σ : SG} {t : KT} (h1 : -2147483648 ≤ x1 ∧ x1 < 2147483648) (w2 : x1 ≠ 0 → Wp k_X12_packs d (45, [some (aR (some (40, 0, 0))), some (aI (iZ x1)), some (aI (iZ x2)), u3], [], am_hp σ, t) Q) (w3 : x1 = 0 → Wp k_X12_packs d (37, [some (aR (some (40, 0, 0))), some (aI (iZ x1)), some (aI (iZ x2)), u3], [], am_hp σ, t) Q) : Wp k_X12_packs d (33, [some (aR (some (40, 0, 0))), some (aI (iZ x1)), some (aI (iZ x2)), u3], [], am_hp σ, t) Q := by
  refine w_s (c' := (34, [some (aR (some (40, 0, 0))), some (aI (iZ x1)), some (aI (iZ x2)), u3], [aI (iZ x1)], am_hp σ, t)) rfl rfl ?_
  exact w_ifne rfl h1 rfl w2 w3

theorem b_X12_packs_37 {x1 : Int} {x2 : Int} {u3 : Option AV} {r1 : Int} {σ σ1 : SG} {t : KT} (c1 : Ca d 232 [aR (some (40, 0, 0)), aI (iZ x2)] (am_hp σ) t (.inl (some (aI (iZ r1))), am_hp σ1, t)) (w2 : Wp k_X12_packs d (60, [some (aR (some (40, 0, 0))), some (aI (iZ x1)), some (aI (iZ x2)), u3], [aI (iZ r1)], am_hp σ1, t) Q) : Wp k_X12_packs d (37, [some (aR (some (40, 0, 0))), some (aI (iZ x1)), some (aI (iZ x2)), u3], [], am_hp σ, t) Q := by
  refine w_s (c' := (38, [some (aR (some (40, 0, 0))), some (aI (iZ x1)), some (aI (iZ x2)), u3], [aR (some (40, 0, 0))], am_hp σ, t)) rfl rfl ?_
  refine w_s (c' := (39, [some (aR (some (40, 0, 0))), some (aI (iZ x1)), some (aI (iZ x2)), u3], [aI (iZ x2), aR (some (40, 0, 0))], am_hp σ, t)) rfl rfl ?_
  refine w_c0 (c' := (42, [some (aR (some (40, 0, 0))), some (aI (iZ x1)), some (aI (iZ x2)), u3], [aI (iZ r1)], am_hp σ1, t)) rfl rfl (rcv_of (hp_40 _ 0)) rfl c1 (Nat.le_refl _) rfl ?_
  refine w_s (c' := (60, [some (aR (some (40, 0, 0))), some (aI (iZ x1)), some (aI (iZ x2)), u3], [aI (iZ r1)], am_hp σ1, t)) rfl rfl ?_
  exact w2

theorem b_X12_packs_45 {x1 : Int} {x2 : Int} {u3 : Option AV} {σ : SG} {t : KT} (h1 : -2147483648 ≤ x1 ∧ x1 < 2147483648) (w2 : x1 ≠ 2 → Wp k_X12_packs d (56, [some (aR (some (40, 0, 0))), some (aI (iZ x1)), some (aI (iZ x2)), u3], [aI (iZ x2), aR (some (40, 0, 0))], am_hp σ, t) Q) (w3 : x1 = 2 → Wp k_X12_packs d (52, [some (aR (some (40, 0, 0))), some (aI (iZ x1)), some (aI (iZ x2)), u3], [aI (iZ x2), aR (some (40, 0, 0))], am_hp σ, t) Q) : Wp k_X12_packs d (45, [some (aR (some (40, 0, 0))), some (aI (iZ x1)), some (aI (iZ x2)), u3], [], am_hp σ, t) Q := by
  refine w_s (c' := (46, [some (aR (some (40, 0, 0))), some (aI (iZ x1)), some (aI (iZ x2)), u3], [aR (some (40, 0, 0))], am_hp σ, t)) rfl rfl ?_
  refine w_s (c' := (47, [some (aR (some (40, 0, 0))), some (aI (iZ x1)), some (aI (iZ x2)), u3], [aI (iZ x2), aR (some (40, 0, 0))], am_hp σ, t)) rfl rfl ?_
  refine w_s (c' := (48, [some (aR (some (40, 0, 0))), some (aI (iZ x1)), some (aI (iZ x2)), u3], [aI (iZ x1), aI (iZ x2), aR (some (40, 0, 0))], am_hp σ, t)) rfl rfl ?_
  refine w_psh rfl zc_2 rfl ?_
  exact w_icne rfl h1 (by decide) rfl w2 w3

theorem b_X12_packs_52 {x1 : Int} {x2 : Int} {u3 : Option AV} {xs0 : Int} {σ : SG} {t : KT} (w1 : Wp k_X12_packs d (57, [some (aR (some (40, 0, 0))), some (aI (iZ x1)), some (aI (iZ x2)), u3], [aI (iZ 1), aI (iZ xs0), aR (some (40, 0, 0))], am_hp σ, t) Q) : Wp k_X12_packs d (52, [some (aR (some (40, 0, 0))), some (aI (iZ x1)), some (aI (iZ x2)), u3], [aI (iZ xs0), aR (some (40, 0, 0))], am_hp σ, t) Q := by
  refine w_psh rfl zc_1 rfl ?_
  refine w_s (c' := (57, [some (aR (some (40, 0, 0))), some (aI (iZ x1)), some (aI (iZ x2)), u3], [aI (iZ 1), aI (iZ xs0), aR (some (40, 0, 0))], am_hp σ, t)) rfl rfl ?_
  exact w1

theorem b_X12_packs_56 {x1 : Int} {x2 : Int} {u3 : Option AV} {xs0 : Int} {σ : SG} {t : KT} (w1 : Wp k_X12_packs d (57, [some (aR (some (40, 0, 0))), some (aI (iZ x1)), some (aI (iZ x2)), u3], [aI (iZ 0), aI (iZ xs0), aR (some (40, 0, 0))], am_hp σ, t) Q) : Wp k_X12_packs d (56, [some (aR (some (40, 0, 0))), some (aI (iZ x1)), some (aI (iZ x2)), u3], [aI (iZ xs0), aR (some (40, 0, 0))], am_hp σ, t) Q := by
  refine w_psh rfl zc_0 rfl ?_
  exact w1

theorem b_X12_packs_57 {x1 : Int} {x2 : Int} {u3 : Option AV} {xs0 : Int} {xs1 : Int} {r1 : Int} {σ σ1 : SG} {t : KT} (c1 : Ca d 231 [aR (some (40, 0, 0)), aI (iZ xs1), aI (iZ xs0)] (am_hp σ) t (.inl (some (aI (iZ r1))), am_hp σ1, t)) (w2 : Wp k_X12_packs d (60, [some (aR (some (40, 0, 0))), some (aI (iZ x1)), some (aI (iZ x2)), u3], [aI (iZ r1)], am_hp σ1, t) Q) : Wp k_X12_packs d (57, [some (aR (some (40, 0, 0))), some (aI (iZ x1)), some (aI (iZ x2)), u3], [aI (iZ xs0), aI (iZ xs1), aR (some (40, 0, 0))], am_hp σ, t) Q := by
  refine w_c0 (c' := (60, [some (aR (some (40, 0, 0))), some (aI (iZ x1)), some (aI (iZ x2)), u3], [aI (iZ r1)], am_hp σ1, t)) rfl rfl (rcv_of (hp_40 _ 0)) rfl c1 (Nat.le_refl _) rfl ?_
  exact w2

theorem b_X12_packs_60 {x1 : Int} {x2 : Int} {u3 : Option AV} {xs0 : Int} {r1 : Int} {σ σ1 : SG} {t : KT} (h1 : 0 ≤ σ.1 (40, 0, 0) 34 ∧ σ.1 (40, 0, 0) 34 < 120) (h2 : 0 ≤ ((sI σ (51, 0, 0) (up (σ.1 (51, 0, 0)) (σ.1 (40, 0, 0) 34).toNat xs0))).1 (40, 0, 0) 34 ∧ ((sI σ (51, 0, 0) (up (σ.1 (51, 0, 0)) (σ.1 (40, 0, 0) 34).toNat xs0))).1 (40, 0, 0) 34 < 121) (c3 : Ca d 229 [aR (some (40, 0, 0)), aI (iZ x2), aI (iZ xs0)] (am_hp ((sI (sI (sI σ (51, 0, 0) (up (σ.1 (51, 0, 0)) (σ.1 (40, 0, 0) 34).toNat xs0)) (52, 0, 0) (up (((sI σ (51, 0, 0) (up (σ.1 (51, 0, 0)) (σ.1 (40, 0, 0) 34).toNat xs0))).1 (52, 0, 0)) (((sI σ (51, 0, 0) (up (σ.1 (51, 0, 0)) (σ.1 (40, 0, 0) 34).toNat xs0))).1 (40, 0, 0) 34).toNat x2)) (40, 0, 0) (up (((sI (sI σ (51, 0, 0) (up (σ.1 (51, 0, 0)) (σ.1 (40, 0, 0) 34).toNat xs0)) (52, 0, 0) (up (((sI σ (51, 0, 0) (up (σ.1 (51, 0, 0)) (σ.1 (40, 0, 0) 34).toNat xs0))).1 (52, 0, 0)) (((sI σ (51, 0, 0) (up (σ.1 (51, 0, 0)) (σ.1 (40, 0, 0) 34).toNat xs0))).1 (40, 0, 0) 34).toNat x2))).1 (40, 0, 0)) 34 ((((sI (sI σ (51, 0, 0) (up (σ.1 (51, 0, 0)) (σ.1 (40, 0, 0) 34).toNat xs0)) (52, 0, 0) (up (((sI σ (51, 0, 0) (up (σ.1 (51, 0, 0)) (σ.1 (40, 0, 0) 34).toNat xs0))).1 (52, 0, 0)) (((sI σ (51, 0, 0) (up (σ.1 (51, 0, 0)) (σ.1 (40, 0, 0) 34).toNat xs0))).1 (40, 0, 0) 34).toNat x2))).1 (40, 0, 0) 34) + 1))))) t (.inl (some (aI (iZ r1))), am_hp σ1, t)) (w4 : Wp k_X12_packs d (25, [some (aR (some (40, 0, 0))), some (aI (iZ x1)), some (aI (iZ r1)), some (aI (iZ xs0))], [], am_hp σ1, t) Q) : Wp k_X12_packs d (60, [some (aR (some (40, 0, 0))), some (aI (iZ x1)), some (aI (iZ x2)), u3], [aI (iZ xs0)], am_hp σ, t) Q := by
  refine w_s (c' := (61, [some (aR (some (40, 0, 0))), some (aI (iZ x1)), some (aI (iZ x2)), some (aI (iZ xs0))], [], am_hp σ, t)) rfl rfl ?_
  refine w_s (c' := (62, [some (aR (some (40, 0, 0))), some (aI (iZ x1)), some (aI (iZ x2)), some (aI (iZ xs0))], [aR (some (40, 0, 0))], am_hp σ, t)) rfl rfl ?_
  refine w_get rfl (hp_40 _ 0) rfl rfl ?_
  refine w_s (c' := (66, [some (aR (some (40, 0, 0))), some (aI (iZ x1)), some (aI (iZ x2)), some (aI (iZ xs0))], [aR (some (40, 0, 0)), aR (some (51, 0, 0))], am_hp σ, t)) rfl rfl ?_
  refine w_get rfl (hp_40 _ 0) rfl rfl ?_
  refine w_s (c' := (70, [some (aR (some (40, 0, 0))), some (aI (iZ x1)), some (aI (iZ x2)), some (aI (iZ xs0))], [aI (iZ xs0), aI (iZ (σ.1 (40, 0, 0) 34)), aR (some (51, 0, 0))], am_hp σ, t)) rfl rfl ?_
  refine w_ias rfl (mk_51 _ 0 0) h1 rfl rfl rfl ?_
  refine w_s (c' := (72, [some (aR (some (40, 0, 0))), some (aI (iZ x1)), some (aI (iZ x2)), some (aI (iZ xs0))], [aR (some (40, 0, 0))], am_hp ((sI σ (51, 0, 0) (up (σ.1 (51, 0, 0)) (σ.1 (40, 0, 0) 34).toNat xs0))), t)) rfl rfl ?_
  refine w_get rfl (hp_40 _ 0) rfl rfl ?_
  refine w_s (c' := (76, [some (aR (some (40, 0, 0))), some (aI (iZ x1)), some (aI (iZ x2)), some (aI (iZ xs0))], [aR (some (40, 0, 0)), aR (some (52, 0, 0))], am_hp ((sI σ (51, 0, 0) (up (σ.1 (51, 0, 0)) (σ.1 (40, 0, 0) 34).toNat xs0))), t)) rfl rfl ?_
  refine w_get rfl (hp_40 _ 0) rfl rfl ?_
  refine w_s (c' := (80, [some (aR (some (40, 0, 0))), some (aI (iZ x1)), some (aI (iZ x2)), some (aI (iZ xs0))], [aI (iZ x2), aI (iZ (((sI σ (51, 0, 0) (up (σ.1 (51, 0, 0)) (σ.1 (40, 0, 0) 34).toNat xs0))).1 (40, 0, 0) 34)), aR (some (52, 0, 0))], am_hp ((sI σ (51, 0, 0) (up (σ.1 (51, 0, 0)) (σ.1 (40, 0, 0) 34).toNat xs0))), t)) rfl rfl ?_
  refine w_ias rfl (mk_52 _ 0 0) h2 rfl rfl rfl ?_
  refine w_s (c' := (82, [some (aR (some (40, 0, 0))), some (aI (iZ x1)), some (aI (iZ x2)), some (aI (iZ xs0))], [aR (some (40, 0, 0))], am_hp ((sI (sI σ (51, 0, 0) (up (σ.1 (51, 0, 0)) (σ.1 (40, 0, 0) 34).toNat xs0)) (52, 0, 0) (up (((sI σ (51, 0, 0) (up (σ.1 (51, 0, 0)) (σ.1 (40, 0, 0) 34).toNat xs0))).1 (52, 0, 0)) (((sI σ (51, 0, 0) (up (σ.1 (51, 0, 0)) (σ.1 (40, 0, 0) 34).toNat xs0))).1 (40, 0, 0) 34).toNat x2))), t)) rfl rfl ?_
  refine w_s (c' := (83, [some (aR (some (40, 0, 0))), some (aI (iZ x1)), some (aI (iZ x2)), some (aI (iZ xs0))], [aR (some (40, 0, 0)), aR (some (40, 0, 0))], am_hp ((sI (sI σ (51, 0, 0) (up (σ.1 (51, 0, 0)) (σ.1 (40, 0, 0) 34).toNat xs0)) (52, 0, 0) (up (((sI σ (51, 0, 0) (up (σ.1 (51, 0, 0)) (σ.1 (40, 0, 0) 34).toNat xs0))).1 (52, 0, 0)) (((sI σ (51, 0, 0) (up (σ.1 (51, 0, 0)) (σ.1 (40, 0, 0) 34).toNat xs0))).1 (40, 0, 0) 34).toNat x2))), t)) rfl rfl ?_
  refine w_get rfl (hp_40 _ 0) rfl rfl ?_
  refine w_psh rfl zc_1 rfl ?_
  refine w_iadd rfl rfl ?_
  refine w_putI rfl (hp_40 _ 0) rfl rfl rfl ?_
  refine w_s (c' := (92, [some (aR (some (40, 0, 0))), some (aI (iZ x1)), some (aI (iZ x2)), some (aI (iZ xs0))], [aR (some (40, 0, 0))], am_hp ((sI (sI (sI σ (51, 0, 0) (up (σ.1 (51, 0, 0)) (σ.1 (40, 0, 0) 34).toNat xs0)) (52, 0, 0) (up (((sI σ (51, 0, 0) (up (σ.1 (51, 0, 0)) (σ.1 (40, 0, 0) 34).toNat xs0))).1 (52, 0, 0)) (((sI σ (51, 0, 0) (up (σ.1 (51, 0, 0)) (σ.1 (40, 0, 0) 34).toNat xs0))).1 (40, 0, 0) 34).toNat x2)) (40, 0, 0) (up (((sI (sI σ (51, 0, 0) (up (σ.1 (51, 0, 0)) (σ.1 (40, 0, 0) 34).toNat xs0)) (52, 0, 0) (up (((sI σ (51, 0, 0) (up (σ.1 (51, 0, 0)) (σ.1 (40, 0, 0) 34).toNat xs0))).1 (52, 0, 0)) (((sI σ (51, 0, 0) (up (σ.1 (51, 0, 0)) (σ.1 (40, 0, 0) 34).toNat xs0))).1 (40, 0, 0) 34).toNat x2))).1 (40, 0, 0)) 34 ((((sI (sI σ (51, 0, 0) (up (σ.1 (51, 0, 0)) (σ.1 (40, 0, 0) 34).toNat xs0)) (52, 0, 0) (up (((sI σ (51, 0, 0) (up (σ.1 (51, 0, 0)) (σ.1 (40, 0, 0) 34).toNat xs0))).1 (52, 0, 0)) (((sI σ (51, 0, 0) (up (σ.1 (51, 0, 0)) (σ.1 (40, 0, 0) 34).toNat xs0))).1 (40, 0, 0) 34).toNat x2))).1 (40, 0, 0) 34) + 1)))), t)) rfl rfl ?_
  refine w_s (c' := (93, [some (aR (some (40, 0, 0))), some (aI (iZ x1)), some (aI (iZ x2)), some (aI (iZ xs0))], [aI (iZ x2), aR (some (40, 0, 0))], am_hp ((sI (sI (sI σ (51, 0, 0) (up (σ.1 (51, 0, 0)) (σ.1 (40, 0, 0) 34).toNat xs0)) (52, 0, 0) (up (((sI σ (51, 0, 0) (up (σ.1 (51, 0, 0)) (σ.1 (40, 0, 0) 34).toNat xs0))).1 (52, 0, 0)) (((sI σ (51, 0, 0) (up (σ.1 (51, 0, 0)) (σ.1 (40, 0, 0) 34).toNat xs0))).1 (40, 0, 0) 34).toNat x2)) (40, 0, 0) (up (((sI (sI σ (51, 0, 0) (up (σ.1 (51, 0, 0)) (σ.1 (40, 0, 0) 34).toNat xs0)) (52, 0, 0) (up (((sI σ (51, 0, 0) (up (σ.1 (51, 0, 0)) (σ.1 (40, 0, 0) 34).toNat xs0))).1 (52, 0, 0)) (((sI σ (51, 0, 0) (up (σ.1 (51, 0, 0)) (σ.1 (40, 0, 0) 34).toNat xs0))).1 (40, 0, 0) 34).toNat x2))).1 (40, 0, 0)) 34 ((((sI (sI σ (51, 0, 0) (up (σ.1 (51, 0, 0)) (σ.1 (40, 0, 0) 34).toNat xs0)) (52, 0, 0) (up (((sI σ (51, 0, 0) (up (σ.1 (51, 0, 0)) (σ.1 (40, 0, 0) 34).toNat xs0))).1 (52, 0, 0)) (((sI σ (51, 0, 0) (up (σ.1 (51, 0, 0)) (σ.1 (40, 0, 0) 34).toNat xs0))).1 (40, 0, 0) 34).toNat x2))).1 (40, 0, 0) 34) + 1)))), t)) rfl rfl ?_
  refine w_s (c' := (94, [some (aR (some (40, 0, 0))), some (aI (iZ x1)), some (aI (iZ x2)), some (aI (iZ xs0))], [aI (iZ xs0), aI (iZ x2), aR (some (40, 0, 0))], am_hp ((sI (sI (sI σ (51, 0, 0) (up (σ.1 (51, 0, 0)) (σ.1 (40, 0, 0) 34).toNat xs0)) (52, 0, 0) (up (((sI σ (51, 0, 0) (up (σ.1 (51, 0, 0)) (σ.1 (40, 0, 0) 34).toNat xs0))).1 (52, 0, 0)) (((sI σ (51, 0, 0) (up (σ.1 (51, 0, 0)) (σ.1 (40, 0, 0) 34).toNat xs0))).1 (40, 0, 0) 34).toNat x2)) (40, 0, 0) (up (((sI (sI σ (51, 0, 0) (up (σ.1 (51, 0, 0)) (σ.1 (40, 0, 0) 34).toNat xs0)) (52, 0, 0) (up (((sI σ (51, 0, 0) (up (σ.1 (51, 0, 0)) (σ.1 (40, 0, 0) 34).toNat xs0))).1 (52, 0, 0)) (((sI σ (51, 0, 0) (up (σ.1 (51, 0, 0)) (σ.1 (40, 0, 0) 34).toNat xs0))).1 (40, 0, 0) 34).toNat x2))).1 (40, 0, 0)) 34 ((((sI (sI σ (51, 0, 0) (up (σ.1 (51, 0, 0)) (σ.1 (40, 0, 0) 34).toNat xs0)) (52, 0, 0) (up (((sI σ (51, 0, 0) (up (σ.1 (51, 0, 0)) (σ.1 (40, 0, 0) 34).toNat xs0))).1 (52, 0, 0)) (((sI σ (51, 0, 0) (up (σ.1 (51, 0, 0)) (σ.1 (40, 0, 0) 34).toNat xs0))).1 (40, 0, 0) 34).toNat x2))).1 (40, 0, 0) 34) + 1)))), t)) rfl rfl ?_
  refine w_c0 (c' := (97, [some (aR (some (40, 0, 0))), some (aI (iZ x1)), some (aI (iZ x2)), some (aI (iZ xs0))], [aI (iZ r1)], am_hp σ1, t)) rfl rfl (rcv_of (hp_40 _ 0)) rfl c3 (Nat.le_refl _) rfl ?_
  refine w_s (c' := (98, [some (aR (some (40, 0, 0))), some (aI (iZ x1)), some (aI (iZ r1)), some (aI (iZ xs0))], [], am_hp σ1, t)) rfl rfl ?_
  refine w_s (c' := (25, [some (aR (some (40, 0, 0))), some (aI (iZ x1)), some (aI (iZ r1)), some (aI (iZ xs0))], [], am_hp σ1, t)) rfl rfl ?_
  exact w4

theorem b_X12_packs_101 {x1 : Int} {x2 : Int} {u3 : Option AV} {σ : SG} {t : KT} (h1 : 0 ≤ σ.1 (40, 0, 0) 34 ∧ σ.1 (40, 0, 0) 34 < 121) (q2 : Q (.inl (some (aI (iZ (((sI σ (52, 0, 0) (up (σ.1 (52, 0, 0)) (σ.1 (40, 0, 0) 34).toNat (σ.1 (40, 0, 0) 33)))).1 (40, 0, 0) 34)))), am_hp ((sI σ (52, 0, 0) (up (σ.1 (52, 0, 0)) (σ.1 (40, 0, 0) 34).toNat (σ.1 (40, 0, 0) 33)))), t)) : Wp k_X12_packs d (101, [some (aR (some (40, 0, 0))), some (aI (iZ x1)), some (aI (iZ x2)), u3], [], am_hp σ, t) Q := by
  refine w_s (c' := (102, [some (aR (some (40, 0, 0))), some (aI (iZ x1)), some (aI (iZ x2)), u3], [aR (some (40, 0, 0))], am_hp σ, t)) rfl rfl ?_
  refine w_get rfl (hp_40 _ 0) rfl rfl ?_
  refine w_s (c' := (106, [some (aR (some (40, 0, 0))), some (aI (iZ x1)), some (aI (iZ x2)), u3], [aR (some (40, 0, 0)), aR (some (52, 0, 0))], am_hp σ, t)) rfl rfl ?_
  refine w_get rfl (hp_40 _ 0) rfl rfl ?_
  refine w_s (c' := (110, [some (aR (some (40, 0, 0))), some (aI (iZ x1)), some (aI (iZ x2)), u3], [aR (some (40, 0, 0)), aI (iZ (σ.1 (40, 0, 0) 34)), aR (some (52, 0, 0))], am_hp σ, t)) rfl rfl ?_
  refine w_get rfl (hp_40 _ 0) rfl rfl ?_
  refine w_ias rfl (mk_52 _ 0 0) h1 rfl rfl rfl ?_
  refine w_s (c' := (115, [some (aR (some (40, 0, 0))), some (aI (iZ x1)), some (aI (iZ x2)), u3], [aR (some (40, 0, 0))], am_hp ((sI σ (52, 0, 0) (up (σ.1 (52, 0, 0)) (σ.1 (40, 0, 0) 34).toNat (σ.1 (40, 0, 0) 33)))), t)) rfl rfl ?_
  refine w_get rfl (hp_40 _ 0) rfl rfl ?_
  exact w_ret rfl rfl q2

theorem b_X12_packsRow_0 {x1 : Int} {r2 : Int} {σ σ1 σ2 : SG} {t : KT} (c1 : Ca d 227 [aR (some (40, 0, 0)), aI (iZ x1)] (am_hp σ) t (.inl none, am_hp σ1, t)) (c2 : Ca d 234 [aR (some (40, 0, 0)), aI (iZ (σ1.1 (42, 0, 0) 1))] (am_hp σ1) t (.inl (some (aI (iZ r2))), am_hp σ2, t)) (q3 : Q (.inl (some (aI (iZ r2))), am_hp σ2, t)) : Wp k_X12_packsRow d (0, [some (aR (some (40, 0, 0))), some (aI (iZ x1))], [], am_hp σ, t) Q := by
  refine w_s (c' := (1, [some (aR (some (40, 0, 0))), some (aI (iZ x1))], [aR (some (40, 0, 0))], am_hp σ, t)) rfl rfl ?_
  refine w_s (c' := (2, [some (aR (some (40, 0, 0))), some (aI (iZ x1))], [aI (iZ x1), aR (some (40, 0, 0))], am_hp σ, t)) rfl rfl ?_
  refine w_c0 (c' := (5, [some (aR (some (40, 0, 0))), some (aI (iZ x1))], [], am_hp σ1, t)) rfl rfl (rcv_of (hp_40 _ 0)) rfl c1 (Nat.le_refl _) rfl ?_
  refine w_s (c' := (6, [some (aR (some (40, 0, 0))), some (aI (iZ x1))], [aR (some (40, 0, 0))], am_hp σ1, t)) rfl rfl ?_
  refine w_s (c' := (7, [some (aR (some (40, 0, 0))), some (aI (iZ x1))], [aR (some (40, 0, 0)), aR (some (40, 0, 0))], am_hp σ1, t)) rfl rfl ?_
  refine w_get rfl (hp_40 _ 0) rfl rfl ?_
  refine w_psh rfl zc_1 rfl ?_
  refine w_ial rfl (hp_42 _ 0 0) (by decide) rfl rfl ?_
  refine w_e (c' := (12, [some (aR (some (40, 0, 0))), some (aI (iZ x1))], [aI (iZ (σ1.1 (42, 0, 0) 1)), aR (some (40, 0, 0))], am_hp σ1, t)) rfl ?_
  refine w_c0 (c' := (15, [some (aR (some (40, 0, 0))), some (aI (iZ x1))], [aI (iZ r2)], am_hp σ2, t)) rfl rfl (rcv_of (hp_40 _ 0)) rfl c2 (Nat.le_refl _) rfl ?_
  exact w_ret rfl rfl q3

theorem e_X12_packsRow {x1 : Int} {h : AH} {t : KT} {d : Nat} {P : RS → Prop} (w : Wp k_X12_packsRow d (0, [some (aR (some (40, 0, 0))), some (aI (iZ x1))], [], h, t) P) : ∃ r, Ca (d + 1) 235 [aR (some (40, 0, 0)), aI (iZ x1)] h t r ∧ P r := ca_W rfl rfl rfl rfl w

theorem b_X12_isWordOf_0 {x1 : Int} {x2 : Int} {r1 : Int} {σ σ1 : SG} {t : KT} (c1 : Ca d 217 [aR (some (40, 0, 0)), aI (iZ x1)] (am_hp σ) t (.inl (some (aI (iZ r1))), am_hp σ1, t)) (h2 : -2147483648 ≤ r1 ∧ r1 < 2147483648) (w3 : r1 = 0 → Wp k_X12_isWordOf d (29, [some (aR (some (40, 0, 0))), some (aI (iZ x1)), some (aI (iZ x2))], [], am_hp σ1, t) Q) (w4 : r1 ≠ 0 → Wp k_X12_isWordOf d (8, [some (aR (some (40, 0, 0))), some (aI (iZ x1)), some (aI (iZ x2))], [], am_hp σ1, t) Q) : Wp k_X12_isWordOf d (0, [some (aR (some (40, 0, 0))), some (aI (iZ x1)), some (aI (iZ x2))], [], am_hp σ, t) Q := by
  refine w_s (c' := (1, [some (aR (some (40, 0, 0))), some (aI (iZ x1)), some (aI (iZ x2))], [aR (some (40, 0, 0))], am_hp σ, t)) rfl rfl ?_
  refine w_s (c' := (2, [some (aR (some (40, 0, 0))), some (aI (iZ x1)), some (aI (iZ x2))], [aI (iZ x1), aR (some (40, 0, 0))], am_hp σ, t)) rfl rfl ?_
  refine w_c0 (c' := (5, [some (aR (some (40, 0, 0))), some (aI (iZ x1)), some (aI (iZ x2))], [aI (iZ r1)], am_hp σ1, t)) rfl rfl (rcv_of (hp_40 _ 0)) rfl c1 (Nat.le_refl _) rfl ?_
  exact w_ifeq rfl h2 rfl w3 w4

theorem e_X12_isWordOf {x1 : Int} {x2 : Int} {h : AH} {t : KT} {d : Nat} {P : RS → Prop} (w : Wp k_X12_isWordOf d (0, [some (aR (some (40, 0, 0))), some (aI (iZ x1)), some (aI (iZ x2))], [], h, t) P) : ∃ r, Ca (d + 1) 236 [aR (some (40, 0, 0)), aI (iZ x1), aI (iZ x2)] h t r ∧ P r := ca_W rfl rfl rfl rfl w

theorem b_X12_isWordOf_8 {x1 : Int} {x2 : Int} {r1 : Int} {r2 : Int} {σ σ1 σ2 : SG} {t : KT} (h1 : -2147483648 ≤ x2 ∧ x2 < 2147483648) (c2 : Ca d 235 [aR (some (40, 0, 0)), aI (iZ x1)] (am_hp σ) t (.inl (some (aI (iZ r1))), am_hp σ1, t)) (h3 : -2147483648 ≤ r1 - 1 ∧ r1 - 1 < 2147483648) (c4 : Ca d 175 [aL (jZ x2), aL (jZ 0), aL (jZ (r1 - 1))] (am_hp σ1) t (.inl (some (aI (iZ r2))), am_hp σ2, t)) (h5 : -2147483648 ≤ r2 ∧ r2 < 2147483648) (w6 : r2 = 0 → Wp k_X12_isWordOf d (29, [some (aR (some (40, 0, 0))), some (aI (iZ x1)), some (aI (iZ x2))], [], am_hp σ2, t) Q) (w7 : r2 ≠ 0 → Wp k_X12_isWordOf d (25, [some (aR (some (40, 0, 0))), some (aI (iZ x1)), some (aI (iZ x2))], [], am_hp σ2, t) Q) : Wp k_X12_isWordOf d (8, [some (aR (some (40, 0, 0))), some (aI (iZ x1)), some (aI (iZ x2))], [], am_hp σ, t) Q := by
  refine w_s (c' := (9, [some (aR (some (40, 0, 0))), some (aI (iZ x1)), some (aI (iZ x2))], [aI (iZ x2)], am_hp σ, t)) rfl rfl ?_
  refine w_i2l rfl rfl h1 ?_
  refine w_psL rfl yc_0 rfl ?_
  refine w_s (c' := (12, [some (aR (some (40, 0, 0))), some (aI (iZ x1)), some (aI (iZ x2))], [aR (some (40, 0, 0)), aL (jZ 0), aL (jZ x2)], am_hp σ, t)) rfl rfl ?_
  refine w_s (c' := (13, [some (aR (some (40, 0, 0))), some (aI (iZ x1)), some (aI (iZ x2))], [aI (iZ x1), aR (some (40, 0, 0)), aL (jZ 0), aL (jZ x2)], am_hp σ, t)) rfl rfl ?_
  refine w_c0 (c' := (16, [some (aR (some (40, 0, 0))), some (aI (iZ x1)), some (aI (iZ x2))], [aI (iZ r1), aL (jZ 0), aL (jZ x2)], am_hp σ1, t)) rfl rfl (rcv_of (hp_40 _ 0)) rfl c2 (Nat.le_refl _) rfl ?_
  refine w_psh rfl zc_1 rfl ?_
  refine w_isub rfl rfl ?_
  refine w_i2l rfl rfl h3 ?_
  refine w_c0 (c' := (22, [some (aR (some (40, 0, 0))), some (aI (iZ x1)), some (aI (iZ x2))], [aI (iZ r2)], am_hp σ2, t)) rfl rfl rfl rfl c4 (Nat.le_refl _) rfl ?_
  exact w_ifeq rfl h5 rfl w6 w7

theorem b_X12_isWordOf_25 {x1 : Int} {x2 : Int} {σ : SG} {t : KT} (w1 : Wp k_X12_isWordOf d (30, [some (aR (some (40, 0, 0))), some (aI (iZ x1)), some (aI (iZ x2))], [aI (iZ 1)], am_hp σ, t) Q) : Wp k_X12_isWordOf d (25, [some (aR (some (40, 0, 0))), some (aI (iZ x1)), some (aI (iZ x2))], [], am_hp σ, t) Q := by
  refine w_psh rfl zc_1 rfl ?_
  refine w_s (c' := (30, [some (aR (some (40, 0, 0))), some (aI (iZ x1)), some (aI (iZ x2))], [aI (iZ 1)], am_hp σ, t)) rfl rfl ?_
  exact w1

theorem b_X12_isWordOf_29 {x1 : Int} {x2 : Int} {σ : SG} {t : KT} (w1 : Wp k_X12_isWordOf d (30, [some (aR (some (40, 0, 0))), some (aI (iZ x1)), some (aI (iZ x2))], [aI (iZ 0)], am_hp σ, t) Q) : Wp k_X12_isWordOf d (29, [some (aR (some (40, 0, 0))), some (aI (iZ x1)), some (aI (iZ x2))], [], am_hp σ, t) Q := by
  refine w_psh rfl zc_0 rfl ?_
  exact w1

theorem b_X12_isWordOf_30 {x1 : Int} {x2 : Int} {xs0 : Int} {σ : SG} {t : KT} (h1 : xs0 = 0 ∨ xs0 = 1) (q2 : Q (.inl (some (aI (iZ xs0))), am_hp σ, t)) : Wp k_X12_isWordOf d (30, [some (aR (some (40, 0, 0))), some (aI (iZ x1)), some (aI (iZ x2))], [aI (iZ xs0)], am_hp σ, t) Q := by
  exact w_ret rfl (frt_b h1) q2

theorem b_X12_heldBy_0 {x1 : Int} {σ : SG} {t : KT} (h1 : 0 ≤ x1 + 1 ∧ x1 + 1 < 121) (h2 : 0 ≤ x1 ∧ x1 < 121) (q3 : Q (.inl (some (aI (iZ ((σ.1 (52, 0, 0) (x1 + 1).toNat) - (σ.1 (52, 0, 0) x1.toNat))))), am_hp σ, t)) : Wp k_X12_heldBy d (0, [some (aR (some (40, 0, 0))), some (aI (iZ x1))], [], am_hp σ, t) Q := by
  refine w_s (c' := (1, [some (aR (some (40, 0, 0))), some (aI (iZ x1))], [aR (some (40, 0, 0))], am_hp σ, t)) rfl rfl ?_
  refine w_get rfl (hp_40 _ 0) rfl rfl ?_
  refine w_s (c' := (5, [some (aR (some (40, 0, 0))), some (aI (iZ x1))], [aI (iZ x1), aR (some (52, 0, 0))], am_hp σ, t)) rfl rfl ?_
  refine w_psh rfl zc_1 rfl ?_
  refine w_iadd rfl rfl ?_
  refine w_ial rfl (hp_52 _ 0 0) h1 rfl rfl ?_
  refine w_s (c' := (9, [some (aR (some (40, 0, 0))), some (aI (iZ x1))], [aR (some (40, 0, 0)), aI (iZ (σ.1 (52, 0, 0) (x1 + 1).toNat))], am_hp σ, t)) rfl rfl ?_
  refine w_get rfl (hp_40 _ 0) rfl rfl ?_
  refine w_s (c' := (13, [some (aR (some (40, 0, 0))), some (aI (iZ x1))], [aI (iZ x1), aR (some (52, 0, 0)), aI (iZ (σ.1 (52, 0, 0) (x1 + 1).toNat))], am_hp σ, t)) rfl rfl ?_
  refine w_ial rfl (hp_52 _ 0 0) h2 rfl rfl ?_
  refine w_isub rfl rfl ?_
  exact w_ret rfl rfl q3

theorem e_X12_heldBy {x1 : Int} {h : AH} {t : KT} {d : Nat} {P : RS → Prop} (w : Wp k_X12_heldBy d (0, [some (aR (some (40, 0, 0))), some (aI (iZ x1))], [], h, t) P) : ∃ r, Ca (d + 1) 237 [aR (some (40, 0, 0)), aI (iZ x1)] h t r ∧ P r := ca_W rfl rfl rfl rfl w

theorem b_X12_wordWith_0 {x1 : Int} {σ : SG} {t : KT} (w1 : Wp k_X12_wordWith d (2, [some (aR (some (40, 0, 0))), some (aI (iZ x1)), some (aI (iZ 0))], [], am_hp σ, t) Q) : Wp k_X12_wordWith d (0, [some (aR (some (40, 0, 0))), some (aI (iZ x1)), none], [], am_hp σ, t) Q := by
  refine w_psh rfl zc_0 rfl ?_
  refine w_s (c' := (2, [some (aR (some (40, 0, 0))), some (aI (iZ x1)), some (aI (iZ 0))], [], am_hp σ, t)) rfl rfl ?_
  exact w1

theorem e_X12_wordWith {x1 : Int} {h : AH} {t : KT} {d : Nat} {P : RS → Prop} (w : Wp k_X12_wordWith d (0, [some (aR (some (40, 0, 0))), some (aI (iZ x1)), none], [], h, t) P) : ∃ r, Ca (d + 1) 238 [aR (some (40, 0, 0)), aI (iZ x1)] h t r ∧ P r := ca_W rfl rfl rfl rfl w

theorem b_X12_wordWith_2 {x1 : Int} {x2 : Int} {σ : SG} {t : KT} (h1 : 0 ≤ x2 + 1 ∧ x2 + 1 < 121) (h2 : -2147483648 ≤ σ.1 (52, 0, 0) (x2 + 1).toNat ∧ σ.1 (52, 0, 0) (x2 + 1).toNat < 2147483648) (h3 : -2147483648 ≤ x1 ∧ x1 < 2147483648) (w4 : x1 < σ.1 (52, 0, 0) (x2 + 1).toNat → Wp k_X12_wordWith d (20, [some (aR (some (40, 0, 0))), some (aI (iZ x1)), some (aI (iZ x2))], [], am_hp σ, t) Q) (w5 : σ.1 (52, 0, 0) (x2 + 1).toNat ≤ x1 → Wp k_X12_wordWith d (14, [some (aR (some (40, 0, 0))), some (aI (iZ x1)), some (aI (iZ x2))], [], am_hp σ, t) Q) : Wp k_X12_wordWith d (2, [some (aR (some (40, 0, 0))), some (aI (iZ x1)), some (aI (iZ x2))], [], am_hp σ, t) Q := by
  refine w_s (c' := (3, [some (aR (some (40, 0, 0))), some (aI (iZ x1)), some (aI (iZ x2))], [aR (some (40, 0, 0))], am_hp σ, t)) rfl rfl ?_
  refine w_get rfl (hp_40 _ 0) rfl rfl ?_
  refine w_s (c' := (7, [some (aR (some (40, 0, 0))), some (aI (iZ x1)), some (aI (iZ x2))], [aI (iZ x2), aR (some (52, 0, 0))], am_hp σ, t)) rfl rfl ?_
  refine w_psh rfl zc_1 rfl ?_
  refine w_iadd rfl rfl ?_
  refine w_ial rfl (hp_52 _ 0 0) h1 rfl rfl ?_
  refine w_s (c' := (11, [some (aR (some (40, 0, 0))), some (aI (iZ x1)), some (aI (iZ x2))], [aI (iZ x1), aI (iZ (σ.1 (52, 0, 0) (x2 + 1).toNat))], am_hp σ, t)) rfl rfl ?_
  exact w_icgt rfl h2 h3 rfl w4 w5

theorem b_X12_wordWith_14 {x1 : Int} {x2 : Int} {σ : SG} {t : KT} (w1 : Wp k_X12_wordWith d (2, [some (aR (some (40, 0, 0))), some (aI (iZ x1)), some (aI (iZ (x2 + 1)))], [], am_hp σ, t) Q) : Wp k_X12_wordWith d (14, [some (aR (some (40, 0, 0))), some (aI (iZ x1)), some (aI (iZ x2))], [], am_hp σ, t) Q := by
  refine w_inc (a := x2) (ls' := [some (aR (some (40, 0, 0))), some (aI (iZ x1)), some (aI (iZ (x2 + 1)))]) rfl rfl rfl zc_1 rfl rfl ?_
  refine w_s (c' := (2, [some (aR (some (40, 0, 0))), some (aI (iZ x1)), some (aI (iZ (x2 + 1)))], [], am_hp σ, t)) rfl rfl ?_
  exact w1

theorem b_X12_wordWith_20 {x1 : Int} {x2 : Int} {σ : SG} {t : KT} (q1 : Q (.inl (some (aI (iZ x2))), am_hp σ, t)) : Wp k_X12_wordWith d (20, [some (aR (some (40, 0, 0))), some (aI (iZ x1)), some (aI (iZ x2))], [], am_hp σ, t) Q := by
  refine w_s (c' := (21, [some (aR (some (40, 0, 0))), some (aI (iZ x1)), some (aI (iZ x2))], [aI (iZ x2)], am_hp σ, t)) rfl rfl ?_
  exact w_ret rfl rfl q1

theorem b_X12_priceNow_0 {σ : SG} {t : KT} (w1 : Wp k_X12_priceNow d (4, [some (aR (some (40, 0, 0))), some (aI (iZ 0)), some (aI (iZ 0))], [], am_hp σ, t) Q) : Wp k_X12_priceNow d (0, [some (aR (some (40, 0, 0))), none, none], [], am_hp σ, t) Q := by
  refine w_psh rfl zc_0 rfl ?_
  refine w_s (c' := (2, [some (aR (some (40, 0, 0))), some (aI (iZ 0)), none], [], am_hp σ, t)) rfl rfl ?_
  refine w_psh rfl zc_0 rfl ?_
  refine w_s (c' := (4, [some (aR (some (40, 0, 0))), some (aI (iZ 0)), some (aI (iZ 0))], [], am_hp σ, t)) rfl rfl ?_
  exact w1

theorem e_X12_priceNow {h : AH} {t : KT} {d : Nat} {P : RS → Prop} (w : Wp k_X12_priceNow d (0, [some (aR (some (40, 0, 0))), none, none], [], h, t) P) : ∃ r, Ca (d + 1) 239 [aR (some (40, 0, 0))] h t r ∧ P r := ca_W rfl rfl rfl rfl w

theorem b_X12_priceNow_4 {x1 : Int} {x2 : Int} {σ : SG} {t : KT} (h1 : -2147483648 ≤ x2 ∧ x2 < 2147483648) (h2 : -2147483648 ≤ σ.1 (40, 0, 0) 34 ∧ σ.1 (40, 0, 0) 34 < 2147483648) (w3 : σ.1 (40, 0, 0) 34 ≤ x2 → Wp k_X12_priceNow d (32, [some (aR (some (40, 0, 0))), some (aI (iZ x1)), some (aI (iZ x2))], [], am_hp σ, t) Q) (w4 : x2 < σ.1 (40, 0, 0) 34 → Wp k_X12_priceNow d (12, [some (aR (some (40, 0, 0))), some (aI (iZ x1)), some (aI (iZ x2))], [], am_hp σ, t) Q) : Wp k_X12_priceNow d (4, [some (aR (some (40, 0, 0))), some (aI (iZ x1)), some (aI (iZ x2))], [], am_hp σ, t) Q := by
  refine w_s (c' := (5, [some (aR (some (40, 0, 0))), some (aI (iZ x1)), some (aI (iZ x2))], [aI (iZ x2)], am_hp σ, t)) rfl rfl ?_
  refine w_s (c' := (6, [some (aR (some (40, 0, 0))), some (aI (iZ x1)), some (aI (iZ x2))], [aR (some (40, 0, 0)), aI (iZ x2)], am_hp σ, t)) rfl rfl ?_
  refine w_get rfl (hp_40 _ 0) rfl rfl ?_
  exact w_icge rfl h1 h2 rfl w3 w4

theorem b_X12_priceNow_12 {x1 : Int} {x2 : Int} {σ : SG} {t : KT} (h1 : 0 ≤ x2 ∧ x2 < 120) (h2 : 0 ≤ σ.1 (51, 0, 0) x2.toNat ∧ σ.1 (51, 0, 0) x2.toNat < 9) (w3 : Wp k_X12_priceNow d (4, [some (aR (some (40, 0, 0))), some (aI (iZ (x1 + (σ.1 (50, 0, 0) (σ.1 (51, 0, 0) x2.toNat).toNat)))), some (aI (iZ (x2 + 1)))], [], am_hp σ, t) Q) : Wp k_X12_priceNow d (12, [some (aR (some (40, 0, 0))), some (aI (iZ x1)), some (aI (iZ x2))], [], am_hp σ, t) Q := by
  refine w_s (c' := (13, [some (aR (some (40, 0, 0))), some (aI (iZ x1)), some (aI (iZ x2))], [aI (iZ x1)], am_hp σ, t)) rfl rfl ?_
  refine w_s (c' := (14, [some (aR (some (40, 0, 0))), some (aI (iZ x1)), some (aI (iZ x2))], [aR (some (40, 0, 0)), aI (iZ x1)], am_hp σ, t)) rfl rfl ?_
  refine w_get rfl (hp_40 _ 0) rfl rfl ?_
  refine w_s (c' := (18, [some (aR (some (40, 0, 0))), some (aI (iZ x1)), some (aI (iZ x2))], [aR (some (40, 0, 0)), aR (some (50, 0, 0)), aI (iZ x1)], am_hp σ, t)) rfl rfl ?_
  refine w_get rfl (hp_40 _ 0) rfl rfl ?_
  refine w_s (c' := (22, [some (aR (some (40, 0, 0))), some (aI (iZ x1)), some (aI (iZ x2))], [aI (iZ x2), aR (some (51, 0, 0)), aR (some (50, 0, 0)), aI (iZ x1)], am_hp σ, t)) rfl rfl ?_
  refine w_ial rfl (hp_51 _ 0 0) h1 rfl rfl ?_
  refine w_ial rfl (hp_50 _ 0 0) h2 rfl rfl ?_
  refine w_iadd rfl rfl ?_
  refine w_s (c' := (26, [some (aR (some (40, 0, 0))), some (aI (iZ (x1 + (σ.1 (50, 0, 0) (σ.1 (51, 0, 0) x2.toNat).toNat)))), some (aI (iZ x2))], [], am_hp σ, t)) rfl rfl ?_
  refine w_inc (a := x2) (ls' := [some (aR (some (40, 0, 0))), some (aI (iZ (x1 + (σ.1 (50, 0, 0) (σ.1 (51, 0, 0) x2.toNat).toNat)))), some (aI (iZ (x2 + 1)))]) rfl rfl rfl zc_1 rfl rfl ?_
  refine w_s (c' := (4, [some (aR (some (40, 0, 0))), some (aI (iZ (x1 + (σ.1 (50, 0, 0) (σ.1 (51, 0, 0) x2.toNat).toNat)))), some (aI (iZ (x2 + 1)))], [], am_hp σ, t)) rfl rfl ?_
  exact w3

theorem b_X12_priceNow_32 {x1 : Int} {x2 : Int} {σ : SG} {t : KT} (q1 : Q (.inl (some (aI (iZ x1))), am_hp σ, t)) : Wp k_X12_priceNow d (32, [some (aR (some (40, 0, 0))), some (aI (iZ x1)), some (aI (iZ x2))], [], am_hp σ, t) Q := by
  refine w_s (c' := (33, [some (aR (some (40, 0, 0))), some (aI (iZ x1)), some (aI (iZ x2))], [aI (iZ x1)], am_hp σ, t)) rfl rfl ?_
  exact w_ret rfl rfl q1

theorem b_X12_whyNoAdd_0 {y1 : Int} {σ : SG} {t : KT} (h1 : -2147483648 ≤ σ.1 (42, 0, 0) 0 ∧ σ.1 (42, 0, 0) 0 < 2147483648) (w2 : σ.1 (42, 0, 0) 0 ≠ 4 → Wp k_X12_whyNoAdd d (13, [some (aR (some (40, 0, 0))), some (aL (jZ y1)), none], [], am_hp σ, t) Q) (w3 : σ.1 (42, 0, 0) 0 = 4 → Wp k_X12_whyNoAdd d (10, [some (aR (some (40, 0, 0))), some (aL (jZ y1)), none], [], am_hp σ, t) Q) : Wp k_X12_whyNoAdd d (0, [some (aR (some (40, 0, 0))), some (aL (jZ y1)), none], [], am_hp σ, t) Q := by
  refine w_s (c' := (1, [some (aR (some (40, 0, 0))), some (aL (jZ y1)), none], [aR (some (40, 0, 0))], am_hp σ, t)) rfl rfl ?_
  refine w_get rfl (hp_40 _ 0) rfl rfl ?_
  refine w_psh rfl zc_0 rfl ?_
  refine w_ial rfl (hp_42 _ 0 0) (by decide) rfl rfl ?_
  refine w_e (c' := (6, [some (aR (some (40, 0, 0))), some (aL (jZ y1)), none], [aI (iZ (σ.1 (42, 0, 0) 0))], am_hp σ, t)) rfl ?_
  refine w_psh rfl zc_4 rfl ?_
  exact w_icne rfl h1 (by decide) rfl w2 w3

theorem e_X12_whyNoAdd {y1 : Int} {h : AH} {t : KT} {d : Nat} {P : RS → Prop} (w : Wp k_X12_whyNoAdd d (0, [some (aR (some (40, 0, 0))), some (aL (jZ y1)), none], [], h, t) P) : ∃ r, Ca (d + 1) 240 [aR (some (40, 0, 0)), aL (jZ y1)] h t r ∧ P r := ca_W rfl rfl rfl rfl w

theorem b_X12_whyNoAdd_10 {y1 : Int} {σ : SG} {t : KT} (q1 : Q (.inl (some (aI (iZ 101))), am_hp σ, t)) : Wp k_X12_whyNoAdd d (10, [some (aR (some (40, 0, 0))), some (aL (jZ y1)), none], [], am_hp σ, t) Q := by
  refine w_psh rfl zc_101 rfl ?_
  exact w_ret rfl rfl q1

theorem b_X12_whyNoAdd_13 {y1 : Int} {σ : SG} {t : KT} (h1 : -2147483648 ≤ ycmp y1 0 ∧ ycmp y1 0 < 2147483648) (w2 : ycmp y1 0 = 0 → Wp k_X12_whyNoAdd d (28, [some (aR (some (40, 0, 0))), some (aL (jZ y1)), none], [], am_hp σ, t) Q) (w3 : ycmp y1 0 ≠ 0 → Wp k_X12_whyNoAdd d (19, [some (aR (some (40, 0, 0))), some (aL (jZ y1)), none], [], am_hp σ, t) Q) : Wp k_X12_whyNoAdd d (13, [some (aR (some (40, 0, 0))), some (aL (jZ y1)), none], [], am_hp σ, t) Q := by
  refine w_s (c' := (14, [some (aR (some (40, 0, 0))), some (aL (jZ y1)), none], [aL (jZ y1)], am_hp σ, t)) rfl rfl ?_
  refine w_psL rfl yc_0 rfl ?_
  refine w_lcmp rfl rfl ?_
  exact w_ifeq rfl h1 rfl w2 w3

theorem b_X12_whyNoAdd_19 {y1 : Int} {r1 : Int} {σ σ1 : SG} {t : KT} (c1 : Ca d 221 [aR (some (40, 0, 0)), aL (jZ y1)] (am_hp σ) t (.inl (some (aI (iZ r1))), am_hp σ1, t)) (h2 : -2147483648 ≤ r1 ∧ r1 < 2147483648) (w3 : r1 = -1 → Wp k_X12_whyNoAdd d (33, [some (aR (some (40, 0, 0))), some (aL (jZ y1)), none], [], am_hp σ1, t) Q) (w4 : r1 ≠ -1 → Wp k_X12_whyNoAdd d (28, [some (aR (some (40, 0, 0))), some (aL (jZ y1)), none], [], am_hp σ1, t) Q) : Wp k_X12_whyNoAdd d (19, [some (aR (some (40, 0, 0))), some (aL (jZ y1)), none], [], am_hp σ, t) Q := by
  refine w_s (c' := (20, [some (aR (some (40, 0, 0))), some (aL (jZ y1)), none], [aR (some (40, 0, 0))], am_hp σ, t)) rfl rfl ?_
  refine w_s (c' := (21, [some (aR (some (40, 0, 0))), some (aL (jZ y1)), none], [aL (jZ y1), aR (some (40, 0, 0))], am_hp σ, t)) rfl rfl ?_
  refine w_c0 (c' := (24, [some (aR (some (40, 0, 0))), some (aL (jZ y1)), none], [aI (iZ r1)], am_hp σ1, t)) rfl rfl (rcv_of (hp_40 _ 0)) rfl c1 (Nat.le_refl _) rfl ?_
  refine w_psh rfl zc_m1 rfl ?_
  exact w_iceq rfl h2 (by decide) rfl w3 w4

theorem b_X12_whyNoAdd_28 {y1 : Int} {σ : SG} {t : KT} (w1 : Wp k_X12_whyNoAdd d (34, [some (aR (some (40, 0, 0))), some (aL (jZ y1)), none], [aI (iZ 102)], am_hp σ, t) Q) : Wp k_X12_whyNoAdd d (28, [some (aR (some (40, 0, 0))), some (aL (jZ y1)), none], [], am_hp σ, t) Q := by
  refine w_psh rfl zc_102 rfl ?_
  refine w_s (c' := (34, [some (aR (some (40, 0, 0))), some (aL (jZ y1)), none], [aI (iZ 102)], am_hp σ, t)) rfl rfl ?_
  exact w1

theorem b_X12_whyNoAdd_33 {y1 : Int} {σ : SG} {t : KT} (w1 : Wp k_X12_whyNoAdd d (34, [some (aR (some (40, 0, 0))), some (aL (jZ y1)), none], [aI (iZ 0)], am_hp σ, t) Q) : Wp k_X12_whyNoAdd d (33, [some (aR (some (40, 0, 0))), some (aL (jZ y1)), none], [], am_hp σ, t) Q := by
  refine w_psh rfl zc_0 rfl ?_
  exact w1

theorem b_X12_whyNoAdd_34 {y1 : Int} {xs0 : Int} {σ : SG} {t : KT} (q1 : Q (.inl (some (aI (iZ xs0))), am_hp σ, t)) : Wp k_X12_whyNoAdd d (34, [some (aR (some (40, 0, 0))), some (aL (jZ y1)), none], [aI (iZ xs0)], am_hp σ, t) Q := by
  exact w_ret rfl rfl q1

theorem b_X12_whyNoMore_0 {x1 : Int} {x2 : Int} {r1 : Int} {σ σ1 : SG} {t : KT} (c1 : Ca d 214 [aR (some (40, 0, 0)), aI (iZ x1)] (am_hp σ) t (.inl (some (aI (iZ r1))), am_hp σ1, t)) (h2 : -2147483648 ≤ r1 + x2 ∧ r1 + x2 < 2147483648) (w3 : r1 + x2 ≤ 60 → Wp k_X12_whyNoMore d (17, [some (aR (some (40, 0, 0))), some (aI (iZ x1)), some (aI (iZ x2))], [], am_hp σ1, t) Q) (w4 : 60 < r1 + x2 → Wp k_X12_whyNoMore d (12, [some (aR (some (40, 0, 0))), some (aI (iZ x1)), some (aI (iZ x2))], [], am_hp σ1, t) Q) : Wp k_X12_whyNoMore d (0, [some (aR (some (40, 0, 0))), some (aI (iZ x1)), some (aI (iZ x2))], [], am_hp σ, t) Q := by
  refine w_s (c' := (1, [some (aR (some (40, 0, 0))), some (aI (iZ x1)), some (aI (iZ x2))], [aR (some (40, 0, 0))], am_hp σ, t)) rfl rfl ?_
  refine w_s (c' := (2, [some (aR (some (40, 0, 0))), some (aI (iZ x1)), some (aI (iZ x2))], [aI (iZ x1), aR (some (40, 0, 0))], am_hp σ, t)) rfl rfl ?_
  refine w_c0 (c' := (5, [some (aR (some (40, 0, 0))), some (aI (iZ x1)), some (aI (iZ x2))], [aI (iZ r1)], am_hp σ1, t)) rfl rfl (rcv_of (hp_40 _ 0)) rfl c1 (Nat.le_refl _) rfl ?_
  refine w_s (c' := (6, [some (aR (some (40, 0, 0))), some (aI (iZ x1)), some (aI (iZ x2))], [aI (iZ x2), aI (iZ r1)], am_hp σ1, t)) rfl rfl ?_
  refine w_iadd rfl rfl ?_
  refine w_psh rfl zc_60 rfl ?_
  exact w_icle rfl h2 (by decide) rfl w3 w4

theorem e_X12_whyNoMore {x1 : Int} {x2 : Int} {h : AH} {t : KT} {d : Nat} {P : RS → Prop} (w : Wp k_X12_whyNoMore d (0, [some (aR (some (40, 0, 0))), some (aI (iZ x1)), some (aI (iZ x2))], [], h, t) P) : ∃ r, Ca (d + 1) 241 [aR (some (40, 0, 0)), aI (iZ x1), aI (iZ x2)] h t r ∧ P r := ca_W rfl rfl rfl rfl w

theorem b_X12_whyNoMore_12 {x1 : Int} {x2 : Int} {σ : SG} {t : KT} (w1 : Wp k_X12_whyNoMore d (18, [some (aR (some (40, 0, 0))), some (aI (iZ x1)), some (aI (iZ x2))], [aI (iZ 103)], am_hp σ, t) Q) : Wp k_X12_whyNoMore d (12, [some (aR (some (40, 0, 0))), some (aI (iZ x1)), some (aI (iZ x2))], [], am_hp σ, t) Q := by
  refine w_psh rfl zc_103 rfl ?_
  refine w_s (c' := (18, [some (aR (some (40, 0, 0))), some (aI (iZ x1)), some (aI (iZ x2))], [aI (iZ 103)], am_hp σ, t)) rfl rfl ?_
  exact w1

theorem b_X12_whyNoMore_17 {x1 : Int} {x2 : Int} {σ : SG} {t : KT} (w1 : Wp k_X12_whyNoMore d (18, [some (aR (some (40, 0, 0))), some (aI (iZ x1)), some (aI (iZ x2))], [aI (iZ 0)], am_hp σ, t) Q) : Wp k_X12_whyNoMore d (17, [some (aR (some (40, 0, 0))), some (aI (iZ x1)), some (aI (iZ x2))], [], am_hp σ, t) Q := by
  refine w_psh rfl zc_0 rfl ?_
  exact w1

theorem b_X12_whyNoMore_18 {x1 : Int} {x2 : Int} {xs0 : Int} {σ : SG} {t : KT} (q1 : Q (.inl (some (aI (iZ xs0))), am_hp σ, t)) : Wp k_X12_whyNoMore d (18, [some (aR (some (40, 0, 0))), some (aI (iZ x1)), some (aI (iZ x2))], [aI (iZ xs0)], am_hp σ, t) Q := by
  exact w_ret rfl rfl q1

theorem b_X12_mustName_0 {r1 : Int} {σ σ1 : SG} {t : KT} (c1 : Ca d 188 [aR (some (40, 0, 0))] (am_hp σ) t (.inl (some (aI (iZ r1))), am_hp σ1, t)) (h2 : -2147483648 ≤ r1 ∧ r1 < 2147483648) (w3 : r1 = 0 → Wp k_X12_mustName d (20, [some (aR (some (40, 0, 0)))], [], am_hp σ1, t) Q) (w4 : r1 ≠ 0 → Wp k_X12_mustName d (7, [some (aR (some (40, 0, 0)))], [], am_hp σ1, t) Q) : Wp k_X12_mustName d (0, [some (aR (some (40, 0, 0)))], [], am_hp σ, t) Q := by
  refine w_s (c' := (1, [some (aR (some (40, 0, 0)))], [aR (some (40, 0, 0))], am_hp σ, t)) rfl rfl ?_
  refine w_c0 (c' := (4, [some (aR (some (40, 0, 0)))], [aI (iZ r1)], am_hp σ1, t)) rfl rfl (rcv_of (hp_40 _ 0)) rfl c1 (Nat.le_refl _) rfl ?_
  exact w_ifeq rfl h2 rfl w3 w4

theorem e_X12_mustName {h : AH} {t : KT} {d : Nat} {P : RS → Prop} (w : Wp k_X12_mustName d (0, [some (aR (some (40, 0, 0)))], [], h, t) P) : ∃ r, Ca (d + 1) 242 [aR (some (40, 0, 0))] h t r ∧ P r := ca_W rfl rfl rfl rfl w

theorem b_X12_mustName_7 {σ : SG} {t : KT} (h1 : -2147483648 ≤ σ.1 (40, 0, 0) 6 ∧ σ.1 (40, 0, 0) 6 < 2147483648) (w2 : σ.1 (40, 0, 0) 6 = 1 → Wp k_X12_mustName d (20, [some (aR (some (40, 0, 0)))], [], am_hp σ, t) Q) (w3 : σ.1 (40, 0, 0) 6 ≠ 1 → Wp k_X12_mustName d (15, [some (aR (some (40, 0, 0)))], [], am_hp σ, t) Q) : Wp k_X12_mustName d (7, [some (aR (some (40, 0, 0)))], [], am_hp σ, t) Q := by
  refine w_s (c' := (8, [some (aR (some (40, 0, 0)))], [aR (some (40, 0, 0))], am_hp σ, t)) rfl rfl ?_
  refine w_get rfl (hp_40 _ 0) rfl rfl ?_
  refine w_psh rfl zc_1 rfl ?_
  exact w_iceq rfl h1 (by decide) rfl w2 w3

theorem b_X12_mustName_15 {σ σ1 : SG} {t : KT} (c1 : Ca d 187 [aR (some (40, 0, 0)), aI (iZ 1)] (am_hp σ) t (.inl none, am_hp σ1, t)) (w2 : Wp k_X12_mustName d (20, [some (aR (some (40, 0, 0)))], [], am_hp σ1, t) Q) : Wp k_X12_mustName d (15, [some (aR (some (40, 0, 0)))], [], am_hp σ, t) Q := by
  refine w_s (c' := (16, [some (aR (some (40, 0, 0)))], [aR (some (40, 0, 0))], am_hp σ, t)) rfl rfl ?_
  refine w_psh rfl zc_1 rfl ?_
  refine w_c0 (c' := (20, [some (aR (some (40, 0, 0)))], [], am_hp σ1, t)) rfl rfl (rcv_of (hp_40 _ 0)) rfl c1 (Nat.le_refl _) rfl ?_
  exact w2

theorem b_X12_mustName_20 {σ : SG} {t : KT} (q1 : Q (.inl none, am_hp σ, t)) : Wp k_X12_mustName d (20, [some (aR (some (40, 0, 0)))], [], am_hp σ, t) Q := by
  exact w_f rfl rfl q1

theorem b_X12_rowLine_0 {σ : SG} {t : KT} (h1 : -2147483648 ≤ σ.1 (42, 0, 0) 0 ∧ σ.1 (42, 0, 0) 0 < 2147483648) (w2 : σ.1 (42, 0, 0) 0 ≠ 4 → Wp k_X12_rowLine d (15, [some (aR (some (40, 0, 0))), none, none], [], am_hp σ, t) Q) (w3 : σ.1 (42, 0, 0) 0 = 4 → Wp k_X12_rowLine d (10, [some (aR (some (40, 0, 0))), none, none], [], am_hp σ, t) Q) : Wp k_X12_rowLine d (0, [some (aR (some (40, 0, 0))), none, none], [], am_hp σ, t) Q := by
  refine w_s (c' := (1, [some (aR (some (40, 0, 0))), none, none], [aR (some (40, 0, 0))], am_hp σ, t)) rfl rfl ?_
  refine w_get rfl (hp_40 _ 0) rfl rfl ?_
  refine w_psh rfl zc_0 rfl ?_
  refine w_ial rfl (hp_42 _ 0 0) (by decide) rfl rfl ?_
  refine w_e (c' := (6, [some (aR (some (40, 0, 0))), none, none], [aI (iZ (σ.1 (42, 0, 0) 0))], am_hp σ, t)) rfl ?_
  refine w_psh rfl zc_4 rfl ?_
  exact w_icne rfl h1 (by decide) rfl w2 w3

theorem e_X12_rowLine {h : AH} {t : KT} {d : Nat} {P : RS → Prop} (w : Wp k_X12_rowLine d (0, [some (aR (some (40, 0, 0))), none, none], [], h, t) P) : ∃ r, Ca (d + 1) 243 [aR (some (40, 0, 0))] h t r ∧ P r := ca_W rfl rfl rfl rfl w

theorem b_X12_rowLine_10 {σ σ1 : SG} {t : KT} (c1 : Ca d 187 [aR (some (40, 0, 0)), aI (iZ 5)] (am_hp σ) t (.inl none, am_hp σ1, t)) (w2 : Wp k_X12_rowLine d (15, [some (aR (some (40, 0, 0))), none, none], [], am_hp σ1, t) Q) : Wp k_X12_rowLine d (10, [some (aR (some (40, 0, 0))), none, none], [], am_hp σ, t) Q := by
  refine w_s (c' := (11, [some (aR (some (40, 0, 0))), none, none], [aR (some (40, 0, 0))], am_hp σ, t)) rfl rfl ?_
  refine w_psh rfl zc_5 rfl ?_
  refine w_c0 (c' := (15, [some (aR (some (40, 0, 0))), none, none], [], am_hp σ1, t)) rfl rfl (rcv_of (hp_40 _ 0)) rfl c1 (Nat.le_refl _) rfl ?_
  exact w2

theorem b_X12_rowLine_15 {r1 : Int} {σ σ1 : SG} {t : KT} (c1 : Ca d 188 [aR (some (40, 0, 0))] (am_hp σ) t (.inl (some (aI (iZ r1))), am_hp σ1, t)) (h2 : -2147483648 ≤ r1 ∧ r1 < 2147483648) (w3 : r1 = 0 → Wp k_X12_rowLine d (26, [some (aR (some (40, 0, 0))), none, none], [], am_hp σ1, t) Q) (w4 : r1 ≠ 0 → Wp k_X12_rowLine d (22, [some (aR (some (40, 0, 0))), none, none], [], am_hp σ1, t) Q) : Wp k_X12_rowLine d (15, [some (aR (some (40, 0, 0))), none, none], [], am_hp σ, t) Q := by
  refine w_s (c' := (16, [some (aR (some (40, 0, 0))), none, none], [aR (some (40, 0, 0))], am_hp σ, t)) rfl rfl ?_
  refine w_c0 (c' := (19, [some (aR (some (40, 0, 0))), none, none], [aI (iZ r1)], am_hp σ1, t)) rfl rfl (rcv_of (hp_40 _ 0)) rfl c1 (Nat.le_refl _) rfl ?_
  exact w_ifeq rfl h2 rfl w3 w4

theorem b_X12_rowLine_22 {σ σ1 : SG} {t : KT} (c1 : Ca d 186 [aR (some (40, 0, 0))] (am_hp σ) t (.inl none, am_hp σ1, t)) (w2 : Wp k_X12_rowLine d (26, [some (aR (some (40, 0, 0))), none, none], [], am_hp σ1, t) Q) : Wp k_X12_rowLine d (22, [some (aR (some (40, 0, 0))), none, none], [], am_hp σ, t) Q := by
  refine w_s (c' := (23, [some (aR (some (40, 0, 0))), none, none], [aR (some (40, 0, 0))], am_hp σ, t)) rfl rfl ?_
  refine w_c0 (c' := (26, [some (aR (some (40, 0, 0))), none, none], [], am_hp σ1, t)) rfl rfl (rcv_of (hp_40 _ 0)) rfl c1 (Nat.le_refl _) rfl ?_
  exact w2

theorem b_X12_rowLine_26 {r2 : Int} {σ σ1 σ2 : SG} {t : KT} (c1 : Ca d 242 [aR (some (40, 0, 0))] (am_hp σ) t (.inl none, am_hp σ1, t)) (c2 : Ca d 188 [aR (some (40, 0, 0))] (am_hp σ1) t (.inl (some (aI (iZ r2))), am_hp σ2, t)) (h3 : -2147483648 ≤ r2 ∧ r2 < 2147483648) (w4 : r2 = 0 → Wp k_X12_rowLine d (54, [some (aR (some (40, 0, 0))), none, none], [], am_hp σ2, t) Q) (w5 : r2 ≠ 0 → Wp k_X12_rowLine d (37, [some (aR (some (40, 0, 0))), none, none], [], am_hp σ2, t) Q) : Wp k_X12_rowLine d (26, [some (aR (some (40, 0, 0))), none, none], [], am_hp σ, t) Q := by
  refine w_s (c' := (27, [some (aR (some (40, 0, 0))), none, none], [aR (some (40, 0, 0))], am_hp σ, t)) rfl rfl ?_
  refine w_c0 (c' := (30, [some (aR (some (40, 0, 0))), none, none], [], am_hp σ1, t)) rfl rfl (rcv_of (hp_40 _ 0)) rfl c1 (Nat.le_refl _) rfl ?_
  refine w_s (c' := (31, [some (aR (some (40, 0, 0))), none, none], [aR (some (40, 0, 0))], am_hp σ1, t)) rfl rfl ?_
  refine w_c0 (c' := (34, [some (aR (some (40, 0, 0))), none, none], [aI (iZ r2)], am_hp σ2, t)) rfl rfl (rcv_of (hp_40 _ 0)) rfl c2 (Nat.le_refl _) rfl ?_
  exact w_ifeq rfl h3 rfl w4 w5

theorem b_X12_rowLine_37 {r1 : Int} {σ σ1 : SG} {t : KT} (c1 : Ca d 221 [aR (some (40, 0, 0)), aL (jZ (σ.2.1 (40, 0, 0) 12))] (am_hp σ) t (.inl (some (aI (iZ r1))), am_hp σ1, t)) (h2 : -2147483648 ≤ r1 ∧ r1 < 2147483648) (w3 : r1 = -1 → Wp k_X12_rowLine d (54, [some (aR (some (40, 0, 0))), none, none], [], am_hp σ1, t) Q) (w4 : r1 ≠ -1 → Wp k_X12_rowLine d (49, [some (aR (some (40, 0, 0))), none, none], [], am_hp σ1, t) Q) : Wp k_X12_rowLine d (37, [some (aR (some (40, 0, 0))), none, none], [], am_hp σ, t) Q := by
  refine w_s (c' := (38, [some (aR (some (40, 0, 0))), none, none], [aR (some (40, 0, 0))], am_hp σ, t)) rfl rfl ?_
  refine w_s (c' := (39, [some (aR (some (40, 0, 0))), none, none], [aR (some (40, 0, 0)), aR (some (40, 0, 0))], am_hp σ, t)) rfl rfl ?_
  refine w_get rfl (hp_40 _ 0) rfl rfl ?_
  refine w_c0 (c' := (45, [some (aR (some (40, 0, 0))), none, none], [aI (iZ r1)], am_hp σ1, t)) rfl rfl (rcv_of (hp_40 _ 0)) rfl c1 (Nat.le_refl _) rfl ?_
  refine w_psh rfl zc_m1 rfl ?_
  exact w_iceq rfl h2 (by decide) rfl w3 w4

theorem b_X12_rowLine_49 {σ σ1 : SG} {t : KT} (c1 : Ca d 187 [aR (some (40, 0, 0)), aI (iZ 3)] (am_hp σ) t (.inl none, am_hp σ1, t)) (w2 : Wp k_X12_rowLine d (54, [some (aR (some (40, 0, 0))), none, none], [], am_hp σ1, t) Q) : Wp k_X12_rowLine d (49, [some (aR (some (40, 0, 0))), none, none], [], am_hp σ, t) Q := by
  refine w_s (c' := (50, [some (aR (some (40, 0, 0))), none, none], [aR (some (40, 0, 0))], am_hp σ, t)) rfl rfl ?_
  refine w_psh rfl zc_3 rfl ?_
  refine w_c0 (c' := (54, [some (aR (some (40, 0, 0))), none, none], [], am_hp σ1, t)) rfl rfl (rcv_of (hp_40 _ 0)) rfl c1 (Nat.le_refl _) rfl ?_
  exact w2

theorem b_X12_rowLine_54 {r1 : Int} {σ σ1 : SG} {t : KT} (c1 : Ca d 188 [aR (some (40, 0, 0))] (am_hp σ) t (.inl (some (aI (iZ r1))), am_hp σ1, t)) (h2 : -2147483648 ≤ r1 ∧ r1 < 2147483648) (w3 : r1 ≠ 0 → Wp k_X12_rowLine d (62, [some (aR (some (40, 0, 0))), none, none], [], am_hp σ1, t) Q) (w4 : r1 = 0 → Wp k_X12_rowLine d (61, [some (aR (some (40, 0, 0))), none, none], [], am_hp σ1, t) Q) : Wp k_X12_rowLine d (54, [some (aR (some (40, 0, 0))), none, none], [], am_hp σ, t) Q := by
  refine w_s (c' := (55, [some (aR (some (40, 0, 0))), none, none], [aR (some (40, 0, 0))], am_hp σ, t)) rfl rfl ?_
  refine w_c0 (c' := (58, [some (aR (some (40, 0, 0))), none, none], [aI (iZ r1)], am_hp σ1, t)) rfl rfl (rcv_of (hp_40 _ 0)) rfl c1 (Nat.le_refl _) rfl ?_
  exact w_ifne rfl h2 rfl w3 w4

theorem b_X12_rowLine_61 {σ : SG} {t : KT} (q1 : Q (.inl none, am_hp σ, t)) : Wp k_X12_rowLine d (61, [some (aR (some (40, 0, 0))), none, none], [], am_hp σ, t) Q := by
  exact w_f rfl rfl q1

theorem b_X12_rowLine_62 {r1 : Int} {σ σ1 σ2 : SG} {t : KT} (c1 : Ca d 222 [aR (some (40, 0, 0)), aL (jZ (σ.2.1 (40, 0, 0) 12))] (am_hp σ) t (.inl (some (aI (iZ r1))), am_hp σ1, t)) (c2 : Ca d 186 [aR (some (40, 0, 0))] (am_hp σ1) t (.inl none, am_hp σ2, t)) (w3 : Wp k_X12_rowLine d (75, [some (aR (some (40, 0, 0))), some (aI (iZ r1)), none], [], am_hp σ2, t) Q) : Wp k_X12_rowLine d (62, [some (aR (some (40, 0, 0))), none, none], [], am_hp σ, t) Q := by
  refine w_s (c' := (63, [some (aR (some (40, 0, 0))), none, none], [aR (some (40, 0, 0))], am_hp σ, t)) rfl rfl ?_
  refine w_s (c' := (64, [some (aR (some (40, 0, 0))), none, none], [aR (some (40, 0, 0)), aR (some (40, 0, 0))], am_hp σ, t)) rfl rfl ?_
  refine w_get rfl (hp_40 _ 0) rfl rfl ?_
  refine w_c0 (c' := (70, [some (aR (some (40, 0, 0))), none, none], [aI (iZ r1)], am_hp σ1, t)) rfl rfl (rcv_of (hp_40 _ 0)) rfl c1 (Nat.le_refl _) rfl ?_
  refine w_s (c' := (71, [some (aR (some (40, 0, 0))), some (aI (iZ r1)), none], [], am_hp σ1, t)) rfl rfl ?_
  refine w_s (c' := (72, [some (aR (some (40, 0, 0))), some (aI (iZ r1)), none], [aR (some (40, 0, 0))], am_hp σ1, t)) rfl rfl ?_
  refine w_c0 (c' := (75, [some (aR (some (40, 0, 0))), some (aI (iZ r1)), none], [], am_hp σ2, t)) rfl rfl (rcv_of (hp_40 _ 0)) rfl c2 (Nat.le_refl _) rfl ?_
  exact w3

theorem b_X12_rowLine_75 {x1 : Int} {u2 : Option AV} {r1 : Int} {σ σ1 : SG} {t : KT} (c1 : Ca d 188 [aR (some (40, 0, 0))] (am_hp σ) t (.inl (some (aI (iZ r1))), am_hp σ1, t)) (h2 : -2147483648 ≤ r1 ∧ r1 < 2147483648) (w3 : r1 = 0 → Wp k_X12_rowLine d (142, [some (aR (some (40, 0, 0))), some (aI (iZ x1)), u2], [], am_hp σ1, t) Q) (w4 : r1 ≠ 0 → Wp k_X12_rowLine d (82, [some (aR (some (40, 0, 0))), some (aI (iZ x1)), u2], [], am_hp σ1, t) Q) : Wp k_X12_rowLine d (75, [some (aR (some (40, 0, 0))), some (aI (iZ x1)), u2], [], am_hp σ, t) Q := by
  refine w_s (c' := (76, [some (aR (some (40, 0, 0))), some (aI (iZ x1)), u2], [aR (some (40, 0, 0))], am_hp σ, t)) rfl rfl ?_
  refine w_c0 (c' := (79, [some (aR (some (40, 0, 0))), some (aI (iZ x1)), u2], [aI (iZ r1)], am_hp σ1, t)) rfl rfl (rcv_of (hp_40 _ 0)) rfl c1 (Nat.le_refl _) rfl ?_
  exact w_ifeq rfl h2 rfl w3 w4

theorem b_X12_rowLine_82 {x1 : Int} {u2 : Option AV} {σ : SG} {t : KT} (h1 : -2147483648 ≤ σ.1 (40, 0, 0) 6 ∧ σ.1 (40, 0, 0) 6 < 2147483648) (w2 : σ.1 (40, 0, 0) 6 ≠ 2 → Wp k_X12_rowLine d (142, [some (aR (some (40, 0, 0))), some (aI (iZ x1)), u2], [], am_hp σ, t) Q) (w3 : σ.1 (40, 0, 0) 6 = 2 → Wp k_X12_rowLine d (90, [some (aR (some (40, 0, 0))), some (aI (iZ x1)), u2], [], am_hp σ, t) Q) : Wp k_X12_rowLine d (82, [some (aR (some (40, 0, 0))), some (aI (iZ x1)), u2], [], am_hp σ, t) Q := by
  refine w_s (c' := (83, [some (aR (some (40, 0, 0))), some (aI (iZ x1)), u2], [aR (some (40, 0, 0))], am_hp σ, t)) rfl rfl ?_
  refine w_get rfl (hp_40 _ 0) rfl rfl ?_
  refine w_psh rfl zc_2 rfl ?_
  exact w_icne rfl h1 (by decide) rfl w2 w3

theorem b_X12_rowLine_90 {x1 : Int} {u2 : Option AV} {r1 : Int} {r2 : Int} {σ σ1 σ2 : SG} {t : KT} (c1 : Ca d 193 [aR (some (40, 0, 0)), aI (iZ 0), aI (iZ 268435455)] (am_hp σ) t (.inl (some (aI (iZ r1))), am_hp σ1, t)) (c2 : Ca d 188 [aR (some (40, 0, 0))] (am_hp σ1) t (.inl (some (aI (iZ r2))), am_hp σ2, t)) (h3 : -2147483648 ≤ r2 ∧ r2 < 2147483648) (w4 : r2 = 0 → Wp k_X12_rowLine d (121, [some (aR (some (40, 0, 0))), some (aI (iZ x1)), some (aI (iZ r1))], [], am_hp σ2, t) Q) (w5 : r2 ≠ 0 → Wp k_X12_rowLine d (106, [some (aR (some (40, 0, 0))), some (aI (iZ x1)), some (aI (iZ r1))], [], am_hp σ2, t) Q) : Wp k_X12_rowLine d (90, [some (aR (some (40, 0, 0))), some (aI (iZ x1)), u2], [], am_hp σ, t) Q := by
  refine w_s (c' := (91, [some (aR (some (40, 0, 0))), some (aI (iZ x1)), u2], [aR (some (40, 0, 0))], am_hp σ, t)) rfl rfl ?_
  refine w_psh rfl zc_0 rfl ?_
  refine w_psh rfl zc_268435455 rfl ?_
  refine w_c0 (c' := (98, [some (aR (some (40, 0, 0))), some (aI (iZ x1)), u2], [aI (iZ r1)], am_hp σ1, t)) rfl rfl (rcv_of (hp_40 _ 0)) rfl c1 (Nat.le_refl _) rfl ?_
  refine w_s (c' := (99, [some (aR (some (40, 0, 0))), some (aI (iZ x1)), some (aI (iZ r1))], [], am_hp σ1, t)) rfl rfl ?_
  refine w_s (c' := (100, [some (aR (some (40, 0, 0))), some (aI (iZ x1)), some (aI (iZ r1))], [aR (some (40, 0, 0))], am_hp σ1, t)) rfl rfl ?_
  refine w_c0 (c' := (103, [some (aR (some (40, 0, 0))), some (aI (iZ x1)), some (aI (iZ r1))], [aI (iZ r2)], am_hp σ2, t)) rfl rfl (rcv_of (hp_40 _ 0)) rfl c2 (Nat.le_refl _) rfl ?_
  exact w_ifeq rfl h3 rfl w4 w5

theorem b_X12_rowLine_106 {x1 : Int} {x2 : Int} {r1 : Int} {σ σ1 : SG} {t : KT} (c1 : Ca d 214 [aR (some (40, 0, 0)), aI (iZ x1)] (am_hp σ) t (.inl (some (aI (iZ r1))), am_hp σ1, t)) (h2 : -2147483648 ≤ r1 ∧ r1 < 2147483648) (w3 : r1 ≠ 60 → Wp k_X12_rowLine d (121, [some (aR (some (40, 0, 0))), some (aI (iZ x1)), some (aI (iZ x2))], [], am_hp σ1, t) Q) (w4 : r1 = 60 → Wp k_X12_rowLine d (116, [some (aR (some (40, 0, 0))), some (aI (iZ x1)), some (aI (iZ x2))], [], am_hp σ1, t) Q) : Wp k_X12_rowLine d (106, [some (aR (some (40, 0, 0))), some (aI (iZ x1)), some (aI (iZ x2))], [], am_hp σ, t) Q := by
  refine w_s (c' := (107, [some (aR (some (40, 0, 0))), some (aI (iZ x1)), some (aI (iZ x2))], [aR (some (40, 0, 0))], am_hp σ, t)) rfl rfl ?_
  refine w_s (c' := (108, [some (aR (some (40, 0, 0))), some (aI (iZ x1)), some (aI (iZ x2))], [aI (iZ x1), aR (some (40, 0, 0))], am_hp σ, t)) rfl rfl ?_
  refine w_c0 (c' := (111, [some (aR (some (40, 0, 0))), some (aI (iZ x1)), some (aI (iZ x2))], [aI (iZ r1)], am_hp σ1, t)) rfl rfl (rcv_of (hp_40 _ 0)) rfl c1 (Nat.le_refl _) rfl ?_
  refine w_psh rfl zc_60 rfl ?_
  exact w_icne rfl h2 (by decide) rfl w3 w4

theorem b_X12_rowLine_116 {x1 : Int} {x2 : Int} {σ σ1 : SG} {t : KT} (c1 : Ca d 187 [aR (some (40, 0, 0)), aI (iZ 5)] (am_hp σ) t (.inl none, am_hp σ1, t)) (w2 : Wp k_X12_rowLine d (121, [some (aR (some (40, 0, 0))), some (aI (iZ x1)), some (aI (iZ x2))], [], am_hp σ1, t) Q) : Wp k_X12_rowLine d (116, [some (aR (some (40, 0, 0))), some (aI (iZ x1)), some (aI (iZ x2))], [], am_hp σ, t) Q := by
  refine w_s (c' := (117, [some (aR (some (40, 0, 0))), some (aI (iZ x1)), some (aI (iZ x2))], [aR (some (40, 0, 0))], am_hp σ, t)) rfl rfl ?_
  refine w_psh rfl zc_5 rfl ?_
  refine w_c0 (c' := (121, [some (aR (some (40, 0, 0))), some (aI (iZ x1)), some (aI (iZ x2))], [], am_hp σ1, t)) rfl rfl (rcv_of (hp_40 _ 0)) rfl c1 (Nat.le_refl _) rfl ?_
  exact w2

theorem b_X12_rowLine_121 {x1 : Int} {x2 : Int} {r1 : Int} {σ σ1 : SG} {t : KT} (c1 : Ca d 188 [aR (some (40, 0, 0))] (am_hp σ) t (.inl (some (aI (iZ r1))), am_hp σ1, t)) (h2 : -2147483648 ≤ r1 ∧ r1 < 2147483648) (w3 : r1 ≠ 0 → Wp k_X12_rowLine d (129, [some (aR (some (40, 0, 0))), some (aI (iZ x1)), some (aI (iZ x2))], [], am_hp σ1, t) Q) (w4 : r1 = 0 → Wp k_X12_rowLine d (128, [some (aR (some (40, 0, 0))), some (aI (iZ x1)), some (aI (iZ x2))], [], am_hp σ1, t) Q) : Wp k_X12_rowLine d (121, [some (aR (some (40, 0, 0))), some (aI (iZ x1)), some (aI (iZ x2))], [], am_hp σ, t) Q := by
  refine w_s (c' := (122, [some (aR (some (40, 0, 0))), some (aI (iZ x1)), some (aI (iZ x2))], [aR (some (40, 0, 0))], am_hp σ, t)) rfl rfl ?_
  refine w_c0 (c' := (125, [some (aR (some (40, 0, 0))), some (aI (iZ x1)), some (aI (iZ x2))], [aI (iZ r1)], am_hp σ1, t)) rfl rfl (rcv_of (hp_40 _ 0)) rfl c1 (Nat.le_refl _) rfl ?_
  exact w_ifne rfl h2 rfl w3 w4

theorem b_X12_rowLine_128 {x1 : Int} {x2 : Int} {σ : SG} {t : KT} (q1 : Q (.inl none, am_hp σ, t)) : Wp k_X12_rowLine d (128, [some (aR (some (40, 0, 0))), some (aI (iZ x1)), some (aI (iZ x2))], [], am_hp σ, t) Q := by
  exact w_f rfl rfl q1

theorem b_X12_rowLine_129 {x1 : Int} {x2 : Int} {σ σ1 σ2 : SG} {t : KT} (c1 : Ca d 303 [aR (some (40, 0, 0)), aI (iZ x1), aI (iZ x2)] (am_hp σ) t (.inl none, am_hp σ1, t)) (c2 : Ca d 186 [aR (some (40, 0, 0))] (am_hp σ1) t (.inl none, am_hp σ2, t)) (w3 : Wp k_X12_rowLine d (75, [some (aR (some (40, 0, 0))), some (aI (iZ x1)), some (aI (iZ x2))], [], am_hp σ2, t) Q) : Wp k_X12_rowLine d (129, [some (aR (some (40, 0, 0))), some (aI (iZ x1)), some (aI (iZ x2))], [], am_hp σ, t) Q := by
  refine w_s (c' := (130, [some (aR (some (40, 0, 0))), some (aI (iZ x1)), some (aI (iZ x2))], [aR (some (40, 0, 0))], am_hp σ, t)) rfl rfl ?_
  refine w_s (c' := (131, [some (aR (some (40, 0, 0))), some (aI (iZ x1)), some (aI (iZ x2))], [aI (iZ x1), aR (some (40, 0, 0))], am_hp σ, t)) rfl rfl ?_
  refine w_s (c' := (132, [some (aR (some (40, 0, 0))), some (aI (iZ x1)), some (aI (iZ x2))], [aI (iZ x2), aI (iZ x1), aR (some (40, 0, 0))], am_hp σ, t)) rfl rfl ?_
  refine w_c0 (c' := (135, [some (aR (some (40, 0, 0))), some (aI (iZ x1)), some (aI (iZ x2))], [], am_hp σ1, t)) rfl rfl (rcv_of (hp_40 _ 0)) rfl c1 (Nat.le_refl _) rfl ?_
  refine w_s (c' := (136, [some (aR (some (40, 0, 0))), some (aI (iZ x1)), some (aI (iZ x2))], [aR (some (40, 0, 0))], am_hp σ1, t)) rfl rfl ?_
  refine w_c0 (c' := (139, [some (aR (some (40, 0, 0))), some (aI (iZ x1)), some (aI (iZ x2))], [], am_hp σ2, t)) rfl rfl (rcv_of (hp_40 _ 0)) rfl c2 (Nat.le_refl _) rfl ?_
  refine w_s (c' := (75, [some (aR (some (40, 0, 0))), some (aI (iZ x1)), some (aI (iZ x2))], [], am_hp σ2, t)) rfl rfl ?_
  exact w3

theorem b_X12_rowLine_142 {x1 : Int} {u2 : Option AV} {σ : SG} {t : KT} (q1 : Q (.inl none, am_hp σ, t)) : Wp k_X12_rowLine d (142, [some (aR (some (40, 0, 0))), some (aI (iZ x1)), u2], [], am_hp σ, t) Q := by
  exact w_f rfl rfl q1

theorem b_X12_priceLine_0 {r2 : Int} {r3 : Int} {σ σ1 σ2 σ3 : SG} {t : KT} (c1 : Ca d 186 [aR (some (40, 0, 0))] (am_hp σ) t (.inl none, am_hp σ1, t)) (c2 : Ca d 193 [aR (some (40, 0, 0)), aI (iZ 0), aI (iZ 8)] (am_hp σ1) t (.inl (some (aI (iZ r2))), am_hp σ2, t)) (c3 : Ca d 188 [aR (some (40, 0, 0))] (am_hp σ2) t (.inl (some (aI (iZ r3))), am_hp σ3, t)) (h4 : -2147483648 ≤ r3 ∧ r3 < 2147483648) (w5 : r3 = 0 → Wp k_X12_priceLine d (35, [some (aR (some (40, 0, 0))), some (aI (iZ r2)), none], [], am_hp σ3, t) Q) (w6 : r3 ≠ 0 → Wp k_X12_priceLine d (19, [some (aR (some (40, 0, 0))), some (aI (iZ r2)), none], [], am_hp σ3, t) Q) : Wp k_X12_priceLine d (0, [some (aR (some (40, 0, 0))), none, none], [], am_hp σ, t) Q := by
  refine w_s (c' := (1, [some (aR (some (40, 0, 0))), none, none], [aR (some (40, 0, 0))], am_hp σ, t)) rfl rfl ?_
  refine w_c0 (c' := (4, [some (aR (some (40, 0, 0))), none, none], [], am_hp σ1, t)) rfl rfl (rcv_of (hp_40 _ 0)) rfl c1 (Nat.le_refl _) rfl ?_
  refine w_s (c' := (5, [some (aR (some (40, 0, 0))), none, none], [aR (some (40, 0, 0))], am_hp σ1, t)) rfl rfl ?_
  refine w_psh rfl zc_0 rfl ?_
  refine w_psh rfl zc_8 rfl ?_
  refine w_c0 (c' := (11, [some (aR (some (40, 0, 0))), none, none], [aI (iZ r2)], am_hp σ2, t)) rfl rfl (rcv_of (hp_40 _ 0)) rfl c2 (Nat.le_refl _) rfl ?_
  refine w_s (c' := (12, [some (aR (some (40, 0, 0))), some (aI (iZ r2)), none], [], am_hp σ2, t)) rfl rfl ?_
  refine w_s (c' := (13, [some (aR (some (40, 0, 0))), some (aI (iZ r2)), none], [aR (some (40, 0, 0))], am_hp σ2, t)) rfl rfl ?_
  refine w_c0 (c' := (16, [some (aR (some (40, 0, 0))), some (aI (iZ r2)), none], [aI (iZ r3)], am_hp σ3, t)) rfl rfl (rcv_of (hp_40 _ 0)) rfl c3 (Nat.le_refl _) rfl ?_
  exact w_ifeq rfl h4 rfl w5 w6

theorem e_X12_priceLine {h : AH} {t : KT} {d : Nat} {P : RS → Prop} (w : Wp k_X12_priceLine d (0, [some (aR (some (40, 0, 0))), none, none], [], h, t) P) : ∃ r, Ca (d + 1) 244 [aR (some (40, 0, 0))] h t r ∧ P r := ca_W rfl rfl rfl rfl w

theorem b_X12_priceLine_19 {x1 : Int} {r1 : Int} {σ σ1 : SG} {t : KT} (c1 : Ca d 177 [aI (iZ (σ.1 (40, 0, 0) 35)), aI (iZ x1)] (am_hp σ) t (.inl (some (aI (iZ r1))), am_hp σ1, t)) (h2 : -2147483648 ≤ r1 ∧ r1 < 2147483648) (w3 : r1 = 0 → Wp k_X12_priceLine d (35, [some (aR (some (40, 0, 0))), some (aI (iZ x1)), none], [], am_hp σ1, t) Q) (w4 : r1 ≠ 0 → Wp k_X12_priceLine d (30, [some (aR (some (40, 0, 0))), some (aI (iZ x1)), none], [], am_hp σ1, t) Q) : Wp k_X12_priceLine d (19, [some (aR (some (40, 0, 0))), some (aI (iZ x1)), none], [], am_hp σ, t) Q := by
  refine w_s (c' := (20, [some (aR (some (40, 0, 0))), some (aI (iZ x1)), none], [aR (some (40, 0, 0))], am_hp σ, t)) rfl rfl ?_
  refine w_get rfl (hp_40 _ 0) rfl rfl ?_
  refine w_s (c' := (24, [some (aR (some (40, 0, 0))), some (aI (iZ x1)), none], [aI (iZ x1), aI (iZ (σ.1 (40, 0, 0) 35))], am_hp σ, t)) rfl rfl ?_
  refine w_c0 (c' := (27, [some (aR (some (40, 0, 0))), some (aI (iZ x1)), none], [aI (iZ r1)], am_hp σ1, t)) rfl rfl rfl rfl c1 (Nat.le_refl _) rfl ?_
  exact w_ifeq rfl h2 rfl w3 w4

theorem b_X12_priceLine_30 {x1 : Int} {σ σ1 : SG} {t : KT} (c1 : Ca d 187 [aR (some (40, 0, 0)), aI (iZ 3)] (am_hp σ) t (.inl none, am_hp σ1, t)) (w2 : Wp k_X12_priceLine d (35, [some (aR (some (40, 0, 0))), some (aI (iZ x1)), none], [], am_hp σ1, t) Q) : Wp k_X12_priceLine d (30, [some (aR (some (40, 0, 0))), some (aI (iZ x1)), none], [], am_hp σ, t) Q := by
  refine w_s (c' := (31, [some (aR (some (40, 0, 0))), some (aI (iZ x1)), none], [aR (some (40, 0, 0))], am_hp σ, t)) rfl rfl ?_
  refine w_psh rfl zc_3 rfl ?_
  refine w_c0 (c' := (35, [some (aR (some (40, 0, 0))), some (aI (iZ x1)), none], [], am_hp σ1, t)) rfl rfl (rcv_of (hp_40 _ 0)) rfl c1 (Nat.le_refl _) rfl ?_
  exact w2

theorem b_X12_priceLine_35 {x1 : Int} {r1 : Int} {σ σ1 : SG} {t : KT} (c1 : Ca d 188 [aR (some (40, 0, 0))] (am_hp σ) t (.inl (some (aI (iZ r1))), am_hp σ1, t)) (h2 : -2147483648 ≤ r1 ∧ r1 < 2147483648) (w3 : r1 ≠ 0 → Wp k_X12_priceLine d (43, [some (aR (some (40, 0, 0))), some (aI (iZ x1)), none], [], am_hp σ1, t) Q) (w4 : r1 = 0 → Wp k_X12_priceLine d (42, [some (aR (some (40, 0, 0))), some (aI (iZ x1)), none], [], am_hp σ1, t) Q) : Wp k_X12_priceLine d (35, [some (aR (some (40, 0, 0))), some (aI (iZ x1)), none], [], am_hp σ, t) Q := by
  refine w_s (c' := (36, [some (aR (some (40, 0, 0))), some (aI (iZ x1)), none], [aR (some (40, 0, 0))], am_hp σ, t)) rfl rfl ?_
  refine w_c0 (c' := (39, [some (aR (some (40, 0, 0))), some (aI (iZ x1)), none], [aI (iZ r1)], am_hp σ1, t)) rfl rfl (rcv_of (hp_40 _ 0)) rfl c1 (Nat.le_refl _) rfl ?_
  exact w_ifne rfl h2 rfl w3 w4

theorem b_X12_priceLine_42 {x1 : Int} {σ : SG} {t : KT} (q1 : Q (.inl none, am_hp σ, t)) : Wp k_X12_priceLine d (42, [some (aR (some (40, 0, 0))), some (aI (iZ x1)), none], [], am_hp σ, t) Q := by
  exact w_f rfl rfl q1

theorem b_X12_priceLine_43 {x1 : Int} {r2 : Int} {r3 : Int} {σ σ1 σ2 σ3 : SG} {t : KT} (c1 : Ca d 186 [aR (some (40, 0, 0))] (am_hp ((sI σ (40, 0, 0) (up (σ.1 (40, 0, 0)) 35 (zor (σ.1 (40, 0, 0) 35) (zshl 1 x1)))))) t (.inl none, am_hp σ1, t)) (c2 : Ca d 194 [aR (some (40, 0, 0)), aI (iZ 0), aI (iZ 99)] (am_hp σ1) t (.inl (some (aI (iZ r2))), am_hp σ2, t)) (c3 : Ca d 188 [aR (some (40, 0, 0))] (am_hp σ2) t (.inl (some (aI (iZ r3))), am_hp σ3, t)) (h4 : -2147483648 ≤ r3 ∧ r3 < 2147483648) (w5 : r3 = 0 → Wp k_X12_priceLine d (83, [some (aR (some (40, 0, 0))), some (aI (iZ x1)), some (aI (iZ r2))], [], am_hp σ3, t) Q) (w6 : r3 ≠ 0 → Wp k_X12_priceLine d (74, [some (aR (some (40, 0, 0))), some (aI (iZ x1)), some (aI (iZ r2))], [], am_hp σ3, t) Q) : Wp k_X12_priceLine d (43, [some (aR (some (40, 0, 0))), some (aI (iZ x1)), none], [], am_hp σ, t) Q := by
  refine w_s (c' := (44, [some (aR (some (40, 0, 0))), some (aI (iZ x1)), none], [aR (some (40, 0, 0))], am_hp σ, t)) rfl rfl ?_
  refine w_s (c' := (45, [some (aR (some (40, 0, 0))), some (aI (iZ x1)), none], [aR (some (40, 0, 0)), aR (some (40, 0, 0))], am_hp σ, t)) rfl rfl ?_
  refine w_get rfl (hp_40 _ 0) rfl rfl ?_
  refine w_psh rfl zc_1 rfl ?_
  refine w_s (c' := (50, [some (aR (some (40, 0, 0))), some (aI (iZ x1)), none], [aI (iZ x1), aI (iZ 1), aI (iZ (σ.1 (40, 0, 0) 35)), aR (some (40, 0, 0))], am_hp σ, t)) rfl rfl ?_
  refine w_ishl rfl rfl ?_
  refine w_ior rfl rfl ?_
  refine w_putI rfl (hp_40 _ 0) rfl rfl rfl ?_
  refine w_s (c' := (56, [some (aR (some (40, 0, 0))), some (aI (iZ x1)), none], [aR (some (40, 0, 0))], am_hp ((sI σ (40, 0, 0) (up (σ.1 (40, 0, 0)) 35 (zor (σ.1 (40, 0, 0) 35) (zshl 1 x1))))), t)) rfl rfl ?_
  refine w_c0 (c' := (59, [some (aR (some (40, 0, 0))), some (aI (iZ x1)), none], [], am_hp σ1, t)) rfl rfl (rcv_of (hp_40 _ 0)) rfl c1 (Nat.le_refl _) rfl ?_
  refine w_s (c' := (60, [some (aR (some (40, 0, 0))), some (aI (iZ x1)), none], [aR (some (40, 0, 0))], am_hp σ1, t)) rfl rfl ?_
  refine w_psh rfl zc_0 rfl ?_
  refine w_psh rfl zc_99 rfl ?_
  refine w_c0 (c' := (66, [some (aR (some (40, 0, 0))), some (aI (iZ x1)), none], [aI (iZ r2)], am_hp σ2, t)) rfl rfl (rcv_of (hp_40 _ 0)) rfl c2 (Nat.le_refl _) rfl ?_
  refine w_s (c' := (67, [some (aR (some (40, 0, 0))), some (aI (iZ x1)), some (aI (iZ r2))], [], am_hp σ2, t)) rfl rfl ?_
  refine w_s (c' := (68, [some (aR (some (40, 0, 0))), some (aI (iZ x1)), some (aI (iZ r2))], [aR (some (40, 0, 0))], am_hp σ2, t)) rfl rfl ?_
  refine w_c0 (c' := (71, [some (aR (some (40, 0, 0))), some (aI (iZ x1)), some (aI (iZ r2))], [aI (iZ r3)], am_hp σ3, t)) rfl rfl (rcv_of (hp_40 _ 0)) rfl c3 (Nat.le_refl _) rfl ?_
  exact w_ifeq rfl h4 rfl w5 w6

theorem b_X12_priceLine_74 {x1 : Int} {x2 : Int} {σ : SG} {t : KT} (h1 : 0 ≤ 3 + x1 ∧ 3 + x1 < 264) (w2 : Wp k_X12_priceLine d (83, [some (aR (some (40, 0, 0))), some (aI (iZ x1)), some (aI (iZ x2))], [], am_hp ((sI σ (42, 0, 0) (up (σ.1 (42, 0, 0)) (3 + x1).toNat x2))), t) Q) : Wp k_X12_priceLine d (74, [some (aR (some (40, 0, 0))), some (aI (iZ x1)), some (aI (iZ x2))], [], am_hp σ, t) Q := by
  refine w_s (c' := (75, [some (aR (some (40, 0, 0))), some (aI (iZ x1)), some (aI (iZ x2))], [aR (some (40, 0, 0))], am_hp σ, t)) rfl rfl ?_
  refine w_get rfl (hp_40 _ 0) rfl rfl ?_
  refine w_psh rfl zc_3 rfl ?_
  refine w_s (c' := (80, [some (aR (some (40, 0, 0))), some (aI (iZ x1)), some (aI (iZ x2))], [aI (iZ x1), aI (iZ 3), aR (some (42, 0, 0))], am_hp σ, t)) rfl rfl ?_
  refine w_iadd rfl rfl ?_
  refine w_s (c' := (82, [some (aR (some (40, 0, 0))), some (aI (iZ x1)), some (aI (iZ x2))], [aI (iZ x2), aI (iZ (3 + x1)), aR (some (42, 0, 0))], am_hp σ, t)) rfl rfl ?_
  refine w_ias rfl (mk_42 _ 0 0) h1 rfl rfl rfl ?_
  exact w2

theorem b_X12_priceLine_83 {x1 : Int} {x2 : Int} {σ : SG} {t : KT} (q1 : Q (.inl none, am_hp σ, t)) : Wp k_X12_priceLine d (83, [some (aR (some (40, 0, 0))), some (aI (iZ x1)), some (aI (iZ x2))], [], am_hp σ, t) Q := by
  exact w_f rfl rfl q1
end PCS
