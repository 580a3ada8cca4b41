/-! PIECES: X5 -/
set_option maxRecDepth 4000
section PCS
variable {d : Nat} {Q : RS → Prop}
theorem b_X5_wordFrom_0 {x1 : Int} {σ : SG} {t : KT} (h1 : 0 ≤ x1 ∧ x1 < 120) (w2 : Wp k_X5_wordFrom d (15, [some (aR (some (18, 0, 0))), some (aI (iZ x1)), some (aI (iZ (σ.1 (21, 0, 0) x1.toNat))), some (aI (iZ (zshl (σ.1 (21, 0, 0) x1.toNat) 28))), some (aI (iZ 0))], [], am_hp σ, t) Q) : Wp k_X5_wordFrom d (0, [some (aR (some (18, 0, 0))), some (aI (iZ x1)), none, none, none], [], am_hp σ, t) Q := by
  refine w_s (c' := (1, [some (aR (some (18, 0, 0))), some (aI (iZ x1)), none, none, none], [aR (some (18, 0, 0))], am_hp σ, t)) rfl rfl ?_
  refine w_get rfl (hp_18 _ 0) rfl rfl ?_
  refine w_s (c' := (5, [some (aR (some (18, 0, 0))), some (aI (iZ x1)), none, none, none], [aI (iZ x1), aR (some (21, 0, 0))], am_hp σ, t)) rfl rfl ?_
  refine w_ial rfl (hp_21 _ 0 0) h1 rfl rfl ?_
  refine w_s (c' := (7, [some (aR (some (18, 0, 0))), some (aI (iZ x1)), some (aI (iZ (σ.1 (21, 0, 0) x1.toNat))), none, none], [], am_hp σ, t)) rfl rfl ?_
  refine w_s (c' := (8, [some (aR (some (18, 0, 0))), some (aI (iZ x1)), some (aI (iZ (σ.1 (21, 0, 0) x1.toNat))), none, none], [aI (iZ (σ.1 (21, 0, 0) x1.toNat))], am_hp σ, t)) rfl rfl ?_
  refine w_psh rfl zc_28 rfl ?_
  refine w_ishl rfl rfl ?_
  refine w_s (c' := (12, [some (aR (some (18, 0, 0))), some (aI (iZ x1)), some (aI (iZ (σ.1 (21, 0, 0) x1.toNat))), some (aI (iZ (zshl (σ.1 (21, 0, 0) x1.toNat) 28))), none], [], am_hp σ, t)) rfl rfl ?_
  refine w_psh rfl zc_0 rfl ?_
  refine w_s (c' := (15, [some (aR (some (18, 0, 0))), some (aI (iZ x1)), some (aI (iZ (σ.1 (21, 0, 0) x1.toNat))), some (aI (iZ (zshl (σ.1 (21, 0, 0) x1.toNat) 28))), some (aI (iZ 0))], [], am_hp σ, t)) rfl rfl ?_
  exact w2

theorem e_X5_wordFrom {x1 : Int} {h : AH} {t : KT} {d : Nat} {P : RS → Prop} (w : Wp k_X5_wordFrom d (0, [some (aR (some (18, 0, 0))), some (aI (iZ x1)), none, none, none], [], h, t) P) : ∃ r, Ca (d + 1) 34 [aR (some (18, 0, 0)), aI (iZ x1)] h t r ∧ P r := ca_W rfl rfl rfl rfl w

theorem b_X5_wordFrom_15 {x1 : Int} {x2 : Int} {x3 : Int} {x4 : Int} {r1 : Int} {σ σ1 : SG} {t : KT} (c1 : Ca d 143 [aI (iZ x2)] (am_hp σ) t (.inl (some (aI (iZ r1))), am_hp σ1, t)) (h2 : -2147483648 ≤ x4 ∧ x4 < 2147483648) (h3 : -2147483648 ≤ r1 ∧ r1 < 2147483648) (w4 : r1 ≤ x4 → Wp k_X5_wordFrom d (61, [some (aR (some (18, 0, 0))), some (aI (iZ x1)), some (aI (iZ x2)), some (aI (iZ x3)), some (aI (iZ x4))], [], am_hp σ1, t) Q) (w5 : x4 < r1 → Wp k_X5_wordFrom d (24, [some (aR (some (18, 0, 0))), some (aI (iZ x1)), some (aI (iZ x2)), some (aI (iZ x3)), some (aI (iZ x4))], [], am_hp σ1, t) Q) : Wp k_X5_wordFrom d (15, [some (aR (some (18, 0, 0))), some (aI (iZ x1)), some (aI (iZ x2)), some (aI (iZ x3)), some (aI (iZ x4))], [], am_hp σ, t) Q := by
  refine w_s (c' := (17, [some (aR (some (18, 0, 0))), some (aI (iZ x1)), some (aI (iZ x2)), some (aI (iZ x3)), some (aI (iZ x4))], [aI (iZ x4)], am_hp σ, t)) rfl rfl ?_
  refine w_s (c' := (18, [some (aR (some (18, 0, 0))), some (aI (iZ x1)), some (aI (iZ x2)), some (aI (iZ x3)), some (aI (iZ x4))], [aI (iZ x2), aI (iZ x4)], am_hp σ, t)) rfl rfl ?_
  refine w_c0 (c' := (21, [some (aR (some (18, 0, 0))), some (aI (iZ x1)), some (aI (iZ x2)), some (aI (iZ x3)), some (aI (iZ x4))], [aI (iZ r1), aI (iZ x4)], am_hp σ1, t)) rfl rfl rfl rfl c1 (Nat.le_refl _) rfl ?_
  exact w_icge rfl h2 h3 rfl w4 w5

theorem b_X5_wordFrom_24 {x1 : Int} {x2 : Int} {x3 : Int} {x4 : Int} {σ : SG} {t : KT} (h1 : -2147483648 ≤ x1 + x4 ∧ x1 + x4 < 2147483648) (h2 : -2147483648 ≤ σ.1 (18, 0, 0) 6 ∧ σ.1 (18, 0, 0) 6 < 2147483648) (w3 : σ.1 (18, 0, 0) 6 ≤ x1 + x4 → Wp k_X5_wordFrom d (61, [some (aR (some (18, 0, 0))), some (aI (iZ x1)), some (aI (iZ x2)), some (aI (iZ x3)), some (aI (iZ x4))], [], am_hp σ, t) Q) (w4 : x1 + x4 < σ.1 (18, 0, 0) 6 → Wp k_X5_wordFrom d (35, [some (aR (some (18, 0, 0))), some (aI (iZ x1)), some (aI (iZ x2)), some (aI (iZ x3)), some (aI (iZ x4))], [], am_hp σ, t) Q) : Wp k_X5_wordFrom d (24, [some (aR (some (18, 0, 0))), some (aI (iZ x1)), some (aI (iZ x2)), some (aI (iZ x3)), some (aI (iZ x4))], [], am_hp σ, t) Q := by
  refine w_s (c' := (25, [some (aR (some (18, 0, 0))), some (aI (iZ x1)), some (aI (iZ x2)), some (aI (iZ x3)), some (aI (iZ x4))], [aI (iZ x1)], am_hp σ, t)) rfl rfl ?_
  refine w_s (c' := (27, [some (aR (some (18, 0, 0))), some (aI (iZ x1)), some (aI (iZ x2)), some (aI (iZ x3)), some (aI (iZ x4))], [aI (iZ x4), aI (iZ x1)], am_hp σ, t)) rfl rfl ?_
  refine w_iadd rfl rfl ?_
  refine w_s (c' := (29, [some (aR (some (18, 0, 0))), some (aI (iZ x1)), some (aI (iZ x2)), some (aI (iZ x3)), some (aI (iZ x4))], [aR (some (18, 0, 0)), aI (iZ (x1 + x4))], am_hp σ, t)) rfl rfl ?_
  refine w_get rfl (hp_18 _ 0) rfl rfl ?_
  exact w_icge rfl h1 h2 rfl w3 w4

theorem b_X5_wordFrom_35 {x1 : Int} {x2 : Int} {x3 : Int} {x4 : Int} {r1 : Int} {σ σ1 : SG} {t : KT} (h1 : 0 ≤ x1 + x4 ∧ x1 + x4 < 120) (c2 : Ca d 144 [aI (iZ x2)] (am_hp σ) t (.inl (some (aI (iZ r1))), am_hp σ1, t)) (w3 : Wp k_X5_wordFrom d (15, [some (aR (some (18, 0, 0))), some (aI (iZ x1)), some (aI (iZ x2)), some (aI (iZ (zor x3 (zshl (σ.1 (19, 0, 0) (x1 + x4).toNat) (x4 * r1))))), some (aI (iZ (x4 + 1)))], [], am_hp σ1, t) Q) : Wp k_X5_wordFrom d (35, [some (aR (some (18, 0, 0))), some (aI (iZ x1)), some (aI (iZ x2)), some (aI (iZ x3)), some (aI (iZ x4))], [], am_hp σ, t) Q := by
  refine w_s (c' := (36, [some (aR (some (18, 0, 0))), some (aI (iZ x1)), some (aI (iZ x2)), some (aI (iZ x3)), some (aI (iZ x4))], [aI (iZ x3)], am_hp σ, t)) rfl rfl ?_
  refine w_s (c' := (37, [some (aR (some (18, 0, 0))), some (aI (iZ x1)), some (aI (iZ x2)), some (aI (iZ x3)), some (aI (iZ x4))], [aR (some (18, 0, 0)), aI (iZ x3)], am_hp σ, t)) rfl rfl ?_
  refine w_get rfl (hp_18 _ 0) rfl rfl ?_
  refine w_s (c' := (41, [some (aR (some (18, 0, 0))), some (aI (iZ x1)), some (aI (iZ x2)), some (aI (iZ x3)), some (aI (iZ x4))], [aI (iZ x1), aR (some (19, 0, 0)), aI (iZ x3)], am_hp σ, t)) rfl rfl ?_
  refine w_s (c' := (43, [some (aR (some (18, 0, 0))), some (aI (iZ x1)), some (aI (iZ x2)), some (aI (iZ x3)), some (aI (iZ x4))], [aI (iZ x4), aI (iZ x1), aR (some (19, 0, 0)), aI (iZ x3)], am_hp σ, t)) rfl rfl ?_
  refine w_iadd rfl rfl ?_
  refine w_ial rfl (hp_19 _ 0 0) h1 rfl rfl ?_
  refine w_s (c' := (47, [some (aR (some (18, 0, 0))), some (aI (iZ x1)), some (aI (iZ x2)), some (aI (iZ x3)), some (aI (iZ x4))], [aI (iZ x4), aI (iZ (σ.1 (19, 0, 0) (x1 + x4).toNat)), aI (iZ x3)], am_hp σ, t)) rfl rfl ?_
  refine w_s (c' := (48, [some (aR (some (18, 0, 0))), some (aI (iZ x1)), some (aI (iZ x2)), some (aI (iZ x3)), some (aI (iZ x4))], [aI (iZ x2), aI (iZ x4), aI (iZ (σ.1 (19, 0, 0) (x1 + x4).toNat)), aI (iZ x3)], am_hp σ, t)) rfl rfl ?_
  refine w_c0 (c' := (51, [some (aR (some (18, 0, 0))), some (aI (iZ x1)), some (aI (iZ x2)), some (aI (iZ x3)), some (aI (iZ x4))], [aI (iZ r1), aI (iZ x4), aI (iZ (σ.1 (19, 0, 0) (x1 + x4).toNat)), aI (iZ x3)], am_hp σ1, t)) rfl rfl rfl rfl c2 (Nat.le_refl _) rfl ?_
  refine w_imul rfl rfl ?_
  refine w_ishl rfl rfl ?_
  refine w_ior rfl rfl ?_
  refine w_s (c' := (55, [some (aR (some (18, 0, 0))), some (aI (iZ x1)), some (aI (iZ x2)), some (aI (iZ (zor x3 (zshl (σ.1 (19, 0, 0) (x1 + x4).toNat) (x4 * r1))))), some (aI (iZ x4))], [], am_hp σ1, t)) rfl rfl ?_
  refine w_inc (a := x4) (ls' := [some (aR (some (18, 0, 0))), some (aI (iZ x1)), some (aI (iZ x2)), some (aI (iZ (zor x3 (zshl (σ.1 (19, 0, 0) (x1 + x4).toNat) (x4 * r1))))), some (aI (iZ (x4 + 1)))]) rfl rfl rfl zc_1 rfl rfl ?_
  refine w_s (c' := (15, [some (aR (some (18, 0, 0))), some (aI (iZ x1)), some (aI (iZ x2)), some (aI (iZ (zor x3 (zshl (σ.1 (19, 0, 0) (x1 + x4).toNat) (x4 * r1))))), some (aI (iZ (x4 + 1)))], [], am_hp σ1, t)) rfl rfl ?_
  exact w3

theorem b_X5_wordFrom_61 {x1 : Int} {x2 : Int} {x3 : Int} {x4 : Int} {σ : SG} {t : KT} (q1 : Q (.inl (some (aI (iZ x3))), am_hp σ, t)) : Wp k_X5_wordFrom d (61, [some (aR (some (18, 0, 0))), some (aI (iZ x1)), some (aI (iZ x2)), some (aI (iZ x3)), some (aI (iZ x4))], [], am_hp σ, t) Q := by
  refine w_s (c' := (62, [some (aR (some (18, 0, 0))), some (aI (iZ x1)), some (aI (iZ x2)), some (aI (iZ x3)), some (aI (iZ x4))], [aI (iZ x3)], am_hp σ, t)) rfl rfl ?_
  exact w_ret rfl rfl q1
end PCS
