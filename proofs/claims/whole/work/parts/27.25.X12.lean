/-! PIECES: X12 -/
set_option maxRecDepth 4000
section PCS
variable {d : Nat} {Q : RS → Prop}
theorem b_X12_hasName_0 {x1 : Int} {σ : SG} {t : KT} (h1 : 0 ≤ x1 ∧ x1 < 60) (h2 : -2147483648 ≤ σ.1 (55, 0, 0) x1.toNat ∧ σ.1 (55, 0, 0) x1.toNat < 2147483648) (w3 : σ.1 (55, 0, 0) x1.toNat < 1 → Wp k_X12_hasName d (24, [some (aR (some (40, 0, 0))), some (aI (iZ x1))], [], am_hp σ, t) Q) (w4 : 1 ≤ σ.1 (55, 0, 0) x1.toNat → Wp k_X12_hasName d (10, [some (aR (some (40, 0, 0))), some (aI (iZ x1))], [], am_hp σ, t) Q) : Wp k_X12_hasName d (0, [some (aR (some (40, 0, 0))), some (aI (iZ x1))], [], am_hp σ, t) Q := by
  refine w_s (c' := (1, [some (aR (some (40, 0, 0))), some (aI (iZ x1))], [aR (some (40, 0, 0))], am_hp σ, t)) rfl rfl ?_
  refine w_get rfl (hp_40 _ 0) rfl rfl ?_
  refine w_s (c' := (5, [some (aR (some (40, 0, 0))), some (aI (iZ x1))], [aI (iZ x1), aR (some (55, 0, 0))], am_hp σ, t)) rfl rfl ?_
  refine w_ial rfl (hp_55 _ 0 0) h1 rfl rfl ?_
  refine w_psh rfl zc_1 rfl ?_
  exact w_iclt rfl h2 (by decide) rfl w3 w4

theorem e_X12_hasName {x1 : Int} {h : AH} {t : KT} {d : Nat} {P : RS → Prop} (w : Wp k_X12_hasName d (0, [some (aR (some (40, 0, 0))), some (aI (iZ x1))], [], h, t) P) : ∃ r, Ca (d + 1) 324 [aR (some (40, 0, 0)), aI (iZ x1)] h t r ∧ P r := ca_W rfl rfl rfl rfl w

theorem b_X12_hasName_10 {x1 : Int} {σ : SG} {t : KT} (h1 : 0 ≤ x1 ∧ x1 < 60) (h2 : -2147483648 ≤ σ.1 (55, 0, 0) x1.toNat ∧ σ.1 (55, 0, 0) x1.toNat < 2147483648) (w3 : 5 < σ.1 (55, 0, 0) x1.toNat → Wp k_X12_hasName d (24, [some (aR (some (40, 0, 0))), some (aI (iZ x1))], [], am_hp σ, t) Q) (w4 : σ.1 (55, 0, 0) x1.toNat ≤ 5 → Wp k_X12_hasName d (20, [some (aR (some (40, 0, 0))), some (aI (iZ x1))], [], am_hp σ, t) Q) : Wp k_X12_hasName d (10, [some (aR (some (40, 0, 0))), some (aI (iZ x1))], [], am_hp σ, t) Q := by
  refine w_s (c' := (11, [some (aR (some (40, 0, 0))), some (aI (iZ x1))], [aR (some (40, 0, 0))], am_hp σ, t)) rfl rfl ?_
  refine w_get rfl (hp_40 _ 0) rfl rfl ?_
  refine w_s (c' := (15, [some (aR (some (40, 0, 0))), some (aI (iZ x1))], [aI (iZ x1), aR (some (55, 0, 0))], am_hp σ, t)) rfl rfl ?_
  refine w_ial rfl (hp_55 _ 0 0) h1 rfl rfl ?_
  refine w_psh rfl zc_5 rfl ?_
  exact w_icgt rfl h2 (by decide) rfl w3 w4

theorem b_X12_hasName_20 {x1 : Int} {σ : SG} {t : KT} (w1 : Wp k_X12_hasName d (25, [some (aR (some (40, 0, 0))), some (aI (iZ x1))], [aI (iZ 1)], am_hp σ, t) Q) : Wp k_X12_hasName d (20, [some (aR (some (40, 0, 0))), some (aI (iZ x1))], [], am_hp σ, t) Q := by
  refine w_psh rfl zc_1 rfl ?_
  refine w_s (c' := (25, [some (aR (some (40, 0, 0))), some (aI (iZ x1))], [aI (iZ 1)], am_hp σ, t)) rfl rfl ?_
  exact w1

theorem b_X12_hasName_24 {x1 : Int} {σ : SG} {t : KT} (w1 : Wp k_X12_hasName d (25, [some (aR (some (40, 0, 0))), some (aI (iZ x1))], [aI (iZ 0)], am_hp σ, t) Q) : Wp k_X12_hasName d (24, [some (aR (some (40, 0, 0))), some (aI (iZ x1))], [], am_hp σ, t) Q := by
  refine w_psh rfl zc_0 rfl ?_
  exact w1

theorem b_X12_hasName_25 {x1 : Int} {xs0 : Int} {σ : SG} {t : KT} (h1 : xs0 = 0 ∨ xs0 = 1) (q2 : Q (.inl (some (aI (iZ xs0))), am_hp σ, t)) : Wp k_X12_hasName d (25, [some (aR (some (40, 0, 0))), some (aI (iZ x1))], [aI (iZ xs0)], am_hp σ, t) Q := by
  exact w_ret rfl (frt_b h1) q2

theorem b_X12_isAsked_0 {x1 : Int} {r1 : Int} {σ σ1 : SG} {t : KT} (h1 : 0 ≤ x1 ∧ x1 < 60) (c2 : Ca d 324 [aR (some (40, 0, 0)), aI (iZ x1)] (am_hp σ) t (.inl (some (aI (iZ r1))), am_hp σ1, t)) (h3 : -2147483648 ≤ r1 ∧ r1 < 2147483648) (w4 : r1 = 0 → Wp k_X12_isAsked d (28, [some (aR (some (40, 0, 0))), some (aI (iZ x1)), some (aI (iZ (σ.1 (56, 0, 0) x1.toNat))), none], [], am_hp σ1, t) Q) (w5 : r1 ≠ 0 → Wp k_X12_isAsked d (15, [some (aR (some (40, 0, 0))), some (aI (iZ x1)), some (aI (iZ (σ.1 (56, 0, 0) x1.toNat))), none], [], am_hp σ1, t) Q) : Wp k_X12_isAsked d (0, [some (aR (some (40, 0, 0))), some (aI (iZ x1)), none, none], [], am_hp σ, t) Q := by
  refine w_s (c' := (1, [some (aR (some (40, 0, 0))), some (aI (iZ x1)), none, none], [aR (some (40, 0, 0))], am_hp σ, t)) rfl rfl ?_
  refine w_get rfl (hp_40 _ 0) rfl rfl ?_
  refine w_s (c' := (5, [some (aR (some (40, 0, 0))), some (aI (iZ x1)), none, none], [aI (iZ x1), aR (some (56, 0, 0))], am_hp σ, t)) rfl rfl ?_
  refine w_ial rfl (hp_56 _ 0 0) h1 rfl rfl ?_
  refine w_s (c' := (7, [some (aR (some (40, 0, 0))), some (aI (iZ x1)), some (aI (iZ (σ.1 (56, 0, 0) x1.toNat))), none], [], am_hp σ, t)) rfl rfl ?_
  refine w_s (c' := (8, [some (aR (some (40, 0, 0))), some (aI (iZ x1)), some (aI (iZ (σ.1 (56, 0, 0) x1.toNat))), none], [aR (some (40, 0, 0))], am_hp σ, t)) rfl rfl ?_
  refine w_s (c' := (9, [some (aR (some (40, 0, 0))), some (aI (iZ x1)), some (aI (iZ (σ.1 (56, 0, 0) x1.toNat))), none], [aI (iZ x1), aR (some (40, 0, 0))], am_hp σ, t)) rfl rfl ?_
  refine w_c0 (c' := (12, [some (aR (some (40, 0, 0))), some (aI (iZ x1)), some (aI (iZ (σ.1 (56, 0, 0) x1.toNat))), none], [aI (iZ r1)], am_hp σ1, t)) rfl rfl (rcv_of (hp_40 _ 0)) rfl c2 (Nat.le_refl _) rfl ?_
  exact w_ifeq rfl h3 rfl w4 w5

theorem e_X12_isAsked {x1 : Int} {h : AH} {t : KT} {d : Nat} {P : RS → Prop} (w : Wp k_X12_isAsked d (0, [some (aR (some (40, 0, 0))), some (aI (iZ x1)), none, none], [], h, t) P) : ∃ r, Ca (d + 1) 325 [aR (some (40, 0, 0)), aI (iZ x1)] h t r ∧ P r := ca_W rfl rfl rfl rfl w

theorem b_X12_isAsked_15 {x1 : Int} {x2 : Int} {r1 : Int} {σ σ1 : SG} {t : KT} (h1 : 0 ≤ x1 ∧ x1 < 60) (c2 : Ca d 221 [aR (some (40, 0, 0)), aL (jZ (σ.2.1 (60, 0, 0) x1.toNat))] (am_hp σ) t (.inl (some (aI (iZ r1))), am_hp σ1, t)) (w3 : Wp k_X12_isAsked d (29, [some (aR (some (40, 0, 0))), some (aI (iZ x1)), some (aI (iZ x2)), none], [aI (iZ r1)], am_hp σ1, t) Q) : Wp k_X12_isAsked d (15, [some (aR (some (40, 0, 0))), some (aI (iZ x1)), some (aI (iZ x2)), none], [], am_hp σ, t) Q := by
  refine w_s (c' := (16, [some (aR (some (40, 0, 0))), some (aI (iZ x1)), some (aI (iZ x2)), none], [aR (some (40, 0, 0))], am_hp σ, t)) rfl rfl ?_
  refine w_s (c' := (17, [some (aR (some (40, 0, 0))), some (aI (iZ x1)), some (aI (iZ x2)), none], [aR (some (40, 0, 0)), aR (some (40, 0, 0))], am_hp σ, t)) rfl rfl ?_
  refine w_get rfl (hp_40 _ 0) rfl rfl ?_
  refine w_s (c' := (21, [some (aR (some (40, 0, 0))), some (aI (iZ x1)), some (aI (iZ x2)), none], [aI (iZ x1), aR (some (60, 0, 0)), aR (some (40, 0, 0))], am_hp σ, t)) rfl rfl ?_
  refine w_lal rfl (hp_60 _ 0 0) h1 rfl rfl ?_
  refine w_c0 (c' := (25, [some (aR (some (40, 0, 0))), some (aI (iZ x1)), some (aI (iZ x2)), none], [aI (iZ r1)], am_hp σ1, t)) rfl rfl (rcv_of (hp_40 _ 0)) rfl c2 (Nat.le_refl _) rfl ?_
  refine w_s (c' := (29, [some (aR (some (40, 0, 0))), some (aI (iZ x1)), some (aI (iZ x2)), none], [aI (iZ r1)], am_hp σ1, t)) rfl rfl ?_
  exact w3

theorem b_X12_isAsked_28 {x1 : Int} {x2 : Int} {σ : SG} {t : KT} (w1 : Wp k_X12_isAsked d (29, [some (aR (some (40, 0, 0))), some (aI (iZ x1)), some (aI (iZ x2)), none], [aI (iZ 0)], am_hp σ, t) Q) : Wp k_X12_isAsked d (28, [some (aR (some (40, 0, 0))), some (aI (iZ x1)), some (aI (iZ x2)), none], [], am_hp σ, t) Q := by
  refine w_psh rfl zc_0 rfl ?_
  exact w1

theorem b_X12_isAsked_29 {x1 : Int} {x2 : Int} {xs0 : Int} {σ : SG} {t : KT} (h1 : -2147483648 ≤ xs0 ∧ xs0 < 2147483648) (w2 : xs0 ≠ -1 → Wp k_X12_isAsked d (37, [some (aR (some (40, 0, 0))), some (aI (iZ x1)), some (aI (iZ x2)), some (aI (iZ xs0))], [], am_hp σ, t) Q) (w3 : xs0 = -1 → Wp k_X12_isAsked d (35, [some (aR (some (40, 0, 0))), some (aI (iZ x1)), some (aI (iZ x2)), some (aI (iZ xs0))], [], am_hp σ, t) Q) : Wp k_X12_isAsked d (29, [some (aR (some (40, 0, 0))), some (aI (iZ x1)), some (aI (iZ x2)), none], [aI (iZ xs0)], am_hp σ, t) Q := by
  refine w_s (c' := (30, [some (aR (some (40, 0, 0))), some (aI (iZ x1)), some (aI (iZ x2)), some (aI (iZ xs0))], [], am_hp σ, t)) rfl rfl ?_
  refine w_s (c' := (31, [some (aR (some (40, 0, 0))), some (aI (iZ x1)), some (aI (iZ x2)), some (aI (iZ xs0))], [aI (iZ xs0)], am_hp σ, t)) rfl rfl ?_
  refine w_psh rfl zc_m1 rfl ?_
  exact w_icne rfl h1 (by decide) rfl w2 w3

theorem b_X12_isAsked_35 {x1 : Int} {x2 : Int} {x3 : Int} {σ : SG} {t : KT} (q1 : Q (.inl (some (aI (iZ 0))), am_hp σ, t)) : Wp k_X12_isAsked d (35, [some (aR (some (40, 0, 0))), some (aI (iZ x1)), some (aI (iZ x2)), some (aI (iZ x3))], [], am_hp σ, t) Q := by
  refine w_psh rfl zc_0 rfl ?_
  exact w_ret rfl (frt_b (by decide)) q1

theorem b_X12_isAsked_37 {x1 : Int} {x2 : Int} {x3 : Int} {σ : SG} {t : KT} (h1 : 0 ≤ x1 ∧ x1 < 60) (h2 : -2147483648 ≤ σ.1 (55, 0, 0) x1.toNat ∧ σ.1 (55, 0, 0) x1.toNat < 2147483648) (w3 : σ.1 (55, 0, 0) x1.toNat = 1 → Wp k_X12_isAsked d (88, [some (aR (some (40, 0, 0))), some (aI (iZ x1)), some (aI (iZ x2)), some (aI (iZ x3))], [], am_hp σ, t) Q) (w4 : σ.1 (55, 0, 0) x1.toNat = 2 → Wp k_X12_isAsked d (93, [some (aR (some (40, 0, 0))), some (aI (iZ x1)), some (aI (iZ x2)), some (aI (iZ x3))], [], am_hp σ, t) Q) (w5 : σ.1 (55, 0, 0) x1.toNat = 3 → Wp k_X12_isAsked d (120, [some (aR (some (40, 0, 0))), some (aI (iZ x1)), some (aI (iZ x2)), some (aI (iZ x3))], [], am_hp σ, t) Q) (w6 : σ.1 (55, 0, 0) x1.toNat = 4 → Wp k_X12_isAsked d (147, [some (aR (some (40, 0, 0))), some (aI (iZ x1)), some (aI (iZ x2)), some (aI (iZ x3))], [], am_hp σ, t) Q) (w7 : σ.1 (55, 0, 0) x1.toNat = 5 → Wp k_X12_isAsked d (154, [some (aR (some (40, 0, 0))), some (aI (iZ x1)), some (aI (iZ x2)), some (aI (iZ x3))], [], am_hp σ, t) Q) (w8 : σ.1 (55, 0, 0) x1.toNat = 6 → Wp k_X12_isAsked d (174, [some (aR (some (40, 0, 0))), some (aI (iZ x1)), some (aI (iZ x2)), some (aI (iZ x3))], [], am_hp σ, t) Q) (w9 : σ.1 (55, 0, 0) x1.toNat = 7 → Wp k_X12_isAsked d (179, [some (aR (some (40, 0, 0))), some (aI (iZ x1)), some (aI (iZ x2)), some (aI (iZ x3))], [], am_hp σ, t) Q) (w10 : σ.1 (55, 0, 0) x1.toNat = 8 → Wp k_X12_isAsked d (184, [some (aR (some (40, 0, 0))), some (aI (iZ x1)), some (aI (iZ x2)), some (aI (iZ x3))], [], am_hp σ, t) Q) (w11 : (σ.1 (55, 0, 0) x1.toNat < 1 ∨ 9 ≤ σ.1 (55, 0, 0) x1.toNat) → Wp k_X12_isAsked d (209, [some (aR (some (40, 0, 0))), some (aI (iZ x1)), some (aI (iZ x2)), some (aI (iZ x3))], [], am_hp σ, t) Q) : Wp k_X12_isAsked d (37, [some (aR (some (40, 0, 0))), some (aI (iZ x1)), some (aI (iZ x2)), some (aI (iZ x3))], [], am_hp σ, t) Q := by
  refine w_s (c' := (38, [some (aR (some (40, 0, 0))), some (aI (iZ x1)), some (aI (iZ x2)), some (aI (iZ x3))], [aR (some (40, 0, 0))], am_hp σ, t)) rfl rfl ?_
  refine w_get rfl (hp_40 _ 0) rfl rfl ?_
  refine w_s (c' := (42, [some (aR (some (40, 0, 0))), some (aI (iZ x1)), some (aI (iZ x2)), some (aI (iZ x3))], [aI (iZ x1), aR (some (55, 0, 0))], am_hp σ, t)) rfl rfl ?_
  refine w_ial rfl (hp_55 _ 0 0) h1 rfl rfl ?_
  refine w_tab rfl h2 ?_
  rcases (by omega : σ.1 (55, 0, 0) x1.toNat = 1 ∨ σ.1 (55, 0, 0) x1.toNat = 2 ∨ σ.1 (55, 0, 0) x1.toNat = 3 ∨ σ.1 (55, 0, 0) x1.toNat = 4 ∨ σ.1 (55, 0, 0) x1.toNat = 5 ∨ σ.1 (55, 0, 0) x1.toNat = 6 ∨ σ.1 (55, 0, 0) x1.toNat = 7 ∨ σ.1 (55, 0, 0) x1.toNat = 8 ∨ (σ.1 (55, 0, 0) x1.toNat < 1 ∨ 9 ≤ σ.1 (55, 0, 0) x1.toNat)) with hd | hd | hd | hd | hd | hd | hd | hd | hd
  · rw [show (if σ.1 (55, 0, 0) x1.toNat < (1 : Int) then 209 else [88, 93, 120, 147, 154, 174, 179, 184].getD (σ.1 (55, 0, 0) x1.toNat - 1).toNat 209) = 88 by rw [hd]; rfl]; exact w3 hd
  · rw [show (if σ.1 (55, 0, 0) x1.toNat < (1 : Int) then 209 else [88, 93, 120, 147, 154, 174, 179, 184].getD (σ.1 (55, 0, 0) x1.toNat - 1).toNat 209) = 93 by rw [hd]; rfl]; exact w4 hd
  · rw [show (if σ.1 (55, 0, 0) x1.toNat < (1 : Int) then 209 else [88, 93, 120, 147, 154, 174, 179, 184].getD (σ.1 (55, 0, 0) x1.toNat - 1).toNat 209) = 120 by rw [hd]; rfl]; exact w5 hd
  · rw [show (if σ.1 (55, 0, 0) x1.toNat < (1 : Int) then 209 else [88, 93, 120, 147, 154, 174, 179, 184].getD (σ.1 (55, 0, 0) x1.toNat - 1).toNat 209) = 147 by rw [hd]; rfl]; exact w6 hd
  · rw [show (if σ.1 (55, 0, 0) x1.toNat < (1 : Int) then 209 else [88, 93, 120, 147, 154, 174, 179, 184].getD (σ.1 (55, 0, 0) x1.toNat - 1).toNat 209) = 154 by rw [hd]; rfl]; exact w7 hd
  · rw [show (if σ.1 (55, 0, 0) x1.toNat < (1 : Int) then 209 else [88, 93, 120, 147, 154, 174, 179, 184].getD (σ.1 (55, 0, 0) x1.toNat - 1).toNat 209) = 174 by rw [hd]; rfl]; exact w8 hd
  · rw [show (if σ.1 (55, 0, 0) x1.toNat < (1 : Int) then 209 else [88, 93, 120, 147, 154, 174, 179, 184].getD (σ.1 (55, 0, 0) x1.toNat - 1).toNat 209) = 179 by rw [hd]; rfl]; exact w9 hd
  · rw [show (if σ.1 (55, 0, 0) x1.toNat < (1 : Int) then 209 else [88, 93, 120, 147, 154, 174, 179, 184].getD (σ.1 (55, 0, 0) x1.toNat - 1).toNat 209) = 184 by rw [hd]; rfl]; exact w10 hd
  · rw [show (if σ.1 (55, 0, 0) x1.toNat < (1 : Int) then 209 else [88, 93, 120, 147, 154, 174, 179, 184].getD (σ.1 (55, 0, 0) x1.toNat - 1).toNat 209) = 209 by exact tgt_df [88, 93, 120, 147, 154, 174, 179, 184] _ (by decide) hd]; exact w11 hd

theorem b_X12_isAsked_88 {x1 : Int} {x2 : Int} {x3 : Int} {r1 : Int} {σ σ1 : SG} {t : KT} (c1 : Ca d 219 [aI (iZ x2)] (am_hp σ) t (.inl (some (aI (iZ r1))), am_hp σ1, t)) (h2 : r1 = 0 ∨ r1 = 1) (q3 : Q (.inl (some (aI (iZ r1))), am_hp σ1, t)) : Wp k_X12_isAsked d (88, [some (aR (some (40, 0, 0))), some (aI (iZ x1)), some (aI (iZ x2)), some (aI (iZ x3))], [], am_hp σ, t) Q := by
  refine w_s (c' := (89, [some (aR (some (40, 0, 0))), some (aI (iZ x1)), some (aI (iZ x2)), some (aI (iZ x3))], [aI (iZ x2)], am_hp σ, t)) rfl rfl ?_
  refine w_c0 (c' := (92, [some (aR (some (40, 0, 0))), some (aI (iZ x1)), some (aI (iZ x2)), some (aI (iZ x3))], [aI (iZ r1)], am_hp σ1, t)) rfl rfl rfl rfl c1 (Nat.le_refl _) rfl ?_
  exact w_ret rfl (frt_b h2) q3

theorem b_X12_isAsked_93 {x1 : Int} {x2 : Int} {x3 : Int} {r1 : Int} {σ σ1 : SG} {t : KT} (c1 : Ca d 218 [aR (some (40, 0, 0)), aI (iZ x3), aI (iZ x2)] (am_hp σ) t (.inl (some (aI (iZ r1))), am_hp σ1, t)) (h2 : -2147483648 ≤ r1 ∧ r1 < 2147483648) (w3 : r1 = 0 → Wp k_X12_isAsked d (118, [some (aR (some (40, 0, 0))), some (aI (iZ x1)), some (aI (iZ x2)), some (aI (iZ x3))], [], am_hp σ1, t) Q) (w4 : r1 ≠ 0 → Wp k_X12_isAsked d (102, [some (aR (some (40, 0, 0))), some (aI (iZ x1)), some (aI (iZ x2)), some (aI (iZ x3))], [], am_hp σ1, t) Q) : Wp k_X12_isAsked d (93, [some (aR (some (40, 0, 0))), some (aI (iZ x1)), some (aI (iZ x2)), some (aI (iZ x3))], [], am_hp σ, t) Q := by
  refine w_s (c' := (94, [some (aR (some (40, 0, 0))), some (aI (iZ x1)), some (aI (iZ x2)), some (aI (iZ x3))], [aR (some (40, 0, 0))], am_hp σ, t)) rfl rfl ?_
  refine w_s (c' := (95, [some (aR (some (40, 0, 0))), some (aI (iZ x1)), some (aI (iZ x2)), some (aI (iZ x3))], [aI (iZ x3), aR (some (40, 0, 0))], am_hp σ, t)) rfl rfl ?_
  refine w_s (c' := (96, [some (aR (some (40, 0, 0))), some (aI (iZ x1)), some (aI (iZ x2)), some (aI (iZ x3))], [aI (iZ x2), aI (iZ x3), aR (some (40, 0, 0))], am_hp σ, t)) rfl rfl ?_
  refine w_c0 (c' := (99, [some (aR (some (40, 0, 0))), some (aI (iZ x1)), some (aI (iZ x2)), some (aI (iZ x3))], [aI (iZ r1)], am_hp σ1, t)) rfl rfl (rcv_of (hp_40 _ 0)) rfl c1 (Nat.le_refl _) rfl ?_
  exact w_ifeq rfl h2 rfl w3 w4

theorem b_X12_isAsked_102 {x1 : Int} {x2 : Int} {x3 : Int} {r1 : Int} {σ σ1 : SG} {t : KT} (h1 : 0 ≤ x1 ∧ x1 < 60) (c2 : Ca d 219 [aI (iZ (σ.1 (57, 0, 0) x1.toNat))] (am_hp σ) t (.inl (some (aI (iZ r1))), am_hp σ1, t)) (h3 : -2147483648 ≤ r1 ∧ r1 < 2147483648) (w4 : r1 = 0 → Wp k_X12_isAsked d (118, [some (aR (some (40, 0, 0))), some (aI (iZ x1)), some (aI (iZ x2)), some (aI (iZ x3))], [], am_hp σ1, t) Q) (w5 : r1 ≠ 0 → Wp k_X12_isAsked d (114, [some (aR (some (40, 0, 0))), some (aI (iZ x1)), some (aI (iZ x2)), some (aI (iZ x3))], [], am_hp σ1, t) Q) : Wp k_X12_isAsked d (102, [some (aR (some (40, 0, 0))), some (aI (iZ x1)), some (aI (iZ x2)), some (aI (iZ x3))], [], am_hp σ, t) Q := by
  refine w_s (c' := (103, [some (aR (some (40, 0, 0))), some (aI (iZ x1)), some (aI (iZ x2)), some (aI (iZ x3))], [aR (some (40, 0, 0))], am_hp σ, t)) rfl rfl ?_
  refine w_get rfl (hp_40 _ 0) rfl rfl ?_
  refine w_s (c' := (107, [some (aR (some (40, 0, 0))), some (aI (iZ x1)), some (aI (iZ x2)), some (aI (iZ x3))], [aI (iZ x1), aR (some (57, 0, 0))], am_hp σ, t)) rfl rfl ?_
  refine w_ial rfl (hp_57 _ 0 0) h1 rfl rfl ?_
  refine w_c0 (c' := (111, [some (aR (some (40, 0, 0))), some (aI (iZ x1)), some (aI (iZ x2)), some (aI (iZ x3))], [aI (iZ r1)], am_hp σ1, t)) rfl rfl rfl rfl c2 (Nat.le_refl _) rfl ?_
  exact w_ifeq rfl h3 rfl w4 w5

theorem b_X12_isAsked_114 {x1 : Int} {x2 : Int} {x3 : Int} {σ : SG} {t : KT} (w1 : Wp k_X12_isAsked d (119, [some (aR (some (40, 0, 0))), some (aI (iZ x1)), some (aI (iZ x2)), some (aI (iZ x3))], [aI (iZ 1)], am_hp σ, t) Q) : Wp k_X12_isAsked d (114, [some (aR (some (40, 0, 0))), some (aI (iZ x1)), some (aI (iZ x2)), some (aI (iZ x3))], [], am_hp σ, t) Q := by
  refine w_psh rfl zc_1 rfl ?_
  refine w_s (c' := (119, [some (aR (some (40, 0, 0))), some (aI (iZ x1)), some (aI (iZ x2)), some (aI (iZ x3))], [aI (iZ 1)], am_hp σ, t)) rfl rfl ?_
  exact w1

theorem b_X12_isAsked_118 {x1 : Int} {x2 : Int} {x3 : Int} {σ : SG} {t : KT} (w1 : Wp k_X12_isAsked d (119, [some (aR (some (40, 0, 0))), some (aI (iZ x1)), some (aI (iZ x2)), some (aI (iZ x3))], [aI (iZ 0)], am_hp σ, t) Q) : Wp k_X12_isAsked d (118, [some (aR (some (40, 0, 0))), some (aI (iZ x1)), some (aI (iZ x2)), some (aI (iZ x3))], [], am_hp σ, t) Q := by
  refine w_psh rfl zc_0 rfl ?_
  exact w1

theorem b_X12_isAsked_119 {x1 : Int} {x2 : Int} {x3 : Int} {xs0 : Int} {σ : SG} {t : KT} (h1 : xs0 = 0 ∨ xs0 = 1) (q2 : Q (.inl (some (aI (iZ xs0))), am_hp σ, t)) : Wp k_X12_isAsked d (119, [some (aR (some (40, 0, 0))), some (aI (iZ x1)), some (aI (iZ x2)), some (aI (iZ x3))], [aI (iZ xs0)], am_hp σ, t) Q := by
  exact w_ret rfl (frt_b h1) q2

theorem b_X12_isAsked_120 {x1 : Int} {x2 : Int} {x3 : Int} {r1 : Int} {σ σ1 : SG} {t : KT} (c1 : Ca d 309 [aR (some (40, 0, 0)), aI (iZ x3), aI (iZ x2)] (am_hp σ) t (.inl (some (aI (iZ r1))), am_hp σ1, t)) (h2 : -2147483648 ≤ r1 ∧ r1 < 2147483648) (w3 : r1 = 0 → Wp k_X12_isAsked d (145, [some (aR (some (40, 0, 0))), some (aI (iZ x1)), some (aI (iZ x2)), some (aI (iZ x3))], [], am_hp σ1, t) Q) (w4 : r1 ≠ 0 → Wp k_X12_isAsked d (129, [some (aR (some (40, 0, 0))), some (aI (iZ x1)), some (aI (iZ x2)), some (aI (iZ x3))], [], am_hp σ1, t) Q) : Wp k_X12_isAsked d (120, [some (aR (some (40, 0, 0))), some (aI (iZ x1)), some (aI (iZ x2)), some (aI (iZ x3))], [], am_hp σ, t) Q := by
  refine w_s (c' := (121, [some (aR (some (40, 0, 0))), some (aI (iZ x1)), some (aI (iZ x2)), some (aI (iZ x3))], [aR (some (40, 0, 0))], am_hp σ, t)) rfl rfl ?_
  refine w_s (c' := (122, [some (aR (some (40, 0, 0))), some (aI (iZ x1)), some (aI (iZ x2)), some (aI (iZ x3))], [aI (iZ x3), aR (some (40, 0, 0))], am_hp σ, t)) rfl rfl ?_
  refine w_s (c' := (123, [some (aR (some (40, 0, 0))), some (aI (iZ x1)), some (aI (iZ x2)), some (aI (iZ x3))], [aI (iZ x2), aI (iZ x3), aR (some (40, 0, 0))], am_hp σ, t)) rfl rfl ?_
  refine w_c0 (c' := (126, [some (aR (some (40, 0, 0))), some (aI (iZ x1)), some (aI (iZ x2)), some (aI (iZ x3))], [aI (iZ r1)], am_hp σ1, t)) rfl rfl (rcv_of (hp_40 _ 0)) rfl c1 (Nat.le_refl _) rfl ?_
  exact w_ifeq rfl h2 rfl w3 w4

theorem b_X12_isAsked_129 {x1 : Int} {x2 : Int} {x3 : Int} {r1 : Int} {σ σ1 : SG} {t : KT} (h1 : 0 ≤ x1 ∧ x1 < 60) (c2 : Ca d 219 [aI (iZ (σ.1 (57, 0, 0) x1.toNat))] (am_hp σ) t (.inl (some (aI (iZ r1))), am_hp σ1, t)) (h3 : -2147483648 ≤ r1 ∧ r1 < 2147483648) (w4 : r1 = 0 → Wp k_X12_isAsked d (145, [some (aR (some (40, 0, 0))), some (aI (iZ x1)), some (aI (iZ x2)), some (aI (iZ x3))], [], am_hp σ1, t) Q) (w5 : r1 ≠ 0 → Wp k_X12_isAsked d (141, [some (aR (some (40, 0, 0))), some (aI (iZ x1)), some (aI (iZ x2)), some (aI (iZ x3))], [], am_hp σ1, t) Q) : Wp k_X12_isAsked d (129, [some (aR (some (40, 0, 0))), some (aI (iZ x1)), some (aI (iZ x2)), some (aI (iZ x3))], [], am_hp σ, t) Q := by
  refine w_s (c' := (130, [some (aR (some (40, 0, 0))), some (aI (iZ x1)), some (aI (iZ x2)), some (aI (iZ x3))], [aR (some (40, 0, 0))], am_hp σ, t)) rfl rfl ?_
  refine w_get rfl (hp_40 _ 0) rfl rfl ?_
  refine w_s (c' := (134, [some (aR (some (40, 0, 0))), some (aI (iZ x1)), some (aI (iZ x2)), some (aI (iZ x3))], [aI (iZ x1), aR (some (57, 0, 0))], am_hp σ, t)) rfl rfl ?_
  refine w_ial rfl (hp_57 _ 0 0) h1 rfl rfl ?_
  refine w_c0 (c' := (138, [some (aR (some (40, 0, 0))), some (aI (iZ x1)), some (aI (iZ x2)), some (aI (iZ x3))], [aI (iZ r1)], am_hp σ1, t)) rfl rfl rfl rfl c2 (Nat.le_refl _) rfl ?_
  exact w_ifeq rfl h3 rfl w4 w5

theorem b_X12_isAsked_141 {x1 : Int} {x2 : Int} {x3 : Int} {σ : SG} {t : KT} (w1 : Wp k_X12_isAsked d (146, [some (aR (some (40, 0, 0))), some (aI (iZ x1)), some (aI (iZ x2)), some (aI (iZ x3))], [aI (iZ 1)], am_hp σ, t) Q) : Wp k_X12_isAsked d (141, [some (aR (some (40, 0, 0))), some (aI (iZ x1)), some (aI (iZ x2)), some (aI (iZ x3))], [], am_hp σ, t) Q := by
  refine w_psh rfl zc_1 rfl ?_
  refine w_s (c' := (146, [some (aR (some (40, 0, 0))), some (aI (iZ x1)), some (aI (iZ x2)), some (aI (iZ x3))], [aI (iZ 1)], am_hp σ, t)) rfl rfl ?_
  exact w1

theorem b_X12_isAsked_145 {x1 : Int} {x2 : Int} {x3 : Int} {σ : SG} {t : KT} (w1 : Wp k_X12_isAsked d (146, [some (aR (some (40, 0, 0))), some (aI (iZ x1)), some (aI (iZ x2)), some (aI (iZ x3))], [aI (iZ 0)], am_hp σ, t) Q) : Wp k_X12_isAsked d (145, [some (aR (some (40, 0, 0))), some (aI (iZ x1)), some (aI (iZ x2)), some (aI (iZ x3))], [], am_hp σ, t) Q := by
  refine w_psh rfl zc_0 rfl ?_
  exact w1

theorem b_X12_isAsked_146 {x1 : Int} {x2 : Int} {x3 : Int} {xs0 : Int} {σ : SG} {t : KT} (h1 : xs0 = 0 ∨ xs0 = 1) (q2 : Q (.inl (some (aI (iZ xs0))), am_hp σ, t)) : Wp k_X12_isAsked d (146, [some (aR (some (40, 0, 0))), some (aI (iZ x1)), some (aI (iZ x2)), some (aI (iZ x3))], [aI (iZ xs0)], am_hp σ, t) Q := by
  exact w_ret rfl (frt_b h1) q2

theorem b_X12_isAsked_147 {x1 : Int} {x2 : Int} {x3 : Int} {r1 : Int} {σ σ1 : SG} {t : KT} (c1 : Ca d 218 [aR (some (40, 0, 0)), aI (iZ x3), aI (iZ x2)] (am_hp σ) t (.inl (some (aI (iZ r1))), am_hp σ1, t)) (h2 : r1 = 0 ∨ r1 = 1) (q3 : Q (.inl (some (aI (iZ r1))), am_hp σ1, t)) : Wp k_X12_isAsked d (147, [some (aR (some (40, 0, 0))), some (aI (iZ x1)), some (aI (iZ x2)), some (aI (iZ x3))], [], am_hp σ, t) Q := by
  refine w_s (c' := (148, [some (aR (some (40, 0, 0))), some (aI (iZ x1)), some (aI (iZ x2)), some (aI (iZ x3))], [aR (some (40, 0, 0))], am_hp σ, t)) rfl rfl ?_
  refine w_s (c' := (149, [some (aR (some (40, 0, 0))), some (aI (iZ x1)), some (aI (iZ x2)), some (aI (iZ x3))], [aI (iZ x3), aR (some (40, 0, 0))], am_hp σ, t)) rfl rfl ?_
  refine w_s (c' := (150, [some (aR (some (40, 0, 0))), some (aI (iZ x1)), some (aI (iZ x2)), some (aI (iZ x3))], [aI (iZ x2), aI (iZ x3), aR (some (40, 0, 0))], am_hp σ, t)) rfl rfl ?_
  refine w_c0 (c' := (153, [some (aR (some (40, 0, 0))), some (aI (iZ x1)), some (aI (iZ x2)), some (aI (iZ x3))], [aI (iZ r1)], am_hp σ1, t)) rfl rfl (rcv_of (hp_40 _ 0)) rfl c1 (Nat.le_refl _) rfl ?_
  exact w_ret rfl (frt_b h2) q3

theorem b_X12_isAsked_154 {x1 : Int} {x2 : Int} {x3 : Int} {r1 : Int} {σ σ1 : SG} {t : KT} (h1 : 0 ≤ x1 ∧ x1 < 60) (c2 : Ca d 221 [aR (some (40, 0, 0)), aL (jZ (σ.2.1 (61, 0, 0) x1.toNat))] (am_hp σ) t (.inl (some (aI (iZ r1))), am_hp σ1, t)) (h3 : -2147483648 ≤ r1 ∧ r1 < 2147483648) (w4 : r1 = -1 → Wp k_X12_isAsked d (172, [some (aR (some (40, 0, 0))), some (aI (iZ x1)), some (aI (iZ x2)), some (aI (iZ x3))], [], am_hp σ1, t) Q) (w5 : r1 ≠ -1 → Wp k_X12_isAsked d (168, [some (aR (some (40, 0, 0))), some (aI (iZ x1)), some (aI (iZ x2)), some (aI (iZ x3))], [], am_hp σ1, t) Q) : Wp k_X12_isAsked d (154, [some (aR (some (40, 0, 0))), some (aI (iZ x1)), some (aI (iZ x2)), some (aI (iZ x3))], [], am_hp σ, t) Q := by
  refine w_s (c' := (155, [some (aR (some (40, 0, 0))), some (aI (iZ x1)), some (aI (iZ x2)), some (aI (iZ x3))], [aR (some (40, 0, 0))], am_hp σ, t)) rfl rfl ?_
  refine w_s (c' := (156, [some (aR (some (40, 0, 0))), some (aI (iZ x1)), some (aI (iZ x2)), some (aI (iZ x3))], [aR (some (40, 0, 0)), aR (some (40, 0, 0))], am_hp σ, t)) rfl rfl ?_
  refine w_get rfl (hp_40 _ 0) rfl rfl ?_
  refine w_s (c' := (160, [some (aR (some (40, 0, 0))), some (aI (iZ x1)), some (aI (iZ x2)), some (aI (iZ x3))], [aI (iZ x1), aR (some (61, 0, 0)), aR (some (40, 0, 0))], am_hp σ, t)) rfl rfl ?_
  refine w_lal rfl (hp_61 _ 0 0) h1 rfl rfl ?_
  refine w_c0 (c' := (164, [some (aR (some (40, 0, 0))), some (aI (iZ x1)), some (aI (iZ x2)), some (aI (iZ x3))], [aI (iZ r1)], am_hp σ1, t)) rfl rfl (rcv_of (hp_40 _ 0)) rfl c2 (Nat.le_refl _) rfl ?_
  refine w_psh rfl zc_m1 rfl ?_
  exact w_iceq rfl h3 (by decide) rfl w4 w5

theorem b_X12_isAsked_168 {x1 : Int} {x2 : Int} {x3 : Int} {σ : SG} {t : KT} (w1 : Wp k_X12_isAsked d (173, [some (aR (some (40, 0, 0))), some (aI (iZ x1)), some (aI (iZ x2)), some (aI (iZ x3))], [aI (iZ 1)], am_hp σ, t) Q) : Wp k_X12_isAsked d (168, [some (aR (some (40, 0, 0))), some (aI (iZ x1)), some (aI (iZ x2)), some (aI (iZ x3))], [], am_hp σ, t) Q := by
  refine w_psh rfl zc_1 rfl ?_
  refine w_s (c' := (173, [some (aR (some (40, 0, 0))), some (aI (iZ x1)), some (aI (iZ x2)), some (aI (iZ x3))], [aI (iZ 1)], am_hp σ, t)) rfl rfl ?_
  exact w1

theorem b_X12_isAsked_172 {x1 : Int} {x2 : Int} {x3 : Int} {σ : SG} {t : KT} (w1 : Wp k_X12_isAsked d (173, [some (aR (some (40, 0, 0))), some (aI (iZ x1)), some (aI (iZ x2)), some (aI (iZ x3))], [aI (iZ 0)], am_hp σ, t) Q) : Wp k_X12_isAsked d (172, [some (aR (some (40, 0, 0))), some (aI (iZ x1)), some (aI (iZ x2)), some (aI (iZ x3))], [], am_hp σ, t) Q := by
  refine w_psh rfl zc_0 rfl ?_
  exact w1

theorem b_X12_isAsked_173 {x1 : Int} {x2 : Int} {x3 : Int} {xs0 : Int} {σ : SG} {t : KT} (h1 : xs0 = 0 ∨ xs0 = 1) (q2 : Q (.inl (some (aI (iZ xs0))), am_hp σ, t)) : Wp k_X12_isAsked d (173, [some (aR (some (40, 0, 0))), some (aI (iZ x1)), some (aI (iZ x2)), some (aI (iZ x3))], [aI (iZ xs0)], am_hp σ, t) Q := by
  exact w_ret rfl (frt_b h1) q2

theorem b_X12_isAsked_174 {x1 : Int} {x2 : Int} {x3 : Int} {r1 : Int} {σ σ1 : SG} {t : KT} (c1 : Ca d 290 [aI (iZ x2)] (am_hp σ) t (.inl (some (aI (iZ r1))), am_hp σ1, t)) (h2 : r1 = 0 ∨ r1 = 1) (q3 : Q (.inl (some (aI (iZ r1))), am_hp σ1, t)) : Wp k_X12_isAsked d (174, [some (aR (some (40, 0, 0))), some (aI (iZ x1)), some (aI (iZ x2)), some (aI (iZ x3))], [], am_hp σ, t) Q := by
  refine w_s (c' := (175, [some (aR (some (40, 0, 0))), some (aI (iZ x1)), some (aI (iZ x2)), some (aI (iZ x3))], [aI (iZ x2)], am_hp σ, t)) rfl rfl ?_
  refine w_c0 (c' := (178, [some (aR (some (40, 0, 0))), some (aI (iZ x1)), some (aI (iZ x2)), some (aI (iZ x3))], [aI (iZ r1)], am_hp σ1, t)) rfl rfl rfl rfl c1 (Nat.le_refl _) rfl ?_
  exact w_ret rfl (frt_b h2) q3

theorem b_X12_isAsked_179 {x1 : Int} {x2 : Int} {x3 : Int} {r1 : Int} {σ σ1 : SG} {t : KT} (c1 : Ca d 315 [aI (iZ x2)] (am_hp σ) t (.inl (some (aI (iZ r1))), am_hp σ1, t)) (h2 : r1 = 0 ∨ r1 = 1) (q3 : Q (.inl (some (aI (iZ r1))), am_hp σ1, t)) : Wp k_X12_isAsked d (179, [some (aR (some (40, 0, 0))), some (aI (iZ x1)), some (aI (iZ x2)), some (aI (iZ x3))], [], am_hp σ, t) Q := by
  refine w_s (c' := (180, [some (aR (some (40, 0, 0))), some (aI (iZ x1)), some (aI (iZ x2)), some (aI (iZ x3))], [aI (iZ x2)], am_hp σ, t)) rfl rfl ?_
  refine w_c0 (c' := (183, [some (aR (some (40, 0, 0))), some (aI (iZ x1)), some (aI (iZ x2)), some (aI (iZ x3))], [aI (iZ r1)], am_hp σ1, t)) rfl rfl rfl rfl c1 (Nat.le_refl _) rfl ?_
  exact w_ret rfl (frt_b h2) q3

theorem b_X12_isAsked_184 {x1 : Int} {x2 : Int} {x3 : Int} {r1 : Int} {σ σ1 : SG} {t : KT} (c1 : Ca d 223 [aI (iZ x2)] (am_hp σ) t (.inl (some (aI (iZ r1))), am_hp σ1, t)) (h2 : -2147483648 ≤ r1 ∧ r1 < 2147483648) (w3 : r1 = 0 → Wp k_X12_isAsked d (207, [some (aR (some (40, 0, 0))), some (aI (iZ x1)), some (aI (iZ x2)), some (aI (iZ x3))], [], am_hp σ1, t) Q) (w4 : r1 ≠ 0 → Wp k_X12_isAsked d (191, [some (aR (some (40, 0, 0))), some (aI (iZ x1)), some (aI (iZ x2)), some (aI (iZ x3))], [], am_hp σ1, t) Q) : Wp k_X12_isAsked d (184, [some (aR (some (40, 0, 0))), some (aI (iZ x1)), some (aI (iZ x2)), some (aI (iZ x3))], [], am_hp σ, t) Q := by
  refine w_s (c' := (185, [some (aR (some (40, 0, 0))), some (aI (iZ x1)), some (aI (iZ x2)), some (aI (iZ x3))], [aI (iZ x2)], am_hp σ, t)) rfl rfl ?_
  refine w_c0 (c' := (188, [some (aR (some (40, 0, 0))), some (aI (iZ x1)), some (aI (iZ x2)), some (aI (iZ x3))], [aI (iZ r1)], am_hp σ1, t)) rfl rfl rfl rfl c1 (Nat.le_refl _) rfl ?_
  exact w_ifeq rfl h2 rfl w3 w4

theorem b_X12_isAsked_191 {x1 : Int} {x2 : Int} {x3 : Int} {r1 : Int} {σ σ1 : SG} {t : KT} (h1 : 0 ≤ x1 ∧ x1 < 60) (c2 : Ca d 317 [aI (iZ (σ.1 (57, 0, 0) x1.toNat))] (am_hp σ) t (.inl (some (aI (iZ r1))), am_hp σ1, t)) (h3 : -2147483648 ≤ r1 ∧ r1 < 2147483648) (w4 : r1 = 0 → Wp k_X12_isAsked d (207, [some (aR (some (40, 0, 0))), some (aI (iZ x1)), some (aI (iZ x2)), some (aI (iZ x3))], [], am_hp σ1, t) Q) (w5 : r1 ≠ 0 → Wp k_X12_isAsked d (203, [some (aR (some (40, 0, 0))), some (aI (iZ x1)), some (aI (iZ x2)), some (aI (iZ x3))], [], am_hp σ1, t) Q) : Wp k_X12_isAsked d (191, [some (aR (some (40, 0, 0))), some (aI (iZ x1)), some (aI (iZ x2)), some (aI (iZ x3))], [], am_hp σ, t) Q := by
  refine w_s (c' := (192, [some (aR (some (40, 0, 0))), some (aI (iZ x1)), some (aI (iZ x2)), some (aI (iZ x3))], [aR (some (40, 0, 0))], am_hp σ, t)) rfl rfl ?_
  refine w_get rfl (hp_40 _ 0) rfl rfl ?_
  refine w_s (c' := (196, [some (aR (some (40, 0, 0))), some (aI (iZ x1)), some (aI (iZ x2)), some (aI (iZ x3))], [aI (iZ x1), aR (some (57, 0, 0))], am_hp σ, t)) rfl rfl ?_
  refine w_ial rfl (hp_57 _ 0 0) h1 rfl rfl ?_
  refine w_c0 (c' := (200, [some (aR (some (40, 0, 0))), some (aI (iZ x1)), some (aI (iZ x2)), some (aI (iZ x3))], [aI (iZ r1)], am_hp σ1, t)) rfl rfl rfl rfl c2 (Nat.le_refl _) rfl ?_
  exact w_ifeq rfl h3 rfl w4 w5

theorem b_X12_isAsked_203 {x1 : Int} {x2 : Int} {x3 : Int} {σ : SG} {t : KT} (w1 : Wp k_X12_isAsked d (208, [some (aR (some (40, 0, 0))), some (aI (iZ x1)), some (aI (iZ x2)), some (aI (iZ x3))], [aI (iZ 1)], am_hp σ, t) Q) : Wp k_X12_isAsked d (203, [some (aR (some (40, 0, 0))), some (aI (iZ x1)), some (aI (iZ x2)), some (aI (iZ x3))], [], am_hp σ, t) Q := by
  refine w_psh rfl zc_1 rfl ?_
  refine w_s (c' := (208, [some (aR (some (40, 0, 0))), some (aI (iZ x1)), some (aI (iZ x2)), some (aI (iZ x3))], [aI (iZ 1)], am_hp σ, t)) rfl rfl ?_
  exact w1

theorem b_X12_isAsked_207 {x1 : Int} {x2 : Int} {x3 : Int} {σ : SG} {t : KT} (w1 : Wp k_X12_isAsked d (208, [some (aR (some (40, 0, 0))), some (aI (iZ x1)), some (aI (iZ x2)), some (aI (iZ x3))], [aI (iZ 0)], am_hp σ, t) Q) : Wp k_X12_isAsked d (207, [some (aR (some (40, 0, 0))), some (aI (iZ x1)), some (aI (iZ x2)), some (aI (iZ x3))], [], am_hp σ, t) Q := by
  refine w_psh rfl zc_0 rfl ?_
  exact w1

theorem b_X12_isAsked_208 {x1 : Int} {x2 : Int} {x3 : Int} {xs0 : Int} {σ : SG} {t : KT} (h1 : xs0 = 0 ∨ xs0 = 1) (q2 : Q (.inl (some (aI (iZ xs0))), am_hp σ, t)) : Wp k_X12_isAsked d (208, [some (aR (some (40, 0, 0))), some (aI (iZ x1)), some (aI (iZ x2)), some (aI (iZ x3))], [aI (iZ xs0)], am_hp σ, t) Q := by
  exact w_ret rfl (frt_b h1) q2

theorem b_X12_isAsked_209 {x1 : Int} {x2 : Int} {x3 : Int} {σ : SG} {t : KT} (q1 : Q (.inl (some (aI (iZ 1))), am_hp σ, t)) : Wp k_X12_isAsked d (209, [some (aR (some (40, 0, 0))), some (aI (iZ x1)), some (aI (iZ x2)), some (aI (iZ x3))], [], am_hp σ, t) Q := by
  refine w_psh rfl zc_1 rfl ?_
  exact w_ret rfl (frt_b (by decide)) q1

theorem b_X12_whyNot_0 {x1 : Int} {σ : SG} {t : KT} (h1 : 0 ≤ x1 ∧ x1 < 60) (h2 : -2147483648 ≤ σ.1 (55, 0, 0) x1.toNat ∧ σ.1 (55, 0, 0) x1.toNat < 2147483648) (w3 : σ.1 (55, 0, 0) x1.toNat = 0 → Wp k_X12_whyNot d (44, [some (aR (some (40, 0, 0))), some (aI (iZ x1))], [], am_hp σ, t) Q) (w4 : σ.1 (55, 0, 0) x1.toNat = 1 → Wp k_X12_whyNot d (55, [some (aR (some (40, 0, 0))), some (aI (iZ x1))], [], am_hp σ, t) Q) (w5 : σ.1 (55, 0, 0) x1.toNat = 2 → Wp k_X12_whyNot d (100, [some (aR (some (40, 0, 0))), some (aI (iZ x1))], [], am_hp σ, t) Q) (w6 : σ.1 (55, 0, 0) x1.toNat = 3 → Wp k_X12_whyNot d (55, [some (aR (some (40, 0, 0))), some (aI (iZ x1))], [], am_hp σ, t) Q) (w7 : σ.1 (55, 0, 0) x1.toNat = 4 → Wp k_X12_whyNot d (100, [some (aR (some (40, 0, 0))), some (aI (iZ x1))], [], am_hp σ, t) Q) (w8 : σ.1 (55, 0, 0) x1.toNat = 5 → Wp k_X12_whyNot d (71, [some (aR (some (40, 0, 0))), some (aI (iZ x1))], [], am_hp σ, t) Q) (w9 : (σ.1 (55, 0, 0) x1.toNat < 0 ∨ 6 ≤ σ.1 (55, 0, 0) x1.toNat) → Wp k_X12_whyNot d (100, [some (aR (some (40, 0, 0))), some (aI (iZ x1))], [], am_hp σ, t) Q) : Wp k_X12_whyNot d (0, [some (aR (some (40, 0, 0))), some (aI (iZ x1))], [], am_hp σ, t) Q := by
  refine w_s (c' := (1, [some (aR (some (40, 0, 0))), some (aI (iZ x1))], [aR (some (40, 0, 0))], am_hp σ, t)) rfl rfl ?_
  refine w_get rfl (hp_40 _ 0) rfl rfl ?_
  refine w_s (c' := (5, [some (aR (some (40, 0, 0))), some (aI (iZ x1))], [aI (iZ x1), aR (some (55, 0, 0))], am_hp σ, t)) rfl rfl ?_
  refine w_ial rfl (hp_55 _ 0 0) h1 rfl rfl ?_
  refine w_tab rfl h2 ?_
  rcases (by omega : σ.1 (55, 0, 0) x1.toNat = 0 ∨ σ.1 (55, 0, 0) x1.toNat = 1 ∨ σ.1 (55, 0, 0) x1.toNat = 2 ∨ σ.1 (55, 0, 0) x1.toNat = 3 ∨ σ.1 (55, 0, 0) x1.toNat = 4 ∨ σ.1 (55, 0, 0) x1.toNat = 5 ∨ (σ.1 (55, 0, 0) x1.toNat < 0 ∨ 6 ≤ σ.1 (55, 0, 0) x1.toNat)) with hd | hd | hd | hd | hd | hd | hd
  · rw [show (if σ.1 (55, 0, 0) x1.toNat < (0 : Int) then 100 else [44, 55, 100, 55, 100, 71].getD (σ.1 (55, 0, 0) x1.toNat - 0).toNat 100) = 44 by rw [hd]; rfl]; exact w3 hd
  · rw [show (if σ.1 (55, 0, 0) x1.toNat < (0 : Int) then 100 else [44, 55, 100, 55, 100, 71].getD (σ.1 (55, 0, 0) x1.toNat - 0).toNat 100) = 55 by rw [hd]; rfl]; exact w4 hd
  · rw [show (if σ.1 (55, 0, 0) x1.toNat < (0 : Int) then 100 else [44, 55, 100, 55, 100, 71].getD (σ.1 (55, 0, 0) x1.toNat - 0).toNat 100) = 100 by rw [hd]; rfl]; exact w5 hd
  · rw [show (if σ.1 (55, 0, 0) x1.toNat < (0 : Int) then 100 else [44, 55, 100, 55, 100, 71].getD (σ.1 (55, 0, 0) x1.toNat - 0).toNat 100) = 55 by rw [hd]; rfl]; exact w6 hd
  · rw [show (if σ.1 (55, 0, 0) x1.toNat < (0 : Int) then 100 else [44, 55, 100, 55, 100, 71].getD (σ.1 (55, 0, 0) x1.toNat - 0).toNat 100) = 100 by rw [hd]; rfl]; exact w7 hd
  · rw [show (if σ.1 (55, 0, 0) x1.toNat < (0 : Int) then 100 else [44, 55, 100, 55, 100, 71].getD (σ.1 (55, 0, 0) x1.toNat - 0).toNat 100) = 71 by rw [hd]; rfl]; exact w8 hd
  · rw [show (if σ.1 (55, 0, 0) x1.toNat < (0 : Int) then 100 else [44, 55, 100, 55, 100, 71].getD (σ.1 (55, 0, 0) x1.toNat - 0).toNat 100) = 100 by exact tgt_df [44, 55, 100, 55, 100, 71] _ (by decide) hd]; exact w9 hd

theorem e_X12_whyNot {x1 : Int} {h : AH} {t : KT} {d : Nat} {P : RS → Prop} (w : Wp k_X12_whyNot d (0, [some (aR (some (40, 0, 0))), some (aI (iZ x1))], [], h, t) P) : ∃ r, Ca (d + 1) 326 [aR (some (40, 0, 0)), aI (iZ x1)] h t r ∧ P r := ca_W rfl rfl rfl rfl w

theorem b_X12_whyNot_44 {x1 : Int} {r1 : Int} {σ σ1 : SG} {t : KT} (h1 : 0 ≤ x1 ∧ x1 < 60) (c2 : Ca d 240 [aR (some (40, 0, 0)), aL (jZ (σ.2.1 (60, 0, 0) x1.toNat))] (am_hp σ) t (.inl (some (aI (iZ r1))), am_hp σ1, t)) (q3 : Q (.inl (some (aI (iZ r1))), am_hp σ1, t)) : Wp k_X12_whyNot d (44, [some (aR (some (40, 0, 0))), some (aI (iZ x1))], [], am_hp σ, t) Q := by
  refine w_s (c' := (45, [some (aR (some (40, 0, 0))), some (aI (iZ x1))], [aR (some (40, 0, 0))], am_hp σ, t)) rfl rfl ?_
  refine w_s (c' := (46, [some (aR (some (40, 0, 0))), some (aI (iZ x1))], [aR (some (40, 0, 0)), aR (some (40, 0, 0))], am_hp σ, t)) rfl rfl ?_
  refine w_get rfl (hp_40 _ 0) rfl rfl ?_
  refine w_s (c' := (50, [some (aR (some (40, 0, 0))), some (aI (iZ x1))], [aI (iZ x1), aR (some (60, 0, 0)), aR (some (40, 0, 0))], am_hp σ, t)) rfl rfl ?_
  refine w_lal rfl (hp_60 _ 0 0) h1 rfl rfl ?_
  refine w_c0 (c' := (54, [some (aR (some (40, 0, 0))), some (aI (iZ x1))], [aI (iZ r1)], am_hp σ1, t)) rfl rfl (rcv_of (hp_40 _ 0)) rfl c2 (Nat.le_refl _) rfl ?_
  exact w_ret rfl rfl q3

theorem b_X12_whyNot_55 {x1 : Int} {r1 : Int} {r2 : Int} {σ σ1 σ2 : SG} {t : KT} (h1 : 0 ≤ x1 ∧ x1 < 60) (c2 : Ca d 221 [aR (some (40, 0, 0)), aL (jZ (σ.2.1 (60, 0, 0) x1.toNat))] (am_hp σ) t (.inl (some (aI (iZ r1))), am_hp σ1, t)) (c3 : Ca d 241 [aR (some (40, 0, 0)), aI (iZ r1), aI (iZ 1)] (am_hp σ1) t (.inl (some (aI (iZ r2))), am_hp σ2, t)) (q4 : Q (.inl (some (aI (iZ r2))), am_hp σ2, t)) : Wp k_X12_whyNot d (55, [some (aR (some (40, 0, 0))), some (aI (iZ x1))], [], am_hp σ, t) Q := by
  refine w_s (c' := (56, [some (aR (some (40, 0, 0))), some (aI (iZ x1))], [aR (some (40, 0, 0))], am_hp σ, t)) rfl rfl ?_
  refine w_s (c' := (57, [some (aR (some (40, 0, 0))), some (aI (iZ x1))], [aR (some (40, 0, 0)), aR (some (40, 0, 0))], am_hp σ, t)) rfl rfl ?_
  refine w_s (c' := (58, [some (aR (some (40, 0, 0))), some (aI (iZ x1))], [aR (some (40, 0, 0)), aR (some (40, 0, 0)), aR (some (40, 0, 0))], am_hp σ, t)) rfl rfl ?_
  refine w_get rfl (hp_40 _ 0) rfl rfl ?_
  refine w_s (c' := (62, [some (aR (some (40, 0, 0))), some (aI (iZ x1))], [aI (iZ x1), aR (some (60, 0, 0)), aR (some (40, 0, 0)), aR (some (40, 0, 0))], am_hp σ, t)) rfl rfl ?_
  refine w_lal rfl (hp_60 _ 0 0) h1 rfl rfl ?_
  refine w_c0 (c' := (66, [some (aR (some (40, 0, 0))), some (aI (iZ x1))], [aI (iZ r1), aR (some (40, 0, 0))], am_hp σ1, t)) rfl rfl (rcv_of (hp_40 _ 0)) rfl c2 (Nat.le_refl _) rfl ?_
  refine w_psh rfl zc_1 rfl ?_
  refine w_c0 (c' := (70, [some (aR (some (40, 0, 0))), some (aI (iZ x1))], [aI (iZ r2)], am_hp σ2, t)) rfl rfl (rcv_of (hp_40 _ 0)) rfl c3 (Nat.le_refl _) rfl ?_
  exact w_ret rfl rfl q4

theorem b_X12_whyNot_71 {x1 : Int} {r1 : Int} {r2 : Int} {r3 : Int} {r4 : Int} {σ σ1 σ2 σ3 σ4 : SG} {t : KT} (h1 : 0 ≤ x1 ∧ x1 < 60) (c2 : Ca d 221 [aR (some (40, 0, 0)), aL (jZ (σ.2.1 (60, 0, 0) x1.toNat))] (am_hp σ) t (.inl (some (aI (iZ r1))), am_hp σ1, t)) (c3 : Ca d 221 [aR (some (40, 0, 0)), aL (jZ (σ1.2.1 (61, 0, 0) x1.toNat))] (am_hp σ1) t (.inl (some (aI (iZ r2))), am_hp σ2, t)) (c4 : Ca d 214 [aR (some (40, 0, 0)), aI (iZ r2)] (am_hp σ2) t (.inl (some (aI (iZ r3))), am_hp σ3, t)) (c5 : Ca d 241 [aR (some (40, 0, 0)), aI (iZ r1), aI (iZ r3)] (am_hp σ3) t (.inl (some (aI (iZ r4))), am_hp σ4, t)) (q6 : Q (.inl (some (aI (iZ r4))), am_hp σ4, t)) : Wp k_X12_whyNot d (71, [some (aR (some (40, 0, 0))), some (aI (iZ x1))], [], am_hp σ, t) Q := by
  refine w_s (c' := (72, [some (aR (some (40, 0, 0))), some (aI (iZ x1))], [aR (some (40, 0, 0))], am_hp σ, t)) rfl rfl ?_
  refine w_s (c' := (73, [some (aR (some (40, 0, 0))), some (aI (iZ x1))], [aR (some (40, 0, 0)), aR (some (40, 0, 0))], am_hp σ, t)) rfl rfl ?_
  refine w_s (c' := (74, [some (aR (some (40, 0, 0))), some (aI (iZ x1))], [aR (some (40, 0, 0)), aR (some (40, 0, 0)), aR (some (40, 0, 0))], am_hp σ, t)) rfl rfl ?_
  refine w_get rfl (hp_40 _ 0) rfl rfl ?_
  refine w_s (c' := (78, [some (aR (some (40, 0, 0))), some (aI (iZ x1))], [aI (iZ x1), aR (some (60, 0, 0)), aR (some (40, 0, 0)), aR (some (40, 0, 0))], am_hp σ, t)) rfl rfl ?_
  refine w_lal rfl (hp_60 _ 0 0) h1 rfl rfl ?_
  refine w_c0 (c' := (82, [some (aR (some (40, 0, 0))), some (aI (iZ x1))], [aI (iZ r1), aR (some (40, 0, 0))], am_hp σ1, t)) rfl rfl (rcv_of (hp_40 _ 0)) rfl c2 (Nat.le_refl _) rfl ?_
  refine w_s (c' := (83, [some (aR (some (40, 0, 0))), some (aI (iZ x1))], [aR (some (40, 0, 0)), aI (iZ r1), aR (some (40, 0, 0))], am_hp σ1, t)) rfl rfl ?_
  refine w_s (c' := (84, [some (aR (some (40, 0, 0))), some (aI (iZ x1))], [aR (some (40, 0, 0)), aR (some (40, 0, 0)), aI (iZ r1), aR (some (40, 0, 0))], am_hp σ1, t)) rfl rfl ?_
  refine w_s (c' := (85, [some (aR (some (40, 0, 0))), some (aI (iZ x1))], [aR (some (40, 0, 0)), aR (some (40, 0, 0)), aR (some (40, 0, 0)), aI (iZ r1), aR (some (40, 0, 0))], am_hp σ1, t)) rfl rfl ?_
  refine w_get rfl (hp_40 _ 0) rfl rfl ?_
  refine w_s (c' := (89, [some (aR (some (40, 0, 0))), some (aI (iZ x1))], [aI (iZ x1), aR (some (61, 0, 0)), aR (some (40, 0, 0)), aR (some (40, 0, 0)), aI (iZ r1), aR (some (40, 0, 0))], am_hp σ1, t)) rfl rfl ?_
  refine w_lal rfl (hp_61 _ 0 0) h1 rfl rfl ?_
  refine w_c0 (c' := (93, [some (aR (some (40, 0, 0))), some (aI (iZ x1))], [aI (iZ r2), aR (some (40, 0, 0)), aI (iZ r1), aR (some (40, 0, 0))], am_hp σ2, t)) rfl rfl (rcv_of (hp_40 _ 0)) rfl c3 (Nat.le_refl _) rfl ?_
  refine w_c0 (c' := (96, [some (aR (some (40, 0, 0))), some (aI (iZ x1))], [aI (iZ r3), aI (iZ r1), aR (some (40, 0, 0))], am_hp σ3, t)) rfl rfl (rcv_of (hp_40 _ 0)) rfl c4 (Nat.le_refl _) rfl ?_
  refine w_c0 (c' := (99, [some (aR (some (40, 0, 0))), some (aI (iZ x1))], [aI (iZ r4)], am_hp σ4, t)) rfl rfl (rcv_of (hp_40 _ 0)) rfl c5 (Nat.le_refl _) rfl ?_
  exact w_ret rfl rfl q6

theorem b_X12_whyNot_100 {x1 : Int} {σ : SG} {t : KT} (q1 : Q (.inl (some (aI (iZ 0))), am_hp σ, t)) : Wp k_X12_whyNot d (100, [some (aR (some (40, 0, 0))), some (aI (iZ x1))], [], am_hp σ, t) Q := by
  refine w_psh rfl zc_0 rfl ?_
  exact w_ret rfl rfl q1

theorem b_X12_does_0 {x1 : Int} {r1 : Int} {σ σ1 : SG} {t : KT} (h1 : 0 ≤ x1 ∧ x1 < 60) (c2 : Ca d 324 [aR (some (40, 0, 0)), aI (iZ x1)] (am_hp σ) t (.inl (some (aI (iZ r1))), am_hp σ1, t)) (h3 : -2147483648 ≤ r1 ∧ r1 < 2147483648) (w4 : r1 = 0 → Wp k_X12_does d (28, [some (aR (some (40, 0, 0))), some (aI (iZ x1)), some (aI (iZ (σ.1 (56, 0, 0) x1.toNat))), none, none], [], am_hp σ1, t) Q) (w5 : r1 ≠ 0 → Wp k_X12_does d (15, [some (aR (some (40, 0, 0))), some (aI (iZ x1)), some (aI (iZ (σ.1 (56, 0, 0) x1.toNat))), none, none], [], am_hp σ1, t) Q) : Wp k_X12_does d (0, [some (aR (some (40, 0, 0))), some (aI (iZ x1)), none, none, none], [], am_hp σ, t) Q := by
  refine w_s (c' := (1, [some (aR (some (40, 0, 0))), some (aI (iZ x1)), none, none, none], [aR (some (40, 0, 0))], am_hp σ, t)) rfl rfl ?_
  refine w_get rfl (hp_40 _ 0) rfl rfl ?_
  refine w_s (c' := (5, [some (aR (some (40, 0, 0))), some (aI (iZ x1)), none, none, none], [aI (iZ x1), aR (some (56, 0, 0))], am_hp σ, t)) rfl rfl ?_
  refine w_ial rfl (hp_56 _ 0 0) h1 rfl rfl ?_
  refine w_s (c' := (7, [some (aR (some (40, 0, 0))), some (aI (iZ x1)), some (aI (iZ (σ.1 (56, 0, 0) x1.toNat))), none, none], [], am_hp σ, t)) rfl rfl ?_
  refine w_s (c' := (8, [some (aR (some (40, 0, 0))), some (aI (iZ x1)), some (aI (iZ (σ.1 (56, 0, 0) x1.toNat))), none, none], [aR (some (40, 0, 0))], am_hp σ, t)) rfl rfl ?_
  refine w_s (c' := (9, [some (aR (some (40, 0, 0))), some (aI (iZ x1)), some (aI (iZ (σ.1 (56, 0, 0) x1.toNat))), none, none], [aI (iZ x1), aR (some (40, 0, 0))], am_hp σ, t)) rfl rfl ?_
  refine w_c0 (c' := (12, [some (aR (some (40, 0, 0))), some (aI (iZ x1)), some (aI (iZ (σ.1 (56, 0, 0) x1.toNat))), none, none], [aI (iZ r1)], am_hp σ1, t)) rfl rfl (rcv_of (hp_40 _ 0)) rfl c2 (Nat.le_refl _) rfl ?_
  exact w_ifeq rfl h3 rfl w4 w5

theorem e_X12_does {x1 : Int} {h : AH} {t : KT} {d : Nat} {P : RS → Prop} (w : Wp k_X12_does d (0, [some (aR (some (40, 0, 0))), some (aI (iZ x1)), none, none, none], [], h, t) P) : ∃ r, Ca (d + 1) 327 [aR (some (40, 0, 0)), aI (iZ x1)] h t r ∧ P r := ca_W rfl rfl rfl rfl w

theorem b_X12_does_15 {x1 : Int} {x2 : Int} {r1 : Int} {σ σ1 : SG} {t : KT} (h1 : 0 ≤ x1 ∧ x1 < 60) (c2 : Ca d 221 [aR (some (40, 0, 0)), aL (jZ (σ.2.1 (60, 0, 0) x1.toNat))] (am_hp σ) t (.inl (some (aI (iZ r1))), am_hp σ1, t)) (w3 : Wp k_X12_does d (29, [some (aR (some (40, 0, 0))), some (aI (iZ x1)), some (aI (iZ x2)), none, none], [aI (iZ r1)], am_hp σ1, t) Q) : Wp k_X12_does d (15, [some (aR (some (40, 0, 0))), some (aI (iZ x1)), some (aI (iZ x2)), none, none], [], am_hp σ, t) Q := by
  refine w_s (c' := (16, [some (aR (some (40, 0, 0))), some (aI (iZ x1)), some (aI (iZ x2)), none, none], [aR (some (40, 0, 0))], am_hp σ, t)) rfl rfl ?_
  refine w_s (c' := (17, [some (aR (some (40, 0, 0))), some (aI (iZ x1)), some (aI (iZ x2)), none, none], [aR (some (40, 0, 0)), aR (some (40, 0, 0))], am_hp σ, t)) rfl rfl ?_
  refine w_get rfl (hp_40 _ 0) rfl rfl ?_
  refine w_s (c' := (21, [some (aR (some (40, 0, 0))), some (aI (iZ x1)), some (aI (iZ x2)), none, none], [aI (iZ x1), aR (some (60, 0, 0)), aR (some (40, 0, 0))], am_hp σ, t)) rfl rfl ?_
  refine w_lal rfl (hp_60 _ 0 0) h1 rfl rfl ?_
  refine w_c0 (c' := (25, [some (aR (some (40, 0, 0))), some (aI (iZ x1)), some (aI (iZ x2)), none, none], [aI (iZ r1)], am_hp σ1, t)) rfl rfl (rcv_of (hp_40 _ 0)) rfl c2 (Nat.le_refl _) rfl ?_
  refine w_s (c' := (29, [some (aR (some (40, 0, 0))), some (aI (iZ x1)), some (aI (iZ x2)), none, none], [aI (iZ r1)], am_hp σ1, t)) rfl rfl ?_
  exact w3

theorem b_X12_does_28 {x1 : Int} {x2 : Int} {σ : SG} {t : KT} (w1 : Wp k_X12_does d (29, [some (aR (some (40, 0, 0))), some (aI (iZ x1)), some (aI (iZ x2)), none, none], [aI (iZ 0)], am_hp σ, t) Q) : Wp k_X12_does d (28, [some (aR (some (40, 0, 0))), some (aI (iZ x1)), some (aI (iZ x2)), none, none], [], am_hp σ, t) Q := by
  refine w_psh rfl zc_0 rfl ?_
  exact w1

theorem b_X12_does_29 {x1 : Int} {x2 : Int} {xs0 : Int} {σ : SG} {t : KT} (h1 : 0 ≤ x1 ∧ x1 < 60) (h2 : -2147483648 ≤ σ.1 (55, 0, 0) x1.toNat ∧ σ.1 (55, 0, 0) x1.toNat < 2147483648) (w3 : σ.1 (55, 0, 0) x1.toNat = 0 → Wp k_X12_does d (84, [some (aR (some (40, 0, 0))), some (aI (iZ x1)), some (aI (iZ x2)), some (aI (iZ xs0)), some (aI (iZ 0))], [], am_hp σ, t) Q) (w4 : σ.1 (55, 0, 0) x1.toNat = 1 → Wp k_X12_does d (99, [some (aR (some (40, 0, 0))), some (aI (iZ x1)), some (aI (iZ x2)), some (aI (iZ xs0)), some (aI (iZ 0))], [], am_hp σ, t) Q) (w5 : σ.1 (55, 0, 0) x1.toNat = 2 → Wp k_X12_does d (108, [some (aR (some (40, 0, 0))), some (aI (iZ x1)), some (aI (iZ x2)), some (aI (iZ xs0)), some (aI (iZ 0))], [], am_hp σ, t) Q) (w6 : σ.1 (55, 0, 0) x1.toNat = 3 → Wp k_X12_does d (123, [some (aR (some (40, 0, 0))), some (aI (iZ x1)), some (aI (iZ x2)), some (aI (iZ xs0)), some (aI (iZ 0))], [], am_hp σ, t) Q) (w7 : σ.1 (55, 0, 0) x1.toNat = 4 → Wp k_X12_does d (138, [some (aR (some (40, 0, 0))), some (aI (iZ x1)), some (aI (iZ x2)), some (aI (iZ xs0)), some (aI (iZ 0))], [], am_hp σ, t) Q) (w8 : σ.1 (55, 0, 0) x1.toNat = 5 → Wp k_X12_does d (147, [some (aR (some (40, 0, 0))), some (aI (iZ x1)), some (aI (iZ x2)), some (aI (iZ xs0)), some (aI (iZ 0))], [], am_hp σ, t) Q) (w9 : σ.1 (55, 0, 0) x1.toNat = 6 → Wp k_X12_does d (165, [some (aR (some (40, 0, 0))), some (aI (iZ x1)), some (aI (iZ x2)), some (aI (iZ xs0)), some (aI (iZ 0))], [], am_hp σ, t) Q) (w10 : σ.1 (55, 0, 0) x1.toNat = 7 → Wp k_X12_does d (176, [some (aR (some (40, 0, 0))), some (aI (iZ x1)), some (aI (iZ x2)), some (aI (iZ xs0)), some (aI (iZ 0))], [], am_hp σ, t) Q) (w11 : (σ.1 (55, 0, 0) x1.toNat < 0 ∨ 8 ≤ σ.1 (55, 0, 0) x1.toNat) → Wp k_X12_does d (187, [some (aR (some (40, 0, 0))), some (aI (iZ x1)), some (aI (iZ x2)), some (aI (iZ xs0)), some (aI (iZ 0))], [], am_hp σ, t) Q) : Wp k_X12_does d (29, [some (aR (some (40, 0, 0))), some (aI (iZ x1)), some (aI (iZ x2)), none, none], [aI (iZ xs0)], am_hp σ, t) Q := by
  refine w_s (c' := (30, [some (aR (some (40, 0, 0))), some (aI (iZ x1)), some (aI (iZ x2)), some (aI (iZ xs0)), none], [], am_hp σ, t)) rfl rfl ?_
  refine w_psh rfl zc_0 rfl ?_
  refine w_s (c' := (33, [some (aR (some (40, 0, 0))), some (aI (iZ x1)), some (aI (iZ x2)), some (aI (iZ xs0)), some (aI (iZ 0))], [], am_hp σ, t)) rfl rfl ?_
  refine w_s (c' := (34, [some (aR (some (40, 0, 0))), some (aI (iZ x1)), some (aI (iZ x2)), some (aI (iZ xs0)), some (aI (iZ 0))], [aR (some (40, 0, 0))], am_hp σ, t)) rfl rfl ?_
  refine w_get rfl (hp_40 _ 0) rfl rfl ?_
  refine w_s (c' := (38, [some (aR (some (40, 0, 0))), some (aI (iZ x1)), some (aI (iZ x2)), some (aI (iZ xs0)), some (aI (iZ 0))], [aI (iZ x1), aR (some (55, 0, 0))], am_hp σ, t)) rfl rfl ?_
  refine w_ial rfl (hp_55 _ 0 0) h1 rfl rfl ?_
  refine w_tab rfl h2 ?_
  rcases (by omega : σ.1 (55, 0, 0) x1.toNat = 0 ∨ σ.1 (55, 0, 0) x1.toNat = 1 ∨ σ.1 (55, 0, 0) x1.toNat = 2 ∨ σ.1 (55, 0, 0) x1.toNat = 3 ∨ σ.1 (55, 0, 0) x1.toNat = 4 ∨ σ.1 (55, 0, 0) x1.toNat = 5 ∨ σ.1 (55, 0, 0) x1.toNat = 6 ∨ σ.1 (55, 0, 0) x1.toNat = 7 ∨ (σ.1 (55, 0, 0) x1.toNat < 0 ∨ 8 ≤ σ.1 (55, 0, 0) x1.toNat)) with hd | hd | hd | hd | hd | hd | hd | hd | hd
  · rw [show (if σ.1 (55, 0, 0) x1.toNat < (0 : Int) then 187 else [84, 99, 108, 123, 138, 147, 165, 176].getD (σ.1 (55, 0, 0) x1.toNat - 0).toNat 187) = 84 by rw [hd]; rfl]; exact w3 hd
  · rw [show (if σ.1 (55, 0, 0) x1.toNat < (0 : Int) then 187 else [84, 99, 108, 123, 138, 147, 165, 176].getD (σ.1 (55, 0, 0) x1.toNat - 0).toNat 187) = 99 by rw [hd]; rfl]; exact w4 hd
  · rw [show (if σ.1 (55, 0, 0) x1.toNat < (0 : Int) then 187 else [84, 99, 108, 123, 138, 147, 165, 176].getD (σ.1 (55, 0, 0) x1.toNat - 0).toNat 187) = 108 by rw [hd]; rfl]; exact w5 hd
  · rw [show (if σ.1 (55, 0, 0) x1.toNat < (0 : Int) then 187 else [84, 99, 108, 123, 138, 147, 165, 176].getD (σ.1 (55, 0, 0) x1.toNat - 0).toNat 187) = 123 by rw [hd]; rfl]; exact w6 hd
  · rw [show (if σ.1 (55, 0, 0) x1.toNat < (0 : Int) then 187 else [84, 99, 108, 123, 138, 147, 165, 176].getD (σ.1 (55, 0, 0) x1.toNat - 0).toNat 187) = 138 by rw [hd]; rfl]; exact w7 hd
  · rw [show (if σ.1 (55, 0, 0) x1.toNat < (0 : Int) then 187 else [84, 99, 108, 123, 138, 147, 165, 176].getD (σ.1 (55, 0, 0) x1.toNat - 0).toNat 187) = 147 by rw [hd]; rfl]; exact w8 hd
  · rw [show (if σ.1 (55, 0, 0) x1.toNat < (0 : Int) then 187 else [84, 99, 108, 123, 138, 147, 165, 176].getD (σ.1 (55, 0, 0) x1.toNat - 0).toNat 187) = 165 by rw [hd]; rfl]; exact w9 hd
  · rw [show (if σ.1 (55, 0, 0) x1.toNat < (0 : Int) then 187 else [84, 99, 108, 123, 138, 147, 165, 176].getD (σ.1 (55, 0, 0) x1.toNat - 0).toNat 187) = 176 by rw [hd]; rfl]; exact w10 hd
  · rw [show (if σ.1 (55, 0, 0) x1.toNat < (0 : Int) then 187 else [84, 99, 108, 123, 138, 147, 165, 176].getD (σ.1 (55, 0, 0) x1.toNat - 0).toNat 187) = 187 by exact tgt_df [84, 99, 108, 123, 138, 147, 165, 176] _ (by decide) hd]; exact w11 hd

theorem b_X12_does_84 {x1 : Int} {x2 : Int} {x3 : Int} {x4 : Int} {r1 : Int} {σ σ1 : SG} {t : KT} (h1 : 0 ≤ x1 ∧ x1 < 60) (c2 : Ca d 222 [aR (some (40, 0, 0)), aL (jZ (σ.2.1 (60, 0, 0) x1.toNat))] (am_hp σ) t (.inl (some (aI (iZ r1))), am_hp σ1, t)) (w3 : Wp k_X12_does d (202, [some (aR (some (40, 0, 0))), some (aI (iZ x1)), some (aI (iZ x2)), some (aI (iZ x3)), some (aI (iZ r1))], [], am_hp σ1, t) Q) : Wp k_X12_does d (84, [some (aR (some (40, 0, 0))), some (aI (iZ x1)), some (aI (iZ x2)), some (aI (iZ x3)), some (aI (iZ x4))], [], am_hp σ, t) Q := by
  refine w_s (c' := (85, [some (aR (some (40, 0, 0))), some (aI (iZ x1)), some (aI (iZ x2)), some (aI (iZ x3)), some (aI (iZ x4))], [aR (some (40, 0, 0))], am_hp σ, t)) rfl rfl ?_
  refine w_s (c' := (86, [some (aR (some (40, 0, 0))), some (aI (iZ x1)), some (aI (iZ x2)), some (aI (iZ x3)), some (aI (iZ x4))], [aR (some (40, 0, 0)), aR (some (40, 0, 0))], am_hp σ, t)) rfl rfl ?_
  refine w_get rfl (hp_40 _ 0) rfl rfl ?_
  refine w_s (c' := (90, [some (aR (some (40, 0, 0))), some (aI (iZ x1)), some (aI (iZ x2)), some (aI (iZ x3)), some (aI (iZ x4))], [aI (iZ x1), aR (some (60, 0, 0)), aR (some (40, 0, 0))], am_hp σ, t)) rfl rfl ?_
  refine w_lal rfl (hp_60 _ 0 0) h1 rfl rfl ?_
  refine w_c0 (c' := (94, [some (aR (some (40, 0, 0))), some (aI (iZ x1)), some (aI (iZ x2)), some (aI (iZ x3)), some (aI (iZ x4))], [aI (iZ r1)], am_hp σ1, t)) rfl rfl (rcv_of (hp_40 _ 0)) rfl c2 (Nat.le_refl _) rfl ?_
  refine w_s (c' := (96, [some (aR (some (40, 0, 0))), some (aI (iZ x1)), some (aI (iZ x2)), some (aI (iZ x3)), some (aI (iZ r1))], [], am_hp σ1, t)) rfl rfl ?_
  refine w_s (c' := (202, [some (aR (some (40, 0, 0))), some (aI (iZ x1)), some (aI (iZ x2)), some (aI (iZ x3)), some (aI (iZ r1))], [], am_hp σ1, t)) rfl rfl ?_
  exact w3

theorem b_X12_does_99 {x1 : Int} {x2 : Int} {x3 : Int} {x4 : Int} {σ σ1 : SG} {t : KT} (c1 : Ca d 303 [aR (some (40, 0, 0)), aI (iZ x3), aI (iZ x2)] (am_hp σ) t (.inl none, am_hp σ1, t)) (w2 : Wp k_X12_does d (202, [some (aR (some (40, 0, 0))), some (aI (iZ x1)), some (aI (iZ x2)), some (aI (iZ x3)), some (aI (iZ x4))], [], am_hp σ1, t) Q) : Wp k_X12_does d (99, [some (aR (some (40, 0, 0))), some (aI (iZ x1)), some (aI (iZ x2)), some (aI (iZ x3)), some (aI (iZ x4))], [], am_hp σ, t) Q := by
  refine w_s (c' := (100, [some (aR (some (40, 0, 0))), some (aI (iZ x1)), some (aI (iZ x2)), some (aI (iZ x3)), some (aI (iZ x4))], [aR (some (40, 0, 0))], am_hp σ, t)) rfl rfl ?_
  refine w_s (c' := (101, [some (aR (some (40, 0, 0))), some (aI (iZ x1)), some (aI (iZ x2)), some (aI (iZ x3)), some (aI (iZ x4))], [aI (iZ x3), aR (some (40, 0, 0))], am_hp σ, t)) rfl rfl ?_
  refine w_s (c' := (102, [some (aR (some (40, 0, 0))), some (aI (iZ x1)), some (aI (iZ x2)), some (aI (iZ x3)), some (aI (iZ x4))], [aI (iZ x2), aI (iZ x3), aR (some (40, 0, 0))], am_hp σ, t)) rfl rfl ?_
  refine w_c0 (c' := (105, [some (aR (some (40, 0, 0))), some (aI (iZ x1)), some (aI (iZ x2)), some (aI (iZ x3)), some (aI (iZ x4))], [], am_hp σ1, t)) rfl rfl (rcv_of (hp_40 _ 0)) rfl c1 (Nat.le_refl _) rfl ?_
  refine w_s (c' := (202, [some (aR (some (40, 0, 0))), some (aI (iZ x1)), some (aI (iZ x2)), some (aI (iZ x3)), some (aI (iZ x4))], [], am_hp σ1, t)) rfl rfl ?_
  exact w2

theorem b_X12_does_108 {x1 : Int} {x2 : Int} {x3 : Int} {x4 : Int} {σ σ1 : SG} {t : KT} (h1 : 0 ≤ x1 ∧ x1 < 60) (c2 : Ca d 216 [aR (some (40, 0, 0)), aI (iZ x3), aI (iZ x2), aI (iZ (σ.1 (57, 0, 0) x1.toNat))] (am_hp σ) t (.inl none, am_hp σ1, t)) (w3 : Wp k_X12_does d (202, [some (aR (some (40, 0, 0))), some (aI (iZ x1)), some (aI (iZ x2)), some (aI (iZ x3)), some (aI (iZ x4))], [], am_hp σ1, t) Q) : Wp k_X12_does d (108, [some (aR (some (40, 0, 0))), some (aI (iZ x1)), some (aI (iZ x2)), some (aI (iZ x3)), some (aI (iZ x4))], [], am_hp σ, t) Q := by
  refine w_s (c' := (109, [some (aR (some (40, 0, 0))), some (aI (iZ x1)), some (aI (iZ x2)), some (aI (iZ x3)), some (aI (iZ x4))], [aR (some (40, 0, 0))], am_hp σ, t)) rfl rfl ?_
  refine w_s (c' := (110, [some (aR (some (40, 0, 0))), some (aI (iZ x1)), some (aI (iZ x2)), some (aI (iZ x3)), some (aI (iZ x4))], [aI (iZ x3), aR (some (40, 0, 0))], am_hp σ, t)) rfl rfl ?_
  refine w_s (c' := (111, [some (aR (some (40, 0, 0))), some (aI (iZ x1)), some (aI (iZ x2)), some (aI (iZ x3)), some (aI (iZ x4))], [aI (iZ x2), aI (iZ x3), aR (some (40, 0, 0))], am_hp σ, t)) rfl rfl ?_
  refine w_s (c' := (112, [some (aR (some (40, 0, 0))), some (aI (iZ x1)), some (aI (iZ x2)), some (aI (iZ x3)), some (aI (iZ x4))], [aR (some (40, 0, 0)), aI (iZ x2), aI (iZ x3), aR (some (40, 0, 0))], am_hp σ, t)) rfl rfl ?_
  refine w_get rfl (hp_40 _ 0) rfl rfl ?_
  refine w_s (c' := (116, [some (aR (some (40, 0, 0))), some (aI (iZ x1)), some (aI (iZ x2)), some (aI (iZ x3)), some (aI (iZ x4))], [aI (iZ x1), aR (some (57, 0, 0)), aI (iZ x2), aI (iZ x3), aR (some (40, 0, 0))], am_hp σ, t)) rfl rfl ?_
  refine w_ial rfl (hp_57 _ 0 0) h1 rfl rfl ?_
  refine w_c0 (c' := (120, [some (aR (some (40, 0, 0))), some (aI (iZ x1)), some (aI (iZ x2)), some (aI (iZ x3)), some (aI (iZ x4))], [], am_hp σ1, t)) rfl rfl (rcv_of (hp_40 _ 0)) rfl c2 (Nat.le_refl _) rfl ?_
  refine w_s (c' := (202, [some (aR (some (40, 0, 0))), some (aI (iZ x1)), some (aI (iZ x2)), some (aI (iZ x3)), some (aI (iZ x4))], [], am_hp σ1, t)) rfl rfl ?_
  exact w3

theorem b_X12_does_123 {x1 : Int} {x2 : Int} {x3 : Int} {x4 : Int} {σ σ1 : SG} {t : KT} (h1 : 0 ≤ x1 ∧ x1 < 60) (c2 : Ca d 304 [aR (some (40, 0, 0)), aI (iZ x3), aI (iZ x2), aI (iZ (σ.1 (57, 0, 0) x1.toNat))] (am_hp σ) t (.inl none, am_hp σ1, t)) (w3 : Wp k_X12_does d (202, [some (aR (some (40, 0, 0))), some (aI (iZ x1)), some (aI (iZ x2)), some (aI (iZ x3)), some (aI (iZ x4))], [], am_hp σ1, t) Q) : Wp k_X12_does d (123, [some (aR (some (40, 0, 0))), some (aI (iZ x1)), some (aI (iZ x2)), some (aI (iZ x3)), some (aI (iZ x4))], [], am_hp σ, t) Q := by
  refine w_s (c' := (124, [some (aR (some (40, 0, 0))), some (aI (iZ x1)), some (aI (iZ x2)), some (aI (iZ x3)), some (aI (iZ x4))], [aR (some (40, 0, 0))], am_hp σ, t)) rfl rfl ?_
  refine w_s (c' := (125, [some (aR (some (40, 0, 0))), some (aI (iZ x1)), some (aI (iZ x2)), some (aI (iZ x3)), some (aI (iZ x4))], [aI (iZ x3), aR (some (40, 0, 0))], am_hp σ, t)) rfl rfl ?_
  refine w_s (c' := (126, [some (aR (some (40, 0, 0))), some (aI (iZ x1)), some (aI (iZ x2)), some (aI (iZ x3)), some (aI (iZ x4))], [aI (iZ x2), aI (iZ x3), aR (some (40, 0, 0))], am_hp σ, t)) rfl rfl ?_
  refine w_s (c' := (127, [some (aR (some (40, 0, 0))), some (aI (iZ x1)), some (aI (iZ x2)), some (aI (iZ x3)), some (aI (iZ x4))], [aR (some (40, 0, 0)), aI (iZ x2), aI (iZ x3), aR (some (40, 0, 0))], am_hp σ, t)) rfl rfl ?_
  refine w_get rfl (hp_40 _ 0) rfl rfl ?_
  refine w_s (c' := (131, [some (aR (some (40, 0, 0))), some (aI (iZ x1)), some (aI (iZ x2)), some (aI (iZ x3)), some (aI (iZ x4))], [aI (iZ x1), aR (some (57, 0, 0)), aI (iZ x2), aI (iZ x3), aR (some (40, 0, 0))], am_hp σ, t)) rfl rfl ?_
  refine w_ial rfl (hp_57 _ 0 0) h1 rfl rfl ?_
  refine w_c0 (c' := (135, [some (aR (some (40, 0, 0))), some (aI (iZ x1)), some (aI (iZ x2)), some (aI (iZ x3)), some (aI (iZ x4))], [], am_hp σ1, t)) rfl rfl (rcv_of (hp_40 _ 0)) rfl c2 (Nat.le_refl _) rfl ?_
  refine w_s (c' := (202, [some (aR (some (40, 0, 0))), some (aI (iZ x1)), some (aI (iZ x2)), some (aI (iZ x3)), some (aI (iZ x4))], [], am_hp σ1, t)) rfl rfl ?_
  exact w3

theorem b_X12_does_138 {x1 : Int} {x2 : Int} {x3 : Int} {x4 : Int} {σ σ1 : SG} {t : KT} (c1 : Ca d 305 [aR (some (40, 0, 0)), aI (iZ x3), aI (iZ x2)] (am_hp σ) t (.inl none, am_hp σ1, t)) (w2 : Wp k_X12_does d (202, [some (aR (some (40, 0, 0))), some (aI (iZ x1)), some (aI (iZ x2)), some (aI (iZ x3)), some (aI (iZ x4))], [], am_hp σ1, t) Q) : Wp k_X12_does d (138, [some (aR (some (40, 0, 0))), some (aI (iZ x1)), some (aI (iZ x2)), some (aI (iZ x3)), some (aI (iZ x4))], [], am_hp σ, t) Q := by
  refine w_s (c' := (139, [some (aR (some (40, 0, 0))), some (aI (iZ x1)), some (aI (iZ x2)), some (aI (iZ x3)), some (aI (iZ x4))], [aR (some (40, 0, 0))], am_hp σ, t)) rfl rfl ?_
  refine w_s (c' := (140, [some (aR (some (40, 0, 0))), some (aI (iZ x1)), some (aI (iZ x2)), some (aI (iZ x3)), some (aI (iZ x4))], [aI (iZ x3), aR (some (40, 0, 0))], am_hp σ, t)) rfl rfl ?_
  refine w_s (c' := (141, [some (aR (some (40, 0, 0))), some (aI (iZ x1)), some (aI (iZ x2)), some (aI (iZ x3)), some (aI (iZ x4))], [aI (iZ x2), aI (iZ x3), aR (some (40, 0, 0))], am_hp σ, t)) rfl rfl ?_
  refine w_c0 (c' := (144, [some (aR (some (40, 0, 0))), some (aI (iZ x1)), some (aI (iZ x2)), some (aI (iZ x3)), some (aI (iZ x4))], [], am_hp σ1, t)) rfl rfl (rcv_of (hp_40 _ 0)) rfl c1 (Nat.le_refl _) rfl ?_
  refine w_s (c' := (202, [some (aR (some (40, 0, 0))), some (aI (iZ x1)), some (aI (iZ x2)), some (aI (iZ x3)), some (aI (iZ x4))], [], am_hp σ1, t)) rfl rfl ?_
  exact w2

theorem b_X12_does_147 {x1 : Int} {x2 : Int} {x3 : Int} {x4 : Int} {r1 : Int} {σ σ1 σ2 : SG} {t : KT} (h1 : 0 ≤ x1 ∧ x1 < 60) (c2 : Ca d 221 [aR (some (40, 0, 0)), aL (jZ (σ.2.1 (61, 0, 0) x1.toNat))] (am_hp σ) t (.inl (some (aI (iZ r1))), am_hp σ1, t)) (c3 : Ca d 306 [aR (some (40, 0, 0)), aI (iZ x3), aI (iZ r1)] (am_hp σ1) t (.inl none, am_hp σ2, t)) (w4 : Wp k_X12_does d (202, [some (aR (some (40, 0, 0))), some (aI (iZ x1)), some (aI (iZ x2)), some (aI (iZ x3)), some (aI (iZ x4))], [], am_hp σ2, t) Q) : Wp k_X12_does d (147, [some (aR (some (40, 0, 0))), some (aI (iZ x1)), some (aI (iZ x2)), some (aI (iZ x3)), some (aI (iZ x4))], [], am_hp σ, t) Q := by
  refine w_s (c' := (148, [some (aR (some (40, 0, 0))), some (aI (iZ x1)), some (aI (iZ x2)), some (aI (iZ x3)), some (aI (iZ x4))], [aR (some (40, 0, 0))], am_hp σ, t)) rfl rfl ?_
  refine w_s (c' := (149, [some (aR (some (40, 0, 0))), some (aI (iZ x1)), some (aI (iZ x2)), some (aI (iZ x3)), some (aI (iZ x4))], [aI (iZ x3), aR (some (40, 0, 0))], am_hp σ, t)) rfl rfl ?_
  refine w_s (c' := (150, [some (aR (some (40, 0, 0))), some (aI (iZ x1)), some (aI (iZ x2)), some (aI (iZ x3)), some (aI (iZ x4))], [aR (some (40, 0, 0)), aI (iZ x3), aR (some (40, 0, 0))], am_hp σ, t)) rfl rfl ?_
  refine w_s (c' := (151, [some (aR (some (40, 0, 0))), some (aI (iZ x1)), some (aI (iZ x2)), some (aI (iZ x3)), some (aI (iZ x4))], [aR (some (40, 0, 0)), aR (some (40, 0, 0)), aI (iZ x3), aR (some (40, 0, 0))], am_hp σ, t)) rfl rfl ?_
  refine w_get rfl (hp_40 _ 0) rfl rfl ?_
  refine w_s (c' := (155, [some (aR (some (40, 0, 0))), some (aI (iZ x1)), some (aI (iZ x2)), some (aI (iZ x3)), some (aI (iZ x4))], [aI (iZ x1), aR (some (61, 0, 0)), aR (some (40, 0, 0)), aI (iZ x3), aR (some (40, 0, 0))], am_hp σ, t)) rfl rfl ?_
  refine w_lal rfl (hp_61 _ 0 0) h1 rfl rfl ?_
  refine w_c0 (c' := (159, [some (aR (some (40, 0, 0))), some (aI (iZ x1)), some (aI (iZ x2)), some (aI (iZ x3)), some (aI (iZ x4))], [aI (iZ r1), aI (iZ x3), aR (some (40, 0, 0))], am_hp σ1, t)) rfl rfl (rcv_of (hp_40 _ 0)) rfl c2 (Nat.le_refl _) rfl ?_
  refine w_c0 (c' := (162, [some (aR (some (40, 0, 0))), some (aI (iZ x1)), some (aI (iZ x2)), some (aI (iZ x3)), some (aI (iZ x4))], [], am_hp σ2, t)) rfl rfl (rcv_of (hp_40 _ 0)) rfl c3 (Nat.le_refl _) rfl ?_
  refine w_s (c' := (202, [some (aR (some (40, 0, 0))), some (aI (iZ x1)), some (aI (iZ x2)), some (aI (iZ x3)), some (aI (iZ x4))], [], am_hp σ2, t)) rfl rfl ?_
  exact w4

theorem b_X12_does_165 {x1 : Int} {x2 : Int} {x3 : Int} {x4 : Int} {r1 : Int} {σ σ1 : SG} {t : KT} (c1 : Ca d 313 [aR (some (40, 0, 0)), aI (iZ 1), aI (iZ x2)] (am_hp σ) t (.inl (some (aI (iZ r1))), am_hp σ1, t)) (w2 : Wp k_X12_does d (202, [some (aR (some (40, 0, 0))), some (aI (iZ x1)), some (aI (iZ x2)), some (aI (iZ x3)), some (aI (iZ r1))], [], am_hp σ1, t) Q) : Wp k_X12_does d (165, [some (aR (some (40, 0, 0))), some (aI (iZ x1)), some (aI (iZ x2)), some (aI (iZ x3)), some (aI (iZ x4))], [], am_hp σ, t) Q := by
  refine w_s (c' := (166, [some (aR (some (40, 0, 0))), some (aI (iZ x1)), some (aI (iZ x2)), some (aI (iZ x3)), some (aI (iZ x4))], [aR (some (40, 0, 0))], am_hp σ, t)) rfl rfl ?_
  refine w_psh rfl zc_1 rfl ?_
  refine w_s (c' := (168, [some (aR (some (40, 0, 0))), some (aI (iZ x1)), some (aI (iZ x2)), some (aI (iZ x3)), some (aI (iZ x4))], [aI (iZ x2), aI (iZ 1), aR (some (40, 0, 0))], am_hp σ, t)) rfl rfl ?_
  refine w_c0 (c' := (171, [some (aR (some (40, 0, 0))), some (aI (iZ x1)), some (aI (iZ x2)), some (aI (iZ x3)), some (aI (iZ x4))], [aI (iZ r1)], am_hp σ1, t)) rfl rfl (rcv_of (hp_40 _ 0)) rfl c1 (Nat.le_refl _) rfl ?_
  refine w_s (c' := (173, [some (aR (some (40, 0, 0))), some (aI (iZ x1)), some (aI (iZ x2)), some (aI (iZ x3)), some (aI (iZ r1))], [], am_hp σ1, t)) rfl rfl ?_
  refine w_s (c' := (202, [some (aR (some (40, 0, 0))), some (aI (iZ x1)), some (aI (iZ x2)), some (aI (iZ x3)), some (aI (iZ r1))], [], am_hp σ1, t)) rfl rfl ?_
  exact w2

theorem b_X12_does_176 {x1 : Int} {x2 : Int} {x3 : Int} {x4 : Int} {r1 : Int} {σ σ1 : SG} {t : KT} (c1 : Ca d 313 [aR (some (40, 0, 0)), aI (iZ 2), aI (iZ x2)] (am_hp σ) t (.inl (some (aI (iZ r1))), am_hp σ1, t)) (w2 : Wp k_X12_does d (202, [some (aR (some (40, 0, 0))), some (aI (iZ x1)), some (aI (iZ x2)), some (aI (iZ x3)), some (aI (iZ r1))], [], am_hp σ1, t) Q) : Wp k_X12_does d (176, [some (aR (some (40, 0, 0))), some (aI (iZ x1)), some (aI (iZ x2)), some (aI (iZ x3)), some (aI (iZ x4))], [], am_hp σ, t) Q := by
  refine w_s (c' := (177, [some (aR (some (40, 0, 0))), some (aI (iZ x1)), some (aI (iZ x2)), some (aI (iZ x3)), some (aI (iZ x4))], [aR (some (40, 0, 0))], am_hp σ, t)) rfl rfl ?_
  refine w_psh rfl zc_2 rfl ?_
  refine w_s (c' := (179, [some (aR (some (40, 0, 0))), some (aI (iZ x1)), some (aI (iZ x2)), some (aI (iZ x3)), some (aI (iZ x4))], [aI (iZ x2), aI (iZ 2), aR (some (40, 0, 0))], am_hp σ, t)) rfl rfl ?_
  refine w_c0 (c' := (182, [some (aR (some (40, 0, 0))), some (aI (iZ x1)), some (aI (iZ x2)), some (aI (iZ x3)), some (aI (iZ x4))], [aI (iZ r1)], am_hp σ1, t)) rfl rfl (rcv_of (hp_40 _ 0)) rfl c1 (Nat.le_refl _) rfl ?_
  refine w_s (c' := (184, [some (aR (some (40, 0, 0))), some (aI (iZ x1)), some (aI (iZ x2)), some (aI (iZ x3)), some (aI (iZ r1))], [], am_hp σ1, t)) rfl rfl ?_
  refine w_s (c' := (202, [some (aR (some (40, 0, 0))), some (aI (iZ x1)), some (aI (iZ x2)), some (aI (iZ x3)), some (aI (iZ r1))], [], am_hp σ1, t)) rfl rfl ?_
  exact w2

theorem b_X12_does_187 {x1 : Int} {x2 : Int} {x3 : Int} {x4 : Int} {r1 : Int} {σ σ1 : SG} {t : KT} (h1 : 0 ≤ x1 ∧ x1 < 60) (c2 : Ca d 313 [aR (some (40, 0, 0)), aI (iZ (3 + x2)), aI (iZ (σ.1 (57, 0, 0) x1.toNat))] (am_hp σ) t (.inl (some (aI (iZ r1))), am_hp σ1, t)) (w3 : Wp k_X12_does d (202, [some (aR (some (40, 0, 0))), some (aI (iZ x1)), some (aI (iZ x2)), some (aI (iZ x3)), some (aI (iZ r1))], [], am_hp σ1, t) Q) : Wp k_X12_does d (187, [some (aR (some (40, 0, 0))), some (aI (iZ x1)), some (aI (iZ x2)), some (aI (iZ x3)), some (aI (iZ x4))], [], am_hp σ, t) Q := by
  refine w_s (c' := (188, [some (aR (some (40, 0, 0))), some (aI (iZ x1)), some (aI (iZ x2)), some (aI (iZ x3)), some (aI (iZ x4))], [aR (some (40, 0, 0))], am_hp σ, t)) rfl rfl ?_
  refine w_psh rfl zc_3 rfl ?_
  refine w_s (c' := (190, [some (aR (some (40, 0, 0))), some (aI (iZ x1)), some (aI (iZ x2)), some (aI (iZ x3)), some (aI (iZ x4))], [aI (iZ x2), aI (iZ 3), aR (some (40, 0, 0))], am_hp σ, t)) rfl rfl ?_
  refine w_iadd rfl rfl ?_
  refine w_s (c' := (192, [some (aR (some (40, 0, 0))), some (aI (iZ x1)), some (aI (iZ x2)), some (aI (iZ x3)), some (aI (iZ x4))], [aR (some (40, 0, 0)), aI (iZ (3 + x2)), aR (some (40, 0, 0))], am_hp σ, t)) rfl rfl ?_
  refine w_get rfl (hp_40 _ 0) rfl rfl ?_
  refine w_s (c' := (196, [some (aR (some (40, 0, 0))), some (aI (iZ x1)), some (aI (iZ x2)), some (aI (iZ x3)), some (aI (iZ x4))], [aI (iZ x1), aR (some (57, 0, 0)), aI (iZ (3 + x2)), aR (some (40, 0, 0))], am_hp σ, t)) rfl rfl ?_
  refine w_ial rfl (hp_57 _ 0 0) h1 rfl rfl ?_
  refine w_c0 (c' := (200, [some (aR (some (40, 0, 0))), some (aI (iZ x1)), some (aI (iZ x2)), some (aI (iZ x3)), some (aI (iZ x4))], [aI (iZ r1)], am_hp σ1, t)) rfl rfl (rcv_of (hp_40 _ 0)) rfl c2 (Nat.le_refl _) rfl ?_
  refine w_s (c' := (202, [some (aR (some (40, 0, 0))), some (aI (iZ x1)), some (aI (iZ x2)), some (aI (iZ x3)), some (aI (iZ r1))], [], am_hp σ1, t)) rfl rfl ?_
  exact w3

theorem b_X12_does_202 {x1 : Int} {x2 : Int} {x3 : Int} {x4 : Int} {σ : SG} {t : KT} (q1 : Q (.inl none, am_hp σ, t)) : Wp k_X12_does d (202, [some (aR (some (40, 0, 0))), some (aI (iZ x1)), some (aI (iZ x2)), some (aI (iZ x3)), some (aI (iZ x4))], [], am_hp σ, t) Q := by
  exact w_f rfl rfl q1

theorem b_X12_mayDo_0 {x1 : Int} {r1 : Int} {σ σ1 : SG} {t : KT} (c1 : Ca d 325 [aR (some (40, 0, 0)), aI (iZ x1)] (am_hp σ) t (.inl (some (aI (iZ r1))), am_hp σ1, t)) (h2 : -2147483648 ≤ r1 ∧ r1 < 2147483648) (w3 : r1 ≠ 0 → Wp k_X12_mayDo d (10, [some (aR (some (40, 0, 0))), some (aI (iZ x1)), none, none], [], am_hp σ1, t) Q) (w4 : r1 = 0 → Wp k_X12_mayDo d (8, [some (aR (some (40, 0, 0))), some (aI (iZ x1)), none, none], [], am_hp σ1, t) Q) : Wp k_X12_mayDo d (0, [some (aR (some (40, 0, 0))), some (aI (iZ x1)), none, none], [], am_hp σ, t) Q := by
  refine w_s (c' := (1, [some (aR (some (40, 0, 0))), some (aI (iZ x1)), none, none], [aR (some (40, 0, 0))], am_hp σ, t)) rfl rfl ?_
  refine w_s (c' := (2, [some (aR (some (40, 0, 0))), some (aI (iZ x1)), none, none], [aI (iZ x1), aR (some (40, 0, 0))], am_hp σ, t)) rfl rfl ?_
  refine w_c0 (c' := (5, [some (aR (some (40, 0, 0))), some (aI (iZ x1)), none, none], [aI (iZ r1)], am_hp σ1, t)) rfl rfl (rcv_of (hp_40 _ 0)) rfl c1 (Nat.le_refl _) rfl ?_
  exact w_ifne rfl h2 rfl w3 w4

theorem e_X12_mayDo {x1 : Int} {h : AH} {t : KT} {d : Nat} {P : RS → Prop} (w : Wp k_X12_mayDo d (0, [some (aR (some (40, 0, 0))), some (aI (iZ x1)), none, none], [], h, t) P) : ∃ r, Ca (d + 1) 328 [aR (some (40, 0, 0)), aI (iZ x1)] h t r ∧ P r := ca_W rfl rfl rfl rfl w

theorem b_X12_mayDo_8 {x1 : Int} {σ : SG} {t : KT} (q1 : Q (.inl (some (aI (iZ 0))), am_hp σ, t)) : Wp k_X12_mayDo d (8, [some (aR (some (40, 0, 0))), some (aI (iZ x1)), none, none], [], am_hp σ, t) Q := by
  refine w_psh rfl zc_0 rfl ?_
  exact w_ret rfl (frt_b (by decide)) q1

theorem b_X12_mayDo_10 {x1 : Int} {r1 : Int} {σ σ1 : SG} {t : KT} (c1 : Ca d 326 [aR (some (40, 0, 0)), aI (iZ x1)] (am_hp σ) t (.inl (some (aI (iZ r1))), am_hp σ1, t)) (h2 : -2147483648 ≤ r1 ∧ r1 < 2147483648) (w3 : r1 ≠ 0 → Wp k_X12_mayDo d (22, [some (aR (some (40, 0, 0))), some (aI (iZ x1)), some (aI (iZ r1)), none], [], am_hp σ1, t) Q) (w4 : r1 = 0 → Wp k_X12_mayDo d (20, [some (aR (some (40, 0, 0))), some (aI (iZ x1)), some (aI (iZ r1)), none], [], am_hp σ1, t) Q) : Wp k_X12_mayDo d (10, [some (aR (some (40, 0, 0))), some (aI (iZ x1)), none, none], [], am_hp σ, t) Q := by
  refine w_s (c' := (11, [some (aR (some (40, 0, 0))), some (aI (iZ x1)), none, none], [aR (some (40, 0, 0))], am_hp σ, t)) rfl rfl ?_
  refine w_s (c' := (12, [some (aR (some (40, 0, 0))), some (aI (iZ x1)), none, none], [aI (iZ x1), aR (some (40, 0, 0))], am_hp σ, t)) rfl rfl ?_
  refine w_c0 (c' := (15, [some (aR (some (40, 0, 0))), some (aI (iZ x1)), none, none], [aI (iZ r1)], am_hp σ1, t)) rfl rfl (rcv_of (hp_40 _ 0)) rfl c1 (Nat.le_refl _) rfl ?_
  refine w_s (c' := (16, [some (aR (some (40, 0, 0))), some (aI (iZ x1)), some (aI (iZ r1)), none], [], am_hp σ1, t)) rfl rfl ?_
  refine w_s (c' := (17, [some (aR (some (40, 0, 0))), some (aI (iZ x1)), some (aI (iZ r1)), none], [aI (iZ r1)], am_hp σ1, t)) rfl rfl ?_
  exact w_ifne rfl h2 rfl w3 w4

theorem b_X12_mayDo_20 {x1 : Int} {x2 : Int} {σ : SG} {t : KT} (q1 : Q (.inl (some (aI (iZ 1))), am_hp σ, t)) : Wp k_X12_mayDo d (20, [some (aR (some (40, 0, 0))), some (aI (iZ x1)), some (aI (iZ x2)), none], [], am_hp σ, t) Q := by
  refine w_psh rfl zc_1 rfl ?_
  exact w_ret rfl (frt_b (by decide)) q1

theorem b_X12_mayDo_22 {x1 : Int} {x2 : Int} {r1 : Int} {σ σ1 : SG} {t : KT} (c1 : Ca d 206 [aR (some (40, 0, 0)), aI (iZ x2)] (am_hp σ) t (.inl (some (aI (iZ r1))), am_hp σ1, t)) (h2 : -2147483648 ≤ r1 ∧ r1 < 2147483648) (w3 : r1 ≤ 0 → Wp k_X12_mayDo d (36, [some (aR (some (40, 0, 0))), some (aI (iZ x1)), some (aI (iZ x2)), some (aI (iZ r1))], [], am_hp σ1, t) Q) (w4 : 0 < r1 → Wp k_X12_mayDo d (32, [some (aR (some (40, 0, 0))), some (aI (iZ x1)), some (aI (iZ x2)), some (aI (iZ r1))], [], am_hp σ1, t) Q) : Wp k_X12_mayDo d (22, [some (aR (some (40, 0, 0))), some (aI (iZ x1)), some (aI (iZ x2)), none], [], am_hp σ, t) Q := by
  refine w_s (c' := (23, [some (aR (some (40, 0, 0))), some (aI (iZ x1)), some (aI (iZ x2)), none], [aR (some (40, 0, 0))], am_hp σ, t)) rfl rfl ?_
  refine w_s (c' := (24, [some (aR (some (40, 0, 0))), some (aI (iZ x1)), some (aI (iZ x2)), none], [aI (iZ x2), aR (some (40, 0, 0))], am_hp σ, t)) rfl rfl ?_
  refine w_c0 (c' := (27, [some (aR (some (40, 0, 0))), some (aI (iZ x1)), some (aI (iZ x2)), none], [aI (iZ r1)], am_hp σ1, t)) rfl rfl (rcv_of (hp_40 _ 0)) rfl c1 (Nat.le_refl _) rfl ?_
  refine w_s (c' := (28, [some (aR (some (40, 0, 0))), some (aI (iZ x1)), some (aI (iZ x2)), some (aI (iZ r1))], [], am_hp σ1, t)) rfl rfl ?_
  refine w_s (c' := (29, [some (aR (some (40, 0, 0))), some (aI (iZ x1)), some (aI (iZ x2)), some (aI (iZ r1))], [aI (iZ r1)], am_hp σ1, t)) rfl rfl ?_
  exact w_ifle rfl h2 rfl w3 w4

theorem b_X12_mayDo_32 {x1 : Int} {x2 : Int} {x3 : Int} {σ : SG} {t : KT} (w1 : Wp k_X12_mayDo d (37, [some (aR (some (40, 0, 0))), some (aI (iZ x1)), some (aI (iZ x2)), some (aI (iZ x3))], [aI (iZ 1)], am_hp σ, t) Q) : Wp k_X12_mayDo d (32, [some (aR (some (40, 0, 0))), some (aI (iZ x1)), some (aI (iZ x2)), some (aI (iZ x3))], [], am_hp σ, t) Q := by
  refine w_psh rfl zc_1 rfl ?_
  refine w_s (c' := (37, [some (aR (some (40, 0, 0))), some (aI (iZ x1)), some (aI (iZ x2)), some (aI (iZ x3))], [aI (iZ 1)], am_hp σ, t)) rfl rfl ?_
  exact w1

theorem b_X12_mayDo_36 {x1 : Int} {x2 : Int} {x3 : Int} {σ : SG} {t : KT} (w1 : Wp k_X12_mayDo d (37, [some (aR (some (40, 0, 0))), some (aI (iZ x1)), some (aI (iZ x2)), some (aI (iZ x3))], [aI (iZ 0)], am_hp σ, t) Q) : Wp k_X12_mayDo d (36, [some (aR (some (40, 0, 0))), some (aI (iZ x1)), some (aI (iZ x2)), some (aI (iZ x3))], [], am_hp σ, t) Q := by
  refine w_psh rfl zc_0 rfl ?_
  exact w1

theorem b_X12_mayDo_37 {x1 : Int} {x2 : Int} {x3 : Int} {xs0 : Int} {σ : SG} {t : KT} (h1 : xs0 = 0 ∨ xs0 = 1) (q2 : Q (.inl (some (aI (iZ xs0))), am_hp σ, t)) : Wp k_X12_mayDo d (37, [some (aR (some (40, 0, 0))), some (aI (iZ x1)), some (aI (iZ x2)), some (aI (iZ x3))], [aI (iZ xs0)], am_hp σ, t) Q := by
  exact w_ret rfl (frt_b h1) q2

theorem b_X12_runScript_0 {σ σ1 : SG} {t : KT} (c1 : Ca d 195 [aR (some (40, 0, 0))] (am_hp σ) t (.inl none, am_hp σ1, t)) (w2 : Wp k_X12_runScript d (19, [some (aR (some (40, 0, 0))), none], [], am_hp ((sI (sI (sI σ1 (40, 0, 0) (up (σ1.1 (40, 0, 0)) 43 0)) (40, 0, 0) (up (((sI σ1 (40, 0, 0) (up (σ1.1 (40, 0, 0)) 43 0))).1 (40, 0, 0)) 44 0)) (40, 0, 0) (up (((sI (sI σ1 (40, 0, 0) (up (σ1.1 (40, 0, 0)) 43 0)) (40, 0, 0) (up (((sI σ1 (40, 0, 0) (up (σ1.1 (40, 0, 0)) 43 0))).1 (40, 0, 0)) 44 0))).1 (40, 0, 0)) 45 0))), t) Q) : Wp k_X12_runScript d (0, [some (aR (some (40, 0, 0))), none], [], am_hp σ, t) Q := by
  refine w_s (c' := (1, [some (aR (some (40, 0, 0))), none], [aR (some (40, 0, 0))], am_hp σ, t)) rfl rfl ?_
  refine w_c0 (c' := (4, [some (aR (some (40, 0, 0))), none], [], am_hp σ1, t)) rfl rfl (rcv_of (hp_40 _ 0)) rfl c1 (Nat.le_refl _) rfl ?_
  refine w_s (c' := (5, [some (aR (some (40, 0, 0))), none], [aR (some (40, 0, 0))], am_hp σ1, t)) rfl rfl ?_
  refine w_psh rfl zc_0 rfl ?_
  refine w_putI rfl (hp_40 _ 0) rfl rfl rfl ?_
  refine w_s (c' := (10, [some (aR (some (40, 0, 0))), none], [aR (some (40, 0, 0))], am_hp ((sI σ1 (40, 0, 0) (up (σ1.1 (40, 0, 0)) 43 0))), t)) rfl rfl ?_
  refine w_psh rfl zc_0 rfl ?_
  refine w_putI rfl (hp_40 _ 0) rfl rfl rfl ?_
  refine w_s (c' := (15, [some (aR (some (40, 0, 0))), none], [aR (some (40, 0, 0))], am_hp ((sI (sI σ1 (40, 0, 0) (up (σ1.1 (40, 0, 0)) 43 0)) (40, 0, 0) (up (((sI σ1 (40, 0, 0) (up (σ1.1 (40, 0, 0)) 43 0))).1 (40, 0, 0)) 44 0))), t)) rfl rfl ?_
  refine w_psh rfl zc_0 rfl ?_
  refine w_putI rfl (hp_40 _ 0) rfl rfl rfl ?_
  exact w2

theorem e_X12_runScript {h : AH} {t : KT} {d : Nat} {P : RS → Prop} (w : Wp k_X12_runScript d (0, [some (aR (some (40, 0, 0))), none], [], h, t) P) : ∃ r, Ca (d + 1) 329 [aR (some (40, 0, 0))] h t r ∧ P r := ca_W rfl rfl rfl rfl w

theorem b_X12_runScript_19 {u1 : Option AV} {r1 : Int} {σ σ1 : SG} {t : KT} (c1 : Ca d 188 [aR (some (40, 0, 0))] (am_hp σ) t (.inl (some (aI (iZ r1))), am_hp σ1, t)) (h2 : -2147483648 ≤ r1 ∧ r1 < 2147483648) (w3 : r1 = 0 → Wp k_X12_runScript d (63, [some (aR (some (40, 0, 0))), u1], [], am_hp σ1, t) Q) (w4 : r1 ≠ 0 → Wp k_X12_runScript d (26, [some (aR (some (40, 0, 0))), u1], [], am_hp σ1, t) Q) : Wp k_X12_runScript d (19, [some (aR (some (40, 0, 0))), u1], [], am_hp σ, t) Q := by
  refine w_s (c' := (20, [some (aR (some (40, 0, 0))), u1], [aR (some (40, 0, 0))], am_hp σ, t)) rfl rfl ?_
  refine w_c0 (c' := (23, [some (aR (some (40, 0, 0))), u1], [aI (iZ r1)], am_hp σ1, t)) rfl rfl (rcv_of (hp_40 _ 0)) rfl c1 (Nat.le_refl _) rfl ?_
  exact w_ifeq rfl h2 rfl w3 w4

theorem b_X12_runScript_26 {u1 : Option AV} {σ : SG} {t : KT} (h1 : -2147483648 ≤ σ.1 (40, 0, 0) 6 ∧ σ.1 (40, 0, 0) 6 < 2147483648) (w2 : σ.1 (40, 0, 0) 6 = 0 → Wp k_X12_runScript d (63, [some (aR (some (40, 0, 0))), u1], [], am_hp σ, t) Q) (w3 : σ.1 (40, 0, 0) 6 ≠ 0 → Wp k_X12_runScript d (33, [some (aR (some (40, 0, 0))), u1], [], am_hp σ, t) Q) : Wp k_X12_runScript d (26, [some (aR (some (40, 0, 0))), u1], [], am_hp σ, t) Q := by
  refine w_s (c' := (27, [some (aR (some (40, 0, 0))), u1], [aR (some (40, 0, 0))], am_hp σ, t)) rfl rfl ?_
  refine w_get rfl (hp_40 _ 0) rfl rfl ?_
  exact w_ifeq rfl h1 rfl w2 w3

theorem b_X12_runScript_33 {u1 : Option AV} {σ σ1 : SG} {t : KT} (c1 : Ca d 322 [aR (some (40, 0, 0))] (am_hp σ) t (.inl none, am_hp σ1, t)) (h2 : -2147483648 ≤ σ1.1 (40, 0, 0) 45 ∧ σ1.1 (40, 0, 0) 45 < 2147483648) (h3 : -2147483648 ≤ σ.1 (40, 0, 0) 45 ∧ σ.1 (40, 0, 0) 45 < 2147483648) (w4 : σ1.1 (40, 0, 0) 45 ≠ σ.1 (40, 0, 0) 45 → Wp k_X12_runScript d (56, [some (aR (some (40, 0, 0))), some (aI (iZ (σ.1 (40, 0, 0) 45)))], [], am_hp σ1, t) Q) (w5 : σ1.1 (40, 0, 0) 45 = σ.1 (40, 0, 0) 45 → Wp k_X12_runScript d (50, [some (aR (some (40, 0, 0))), some (aI (iZ (σ.1 (40, 0, 0) 45)))], [], am_hp σ1, t) Q) : Wp k_X12_runScript d (33, [some (aR (some (40, 0, 0))), u1], [], am_hp σ, t) Q := by
  refine w_s (c' := (34, [some (aR (some (40, 0, 0))), u1], [aR (some (40, 0, 0))], am_hp σ, t)) rfl rfl ?_
  refine w_get rfl (hp_40 _ 0) rfl rfl ?_
  refine w_s (c' := (38, [some (aR (some (40, 0, 0))), some (aI (iZ (σ.1 (40, 0, 0) 45)))], [], am_hp σ, t)) rfl rfl ?_
  refine w_s (c' := (39, [some (aR (some (40, 0, 0))), some (aI (iZ (σ.1 (40, 0, 0) 45)))], [aR (some (40, 0, 0))], am_hp σ, t)) rfl rfl ?_
  refine w_c0 (c' := (42, [some (aR (some (40, 0, 0))), some (aI (iZ (σ.1 (40, 0, 0) 45)))], [], am_hp σ1, t)) rfl rfl (rcv_of (hp_40 _ 0)) rfl c1 (Nat.le_refl _) rfl ?_
  refine w_s (c' := (43, [some (aR (some (40, 0, 0))), some (aI (iZ (σ.1 (40, 0, 0) 45)))], [aR (some (40, 0, 0))], am_hp σ1, t)) rfl rfl ?_
  refine w_get rfl (hp_40 _ 0) rfl rfl ?_
  refine w_s (c' := (47, [some (aR (some (40, 0, 0))), some (aI (iZ (σ.1 (40, 0, 0) 45)))], [aI (iZ (σ.1 (40, 0, 0) 45)), aI (iZ (σ1.1 (40, 0, 0) 45))], am_hp σ1, t)) rfl rfl ?_
  exact w_icne rfl h2 h3 rfl w4 w5

theorem b_X12_runScript_50 {x1 : Int} {σ σ1 : SG} {t : KT} (c1 : Ca d 191 [aR (some (40, 0, 0)), aI (iZ 59)] (am_hp σ) t (.inl none, am_hp σ1, t)) (w2 : Wp k_X12_runScript d (56, [some (aR (some (40, 0, 0))), some (aI (iZ x1))], [], am_hp σ1, t) Q) : Wp k_X12_runScript d (50, [some (aR (some (40, 0, 0))), some (aI (iZ x1))], [], am_hp σ, t) Q := by
  refine w_s (c' := (51, [some (aR (some (40, 0, 0))), some (aI (iZ x1))], [aR (some (40, 0, 0))], am_hp σ, t)) rfl rfl ?_
  refine w_psh rfl zc_59 rfl ?_
  refine w_c0 (c' := (56, [some (aR (some (40, 0, 0))), some (aI (iZ x1))], [], am_hp σ1, t)) rfl rfl (rcv_of (hp_40 _ 0)) rfl c1 (Nat.le_refl _) rfl ?_
  exact w2

theorem b_X12_runScript_56 {x1 : Int} {σ σ1 : SG} {t : KT} (c1 : Ca d 323 [aR (some (40, 0, 0))] (am_hp σ) t (.inl none, am_hp σ1, t)) (w2 : Wp k_X12_runScript d (19, [some (aR (some (40, 0, 0))), some (aI (iZ x1))], [], am_hp σ1, t) Q) : Wp k_X12_runScript d (56, [some (aR (some (40, 0, 0))), some (aI (iZ x1))], [], am_hp σ, t) Q := by
  refine w_s (c' := (57, [some (aR (some (40, 0, 0))), some (aI (iZ x1))], [aR (some (40, 0, 0))], am_hp σ, t)) rfl rfl ?_
  refine w_c0 (c' := (60, [some (aR (some (40, 0, 0))), some (aI (iZ x1))], [], am_hp σ1, t)) rfl rfl (rcv_of (hp_40 _ 0)) rfl c1 (Nat.le_refl _) rfl ?_
  refine w_s (c' := (19, [some (aR (some (40, 0, 0))), some (aI (iZ x1))], [], am_hp σ1, t)) rfl rfl ?_
  exact w2

theorem b_X12_runScript_63 {u1 : Option AV} {r1 : Int} {σ σ1 : SG} {t : KT} (c1 : Ca d 188 [aR (some (40, 0, 0))] (am_hp σ) t (.inl (some (aI (iZ r1))), am_hp σ1, t)) (h2 : -2147483648 ≤ r1 ∧ r1 < 2147483648) (w3 : r1 = 0 → Wp k_X12_runScript d (82, [some (aR (some (40, 0, 0))), u1], [], am_hp σ1, t) Q) (w4 : r1 ≠ 0 → Wp k_X12_runScript d (70, [some (aR (some (40, 0, 0))), u1], [], am_hp σ1, t) Q) : Wp k_X12_runScript d (63, [some (aR (some (40, 0, 0))), u1], [], am_hp σ, t) Q := by
  refine w_s (c' := (64, [some (aR (some (40, 0, 0))), u1], [aR (some (40, 0, 0))], am_hp σ, t)) rfl rfl ?_
  refine w_c0 (c' := (67, [some (aR (some (40, 0, 0))), u1], [aI (iZ r1)], am_hp σ1, t)) rfl rfl (rcv_of (hp_40 _ 0)) rfl c1 (Nat.le_refl _) rfl ?_
  exact w_ifeq rfl h2 rfl w3 w4

theorem b_X12_runScript_70 {u1 : Option AV} {σ : SG} {t : KT} (h1 : -2147483648 ≤ σ.1 (40, 0, 0) 45 ∧ σ.1 (40, 0, 0) 45 < 2147483648) (w2 : σ.1 (40, 0, 0) 45 ≤ 0 → Wp k_X12_runScript d (82, [some (aR (some (40, 0, 0))), u1], [], am_hp σ, t) Q) (w3 : 0 < σ.1 (40, 0, 0) 45 → Wp k_X12_runScript d (77, [some (aR (some (40, 0, 0))), u1], [], am_hp σ, t) Q) : Wp k_X12_runScript d (70, [some (aR (some (40, 0, 0))), u1], [], am_hp σ, t) Q := by
  refine w_s (c' := (71, [some (aR (some (40, 0, 0))), u1], [aR (some (40, 0, 0))], am_hp σ, t)) rfl rfl ?_
  refine w_get rfl (hp_40 _ 0) rfl rfl ?_
  exact w_ifle rfl h1 rfl w2 w3

theorem b_X12_runScript_77 {u1 : Option AV} {σ σ1 : SG} {t : KT} (c1 : Ca d 187 [aR (some (40, 0, 0)), aI (iZ 1)] (am_hp σ) t (.inl none, am_hp σ1, t)) (w2 : Wp k_X12_runScript d (82, [some (aR (some (40, 0, 0))), u1], [], am_hp σ1, t) Q) : Wp k_X12_runScript d (77, [some (aR (some (40, 0, 0))), u1], [], am_hp σ, t) Q := by
  refine w_s (c' := (78, [some (aR (some (40, 0, 0))), u1], [aR (some (40, 0, 0))], am_hp σ, t)) rfl rfl ?_
  refine w_psh rfl zc_1 rfl ?_
  refine w_c0 (c' := (82, [some (aR (some (40, 0, 0))), u1], [], am_hp σ1, t)) rfl rfl (rcv_of (hp_40 _ 0)) rfl c1 (Nat.le_refl _) rfl ?_
  exact w2

theorem b_X12_runScript_82 {u1 : Option AV} {r1 : Int} {σ σ1 : SG} {t : KT} (c1 : Ca d 196 [aR (some (40, 0, 0))] (am_hp σ) t (.inl (some (aI (iZ r1))), am_hp σ1, t)) (h2 : -2147483648 ≤ r1 ∧ r1 < 2147483648) (w3 : r1 ≠ 0 → Wp k_X12_runScript d (91, [some (aR (some (40, 0, 0))), u1], [], am_hp σ1, t) Q) (w4 : r1 = 0 → Wp k_X12_runScript d (89, [some (aR (some (40, 0, 0))), u1], [], am_hp σ1, t) Q) : Wp k_X12_runScript d (82, [some (aR (some (40, 0, 0))), u1], [], am_hp σ, t) Q := by
  refine w_s (c' := (83, [some (aR (some (40, 0, 0))), u1], [aR (some (40, 0, 0))], am_hp σ, t)) rfl rfl ?_
  refine w_c0 (c' := (86, [some (aR (some (40, 0, 0))), u1], [aI (iZ r1)], am_hp σ1, t)) rfl rfl (rcv_of (hp_40 _ 0)) rfl c1 (Nat.le_refl _) rfl ?_
  exact w_ifne rfl h2 rfl w3 w4

theorem b_X12_runScript_89 {u1 : Option AV} {σ : SG} {t : KT} (q1 : Q (.inl (some (aI (iZ 0))), am_hp σ, t)) : Wp k_X12_runScript d (89, [some (aR (some (40, 0, 0))), u1], [], am_hp σ, t) Q := by
  refine w_psh rfl zc_0 rfl ?_
  exact w_ret rfl rfl q1

theorem b_X12_runScript_91 {u1 : Option AV} {r2 : Int} {σ σ1 σ2 σ3 : SG} {t : KT} (c1 : Ca d 202 [aR (some (40, 0, 0))] (am_hp σ) t (.inl none, am_hp σ1, t)) (c2 : Ca d 330 [aR (some (40, 0, 0))] (am_hp σ1) t (.inl (some (aI (iZ r2))), am_hp σ2, t)) (c3 : Ca d 204 [aR (some (40, 0, 0))] (am_hp σ2) t (.inl none, am_hp σ3, t)) (q4 : Q (.inl (some (aI (iZ r2))), am_hp ((sI σ3 (40, 0, 0) (up (σ3.1 (40, 0, 0)) 18 ((σ3.1 (40, 0, 0) 18) + r2)))), t)) : Wp k_X12_runScript d (91, [some (aR (some (40, 0, 0))), u1], [], am_hp σ, t) Q := by
  refine w_s (c' := (92, [some (aR (some (40, 0, 0))), u1], [aR (some (40, 0, 0))], am_hp σ, t)) rfl rfl ?_
  refine w_c0 (c' := (95, [some (aR (some (40, 0, 0))), u1], [], am_hp σ1, t)) rfl rfl (rcv_of (hp_40 _ 0)) rfl c1 (Nat.le_refl _) rfl ?_
  refine w_s (c' := (96, [some (aR (some (40, 0, 0))), u1], [aR (some (40, 0, 0))], am_hp σ1, t)) rfl rfl ?_
  refine w_c0 (c' := (99, [some (aR (some (40, 0, 0))), u1], [aI (iZ r2)], am_hp σ2, t)) rfl rfl (rcv_of (hp_40 _ 0)) rfl c2 (Nat.le_refl _) rfl ?_
  refine w_s (c' := (100, [some (aR (some (40, 0, 0))), some (aI (iZ r2))], [], am_hp σ2, t)) rfl rfl ?_
  refine w_s (c' := (101, [some (aR (some (40, 0, 0))), some (aI (iZ r2))], [aR (some (40, 0, 0))], am_hp σ2, t)) rfl rfl ?_
  refine w_c0 (c' := (104, [some (aR (some (40, 0, 0))), some (aI (iZ r2))], [], am_hp σ3, t)) rfl rfl (rcv_of (hp_40 _ 0)) rfl c3 (Nat.le_refl _) rfl ?_
  refine w_s (c' := (105, [some (aR (some (40, 0, 0))), some (aI (iZ r2))], [aR (some (40, 0, 0))], am_hp σ3, t)) rfl rfl ?_
  refine w_s (c' := (106, [some (aR (some (40, 0, 0))), some (aI (iZ r2))], [aR (some (40, 0, 0)), aR (some (40, 0, 0))], am_hp σ3, t)) rfl rfl ?_
  refine w_get rfl (hp_40 _ 0) rfl rfl ?_
  refine w_s (c' := (110, [some (aR (some (40, 0, 0))), some (aI (iZ r2))], [aI (iZ r2), aI (iZ (σ3.1 (40, 0, 0) 18)), aR (some (40, 0, 0))], am_hp σ3, t)) rfl rfl ?_
  refine w_iadd rfl rfl ?_
  refine w_putI rfl (hp_40 _ 0) rfl rfl rfl ?_
  refine w_s (c' := (115, [some (aR (some (40, 0, 0))), some (aI (iZ r2))], [aI (iZ r2)], am_hp ((sI σ3 (40, 0, 0) (up (σ3.1 (40, 0, 0)) 18 ((σ3.1 (40, 0, 0) 18) + r2)))), t)) rfl rfl ?_
  exact w_ret rfl rfl q4
end PCS
