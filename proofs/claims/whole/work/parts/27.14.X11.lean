/-! PIECES: X11 -/
set_option maxRecDepth 4000
section PCS
variable {d : Nat} {Q : RS → Prop}
theorem b_X11_verdictOnJoin_0 {x1 : Int} {x2 : Int} {r1 : Int} {σ σ1 : SG} {t : KT} (c1 : Ca d 43 [aR (some (8, 0, 0)), aI (iZ x1)] (am_hp σ) t (.inl (some (aI (iZ r1))), am_hp σ1, t)) (h2 : -2147483648 ≤ r1 ∧ r1 < 2147483648) (w3 : r1 = 0 → Wp k_X11_verdictOnJoin d (22, [some (aR (some (1, 0, 0))), some (aI (iZ x1)), some (aI (iZ x2))], [], am_hp σ1, t) Q) (w4 : r1 ≠ 0 → Wp k_X11_verdictOnJoin d (11, [some (aR (some (1, 0, 0))), some (aI (iZ x1)), some (aI (iZ x2))], [], am_hp σ1, t) Q) : Wp k_X11_verdictOnJoin d (0, [some (aR (some (1, 0, 0))), some (aI (iZ x1)), some (aI (iZ x2))], [], am_hp σ, t) Q := by
  refine w_s (c' := (1, [some (aR (some (1, 0, 0))), some (aI (iZ x1)), some (aI (iZ x2))], [aR (some (1, 0, 0))], am_hp σ, t)) rfl rfl ?_
  refine w_get rfl (hp_1 _ 0) rfl rfl ?_
  refine w_s (c' := (5, [some (aR (some (1, 0, 0))), some (aI (iZ x1)), some (aI (iZ x2))], [aI (iZ x1), aR (some (8, 0, 0))], am_hp σ, t)) rfl rfl ?_
  refine w_c0 (c' := (8, [some (aR (some (1, 0, 0))), some (aI (iZ x1)), some (aI (iZ x2))], [aI (iZ r1)], am_hp σ1, t)) rfl rfl (rcv_of (hp_8 _ 0)) rfl c1 (Nat.le_refl _) rfl ?_
  exact w_ifeq rfl h2 rfl w3 w4

theorem e_X11_verdictOnJoin {x1 : Int} {x2 : Int} {h : AH} {t : KT} {d : Nat} {P : RS → Prop} (w : Wp k_X11_verdictOnJoin d (0, [some (aR (some (1, 0, 0))), some (aI (iZ x1)), some (aI (iZ x2))], [], h, t) P) : ∃ r, Ca (d + 1) 170 [aR (some (1, 0, 0)), aI (iZ x1), aI (iZ x2)] h t r ∧ P r := ca_W rfl rfl rfl rfl w

theorem b_X11_verdictOnJoin_11 {x1 : Int} {x2 : Int} {r1 : Int} {σ σ1 : SG} {t : KT} (c1 : Ca d 43 [aR (some (8, 0, 0)), aI (iZ x2)] (am_hp σ) t (.inl (some (aI (iZ r1))), am_hp σ1, t)) (h2 : -2147483648 ≤ r1 ∧ r1 < 2147483648) (w3 : r1 ≠ 0 → Wp k_X11_verdictOnJoin d (24, [some (aR (some (1, 0, 0))), some (aI (iZ x1)), some (aI (iZ x2))], [], am_hp σ1, t) Q) (w4 : r1 = 0 → Wp k_X11_verdictOnJoin d (22, [some (aR (some (1, 0, 0))), some (aI (iZ x1)), some (aI (iZ x2))], [], am_hp σ1, t) Q) : Wp k_X11_verdictOnJoin d (11, [some (aR (some (1, 0, 0))), some (aI (iZ x1)), some (aI (iZ x2))], [], am_hp σ, t) Q := by
  refine w_s (c' := (12, [some (aR (some (1, 0, 0))), some (aI (iZ x1)), some (aI (iZ x2))], [aR (some (1, 0, 0))], am_hp σ, t)) rfl rfl ?_
  refine w_get rfl (hp_1 _ 0) rfl rfl ?_
  refine w_s (c' := (16, [some (aR (some (1, 0, 0))), some (aI (iZ x1)), some (aI (iZ x2))], [aI (iZ x2), aR (some (8, 0, 0))], am_hp σ, t)) rfl rfl ?_
  refine w_c0 (c' := (19, [some (aR (some (1, 0, 0))), some (aI (iZ x1)), some (aI (iZ x2))], [aI (iZ r1)], am_hp σ1, t)) rfl rfl (rcv_of (hp_8 _ 0)) rfl c1 (Nat.le_refl _) rfl ?_
  exact w_ifne rfl h2 rfl w3 w4

theorem b_X11_verdictOnJoin_22 {x1 : Int} {x2 : Int} {σ : SG} {t : KT} (q1 : Q (.inl (some (aI (iZ 1))), am_hp σ, t)) : Wp k_X11_verdictOnJoin d (22, [some (aR (some (1, 0, 0))), some (aI (iZ x1)), some (aI (iZ x2))], [], am_hp σ, t) Q := by
  refine w_psh rfl zc_1 rfl ?_
  exact w_ret rfl rfl q1

theorem b_X11_verdictOnJoin_24 {x1 : Int} {x2 : Int} {r1 : Int} {r2 : Int} {σ σ1 σ2 : SG} {t : KT} (c1 : Ca d 44 [aR (some (8, 0, 0)), aI (iZ x1)] (am_hp σ) t (.inl (some (aI (iZ r1))), am_hp σ1, t)) (c2 : Ca d 44 [aR (some (8, 0, 0)), aI (iZ x2)] (am_hp σ1) t (.inl (some (aI (iZ r2))), am_hp σ2, t)) (h3 : -2147483648 ≤ r1 + r2 ∧ r1 + r2 < 2147483648) (w4 : r1 + r2 ≤ 60 → Wp k_X11_verdictOnJoin d (51, [some (aR (some (1, 0, 0))), some (aI (iZ x1)), some (aI (iZ x2))], [], am_hp σ2, t) Q) (w5 : 60 < r1 + r2 → Wp k_X11_verdictOnJoin d (46, [some (aR (some (1, 0, 0))), some (aI (iZ x1)), some (aI (iZ x2))], [], am_hp σ2, t) Q) : Wp k_X11_verdictOnJoin d (24, [some (aR (some (1, 0, 0))), some (aI (iZ x1)), some (aI (iZ x2))], [], am_hp σ, t) Q := by
  refine w_s (c' := (25, [some (aR (some (1, 0, 0))), some (aI (iZ x1)), some (aI (iZ x2))], [aR (some (1, 0, 0))], am_hp σ, t)) rfl rfl ?_
  refine w_get rfl (hp_1 _ 0) rfl rfl ?_
  refine w_s (c' := (29, [some (aR (some (1, 0, 0))), some (aI (iZ x1)), some (aI (iZ x2))], [aI (iZ x1), aR (some (8, 0, 0))], am_hp σ, t)) rfl rfl ?_
  refine w_c0 (c' := (32, [some (aR (some (1, 0, 0))), some (aI (iZ x1)), some (aI (iZ x2))], [aI (iZ r1)], am_hp σ1, t)) rfl rfl (rcv_of (hp_8 _ 0)) rfl c1 (Nat.le_refl _) rfl ?_
  refine w_s (c' := (33, [some (aR (some (1, 0, 0))), some (aI (iZ x1)), some (aI (iZ x2))], [aR (some (1, 0, 0)), aI (iZ r1)], am_hp σ1, t)) rfl rfl ?_
  refine w_get rfl (hp_1 _ 0) rfl rfl ?_
  refine w_s (c' := (37, [some (aR (some (1, 0, 0))), some (aI (iZ x1)), some (aI (iZ x2))], [aI (iZ x2), aR (some (8, 0, 0)), aI (iZ r1)], am_hp σ1, t)) rfl rfl ?_
  refine w_c0 (c' := (40, [some (aR (some (1, 0, 0))), some (aI (iZ x1)), some (aI (iZ x2))], [aI (iZ r2), aI (iZ r1)], am_hp σ2, t)) rfl rfl (rcv_of (hp_8 _ 0)) rfl c2 (Nat.le_refl _) rfl ?_
  refine w_iadd rfl rfl ?_
  refine w_psh rfl zc_60 rfl ?_
  exact w_icle rfl h3 (by decide) rfl w4 w5

theorem b_X11_verdictOnJoin_46 {x1 : Int} {x2 : Int} {σ : SG} {t : KT} (w1 : Wp k_X11_verdictOnJoin d (52, [some (aR (some (1, 0, 0))), some (aI (iZ x1)), some (aI (iZ x2))], [aI (iZ 103)], am_hp σ, t) Q) : Wp k_X11_verdictOnJoin d (46, [some (aR (some (1, 0, 0))), some (aI (iZ x1)), some (aI (iZ x2))], [], am_hp σ, t) Q := by
  refine w_psh rfl zc_103 rfl ?_
  refine w_s (c' := (52, [some (aR (some (1, 0, 0))), some (aI (iZ x1)), some (aI (iZ x2))], [aI (iZ 103)], am_hp σ, t)) rfl rfl ?_
  exact w1

theorem b_X11_verdictOnJoin_51 {x1 : Int} {x2 : Int} {σ : SG} {t : KT} (w1 : Wp k_X11_verdictOnJoin d (52, [some (aR (some (1, 0, 0))), some (aI (iZ x1)), some (aI (iZ x2))], [aI (iZ 0)], am_hp σ, t) Q) : Wp k_X11_verdictOnJoin d (51, [some (aR (some (1, 0, 0))), some (aI (iZ x1)), some (aI (iZ x2))], [], am_hp σ, t) Q := by
  refine w_psh rfl zc_0 rfl ?_
  exact w1

theorem b_X11_verdictOnJoin_52 {x1 : Int} {x2 : Int} {xs0 : Int} {σ : SG} {t : KT} (q1 : Q (.inl (some (aI (iZ xs0))), am_hp σ, t)) : Wp k_X11_verdictOnJoin d (52, [some (aR (some (1, 0, 0))), some (aI (iZ x1)), some (aI (iZ x2))], [aI (iZ xs0)], am_hp σ, t) Q := by
  exact w_ret rfl rfl q1

theorem b_X11_verdictOnRange_0 {x0 : Int} {x1 : Int} {x2 : Int} {σ : SG} {t : KT} (h1 : -2147483648 ≤ x0 ∧ x0 < 2147483648) (h2 : -2147483648 ≤ x1 ∧ x1 < 2147483648) (w3 : x0 < x1 → Wp k_X11_verdictOnRange d (10, [some (aI (iZ x0)), some (aI (iZ x1)), some (aI (iZ x2))], [], am_hp σ, t) Q) (w4 : x1 ≤ x0 → Wp k_X11_verdictOnRange d (5, [some (aI (iZ x0)), some (aI (iZ x1)), some (aI (iZ x2))], [], am_hp σ, t) Q) : Wp k_X11_verdictOnRange d (0, [some (aI (iZ x0)), some (aI (iZ x1)), some (aI (iZ x2))], [], am_hp σ, t) Q := by
  refine w_s (c' := (1, [some (aI (iZ x0)), some (aI (iZ x1)), some (aI (iZ x2))], [aI (iZ x0)], am_hp σ, t)) rfl rfl ?_
  refine w_s (c' := (2, [some (aI (iZ x0)), some (aI (iZ x1)), some (aI (iZ x2))], [aI (iZ x1), aI (iZ x0)], am_hp σ, t)) rfl rfl ?_
  exact w_iclt rfl h1 h2 rfl w3 w4

theorem e_X11_verdictOnRange {x0 : Int} {x1 : Int} {x2 : Int} {h : AH} {t : KT} {d : Nat} {P : RS → Prop} (w : Wp k_X11_verdictOnRange d (0, [some (aI (iZ x0)), some (aI (iZ x1)), some (aI (iZ x2))], [], h, t) P) : ∃ r, Ca (d + 1) 171 [aI (iZ x0), aI (iZ x1), aI (iZ x2)] h t r ∧ P r := ca_W rfl rfl rfl rfl w

theorem b_X11_verdictOnRange_5 {x0 : Int} {x1 : Int} {x2 : Int} {σ : SG} {t : KT} (h1 : -2147483648 ≤ x0 ∧ x0 < 2147483648) (h2 : -2147483648 ≤ x2 ∧ x2 < 2147483648) (w3 : x0 ≤ x2 → Wp k_X11_verdictOnRange d (14, [some (aI (iZ x0)), some (aI (iZ x1)), some (aI (iZ x2))], [], am_hp σ, t) Q) (w4 : x2 < x0 → Wp k_X11_verdictOnRange d (10, [some (aI (iZ x0)), some (aI (iZ x1)), some (aI (iZ x2))], [], am_hp σ, t) Q) : Wp k_X11_verdictOnRange d (5, [some (aI (iZ x0)), some (aI (iZ x1)), some (aI (iZ x2))], [], am_hp σ, t) Q := by
  refine w_s (c' := (6, [some (aI (iZ x0)), some (aI (iZ x1)), some (aI (iZ x2))], [aI (iZ x0)], am_hp σ, t)) rfl rfl ?_
  refine w_s (c' := (7, [some (aI (iZ x0)), some (aI (iZ x1)), some (aI (iZ x2))], [aI (iZ x2), aI (iZ x0)], am_hp σ, t)) rfl rfl ?_
  exact w_icle rfl h1 h2 rfl w3 w4

theorem b_X11_verdictOnRange_10 {x0 : Int} {x1 : Int} {x2 : Int} {σ : SG} {t : KT} (w1 : Wp k_X11_verdictOnRange d (15, [some (aI (iZ x0)), some (aI (iZ x1)), some (aI (iZ x2))], [aI (iZ 2)], am_hp σ, t) Q) : Wp k_X11_verdictOnRange d (10, [some (aI (iZ x0)), some (aI (iZ x1)), some (aI (iZ x2))], [], am_hp σ, t) Q := by
  refine w_psh rfl zc_2 rfl ?_
  refine w_s (c' := (15, [some (aI (iZ x0)), some (aI (iZ x1)), some (aI (iZ x2))], [aI (iZ 2)], am_hp σ, t)) rfl rfl ?_
  exact w1

theorem b_X11_verdictOnRange_14 {x0 : Int} {x1 : Int} {x2 : Int} {σ : SG} {t : KT} (w1 : Wp k_X11_verdictOnRange d (15, [some (aI (iZ x0)), some (aI (iZ x1)), some (aI (iZ x2))], [aI (iZ 0)], am_hp σ, t) Q) : Wp k_X11_verdictOnRange d (14, [some (aI (iZ x0)), some (aI (iZ x1)), some (aI (iZ x2))], [], am_hp σ, t) Q := by
  refine w_psh rfl zc_0 rfl ?_
  exact w1

theorem b_X11_verdictOnRange_15 {x0 : Int} {x1 : Int} {x2 : Int} {xs0 : Int} {σ : SG} {t : KT} (q1 : Q (.inl (some (aI (iZ xs0))), am_hp σ, t)) : Wp k_X11_verdictOnRange d (15, [some (aI (iZ x0)), some (aI (iZ x1)), some (aI (iZ x2))], [aI (iZ xs0)], am_hp σ, t) Q := by
  exact w_ret rfl rfl q1

theorem b_X11_doChange_0 {p1 : Nat} {r1 : Int} {σ σ1 : SG} {t : KT} (c1 : Ca d 336 [aR (some (91, (((sI σ (27, 0, 0) (up (σ.1 (27, 0, 0)) (0 : Int).toNat ((σ.1 (27, 0, 0) 0) + 1)))).2.2.2.1 (7, p1, 0)), 0))] (am_hp ((sI σ (27, 0, 0) (up (σ.1 (27, 0, 0)) (0 : Int).toNat ((σ.1 (27, 0, 0) 0) + 1))))) t (.inl (some (aI (iZ r1))), am_hp σ1, t)) (h2 : 0 ≤ r1 ∧ r1 < 10) (h3 : -2147483648 ≤ swmZ r1.toNat ∧ swmZ r1.toNat < 2147483648) (w4 : swmZ r1.toNat = 1 → Wp k_X11_doChange d (72, [some (aR (some (1, 0, 0))), some (aR (some (7, p1, 0)))], [], am_hp σ1, t) Q) (w5 : swmZ r1.toNat = 2 → Wp k_X11_doChange d (86, [some (aR (some (1, 0, 0))), some (aR (some (7, p1, 0)))], [], am_hp σ1, t) Q) (w6 : swmZ r1.toNat = 3 → Wp k_X11_doChange d (115, [some (aR (some (1, 0, 0))), some (aR (some (7, p1, 0)))], [], am_hp σ1, t) Q) (w7 : swmZ r1.toNat = 4 → Wp k_X11_doChange d (137, [some (aR (some (1, 0, 0))), some (aR (some (7, p1, 0)))], [], am_hp σ1, t) Q) (w8 : swmZ r1.toNat = 5 → Wp k_X11_doChange d (159, [some (aR (some (1, 0, 0))), some (aR (some (7, p1, 0)))], [], am_hp σ1, t) Q) (w9 : swmZ r1.toNat = 6 → Wp k_X11_doChange d (177, [some (aR (some (1, 0, 0))), some (aR (some (7, p1, 0)))], [], am_hp σ1, t) Q) (w10 : swmZ r1.toNat = 7 → Wp k_X11_doChange d (195, [some (aR (some (1, 0, 0))), some (aR (some (7, p1, 0)))], [], am_hp σ1, t) Q) (w11 : swmZ r1.toNat = 8 → Wp k_X11_doChange d (209, [some (aR (some (1, 0, 0))), some (aR (some (7, p1, 0)))], [], am_hp σ1, t) Q) (w12 : swmZ r1.toNat = 9 → Wp k_X11_doChange d (223, [some (aR (some (1, 0, 0))), some (aR (some (7, p1, 0)))], [], am_hp σ1, t) Q) (w13 : (swmZ r1.toNat < 1 ∨ 10 ≤ swmZ r1.toNat) → Wp k_X11_doChange d (241, [some (aR (some (1, 0, 0))), some (aR (some (7, p1, 0)))], [], am_hp σ1, t) Q) : Wp k_X11_doChange d (0, [some (aR (some (1, 0, 0))), some (aR (some (7, p1, 0)))], [], am_hp σ, t) Q := by
  refine w_s (c' := (1, [some (aR (some (1, 0, 0))), some (aR (some (7, p1, 0)))], [aR (some (1, 0, 0))], am_hp σ, t)) rfl rfl ?_
  refine w_get rfl (hp_1 _ 0) rfl rfl ?_
  refine w_psh rfl zc_0 rfl ?_
  refine w_s (c' := (6, [some (aR (some (1, 0, 0))), some (aR (some (7, p1, 0)))], [aI (iZ 0), aR (some (27, 0, 0)), aI (iZ 0), aR (some (27, 0, 0))], am_hp σ, t)) rfl rfl ?_
  refine w_ial rfl (hp_27 _ 0 0) (by decide) rfl rfl ?_
  refine w_e (c' := (7, [some (aR (some (1, 0, 0))), some (aR (some (7, p1, 0)))], [aI (iZ (σ.1 (27, 0, 0) 0)), aI (iZ 0), aR (some (27, 0, 0))], am_hp σ, t)) rfl ?_
  refine w_psh rfl zc_1 rfl ?_
  refine w_iadd rfl rfl ?_
  refine w_ias rfl (mk_27 _ 0 0) (by decide) rfl rfl rfl ?_
  refine w_s (c' := (13, [some (aR (some (1, 0, 0))), some (aR (some (7, p1, 0)))], [aR (some (90, 2, 0))], am_hp ((sI σ (27, 0, 0) (up (σ.1 (27, 0, 0)) (0 : Int).toNat ((σ.1 (27, 0, 0) 0) + 1)))), t)) rfl rfl ?_
  refine w_s (c' := (14, [some (aR (some (1, 0, 0))), some (aR (some (7, p1, 0)))], [aR (some (7, p1, 0)), aR (some (90, 2, 0))], am_hp ((sI σ (27, 0, 0) (up (σ.1 (27, 0, 0)) (0 : Int).toNat ((σ.1 (27, 0, 0) 0) + 1)))), t)) rfl rfl ?_
  refine w_get rfl (hp_7 _ p1) rfl rfl ?_
  refine w_c0 (c' := (20, [some (aR (some (1, 0, 0))), some (aR (some (7, p1, 0)))], [aI (iZ r1), aR (some (90, 2, 0))], am_hp σ1, t)) rfl rfl (rcv_of (hp_91 _ (((sI σ (27, 0, 0) (up (σ.1 (27, 0, 0)) (0 : Int).toNat ((σ.1 (27, 0, 0) 0) + 1)))).2.2.2.1 (7, p1, 0)))) rfl c1 (Nat.le_refl _) rfl ?_
  refine w_ial rfl (hp_90_2 _) h2 rfl rfl ?_
  refine w_tab rfl h3 ?_
  rcases (by omega : swmZ r1.toNat = 1 ∨ swmZ r1.toNat = 2 ∨ swmZ r1.toNat = 3 ∨ swmZ r1.toNat = 4 ∨ swmZ r1.toNat = 5 ∨ swmZ r1.toNat = 6 ∨ swmZ r1.toNat = 7 ∨ swmZ r1.toNat = 8 ∨ swmZ r1.toNat = 9 ∨ (swmZ r1.toNat < 1 ∨ 10 ≤ swmZ r1.toNat)) with hd | hd | hd | hd | hd | hd | hd | hd | hd | hd
  · rw [show (if swmZ r1.toNat < (1 : Int) then 241 else [72, 86, 115, 137, 159, 177, 195, 209, 223].getD (swmZ r1.toNat - 1).toNat 241) = 72 by rw [hd]; rfl]; exact w4 hd
  · rw [show (if swmZ r1.toNat < (1 : Int) then 241 else [72, 86, 115, 137, 159, 177, 195, 209, 223].getD (swmZ r1.toNat - 1).toNat 241) = 86 by rw [hd]; rfl]; exact w5 hd
  · rw [show (if swmZ r1.toNat < (1 : Int) then 241 else [72, 86, 115, 137, 159, 177, 195, 209, 223].getD (swmZ r1.toNat - 1).toNat 241) = 115 by rw [hd]; rfl]; exact w6 hd
  · rw [show (if swmZ r1.toNat < (1 : Int) then 241 else [72, 86, 115, 137, 159, 177, 195, 209, 223].getD (swmZ r1.toNat - 1).toNat 241) = 137 by rw [hd]; rfl]; exact w7 hd
  · rw [show (if swmZ r1.toNat < (1 : Int) then 241 else [72, 86, 115, 137, 159, 177, 195, 209, 223].getD (swmZ r1.toNat - 1).toNat 241) = 159 by rw [hd]; rfl]; exact w8 hd
  · rw [show (if swmZ r1.toNat < (1 : Int) then 241 else [72, 86, 115, 137, 159, 177, 195, 209, 223].getD (swmZ r1.toNat - 1).toNat 241) = 177 by rw [hd]; rfl]; exact w9 hd
  · rw [show (if swmZ r1.toNat < (1 : Int) then 241 else [72, 86, 115, 137, 159, 177, 195, 209, 223].getD (swmZ r1.toNat - 1).toNat 241) = 195 by rw [hd]; rfl]; exact w10 hd
  · rw [show (if swmZ r1.toNat < (1 : Int) then 241 else [72, 86, 115, 137, 159, 177, 195, 209, 223].getD (swmZ r1.toNat - 1).toNat 241) = 209 by rw [hd]; rfl]; exact w11 hd
  · rw [show (if swmZ r1.toNat < (1 : Int) then 241 else [72, 86, 115, 137, 159, 177, 195, 209, 223].getD (swmZ r1.toNat - 1).toNat 241) = 223 by rw [hd]; rfl]; exact w12 hd
  · rw [show (if swmZ r1.toNat < (1 : Int) then 241 else [72, 86, 115, 137, 159, 177, 195, 209, 223].getD (swmZ r1.toNat - 1).toNat 241) = 241 by exact tgt_df [72, 86, 115, 137, 159, 177, 195, 209, 223] _ (by decide) hd]; exact w13 hd

theorem e_X11_doChange {p1 : Nat} {h : AH} {t : KT} {d : Nat} {P : RS → Prop} (w : Wp k_X11_doChange d (0, [some (aR (some (1, 0, 0))), some (aR (some (7, p1, 0)))], [], h, t) P) : ∃ r, Ca (d + 1) 172 [aR (some (1, 0, 0)), aR (some (7, p1, 0))] h t r ∧ P r := ca_W rfl rfl rfl rfl w

theorem b_X11_doChange_72 {p1 : Nat} {σ σ1 : SG} {t : KT} (c1 : Ca d 50 [aR (some (8, 0, 0)), aL (jZ (σ.2.1 (7, p1, 0) 1))] (am_hp σ) t (.inl none, am_hp σ1, t)) (w2 : Wp k_X11_doChange d (241, [some (aR (some (1, 0, 0))), some (aR (some (7, p1, 0)))], [], am_hp σ1, t) Q) : Wp k_X11_doChange d (72, [some (aR (some (1, 0, 0))), some (aR (some (7, p1, 0)))], [], am_hp σ, t) Q := by
  refine w_s (c' := (73, [some (aR (some (1, 0, 0))), some (aR (some (7, p1, 0)))], [aR (some (1, 0, 0))], am_hp σ, t)) rfl rfl ?_
  refine w_get rfl (hp_1 _ 0) rfl rfl ?_
  refine w_s (c' := (77, [some (aR (some (1, 0, 0))), some (aR (some (7, p1, 0)))], [aR (some (7, p1, 0)), aR (some (8, 0, 0))], am_hp σ, t)) rfl rfl ?_
  refine w_get rfl (hp_7 _ p1) rfl rfl ?_
  refine w_c0 (c' := (83, [some (aR (some (1, 0, 0))), some (aR (some (7, p1, 0)))], [], am_hp σ1, t)) rfl rfl (rcv_of (hp_8 _ 0)) rfl c1 (Nat.le_refl _) rfl ?_
  refine w_s (c' := (241, [some (aR (some (1, 0, 0))), some (aR (some (7, p1, 0)))], [], am_hp σ1, t)) rfl rfl ?_
  exact w2

theorem b_X11_doChange_86 {p1 : Nat} {r1 : Int} {σ σ1 σ2 : SG} {t : KT} (c1 : Ca d 44 [aR (some (8, 0, 0)), aI (iZ (σ.1 (7, p1, 0) 3))] (am_hp σ) t (.inl (some (aI (iZ r1))), am_hp σ1, t)) (c2 : Ca d 52 [aR (some (8, 0, 0)), aI (iZ (σ.1 (7, p1, 0) 3)), aI (iZ r1), aI (iZ (σ1.1 (7, p1, 0) 6))] (am_hp σ1) t (.inl none, am_hp σ2, t)) (w3 : Wp k_X11_doChange d (241, [some (aR (some (1, 0, 0))), some (aR (some (7, p1, 0)))], [], am_hp σ2, t) Q) : Wp k_X11_doChange d (86, [some (aR (some (1, 0, 0))), some (aR (some (7, p1, 0)))], [], am_hp σ, t) Q := by
  refine w_s (c' := (87, [some (aR (some (1, 0, 0))), some (aR (some (7, p1, 0)))], [aR (some (1, 0, 0))], am_hp σ, t)) rfl rfl ?_
  refine w_get rfl (hp_1 _ 0) rfl rfl ?_
  refine w_s (c' := (91, [some (aR (some (1, 0, 0))), some (aR (some (7, p1, 0)))], [aR (some (7, p1, 0)), aR (some (8, 0, 0))], am_hp σ, t)) rfl rfl ?_
  refine w_get rfl (hp_7 _ p1) rfl rfl ?_
  refine w_s (c' := (95, [some (aR (some (1, 0, 0))), some (aR (some (7, p1, 0)))], [aR (some (1, 0, 0)), aI (iZ (σ.1 (7, p1, 0) 3)), aR (some (8, 0, 0))], am_hp σ, t)) rfl rfl ?_
  refine w_get rfl (hp_1 _ 0) rfl rfl ?_
  refine w_s (c' := (99, [some (aR (some (1, 0, 0))), some (aR (some (7, p1, 0)))], [aR (some (7, p1, 0)), aR (some (8, 0, 0)), aI (iZ (σ.1 (7, p1, 0) 3)), aR (some (8, 0, 0))], am_hp σ, t)) rfl rfl ?_
  refine w_get rfl (hp_7 _ p1) rfl rfl ?_
  refine w_c0 (c' := (105, [some (aR (some (1, 0, 0))), some (aR (some (7, p1, 0)))], [aI (iZ r1), aI (iZ (σ.1 (7, p1, 0) 3)), aR (some (8, 0, 0))], am_hp σ1, t)) rfl rfl (rcv_of (hp_8 _ 0)) rfl c1 (Nat.le_refl _) rfl ?_
  refine w_s (c' := (106, [some (aR (some (1, 0, 0))), some (aR (some (7, p1, 0)))], [aR (some (7, p1, 0)), aI (iZ r1), aI (iZ (σ.1 (7, p1, 0) 3)), aR (some (8, 0, 0))], am_hp σ1, t)) rfl rfl ?_
  refine w_get rfl (hp_7 _ p1) rfl rfl ?_
  refine w_c0 (c' := (112, [some (aR (some (1, 0, 0))), some (aR (some (7, p1, 0)))], [], am_hp σ2, t)) rfl rfl (rcv_of (hp_8 _ 0)) rfl c2 (Nat.le_refl _) rfl ?_
  refine w_s (c' := (241, [some (aR (some (1, 0, 0))), some (aR (some (7, p1, 0)))], [], am_hp σ2, t)) rfl rfl ?_
  exact w3

theorem b_X11_doChange_115 {p1 : Nat} {σ σ1 : SG} {t : KT} (c1 : Ca d 52 [aR (some (8, 0, 0)), aI (iZ (σ.1 (7, p1, 0) 3)), aI (iZ (σ.1 (7, p1, 0) 5)), aI (iZ (σ.1 (7, p1, 0) 6))] (am_hp σ) t (.inl none, am_hp σ1, t)) (w2 : Wp k_X11_doChange d (241, [some (aR (some (1, 0, 0))), some (aR (some (7, p1, 0)))], [], am_hp σ1, t) Q) : Wp k_X11_doChange d (115, [some (aR (some (1, 0, 0))), some (aR (some (7, p1, 0)))], [], am_hp σ, t) Q := by
  refine w_s (c' := (116, [some (aR (some (1, 0, 0))), some (aR (some (7, p1, 0)))], [aR (some (1, 0, 0))], am_hp σ, t)) rfl rfl ?_
  refine w_get rfl (hp_1 _ 0) rfl rfl ?_
  refine w_s (c' := (120, [some (aR (some (1, 0, 0))), some (aR (some (7, p1, 0)))], [aR (some (7, p1, 0)), aR (some (8, 0, 0))], am_hp σ, t)) rfl rfl ?_
  refine w_get rfl (hp_7 _ p1) rfl rfl ?_
  refine w_s (c' := (124, [some (aR (some (1, 0, 0))), some (aR (some (7, p1, 0)))], [aR (some (7, p1, 0)), aI (iZ (σ.1 (7, p1, 0) 3)), aR (some (8, 0, 0))], am_hp σ, t)) rfl rfl ?_
  refine w_get rfl (hp_7 _ p1) rfl rfl ?_
  refine w_s (c' := (128, [some (aR (some (1, 0, 0))), some (aR (some (7, p1, 0)))], [aR (some (7, p1, 0)), aI (iZ (σ.1 (7, p1, 0) 5)), aI (iZ (σ.1 (7, p1, 0) 3)), aR (some (8, 0, 0))], am_hp σ, t)) rfl rfl ?_
  refine w_get rfl (hp_7 _ p1) rfl rfl ?_
  refine w_c0 (c' := (134, [some (aR (some (1, 0, 0))), some (aR (some (7, p1, 0)))], [], am_hp σ1, t)) rfl rfl (rcv_of (hp_8 _ 0)) rfl c1 (Nat.le_refl _) rfl ?_
  refine w_s (c' := (241, [some (aR (some (1, 0, 0))), some (aR (some (7, p1, 0)))], [], am_hp σ1, t)) rfl rfl ?_
  exact w2

theorem b_X11_doChange_137 {p1 : Nat} {σ σ1 : SG} {t : KT} (c1 : Ca d 51 [aR (some (8, 0, 0)), aI (iZ (σ.1 (7, p1, 0) 3)), aI (iZ (σ.1 (7, p1, 0) 5)), aI (iZ (σ.1 (7, p1, 0) 6))] (am_hp σ) t (.inl none, am_hp σ1, t)) (w2 : Wp k_X11_doChange d (241, [some (aR (some (1, 0, 0))), some (aR (some (7, p1, 0)))], [], am_hp σ1, t) Q) : Wp k_X11_doChange d (137, [some (aR (some (1, 0, 0))), some (aR (some (7, p1, 0)))], [], am_hp σ, t) Q := by
  refine w_s (c' := (138, [some (aR (some (1, 0, 0))), some (aR (some (7, p1, 0)))], [aR (some (1, 0, 0))], am_hp σ, t)) rfl rfl ?_
  refine w_get rfl (hp_1 _ 0) rfl rfl ?_
  refine w_s (c' := (142, [some (aR (some (1, 0, 0))), some (aR (some (7, p1, 0)))], [aR (some (7, p1, 0)), aR (some (8, 0, 0))], am_hp σ, t)) rfl rfl ?_
  refine w_get rfl (hp_7 _ p1) rfl rfl ?_
  refine w_s (c' := (146, [some (aR (some (1, 0, 0))), some (aR (some (7, p1, 0)))], [aR (some (7, p1, 0)), aI (iZ (σ.1 (7, p1, 0) 3)), aR (some (8, 0, 0))], am_hp σ, t)) rfl rfl ?_
  refine w_get rfl (hp_7 _ p1) rfl rfl ?_
  refine w_s (c' := (150, [some (aR (some (1, 0, 0))), some (aR (some (7, p1, 0)))], [aR (some (7, p1, 0)), aI (iZ (σ.1 (7, p1, 0) 5)), aI (iZ (σ.1 (7, p1, 0) 3)), aR (some (8, 0, 0))], am_hp σ, t)) rfl rfl ?_
  refine w_get rfl (hp_7 _ p1) rfl rfl ?_
  refine w_c0 (c' := (156, [some (aR (some (1, 0, 0))), some (aR (some (7, p1, 0)))], [], am_hp σ1, t)) rfl rfl (rcv_of (hp_8 _ 0)) rfl c1 (Nat.le_refl _) rfl ?_
  refine w_s (c' := (241, [some (aR (some (1, 0, 0))), some (aR (some (7, p1, 0)))], [], am_hp σ1, t)) rfl rfl ?_
  exact w2

theorem b_X11_doChange_159 {p1 : Nat} {σ σ1 : SG} {t : KT} (c1 : Ca d 53 [aR (some (8, 0, 0)), aI (iZ (σ.1 (7, p1, 0) 3)), aI (iZ (σ.1 (7, p1, 0) 5))] (am_hp σ) t (.inl none, am_hp σ1, t)) (w2 : Wp k_X11_doChange d (241, [some (aR (some (1, 0, 0))), some (aR (some (7, p1, 0)))], [], am_hp σ1, t) Q) : Wp k_X11_doChange d (159, [some (aR (some (1, 0, 0))), some (aR (some (7, p1, 0)))], [], am_hp σ, t) Q := by
  refine w_s (c' := (160, [some (aR (some (1, 0, 0))), some (aR (some (7, p1, 0)))], [aR (some (1, 0, 0))], am_hp σ, t)) rfl rfl ?_
  refine w_get rfl (hp_1 _ 0) rfl rfl ?_
  refine w_s (c' := (164, [some (aR (some (1, 0, 0))), some (aR (some (7, p1, 0)))], [aR (some (7, p1, 0)), aR (some (8, 0, 0))], am_hp σ, t)) rfl rfl ?_
  refine w_get rfl (hp_7 _ p1) rfl rfl ?_
  refine w_s (c' := (168, [some (aR (some (1, 0, 0))), some (aR (some (7, p1, 0)))], [aR (some (7, p1, 0)), aI (iZ (σ.1 (7, p1, 0) 3)), aR (some (8, 0, 0))], am_hp σ, t)) rfl rfl ?_
  refine w_get rfl (hp_7 _ p1) rfl rfl ?_
  refine w_c0 (c' := (174, [some (aR (some (1, 0, 0))), some (aR (some (7, p1, 0)))], [], am_hp σ1, t)) rfl rfl (rcv_of (hp_8 _ 0)) rfl c1 (Nat.le_refl _) rfl ?_
  refine w_s (c' := (241, [some (aR (some (1, 0, 0))), some (aR (some (7, p1, 0)))], [], am_hp σ1, t)) rfl rfl ?_
  exact w2

theorem b_X11_doChange_177 {p1 : Nat} {σ σ1 : SG} {t : KT} (c1 : Ca d 54 [aR (some (8, 0, 0)), aI (iZ (σ.1 (7, p1, 0) 3)), aI (iZ (σ.1 (7, p1, 0) 4))] (am_hp σ) t (.inl none, am_hp σ1, t)) (w2 : Wp k_X11_doChange d (241, [some (aR (some (1, 0, 0))), some (aR (some (7, p1, 0)))], [], am_hp σ1, t) Q) : Wp k_X11_doChange d (177, [some (aR (some (1, 0, 0))), some (aR (some (7, p1, 0)))], [], am_hp σ, t) Q := by
  refine w_s (c' := (178, [some (aR (some (1, 0, 0))), some (aR (some (7, p1, 0)))], [aR (some (1, 0, 0))], am_hp σ, t)) rfl rfl ?_
  refine w_get rfl (hp_1 _ 0) rfl rfl ?_
  refine w_s (c' := (182, [some (aR (some (1, 0, 0))), some (aR (some (7, p1, 0)))], [aR (some (7, p1, 0)), aR (some (8, 0, 0))], am_hp σ, t)) rfl rfl ?_
  refine w_get rfl (hp_7 _ p1) rfl rfl ?_
  refine w_s (c' := (186, [some (aR (some (1, 0, 0))), some (aR (some (7, p1, 0)))], [aR (some (7, p1, 0)), aI (iZ (σ.1 (7, p1, 0) 3)), aR (some (8, 0, 0))], am_hp σ, t)) rfl rfl ?_
  refine w_get rfl (hp_7 _ p1) rfl rfl ?_
  refine w_c0 (c' := (192, [some (aR (some (1, 0, 0))), some (aR (some (7, p1, 0)))], [], am_hp σ1, t)) rfl rfl (rcv_of (hp_8 _ 0)) rfl c1 (Nat.le_refl _) rfl ?_
  refine w_s (c' := (241, [some (aR (some (1, 0, 0))), some (aR (some (7, p1, 0)))], [], am_hp σ1, t)) rfl rfl ?_
  exact w2

theorem b_X11_doChange_195 {p1 : Nat} {σ : SG} {t : KT} (w1 : Wp k_X11_doChange d (241, [some (aR (some (1, 0, 0))), some (aR (some (7, p1, 0)))], [], am_hp ((sI σ (8, 0, 0) (up (σ.1 (8, 0, 0)) 5 (σ.1 (7, p1, 0) 6)))), t) Q) : Wp k_X11_doChange d (195, [some (aR (some (1, 0, 0))), some (aR (some (7, p1, 0)))], [], am_hp σ, t) Q := by
  refine w_s (c' := (196, [some (aR (some (1, 0, 0))), some (aR (some (7, p1, 0)))], [aR (some (1, 0, 0))], am_hp σ, t)) rfl rfl ?_
  refine w_get rfl (hp_1 _ 0) rfl rfl ?_
  refine w_s (c' := (200, [some (aR (some (1, 0, 0))), some (aR (some (7, p1, 0)))], [aR (some (7, p1, 0)), aR (some (8, 0, 0))], am_hp σ, t)) rfl rfl ?_
  refine w_get rfl (hp_7 _ p1) rfl rfl ?_
  refine w_putI rfl (hp_8 _ 0) rfl rfl rfl ?_
  refine w_s (c' := (241, [some (aR (some (1, 0, 0))), some (aR (some (7, p1, 0)))], [], am_hp ((sI σ (8, 0, 0) (up (σ.1 (8, 0, 0)) 5 (σ.1 (7, p1, 0) 6)))), t)) rfl rfl ?_
  exact w1

theorem b_X11_doChange_209 {p1 : Nat} {σ : SG} {t : KT} (w1 : Wp k_X11_doChange d (241, [some (aR (some (1, 0, 0))), some (aR (some (7, p1, 0)))], [], am_hp ((sI σ (8, 0, 0) (up (σ.1 (8, 0, 0)) 6 (σ.1 (7, p1, 0) 6)))), t) Q) : Wp k_X11_doChange d (209, [some (aR (some (1, 0, 0))), some (aR (some (7, p1, 0)))], [], am_hp σ, t) Q := by
  refine w_s (c' := (210, [some (aR (some (1, 0, 0))), some (aR (some (7, p1, 0)))], [aR (some (1, 0, 0))], am_hp σ, t)) rfl rfl ?_
  refine w_get rfl (hp_1 _ 0) rfl rfl ?_
  refine w_s (c' := (214, [some (aR (some (1, 0, 0))), some (aR (some (7, p1, 0)))], [aR (some (7, p1, 0)), aR (some (8, 0, 0))], am_hp σ, t)) rfl rfl ?_
  refine w_get rfl (hp_7 _ p1) rfl rfl ?_
  refine w_putI rfl (hp_8 _ 0) rfl rfl rfl ?_
  refine w_s (c' := (241, [some (aR (some (1, 0, 0))), some (aR (some (7, p1, 0)))], [], am_hp ((sI σ (8, 0, 0) (up (σ.1 (8, 0, 0)) 6 (σ.1 (7, p1, 0) 6)))), t)) rfl rfl ?_
  exact w1

theorem b_X11_doChange_223 {p1 : Nat} {σ σ1 : SG} {t : KT} (c1 : Ca d 55 [aR (some (8, 0, 0)), aI (iZ (σ.1 (7, p1, 0) 5)), aI (iZ (σ.1 (7, p1, 0) 6))] (am_hp σ) t (.inl none, am_hp σ1, t)) (w2 : Wp k_X11_doChange d (241, [some (aR (some (1, 0, 0))), some (aR (some (7, p1, 0)))], [], am_hp σ1, t) Q) : Wp k_X11_doChange d (223, [some (aR (some (1, 0, 0))), some (aR (some (7, p1, 0)))], [], am_hp σ, t) Q := by
  refine w_s (c' := (224, [some (aR (some (1, 0, 0))), some (aR (some (7, p1, 0)))], [aR (some (1, 0, 0))], am_hp σ, t)) rfl rfl ?_
  refine w_get rfl (hp_1 _ 0) rfl rfl ?_
  refine w_s (c' := (228, [some (aR (some (1, 0, 0))), some (aR (some (7, p1, 0)))], [aR (some (7, p1, 0)), aR (some (8, 0, 0))], am_hp σ, t)) rfl rfl ?_
  refine w_get rfl (hp_7 _ p1) rfl rfl ?_
  refine w_s (c' := (232, [some (aR (some (1, 0, 0))), some (aR (some (7, p1, 0)))], [aR (some (7, p1, 0)), aI (iZ (σ.1 (7, p1, 0) 5)), aR (some (8, 0, 0))], am_hp σ, t)) rfl rfl ?_
  refine w_get rfl (hp_7 _ p1) rfl rfl ?_
  refine w_c0 (c' := (238, [some (aR (some (1, 0, 0))), some (aR (some (7, p1, 0)))], [], am_hp σ1, t)) rfl rfl (rcv_of (hp_8 _ 0)) rfl c1 (Nat.le_refl _) rfl ?_
  refine w_s (c' := (241, [some (aR (some (1, 0, 0))), some (aR (some (7, p1, 0)))], [], am_hp σ1, t)) rfl rfl ?_
  exact w2

theorem b_X11_doChange_241 {p1 : Nat} {σ : SG} {t : KT} (q1 : Q (.inl none, am_hp σ, t)) : Wp k_X11_doChange d (241, [some (aR (some (1, 0, 0))), some (aR (some (7, p1, 0)))], [], am_hp σ, t) Q := by
  exact w_f rfl rfl q1
end PCS
