/-! THE MODEL: settings, going back -/
set_option maxRecDepth 4000
theorem MR.ru {A : RA} {f : Nat → Int} {z : Int} (h : MR A f 0) (hz : 0 ≤ z) : MR (ruA A z.toNat) (up f 1 z) 0 := by
  obtain ⟨h1, h2, h3, h5, h6⟩ := h
  refine ⟨by rw [up_at, if_neg (by omega)]; exact h1, ?_, by rw [up_at, if_neg (by omega)]; exact h3, fun w hw => by rw [up_at, if_neg (by omega)]; exact h5 w hw, fun r hr => ?_⟩
  · rw [up_at, if_pos (by omega)]
    show z = ((z.toNat : Nat) : Int)
    omega
  · obtain ⟨k1, k2, k3, k4⟩ := h6 r hr
    exact ⟨by rw [up_at, if_neg (by omega)]; exact k1, by rw [up_at, if_neg (by omega)]; exact k2, by rw [up_at, if_neg (by omega)]; exact k3, fun j hj => by rw [up_at, if_neg (by omega)]; exact k4 j hj⟩
theorem MR.sk {A : RA} {f : Nat → Int} {z : Int} (h : MR A f 0) (hz : 0 ≤ z) : MR (skA A z.toNat) (up f 2 z) 0 := by
  obtain ⟨h1, h2, h3, h5, h6⟩ := h
  refine ⟨by rw [up_at, if_neg (by omega)]; exact h1, by rw [up_at, if_neg (by omega)]; exact h2, ?_, fun w hw => by rw [up_at, if_neg (by omega)]; exact h5 w hw, fun r hr => ?_⟩
  · rw [up_at, if_pos (by omega)]
    show z = ((z.toNat : Nat) : Int)
    omega
  · obtain ⟨k1, k2, k3, k4⟩ := h6 r hr
    exact ⟨by rw [up_at, if_neg (by omega)]; exact k1, by rw [up_at, if_neg (by omega)]; exact k2, by rw [up_at, if_neg (by omega)]; exact k3, fun j hj => by rw [up_at, if_neg (by omega)]; exact k4 j hj⟩
theorem MR.pr {A : RA} {f : Nat → Int} {z : Int} {w : Nat} (h : MR A f 0) (hw : w < 9) : MR (priA A w z) (up f (3 + w) z) 0 := by
  obtain ⟨h1, h2, h3, h5, h6⟩ := h
  refine ⟨by rw [up_at, if_neg (by omega)]; exact h1, by rw [up_at, if_neg (by omega)]; exact h2, by rw [up_at, if_neg (by omega)]; exact h3, fun u hu => ?_, fun r hr => ?_⟩
  · rw [up_at]
    show _ = fup (rPr A) w z u
    unfold fup
    by_cases e : u = w
    · rw [if_pos (by omega), if_pos e]
    · rw [if_neg (by omega), if_neg e]
      exact h5 u hu
  · obtain ⟨k1, k2, k3, k4⟩ := h6 r hr
    exact ⟨by rw [up_at, if_neg (by omega)]; exact k1, by rw [up_at, if_neg (by omega)]; exact k2, by rw [up_at, if_neg (by omega)]; exact k3, fun j hj => by rw [up_at, if_neg (by omega)]; exact k4 j hj⟩
theorem s_X12_setsCell {t : KT} {σ : SG} {k : Nat} {z : Int} (hk : k < 264) : Ca 1 313 [aR (some (40, 0, 0)), aI (iZ ((k : Int))), aI (iZ z)] (am_hp σ) t (.inl (some (aI (iZ (σ.1 (42, 0, 0) k)))), am_hp (sI σ (42, 0, 0) (up (σ.1 (42, 0, 0)) k z)), t) := by
  refine ca_of (e_X12_setsCell ?_)
  refine b_X12_setsCell_0 (by omega) ?_
  rw [Int.toNat_natCast]
theorem n42_40 : ¬ ((40, 0, 0) : Lc) = (42, 0, 0) := fun z => absurd (congrArg (fun L : Lc => L.1) z) (by decide)
theorem n44_40 : ¬ ((40, 0, 0) : Lc) = (44, 0, 0) := fun z => absurd (congrArg (fun L : Lc => L.1) z) (by decide)
theorem n44_42 : ¬ ((42, 0, 0) : Lc) = (44, 0, 0) := fun z => absurd (congrArg (fun L : Lc => L.1) z) (by decide)
/-- one cell of the rows is set: the whole change -/
theorem m_cell {t : KT} {σ : SG} {S : SS} {c k : Nat} {x y i v : Int} (h : MS S σ) (hk : k < 264) (hv : vdA (xA S) c [] x y i v = 0) (hc : c ≠ 0) (hM : ∀ f, MR (xA S) f 0 → MR (doA (xA S) c [] x y i v) (up f k v) 0) : ∃ σ1 σ2 σ3, Ca 2 202 [aR (some (40, 0, 0))] (am_hp (cd σ 0)) t (.inl none, am_hp σ1, t) ∧ Ca 1 313 [aR (some (40, 0, 0)), aI (iZ ((k : Int))), aI (iZ v)] (am_hp σ1) t (.inl (some (aI (iZ (σ.1 (42, 0, 0) k)))), am_hp σ2, t) ∧ Ca 3 205 [aR (some (40, 0, 0)), aI (iZ (σ.1 (42, 0, 0) k))] (am_hp σ2) t (.inl (some (aI (iZ (σ.1 (42, 0, 0) k)))), am_hp σ3, t) ∧ σ3.1 (40, 0, 0) 0 = 0 ∧ MS (N_call S c [] x y i v) σ3 ∧ Fr inMo σ σ3 := by
  have hA := h.1
  have A1 := hA.m (MF.ck (σ := σ) (z := 0))
  obtain ⟨σ1, c1, d1, f1⟩ := s_X12_laysAside (t := t) A1
  have A2 := A1.fr f1 n44_42
  have c2 := s_X12_setsCell (t := t) (σ := σ1) (z := v) hk
  have e42 : σ1.1 (42, 0, 0) = σ.1 (42, 0, 0) := by rw [(f1.1 _ n44_42).1, (cd_fr.1 (42, 0, 0) (by decide)).1]
  rw [e42] at c2
  have f2 : Fr in42 σ1 (sI σ1 (42, 0, 0) (up (σ.1 (42, 0, 0)) k v)) := Fr.sI (P := in42) rfl
  have w2 : MA (doA (xA S) c [] x y i v) (sI σ1 (42, 0, 0) (up (σ.1 (42, 0, 0)) k v)) := ⟨Av_do hA.1 hv (fun z => absurd z hc), by rw [sI_1, if_pos rfl]; exact hM _ hA.2⟩
  obtain ⟨σ3, c3, z3, g3, f3⟩ := s_X12_kept (t := t) (z := σ.1 (42, 0, 0) k) h ((RC.ck (z := 0)).trans ((RC.one f1 (Or.inr rfl)).trans (RC.one f2 (Or.inl rfl)))) w2 (d1.o f2)
  refine ⟨σ1, _, σ3, c1, c2, c3, ?_, ?_, f3.mono mM4⟩
  · rw [z3, (f2.1 (40, 0, 0) n42_40).1, (f1.1 (40, 0, 0) n44_40).1, cd_0]
  · rw [(R0 hv).2]
    exact g3
theorem m_setRule {t : KT} {σ : SG} {S : SS} {v : Int} (h : MS S σ) (hv : -2147483648 ≤ v ∧ v < 2147483648) : ∃ σ', Ca 4 314 [aR (some (40, 0, 0)), aI (iZ v)] (am_hp σ) t (.inl (some (aI (iZ (moI (A_setRule S v))))), am_hp σ', t) ∧ σ'.1 (40, 0, 0) 0 = moC (A_setRule S v) ∧ MS (N_set S 6 0 v) σ' ∧ Fr inMo σ σ' := by
  have hd : vdA (xA S) 6 [] 0 0 0 v = if 0 ≤ v ∧ v ≤ 2 then 0 else 2 := rfl
  have cu := s_X12_isRule (t := t) (σ := σ) hv
  refine ex_of (e_X12_setRule ?_)
  unfold A_setRule N_set
  by_cases hU : 0 ≤ v ∧ v ≤ 2
  · rw [if_pos hU] at hd ⊢
    obtain ⟨σ1, σ2, σ3, c1, c2, c3, z3, g3, f3⟩ := m_cell (t := t) (k := 1) h (by omega) hd (by omega) (fun f hf => hf.ru hU.1)
    have e : σ.1 (42, 0, 0) 1 = rRu (xA S) := h.1.2.2.1
    rw [e] at c2 c3
    exact b_X12_setRule_0 (cu.up (by omega)) ((goes_t hU).up (by omega)) (by omega) (fun _ => b_X12_setRule_13 (c1.up (by omega)) (c2.up (by omega)) (c3.up (by omega)) ⟨σ3, rfl, z3, g3, f3⟩) (fun q => by omega)
  · rw [if_neg hU] at hd ⊢
    rw [(R2 hd (Or.inr rfl)).2]
    exact b_X12_setRule_0 (cu.up (by omega)) ((goes_f hU).up (by omega)) (by omega) (fun q => absurd rfl q) (fun _ => b_X12_setRule_11 ⟨_, rfl, cd_0, h.m MF.ck, (MF.ck (σ := σ) (z := 1)).mo⟩)
theorem m_setSkip {t : KT} {σ : SG} {S : SS} {v : Int} (h : MS S σ) (hv : -2147483648 ≤ v ∧ v < 2147483648) : ∃ σ', Ca 4 316 [aR (some (40, 0, 0)), aI (iZ v)] (am_hp σ) t (.inl (some (aI (iZ (moI (A_setSkip S v))))), am_hp σ', t) ∧ σ'.1 (40, 0, 0) 0 = moC (A_setSkip S v) ∧ MS (N_set S 7 0 v) σ' ∧ Fr inMo σ σ' := by
  have hd : vdA (xA S) 7 [] 0 0 0 v = if 1 ≤ v ∧ v ≤ 9 then 0 else 2 := rfl
  have cu := s_X12_isSkip (t := t) (σ := σ) hv
  refine ex_of (e_X12_setSkip ?_)
  unfold A_setSkip N_set
  by_cases hU : 1 ≤ v ∧ v ≤ 9
  · rw [if_pos hU] at hd ⊢
    obtain ⟨σ1, σ2, σ3, c1, c2, c3, z3, g3, f3⟩ := m_cell (t := t) (k := 2) h (by omega) hd (by omega) (fun f hf => hf.sk (by omega))
    have e : σ.1 (42, 0, 0) 2 = rSk (xA S) := h.1.2.2.2.1
    rw [e] at c2 c3
    exact b_X12_setSkip_0 (cu.up (by omega)) ((goes_t hU).up (by omega)) (by omega) (fun _ => b_X12_setSkip_13 (c1.up (by omega)) (c2.up (by omega)) (c3.up (by omega)) ⟨σ3, rfl, z3, g3, f3⟩) (fun q => by omega)
  · rw [if_neg hU] at hd ⊢
    rw [(R2 hd (Or.inr rfl)).2]
    exact b_X12_setSkip_0 (cu.up (by omega)) ((goes_f hU).up (by omega)) (by omega) (fun q => absurd rfl q) (fun _ => b_X12_setSkip_11 ⟨_, rfl, cd_0, h.m MF.ck, (MF.ck (σ := σ) (z := 1)).mo⟩)
theorem m_setPrice {t : KT} {σ : SG} {S : SS} {w v : Int} (h : MS S σ) (hw : -2147483648 ≤ w ∧ w < 2147483648) (hv : -2147483648 ≤ v ∧ v < 2147483648) : ∃ σ', Ca 4 318 [aR (some (40, 0, 0)), aI (iZ w), aI (iZ v)] (am_hp σ) t (.inl (some (aI (iZ (moI (A_setPrice S w v))))), am_hp σ', t) ∧ σ'.1 (40, 0, 0) 0 = moC (A_setPrice S w v) ∧ MS (N_set S 8 w v) σ' ∧ Fr inMo σ σ' := by
  have hd : vdA (xA S) 8 [] 0 0 w v = if ¬ (0 ≤ w ∧ w < 9) then 1 else if 0 ≤ v ∧ v ≤ 99 then 0 else 2 := rfl
  have cw := s_X12_isWay (t := t) (σ := σ) hw
  have cu := s_X12_isPrice (t := t) (σ := σ) hv
  refine ex_of (e_X12_setPrice ?_)
  unfold A_setPrice N_set
  by_cases hW : 0 ≤ w ∧ w ≤ 8
  · rw [if_neg (by omega)] at hd
    rw [if_pos (show 0 ≤ w ∧ w < 9 by omega)]
    by_cases hU : 0 ≤ v ∧ v ≤ 99
    · rw [if_pos hU] at hd ⊢
      obtain ⟨σ1, σ2, σ3, c1, c2, c3, z3, g3, f3⟩ := m_cell (t := t) (k := 3 + w.toNat) h (by omega) hd (by omega) (fun f hf => hf.pr (by omega))
      have e : σ.1 (42, 0, 0) (3 + w.toNat) = rPr (xA S) w.toNat := by
        have := h.1.2.2.2.2.1 w.toNat (by omega)
        rw [Nat.zero_add] at this
        exact this
      rw [e] at c2 c3
      rw [show ((3 + w.toNat : Nat) : Int) = 3 + w by omega] at c2
      exact b_X12_setPrice_0 (cw.up (by omega)) (cu.up (by omega)) ((gB_t hW hU).up (by omega)) (by omega) (fun _ => b_X12_setPrice_17 (c1.up (by omega)) (c2.up (by omega)) (c3.up (by omega)) ⟨σ3, rfl, z3, g3, f3⟩) (fun q => by omega)
    · rw [if_neg hU] at hd ⊢
      rw [(R2 hd (Or.inr rfl)).2]
      exact b_X12_setPrice_0 (cw.up (by omega)) (cu.up (by omega)) ((gB_2 hW hU).up (by omega)) (by omega) (fun q => absurd rfl q) (fun _ => b_X12_setPrice_15 ⟨_, rfl, cd_0, h.m MF.ck, (MF.ck (σ := σ) (z := 2)).mo⟩)
  · rw [if_pos (by omega)] at hd
    rw [if_neg (show ¬ (0 ≤ w ∧ w < 9) by omega), (R2 hd (Or.inl rfl)).2]
    exact b_X12_setPrice_0 (cw.up (by omega)) (cu.up (by omega)) ((gB_1 hW).up (by omega)) (by omega) (fun q => absurd rfl q) (fun _ => b_X12_setPrice_15 ⟨_, rfl, cd_0, h.m MF.ck, (MF.ck (σ := σ) (z := 1)).mo⟩)
