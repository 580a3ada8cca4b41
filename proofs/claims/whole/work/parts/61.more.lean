/-! THE CLASS'S CALLS, II -/
set_option maxRecDepth 4000
def N_set (S : SS) (c : Nat) (i v : Int) : SS := N_call S c [] 0 0 i v
theorem vdA_68 (A : RA) {c : Nat} (hc : c = 6 ∨ c = 7 ∨ c = 8) (x y x' y' i i' v : Int) (hi : c = 8 → i = i') : vdA A c [] x y i v = vdA A c [] x' y' i' v := by
  unfold vdA
  rcases hc with rfl | rfl | rfl
  · rfl
  · rfl
  · rw [hi rfl]
    rfl
theorem N_68 (S : SS) {c : Nat} (hc : c = 6 ∨ c = 7 ∨ c = 8) (x y x' y' i i' v : Int) (hi : c = 8 → i = i') : N_call S c [] x y i v = N_call S c [] x' y' i' v := by
  unfold N_call
  rw [vdA_68 (xA S) hc x y x' y' i i' v hi]
  have e : doA (xA S) c [] x y i v = doA (xA S) c [] x' y' i' v := by
    unfold doA
    rcases hc with rfl | rfl | rfl
    · rfl
    · rfl
    · rw [hi rfl]
      rfl
  rw [e]
/-- what a call answers that changes a setting -/
def R_set (S : SS) (c : Nat) (i v was : Int) : RZ := if vdA (xA S) c [] 0 0 i v = 0 then .inl was else .inr (vdA (xA S) c [] 0 0 i v)
theorem vd6 (A : RA) (x y i v : Int) : vdA A 6 [] x y i v = if 0 ≤ v ∧ v ≤ 2 then 0 else 2 := rfl
theorem vd7 (A : RA) (x y i v : Int) : vdA A 7 [] x y i v = if 1 ≤ v ∧ v ≤ 9 then 0 else 2 := rfl
theorem vd8 (A : RA) (x y i v : Int) : vdA A 8 [] x y i v = if ¬ (0 ≤ i ∧ i < 9) then 1 else if 0 ≤ v ∧ v ≤ 99 then 0 else 2 := rfl
def A_setRule (S : SS) (v : Int) : RZ := if 0 ≤ v ∧ v ≤ 2 then .inl (rRu (xA S)) else .inr 1
def A_setSkip (S : SS) (v : Int) : RZ := if 1 ≤ v ∧ v ≤ 9 then .inl (rSk (xA S)) else .inr 1
def A_setPrice (S : SS) (i v : Int) : RZ := if 0 ≤ i ∧ i < 9 then (if 0 ≤ v ∧ v ≤ 99 then .inl (rPr (xA S) i.toNat) else .inr 2) else .inr 1
theorem N_bad {S : SS} {c : Nat} {x y i v : Int} (h0 : vdA (xA S) c [] x y i v ≠ 0) (h2 : vdA (xA S) c [] x y i v ≤ 2) : N_call S c [] x y i v = S := by
  unfold N_call
  rw [if_neg h0, if_pos h2]
theorem s_X11_setRule {t : KT} {σ : SG} {S : SS} {v : Int} (h : CS S σ) (hv : -2147483648 ≤ v ∧ v < 2147483648) : ∃ σ', Ca 7 128 [aR (some (1, 0, 0)), aI (iZ v)] (am_hp σ) t (reI 1 1 σ' t (A_setRule S v)) ∧ CS (N_set S 6 0 v) σ' ∧ Fr inN σ σ' := by
  have f0 : Fr (fun L => L = (7, 30, 0)) σ (sC σ (7, 30, 0) 6) := Fr.sC rfl
  have f1 : Fr (fun L => L = (7, 30, 0)) (sC σ (7, 30, 0) 6) (sI (sC σ (7, 30, 0) 6) (7, 30, 0) (up ((sC σ (7, 30, 0) 6).1 (7, 30, 0)) 6 v)) := Fr.sI rfl
  have k0 : KI (sC σ (7, 30, 0) 6) 30 := h.2.2.2.2.2.2.2 30 (by omega)
  have k1 := k0.up (j := 6) (z := v) hv
  have c1 : (sI (sC σ (7, 30, 0) 6) (7, 30, 0) (up ((sC σ (7, 30, 0) 6).1 (7, 30, 0)) 6 v)).2.2.2.1 (7, 30, 0) = 6 := sC_at σ (7, 30, 0) 6
  have x1 : (sI (sC σ (7, 30, 0) 6) (7, 30, 0) (up ((sC σ (7, 30, 0) 6).1 (7, 30, 0)) 6 v)).1 (7, 30, 0) 6 = v := by simp [sI_1, up_at]
  have hf := f0.trans f1
  have hS := h.c7 hf k1
  have e5 := h.1.2.1.2.1
  refine rx_of (R := fun σ' => reI 1 1 σ' t (A_setRule S v)) (e_X11_setRule ?_)
  unfold A_setRule N_set
  by_cases hc : 0 ≤ v ∧ v ≤ 2
  · obtain ⟨σ1, d1, g1, ff1⟩ := s_X11_doCall0 (t := t) (nm := []) hS c1 (by omega) (fun e => by omega) (by rw [x1, vd6, if_pos hc])
    rw [x1, N_68 S (Or.inl rfl) _ _ 0 0 _ 0 v (fun e => by omega)] at g1
    rw [if_pos hc]
    refine b_X11_setRule_0 (d1.up (by omega)) ⟨σ1, ?_, g1, (hf.mono mN2).trans (ff1.mono mN1)⟩
    rw [e5]
    rfl
  · have hn : vdA (xA S) 6 [] 0 0 0 v = 2 := by rw [vd6, if_neg hc]
    have d1 := t_X11_doCall (t := t) (nm := []) hS c1 (by omega) (fun e => by omega) (by rw [x1, vd6, if_neg hc]; exact Or.inr rfl)
    rw [x1, vd6, if_neg hc] at d1
    rw [if_neg hc, N_bad (by rw [hn]; decide) (by rw [hn]; decide)]
    exact bx_X11_setRule_0_1 (d1.up (by omega)) ⟨_, rfl, hS, hf.mono mN2⟩
theorem s_X11_setSkip {t : KT} {σ : SG} {S : SS} {v : Int} (h : CS S σ) (hv : -2147483648 ≤ v ∧ v < 2147483648) : ∃ σ', Ca 7 129 [aR (some (1, 0, 0)), aI (iZ v)] (am_hp σ) t (reI 1 1 σ' t (A_setSkip S v)) ∧ CS (N_set S 7 0 v) σ' ∧ Fr inN σ σ' := by
  have f0 : Fr (fun L => L = (7, 30, 0)) σ (sC σ (7, 30, 0) 7) := Fr.sC rfl
  have f1 : Fr (fun L => L = (7, 30, 0)) (sC σ (7, 30, 0) 7) (sI (sC σ (7, 30, 0) 7) (7, 30, 0) (up ((sC σ (7, 30, 0) 7).1 (7, 30, 0)) 6 v)) := Fr.sI rfl
  have k0 : KI (sC σ (7, 30, 0) 7) 30 := h.2.2.2.2.2.2.2 30 (by omega)
  have k1 := k0.up (j := 6) (z := v) hv
  have c1 : (sI (sC σ (7, 30, 0) 7) (7, 30, 0) (up ((sC σ (7, 30, 0) 7).1 (7, 30, 0)) 6 v)).2.2.2.1 (7, 30, 0) = 7 := sC_at σ (7, 30, 0) 7
  have x1 : (sI (sC σ (7, 30, 0) 7) (7, 30, 0) (up ((sC σ (7, 30, 0) 7).1 (7, 30, 0)) 6 v)).1 (7, 30, 0) 6 = v := by simp [sI_1, up_at]
  have hf := f0.trans f1
  have hS := h.c7 hf k1
  have e5 := h.1.2.1.2.2.1
  refine rx_of (R := fun σ' => reI 1 1 σ' t (A_setSkip S v)) (e_X11_setSkip ?_)
  unfold A_setSkip N_set
  by_cases hc : 1 ≤ v ∧ v ≤ 9
  · obtain ⟨σ1, d1, g1, ff1⟩ := s_X11_doCall0 (t := t) (nm := []) hS c1 (by omega) (fun e => by omega) (by rw [x1, vd7, if_pos hc])
    rw [x1, N_68 S (Or.inr (Or.inl rfl)) _ _ 0 0 _ 0 v (fun e => by omega)] at g1
    rw [if_pos hc]
    refine b_X11_setSkip_0 (d1.up (by omega)) ⟨σ1, ?_, g1, (hf.mono mN2).trans (ff1.mono mN1)⟩
    rw [e5]
    rfl
  · have hn : vdA (xA S) 7 [] 0 0 0 v = 2 := by rw [vd7, if_neg hc]
    have d1 := t_X11_doCall (t := t) (nm := []) hS c1 (by omega) (fun e => by omega) (by rw [x1, vd7, if_neg hc]; exact Or.inr rfl)
    rw [x1, vd7, if_neg hc] at d1
    rw [if_neg hc, N_bad (by rw [hn]; decide) (by rw [hn]; decide)]
    exact bx_X11_setSkip_0_1 (d1.up (by omega)) ⟨_, rfl, hS, hf.mono mN2⟩
theorem s_X11_setPrice {t : KT} {σ : SG} {S : SS} {i v : Int} (h : CS S σ) (hi : -2147483648 ≤ i ∧ i < 2147483648) (hv : -2147483648 ≤ v ∧ v < 2147483648) : ∃ σ', Ca 7 130 [aR (some (1, 0, 0)), aI (iZ i), aI (iZ v)] (am_hp σ) t (reI 2 1 σ' t (A_setPrice S i v)) ∧ CS (N_set S 8 i v) σ' ∧ Fr inN σ σ' := by
  refine rx_of (R := fun σ' => reI 2 1 σ' t (A_setPrice S i v)) (e_X11_setPrice ?_)
  unfold A_setPrice N_set
  by_cases hw : 0 ≤ i ∧ i < 9
  · rw [if_pos hw]
    have f0 : Fr (fun L => L = (7, 30, 0)) σ (sC σ (7, 30, 0) 8) := Fr.sC rfl
    have f1 : Fr (fun L => L = (7, 30, 0)) (sC σ (7, 30, 0) 8) (sI (sC σ (7, 30, 0) 8) (7, 30, 0) (up ((sC σ (7, 30, 0) 8).1 (7, 30, 0)) 5 i)) := Fr.sI rfl
    have k0 : KI (sC σ (7, 30, 0) 8) 30 := h.2.2.2.2.2.2.2 30 (by omega)
    have k1 := k0.up (j := 5) (z := i) hi
    have c1 : (sI (sC σ (7, 30, 0) 8) (7, 30, 0) (up ((sC σ (7, 30, 0) 8).1 (7, 30, 0)) 5 i)).2.2.2.1 (7, 30, 0) = 8 := sC_at σ (7, 30, 0) 8
    have f2 : Fr (fun L => L = (7, 30, 0)) (sI (sC σ (7, 30, 0) 8) (7, 30, 0) (up ((sC σ (7, 30, 0) 8).1 (7, 30, 0)) 5 i)) (sI (sI (sC σ (7, 30, 0) 8) (7, 30, 0) (up ((sC σ (7, 30, 0) 8).1 (7, 30, 0)) 5 i)) (7, 30, 0) (up ((sI (sC σ (7, 30, 0) 8) (7, 30, 0) (up ((sC σ (7, 30, 0) 8).1 (7, 30, 0)) 5 i)).1 (7, 30, 0)) 6 v)) := Fr.sI rfl
    have k2 := k1.up (j := 6) (z := v) hv
    have c2 : (sI (sI (sC σ (7, 30, 0) 8) (7, 30, 0) (up ((sC σ (7, 30, 0) 8).1 (7, 30, 0)) 5 i)) (7, 30, 0) (up ((sI (sC σ (7, 30, 0) 8) (7, 30, 0) (up ((sC σ (7, 30, 0) 8).1 (7, 30, 0)) 5 i)).1 (7, 30, 0)) 6 v)).2.2.2.1 (7, 30, 0) = 8 := c1
    have x5 : (sI (sI (sC σ (7, 30, 0) 8) (7, 30, 0) (up ((sC σ (7, 30, 0) 8).1 (7, 30, 0)) 5 i)) (7, 30, 0) (up ((sI (sC σ (7, 30, 0) 8) (7, 30, 0) (up ((sC σ (7, 30, 0) 8).1 (7, 30, 0)) 5 i)).1 (7, 30, 0)) 6 v)).1 (7, 30, 0) 5 = i := by simp [sI_1, up_at]
    have x6 : (sI (sI (sC σ (7, 30, 0) 8) (7, 30, 0) (up ((sC σ (7, 30, 0) 8).1 (7, 30, 0)) 5 i)) (7, 30, 0) (up ((sI (sC σ (7, 30, 0) 8) (7, 30, 0) (up ((sC σ (7, 30, 0) 8).1 (7, 30, 0)) 5 i)).1 (7, 30, 0)) 6 v)).1 (7, 30, 0) 6 = v := by simp [sI_1, up_at]
    have hf := (f0.trans f1).trans f2
    have hS := h.c7 hf k2
    have ep : σ.1 (13, 0, 0) i.toNat = rPr (xA S) i.toNat := h.1.2.1.2.2.2.1 _ (by omega)
    by_cases hc : 0 ≤ v ∧ v ≤ 99
    · obtain ⟨σ1, d1, g1, ff1⟩ := s_X11_doCall0 (t := t) (nm := []) hS c2 (by omega) (fun e => by omega) (by rw [x5, x6, vd8, if_neg (fun q => q hw), if_pos hc])
      rw [x5, x6, N_68 S (Or.inr (Or.inr rfl)) _ _ 0 0 _ i v (fun e => rfl)] at g1
      rw [if_pos hc]
      refine b_X11_setPrice_0 ((s_X11_checkWay hw).up (by omega)) hw (d1.up (by omega)) ⟨σ1, ?_, g1, (hf.mono mN2).trans (ff1.mono mN1)⟩
      rw [ep]
      rfl
    · have hn : vdA (xA S) 8 [] 0 0 i v = 2 := by rw [vd8, if_neg (fun q => q hw), if_neg hc]
      have d1 := t_X11_doCall (t := t) (nm := []) hS c2 (by omega) (fun e => by omega) (by rw [x5, x6, vd8, if_neg (fun q => q hw), if_neg hc]; exact Or.inr rfl)
      have e8 : ∀ x y : Int, vdA (xA S) 8 [] x y i v = 2 := fun x y => by rw [vd8, if_neg (fun q => q hw), if_neg hc]
      rw [x5, x6, e8] at d1
      rw [if_neg hc, N_bad (by rw [hn]; decide) (by rw [hn]; decide)]
      exact bx_X11_setPrice_0_2 ((s_X11_checkWay hw).up (by omega)) hw (d1.up (by omega)) ⟨_, rfl, hS, hf.mono mN2⟩
  · have hn : vdA (xA S) 8 [] 0 0 i v = 1 := by rw [vd8, if_pos hw]
    rw [if_neg hw, N_bad (by rw [hn]; decide) (by rw [hn]; decide)]
    exact bx_X11_setPrice_0_1 (σ2 := σ) ((t_X11_checkWay hi hw).up (by omega)) ⟨σ, rfl, h, Fr.refl _ _⟩
-- names
/-- the whole text as a name, [] if it is none -/
def wnm (T : TB) : List Nat := if 1 ≤ T.2 ∧ T.2 ≤ 8 ∧ tWn T 0 = T.2 then lw T.1 0 T.2 else []
theorem wnm_ok (T : TB) : ltL (wnm T) ∧ (wnm T).length ≤ 8 := by
  unfold wnm
  split
  · rename_i h
    refine ⟨lw_lt _ (fun j hj => (tW_in (s := 0) (by omega)).2), ?_⟩
    rw [lw_len]
    exact h.2.1
  · exact ⟨fun x hx => by simp at hx, by simp⟩
theorem s_X10_wholeName {t : KT} {σ : SG} {T : TB} (hT : TX T σ) : ∃ σ', Ca 3 77 [aR (some (2, 0, 0))] (am_hp σ) t (.inl (some (aL (jZ (cNm (wnm T))))), am_hp σ', t) ∧ TX T σ' ∧ FT σ σ' := by
  have k1 : TX T (sI (sI σ (2, 0, 0) (up (σ.1 (2, 0, 0)) 7 0)) (2, 0, 0) (up ((sI σ (2, 0, 0) (up (σ.1 (2, 0, 0)) 7 0)).1 (2, 0, 0)) 8 0)) := (hT.up (by simp [up_at])).up (by simp [up_at])
  have k2 : FT σ (sI (sI σ (2, 0, 0) (up (σ.1 (2, 0, 0)) 7 0)) (2, 0, 0) (up ((sI σ (2, 0, 0) (up (σ.1 (2, 0, 0)) 7 0)).1 (2, 0, 0)) 8 0)) := (FT.up ⟨by decide, by decide⟩).trans (FT.up ⟨by decide, by decide⟩)
  obtain ⟨σ1, c1, g1, f1, e2, e7, e8, en⟩ := s_X10_takeWord (t := t) (s := 0) k1 (Nat.zero_le _) (by simp [sI_1, up_at]) (by simp [sI_1, up_at])
  have e1 := g1.1
  have h6 := hT.2.1
  have hle := tW_le (T := T) (s := 0) (Nat.zero_le _)
  refine ex_of (e_X10_wholeName ?_)
  have hno : ¬ (1 ≤ T.2 ∧ T.2 ≤ 8 ∧ tWn T 0 = T.2) → Wp k_X10_wholeName 2 (40, [some (aR (some (2, 0, 0)))], [], am_hp σ1, t) (fun r => ∃ σ', r = (.inl (some (aL (jZ (cNm (wnm T))))), am_hp σ', t) ∧ TX T σ' ∧ FT σ σ') := by
    intro q
    refine b_X10_wholeName_40 (b_X10_wholeName_41 ⟨σ1, ?_, g1, k2.trans f1⟩)
    unfold wnm
    rw [if_neg q]
    rfl
  refine b_X10_wholeName_0 (c1.up (by omega)) (by rw [e2]; split <;> decide) (fun q => ?_) (fun q => ?_)
  · refine hno (fun z => q ?_)
    rw [e2, if_neg (by omega)]
  · rw [e2] at q
    have hw : ¬ (tWn T 0 = 0 ∨ 8 < tWn T 0) := fun z => by rw [if_pos z] at q; omega
    refine b_X10_wholeName_22 (by omega) (by omega) (fun q2 => ?_) (fun q2 => ?_)
    · exact hno (fun z => by omega)
    · refine b_X10_wholeName_33 (b_X10_wholeName_41 ⟨σ1, ?_, g1, k2.trans f1⟩)
      have hz : 1 ≤ T.2 ∧ T.2 ≤ 8 ∧ tWn T 0 = T.2 := by omega
      rw [en (by omega)]
      unfold wnm
      rw [if_pos hz, hz.2.2]
theorem CS.tx {S : SS} {σ σ' : SG} (h : CS S σ) (T : TX (xT S) σ') (f : FT σ σ') : CS S σ' := by
  obtain ⟨h1, h2, h3, h4, h5, h6, h7, h8⟩ := h
  have n : ∀ a b c : Nat, a ≠ 2 → ¬ inTx (a, b, c) := fun a b c h q => h (congrArg (fun L : Lc => L.1) q)
  have n2 : ∀ L : Lc, L.1 ≠ 2 → ¬ inTx L := fun L h q => h (congrArg (fun L : Lc => L.1) q)
  have g := f.1
  refine ⟨h1.fr g (fun L hL => n2 L ?_), h2.fr g (n _ _ _ (by decide)) (fun L hL => n2 L ?_), h3.fr2 g (fun L hL => n2 L (by omega)), fun j hj => ?_, ?_, ⟨T, by rw [f.2.1]; exact h6.2.1, by rw [f.2.2]; exact h6.2.2⟩, h7.fr g (n _ _ _ (by decide)) (n _ _ _ (by decide)), fun k hk => (h8 k hk).fr g (n _ _ _ (by decide))⟩
  · unfold inR at hL; omega
  · unfold inR at hL; omega
  · rw [(g.1 _ (n _ _ _ (by decide))).1]; exact h4 j hj
  · rw [(g.1 _ (n _ _ _ (by decide))).1]; exact h5
theorem s_X11_find {t : KT} {σ : SG} {S : SS} (h : CS S σ) : ∃ σ', Ca 4 106 [aR (some (1, 0, 0))] (am_hp σ) t (.inl (some (aI (iZ (rwA (xA S) (wnm (xT S)))))), am_hp σ', t) ∧ CS S σ' ∧ Fr inTx σ σ' := by
  obtain ⟨σ1, c1, g1, f1⟩ := s_X10_wholeName (t := t) h.2.2.2.2.2.1.1
  have hS := h.tx g1 f1
  have hn := wnm_ok (xT S)
  refine ex_of (e_X11_find ?_)
  exact b_X11_find_0 (c1.up (by omega)) ((s_X7_rowNm hS.1.1 hS.1.2.1 hn.1 hn.2).up (by omega)) ⟨σ1, rfl, hS, f1.1⟩
/-- the text is cut short -/
def cutT (S : SS) (n : Nat) : SS := (S.1, S.2.1, S.2.2.1, S.2.2.2.1, S.2.2.2.2.1, ((xT S).1, n), S.2.2.2.2.2.2)
theorem CS.cut {S : SS} {σ : SG} {n : Nat} (h : CS S σ) (hn : n ≤ (xT S).2) : CS (cutT S n) (sI σ (2, 0, 0) (up (σ.1 (2, 0, 0)) 1 (n : Int))) := by
  obtain ⟨h1, h2, h3, h4, h5, h6, h7, h8⟩ := h
  have g : Fr inTx σ (sI σ (2, 0, 0) (up (σ.1 (2, 0, 0)) 1 (n : Int))) := Fr.sI rfl
  have m : ∀ a b c : Nat, a ≠ 2 → ¬ inTx (a, b, c) := fun a b c h q => h (congrArg (fun L : Lc => L.1) q)
  have n2 : ∀ L : Lc, L.1 ≠ 2 → ¬ inTx L := fun L h q => h (congrArg (fun L : Lc => L.1) q)
  obtain ⟨⟨t1, t2, t3, t4⟩, t5, t6⟩ := h6
  have hn : n ≤ (xT S).2 := hn
  refine ⟨h1.fr g (fun L hL => n2 L ?_), h2.fr g (m _ _ _ (by decide)) (fun L hL => n2 L ?_), h3.fr2 g (fun L hL => n2 L (by omega)), fun j hj => ?_, ?_, ⟨⟨by simp [sI_1, up_at]; rfl, ?_, t3, fun j hj => ?_⟩, by simp [sI_1, up_at]; exact t5, by simp [sI_1, up_at]; exact t6⟩, h7.fr g (m _ _ _ (by decide)) (m _ _ _ (by decide)), fun k hk => (h8 k hk).fr g (m _ _ _ (by decide))⟩
  · unfold inR at hL; omega
  · unfold inR at hL; omega
  · rw [(g.1 _ (m _ _ _ (by decide))).1]; exact h4 j hj
  · rw [(g.1 _ (m _ _ _ (by decide))).1]; exact h5
  · show n ≤ 600
    omega
  · have hj : j < n := hj
    have := t4 j (by omega)
    simp [sI_1]
    exact this
def N_add (S : SS) : SS := if vdA (xA S) 0 (wnm (xT S)) 0 0 0 0 = 0 then cutT (N_call S 0 (wnm (xT S)) 0 0 0 0) 0 else N_call S 0 (wnm (xT S)) 0 0 0 0
def A_add (S : SS) : Int := if vdA (xA S) 0 (wnm (xT S)) 0 0 0 0 = 0 then rN (xA S) else -(vdA (xA S) 0 (wnm (xT S)) 0 0 0 0 : Int)
theorem vd0 (A : RA) (nm : List Nat) (x y i v : Int) : vdA A 0 nm x y i v = if 4 ≤ rN A then 101 else if nm = [] ∨ rwA A nm ≠ -1 then 102 else 0 := rfl
theorem s_X11_add {t : KT} {σ : SG} {S : SS} (h : CS S σ) : ∃ σ', Ca 7 122 [aR (some (1, 0, 0))] (am_hp σ) t (.inl (some (aI (iZ (A_add S)))), am_hp σ', t) ∧ CS (N_add S) σ' ∧ Fr (fun L => inN L ∨ L.1 = 2) σ σ' := by
  have f0 : Fr (fun L => L = (7, 30, 0)) σ (sC σ (7, 30, 0) 0) := Fr.sC rfl
  have k0 : KI (sC σ (7, 30, 0) 0) 30 := h.2.2.2.2.2.2.2 30 (by omega)
  have S0 := h.c7 f0 k0
  obtain ⟨σ1, c1, g1, f1⟩ := s_X10_wholeName (t := t) S0.2.2.2.2.2.1.1
  have S1 := S0.tx g1 f1
  have n7 : ¬ inTx (7, 30, 0) := fun q => absurd (congrArg (fun L : Lc => L.1) q) (by decide)
  have hc1 : σ1.2.2.2.1 (7, 30, 0) = 0 := by
    rw [(f1.1.1 _ n7).2.2]
    exact sC_at σ (7, 30, 0) 0
  have k1 : KI σ1 30 := k0.fr f1.1 n7
  have f2 : Fr (fun L => L = (7, 30, 0)) σ1 (sJ σ1 (7, 30, 0) (up (σ1.2.1 (7, 30, 0)) 1 (cNm (wnm (xT S))))) := Fr.sJ rfl
  have k2 : KI (sJ σ1 (7, 30, 0) (up (σ1.2.1 (7, 30, 0)) 1 (cNm (wnm (xT S))))) 30 := k1
  have S2 := S1.c7 f2 k2
  have hc2 : (sJ σ1 (7, 30, 0) (up (σ1.2.1 (7, 30, 0)) 1 (cNm (wnm (xT S))))).2.2.2.1 (7, 30, 0) = 0 := hc1
  have hn2 : (sJ σ1 (7, 30, 0) (up (σ1.2.1 (7, 30, 0)) 1 (cNm (wnm (xT S))))).2.1 (7, 30, 0) 1 = cNm (wnm (xT S)) := by simp [sJ_21, up_at]
  have hok := wnm_ok (xT S)
  have fA : Fr (fun L => inN L ∨ L.1 = 2) σ (sJ σ1 (7, 30, 0) (up (σ1.2.1 (7, 30, 0)) 1 (cNm (wnm (xT S))))) := ((f0.mono (fun L q => Or.inl (mN2 L q))).trans (f1.1.mono (fun L q => Or.inr (congrArg (fun L : Lc => L.1) q)))).trans (f2.mono (fun L q => Or.inl (mN2 L q)))
  generalize hσ2 : sJ σ1 (7, 30, 0) (up (σ1.2.1 (7, 30, 0)) 1 (cNm (wnm (xT S)))) = σ2 at f2 k2 S2 hc2 hn2 fA
  refine ex_of (e_X11_add ?_)
  have ev : ∀ x y i v : Int, vdA (xA S) 0 (wnm (xT S)) x y i v = vdA (xA S) 0 (wnm (xT S)) 0 0 0 0 := fun _ _ _ _ => rfl
  have eN : ∀ x y i v : Int, N_call S 0 (wnm (xT S)) x y i v = N_call S 0 (wnm (xT S)) 0 0 0 0 := fun _ _ _ _ => rfl
  have hb := vdA_bd (xA S) 0 (wnm (xT S)) 0 0 0 0
  have h12 : vdA (xA S) 0 (wnm (xT S)) 0 0 0 0 = 0 ∨ 2 < vdA (xA S) 0 (wnm (xT S)) 0 0 0 0 := by
    rw [vd0]
    split
    · omega
    · split <;> omega
  unfold A_add N_add
  by_cases hv : vdA (xA S) 0 (wnm (xT S)) 0 0 0 0 = 0
  · obtain ⟨σ3, c3, g3, f3⟩ := s_X11_doCall0 (t := t) (nm := wnm (xT S)) S2 hc2 (by omega) (fun _ => ⟨hn2, hok⟩) (by rw [ev]; exact hv)
    rw [eN] at g3
    rw [if_pos hv, if_pos hv]
    have eS : N_call S 0 (wnm (xT S)) 0 0 0 0 = (addA (xA S) (wnm (xT S)), xV S, (xA S :: xP S).take 6, fup (xC S) 0 (xC S 0 + 1), S.2.2.2.2) := if_pos hv
    have e4 : σ3.1 (8, 0, 0) 4 = ((rN (xA S) + 1 : Nat) : Int) := by
      have := g3.1.2.1.1
      rw [eS] at this
      exact this
    refine b_X11_add_0 (r1 := cNm (wnm (xT S))) (r2 := 0) (σ1 := σ1) (σ2 := σ3) (c1.up (by omega)) (by rw [hσ2]; exact c3.up (by omega)) (by omega) (fun _ => ?_) (fun q => absurd rfl q)
    refine b_X11_add_35 ⟨_, ?_, g3.cut (Nat.zero_le _), (fA.trans (f3.mono (fun L q => Or.inl (mN1 L q)))).trans (Fr.sI (P := fun L => inN L ∨ L.1 = 2) (Or.inr rfl))⟩
    have e4' : (sI σ3 (2, 0, 0) (up (σ3.1 (2, 0, 0)) 1 0)).1 (8, 0, 0) 4 - 1 = (rN (xA S) : Int) := by
      simp only [sI_1]
      rw [if_neg (by decide), e4]
      omega
    rw [e4']
    rfl
  · obtain ⟨σ3, c3, g3, f3⟩ := s_X11_doCall1 (t := t) (nm := wnm (xT S)) S2 hc2 (by omega) (fun _ => ⟨hn2, hok⟩) (by rw [ev]; omega)
    rw [eN] at g3
    rw [ev] at c3
    rw [if_neg hv, if_neg hv]
    refine b_X11_add_0 (r1 := cNm (wnm (xT S))) (r2 := -(vdA (xA S) 0 (wnm (xT S)) 0 0 0 0 : Int)) (σ1 := σ1) (σ2 := σ3) (c1.up (by omega)) (by rw [hσ2]; exact c3.up (by omega)) (by omega) (fun q => by omega) (fun _ => ?_)
    exact b_X11_add_33 ⟨σ3, rfl, g3, fA.trans (f3.mono (fun L q => Or.inl (mN1 L q)))⟩
def A_truncate (S : SS) (n : Int) : RZ × SS := if 0 ≤ n ∧ n ≤ (xT S).2 then (.inl n, cutT S n.toNat) else (.inr 1, S)
theorem s_X11_truncate {t : KT} {σ : SG} {S : SS} {n : Int} (h : CS S σ) (hn : -2147483648 ≤ n ∧ n < 2147483648) : ∃ σ', Ca 1 90 [aR (some (1, 0, 0)), aI (iZ n)] (am_hp σ) t (reI 1 1 σ' t ((A_truncate S n).1)) ∧ CS (A_truncate S n).2 σ' ∧ Fr inTx σ σ' := by
  have e1 := h.2.2.2.2.2.1.1.1
  have h6 := h.2.2.2.2.2.1.1.2.1
  refine rx_of (R := fun σ' => reI 1 1 σ' t (A_truncate S n).1) (e_X11_truncate ?_)
  unfold A_truncate
  refine b_X11_truncate_0 hn (fun q => ?_) (fun q => ?_)
  · rw [if_neg (by omega)]
    exact b_X11_truncate_15 ⟨σ, rfl, h, Fr.refl _ _⟩
  · refine b_X11_truncate_4 hn (by omega) (fun q2 => ?_) (fun q2 => ?_)
    · rw [if_pos (by omega)]
      have hc := h.cut (n := n.toNat) (by omega)
      rw [show ((n.toNat : Nat) : Int) = n by omega] at hc
      exact b_X11_truncate_23 ⟨_, rfl, hc, Fr.sI rfl⟩
    · rw [if_neg (by omega)]
      exact b_X11_truncate_15 ⟨σ, rfl, h, Fr.refl _ _⟩
/-- k bytes of v are added, the highest first -/
def addk (T : TB) (v : Int) (k : Nat) : TB := (fun j => if T.2 ≤ j ∧ j < T.2 + k then (v / 2 ^ (24 - 8 * (j - T.2))) % 256 else T.1 j, T.2 + k)
theorem zi2b_eq {a : Int} (h : -2147483648 ≤ a ∧ a < 2147483648) : zi2b a = a.bmod 256 := by
  unfold zi2b
  rw [Int8.toInt_toInt32, Int32.toInt_toInt8, iZ_get h]
theorem zb_eq {a : Int} (h : -2147483648 ≤ a ∧ a < 2147483648) : zb (zi2b a) = sg (a % 256) := by
  have e : ∀ z, zb z = zi2b z := fun z => rfl
  have h1 : -128 ≤ a.bmod 256 ∧ a.bmod 256 ≤ 127 := by
    unfold Int.bmod
    dsimp only
    split <;> omega
  rw [e, zi2b_eq h, zi2b_eq (by omega)]
  unfold sg Int.bmod
  dsimp only
  split
  · split
    · split <;> omega
    · split <;> omega
  · split
    · split <;> omega
    · split <;> omega
theorem add4_sum (T : TB) (v : Int) : ∀ j, 0 ≤ (addk T v 4).1 j ∧ True → True := fun _ _ => trivial
theorem shr_bd {v : Int} (hv : -2147483648 ≤ v ∧ v < 2147483648) {s : Nat} (hs : s ≤ 24) : zshr v (s : Int) = v / 2 ^ s ∧ -2147483648 ≤ v / 2 ^ s ∧ v / 2 ^ s < 2147483648 := by
  have h := zshr_eq hv (n := s) (by omega)
  refine ⟨h, ?_⟩
  rw [← h]
  unfold zshr
  have h1 := Int32.toInt_lt (iZ v >>> (iZ (s : Int) &&& 31))
  have h2 := Int32.le_toInt (iZ v >>> (iZ (s : Int) &&& 31))
  omega
theorem s_X10_addBytesOf {t : KT} {σ : SG} {T : TB} {v : Int} (hT : TX T σ) (hv : -2147483648 ≤ v ∧ v < 2147483648) (hn : T.2 + 4 ≤ 600) : ∃ σ', Ca 1 72 [aR (some (2, 0, 0)), aI (iZ v)] (am_hp σ) t (.inl none, am_hp σ', t) ∧ TX (addk T v 4) σ' ∧ Fr (fun L => L.1 = 2 ∨ L.1 = 3) σ σ' ∧ σ'.1 (2, 0, 0) 5 = σ.1 (2, 0, 0) 5 ∧ σ'.1 (2, 0, 0) 6 = σ.1 (2, 0, 0) 6 := by
  refine ex_of (e_X10_addBytesOf ?_)
  refine b_X10_addBytesOf_0 ?_
  refine w_loopS 4 (fun k c => ∃ σ1, c = (3, [some (aR (some (2, 0, 0))), some (aI (iZ v)), some (aI (iZ (24 - 8 * (k : Int))))], [], am_hp σ1, t) ∧ TX (addk T v k) σ1 ∧ Fr (fun L => L.1 = 2 ∨ L.1 = 3) σ σ1 ∧ σ1.1 (2, 0, 0) 5 = σ.1 (2, 0, 0) 5 ∧ σ1.1 (2, 0, 0) 6 = σ.1 (2, 0, 0) 6) ⟨σ, rfl, ⟨by rw [hT.1]; rfl, by show T.2 + 0 ≤ 600; omega, fun j => ?_, fun j hj => ?_⟩, Fr.refl _ _, rfl, rfl⟩ (fun k c hk hI go => ?_) (fun c hI => ?_)
  · show 0 ≤ (if T.2 ≤ j ∧ j < T.2 + 0 then (v / 2 ^ (24 - 8 * (j - T.2))) % 256 else T.1 j) ∧ (if T.2 ≤ j ∧ j < T.2 + 0 then (v / 2 ^ (24 - 8 * (j - T.2))) % 256 else T.1 j) ≤ 255
    rw [if_neg (by omega)]
    exact hT.2.2.1 j
  · show _ = sg (if T.2 ≤ j ∧ j < T.2 + 0 then (v / 2 ^ (24 - 8 * (j - T.2))) % 256 else T.1 j)
    rw [if_neg (by omega)]
    exact hT.2.2.2 j (by have hj : j < T.2 + 0 := hj; omega)
  · obtain ⟨σ1, rfl, g1, f1, e5, e6⟩ := hI
    have e1 : σ1.1 (2, 0, 0) 1 = ((T.2 + k : Nat) : Int) := g1.1
    have hs := shr_bd hv (s := 24 - 8 * k) (by omega)
    rw [show ((24 - 8 * k : Nat) : Int) = 24 - 8 * (k : Int) by omega] at hs
    refine b_X10_addBytesOf_3 (by omega) (fun q => by omega) (fun _ => ?_)
    refine b_X10_addBytesOf_7 (by omega) (fun q => by omega) (fun _ => ?_)
    refine b_X10_addBytesOf_17 (by omega) ?_
    rw [show (24 : Int) - 8 * (k : Int) + -8 = 24 - 8 * ((k + 1 : Nat) : Int) by omega]
    refine go _ ⟨_, rfl, ⟨?_, by show T.2 + (k + 1) ≤ 600; omega, fun j => ?_, fun j hj => ?_⟩, (f1.trans (Fr.sI (P := fun L => L.1 = 2 ∨ L.1 = 3) (Or.inr rfl))).trans (Fr.sI (P := fun L => L.1 = 2 ∨ L.1 = 3) (Or.inl rfl)), ?_, ?_⟩
    · show _ = ((T.2 + (k + 1) : Nat) : Int)
      simp only [sI_1, up_at, if_true]
      rw [if_neg (by decide), e1]
      omega
    · show 0 ≤ (if T.2 ≤ j ∧ j < T.2 + (k + 1) then (v / 2 ^ (24 - 8 * (j - T.2))) % 256 else T.1 j) ∧ (if T.2 ≤ j ∧ j < T.2 + (k + 1) then (v / 2 ^ (24 - 8 * (j - T.2))) % 256 else T.1 j) ≤ 255
      split
      · omega
      · exact hT.2.2.1 j
    · have hj : j < T.2 + (k + 1) := hj
      show _ = sg (if T.2 ≤ j ∧ j < T.2 + (k + 1) then (v / 2 ^ (24 - 8 * (j - T.2))) % 256 else T.1 j)
      have eh : ∀ σ2 : SG, ∀ f : Nat → Int, (sI σ2 (2, 0, 0) f).1 (3, 0, 0) = σ2.1 (3, 0, 0) := fun σ2 f => by rw [sI_1, if_neg (by decide)]
      rw [eh, sI_1, if_pos rfl, up_at, e1, Int.toNat_natCast]
      by_cases e : j = T.2 + k
      · rw [if_pos e, if_pos (by omega), hs.1, zb_eq hs.2]
        subst e
        rw [Nat.add_sub_cancel_left]
      · rw [if_neg e]
        have := g1.2.2.2 j (by show j < T.2 + k; omega)
        have this : σ1.1 (3, 0, 0) j = sg (if T.2 ≤ j ∧ j < T.2 + k then (v / 2 ^ (24 - 8 * (j - T.2))) % 256 else T.1 j) := this
        rw [this]
        by_cases e2 : T.2 ≤ j
        · rw [if_pos (by omega), if_pos (by omega)]
        · rw [if_neg (by omega), if_neg (by omega)]
    · simp [sI_1, up_at, e5]
    · simp [sI_1, up_at, e6]
  · obtain ⟨σ1, rfl, g1, f1, e5, e6⟩ := hI
    exact b_X10_addBytesOf_3 (by omega) (fun _ => b_X10_addBytesOf_46 ⟨σ1, rfl, g1, f1, e5, e6⟩) (fun q => by omega)
def fedT (S : SS) (T : TB) : SS := (S.1, S.2.1, S.2.2.1, S.2.2.2.1, S.2.2.2.2.1, T, S.2.2.2.2.2.2)
def A_feed (S : SS) (a b c d e : Int) : RZ × SS := if (xT S).2 + 20 ≤ 600 then (.inl ((xT S).2 + 20 : Nat), fedT S (addk (addk (addk (addk (addk (xT S) a 4) b 4) c 4) d 4) e 4)) else (.inr 1, S)
theorem CS.fed {S : SS} {σ σ' : SG} {T : TB} (h : CS S σ) (hT : TX T σ') (f : Fr (fun L => L.1 = 2 ∨ L.1 = 3) σ σ') (e5 : σ'.1 (2, 0, 0) 5 = σ.1 (2, 0, 0) 5) (e6 : σ'.1 (2, 0, 0) 6 = σ.1 (2, 0, 0) 6) : CS (fedT S T) σ' := by
  obtain ⟨h1, h2, h3, h4, h5, h6, h7, h8⟩ := h
  refine ⟨h1.fr f (fun L hL q => ?_), h2.fr f (by omega) (fun L hL q => ?_), h3.fr2 f (fun L hL q => by omega), fun j hj => ?_, ?_, ⟨hT, by rw [e5]; exact h6.2.1, by rw [e6]; exact h6.2.2⟩, h7.fr f (by omega) (by omega), fun k hk => (h8 k hk).fr f (by omega)⟩
  · unfold inR at hL; omega
  · unfold inR at hL; omega
  · rw [(f.1 (27, 0, 0) (by omega)).1]; exact h4 j hj
  · rw [(f.1 (1, 0, 0) (by omega)).1]; exact h5
theorem s_X11_feed {t : KT} {σ : SG} {S : SS} {a b c d e : Int} (h : CS S σ) (ha : -2147483648 ≤ a ∧ a < 2147483648) (hb : -2147483648 ≤ b ∧ b < 2147483648) (hc : -2147483648 ≤ c ∧ c < 2147483648) (hd : -2147483648 ≤ d ∧ d < 2147483648) (he : -2147483648 ≤ e ∧ e < 2147483648) : ∃ σ', Ca 2 89 [aR (some (1, 0, 0)), aI (iZ a), aI (iZ b), aI (iZ c), aI (iZ d), aI (iZ e)] (am_hp σ) t (reI 0 0 σ' t ((A_feed S a b c d e).1)) ∧ CS (A_feed S a b c d e).2 σ' ∧ Fr (fun L => L.1 = 2 ∨ L.1 = 3) σ σ' := by
  have hT := h.2.2.2.2.2.1.1
  have e1 := hT.1
  have h6 := hT.2.1
  refine rx_of (R := fun σ' => reI 0 0 σ' t (A_feed S a b c d e).1) (e_X11_feed ?_)
  unfold A_feed
  refine b_X11_feed_0 (by omega) (fun q => ?_) (fun q => ?_)
  · have hn : (xT S).2 + 20 ≤ 600 := by omega
    obtain ⟨σ1, c1, g1, f1, p1, q1⟩ := s_X10_addBytesOf (t := t) hT ha (by omega)
    obtain ⟨σ2, c2, g2, f2, p2, q2⟩ := s_X10_addBytesOf (t := t) g1 hb (by show (xT S).2 + 4 + 4 ≤ 600; omega)
    obtain ⟨σ3, c3, g3, f3, p3, q3⟩ := s_X10_addBytesOf (t := t) g2 hc (by show (xT S).2 + 4 + 4 + 4 ≤ 600; omega)
    obtain ⟨σ4, c4, g4, f4, p4, q4⟩ := s_X10_addBytesOf (t := t) g3 hd (by show (xT S).2 + 4 + 4 + 4 + 4 ≤ 600; omega)
    obtain ⟨σ5, c5, g5, f5, p5, q5⟩ := s_X10_addBytesOf (t := t) g4 he (by show (xT S).2 + 4 + 4 + 4 + 4 + 4 ≤ 600; omega)
    have ff := (((f1.trans f2).trans f3).trans f4).trans f5
    rw [if_pos hn]
    refine b_X11_feed_24 (c1.up (by omega)) (c2.up (by omega)) (c3.up (by omega)) (c4.up (by omega)) (c5.up (by omega)) ⟨σ5, ?_, h.fed g5 ff (p5.trans (p4.trans (p3.trans (p2.trans p1)))) (q5.trans (q4.trans (q3.trans (q2.trans q1)))), ff⟩
    have e5 : σ5.1 (2, 0, 0) 1 = (((xT S).2 + 20 : Nat) : Int) := g5.1
    rw [e5]
    rfl
  · rw [if_neg (by omega)]
    exact b_X11_feed_16 ⟨σ, rfl, h, Fr.refl _ _⟩
