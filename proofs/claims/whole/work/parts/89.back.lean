/-! THE MODEL: undo, save, restore, the buffer -/
set_option maxRecDepth 4000
theorem MV.ce {v : Option RA} {σ σ' : SG} (h : MV v σ) (e : σ'.1 (40, 0, 0) 23 = σ.1 (40, 0, 0) 23) (e2 : σ'.1 (43, 0, 0) = σ.1 (43, 0, 0)) : MV v σ' := by
  unfold MV at h ⊢
  rw [e, e2]
  exact h
theorem MH.ce {l : List RA} {σ σ' : SG} (h : MH l σ) (e : σ'.1 (40, 0, 0) 17 = σ.1 (40, 0, 0) 17) (e2 : σ'.1 (45, 0, 0) = σ.1 (45, 0, 0)) : MH l σ' := by
  unfold MH at h ⊢
  rw [e, e2]
  exact h
theorem MB.ce {T : TB} {σ σ' : SG} (h : MB T σ) (e : σ'.1 (40, 0, 0) 2 = σ.1 (40, 0, 0) 2) (e2 : σ'.1 (41, 0, 0) = σ.1 (41, 0, 0)) : MB T σ' := by
  unfold MB at h ⊢
  rw [e, e2]
  exact h
theorem MP.ce {l : List Int} {σ σ' : SG} (h : MP l σ) (e : σ'.1 (40, 0, 0) 47 = σ.1 (40, 0, 0) 47) (e1 : σ'.1 (40, 0, 0) 48 = σ.1 (40, 0, 0) 48) (e2 : σ'.1 (62, 0, 0) = σ.1 (62, 0, 0)) : MP l σ' := by
  unfold MP at h ⊢
  rw [e, e1, e2]
  exact h
theorem m_undo {t : KT} {σ : SG} {S : SS} (h : MS S σ) : ∃ σ', Ca 2 207 [aR (some (40, 0, 0))] (am_hp σ) t (.inl (some (aI (iZ ((A_undo S).1)))), am_hp σ', t) ∧ σ'.1 (40, 0, 0) 0 = 0 ∧ MS (A_undo S).2 σ' ∧ Fr inMo σ σ' := by
  have hH := h.2.2.2.1
  have e17 : (cd σ 0).1 (40, 0, 0) 17 = (xP S).length := by rw [cd_at (by omega)]; exact hH.2.1
  refine ex_of (e_X12_undo ?_)
  refine wq (fun Q hQ => ?_)
  have z17 : (sI σ (40, 0, 0) (up (σ.1 (40, 0, 0)) 0 0)).1 (40, 0, 0) 17 = (xP S).length := e17
  have h6 := hH.1
  unfold A_undo at hQ
  cases hp : xP S with
  | nil =>
    rw [hp] at hQ z17
    have z17 : (sI σ (40, 0, 0) (up (σ.1 (40, 0, 0)) 0 0)).1 (40, 0, 0) 17 = 0 := z17
    exact b_X12_undo_0 (by omega) (fun q => absurd z17 q) (fun _ => b_X12_undo_12 (hQ _ ⟨cd σ 0, rfl, cd_0, h.m MF.ck, (MF.ck (σ := σ) (z := 0)).mo⟩))
  | cons B l =>
    rw [hp] at hQ z17 e17 hH h6
    rw [List.length_cons] at z17 e17 h6
    refine b_X12_undo_0 (by omega) (fun _ => ?_) (fun q => by omega)
    show Wp _ _ (14, _, _, am_hp (cd σ 0), t) _
    have y17 : (sI (cd σ 0) (40, 0, 0) (up ((cd σ 0).1 (40, 0, 0)) 17 ((cd σ 0).1 (40, 0, 0) 17 - 1))).1 (40, 0, 0) 17 = (l.length : Int) := by
      rw [sI_1, if_pos rfl, up_at, if_pos rfl, e17]
      omega
    have y40 : ∀ j, j ≠ 0 → j ≠ 17 → (sI (cd σ 0) (40, 0, 0) (up ((cd σ 0).1 (40, 0, 0)) 17 ((cd σ 0).1 (40, 0, 0) 17 - 1))).1 (40, 0, 0) j = σ.1 (40, 0, 0) j := fun j h0 h1 => by
      rw [sI_1, if_pos rfl, up_at, if_neg h1, cd_at h0]
    have y0 : (sI (cd σ 0) (40, 0, 0) (up ((cd σ 0).1 (40, 0, 0)) 17 ((cd σ 0).1 (40, 0, 0) 17 - 1))).1 (40, 0, 0) 0 = 0 := by
      rw [sI_1, if_pos rfl, up_at, if_neg (by omega), cd_0]
    have yf : Fr (fun L : Lc => L.1 = 40) σ (sI (cd σ 0) (40, 0, 0) (up ((cd σ 0).1 (40, 0, 0)) 17 ((cd σ 0).1 (40, 0, 0) 17 - 1))) := cd_fr.trans (Fr.sI (P := fun L : Lc => L.1 = 40) rfl)
    have blk := fun σ1 => b_X12_undo_14 (Q := Q) (d := 1) (σ := cd σ 0) (σ1 := σ1) (t := t)
    generalize (sI (cd σ 0) (40, 0, 0) (up ((cd σ 0).1 (40, 0, 0)) 17 ((cd σ 0).1 (40, 0, 0) 17 - 1))) = τ at y17 y40 y0 yf blk
    obtain ⟨σ1, c1, f1, g1, -⟩ := s_copy_45_42 (t := t) (σ := τ) (a := 264 * l.length) (b := 0) (by omega) (by omega)
    have hB := hH.2.2 0 B rfl
    have ec : (264 * (τ.1 (40, 0, 0) 17)) = ((264 * l.length : Nat) : Int) := by rw [y17]; omega
    have o40 := (f1.1 (40, 0, 0) n42_40).1
    have fin40 : ∀ j, j ≠ 20 → (sI σ1 (40, 0, 0) (up (σ1.1 (40, 0, 0)) 20 (σ1.1 (40, 0, 0) 20 + 1))).1 (40, 0, 0) j = τ.1 (40, 0, 0) j := fun j hj => by rw [sI_1, if_pos rfl, up_at, if_neg hj, o40]
    have oa : ∀ a : Nat, a ≠ 40 → a ≠ 42 → (sI σ1 (40, 0, 0) (up (σ1.1 (40, 0, 0)) 20 (σ1.1 (40, 0, 0) 20 + 1))).1 (a, 0, 0) = σ.1 (a, 0, 0) := fun a h1 h2 => by
      rw [sI_1, if_neg (fun z => h1 (congrArg (fun L : Lc => L.1) z)), (f1.1 (a, 0, 0) (fun z => h2 (congrArg (fun L : Lc => L.1) z))).1, (yf.1 (a, 0, 0) h1).1]
    obtain ⟨n1, n2, n3, n4⟩ := h.2.2.2.2.1
    have F : Fr inMo σ (sI σ1 (40, 0, 0) (up (σ1.1 (40, 0, 0)) 20 (σ1.1 (40, 0, 0) 20 + 1))) := ((yf.mono (fun L (q : L.1 = 40) => by unfold inMo; omega)).trans (f1.mono (fun L (q : L = (42, 0, 0)) => by subst q; unfold inMo; omega))).trans (Fr.sI (P := inMo) (by unfold inMo; omega))
    refine blk σ1 (by rw [ec]; exact c1.up (by omega)) (hQ _ ⟨_, ?_, ?_, ?_, F⟩)
    · rw [fin40 17 (by omega), y17]
    · rw [fin40 0 (by omega), y0]
    · show MS (B, xV S, l, fup (xC S) 2 (xC S 2 + 1), S.2.2.2.2) _
      refine ⟨⟨hB.1, ?_⟩, fun w hw => by rw [oa 46 (by omega) (by omega), oa 47 (by omega) (by omega)]; exact h.2.1 w hw, ?_, ⟨by show l.length ≤ 6; omega, by rw [fin40 17 (by omega), y17], fun j A hj => ?_⟩, ⟨?_, ?_, ?_, ?_⟩, ?_, ?_, ⟨?_, ?_⟩, ?_⟩
      · rw [show (sI σ1 (40, 0, 0) (up (σ1.1 (40, 0, 0)) 20 (σ1.1 (40, 0, 0) 20 + 1))).1 (42, 0, 0) = σ1.1 (42, 0, 0) by simp [sI_1]]
        refine hB.2.copy hB.1.1 (fun r hr => hB.1.l hr) (fun k hk => ?_)
        rw [g1 k hk, (yf.1 (45, 0, 0) (by decide)).1]
        rfl
      · exact h.2.2.1.ce (by rw [fin40 23 (by omega), y40 23 (by omega) (by omega)]) (oa 43 (by omega) (by omega))
      · have hA := hH.2.2 (j + 1) A hj
        rw [List.length_cons, show l.length + 1 - 1 - (j + 1) = l.length - 1 - j by omega] at hA
        rw [oa 45 (by omega) (by omega)]
        exact hA
      · rw [fin40 18 (by omega), y40 18 (by omega) (by omega), n1]; rfl
      · rw [fin40 19 (by omega), y40 19 (by omega) (by omega), n2]; rfl
      · rw [sI_1, if_pos rfl, up_at, if_pos rfl, o40, y40 20 (by omega) (by omega), n3]; rfl
      · rw [fin40 22 (by omega), y40 22 (by omega) (by omega), n4]; rfl
      · rw [fin40 21 (by omega), y40 21 (by omega) (by omega)]; exact h.2.2.2.2.2.1
      · exact h.2.2.2.2.2.2.1.ce (by rw [fin40 2 (by omega), y40 2 (by omega) (by omega)]) (oa 41 (by omega) (by omega))
      · rw [fin40 10 (by omega), y40 10 (by omega) (by omega)]; exact h.2.2.2.2.2.2.2.1.1
      · rw [fin40 11 (by omega), y40 11 (by omega) (by omega)]; exact h.2.2.2.2.2.2.2.1.2
      · exact h.2.2.2.2.2.2.2.2.ce (by rw [fin40 47 (by omega), y40 47 (by omega) (by omega)]) (by rw [fin40 48 (by omega), y40 48 (by omega) (by omega)]) (oa 62 (by omega) (by omega))
theorem m_save {t : KT} {σ : SG} {S : SS} (h : MS S σ) : ∃ σ', Ca 4 210 [aR (some (40, 0, 0))] (am_hp σ) t (.inl (some (aI (iZ ((A_save S).1)))), am_hp σ', t) ∧ σ'.1 (40, 0, 0) 0 = 0 ∧ MS (A_save S).2 σ' ∧ Fr inMo σ σ' := by
  have hA := h.1
  obtain ⟨σ1, c1, f1, g1, -⟩ := s_copy_42_43 (t := t) (σ := cd σ 0) (a := 0) (b := 0) (by omega) (by omega)
  have n40 : ¬ ((40, 0, 0) : Lc) = (43, 0, 0) := fun z => absurd (congrArg (fun L : Lc => L.1) z) (by decide)
  have o40 := (f1.1 (40, 0, 0) n40).1
  have e40 : ∀ j, j ≠ 0 → j ≠ 23 → (sI σ1 (40, 0, 0) (up (σ1.1 (40, 0, 0)) 23 1)).1 (40, 0, 0) j = σ.1 (40, 0, 0) j := fun j h0 h1 => by rw [sI_1, if_pos rfl, up_at, if_neg h1, o40, cd_at h0]
  have oa : ∀ a : Nat, a ≠ 40 → a ≠ 43 → (sI σ1 (40, 0, 0) (up (σ1.1 (40, 0, 0)) 23 1)).1 (a, 0, 0) = σ.1 (a, 0, 0) := fun a h1 h2 => by
    rw [sI_1, if_neg (fun z => h1 (congrArg (fun L : Lc => L.1) z)), (f1.1 (a, 0, 0) (fun z => h2 (congrArg (fun L : Lc => L.1) z))).1, (cd_fr.1 (a, 0, 0) h1).1]
  have A2 : MA (xA S) (sI σ1 (40, 0, 0) (up (σ1.1 (40, 0, 0)) 23 1)) := ⟨hA.1, by rw [oa 42 (by omega) (by omega)]; exact hA.2⟩
  have F : Fr inMo σ (sI σ1 (40, 0, 0) (up (σ1.1 (40, 0, 0)) 23 1)) := (((cd_fr (σ := σ) (z := 0)).mono (fun L (q : L.1 = 40) => by unfold inMo; omega)).trans (f1.mono (fun L (q : L = (43, 0, 0)) => by subst q; unfold inMo; omega))).trans (Fr.sI (P := inMo) (by unfold inMo; omega))
  obtain ⟨n1, n2, n3, n4⟩ := h.2.2.2.2.1
  refine ex_of (e_X12_save ?_)
  refine b_X12_save_0 (c1.up (by omega)) ((s_X12_numbersAll A2).up (by omega)) ⟨_, rfl, ?_, ?_, F⟩
  · rw [sI_1, if_pos rfl, up_at, if_neg (by omega), o40, cd_0]
  · refine ⟨A2, fun w hw => by rw [oa 46 (by omega) (by omega), oa 47 (by omega) (by omega)]; exact h.2.1 w hw, ⟨?_, hA.1, ?_⟩, h.2.2.2.1.ce (e40 17 (by omega) (by omega)) (oa 45 (by omega) (by omega)), ⟨?_, ?_, ?_, ?_⟩, ?_, h.2.2.2.2.2.2.1.ce (e40 2 (by omega) (by omega)) (oa 41 (by omega) (by omega)), ⟨?_, ?_⟩, h.2.2.2.2.2.2.2.2.ce (e40 47 (by omega) (by omega)) (e40 48 (by omega) (by omega)) (oa 62 (by omega) (by omega))⟩
    · rw [sI_1, if_pos rfl, up_at, if_pos rfl]
    · rw [show (sI σ1 (40, 0, 0) (up (σ1.1 (40, 0, 0)) 23 1)).1 (43, 0, 0) = σ1.1 (43, 0, 0) by simp [sI_1]]
      exact (hA.m (MF.ck (σ := σ) (z := 0))).cp g1
    · rw [e40 18 (by omega) (by omega)]; exact n1
    · rw [e40 19 (by omega) (by omega)]; exact n2
    · rw [e40 20 (by omega) (by omega)]; exact n3
    · rw [e40 22 (by omega) (by omega)]; exact n4
    · rw [e40 21 (by omega) (by omega)]; exact h.2.2.2.2.2.1
    · rw [e40 10 (by omega) (by omega)]; exact h.2.2.2.2.2.2.2.1.1
    · rw [e40 11 (by omega) (by omega)]; exact h.2.2.2.2.2.2.2.1.2
theorem m_restore {t : KT} {σ : SG} {S : SS} (h : MS S σ) : ∃ σ', Ca 4 211 [aR (some (40, 0, 0))] (am_hp σ) t (.inl (some (aI (iZ (moI (A_restore S).1)))), am_hp σ', t) ∧ σ'.1 (40, 0, 0) 0 = moC (A_restore S).1 ∧ MS (A_restore S).2 σ' ∧ Fr inMo σ σ' := by
  have hV := h.2.2.1
  refine ex_of (e_X12_restore ?_)
  unfold A_restore
  unfold MV at hV
  cases hv : xV S with
  | none =>
    rw [hv] at hV
    have hV : σ.1 (40, 0, 0) 23 = 0 := hV
    have c := goes_f (t := t) (σ := σ) (P := False) (fun z => z)
    rw [bz_f (p := False) (fun z => z)] at c
    exact b_X12_restore_0 (by rw [hV]; exact c.up (by omega)) (by omega) (fun q => absurd rfl q) (fun _ => b_X12_restore_11 ⟨_, rfl, cd_0, h.m MF.ck, (MF.ck (σ := σ) (z := 1)).mo⟩)
  | some B =>
    rw [hv] at hV
    obtain ⟨hV1, hB, hM⟩ := hV
    have c := goes_t (t := t) (σ := σ) (P := True) trivial
    rw [bz_t (p := True) trivial] at c
    obtain ⟨σ1, c1, f1, g1, -⟩ := s_copy_43_42 (t := t) (σ := cd σ 0) (a := 0) (b := 0) (by omega) (by omega)
    have o40 := (f1.1 (40, 0, 0) n42_40).1
    have e40 : ∀ j, j ≠ 0 → j ≠ 17 → (sI σ1 (40, 0, 0) (up (σ1.1 (40, 0, 0)) 17 0)).1 (40, 0, 0) j = σ.1 (40, 0, 0) j := fun j h0 h1 => by rw [sI_1, if_pos rfl, up_at, if_neg h1, o40, cd_at h0]
    have oa : ∀ a : Nat, a ≠ 40 → a ≠ 42 → (sI σ1 (40, 0, 0) (up (σ1.1 (40, 0, 0)) 17 0)).1 (a, 0, 0) = σ.1 (a, 0, 0) := fun a h1 h2 => by
      rw [sI_1, if_neg (fun z => h1 (congrArg (fun L : Lc => L.1) z)), (f1.1 (a, 0, 0) (fun z => h2 (congrArg (fun L : Lc => L.1) z))).1, (cd_fr.1 (a, 0, 0) h1).1]
    have A2 : MA B (sI σ1 (40, 0, 0) (up (σ1.1 (40, 0, 0)) 17 0)) := ⟨hB, by
      rw [show (sI σ1 (40, 0, 0) (up (σ1.1 (40, 0, 0)) 17 0)).1 (42, 0, 0) = σ1.1 (42, 0, 0) by simp [sI_1]]
      refine hM.copy hB.1 (fun r hr => hB.l hr) (fun k hk => ?_)
      rw [g1 k hk, (cd_fr.1 (43, 0, 0) (by decide)).1]⟩
    have F : Fr inMo σ (sI σ1 (40, 0, 0) (up (σ1.1 (40, 0, 0)) 17 0)) := (((cd_fr (σ := σ) (z := 0)).mono (fun L (q : L.1 = 40) => by unfold inMo; omega)).trans (f1.mono (fun L (q : L = (42, 0, 0)) => by subst q; unfold inMo; omega))).trans (Fr.sI (P := inMo) (by unfold inMo; omega))
    obtain ⟨n1, n2, n3, n4⟩ := h.2.2.2.2.1
    refine b_X12_restore_0 (by rw [hV1]; exact c.up (by omega)) (by omega) (fun _ => b_X12_restore_13 (c1.up (by omega)) ((s_X12_numbersAll A2).up (by omega)) ⟨_, rfl, ?_, ?_, F⟩) (fun q => by omega)
    · rw [sI_1, if_pos rfl, up_at, if_neg (by omega), o40, cd_0]
      rfl
    · show MS (B, some B, [], S.2.2.2) _
      refine ⟨A2, fun w hw => by rw [oa 46 (by omega) (by omega), oa 47 (by omega) (by omega)]; exact h.2.1 w hw, MV.ce (v := some B) (by rw [← hv]; exact h.2.2.1) (e40 23 (by omega) (by omega)) (oa 43 (by omega) (by omega)), ⟨by show 0 ≤ 6; omega, ?_, fun j A hj => by cases hj⟩, ⟨?_, ?_, ?_, ?_⟩, ?_, h.2.2.2.2.2.2.1.ce (e40 2 (by omega) (by omega)) (oa 41 (by omega) (by omega)), ⟨?_, ?_⟩, h.2.2.2.2.2.2.2.2.ce (e40 47 (by omega) (by omega)) (e40 48 (by omega) (by omega)) (oa 62 (by omega) (by omega))⟩
      · rw [sI_1, if_pos rfl, up_at, if_pos rfl]
        rfl
      · rw [e40 18 (by omega) (by omega)]; exact n1
      · rw [e40 19 (by omega) (by omega)]; exact n2
      · rw [e40 20 (by omega) (by omega)]; exact n3
      · rw [e40 22 (by omega) (by omega)]; exact n4
      · rw [e40 21 (by omega) (by omega)]; exact h.2.2.2.2.2.1
      · rw [e40 10 (by omega) (by omega)]; exact h.2.2.2.2.2.2.2.1.1
      · rw [e40 11 (by omega) (by omega)]; exact h.2.2.2.2.2.2.2.1.2
