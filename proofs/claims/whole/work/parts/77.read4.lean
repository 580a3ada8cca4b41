/-! THE MODEL: the gap, rules, what ifs -/
set_option maxRecDepth 4000
theorem s_X12_unpacked {t : KT} {σ : SG} {ch : Nat → Nat} {f : Nat → Int} {n k j : Nat} (h : WD ch f n σ) (hk : k < nW ch n) (hj : j < hB ch n k) : Ca 3 272 [aR (some (40, 0, 0)), aI (iZ ((k : Int))), aI (iZ ((j : Int)))] (am_hp σ) t (.inl (some (aI (iZ (f (stU ch k + j))))), am_hp σ, t) := by
  have hn := h.n
  have hs := h.st hk
  have hb := hB_bd hk
  have hst := sT_in hk
  have hc := h.2.2.2 _ hs.2.2.2.1
  refine ca_of (e_X12_unpacked ?_)
  refine b_X12_unpacked_0 (by omega) ((s_X12_wordAsInt h hk).up (by omega)) (by rw [Int.toNat_natCast, hs.2.2.1]; omega) ?_
  rw [Int.toNat_natCast, hs.2.2.1, Int.toNat_natCast, hc.2, wrd_num (h.2.2.1 _ hst.2).1 (h.2.2.1 _ hst.2).2 (show j < cnt ((ch (stU ch k))) by omega) (by omega)]
theorem s_X12_oddIn {t : KT} {σ : SG} {A : RA} {r : Nat} (hA : MA A σ) (hC : MC σ) (hr : r < rN A) : ∃ σ', Ca 7 273 [aR (some (40, 0, 0)), aI (iZ ((r : Int)))] (am_hp σ) t (.inl (some (aI (iZ 0))), am_hp σ', t) ∧ QF σ σ' := by
  obtain ⟨σ2, c2, w2, -, q2⟩ := s_X12_packsRow (t := t) hA hC hr
  have A2 := hA.q q2
  have w2n := w2.n
  refine ex_of (e_X12_oddIn ?_)
  refine b_X12_oddIn_0 (c2.up (by omega)) ?_
  refine w_loopS ((nW (chA A r) (rLn A r))) (fun k c => ∃ u : Option AV, c = (11, [some (aR (some (40, 0, 0))), some (aI (iZ ((r : Int)))), some (aI (iZ (((nW (chA A r) (rLn A r)) : Int)))), some (aI (iZ 0)), some (aI (iZ ((k : Int)))), u], [], am_hp σ2, t)) ⟨none, rfl⟩ (fun k c hk hI go => ?_) (fun c hI => ?_)
  · obtain ⟨u, rfl⟩ := hI
    have hs := w2.st hk
    refine b_X12_oddIn_11 (by omega) (by omega) (fun q => by omega) (fun _ => b_X12_oddIn_17 ?_)
    refine w_loopU ((hB (chA A r) (rLn A r) k)) (fun j => (20, [some (aR (some (40, 0, 0))), some (aI (iZ ((r : Int)))), some (aI (iZ (((nW (chA A r) (rLn A r)) : Int)))), some (aI (iZ 0)), some (aI (iZ ((k : Int)))), some (aI (iZ ((j : Int))))], [], am_hp σ2, t)) rfl (fun j hj w => ?_) ?_
    · have hv := A2.num hr (j := (stU (chA A r) k) + j) (by omega)
      have cv := s_X12_valueAt (t := t) A2 hr (j := (stU (chA A r) k) + j) (by omega)
      refine b_X12_oddIn_20 ((s_X12_heldBy w2 hk).up (by omega)) (by omega) (by omega) (fun q => by omega) (fun _ => ?_)
      have c := s_X12_truth (t := t) (σ := σ2) (P := False)
      rw [bz_f (p := False) (fun z => z)] at c
      refine b_X12_oddIn_31 ((s_X12_unpacked w2 hk hj).up (by omega)) (by omega) (by rw [Int.toNat_natCast, hs.1, ← Int.natCast_add]; exact cv.up (by omega)) (by omega) (by omega) (fun _ => b_X12_oddIn_62 (b_X12_oddIn_63 (c.up (by omega)) ?_)) (fun q => absurd rfl q)
      rw [Int.add_zero]
      exact w
    · exact b_X12_oddIn_20 ((s_X12_heldBy w2 hk).up (by omega)) (by omega) (by omega) (fun _ => b_X12_oddIn_74 (go _ ⟨_, rfl⟩)) (fun q => by omega)
  · obtain ⟨u, rfl⟩ := hI
    exact b_X12_oddIn_11 (by omega) (by omega) (fun _ => b_X12_oddIn_80 ⟨σ2, rfl, q2⟩) (fun q => by omega)
theorem m_gap {t : KT} {σ : SG} {A : RA} (hA : MA A σ) (hC : MC σ) : ∃ σ', Ca 8 274 [aR (some (40, 0, 0))] (am_hp σ) t (.inl (some (aI (iZ 0))), am_hp σ', t) ∧ σ'.1 (40, 0, 0) 0 = 0 ∧ MF σ σ' := by
  have e0 := hA.n
  have A0 := hA.m (MF.ck (σ := σ) (z := 0))
  have C0 := hC.m (MF.ck (σ := σ) (z := 0))
  refine ex_of (e_X12_gap ?_)
  refine b_X12_gap_0 ?_
  refine w_loopS (rN A) (fun r c => ∃ σ1, c = (9, [some (aR (some (40, 0, 0))), some (aI (iZ 0)), some (aI (iZ ((r : Int))))], [], am_hp σ1, t) ∧ QF (cd σ 0) σ1) ⟨_, rfl, QF.refl _⟩ (fun r c hr hI go => ?_) (fun c hI => ?_)
  · obtain ⟨σ1, rfl, q1⟩ := hI
    have A1 := A0.q q1
    have e1 := A1.n
    obtain ⟨σ2, c2, q2⟩ := s_X12_oddIn (t := t) A1 (C0.q q1) hr
    exact b_X12_gap_9 (by omega) (by omega) (fun q => by omega) (fun _ => b_X12_gap_19 (c2.up (by omega)) (go _ ⟨σ2, rfl, q1.trans q2⟩))
  · obtain ⟨σ1, rfl, q1⟩ := hI
    have e1 := (A0.q q1).n
    exact b_X12_gap_9 (by omega) (by omega) (fun _ => b_X12_gap_33 ⟨σ1, rfl, okM q1⟩) (fun q => by omega)
theorem m_greatest {t : KT} {σ : SG} {A : RA} {r : Int} (hA : MA A σ) (hr : -2147483648 ≤ r ∧ r < 2147483648) : ∃ σ', Ca 3 286 [aR (some (40, 0, 0)), aI (iZ r)] (am_hp σ) t (.inl (some (aI (iZ (moI (A_greatest A r))))), am_hp σ', t) ∧ σ'.1 (40, 0, 0) 0 = moC (A_greatest A r) ∧ MF σ σ' := by
  have cr := s_X12_isRow (t := t) hA hr
  refine ex_of (e_X12_greatest ?_)
  unfold A_greatest
  by_cases hR : isR A r
  · rw [if_pos hR]
    have hn := isR_n hR
    have A1 := hA.m (MF.ck (σ := σ) (z := 0))
    have hl := A1.len hn.1
    have cm := s_X12_manyIn (t := t) A1 hn.1
    rw [hn.2] at cm
    refine b_X12_greatest_0 (cr.up (by omega)) ((goes_t hR).up (by omega)) (by omega) (fun _ => b_X12_greatest_14 ?_) (fun q => by omega)
    have hb : ∀ k, k ≤ rLn A r.toNat → -1 ≤ mxU (rNu A r.toNat) k ∧ mxU (rNu A r.toNat) k < 268435456 := by
      intro k
      induction k with
      | zero => intro _; exact ⟨Int.le_refl _, by show (-1 : Int) < _; omega⟩
      | succ k ih =>
        intro hk
        have := ih (by omega)
        have hv := (A1.num hn.1 (j := k) (by omega)).2
        show -1 ≤ max (mxU (rNu A r.toNat) k) (rNu A r.toNat k) ∧ max (mxU (rNu A r.toNat) k) (rNu A r.toNat k) < 268435456
        omega
    refine w_loopU (rLn A r.toNat) (fun k => (18, [some (aR (some (40, 0, 0))), some (aI (iZ r)), some (aI (iZ (mxU (rNu A r.toNat) k))), some (aI (iZ ((k : Int))))], [], am_hp (cd σ 0), t)) rfl (fun k hk w => ?_) ?_
    · have cv := s_X12_valueAt (t := t) A1 hn.1 hk
      rw [hn.2] at cv
      have hv := (A1.num hn.1 hk).2
      have hbk := hb k (by omega)
      have w : Wp k_X12_greatest 2 (18, [some (aR (some (40, 0, 0))), some (aI (iZ r)), some (aI (iZ (max (mxU (rNu A r.toNat) k) (rNu A r.toNat k)))), some (aI (iZ (((k + 1 : Nat) : Int))))], [], am_hp (cd σ 0), t) _ := w
      refine b_X12_greatest_18 (cm.up (by omega)) (by omega) (by omega) (fun q => by omega) (fun _ => ?_)
      refine b_X12_greatest_27 (cv.up (by omega)) (by omega) (by omega) (fun q => ?_) (fun q => ?_)
      · rw [show max (mxU (rNu A r.toNat) k) (rNu A r.toNat k) = mxU (rNu A r.toNat) k by omega] at w
        exact b_X12_greatest_46 (b_X12_greatest_47 w)
      · rw [show max (mxU (rNu A r.toNat) k) (rNu A r.toNat k) = rNu A r.toNat k by omega] at w
        exact b_X12_greatest_37 (cv.up (by omega)) (b_X12_greatest_47 w)
    · exact b_X12_greatest_18 (cm.up (by omega)) (by omega) (by omega) (fun _ => b_X12_greatest_54 ⟨_, rfl, noM 0⟩) (fun q => by omega)
  · rw [if_neg hR]
    exact b_X12_greatest_0 (cr.up (by omega)) ((goes_f hR).up (by omega)) (by omega) (fun q => absurd rfl q) (fun _ => b_X12_greatest_12 ⟨_, rfl, noM 1⟩)
theorem m_wordsBy {t : KT} {σ : SG} {A : RA} {r u : Int} (hA : MA A σ) (hC : MC σ) (hr : -2147483648 ≤ r ∧ r < 2147483648) (hu : -2147483648 ≤ u ∧ u < 2147483648) : ∃ σ', Ca 7 292 [aR (some (40, 0, 0)), aI (iZ r), aI (iZ u)] (am_hp σ) t (.inl (some (aI (iZ (moI (A_wordsBy A r u))))), am_hp σ', t) ∧ σ'.1 (40, 0, 0) 0 = moC (A_wordsBy A r u) ∧ MF σ σ' := by
  have cr := s_X12_isRow (t := t) hA hr
  have cu := s_X12_isRule (t := t) (σ := σ) hu
  refine ex_of (e_X12_wordsBy ?_)
  unfold A_wordsBy
  by_cases hR : isR A r
  · rw [if_pos hR]
    have hn := isR_n hR
    by_cases hU : 0 ≤ u ∧ u ≤ 2
    · rw [if_pos hU]
      obtain ⟨σ2, c2, w2, p2, q2⟩ := s_X12_packsBy (t := t) (u := u.toNat) (hA.m (MF.ck (σ := σ) (z := 0))) (hC.m (MF.ck (σ := σ) (z := 0))) hn.1 (by omega)
      rw [hn.2, show ((u.toNat : Nat) : Int) = u by omega] at c2
      exact b_X12_wordsBy_0 (cr.up (by omega)) (cu.up (by omega)) ((gB_t hR hU).up (by omega)) (by omega) (fun q => by omega) (fun _ => b_X12_wordsBy_16 (c2.up (by omega)) (b_X12_wordsBy_26 ⟨σ2, rfl, okM q2⟩))
    · rw [if_neg hU]
      exact b_X12_wordsBy_0 (cr.up (by omega)) (cu.up (by omega)) ((gB_2 hR hU).up (by omega)) (by omega) (fun _ => b_X12_wordsBy_25 (b_X12_wordsBy_26 ⟨_, rfl, noM 2⟩)) (fun q => absurd rfl q)
  · rw [if_neg hR]
    exact b_X12_wordsBy_0 (cr.up (by omega)) (cu.up (by omega)) ((gB_1 hR).up (by omega)) (by omega) (fun _ => b_X12_wordsBy_25 (b_X12_wordsBy_26 ⟨_, rfl, noM 1⟩)) (fun q => absurd rfl q)
theorem m_priceBy {t : KT} {σ : SG} {A : RA} {r u : Int} (hA : MA A σ) (hC : MC σ) (hr : -2147483648 ≤ r ∧ r < 2147483648) (hu : -2147483648 ≤ u ∧ u < 2147483648) : ∃ σ', Ca 7 293 [aR (some (40, 0, 0)), aI (iZ r), aI (iZ u)] (am_hp σ) t (.inl (some (aI (iZ (moI (A_priceBy A r u))))), am_hp σ', t) ∧ σ'.1 (40, 0, 0) 0 = moC (A_priceBy A r u) ∧ MF σ σ' := by
  have cr := s_X12_isRow (t := t) hA hr
  have cu := s_X12_isRule (t := t) (σ := σ) hu
  refine ex_of (e_X12_priceBy ?_)
  unfold A_priceBy
  by_cases hR : isR A r
  · rw [if_pos hR]
    have hn := isR_n hR
    by_cases hU : 0 ≤ u ∧ u ≤ 2
    · rw [if_pos hU]
      obtain ⟨σ2, c2, w2, p2, q2⟩ := s_X12_packsBy (t := t) (u := u.toNat) (hA.m (MF.ck (σ := σ) (z := 0))) (hC.m (MF.ck (σ := σ) (z := 0))) hn.1 (by omega)
      rw [hn.2, show ((u.toNat : Nat) : Int) = u by omega] at c2
      have w2n := w2.n
      have cp := s_X12_priceNow (t := t) w2 p2
      refine b_X12_priceBy_0 (cr.up (by omega)) (cu.up (by omega)) ((gB_t hR hU).up (by omega)) (by omega) (fun _ => ?_) (fun q => by omega)
      refine b_X12_priceBy_18 (c2.up (by omega)) (by omega) (fun _ => b_X12_priceBy_33 (cp.up (by omega)) (b_X12_priceBy_37 ⟨σ2, rfl, okM q2⟩)) (fun q => b_X12_priceBy_29 (b_X12_priceBy_37 ⟨σ2, ?_, okM q2⟩))
      have e : nW (wayF u.toNat (rPr A) (rNu A r.toNat) (rLn A r.toNat)) (rLn A r.toNat) = 0 := by omega
      rw [e]
      rfl
    · rw [if_neg hU]
      exact b_X12_priceBy_0 (cr.up (by omega)) (cu.up (by omega)) ((gB_2 hR hU).up (by omega)) (by omega) (fun q => absurd rfl q) (fun _ => b_X12_priceBy_16 ⟨_, rfl, noM 2⟩)
  · rw [if_neg hR]
    exact b_X12_priceBy_0 (cr.up (by omega)) (cu.up (by omega)) ((gB_1 hR).up (by omega)) (by omega) (fun q => absurd rfl q) (fun _ => b_X12_priceBy_16 ⟨_, rfl, noM 1⟩)
theorem m_wordsIf {t : KT} {σ : SG} {A : RA} {r i v : Int} (hA : MA A σ) (hC : MC σ) (hr : -2147483648 ≤ r ∧ r < 2147483648) (hi : -2147483648 ≤ i ∧ i < 2147483648) (hv : -2147483648 ≤ v ∧ v < 2147483648) : ∃ σ', Ca 6 294 [aR (some (40, 0, 0)), aI (iZ r), aI (iZ i), aI (iZ v)] (am_hp σ) t (.inl (some (aI (iZ (moI (A_wordsIf A r i v))))), am_hp σ', t) ∧ σ'.1 (40, 0, 0) 0 = moC (A_wordsIf A r i v) ∧ MF σ σ' := by
  have cr := s_X12_isNumber (t := t) hA hr hi
  have cv := s_X12_isValue (t := t) (σ := σ) hv
  refine ex_of (e_X12_wordsIf ?_)
  unfold A_wordsIf
  by_cases hN : isN A r i
  · rw [if_pos hN]
    have hn := isR_n hN.1
    by_cases hV : 0 ≤ v ∧ v ≤ 268435455
    · rw [if_pos hV]
      obtain ⟨σ1, c1, v1, p1, q1⟩ := s_X12_lays (t := t) (hA.m (MF.ck (σ := σ) (z := 0))) hn.1
      rw [hn.2] at c1
      have hi2 : i.toNat < rLn A r.toNat := by have := hN.2; omega
      have v10 := v1.2.1
      have q2 : QF (cd σ 0) (sI (sI σ1 (48, 0, 0) (up (σ1.1 (48, 0, 0)) i.toNat v)) (49, 0, 0) (up ((sI σ1 (48, 0, 0) (up (σ1.1 (48, 0, 0)) i.toNat v)).1 (49, 0, 0)) i.toNat (bts v : Int))) := q1.trans ((QF.arr (by omega)).trans (QF.arr (by omega)))
      have v2 : VL (fup (rNu A r.toNat) i.toNat v) (rLn A r.toNat) (sI (sI σ1 (48, 0, 0) (up (σ1.1 (48, 0, 0)) i.toNat v)) (49, 0, 0) (up ((sI σ1 (48, 0, 0) (up (σ1.1 (48, 0, 0)) i.toNat v)).1 (49, 0, 0)) i.toNat (bts v : Int))) := by
        refine ⟨by simp [sI_1, v1.1], v10, fun j hj => ?_⟩
        have h3 := v1.2.2 j hj
        unfold fup
        by_cases e : j = i.toNat
        · subst e
          refine ⟨by simp [sI_1, up_at], by simp [sI_1, up_at], ?_⟩
          rw [if_pos rfl]
          omega
        · rw [if_neg e]
          exact ⟨by simp [sI_1, up_at, e, h3.1], by simp [sI_1, up_at, e, h3.2.1], h3.2.2⟩
      have p2 : VP (rPr A) (sI (sI σ1 (48, 0, 0) (up (σ1.1 (48, 0, 0)) i.toNat v)) (49, 0, 0) (up ((sI σ1 (48, 0, 0) (up (σ1.1 (48, 0, 0)) i.toNat v)).1 (49, 0, 0)) i.toNat (bts v : Int))) := p1.fr (by simp [sI_1])
      have A2 := (hA.m (MF.ck (σ := σ) (z := 0))).q q2
      have e1 : (sI (sI σ1 (48, 0, 0) (up (σ1.1 (48, 0, 0)) i.toNat v)) (49, 0, 0) (up ((sI σ1 (48, 0, 0) (up (σ1.1 (48, 0, 0)) i.toNat v)).1 (49, 0, 0)) i.toNat (bts v : Int))).1 (42, 0, 0) 1 = rRu A := A2.2.2.1
      obtain ⟨σ3, c3, k1, k2, k3, k4⟩ := s_X12_packs (t := t) ((hC.m (MF.ck (σ := σ) (z := 0))).q q2) v2 p2 hA.1.2.1
      refine b_X12_wordsIf_0 (cr.up (by omega)) (cv.up (by omega)) ((gB_t hN hV).up (by omega)) (by omega) (fun _ => ?_) (fun q => by omega)
      exact b_X12_wordsIf_19 (c1.up (by omega)) (by have := hN.2; omega) ((s_X12_bitsOf (by omega)).up (by omega)) (by rw [e1]; exact c3.up (by omega)) ⟨σ3, rfl, okM (q2.trans k4)⟩
    · rw [if_neg hV]
      exact b_X12_wordsIf_0 (cr.up (by omega)) (cv.up (by omega)) ((gB_2 hN hV).up (by omega)) (by omega) (fun q => absurd rfl q) (fun _ => b_X12_wordsIf_17 ⟨_, rfl, noM 2⟩)
  · rw [if_neg hN]
    exact b_X12_wordsIf_0 (cr.up (by omega)) (cv.up (by omega)) ((gB_1 hN).up (by omega)) (by omega) (fun q => absurd rfl q) (fun _ => b_X12_wordsIf_17 ⟨_, rfl, noM 1⟩)
theorem m_wordsTogether {t : KT} {σ : SG} {A : RA} {r s : Int} (hA : MA A σ) (hC : MC σ) (hr : -2147483648 ≤ r ∧ r < 2147483648) (hs : -2147483648 ≤ s ∧ s < 2147483648) : ∃ σ', Ca 6 299 [aR (some (40, 0, 0)), aI (iZ r), aI (iZ s)] (am_hp σ) t (.inl (some (aI (iZ (moI (A_wordsTogether A r s))))), am_hp σ', t) ∧ σ'.1 (40, 0, 0) 0 = moC (A_wordsTogether A r s) ∧ MF σ σ' := by
  have cr := s_X12_isRow (t := t) hA hr
  have cs := s_X12_isRow (t := t) hA hs
  refine ex_of (e_X12_wordsTogether ?_)
  unfold A_wordsTogether
  have no : Wp k_X12_wordsTogether 5 (21, [some (aR (some (40, 0, 0))), some (aI (iZ r)), some (aI (iZ s))], [aR (some (40, 0, 0))], am_hp σ, t) (fun r' => ∃ σ', r' = (.inl (some (aI (iZ 0))), am_hp σ', t) ∧ σ'.1 (40, 0, 0) 0 = 1 ∧ MF σ σ') := by
    have c := goes_f (t := t) (σ := σ) (P := False) (fun z => z)
    rw [bz_f (p := False) (fun z => z)] at c
    exact b_X12_wordsTogether_21 (b_X12_wordsTogether_22 (c.up (by omega)) (by omega) (fun q => absurd rfl q) (fun _ => b_X12_wordsTogether_28 ⟨_, rfl, noM 1⟩))
  by_cases hR : isR A r
  · by_cases hS : isR A s
    · rw [if_pos ⟨hR, hS⟩]
      have hn := isR_n hR
      have hm := isR_n hS
      have A1 := hA.m (MF.ck (σ := σ) (z := 0))
      have C1 := hC.m (MF.ck (σ := σ) (z := 0))
      obtain ⟨σ1, c1, v1, p1, q1⟩ := s_X12_lays (t := t) A1 hn.1
      have hl := (A1.len hn.1).2
      obtain ⟨σ2, c2, v2, q2, e2⟩ := s_X12_laysMore (t := t) (A1.q q1) hm.1 v1 hl
      have q12 := q1.trans q2
      obtain ⟨σ3, c3, k1, k2, k3, k4⟩ := s_X12_packs (t := t) (C1.q q12) v2 (p1.fr e2) hA.1.2.1
      have e1 : σ2.1 (42, 0, 0) 1 = rRu A := (A1.q q12).2.2.1
      rw [hn.2] at c1
      rw [hm.2] at c2
      have c := goes_t (t := t) (σ := σ) (P := True) trivial
      rw [bz_t (p := True) trivial] at c
      refine b_X12_wordsTogether_0 (cr.up (by omega)) bz_rg (fun q => absurd hR (bz_0.mp q)) (fun _ => ?_)
      refine b_X12_wordsTogether_9 (cs.up (by omega)) bz_rg (fun q => absurd hS (bz_0.mp q)) (fun _ => b_X12_wordsTogether_17 (b_X12_wordsTogether_22 (c.up (by omega)) (by omega) (fun _ => ?_) (fun q => by omega)))
      exact b_X12_wordsTogether_30 (c1.up (by omega)) (c2.up (by omega)) (by rw [e1]; exact c3.up (by omega)) ⟨σ3, rfl, okM (q12.trans k4)⟩
    · rw [if_neg (fun z => hS z.2)]
      refine b_X12_wordsTogether_0 (cr.up (by omega)) bz_rg (fun q => absurd hR (bz_0.mp q)) (fun _ => ?_)
      exact b_X12_wordsTogether_9 (cs.up (by omega)) bz_rg (fun _ => no) (fun q => absurd (bz_n.mp q) hS)
  · rw [if_neg (fun z => hR z.1)]
    exact b_X12_wordsTogether_0 (cr.up (by omega)) bz_rg (fun _ => no) (fun q => absurd (bz_n.mp q) hR)
