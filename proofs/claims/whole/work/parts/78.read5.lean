/-! THE MODEL: the best, the dear -/
set_option maxRecDepth 4000
theorem s_X12_laysWithout {t : KT} {σ : SG} {A : RA} {r i : Nat} (hA : MA A σ) (hr : r < rN A) (hi : i < rLn A r) : ∃ σ', Ca 5 295 [aR (some (40, 0, 0)), aI (iZ ((r : Int))), aI (iZ ((i : Int)))] (am_hp σ) t (.inl none, am_hp σ', t) ∧ VL (fun j => if j < i then rNu A r j else rNu A r (j + 1)) (rLn A r - 1) σ' ∧ VP (rPr A) σ' ∧ QF σ σ' := by
  obtain ⟨σ1, c1, v1, p1, q1⟩ := s_X12_lays (t := t) hA hr
  have hl := hA.len hr
  refine ex_of (e_X12_laysWithout ?_)
  refine b_X12_laysWithout_0 (c1.up (by omega)) ?_
  refine w_loopS (rLn A r) (fun k c => ∃ σ2, c = (12, [some (aR (some (40, 0, 0))), some (aI (iZ ((r : Int)))), some (aI (iZ ((i : Int)))), some (aI (iZ ((k : Int))))], [], am_hp σ2, t) ∧ VL (fun j => if j < i then rNu A r j else rNu A r (j + 1)) (if k ≤ i then k else k - 1) σ2 ∧ VP (rPr A) σ2 ∧ QF σ σ2) ⟨_, rfl, ?_, p1.fr (by simp [sI_1]), q1.trans (QF.obj (Or.inl rfl))⟩ (fun k c hk hI go => ?_) (fun c hI => ?_)
  · rw [if_pos (Nat.zero_le _)]
    exact ⟨by simp [sI_1, up_at], by omega, fun j hj => absurd hj (Nat.not_lt_zero j)⟩
  · obtain ⟨σ2, rfl, v2, p2, q2⟩ := hI
    have A2 := hA.q q2
    have hv := A2.num hr hk
    refine b_X12_laysWithout_12 ((s_X12_manyIn A2 hr).up (by omega)) (by omega) (by omega) (fun q => by omega) (fun _ => ?_)
    refine b_X12_laysWithout_21 (by omega) (by omega) (fun q => ?_) (fun q => ?_)
    · have e : k = i := by omega
      refine b_X12_laysWithout_36 (go _ ⟨σ2, rfl, ?_, p2, q2⟩)
      rw [if_pos (by omega)] at v2
      rw [if_neg (by omega), show k + 1 - 1 = k by omega]
      exact v2
    · have ne : k ≠ i := by omega
      have hm : (if k ≤ i then k else k - 1) < 120 := by split <;> omega
      obtain ⟨σ3, c3, v3, q3, e3⟩ := s_X12_laysNumber (t := t) v2 hm hv.2
      refine b_X12_laysWithout_26 ((s_X12_valueAt A2 hr hk).up (by omega)) (c3.up (by omega)) (b_X12_laysWithout_36 (go _ ⟨σ3, rfl, ?_, p2.fr e3, q2.trans q3⟩))
      have e1 : (if k ≤ i then k else k - 1) + 1 = (if k + 1 ≤ i then k + 1 else k + 1 - 1) := by split <;> split <;> omega
      have e2 : fup (fun j => if j < i then rNu A r j else rNu A r (j + 1)) (if k ≤ i then k else k - 1) (rNu A r k) = (fun j => if j < i then rNu A r j else rNu A r (j + 1)) := by
        funext j
        unfold fup
        by_cases e : j = (if k ≤ i then k else k - 1)
        · rw [if_pos e]
          by_cases hki : k ≤ i
          · rw [if_pos hki] at e
            subst e
            rw [if_pos (by omega)]
          · rw [if_neg hki] at e
            subst e
            rw [if_neg (by omega), show k - 1 + 1 = k by omega]
        · rw [if_neg e]
      rw [e1, e2] at v3
      exact v3
  · obtain ⟨σ2, rfl, v2, p2, q2⟩ := hI
    have A2 := hA.q q2
    rw [if_neg (by omega)] at v2
    exact b_X12_laysWithout_12 ((s_X12_manyIn A2 hr).up (by omega)) (by omega) (by omega) (fun _ => b_X12_laysWithout_42 ⟨σ2, rfl, v2, p2, q2⟩) (fun q => by omega)
theorem brU_bm {g : Nat → Nat} (hg : ∀ k, g k < 60) : ∀ k, (brU g k).2 ≤ 60 ∧ (brU g k).1 < k ∧ -1 ≤ (brU g k).1 ∧ (1 ≤ k → 0 ≤ (brU g k).1)
  | 0 => ⟨Nat.le_refl _, by show (-1 : Int) < ((0 : Nat) : Int); omega, Int.le_refl _, fun h => by omega⟩
  | k + 1 => by
    have ih := brU_bm hg k
    have hk := hg k
    unfold brU
    by_cases h : g k < (brU g k).2
    · rw [if_pos h]
      dsimp only
      omega
    · rw [if_neg h]
      refine ⟨ih.1, by omega, ih.2.2.1, fun _ => ?_⟩
      by_cases e : k = 0
      · subst e
        exact absurd (show g 0 < 60 from hk) h
      · exact ih.2.2.2 (by omega)
theorem m_bestRemove {t : KT} {σ : SG} {A : RA} {r : Int} (hA : MA A σ) (hC : MC σ) (hr : -2147483648 ≤ r ∧ r < 2147483648) : ∃ σ', Ca 6 296 [aR (some (40, 0, 0)), aI (iZ r)] (am_hp σ) t (.inl (some (aI (iZ (moI (A_bestRemove A r))))), am_hp σ', t) ∧ σ'.1 (40, 0, 0) 0 = moC (A_bestRemove A r) ∧ MF σ σ' := by
  have cr := s_X12_isRow (t := t) hA hr
  refine ex_of (e_X12_bestRemove ?_)
  unfold A_bestRemove
  by_cases hR : isR A r
  · rw [if_pos hR]
    have hn := isR_n hR
    have A1 := hA.m (MF.ck (σ := σ) (z := 0))
    have C1 := hC.m (MF.ck (σ := σ) (z := 0))
    have hl := A1.len hn.1
    have hg : ∀ k, wlN A r.toNat k < 60 ∨ rLn A r.toNat = 0 := fun k => by
      have := nW_le (wayF (rRu A) (rPr A) (fun j => if j < k then rNu A r.toNat j else rNu A r.toNat (j + 1)) (rLn A r.toNat - 1)) (rLn A r.toNat - 1)
      show nW _ _ < 60 ∨ _
      omega
    refine b_X12_bestRemove_0 (cr.up (by omega)) ((goes_t hR).up (by omega)) (by omega) (fun _ => b_X12_bestRemove_14 ?_) (fun q => by omega)
    refine w_loopS (rLn A r.toNat) (fun k c => ∃ (σ2 : SG) (ls : Int) (u : Option AV), c = (21, [some (aR (some (40, 0, 0))), some (aI (iZ r)), some (aI (iZ ((brU (wlN A r.toNat) k).1))), some (aI (iZ ls)), some (aI (iZ ((k : Int)))), u], [], am_hp σ2, t) ∧ QF (cd σ 0) σ2 ∧ (k = 0 ∨ ls = (brU (wlN A r.toNat) k).2)) ⟨_, 0, none, rfl, QF.refl _, Or.inl rfl⟩ (fun k c hk hI go => ?_) (fun c hI => ?_)
    · obtain ⟨σ2, ls, u, rfl, q2, hls⟩ := hI
      have A2 := A1.q q2
      have cm := s_X12_manyIn (t := t) A2 hn.1
      rw [hn.2] at cm
      obtain ⟨σ3, c3, v3, p3, q3⟩ := s_X12_laysWithout (t := t) (i := k) A2 hn.1 hk
      rw [hn.2] at c3
      have q23 := q2.trans q3
      have e1 : σ3.1 (42, 0, 0) 1 = rRu A := (A1.q q23).2.2.1
      obtain ⟨σ4, c4, -, -, -, q4⟩ := s_X12_packs (t := t) (C1.q q23) v3 p3 hA.1.2.1
      have hb := brU_bm (g := wlN A r.toNat) (fun k => by have := hg k; omega) k
      have hw := hg k
      have c4 : Ca 5 234 [aR (some (40, 0, 0)), aI (iZ ((rRu A : Int)))] (am_hp σ3) t (.inl (some (aI (iZ ((wlN A r.toNat k : Int))))), am_hp σ4, t) := c4
      have eb : brU (wlN A r.toNat) (k + 1) = if wlN A r.toNat k < (brU (wlN A r.toNat) k).2 then ((k : Int), wlN A r.toNat k) else brU (wlN A r.toNat) k := rfl
      generalize wlN A r.toNat k = W at hw c4 eb
      refine b_X12_bestRemove_21 (cm.up (by omega)) (by omega) (by omega) (fun q => by omega) (fun _ => ?_)
      have q24 := q23.trans q4
      have g64 : W < (brU (wlN A r.toNat) k).2 → Wp k_X12_bestRemove 5 (64, [some (aR (some (40, 0, 0))), some (aI (iZ r)), some (aI (iZ ((brU (wlN A r.toNat) k).1))), some (aI (iZ ls)), some (aI (iZ ((k : Int)))), some (aI (iZ ((W : Int))))], [], am_hp σ4, t) _ := fun hlt => b_X12_bestRemove_64 (b_X12_bestRemove_70 (go _ ⟨σ4, _, _, by rw [eb, if_pos hlt]; rfl, q24, Or.inr (by rw [eb, if_pos hlt])⟩))
      refine b_X12_bestRemove_31 (c3.up (by omega)) (by rw [e1]; exact c4.up (by omega)) (by omega) (fun q => g64 ?_) (fun q => ?_)
      · have : k = 0 := by
          apply Decidable.byContradiction
          intro z
          have := hb.2.2.2 (by omega)
          omega
        subst this
        show W < 60
        omega
      · have hk1 : k ≠ 0 := fun z => by
          subst z
          exact q rfl
        have hl2 : ls = (brU (wlN A r.toNat) k).2 := by rcases hls with z | z; exact absurd z hk1; exact z
        refine b_X12_bestRemove_55 (by omega) (by omega) (fun q2 => g64 (by omega)) (fun q2 => ?_)
        have hlt : ¬ W < (brU (wlN A r.toNat) k).2 := by omega
        exact b_X12_bestRemove_61 (b_X12_bestRemove_70 (go _ ⟨σ4, ls, _, by rw [eb, if_neg hlt]; rfl, q24, Or.inr (by rw [eb, if_neg hlt]; exact hl2)⟩))
    · obtain ⟨σ2, ls, u, rfl, q2, hls⟩ := hI
      have A2 := A1.q q2
      have cm := s_X12_manyIn (t := t) A2 hn.1
      rw [hn.2] at cm
      exact b_X12_bestRemove_21 (cm.up (by omega)) (by omega) (by omega) (fun _ => b_X12_bestRemove_76 ⟨σ2, rfl, okM q2⟩) (fun q => by omega)
  · rw [if_neg hR]
    exact b_X12_bestRemove_0 (cr.up (by omega)) ((goes_f hR).up (by omega)) (by omega) (fun q => absurd rfl q) (fun _ => b_X12_bestRemove_12 ⟨_, rfl, noM 1⟩)
theorem fndF_none {P : Nat → Prop} [DecidablePred P] : ∀ (k i : Nat), fndF P i k = -1 → ∀ j, j < k → ¬ P (i + j)
  | 0, _, _, j, hj => absurd hj (Nat.not_lt_zero j)
  | k + 1, i, h, j, hj => by
    unfold fndF at h
    by_cases hp : P i
    · rw [if_pos hp] at h
      omega
    · rw [if_neg hp] at h
      cases j with
      | zero => exact hp
      | succ j =>
        have := fndF_none (P := P) k (i + 1) h j (by omega)
        rw [show i + (j + 1) = i + 1 + j by omega]
        exact this
theorem s_X12_isDear {t : KT} {σ : SG} {A : RA} {r w : Nat} (hA : MA A σ) (hC : MC σ) (hw : w < 9) (hV : VL (rNu A r) (rLn A r) σ) (hP : VP (rPr A) σ) : ∃ σ', Ca 6 297 [aR (some (40, 0, 0)), aI (iZ ((w : Int))), aI (iZ (((nW (cheW (rNu A r) (rLn A r) (cst 2 (rPr A))) (rLn A r)) : Int)))] (am_hp σ) t (.inl (some (aI (iZ (bz (drW A r w))))), am_hp σ', t) ∧ VL (rNu A r) (rLn A r) σ' ∧ (¬ drW A r w → VP (rPr A) σ') ∧ QF σ σ' := by
  have hd := nW_le (cheW (rNu A r) (rLn A r) (cst 2 (rPr A))) (rLn A r)
  have hd2 := hV.2.1
  have hown := hA.1.2.2.2.1 w hw
  refine ex_of (e_X12_isDear ?_)
  refine b_X12_isDear_0 ?_
  have hup : fup (rPr A) w (rPr A w) = rPr A := by
    funext j
    unfold fup
    by_cases e : j = w
    · rw [if_pos e, e]
    · rw [if_neg e]
  refine w_loopS 100 (fun p c => ∃ (σ1 : SG) (z : Int), c = (2, [some (aR (some (40, 0, 0))), some (aI (iZ ((w : Int)))), some (aI (iZ (((nW (cheW (rNu A r) (rLn A r) (cst 2 (rPr A))) (rLn A r)) : Int)))), some (aI (iZ ((p : Int))))], [], am_hp σ1, t) ∧ VL (rNu A r) (rLn A r) σ1 ∧ VP (fup (rPr A) w z) σ1 ∧ QF σ σ1 ∧ ∀ j, j < p → ¬ dwN A r w j < (nW (cheW (rNu A r) (rLn A r) (cst 2 (rPr A))) (rLn A r))) ⟨σ, rPr A w, rfl, hV, by rw [hup]; exact hP, QF.refl σ, fun j hj => absurd hj (Nat.not_lt_zero j)⟩ (fun p c hp hI go => ?_) (fun c hI => ?_)
  · obtain ⟨σ1, z, rfl, v1, p1, q1, h1⟩ := hI
    have A1 := hA.q q1
    have hs : σ1.1 (42, 0, 0) (3 + (w : Int)).toNat = rPr A w := by
      have := A1.2.2.2.2.1 w hw
      rw [Nat.zero_add] at this
      rw [show (3 + (w : Int)).toNat = 3 + w by omega]
      exact this
    have q2 : QF σ (sI σ1 (50, 0, 0) (up (σ1.1 (50, 0, 0)) w (p : Int))) := q1.trans (QF.arr (by omega))
    have v2 : VL (rNu A r) (rLn A r) (sI σ1 (50, 0, 0) (up (σ1.1 (50, 0, 0)) w (p : Int))) := v1.fr (by simp [sI_1]) (by simp [sI_1]) (by simp [sI_1])
    have p2 : VP (fup (rPr A) w (p : Int)) (sI σ1 (50, 0, 0) (up (σ1.1 (50, 0, 0)) w (p : Int))) := fun v hv => by
      have := p1 v hv
      unfold fup at this ⊢
      by_cases e : v = w
      · subst e
        rw [if_pos rfl]
        exact ⟨by simp [sI_1, up_at], by omega⟩
      · rw [if_neg e] at this ⊢
        exact ⟨by simp [sI_1, up_at, e, this.1], this.2⟩
    have s2 : (sI σ1 (50, 0, 0) (up (σ1.1 (50, 0, 0)) w (p : Int))).1 (42, 0, 0) (3 + (w : Int)).toNat = rPr A w := by
      rw [← hs]; simp [sI_1]
    refine b_X12_isDear_2 (by omega) (fun q => by omega) (fun _ => ?_)
    refine b_X12_isDear_8 (by omega) (by omega) (by omega) (by rw [Int.toNat_natCast, s2]; omega) (fun q => ?_) (fun q => ?_)
    · rw [Int.toNat_natCast] at q ⊢
      rw [s2] at q
      refine b_X12_isDear_38 (go _ ⟨_, (p : Int), rfl, v2, p2, q2, fun j hj => ?_⟩)
      by_cases e : j = p
      · subst e
        show ¬ nW (cheW (rNu A r) (rLn A r) (cst 2 (fup (rPr A) w (j : Int)))) (rLn A r) < _
        rw [q, hup]
        exact Nat.lt_irrefl _
      · exact h1 j (by omega)
    · rw [Int.toNat_natCast] at q ⊢
      obtain ⟨σ3, c3, k1, k2, k3, k4⟩ := s_X12_packs (t := t) (ru := 2) (hC.q q2) v2 p2 (by omega)
      rw [wayF_2] at c3
      have hl := nW_le (cheW (rNu A r) (rLn A r) (cst 2 (fup (rPr A) w (p : Int)))) (rLn A r)
      refine b_X12_isDear_27 (c3.up (by omega)) (by omega) (by omega) (fun q3 => ?_) (fun q3 => ?_)
      · refine b_X12_isDear_38 (go _ ⟨σ3, (p : Int), rfl, k2, k3, q2.trans k4, fun j hj => ?_⟩)
        by_cases e : j = p
        · subst e
          show ¬ nW (cheW (rNu A r) (rLn A r) (cst 2 (fup (rPr A) w (j : Int)))) (rLn A r) < _
          omega
        · exact h1 j (by omega)
      · have hdr : drW A r w := by
          intro z
          have := fndF_none (P := fun p => dwN A r w p < (nW (cheW (rNu A r) (rLn A r) (cst 2 (rPr A))) (rLn A r))) 100 0 z p hp
          rw [Nat.zero_add] at this
          exact this (by show nW (cheW (rNu A r) (rLn A r) (cst 2 (fup (rPr A) w (p : Int)))) (rLn A r) < _; omega)
        rw [bz_t hdr]
        exact b_X12_isDear_36 ⟨σ3, rfl, k2, fun z => absurd hdr z, q2.trans k4⟩
  · obtain ⟨σ1, z, rfl, v1, p1, q1, h1⟩ := hI
    have A1 := hA.q q1
    have hs : σ1.1 (42, 0, 0) (3 + (w : Int)).toNat = rPr A w := by
      have := A1.2.2.2.2.1 w hw
      rw [Nat.zero_add] at this
      rw [show (3 + (w : Int)).toNat = 3 + w by omega]
      exact this
    have hnd : ¬ drW A r w := fun z => z (fndF_no (P := fun p => dwN A r w p < (nW (cheW (rNu A r) (rLn A r) (cst 2 (rPr A))) (rLn A r))) 100 0 (fun j hj => by rw [Nat.zero_add]; exact h1 j hj))
    rw [bz_f hnd]
    refine b_X12_isDear_2 (by omega) (fun _ => b_X12_isDear_44 (by omega) (by omega) ⟨_, rfl, v1.fr (by simp [sI_1]) (by simp [sI_1]) (by simp [sI_1]), fun _ v hv => ?_, q1.trans (QF.arr (by omega))⟩) (fun q => by omega)
    have := p1 v hv
    rw [hs, Int.toNat_natCast]
    unfold fup at this
    by_cases e : v = w
    · subst e
      exact ⟨by simp [sI_1, up_at], hown⟩
    · rw [if_neg e] at this
      exact ⟨by simp [sI_1, up_at, e, this.1], this.2⟩
theorem m_dearWay {t : KT} {σ : SG} {A : RA} {r : Int} (hA : MA A σ) (hC : MC σ) (hr : -2147483648 ≤ r ∧ r < 2147483648) : ∃ σ', Ca 7 298 [aR (some (40, 0, 0)), aI (iZ r)] (am_hp σ) t (.inl (some (aI (iZ (moI (A_dearWay A r))))), am_hp σ', t) ∧ σ'.1 (40, 0, 0) 0 = moC (A_dearWay A r) ∧ MF σ σ' := by
  have cr := s_X12_isRow (t := t) hA hr
  refine ex_of (e_X12_dearWay ?_)
  unfold A_dearWay
  by_cases hR : isR A r
  · rw [if_pos hR]
    have hn := isR_n hR
    have A1 := hA.m (MF.ck (σ := σ) (z := 0))
    have C1 := hC.m (MF.ck (σ := σ) (z := 0))
    obtain ⟨σ1, c1, w1, p1, q1⟩ := s_X12_packsBy (t := t) (u := 2) A1 C1 hn.1 (by omega)
    rw [hn.2, wayF_2] at c1
    refine b_X12_dearWay_0 (cr.up (by omega)) ((goes_t hR).up (by omega)) (by omega) (fun _ => b_X12_dearWay_14 (c1.up (by omega)) ?_) (fun q => by omega)
    refine w_loopS 9 (fun w c => ∃ σ2, c = (23, [some (aR (some (40, 0, 0))), some (aI (iZ r)), some (aI (iZ (((nW (cheW (rNu A r.toNat) (rLn A r.toNat) (cst 2 (rPr A))) (rLn A r.toNat)) : Int)))), some (aI (iZ ((w : Int))))], [], am_hp σ2, t) ∧ VL (rNu A r.toNat) (rLn A r.toNat) σ2 ∧ VP (rPr A) σ2 ∧ QF (cd σ 0) σ2 ∧ ∀ j, j < w → ¬ drW A r.toNat j) ⟨σ1, rfl, w1.2.1, p1, q1, fun j hj => absurd hj (Nat.not_lt_zero j)⟩ (fun w c hw hI go => ?_) (fun c hI => ?_)
    · obtain ⟨σ2, rfl, v2, p2, q2, h2⟩ := hI
      obtain ⟨σ3, c3, v3, p3, q3⟩ := s_X12_isDear (t := t) (A1.q q2) (C1.q q2) hw v2 p2
      refine b_X12_dearWay_23 (by omega) (fun q => by omega) (fun _ => ?_)
      refine b_X12_dearWay_29 (c3.up (by omega)) bz_rg (fun q => ?_) (fun q => ?_)
      · have hnd := bz_0.mp q
        refine b_X12_dearWay_40 (go _ ⟨σ3, rfl, v3, p3 hnd, q2.trans q3, fun j hj => ?_⟩)
        by_cases e : j = w
        · subst e; exact hnd
        · exact h2 j (by omega)
      · have hd := bz_n.mp q
        refine b_X12_dearWay_38 ⟨σ3, ?_, okM (q2.trans q3)⟩
        rw [fndF_at (P := drW A r.toNat) 9 0 w hw (fun j hj => by rw [Nat.zero_add]; exact h2 j hj) (by rw [Nat.zero_add]; exact hd), Nat.zero_add]
        rfl
    · obtain ⟨σ2, rfl, v2, p2, q2, h2⟩ := hI
      refine b_X12_dearWay_23 (by omega) (fun _ => b_X12_dearWay_46 ⟨σ2, ?_, okM q2⟩) (fun q => by omega)
      rw [fndF_no (P := drW A r.toNat) 9 0 (fun j hj => by rw [Nat.zero_add]; exact h2 j hj)]
      rfl
  · rw [if_neg hR]
    exact b_X12_dearWay_0 (cr.up (by omega)) ((goes_f hR).up (by omega)) (by omega) (fun q => absurd rfl q) (fun _ => b_X12_dearWay_12 ⟨_, rfl, noM 1⟩)
