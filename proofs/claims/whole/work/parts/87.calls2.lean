/-! THE MODEL: numbers are added, put, removed -/
set_option maxRecDepth 4000
def inMo (L : Lc) : Prop := 40 ≤ L.1 ∧ L.1 ≤ 62
theorem mM4 : ∀ L, (inC4 L ∨ L.1 = 45) → inMo L := fun L q => by unfold inC4 at q; unfold inMo; omega
theorem MF.mo {σ σ' : SG} (h : MF σ σ') : Fr inMo σ σ' := h.1.mono (fun L q => by unfold inQ at q; unfold inMo; omega)
theorem R0 {S : SS} {c : Nat} {nm : List Nat} {x y i v : Int} (h : vdA (xA S) c nm x y i v = 0) : R_call S c nm x y i v = .inl ((nW (chA (doA (xA S) c nm x y i v) x.toNat) (rLn (doA (xA S) c nm x y i v) x.toNat))) ∧ N_call S c nm x y i v = (doA (xA S) c nm x y i v, xV S, (xA S :: xP S).take 6, fup (xC S) 0 (xC S 0 + 1), S.2.2.2.2) := ⟨if_pos h, if_pos h⟩
theorem R2 {S : SS} {c k : Nat} {nm : List Nat} {x y i v : Int} (h : vdA (xA S) c nm x y i v = k) (hk : k = 1 ∨ k = 2) : R_call S c nm x y i v = .inr k ∧ N_call S c nm x y i v = S := by
  unfold R_call N_call
  rw [h, if_neg (by omega), if_pos (by omega), if_neg (by omega), if_pos (by omega)]
  exact ⟨rfl, rfl⟩
theorem R3 {S : SS} {c k : Nat} {nm : List Nat} {x y i v : Int} (h : vdA (xA S) c nm x y i v = k) (hk : 2 < k) : R_call S c nm x y i v = .inl (-(k : Int)) ∧ N_call S c nm x y i v = (S.1, S.2.1, S.2.2.1, fup (xC S) 1 (xC S 1 + 1), (k : Int), S.2.2.2.2.2) := by
  unfold R_call N_call
  rw [h, if_neg (by omega), if_neg (by omega), if_neg (by omega), if_neg (by omega)]
  exact ⟨rfl, rfl⟩
theorem m_append {t : KT} {σ : SG} {S : SS} {a b : Int} (y i : Int) (h : MS S σ) (ha : -2147483648 ≤ a ∧ a < 2147483648) (hb : -2147483648 ≤ b ∧ b < 2147483648) : ∃ σ', Ca 7 307 [aR (some (40, 0, 0)), aI (iZ a), aI (iZ b)] (am_hp σ) t (.inl (some (aI (iZ (moI (R_call S 1 [] a y i b))))), am_hp σ', t) ∧ σ'.1 (40, 0, 0) 0 = moC (R_call S 1 [] a y i b) ∧ MS (N_call S 1 [] a y i b) σ' ∧ Fr inMo σ σ' := by
  have hA := h.1
  have cr := s_X12_isRow (t := t) hA ha
  have cv := s_X12_isValue (t := t) (σ := σ) hb
  have hv : vdA (xA S) 1 [] a y i b = inV (xA S) a (if isR (xA S) a then (rLn (xA S) a.toNat : Int) else 0) b := rfl
  unfold inV at hv
  refine ex_of (e_X12_append ?_)
  by_cases hR : isR (xA S) a
  · have hn := isR_n hR
    rw [if_pos hR, if_neg (Decidable.not_not.mpr ⟨hR, by omega, Int.le_refl _⟩)] at hv
    by_cases hV : 0 ≤ b ∧ b ≤ 268435455
    · rw [if_neg (Decidable.not_not.mpr hV)] at hv
      have A1 := hA.m (MF.ck (σ := σ) (z := 0))
      have cw := s_X12_whyNoMore (t := t) (m := 1) A1 hn.1 (by omega)
      rw [hn.2] at cw
      refine b_X12_append_0 (cr.up (by omega)) (cv.up (by omega)) ((gB_t hR hV).up (by omega)) (by omega) (fun _ => ?_) (fun q => by omega)
      by_cases h6 : 60 ≤ rLn (xA S) a.toNat
      · rw [if_pos h6] at hv
        rw [if_pos (by omega)] at cw
        obtain ⟨e1, e2⟩ := R3 hv (by omega)
        rw [e1, e2]
        obtain ⟨σ2, c2, z2, g2, f2⟩ := s_X12_refuses (t := t) (V := ((103 : Nat) : Int)) h (MF.ck (σ := σ) (z := 0))
        exact b_X12_append_18 (cw.up (by omega)) (by omega) (fun q => by omega) (fun _ => b_X12_append_29 (c2.up (by omega)) ⟨σ2, rfl, by rw [z2, cd_0]; rfl, g2, f2.mono mM4⟩)
      · rw [if_neg h6] at hv
        rw [if_neg (by omega)] at cw
        obtain ⟨e1, e2⟩ := R0 hv
        rw [e1, e2]
        obtain ⟨σ1, c1, d1, f1⟩ := s_X12_laysAside (t := t) A1
        have A2 := A1.fr f1 (fun z => absurd (congrArg (fun L : Lc => L.1) z) (by decide))
        obtain ⟨σ2, c2, r2, f2⟩ := s_X12_appends (t := t) (v := b) A2 hn.1 (by omega)
        rw [hn.2] at c2
        have w2 : MA (doA (xA S) 1 [] a y i b) σ2 := ⟨Av_do hA.1 hv (fun z => absurd z (by decide)), r2⟩
        obtain ⟨σ3, σ4, c3, c4, z4, g4, f4⟩ := m_tail (t := t) h ((RC.ck (z := 0)).trans ((RC.one f1 (Or.inr rfl)).trans (RC.one f2 (Or.inl rfl)))) w2 (d1.o f2) (r := a.toNat) hn.1
        rw [hn.2] at c3
        refine b_X12_append_18 (cw.up (by omega)) (by omega) (fun _ => b_X12_append_35 (c1.up (by omega)) (c2.up (by omega)) (c3.up (by omega)) (c4.up (by omega)) ⟨σ4, rfl, ?_, g4, f4.mono mM4⟩) (fun q => by omega)
        rw [z4, (f2.1 (40, 0, 0) (fun z => absurd (congrArg (fun L : Lc => L.1) z) (by decide))).1, (f1.1 (40, 0, 0) (fun z => absurd (congrArg (fun L : Lc => L.1) z) (by decide))).1, cd_0]
        rfl
    · rw [if_pos hV] at hv
      obtain ⟨e1, e2⟩ := R2 hv (Or.inr rfl)
      rw [e1, e2]
      exact b_X12_append_0 (cr.up (by omega)) (cv.up (by omega)) ((gB_2 hR hV).up (by omega)) (by omega) (fun q => absurd rfl q) (fun _ => b_X12_append_16 ⟨_, rfl, cd_0, h.m MF.ck, (MF.ck (σ := σ) (z := 2)).mo⟩)
  · rw [if_pos (fun z => hR z.1)] at hv
    obtain ⟨e1, e2⟩ := R2 hv (Or.inl rfl)
    rw [e1, e2]
    exact b_X12_append_0 (cr.up (by omega)) (cv.up (by omega)) ((gB_1 hR).up (by omega)) (by omega) (fun q => absurd rfl q) (fun _ => b_X12_append_16 ⟨_, rfl, cd_0, h.m MF.ck, (MF.ck (σ := σ) (z := 1)).mo⟩)
theorem m_put {t : KT} {σ : SG} {S : SS} {a j b : Int} (y : Int) (h : MS S σ) (ha : -2147483648 ≤ a ∧ a < 2147483648) (hj : -2147483648 ≤ j ∧ j < 2147483648) (hb : -2147483648 ≤ b ∧ b < 2147483648) : ∃ σ', Ca 7 308 [aR (some (40, 0, 0)), aI (iZ a), aI (iZ j), aI (iZ b)] (am_hp σ) t (.inl (some (aI (iZ (moI (R_call S 2 [] a y j b))))), am_hp σ', t) ∧ σ'.1 (40, 0, 0) 0 = moC (R_call S 2 [] a y j b) ∧ MS (N_call S 2 [] a y j b) σ' ∧ Fr inMo σ σ' := by
  have hA := h.1
  have cr := s_X12_isNumber (t := t) hA ha hj
  have cv := s_X12_isValue (t := t) (σ := σ) hb
  have hv : vdA (xA S) 2 [] a y j b = if isN (xA S) a j then (if 0 ≤ b ∧ b ≤ 268435455 then 0 else 2) else 1 := rfl
  refine ex_of (e_X12_put ?_)
  by_cases hR : isN (xA S) a j
  · have hn := isR_n hR.1
    rw [if_pos hR] at hv
    by_cases hV : 0 ≤ b ∧ b ≤ 268435455
    · rw [if_pos hV] at hv
      obtain ⟨e1, e2⟩ := R0 hv
      rw [e1, e2]
      have A1 := hA.m (MF.ck (σ := σ) (z := 0))
      obtain ⟨σ1, c1, d1, f1⟩ := s_X12_laysAside (t := t) A1
      have A2 := A1.fr f1 (fun z => absurd (congrArg (fun L : Lc => L.1) z) (by decide))
      have hj2 : j.toNat < rLn (xA S) a.toNat := by have := hR.2; omega
      obtain ⟨σ2, c2, r2, f2⟩ := s_X12_putsValue (t := t) (v := b) A2 hn.1 hj2
      rw [hn.2, show ((j.toNat : Nat) : Int) = j by have := hR.2; omega] at c2
      have w2 : MA (doA (xA S) 2 [] a y j b) σ2 := ⟨Av_do hA.1 hv (fun z => absurd z (by decide)), r2⟩
      obtain ⟨σ3, σ4, c3, c4, z4, g4, f4⟩ := m_tail (t := t) h ((RC.ck (z := 0)).trans ((RC.one f1 (Or.inr rfl)).trans (RC.one f2 (Or.inl rfl)))) w2 (d1.o f2) (r := a.toNat) hn.1
      rw [hn.2] at c3
      refine b_X12_put_0 (cr.up (by omega)) (cv.up (by omega)) ((gB_t hR hV).up (by omega)) (by omega) (fun _ => ?_) (fun q => by omega)
      refine b_X12_put_19 (c1.up (by omega)) (c2.up (by omega)) (c3.up (by omega)) (c4.up (by omega)) ⟨σ4, rfl, ?_, g4, f4.mono mM4⟩
      rw [z4, (f2.1 (40, 0, 0) (fun z => absurd (congrArg (fun L : Lc => L.1) z) (by decide))).1, (f1.1 (40, 0, 0) (fun z => absurd (congrArg (fun L : Lc => L.1) z) (by decide))).1, cd_0]
      rfl
    · rw [if_neg hV] at hv
      obtain ⟨e1, e2⟩ := R2 hv (Or.inr rfl)
      rw [e1, e2]
      exact b_X12_put_0 (cr.up (by omega)) (cv.up (by omega)) ((gB_2 hR hV).up (by omega)) (by omega) (fun q => absurd rfl q) (fun _ => b_X12_put_17 ⟨_, rfl, cd_0, h.m MF.ck, (MF.ck (σ := σ) (z := 2)).mo⟩)
  · rw [if_neg hR] at hv
    obtain ⟨e1, e2⟩ := R2 hv (Or.inl rfl)
    rw [e1, e2]
    exact b_X12_put_0 (cr.up (by omega)) (cv.up (by omega)) ((gB_1 hR).up (by omega)) (by omega) (fun q => absurd rfl q) (fun _ => b_X12_put_17 ⟨_, rfl, cd_0, h.m MF.ck, (MF.ck (σ := σ) (z := 1)).mo⟩)
theorem s_X12_isPlace {t : KT} {σ : SG} {A : RA} {x i : Int} (h : MA A σ) (hx : -2147483648 ≤ x ∧ x < 2147483648) (hi : -2147483648 ≤ i ∧ i < 2147483648) : Ca 3 309 [aR (some (40, 0, 0)), aI (iZ x), aI (iZ i)] (am_hp σ) t (.inl (some (aI (iZ (bz (isR A x ∧ 0 ≤ i ∧ i ≤ rLn A x.toNat))))), am_hp σ, t) := by
  refine ca_of (e_X12_isPlace ?_)
  refine b_X12_isPlace_0 ((s_X12_isRow h hx).up (by omega)) bz_rg (fun q => ?_) (fun q => ?_)
  · have hn := bz_0.mp q
    rw [bz_f (p := isR A x ∧ 0 ≤ i ∧ i ≤ rLn A x.toNat) (fun k => hn k.1)]
    exact b_X12_isPlace_27 (b_X12_isPlace_28 (by omega) rfl)
  · have hy := bz_n.mp q
    have hn := isR_n hy
    have hl := h.len hn.1
    have cm := s_X12_manyIn (t := t) h hn.1
    rw [hn.2] at cm
    have c := s_X12_isIn (t := t) (σ := σ) (i_rg hi) (i_rg (z := 0) (by omega)) (i_rg (z := (rLn A x.toNat : Int)) (by omega))
    refine b_X12_isPlace_8 hi (cm.up (by omega)) (by omega) (c.up (by omega)) bz_rg (fun q2 => ?_) (fun q2 => ?_)
    · have h2 := bz_0.mp q2
      rw [bz_f (p := isR A x ∧ 0 ≤ i ∧ i ≤ rLn A x.toNat) (fun k => h2 k.2)]
      exact b_X12_isPlace_27 (b_X12_isPlace_28 (by omega) rfl)
    · have h2 := bz_n.mp q2
      rw [bz_t (p := isR A x ∧ 0 ≤ i ∧ i ≤ rLn A x.toNat) ⟨hy, h2⟩]
      exact b_X12_isPlace_23 (b_X12_isPlace_28 (by omega) rfl)
theorem m_insert {t : KT} {σ : SG} {S : SS} {a j b : Int} (y : Int) (h : MS S σ) (ha : -2147483648 ≤ a ∧ a < 2147483648) (hj : -2147483648 ≤ j ∧ j < 2147483648) (hb : -2147483648 ≤ b ∧ b < 2147483648) : ∃ σ', Ca 7 310 [aR (some (40, 0, 0)), aI (iZ a), aI (iZ j), aI (iZ b)] (am_hp σ) t (.inl (some (aI (iZ (moI (R_call S 3 [] a y j b))))), am_hp σ', t) ∧ σ'.1 (40, 0, 0) 0 = moC (R_call S 3 [] a y j b) ∧ MS (N_call S 3 [] a y j b) σ' ∧ Fr inMo σ σ' := by
  have hA := h.1
  have cr := s_X12_isPlace (t := t) hA ha hj
  have cv := s_X12_isValue (t := t) (σ := σ) hb
  have hv : vdA (xA S) 3 [] a y j b = inV (xA S) a j b := rfl
  unfold inV at hv
  refine ex_of (e_X12_insert ?_)
  by_cases hR : isR (xA S) a ∧ 0 ≤ j ∧ j ≤ rLn (xA S) a.toNat
  · have hn := isR_n hR.1
    rw [if_neg (Decidable.not_not.mpr hR)] at hv
    by_cases hV : 0 ≤ b ∧ b ≤ 268435455
    · rw [if_neg (Decidable.not_not.mpr hV)] at hv
      have A1 := hA.m (MF.ck (σ := σ) (z := 0))
      have cw := s_X12_whyNoMore (t := t) (m := 1) A1 hn.1 (by omega)
      rw [hn.2] at cw
      refine b_X12_insert_0 (cr.up (by omega)) (cv.up (by omega)) ((gB_t hR hV).up (by omega)) (by omega) (fun _ => ?_) (fun q => by omega)
      by_cases h6 : 60 ≤ rLn (xA S) a.toNat
      · rw [if_pos h6] at hv
        rw [if_pos (by omega)] at cw
        obtain ⟨e1, e2⟩ := R3 hv (by omega)
        rw [e1, e2]
        obtain ⟨σ2, c2, z2, g2, f2⟩ := s_X12_refuses (t := t) (V := ((103 : Nat) : Int)) h (MF.ck (σ := σ) (z := 0))
        exact b_X12_insert_19 (cw.up (by omega)) (by omega) (fun q => by omega) (fun _ => b_X12_insert_32 (c2.up (by omega)) ⟨σ2, rfl, by rw [z2, cd_0]; rfl, g2, f2.mono mM4⟩)
      · rw [if_neg h6] at hv
        rw [if_neg (by omega)] at cw
        obtain ⟨e1, e2⟩ := R0 hv
        rw [e1, e2]
        obtain ⟨σ1, c1, d1, f1⟩ := s_X12_laysAside (t := t) A1
        have A2 := A1.fr f1 (fun z => absurd (congrArg (fun L : Lc => L.1) z) (by decide))
        obtain ⟨σ2, c2, r2, f2⟩ := s_X12_insertsAt (t := t) (i := j.toNat) (v := b) A2 hn.1 (by omega) (by have := hR.2; omega)
        rw [hn.2, show ((j.toNat : Nat) : Int) = j by have := hR.2; omega] at c2
        have w2 : MA (doA (xA S) 3 [] a y j b) σ2 := ⟨Av_do hA.1 hv (fun z => absurd z (by decide)), r2⟩
        obtain ⟨σ3, σ4, c3, c4, z4, g4, f4⟩ := m_tail (t := t) h ((RC.ck (z := 0)).trans ((RC.one f1 (Or.inr rfl)).trans (RC.one f2 (Or.inl rfl)))) w2 (d1.o f2) (r := a.toNat) hn.1
        rw [hn.2] at c3
        refine b_X12_insert_19 (cw.up (by omega)) (by omega) (fun _ => b_X12_insert_39 (c1.up (by omega)) (c2.up (by omega)) (c3.up (by omega)) (c4.up (by omega)) ⟨σ4, rfl, ?_, g4, f4.mono mM4⟩) (fun q => by omega)
        rw [z4, (f2.1 (40, 0, 0) (fun z => absurd (congrArg (fun L : Lc => L.1) z) (by decide))).1, (f1.1 (40, 0, 0) (fun z => absurd (congrArg (fun L : Lc => L.1) z) (by decide))).1, cd_0]
        rfl
    · rw [if_pos hV] at hv
      obtain ⟨e1, e2⟩ := R2 hv (Or.inr rfl)
      rw [e1, e2]
      exact b_X12_insert_0 (cr.up (by omega)) (cv.up (by omega)) ((gB_2 hR hV).up (by omega)) (by omega) (fun q => absurd rfl q) (fun _ => b_X12_insert_17 ⟨_, rfl, cd_0, h.m MF.ck, (MF.ck (σ := σ) (z := 2)).mo⟩)
  · rw [if_pos hR] at hv
    obtain ⟨e1, e2⟩ := R2 hv (Or.inl rfl)
    rw [e1, e2]
    exact b_X12_insert_0 (cr.up (by omega)) (cv.up (by omega)) ((gB_1 hR).up (by omega)) (by omega) (fun q => absurd rfl q) (fun _ => b_X12_insert_17 ⟨_, rfl, cd_0, h.m MF.ck, (MF.ck (σ := σ) (z := 1)).mo⟩)
theorem m_remove {t : KT} {σ : SG} {S : SS} {a j : Int} (y b : Int) (h : MS S σ) (ha : -2147483648 ≤ a ∧ a < 2147483648) (hj : -2147483648 ≤ j ∧ j < 2147483648) : ∃ σ', Ca 7 311 [aR (some (40, 0, 0)), aI (iZ a), aI (iZ j)] (am_hp σ) t (.inl (some (aI (iZ (moI (R_call S 4 [] a y j b))))), am_hp σ', t) ∧ σ'.1 (40, 0, 0) 0 = moC (R_call S 4 [] a y j b) ∧ MS (N_call S 4 [] a y j b) σ' ∧ Fr inMo σ σ' := by
  have hA := h.1
  have cr := s_X12_isNumber (t := t) hA ha hj
  have hv : vdA (xA S) 4 [] a y j b = if isN (xA S) a j then 0 else 1 := rfl
  refine ex_of (e_X12_remove ?_)
  by_cases hR : isN (xA S) a j
  · have hn := isR_n hR.1
    rw [if_pos hR] at hv
    obtain ⟨e1, e2⟩ := R0 hv
    rw [e1, e2]
    have A1 := hA.m (MF.ck (σ := σ) (z := 0))
    obtain ⟨σ1, c1, d1, f1⟩ := s_X12_laysAside (t := t) A1
    have A2 := A1.fr f1 (fun z => absurd (congrArg (fun L : Lc => L.1) z) (by decide))
    have hj2 : j.toNat < rLn (xA S) a.toNat := by have := hR.2; omega
    obtain ⟨σ2, c2, r2, f2⟩ := s_X12_removesAt (t := t) A2 hn.1 hj2
    rw [hn.2, show ((j.toNat : Nat) : Int) = j by have := hR.2; omega] at c2
    have w2 : MA (doA (xA S) 4 [] a y j b) σ2 := ⟨Av_do hA.1 hv (fun z => absurd z (by decide)), r2⟩
    obtain ⟨σ3, σ4, c3, c4, z4, g4, f4⟩ := m_tail (t := t) h ((RC.ck (z := 0)).trans ((RC.one f1 (Or.inr rfl)).trans (RC.one f2 (Or.inl rfl)))) w2 (d1.o f2) (r := a.toNat) hn.1
    rw [hn.2] at c3
    refine b_X12_remove_0 (cr.up (by omega)) ((goes_t hR).up (by omega)) (by omega) (fun _ => ?_) (fun q => by omega)
    refine b_X12_remove_15 (c1.up (by omega)) (c2.up (by omega)) (c3.up (by omega)) (c4.up (by omega)) ⟨σ4, rfl, ?_, g4, f4.mono mM4⟩
    rw [z4, (f2.1 (40, 0, 0) (fun z => absurd (congrArg (fun L : Lc => L.1) z) (by decide))).1, (f1.1 (40, 0, 0) (fun z => absurd (congrArg (fun L : Lc => L.1) z) (by decide))).1, cd_0]
    rfl
  · rw [if_neg hR] at hv
    obtain ⟨e1, e2⟩ := R2 hv (Or.inl rfl)
    rw [e1, e2]
    exact b_X12_remove_0 (cr.up (by omega)) ((goes_f hR).up (by omega)) (by omega) (fun q => absurd rfl q) (fun _ => b_X12_remove_13 ⟨_, rfl, cd_0, h.m MF.ck, (MF.ck (σ := σ) (z := 1)).mo⟩)
theorem m_join {t : KT} {σ : SG} {S : SS} {a s : Int} (i v : Int) (h : MS S σ) (ha : -2147483648 ≤ a ∧ a < 2147483648) (hs : -2147483648 ≤ s ∧ s < 2147483648) : ∃ σ', Ca 7 312 [aR (some (40, 0, 0)), aI (iZ a), aI (iZ s)] (am_hp σ) t (.inl (some (aI (iZ (moI (R_call S 5 [] a s i v))))), am_hp σ', t) ∧ σ'.1 (40, 0, 0) 0 = moC (R_call S 5 [] a s i v) ∧ MS (N_call S 5 [] a s i v) σ' ∧ Fr inMo σ σ' := by
  have hA := h.1
  have cr := s_X12_isRow (t := t) hA ha
  have cs := s_X12_isRow (t := t) hA hs
  have hv : vdA (xA S) 5 [] a s i v = if ¬ (isR (xA S) a ∧ isR (xA S) s) then 1 else if 60 < rLn (xA S) a.toNat + rLn (xA S) s.toNat then 103 else 0 := rfl
  refine ex_of (e_X12_join ?_)
  refine wq (fun Q hQ => ?_)
  have no : vdA (xA S) 5 [] a s i v = 1 → Wp k_X12_join 6 (21, [some (aR (some (40, 0, 0))), some (aI (iZ a)), some (aI (iZ s)), none], [aR (some (40, 0, 0))], am_hp σ, t) Q := fun hv1 => by
    obtain ⟨e1, e2⟩ := R2 hv1 (Or.inl rfl)
    rw [e1, e2] at hQ
    have c := goes_f (t := t) (σ := σ) (P := False) (fun z => z)
    rw [bz_f (p := False) (fun z => z)] at c
    exact b_X12_join_21 (b_X12_join_22 (c.up (by omega)) (by omega) (fun q => absurd rfl q) (fun _ => b_X12_join_28 (hQ _ ⟨_, rfl, cd_0, h.m MF.ck, (MF.ck (σ := σ) (z := 1)).mo⟩)))
  by_cases hR : isR (xA S) a
  · refine b_X12_join_0 (cr.up (by omega)) bz_rg (fun q => absurd hR (bz_0.mp q)) (fun _ => ?_)
    by_cases hS : isR (xA S) s
    · rw [if_neg (Decidable.not_not.mpr ⟨hR, hS⟩)] at hv
      have hn := isR_n hR
      have hm := isR_n hS
      have A1 := hA.m (MF.ck (σ := σ) (z := 0))
      have cm := s_X12_manyIn (t := t) A1 hm.1
      rw [hm.2] at cm
      have cw := s_X12_whyNoMore (t := t) (m := rLn (xA S) s.toNat) A1 hn.1 (A1.len hm.1).2
      rw [hn.2] at cw
      have c := goes_t (t := t) (σ := σ) (P := True) trivial
      rw [bz_t (p := True) trivial] at c
      refine b_X12_join_9 (cs.up (by omega)) bz_rg (fun q => absurd hS (bz_0.mp q)) (fun _ => b_X12_join_17 (b_X12_join_22 (c.up (by omega)) (by omega) (fun _ => ?_) (fun q => by omega)))
      by_cases h6 : 60 < rLn (xA S) a.toNat + rLn (xA S) s.toNat
      · rw [if_pos h6] at hv cw
        obtain ⟨e1, e2⟩ := R3 hv (by omega)
        rw [e1, e2] at hQ
        obtain ⟨σ2, c2, z2, g2, f2⟩ := s_X12_refuses (t := t) (V := ((103 : Nat) : Int)) h (MF.ck (σ := σ) (z := 0))
        exact b_X12_join_30 (cm.up (by omega)) (cw.up (by omega)) (by omega) (fun q => by omega) (fun _ => b_X12_join_45 (c2.up (by omega)) (hQ _ ⟨σ2, rfl, by rw [z2, cd_0]; rfl, g2, f2.mono mM4⟩))
      · rw [if_neg h6] at hv cw
        obtain ⟨e1, e2⟩ := R0 hv
        rw [e1, e2] at hQ
        obtain ⟨σ1, c1, d1, f1⟩ := s_X12_laysAside (t := t) A1
        have A2 := A1.fr f1 (fun z => absurd (congrArg (fun L : Lc => L.1) z) (by decide))
        obtain ⟨σ2, c2, r2, f2⟩ := s_X12_joins (t := t) A2 hn.1 hm.1 (by omega)
        rw [hn.2, hm.2] at c2
        have w2 : MA (doA (xA S) 5 [] a s i v) σ2 := ⟨Av_do hA.1 hv (fun z => absurd z (by decide)), r2⟩
        obtain ⟨σ3, σ4, c3, c4, z4, g4, f4⟩ := m_tail (t := t) h ((RC.ck (z := 0)).trans ((RC.one f1 (Or.inr rfl)).trans (RC.one f2 (Or.inl rfl)))) w2 (d1.o f2) (r := a.toNat) hn.1
        rw [hn.2] at c3
        refine b_X12_join_30 (cm.up (by omega)) (cw.up (by omega)) (by omega) (fun _ => b_X12_join_51 (c1.up (by omega)) (c2.up (by omega)) (c3.up (by omega)) (c4.up (by omega)) (hQ _ ⟨σ4, rfl, ?_, g4, f4.mono mM4⟩)) (fun q => by omega)
        rw [z4, (f2.1 (40, 0, 0) (fun z => absurd (congrArg (fun L : Lc => L.1) z) (by decide))).1, (f1.1 (40, 0, 0) (fun z => absurd (congrArg (fun L : Lc => L.1) z) (by decide))).1, cd_0]
        rfl
    · rw [if_pos (fun z => hS z.2)] at hv
      exact b_X12_join_9 (cs.up (by omega)) bz_rg (fun _ => no hv) (fun q => absurd (bz_n.mp q) hS)
  · rw [if_pos (fun z => hR z.1)] at hv
    exact b_X12_join_0 (cr.up (by omega)) bz_rg (fun _ => no hv) (fun q => absurd (bz_n.mp q) hR)
