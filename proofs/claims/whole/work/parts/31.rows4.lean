/-! SPECIFICATIONS: rows written, II -/
set_option maxRecDepth 4000
theorem s_X7_hasNum {d : Nat} {t : KT} {σ : SG} {p : Nat} {A : RA} (hA : Av A) (hR : Rep A σ p) {x i : Int} (hx : -2147483648 ≤ x ∧ x < 2147483648) (hi : -2147483648 ≤ i ∧ i < 2147483648) : Ca (d + 2) 45 [aR (some (8, p, 0)), aI (iZ x), aI (iZ i)] (am_hp σ) t (.inl (some (aI (iZ (bz ((0 ≤ x ∧ x < rN A) ∧ 0 ≤ i ∧ i < rLn A x.toNat))))), am_hp σ, t) := by
  have h4 := hA.1
  have e4 := hR.1
  have hl : 0 ≤ x → x < rN A → σ.1 (10, p, 0) x.toNat = rLn A x.toNat ∧ rLn A x.toNat ≤ 60 := fun a b => ⟨(hR.2.2.2.2 x.toNat (by omega)).2.1, (hA.2.2.2.2 x.toNat (by omega)).2.1⟩
  refine ca_of (e_X7_hasNumber ?_)
  have hc := s_X7_has (d := d) (t := t) (σ := σ) (p := p) (x := x) (by omega) (by omega)
  rw [e4] at hc
  refine b_X7_hasNumber_0 hc bz_rg (fun h1 => ?_) (fun h2 => ?_)
  · replace h1 := bz_0.mp h1
    refine b_X7_hasNumber_26 (b_X7_hasNumber_27 (by omega) ?_)
    rw [bz_f (by omega)]
  · replace h2 := bz_n.mp h2
    have hl := hl h2.1 h2.2
    refine b_X7_hasNumber_8 hi (fun h4 => ?_) (fun h5 => ?_)
    · refine b_X7_hasNumber_26 (b_X7_hasNumber_27 (by omega) ?_)
      rw [bz_f (by omega)]
    · refine b_X7_hasNumber_12 (by omega) (by omega) (by omega) (fun h7 => ?_) (fun h8 => ?_)
      · refine b_X7_hasNumber_26 (b_X7_hasNumber_27 (by omega) ?_)
        rw [bz_f (by omega)]
      · refine b_X7_hasNumber_22 (b_X7_hasNumber_27 (by omega) ?_)
        rw [bz_t (by omega)]
theorem s_X7_putNumber {d : Nat} {t : KT} {σ : SG} {p : Nat} {A : RA} (hA : Av A) (hR : Rep A σ p) {r i : Nat} {v : Int} (hr : r < rN A) (hi : i < rLn A r) (hl : rLn A r ≤ 60) : ∃ σ', Ca (d + 3) 51 [aR (some (8, p, 0)), aI (iZ (r : Int)), aI (iZ (i : Int)), aI (iZ v)] (am_hp σ) t (.inl none, am_hp σ', t) ∧ Rep (putA A r i v) σ' p ∧ Fr (inR p) σ σ' := by
  have h4 := hA.1
  have e4 := hR.1
  refine ex_of (e_X7_putNumber ?_)
  have hc := s_X7_hasNum (d := d) (t := t) (σ := σ) (p := p) hA hR (x := (r : Int)) (i := (i : Int)) (by omega) (by omega)
  refine b_X7_putNumber_0 hc bz_rg (fun h => ?_) (fun _ => ?_)
  · exact absurd (bz_0.mp h) (by simp only [Int.toNat_natCast]; omega)
  refine b_X7_putNumber_9 (by omega) (by omega) ?_
  refine b_X7_putNumber_18 ⟨_, rfl, ?_, Fr.sI (inRk rfl)⟩
  · obtain ⟨⟨n, ru, sk⟩, pr, nm, ln, nu⟩ := A
    obtain ⟨a1, a2, a3, a4, a5⟩ := hR
    simp only [rN, rRu, rSk, rPr, rNm, rLn, rNu] at *
    refine ⟨by simpa [sI_1, sJ_1, putA, rN, rRu, rSk, rPr, rNm, rLn, rNu] using a1, by simpa [sI_1, sJ_1, putA, rN, rRu, rSk, rPr, rNm, rLn, rNu] using a2, by simpa [sI_1, sJ_1, putA, rN, rRu, rSk, rPr, rNm, rLn, rNu] using a3, fun w hw => by simpa [sI_1, sJ_1, putA, rN, rRu, rSk, rPr, rNm, rLn, rNu] using a4 w hw, fun j hj => ?_⟩
    have b := a5 j (by simpa [putA, rN, rRu, rSk, rPr, rNm, rLn, rNu] using hj)
    refine ⟨by simpa [sI_1, sI_2, putA, rN, rRu, rSk, rPr, rNm, rLn, rNu] using b.1, ?_, fun m hm => ?_⟩
    · simpa [sI_1, putA, rN, rRu, rSk, rPr, rNm, rLn, rNu] using b.2.1
    · have hm' : m < ln j := by simpa [putA, rN, rRu, rSk, rPr, rNm, rLn, rNu] using hm
      have := b.2.2 m hm'
      by_cases e : j = r
      · subst e
        by_cases e2 : m = i
        · subst e2; simp [sI_1, up_at, putA, fup, rN, rRu, rSk, rPr, rNm, rLn, rNu]
        · simp [sI_1, up_at, putA, fup, e2, this, rN, rRu, rSk, rPr, rNm, rLn, rNu]
      · simp [sI_1, putA, fup, e, this, rN, rRu, rSk, rPr, rNm, rLn, rNu]
theorem s_X7_removeNumber {d : Nat} {t : KT} {σ : SG} {p : Nat} {A : RA} (hA : Av A) (hR : Rep A σ p) {r i : Nat} (hr : r < rN A) (hi : i < rLn A r) (hl : rLn A r ≤ 60) : ∃ σ', Ca (d + 3) 53 [aR (some (8, p, 0)), aI (iZ (r : Int)), aI (iZ (i : Int))] (am_hp σ) t (.inl none, am_hp σ', t) ∧ Rep (remA A r i) σ' p ∧ Fr (inR p) σ σ' := by
  have h4 := hA.1
  have e4 := hR.1
  have eL : σ.1 (10, p, 0) (r : Int).toNat = rLn A r := (hR.2.2.2.2 r hr).2.1
  refine ex_of (e_X7_removeNumber ?_)
  have hc := s_X7_hasNum (d := d) (t := t) (σ := σ) (p := p) hA hR (x := (r : Int)) (i := (i : Int)) (by omega) (by omega)
  refine b_X7_removeNumber_0 hc bz_rg (fun h => ?_) (fun _ => ?_)
  · exact absurd (bz_0.mp h) (by simp only [Int.toNat_natCast]; omega)
  refine b_X7_removeNumber_9 (by omega) (by rw [eL]; omega) ?_
  refine b_X7_removeNumber_48 ⟨_, rfl, ?_, (Fr.sI (inRk rfl)).trans (Fr.sI (inRk rfl))⟩
  · obtain ⟨⟨n, ru, sk⟩, pr, nm, ln, nu⟩ := A
    obtain ⟨a1, a2, a3, a4, a5⟩ := hR
    simp only [rN, rRu, rSk, rPr, rNm, rLn, rNu] at *
    refine ⟨by simpa [sI_1, sJ_1, remA, rN, rRu, rSk, rPr, rNm, rLn, rNu] using a1, by simpa [sI_1, sJ_1, remA, rN, rRu, rSk, rPr, rNm, rLn, rNu] using a2, by simpa [sI_1, sJ_1, remA, rN, rRu, rSk, rPr, rNm, rLn, rNu] using a3, fun w hw => by simpa [sI_1, sJ_1, remA, rN, rRu, rSk, rPr, rNm, rLn, rNu] using a4 w hw, fun j hj => ?_⟩
    have b := a5 j (by simpa [remA, rN, rRu, rSk, rPr, rNm, rLn, rNu] using hj)
    refine ⟨by simpa [sI_1, sI_2, remA, rN, rRu, rSk, rPr, rNm, rLn, rNu] using b.1, ?_, fun m hm => ?_⟩
    · by_cases e : j = r
      · subst e
        simp [sI_1, up_at, remA, fup, b.2.1, rN, rRu, rSk, rPr, rNm, rLn, rNu]
        omega
      · simp [sI_1, up_at, remA, fup, e, b.2.1, rN, rRu, rSk, rPr, rNm, rLn, rNu]
    · by_cases e : j = r
      · subst e
        have hm' : m < ln j - 1 := by simpa [remA, fup, rN, rRu, rSk, rPr, rNm, rLn, rNu] using hm
        have eL2 : σ.1 (10, p, 0) j = ln j := eL
        have h7 : (↑i + 1 : Int).toNat = i + 1 := rfl
        have h8 : ((ln j : Int) - ↑i - 1).toNat = ln j - i - 1 := by omega
        by_cases h1 : m < i
        · have := b.2.2 m (by omega)
          simp [sI_1, up_at, remA, fup, cpy, h1, show ¬ (i ≤ m) by omega, this, rN, rRu, rSk, rPr, rNm, rLn, rNu]
        · have h5 := b.2.2 (m + 1) (by omega)
          have h6 : i + 1 + (m - i) = m + 1 := by omega
          simp [sI_1, up_at, remA, fup, cpy, h1, eL2, h7, h8, rN, rRu, rSk, rPr, rNm, rLn, rNu]
          rw [if_pos (by omega), h6, h5]
      · have hm' : m < ln j := by simpa [remA, fup, e, rN, rRu, rSk, rPr, rNm, rLn, rNu] using hm
        simp [sI_1, remA, fup, e, b.2.2 m hm', rN, rRu, rSk, rPr, rNm, rLn, rNu]
theorem s_X7_joinRows {d : Nat} {t : KT} {σ : SG} {p : Nat} {A : RA} (hA : Av A) (hR : Rep A σ p) {r s : Nat} (hr : r < rN A) (hs : s < rN A) (hl : rLn A r + rLn A s ≤ 60) : ∃ σ', Ca (d + 2) 54 [aR (some (8, p, 0)), aI (iZ (r : Int)), aI (iZ (s : Int))] (am_hp σ) t (.inl none, am_hp σ', t) ∧ Rep (joiA A r s) σ' p ∧ Fr (inR p) σ σ' := by
  have h4 := hA.1
  have e4 := hR.1
  have eL : σ.1 (10, p, 0) (r : Int).toNat = rLn A r := (hR.2.2.2.2 r hr).2.1
  have eS : σ.1 (10, p, 0) (s : Int).toNat = rLn A s := (hR.2.2.2.2 s hs).2.1
  refine ex_of (e_X7_joinRows ?_)
  have hc := s_X7_has (d := d) (t := t) (σ := σ) (p := p) (x := (r : Int)) (by omega) (by omega)
  have hc2 := s_X7_has (d := d) (t := t) (σ := σ) (p := p) (x := (s : Int)) (by omega) (by omega)
  refine b_X7_joinRows_0 hc bz_rg (fun h => ?_) (fun _ => ?_)
  · exact absurd (bz_0.mp h) (by rw [e4]; omega)
  refine b_X7_joinRows_8 hc2 bz_rg (fun h => ?_) (fun _ => ?_)
  · exact absurd (bz_0.mp h) (by rw [e4]; omega)
  refine b_X7_joinRows_16 (by omega) (by omega) (by rw [eL, eS]; omega) (fun _ => ?_) (fun h => by rw [eL, eS] at h; omega)
  refine b_X7_joinRows_35 (by omega) (by omega) (by rw [eL, eS]; omega) ⟨_, rfl, ?_, (Fr.sI (inRk rfl)).trans (Fr.sI (inRk rfl))⟩
  · obtain ⟨⟨n, ru, sk⟩, pr, nm, ln, nu⟩ := A
    obtain ⟨a1, a2, a3, a4, a5⟩ := hR
    simp only [rN, rRu, rSk, rPr, rNm, rLn, rNu] at *
    refine ⟨by simpa [sI_1, sJ_1, joiA, rN, rRu, rSk, rPr, rNm, rLn, rNu] using a1, by simpa [sI_1, sJ_1, joiA, rN, rRu, rSk, rPr, rNm, rLn, rNu] using a2, by simpa [sI_1, sJ_1, joiA, rN, rRu, rSk, rPr, rNm, rLn, rNu] using a3, fun w hw => by simpa [sI_1, sJ_1, joiA, rN, rRu, rSk, rPr, rNm, rLn, rNu] using a4 w hw, fun j hj => ?_⟩
    have b := a5 j (by simpa [joiA, rN, rRu, rSk, rPr, rNm, rLn, rNu] using hj)
    refine ⟨by simpa [sI_1, sI_2, joiA, rN, rRu, rSk, rPr, rNm, rLn, rNu] using b.1, ?_, fun m hm => ?_⟩
    · by_cases e : j = r
      · subst e
        have eS2 : σ.1 (10, p, 0) s = ln s := eS
        simp [sI_1, up_at, joiA, fup, b.2.1, eS2, rN, rRu, rSk, rPr, rNm, rLn, rNu]
      · simp [sI_1, up_at, joiA, fup, e, b.2.1, rN, rRu, rSk, rPr, rNm, rLn, rNu]
    · by_cases e : j = r
      · subst e
        have hm' : m < ln j + ln s := by simpa [joiA, fup, rN, rRu, rSk, rPr, rNm, rLn, rNu] using hm
        have eL2 : σ.1 (10, p, 0) j = ln j := eL
        have eS2 : σ.1 (10, p, 0) s = ln s := eS
        by_cases h1 : m < ln j
        · have := b.2.2 m (by omega)
          simp [sI_1, up_at, joiA, fup, cpy, h1, eL2, show ¬ (ln j ≤ m) by omega, this, rN, rRu, rSk, rPr, rNm, rLn, rNu]
        · have h5 := (a5 s hs).2.2 (m - ln j) (by omega)
          simp [sI_1, up_at, joiA, fup, cpy, h1, eL2, eS2, rN, rRu, rSk, rPr, rNm, rLn, rNu]
          rw [if_pos (by omega), h5]
      · have hm' : m < ln j := by simpa [joiA, fup, e, rN, rRu, rSk, rPr, rNm, rLn, rNu] using hm
        simp [sI_1, joiA, fup, e, b.2.2 m hm', rN, rRu, rSk, rPr, rNm, rLn, rNu]
