/-! THE MODEL: a command of a script is done -/
set_option maxRecDepth 4000
/-- the verdict on a command -/
abbrev VX (A : RA) (x : IT) : Nat := vdA A (iC x) (iN x) (rwA A (iN x)) (rwA A (iM x)) (iI x) (iV x)
theorem s_X12_hasName {t : KT} {σ : SG} {k c : Nat} (hk : k < 60) (h : σ.1 (55, 0, 0) k = (c : Int)) (hc : c < 10) : Ca 1 324 [aR (some (40, 0, 0)), aI (iZ ((k : Int)))] (am_hp σ) t (.inl (some (aI (iZ (bz (1 ≤ c ∧ c ≤ 5))))), am_hp σ, t) := by
  refine ca_of (e_X12_hasName ?_)
  refine b_X12_hasName_0 (by omega) (by rw [Int.toNat_natCast]; omega) (fun q => ?_) (fun q => ?_)
  · rw [Int.toNat_natCast] at q
    rw [bz_f (by omega)]
    exact b_X12_hasName_24 (b_X12_hasName_25 (by omega) rfl)
  · rw [Int.toNat_natCast] at q
    refine b_X12_hasName_10 (by omega) (by rw [Int.toNat_natCast]; omega) (fun q2 => ?_) (fun q2 => ?_)
    · rw [Int.toNat_natCast] at q2
      rw [bz_f (by omega)]
      exact b_X12_hasName_24 (b_X12_hasName_25 (by omega) rfl)
    · rw [Int.toNat_natCast] at q2
      rw [bz_t (by omega)]
      exact b_X12_hasName_20 (b_X12_hasName_25 (by omega) rfl)
theorem isR_rw {A : RA} {nm : List Nat} : isR A (rwA A nm) ↔ rwA A nm ≠ -1 := by
  have := rwA_bd A nm
  constructor
  · intro h z; omega
  · intro h; omega
theorem inV_ok {A : RA} {x i v : Int} : (inV A x i v = 0 ∨ 2 < inV A x i v) ↔ ((isR A x ∧ 0 ≤ i ∧ i ≤ rLn A x.toNat) ∧ (0 ≤ v ∧ v ≤ 268435455)) := by
  unfold inV
  by_cases h1 : isR A x ∧ 0 ≤ i ∧ i ≤ rLn A x.toNat
  · rw [if_neg (fun z => z h1)]
    by_cases h2 : 0 ≤ v ∧ v ≤ 268435455
    · rw [if_neg (fun z => z h2)]
      refine ⟨fun _ => ⟨h1, h2⟩, fun _ => ?_⟩
      split <;> omega
    · rw [if_pos h2]
      exact ⟨fun z => by omega, fun z => absurd z.2 h2⟩
  · rw [if_pos h1]
    exact ⟨fun z => by omega, fun z => absurd z.1 h1⟩
theorem inV_val {A : RA} {x i v : Int} (h : inV A x i v = 0 ∨ 2 < inV A x i v) : inV A x i v = if 60 < rLn A x.toNat + 1 then 103 else 0 := by
  have hk := inV_ok.mp h
  unfold inV
  rw [if_neg (fun z => z hk.1), if_neg (fun z => z hk.2)]
  by_cases q : 60 ≤ rLn A x.toNat
  · rw [if_pos q, if_pos (by omega)]
  · rw [if_neg q, if_neg (by omega)]
theorem s_X12_isAsked {t : KT} {σ : SG} {A : RA} {k : Nat} {x : IT} (hA : MA A σ) (hJ : JSt σ k x) (hk : k < 60) : Ca 4 325 [aR (some (40, 0, 0)), aI (iZ ((k : Int)))] (am_hp σ) t (.inl (some (aI (iZ (bz (VX A x = 0 ∨ 2 < VX A x))))), am_hp σ, t) := by
  obtain ⟨c, nm, om, i, v⟩ := x
  obtain ⟨e55, h9, hn, hm, hi, hv⟩ := hJ
  have e55 : σ.1 (55, 0, 0) k = (c : Int) := e55
  have h9 : c < 9 := h9
  have hn : c ≤ 5 → σ.2.1 (60, 0, 0) k = (mN nm : Int) ∧ ltL nm ∧ nm.length ≤ 8 := hn
  have hm : c = 5 → σ.2.1 (61, 0, 0) k = (mN om : Int) ∧ ltL om ∧ om.length ≤ 8 := hm
  have hi : hasI c = true → σ.1 (56, 0, 0) k = i ∧ 0 ≤ i ∧ i ≤ 999999999 := hi
  have hv : hasV c = true → (hasI c = false → σ.1 (56, 0, 0) k = v) ∧ (hasI c = true → σ.1 (57, 0, 0) k = v) ∧ 0 ≤ v ∧ v ≤ 999999999 := hv
  have hb := rwA_bd A nm
  have rg := rwA_rg hA.1 nm
  have rg2 := rwA_rg hA.1 om
  have hR := isR_rw (A := A) (nm := nm)
  have hR2 := isR_rw (A := A) (nm := om)
  have ea : ((k : Int)).toNat = k := Int.toNat_natCast k
  refine ca_of (e_X12_isAsked ?_)
  have h37 : ∀ x3 : Int, (1 ≤ c ∧ c ≤ 5 → x3 = rwA A nm ∧ rwA A nm ≠ -1) → Wp k_X12_isAsked 3 (37, [some (aR (some (40, 0, 0))), some (aI (iZ ((k : Int)))), some (aI (iZ (σ.1 (56, 0, 0) k))), some (aI (iZ x3))], [], am_hp σ, t) (fun r => r = (.inl (some (aI (iZ (bz (VX A (c, nm, om, i, v) = 0 ∨ 2 < VX A (c, nm, om, i, v)))))), am_hp σ, t)) := by
    intro x3 hx
    refine b_X12_isAsked_37 (by omega) (by rw [ea]; omega) (fun q => ?_) (fun q => ?_) (fun q => ?_) (fun q => ?_) (fun q => ?_) (fun q => ?_) (fun q => ?_) (fun q => ?_) (fun q => ?_)
    · have hc : c = 1 := by rw [ea] at q; omega
      subst hc
      obtain ⟨rfl, hr⟩ := hx (by omega)
      have e := (hv rfl).1 rfl
      have hvr := (hv rfl).2.2
      rw [e]
      refine b_X12_isAsked_88 ((s_X12_isValue (by omega)).up (by omega)) bz_01 ?_
      have hV : (VX A (1, nm, om, i, v) = 0 ∨ 2 < VX A (1, nm, om, i, v)) ↔ (0 ≤ v ∧ v ≤ 268435455) := by
        show (inV A (rwA A nm) (if isR A (rwA A nm) then (rLn A (rwA A nm).toNat : Int) else 0) v = 0 ∨ 2 < inV A (rwA A nm) (if isR A (rwA A nm) then (rLn A (rwA A nm).toNat : Int) else 0) v) ↔ _
        rw [inV_ok, if_pos (hR.mpr hr)]
        exact ⟨fun z => z.2, fun z => ⟨⟨hR.mpr hr, by omega, Int.le_refl _⟩, z⟩⟩
      by_cases q1 : 0 ≤ v ∧ v ≤ 268435455
      · rw [bz_t q1, bz_t (hV.mpr q1)]
      · rw [bz_f q1, bz_f (fun z => q1 (hV.mp z))]
    · have hc : c = 2 := by rw [ea] at q; omega
      subst hc
      obtain ⟨rfl, hr⟩ := hx (by omega)
      have e := (hi rfl).1
      have hir := (hi rfl).2
      have e57 := (hv rfl).2.1 rfl
      have hvr := (hv rfl).2.2
      have hV : VX A (2, nm, om, i, v) = if isN A (rwA A nm) i then (if 0 ≤ v ∧ v ≤ 268435455 then 0 else 2) else 1 := rfl
      rw [e]
      refine b_X12_isAsked_93 ((s_X12_isNumber hA rg (by omega)).up (by omega)) bz_rg (fun q1 => b_X12_isAsked_118 (b_X12_isAsked_119 (by omega) ?_)) (fun q1 => ?_)
      · rw [if_neg (bz_0.mp q1)] at hV
        rw [bz_f (by omega)]
      · rw [if_pos (bz_n.mp q1)] at hV
        refine b_X12_isAsked_102 (by omega) (by rw [ea, e57]; exact (s_X12_isValue (by omega)).up (by omega)) bz_rg (fun q2 => b_X12_isAsked_118 (b_X12_isAsked_119 (by omega) ?_)) (fun q2 => b_X12_isAsked_114 (b_X12_isAsked_119 (by omega) ?_))
        · rw [if_neg (bz_0.mp q2)] at hV
          rw [bz_f (by omega)]
        · rw [if_pos (bz_n.mp q2)] at hV
          rw [bz_t (by omega)]
    · have hc : c = 3 := by rw [ea] at q; omega
      subst hc
      obtain ⟨rfl, hr⟩ := hx (by omega)
      have e := (hi rfl).1
      have hir := (hi rfl).2
      have e57 := (hv rfl).2.1 rfl
      have hvr := (hv rfl).2.2
      have hV : (VX A (3, nm, om, i, v) = 0 ∨ 2 < VX A (3, nm, om, i, v)) ↔ ((isR A (rwA A nm) ∧ 0 ≤ i ∧ i ≤ rLn A (rwA A nm).toNat) ∧ (0 ≤ v ∧ v ≤ 268435455)) := inV_ok
      rw [e]
      refine b_X12_isAsked_120 ((s_X12_isPlace hA rg (by omega)).up (by omega)) bz_rg (fun q1 => b_X12_isAsked_145 (b_X12_isAsked_146 (by omega) ?_)) (fun q1 => ?_)
      · rw [bz_f (fun z => bz_0.mp q1 (hV.mp z).1)]
      · refine b_X12_isAsked_129 (by omega) (by rw [ea, e57]; exact (s_X12_isValue (by omega)).up (by omega)) bz_rg (fun q2 => b_X12_isAsked_145 (b_X12_isAsked_146 (by omega) ?_)) (fun q2 => b_X12_isAsked_141 (b_X12_isAsked_146 (by omega) ?_))
        · rw [bz_f (fun z => bz_0.mp q2 (hV.mp z).2)]
        · rw [bz_t (hV.mpr ⟨bz_n.mp q1, bz_n.mp q2⟩)]
    · have hc : c = 4 := by rw [ea] at q; omega
      subst hc
      obtain ⟨rfl, hr⟩ := hx (by omega)
      have e := (hi rfl).1
      have hir := (hi rfl).2
      have hV : VX A (4, nm, om, i, v) = if isN A (rwA A nm) i then 0 else 1 := rfl
      rw [e]
      refine b_X12_isAsked_147 ((s_X12_isNumber hA rg (by omega)).up (by omega)) bz_01 ?_
      by_cases q1 : isN A (rwA A nm) i
      · rw [if_pos q1] at hV
        rw [bz_t q1, bz_t (by omega)]
      · rw [if_neg q1] at hV
        rw [bz_f q1, bz_f (by omega)]
    · have hc : c = 5 := by rw [ea] at q; omega
      subst hc
      obtain ⟨rfl, hr⟩ := hx (by omega)
      have hm5 := hm rfl
      have hV : VX A (5, nm, om, i, v) = if ¬ (isR A (rwA A nm) ∧ isR A (rwA A om)) then 1 else if 60 < rLn A (rwA A nm).toNat + rLn A (rwA A om).toNat then 103 else 0 := rfl
      refine b_X12_isAsked_154 (by omega) (by rw [ea, hm5.1]; exact (s_X12_rowNamed hA hm5.2.1 hm5.2.2).up (by omega)) rg2 (fun q1 => b_X12_isAsked_172 (b_X12_isAsked_173 (by omega) ?_)) (fun q1 => b_X12_isAsked_168 (b_X12_isAsked_173 (by omega) ?_))
      · rw [if_pos (fun z => hR2.mp z.2 q1)] at hV
        rw [bz_f (by omega)]
      · rw [if_neg (fun z => z ⟨hR.mpr hr, hR2.mpr q1⟩)] at hV
        rw [bz_t (by rw [hV]; split <;> omega)]
    · have hc : c = 6 := by rw [ea] at q; omega
      subst hc
      have e := (hv rfl).1 rfl
      have hvr := (hv rfl).2.2
      have hV : VX A (6, nm, om, i, v) = if 0 ≤ v ∧ v ≤ 2 then 0 else 2 := rfl
      rw [e]
      refine b_X12_isAsked_174 ((s_X12_isRule (by omega)).up (by omega)) bz_01 ?_
      by_cases q1 : 0 ≤ v ∧ v ≤ 2
      · rw [if_pos q1] at hV
        rw [bz_t q1, bz_t (by omega)]
      · rw [if_neg q1] at hV
        rw [bz_f q1, bz_f (by omega)]
    · have hc : c = 7 := by rw [ea] at q; omega
      subst hc
      have e := (hv rfl).1 rfl
      have hvr := (hv rfl).2.2
      have hV : VX A (7, nm, om, i, v) = if 1 ≤ v ∧ v ≤ 9 then 0 else 2 := rfl
      rw [e]
      refine b_X12_isAsked_179 ((s_X12_isSkip (by omega)).up (by omega)) bz_01 ?_
      by_cases q1 : 1 ≤ v ∧ v ≤ 9
      · rw [if_pos q1] at hV
        rw [bz_t q1, bz_t (by omega)]
      · rw [if_neg q1] at hV
        rw [bz_f q1, bz_f (by omega)]
    · have hc : c = 8 := by rw [ea] at q; omega
      subst hc
      have e := (hi rfl).1
      have hir := (hi rfl).2
      have e57 := (hv rfl).2.1 rfl
      have hvr := (hv rfl).2.2
      have hV : VX A (8, nm, om, i, v) = if ¬ (0 ≤ i ∧ i < 9) then 1 else if 0 ≤ v ∧ v ≤ 99 then 0 else 2 := rfl
      rw [e]
      refine b_X12_isAsked_184 ((s_X12_isWay (by omega)).up (by omega)) bz_rg (fun q1 => b_X12_isAsked_207 (b_X12_isAsked_208 (by omega) ?_)) (fun q1 => ?_)
      · have := bz_0.mp q1
        rw [if_pos (by omega)] at hV
        rw [bz_f (by omega)]
      · have := bz_n.mp q1
        rw [if_neg (by omega)] at hV
        refine b_X12_isAsked_191 (by omega) (by rw [ea, e57]; exact (s_X12_isPrice (by omega)).up (by omega)) bz_rg (fun q2 => b_X12_isAsked_207 (b_X12_isAsked_208 (by omega) ?_)) (fun q2 => b_X12_isAsked_203 (b_X12_isAsked_208 (by omega) ?_))
        · rw [if_neg (bz_0.mp q2)] at hV
          rw [bz_f (by omega)]
        · rw [if_pos (bz_n.mp q2)] at hV
          rw [bz_t (by omega)]
    · have hc : c = 0 := by rw [ea] at q; omega
      subst hc
      have hV : VX A (0, nm, om, i, v) = if 4 ≤ rN A then 101 else if nm = [] ∨ rwA A nm ≠ -1 then 102 else 0 := rfl
      refine b_X12_isAsked_209 ?_
      rw [bz_t (by
        rw [hV]
        split
        · omega
        · split <;> omega)]
  refine b_X12_isAsked_0 (by omega) ((s_X12_hasName hk e55 (by omega)).up (by omega)) bz_rg (fun q => b_X12_isAsked_28 ?_) (fun q => ?_)
  · rw [ea]
    exact b_X12_isAsked_29 (by omega) (fun _ => h37 0 (fun z => absurd z (bz_0.mp q))) (fun z => by omega)
  · have hc := bz_n.mp q
    have hn5 := hn (by omega)
    rw [ea]
    refine b_X12_isAsked_15 (by omega) (by rw [ea, hn5.1]; exact (s_X12_rowNamed hA hn5.2.1 hn5.2.2).up (by omega)) ?_
    refine b_X12_isAsked_29 rg (fun z => h37 _ (fun _ => ⟨rfl, z⟩)) (fun z => b_X12_isAsked_35 ?_)
    have hV1 : VX A (c, nm, om, i, v) = 1 := by
      rcases (show c = 1 ∨ c = 2 ∨ c = 3 ∨ c = 4 ∨ c = 5 by omega) with h | h | h | h | h <;> subst h
      · show inV A (rwA A nm) (if isR A (rwA A nm) then (rLn A (rwA A nm).toNat : Int) else 0) v = 1
        unfold inV
        rw [if_pos (fun y => hR.mp y.1 z)]
      · show (if isN A (rwA A nm) i then (if 0 ≤ v ∧ v ≤ 268435455 then 0 else 2) else 1) = 1
        rw [if_neg (fun y => hR.mp y.1 z)]
      · show inV A (rwA A nm) i v = 1
        unfold inV
        rw [if_pos (fun y => hR.mp y.1 z)]
      · show (if isN A (rwA A nm) i then 0 else 1) = 1
        rw [if_neg (fun y => hR.mp y.1 z)]
      · show (if ¬ (isR A (rwA A nm) ∧ isR A (rwA A om)) then 1 else if 60 < rLn A (rwA A nm).toNat + rLn A (rwA A om).toNat then 103 else 0) = 1
        rw [if_pos (fun y => hR.mp y.1 z)]
    rw [bz_f (by omega)]
theorem s_X12_whyNot {t : KT} {σ : SG} {A : RA} {k : Nat} {x : IT} (hA : MA A σ) (hJ : JSt σ k x) (hk : k < 60) (hV : VX A x = 0 ∨ 2 < VX A x) : Ca 5 326 [aR (some (40, 0, 0)), aI (iZ ((k : Int)))] (am_hp σ) t (.inl (some (aI (iZ ((VX A x : Int))))), am_hp σ, t) := by
  obtain ⟨c, nm, om, i, v⟩ := x
  obtain ⟨e55, h9, hn, hm, hi, hv⟩ := hJ
  have e55 : σ.1 (55, 0, 0) k = (c : Int) := e55
  have h9 : c < 9 := h9
  have hn : c ≤ 5 → σ.2.1 (60, 0, 0) k = (mN nm : Int) ∧ ltL nm ∧ nm.length ≤ 8 := hn
  have hm : c = 5 → σ.2.1 (61, 0, 0) k = (mN om : Int) ∧ ltL om ∧ om.length ≤ 8 := hm
  have hR := isR_rw (A := A) (nm := nm)
  have ea : ((k : Int)).toNat = k := Int.toNat_natCast k
  refine ca_of (e_X12_whyNot ?_)
  have h100 : VX A (c, nm, om, i, v) ≤ 2 → Wp k_X12_whyNot 4 (100, [some (aR (some (40, 0, 0))), some (aI (iZ ((k : Int))))], [], am_hp σ, t) (fun r => r = (.inl (some (aI (iZ ((VX A (c, nm, om, i, v) : Int))))), am_hp σ, t)) := fun z => b_X12_whyNot_100 (by
    rw [show VX A (c, nm, om, i, v) = 0 by omega]
    rfl)
  have h55 : (c = 1 ∨ c = 3) → Wp k_X12_whyNot 4 (55, [some (aR (some (40, 0, 0))), some (aI (iZ ((k : Int))))], [], am_hp σ, t) (fun r => r = (.inl (some (aI (iZ ((VX A (c, nm, om, i, v) : Int))))), am_hp σ, t)) := fun hc => by
    have hn5 := hn (by omega)
    have hval : isR A (rwA A nm) ∧ VX A (c, nm, om, i, v) = if 60 < rLn A (rwA A nm).toNat + 1 then 103 else 0 := by
      rcases hc with h | h <;> subst h
      · exact ⟨(inV_ok.mp hV).1.1, inV_val hV⟩
      · exact ⟨(inV_ok.mp hV).1.1, inV_val hV⟩
    have hr := isR_n hval.1
    have cw := s_X12_whyNoMore (t := t) (m := 1) hA hr.1 (by omega)
    rw [hr.2, ← hval.2] at cw
    exact b_X12_whyNot_55 (by omega) (by rw [ea, hn5.1]; exact (s_X12_rowNamed hA hn5.2.1 hn5.2.2).up (by omega)) (cw.up (by omega)) rfl
  refine b_X12_whyNot_0 (by omega) (by rw [ea]; omega) (fun q => ?_) (fun q => ?_) (fun q => ?_) (fun q => ?_) (fun q => ?_) (fun q => ?_) (fun q => ?_)
  · have hc : c = 0 := by rw [ea] at q; omega
    subst hc
    have hn5 := hn (by omega)
    exact b_X12_whyNot_44 (by omega) (by rw [ea, hn5.1]; exact (s_X12_whyNoAdd hA hn5.2.1 hn5.2.2).up (by omega)) rfl
  · exact h55 (Or.inl (by rw [ea] at q; omega))
  · have hc : c = 2 := by rw [ea] at q; omega
    subst hc
    refine h100 ?_
    show (if isN A (rwA A nm) i then (if 0 ≤ v ∧ v ≤ 268435455 then 0 else 2) else 1) ≤ 2
    split
    · split <;> omega
    · omega
  · exact h55 (Or.inr (by rw [ea] at q; omega))
  · have hc : c = 4 := by rw [ea] at q; omega
    subst hc
    refine h100 ?_
    show (if isN A (rwA A nm) i then 0 else 1) ≤ 2
    split <;> omega
  · have hc : c = 5 := by rw [ea] at q; omega
    subst hc
    have hn5 := hn (by omega)
    have hm5 := hm rfl
    have eV : VX A (5, nm, om, i, v) = if ¬ (isR A (rwA A nm) ∧ isR A (rwA A om)) then 1 else if 60 < rLn A (rwA A nm).toNat + rLn A (rwA A om).toNat then 103 else 0 := rfl
    have hRR : isR A (rwA A nm) ∧ isR A (rwA A om) := by
      apply Decidable.byContradiction
      intro z
      rw [if_pos z] at eV
      omega
    rw [if_neg (fun z => z hRR)] at eV
    have hr := isR_n hRR.1
    have hs := isR_n hRR.2
    have cm := s_X12_manyIn (t := t) hA hs.1
    rw [hs.2] at cm
    have cw := s_X12_whyNoMore (t := t) (m := rLn A (rwA A om).toNat) hA hr.1 (hA.len hs.1).2
    rw [hr.2, ← eV] at cw
    exact b_X12_whyNot_71 (by omega) (by rw [ea, hn5.1]; exact (s_X12_rowNamed hA hn5.2.1 hn5.2.2).up (by omega)) (by rw [ea, hm5.1]; exact (s_X12_rowNamed hA hm5.2.1 hm5.2.2).up (by omega)) (cm.up (by omega)) (cw.up (by omega)) rfl
  · have hc : 6 ≤ c := by rw [ea] at q; omega
    refine h100 ?_
    rcases (show c = 6 ∨ c = 7 ∨ c = 8 by omega) with h | h | h <;> subst h
    · show (if 0 ≤ v ∧ v ≤ 2 then 0 else 2) ≤ 2
      split <;> omega
    · show (if 1 ≤ v ∧ v ≤ 9 then 0 else 2) ≤ 2
      split <;> omega
    · show (if ¬ (0 ≤ i ∧ i < 9) then 1 else if 0 ≤ v ∧ v ≤ 99 then 0 else 2) ≤ 2
      split
      · omega
      · split <;> omega
abbrev DX (A : RA) (x : IT) : RA := doA A (iC x) (iN x) (rwA A (iN x)) (rwA A (iM x)) (iI x) (iV x)
theorem s_X12_does {t : KT} {σ : SG} {A : RA} {k : Nat} {x : IT} (hA : MA A σ) (hJ : JSt σ k x) (hk : k < 60) (hV : VX A x = 0) : ∃ σ', Ca 5 327 [aR (some (40, 0, 0)), aI (iZ ((k : Int)))] (am_hp σ) t (.inl none, am_hp σ', t) ∧ MA (DX A x) σ' ∧ Fr in42 σ σ' := by
  obtain ⟨c, nm, om, i, v⟩ := x
  obtain ⟨e55, h9, hn, hm, hi, hv⟩ := hJ
  have e55 : σ.1 (55, 0, 0) k = (c : Int) := e55
  have h9 : c < 9 := h9
  have hn : c ≤ 5 → σ.2.1 (60, 0, 0) k = (mN nm : Int) ∧ ltL nm ∧ nm.length ≤ 8 := hn
  have hm : c = 5 → σ.2.1 (61, 0, 0) k = (mN om : Int) ∧ ltL om ∧ om.length ≤ 8 := hm
  have hi : hasI c = true → σ.1 (56, 0, 0) k = i ∧ 0 ≤ i ∧ i ≤ 999999999 := hi
  have hv : hasV c = true → (hasI c = false → σ.1 (56, 0, 0) k = v) ∧ (hasI c = true → σ.1 (57, 0, 0) k = v) ∧ 0 ≤ v ∧ v ≤ 999999999 := hv
  have hAv : Av (DX A (c, nm, om, i, v)) := Av_do hA.1 hV (fun z => by have := hn (by have z : c = 0 := z; omega); exact this.2)
  have rg := rwA_rg hA.1 nm
  have ea : ((k : Int)).toNat = k := Int.toNat_natCast k
  refine ex_of (e_X12_does ?_)
  have h29 : ∀ x3 : Int, (1 ≤ c ∧ c ≤ 5 → x3 = rwA A nm) → Wp k_X12_does 4 (29, [some (aR (some (40, 0, 0))), some (aI (iZ ((k : Int)))), some (aI (iZ (σ.1 (56, 0, 0) k))), none, none], [aI (iZ x3)], am_hp σ, t) (fun r => ∃ σ', r = (.inl none, am_hp σ', t) ∧ MA (DX A (c, nm, om, i, v)) σ' ∧ Fr in42 σ σ') := by
    intro x3 hx
    refine b_X12_does_29 (by omega) (by rw [ea]; omega) (fun q => ?_) (fun q => ?_) (fun q => ?_) (fun q => ?_) (fun q => ?_) (fun q => ?_) (fun q => ?_) (fun q => ?_) (fun q => ?_)
    · have hc : c = 0 := by rw [ea] at q; omega
      subst hc
      have hn5 := hn (by omega)
      have eV : (if 4 ≤ rN A then 101 else if nm = [] ∨ rwA A nm ≠ -1 then 102 else 0) = 0 := hV
      have h4 : ¬ 4 ≤ rN A := fun z => by rw [if_pos z] at eV; omega
      rw [if_neg h4] at eV
      have h5 : ¬ (nm = [] ∨ rwA A nm ≠ -1) := fun z => by rw [if_pos z] at eV; omega
      have ho : okNm nm := ⟨by
        cases e : nm with
        | nil => exact absurd (Or.inl e) h5
        | cons a l => simp, hn5.2.2, hn5.2.1⟩
      obtain ⟨σ1, c1, w1, f1⟩ := s_X12_addsRow (t := t) hA (by omega) ho
      exact b_X12_does_84 (by omega) (by rw [ea, hn5.1]; exact c1.up (by omega)) (b_X12_does_202 ⟨σ1, rfl, w1, f1⟩)
    · have hc : c = 1 := by rw [ea] at q; omega
      subst hc
      have hx := hx (by omega)
      subst hx
      have hk1 := inV_0 hV
      have hr := isR_n hk1.1
      obtain ⟨σ1, c1, m1, f1⟩ := s_X12_appends (t := t) (v := v) hA hr.1 hk1.2.2.2
      rw [hr.2] at c1
      refine b_X12_does_99 (by rw [(hv rfl).1 rfl]; exact c1.up (by omega)) (b_X12_does_202 ⟨σ1, rfl, ⟨hAv, m1⟩, f1⟩)
    · have hc : c = 2 := by rw [ea] at q; omega
      subst hc
      have hx := hx (by omega)
      subst hx
      have eV : (if isN A (rwA A nm) i then (if 0 ≤ v ∧ v ≤ 268435455 then 0 else 2) else 1) = 0 := hV
      have hN : isN A (rwA A nm) i := by
        apply Decidable.byContradiction
        intro z
        rw [if_neg z] at eV
        omega
      have hr := isR_n hN.1
      have hi2 : ((i.toNat : Nat) : Int) = i ∧ i.toNat < rLn A (rwA A nm).toNat := by have := hN.2; omega
      obtain ⟨σ1, c1, m1, f1⟩ := s_X12_putsValue (t := t) (v := v) hA hr.1 hi2.2
      rw [hr.2, hi2.1] at c1
      exact b_X12_does_108 (by omega) (by rw [ea, (hv rfl).2.1 rfl, (hi rfl).1]; exact c1.up (by omega)) (b_X12_does_202 ⟨σ1, rfl, ⟨hAv, m1⟩, f1⟩)
    · have hc : c = 3 := by rw [ea] at q; omega
      subst hc
      have hx := hx (by omega)
      subst hx
      have hk1 := inV_0 hV
      have hr := isR_n hk1.1
      have hi2 : ((i.toNat : Nat) : Int) = i ∧ i.toNat ≤ rLn A (rwA A nm).toNat := by have : 0 ≤ i ∧ i ≤ rLn A (rwA A nm).toNat := hk1.2.1; omega
      obtain ⟨σ1, c1, m1, f1⟩ := s_X12_insertsAt (t := t) (v := v) hA hr.1 hk1.2.2.2 hi2.2
      rw [hr.2, hi2.1] at c1
      exact b_X12_does_123 (by omega) (by rw [ea, (hv rfl).2.1 rfl, (hi rfl).1]; exact c1.up (by omega)) (b_X12_does_202 ⟨σ1, rfl, ⟨hAv, m1⟩, f1⟩)
    · have hc : c = 4 := by rw [ea] at q; omega
      subst hc
      have hx := hx (by omega)
      subst hx
      have eV : (if isN A (rwA A nm) i then 0 else 1) = 0 := hV
      have hN : isN A (rwA A nm) i := by
        apply Decidable.byContradiction
        intro z
        rw [if_neg z] at eV
        omega
      have hr := isR_n hN.1
      have hi2 : ((i.toNat : Nat) : Int) = i ∧ i.toNat < rLn A (rwA A nm).toNat := by have := hN.2; omega
      obtain ⟨σ1, c1, m1, f1⟩ := s_X12_removesAt (t := t) hA hr.1 hi2.2
      rw [hr.2, hi2.1] at c1
      exact b_X12_does_138 (by rw [(hi rfl).1]; exact c1.up (by omega)) (b_X12_does_202 ⟨σ1, rfl, ⟨hAv, m1⟩, f1⟩)
    · have hc : c = 5 := by rw [ea] at q; omega
      subst hc
      have hx := hx (by omega)
      subst hx
      have hm5 := hm rfl
      have eV : (if ¬ (isR A (rwA A nm) ∧ isR A (rwA A om)) then 1 else if 60 < rLn A (rwA A nm).toNat + rLn A (rwA A om).toNat then 103 else 0) = 0 := hV
      have hRR : isR A (rwA A nm) ∧ isR A (rwA A om) := by
        apply Decidable.byContradiction
        intro z
        rw [if_pos z] at eV
        omega
      rw [if_neg (fun z => z hRR)] at eV
      have h60 : ¬ 60 < rLn A (rwA A nm).toNat + rLn A (rwA A om).toNat := fun z => by rw [if_pos z] at eV; omega
      have hr := isR_n hRR.1
      have hs := isR_n hRR.2
      obtain ⟨σ1, c1, m1, f1⟩ := s_X12_joins (t := t) hA hr.1 hs.1 (by omega)
      rw [hr.2, hs.2] at c1
      exact b_X12_does_147 (by omega) (by rw [ea, hm5.1]; exact (s_X12_rowNamed hA hm5.2.1 hm5.2.2).up (by omega)) (c1.up (by omega)) (b_X12_does_202 ⟨σ1, rfl, ⟨hAv, m1⟩, f1⟩)
    · have hc : c = 6 := by rw [ea] at q; omega
      subst hc
      have hvr := (hv rfl).2.2
      have cs := s_X12_setsCell (t := t) (σ := σ) (k := 1) (z := v) (by omega)
      refine b_X12_does_165 (by rw [(hv rfl).1 rfl]; exact cs.up (by omega)) (b_X12_does_202 ⟨_, rfl, ⟨hAv, ?_⟩, Fr.sI (P := in42) rfl⟩)
      rw [sI_1, if_pos rfl]
      exact hA.2.ru hvr.1
    · have hc : c = 7 := by rw [ea] at q; omega
      subst hc
      have hvr := (hv rfl).2.2
      have cs := s_X12_setsCell (t := t) (σ := σ) (k := 2) (z := v) (by omega)
      refine b_X12_does_176 (by rw [(hv rfl).1 rfl]; exact cs.up (by omega)) (b_X12_does_202 ⟨_, rfl, ⟨hAv, ?_⟩, Fr.sI (P := in42) rfl⟩)
      rw [sI_1, if_pos rfl]
      exact hA.2.sk hvr.1
    · have hc : c = 8 := by rw [ea] at q; omega
      subst hc
      have hvr := (hv rfl).2.2
      have eV : (if ¬ (0 ≤ i ∧ i < 9) then 1 else if 0 ≤ v ∧ v ≤ 99 then 0 else 2) = 0 := hV
      have hi9 : 0 ≤ i ∧ i < 9 := by
        apply Decidable.byContradiction
        intro z
        rw [if_pos z] at eV
        omega
      have cs := s_X12_setsCell (t := t) (σ := σ) (k := 3 + i.toNat) (z := v) (by omega)
      rw [show ((3 + i.toNat : Nat) : Int) = 3 + i by omega] at cs
      refine b_X12_does_187 (by omega) (by rw [ea, (hv rfl).2.1 rfl, (hi rfl).1]; exact cs.up (by omega)) (b_X12_does_202 ⟨_, rfl, ⟨hAv, ?_⟩, Fr.sI (P := in42) rfl⟩)
      rw [sI_1, if_pos rfl]
      exact hA.2.pr (by show i.toNat < 9; omega)
  refine b_X12_does_0 (by omega) ((s_X12_hasName hk e55 (by omega)).up (by omega)) bz_rg (fun q => b_X12_does_28 ?_) (fun q => ?_)
  · rw [ea]
    exact h29 0 (fun z => absurd z (bz_0.mp q))
  · have hc := bz_n.mp q
    have hn5 := hn (by omega)
    rw [ea]
    exact b_X12_does_15 (by omega) (by rw [ea, hn5.1]; exact (s_X12_rowNamed hA hn5.2.1 hn5.2.2).up (by omega)) (h29 _ (fun _ => rfl))
/-- what a refusal changes -/
def inDo (L : Lc) : Prop := L.1 = 40 ∨ L.1 = 42 ∨ L.1 = 58 ∨ L.1 = 59
def KMr (dp : Nat) (σ σ' : SG) : Prop := Fr inDo σ σ' ∧ (∀ j, j ≠ 19 → j ≠ 21 → σ'.1 (40, 0, 0) j = σ.1 (40, 0, 0) j) ∧ ∀ i, i < dp → σ'.1 (58, 0, 0) i = σ.1 (58, 0, 0) i ∧ σ'.1 (59, 0, 0) i = σ.1 (59, 0, 0) i
theorem KMr.refl (dp : Nat) (σ : SG) : KMr dp σ σ := ⟨Fr.refl _ _, fun _ _ _ => rfl, fun _ _ => ⟨rfl, rfl⟩⟩
theorem KMr.trans {dp : Nat} {a b c : SG} (h : KMr dp a b) (g : KMr dp b c) : KMr dp a c := ⟨h.1.trans g.1, fun j h1 h2 => (g.2.1 j h1 h2).trans (h.2.1 j h1 h2), fun i hi => ⟨(g.2.2 i hi).1.trans (h.2.2 i hi).1, (g.2.2 i hi).2.trans (h.2.2 i hi).2⟩⟩
theorem KMr.low {dp : Nat} {a b : SG} (h : KMr (dp + 1) a b) : KMr dp a b := ⟨h.1, h.2.1, fun i hi => h.2.2 i (by omega)⟩
theorem KMr.ag {dp : Nat} {σ σ' : SG} (h : KMr dp σ σ') (k : Nat) : AGs σ σ' k := by
  have o : ∀ a : Nat, (a = 55 ∨ a = 56 ∨ a = 57 ∨ a = 60 ∨ a = 61) → ¬ inDo (a, 0, 0) := fun a ha q => by
    unfold inDo at q
    dsimp only at q
    omega
  unfold AGs
  rw [(h.1.1 _ (o 55 (by omega))).1, (h.1.1 _ (o 56 (by omega))).1, (h.1.1 _ (o 57 (by omega))).1, (h.1.1 _ (o 60 (by omega))).2.1, (h.1.1 _ (o 61 (by omega))).2.1]
  exact ⟨rfl, rfl, rfl, rfl, rfl⟩
theorem KMr.r {dp : Nat} {σ σ' : SG} (f : Fr in42 σ σ') : KMr dp σ σ' := ⟨f.mono (fun L q => by
  have q : L = (42, 0, 0) := q
  subst q; exact Or.inr (Or.inl rfl)), fun j _ _ => by rw [(f.1 _ n40_42).1], fun i _ => ⟨by rw [(f.1 (58, 0, 0) (fun q => absurd (congrArg (fun L : Lc => L.1) q) (by decide))).1], by rw [(f.1 (59, 0, 0) (fun q => absurd (congrArg (fun L : Lc => L.1) q) (by decide))).1]⟩⟩
/-- while a script runs on the model -/
def RX (S : SS) (X : XS) (σ : SG) : Prop := MA X.1 σ ∧ σ.1 (40, 0, 0) 18 = xC S 0 ∧ σ.1 (40, 0, 0) 19 = X.2.1 1 ∧ σ.1 (40, 0, 0) 21 = X.2.2.1 ∧ (X.2.1 0 = xC S 0 + (X.2.2.2.1 : Int) ∧ X.2.1 2 = xC S 2 ∧ X.2.1 3 = xC S 3) ∧ (X.2.2.2.2 = true → X.2.2.2.1 < 40) ∧ X.2.2.2.1 ≤ 40
theorem s_X12_mayDo {t : KT} {σ : SG} {S : SS} {X : XS} {k : Nat} {x : IT} (h : RX S X σ) (hJ : JSt σ k x) (hk : k < 60) : ∃ σ', Ca 6 328 [aR (some (40, 0, 0)), aI (iZ ((k : Int)))] (am_hp σ) t (.inl (some (aI (iZ (bz (VX X.1 x = 0))))), am_hp σ', t) ∧ (VX X.1 x = 0 → σ' = σ) ∧ (VX X.1 x ≠ 0 → RX S (stX X x) σ') ∧ ∀ dp, KMr dp σ σ' := by
  obtain ⟨hA, e18, e19, e21, hC, hg, h40⟩ := h
  have hbd := vdA_bd X.1 (iC x) (iN x) (rwA X.1 (iN x)) (rwA X.1 (iM x)) (iI x) (iV x)
  have ca := s_X12_isAsked (t := t) hA hJ hk
  have est : stX X x = if VX X.1 x = 0 then (DX X.1 x, fup X.2.1 0 (X.2.1 0 + 1), X.2.2.1, X.2.2.2.1 + 1, decide (X.2.2.2.1 + 1 < 40)) else if VX X.1 x ≤ 2 then (X.1, X.2.1, X.2.2.1, X.2.2.2.1, false) else (X.1, fup X.2.1 1 (X.2.1 1 + 1), (VX X.1 x : Int), X.2.2.2.1, false) := rfl
  have hbd : VX X.1 x ≤ 103 := hbd
  refine ex_of (e_X12_mayDo ?_)
  by_cases h0 : VX X.1 x = 0 ∨ 2 < VX X.1 x
  · rw [bz_t h0] at ca
    have cw := s_X12_whyNot (t := t) hA hJ hk h0
    refine b_X12_mayDo_0 (ca.up (by omega)) (by omega) (fun _ => ?_) (fun q => by omega)
    refine b_X12_mayDo_10 (cw.up (by omega)) (by omega) (fun q => ?_) (fun q => ?_)
    · have hV : ¬ VX X.1 x = 0 := by omega
      rw [if_neg hV, if_neg (by omega)] at est
      have F : Fr (fun L : Lc => L.1 = 40) σ (sI (sI σ (40, 0, 0) (up (σ.1 (40, 0, 0)) 19 (σ.1 (40, 0, 0) 19 + 1))) (40, 0, 0) (up ((sI σ (40, 0, 0) (up (σ.1 (40, 0, 0)) 19 (σ.1 (40, 0, 0) 19 + 1))).1 (40, 0, 0)) 21 (VX X.1 x : Int))) := (Fr.sI (P := fun L : Lc => L.1 = 40) rfl).trans (Fr.sI (P := fun L : Lc => L.1 = 40) rfl)
      have e : ∀ j, j ≠ 19 → j ≠ 21 → (sI (sI σ (40, 0, 0) (up (σ.1 (40, 0, 0)) 19 (σ.1 (40, 0, 0) 19 + 1))) (40, 0, 0) (up ((sI σ (40, 0, 0) (up (σ.1 (40, 0, 0)) 19 (σ.1 (40, 0, 0) 19 + 1))).1 (40, 0, 0)) 21 (VX X.1 x : Int))).1 (40, 0, 0) j = σ.1 (40, 0, 0) j := fun j h1 h2 => by
        rw [sI_1, if_pos rfl, up_at, if_neg h2, sI_1, if_pos rfl, up_at, if_neg h1]
      have cr : Ca 1 206 [aR (some (40, 0, 0)), aI (iZ ((VX X.1 x : Int)))] (am_hp σ) t (.inl (some (aI (iZ (-(VX X.1 x : Int))))), am_hp (sI (sI σ (40, 0, 0) (up (σ.1 (40, 0, 0)) 19 (σ.1 (40, 0, 0) 19 + 1))) (40, 0, 0) (up ((sI σ (40, 0, 0) (up (σ.1 (40, 0, 0)) 19 (σ.1 (40, 0, 0) 19 + 1))).1 (40, 0, 0)) 21 (VX X.1 x : Int))), t) := ca_of (e_X12_refuses (b_X12_refuses_0 rfl))
      refine b_X12_mayDo_22 (cr.up (by omega)) (by omega) (fun _ => b_X12_mayDo_36 (b_X12_mayDo_37 (by omega) ⟨_, ?_, fun z => absurd z hV, fun _ => ?_, fun dp => ⟨F.mono (fun L q => Or.inl q), e, fun i _ => ⟨by rw [(F.1 (58, 0, 0) (by decide)).1], by rw [(F.1 (59, 0, 0) (by decide)).1]⟩⟩⟩)) (fun q2 => by omega)
      · rw [bz_f hV]
      · rw [est]
        refine ⟨hA.fr F (by decide), (e 18 (by omega) (by omega)).trans e18, ?_, ?_, hC, fun z => absurd z Bool.false_ne_true, h40⟩
        · rw [sI_1, if_pos rfl, up_at, if_neg (by omega), sI_1, if_pos rfl, up_at, if_pos rfl, e19]
          rfl
        · rw [sI_1, if_pos rfl, up_at, if_pos rfl]
    · have hV : VX X.1 x = 0 := by omega
      refine b_X12_mayDo_20 ⟨σ, ?_, fun _ => rfl, fun z => absurd hV z, fun dp => KMr.refl dp σ⟩
      rw [bz_t hV]
  · rw [bz_f h0] at ca
    have hV : ¬ VX X.1 x = 0 := fun z => h0 (Or.inl z)
    rw [if_neg hV, if_pos (by omega)] at est
    refine b_X12_mayDo_0 (ca.up (by omega)) (by omega) (fun q => absurd rfl q) (fun _ => b_X12_mayDo_8 ⟨σ, ?_, fun z => absurd z hV, fun _ => ?_, fun dp => KMr.refl dp σ⟩)
    · rw [bz_f hV]
    · rw [est]
      exact ⟨hA, e18, e19, e21, hC, fun z => absurd z Bool.false_ne_true, h40⟩
