/-! THE MODEL: the buffer, accounts, faults -/
set_option maxRecDepth 4000
theorem s_X12_isLetter {t : KT} {σ : SG} {x : Int} (hx : -2147483648 ≤ x ∧ x < 2147483648) : Ca 1 184 [aI (iZ x)] (am_hp σ) t (.inl (some (aI (iZ (bz (isL x))))), am_hp σ, t) := by
  refine ca_of (e_X12_isLetter ?_)
  refine b_X12_isLetter_0 hx (fun q => ?_) (fun q => b_X12_isLetter_6 hx (fun q2 => ?_) (fun q2 => ?_))
  · rw [bz_f (p := isL x) (by omega)]
    exact b_X12_isLetter_16 (b_X12_isLetter_17 (by omega) rfl)
  · rw [bz_f (p := isL x) (by omega)]
    exact b_X12_isLetter_16 (b_X12_isLetter_17 (by omega) rfl)
  · rw [bz_t (p := isL x) (by omega)]
    exact b_X12_isLetter_12 (b_X12_isLetter_17 (by omega) rfl)
theorem s_X12_isDigit {t : KT} {σ : SG} {x : Int} (hx : -2147483648 ≤ x ∧ x < 2147483648) : Ca 1 185 [aI (iZ x)] (am_hp σ) t (.inl (some (aI (iZ (bz (isD x))))), am_hp σ, t) := by
  refine ca_of (e_X12_isDigit ?_)
  refine b_X12_isDigit_0 hx (fun q => ?_) (fun q => b_X12_isDigit_6 hx (fun q2 => ?_) (fun q2 => ?_))
  · rw [bz_f (p := isD x) (by omega)]
    exact b_X12_isDigit_16 (b_X12_isDigit_17 (by omega) rfl)
  · rw [bz_f (p := isD x) (by omega)]
    exact b_X12_isDigit_16 (b_X12_isDigit_17 (by omega) rfl)
  · rw [bz_t (p := isD x) (by omega)]
    exact b_X12_isDigit_12 (b_X12_isDigit_17 (by omega) rfl)
theorem mN_next {l : List Nat} {x : Nat} (hl : ltL l) (h8 : l.length < 8) (hx : 1 ≤ x ∧ x ≤ 26) : yor (yshl (mN l : Int) 5) (x : Int) = (mN (l ++ [x]) : Int) := by
  have hm := mN_8 hl (by omega)
  have h5 := yshl_n (a := mN l) (s := 5) (by omega) (by
    have : (2 : Nat) ^ 5 = 32 := by decide
    have : (2 : Nat) ^ 63 = 9223372036854775808 := by decide
    omega)
  rw [show ((5 : Nat) : Int) = 5 from rfl] at h5
  rw [h5, yor_n (by
    have : (2 : Nat) ^ 5 = 32 := by decide
    have : (2 : Nat) ^ 62 = 4611686018427387904 := by decide
    omega) (by
    have : (2 : Nat) ^ 62 = 4611686018427387904 := by decide
    omega), mN_snoc]
  have h := Nat.two_pow_add_eq_or_of_lt (i := 5) (b := x) (by
    have : (2 : Nat) ^ 5 = 32 := by decide
    omega) (mN l)
  rw [Nat.mul_comm (mN l) (2 ^ 5), ← h, show (2 : Nat) ^ 5 = 32 by decide, Nat.add_comm]
theorem s_X12_bufferName {t : KT} {σ : SG} {T : TB} (hT : MB T σ) : Ca 2 199 [aR (some (40, 0, 0))] (am_hp σ) t (.inl (some (aL (jZ ((mN (wnm T) : Int))))), am_hp σ, t) := by
  obtain ⟨h1, h2, h3, h4⟩ := hT
  have ci := s_X12_isIn (t := t) (σ := σ) (i_rg (z := σ.1 (40, 0, 0) 2) (by omega)) (i_rg (z := 1) (by omega)) (i_rg (z := 8) (by omega))
  refine ca_of (e_X12_bufferName ?_)
  have no : ¬ (1 ≤ T.2 ∧ T.2 ≤ 8 ∧ tWn T 0 = T.2) → (mN (wnm T) : Int) = 0 := fun h => by
    unfold wnm
    rw [if_neg h]
    rfl
  refine b_X12_bufferName_0 (by omega) (ci.up (by omega)) bz_rg (fun q => ?_) (fun q => ?_)
  · have q := bz_n.mp q
    refine b_X12_bufferName_17 ?_
    refine w_loop T.2 (fun k => (21, [some (aR (some (40, 0, 0))), some (aL (jZ ((mN (lw T.1 0 k) : Int)))), none, some (aI (iZ ((k : Int))))], [], am_hp σ, t)) (fun k => ∀ j, j < k → isL (T.1 (0 + j))) rfl (fun j hj => absurd hj (Nat.not_lt_zero j)) (fun k hk hI go => ?_) (fun hI => ?_)
    · have hb := h3 k
      refine b_X12_bufferName_21 (by omega) (by omega) (fun z => by omega) (fun _ => ?_)
      refine b_X12_bufferName_29 (by omega) (by rw [Int.toNat_natCast, h4 k hk]; exact (s_X12_isLetter (by omega)).up (by omega)) bz_rg (fun z => ?_) (fun z => ?_)
      · have hl := bz_n.mp z
        have hlen := lw_len T.1 0 k
        refine b_X12_bufferName_43 (by omega) (by rw [Int.toNat_natCast, h4 k hk]; omega) ?_
        rw [Int.toNat_natCast, h4 k hk]
        have hx : T.1 k - 97 + 1 = (((T.1 k - 96).toNat : Nat) : Int) := by omega
        rw [hx, mN_next (lw_lt k hI) (by omega) (by omega)]
        have go := go (fun j hj => by
          by_cases e : j = k
          · subst e; rw [Nat.zero_add]; exact hl
          · exact hI j (by omega))
        rw [lw, Nat.zero_add] at go
        exact go
      · have hl := bz_0.mp z
        refine b_X12_bufferName_41 ?_
        rw [no (fun w => hl (by
          have := (tW_in (T := T) (s := 0) (j := k) (by omega)).2
          rw [Nat.zero_add] at this
          exact this))]
    · refine b_X12_bufferName_21 (by omega) (by omega) (fun _ => b_X12_bufferName_66 ?_) (fun z => by omega)
      have hall : tWn T 0 = T.2 := by
        unfold tWn
        have g := spn_ge isL T.1 T.2 (T.2 - 0) 0
        have e := spn_end isL T.1 T.2 (T.2 - 0) 0 (by omega)
        apply Decidable.byContradiction
        intro z
        exact e ⟨by omega, by
          have := hI (spn isL T.1 T.2 (T.2 - 0) 0) (by omega)
          rw [Nat.zero_add] at this
          exact this⟩
      unfold wnm
      rw [if_pos ⟨by omega, by omega, hall⟩]
  · have q := bz_0.mp q
    refine b_X12_bufferName_15 ?_
    rw [no (by omega)]
theorem rwA_nil {A : RA} (h : Av A) : rwA A [] = -1 := fndF_no (P := fun r => rNm A r = []) (rN A) 0 (fun j hj => by
  rw [Nat.zero_add]
  intro e
  have := (h.2.2.2.2 j hj).1.1
  rw [e] at this
  exact absurd this (by decide))
theorem MB.m {T : TB} {σ σ' : SG} (h : MB T σ) (f : MF σ σ') : MB T σ' := by
  unfold MB at h ⊢
  rw [f.2.1 2 (by omega) (by omega) (by omega), (f.1.1 (41, 0, 0) (by unfold inQ; omega)).1]
  exact h
theorem m_find {t : KT} {σ : SG} {A : RA} {T : TB} (hA : MA A σ) (hT : MB T σ) : ∃ σ', Ca 4 275 [aR (some (40, 0, 0))] (am_hp σ) t (.inl (some (aI (iZ (rwA A (wnm T))))), am_hp σ', t) ∧ σ'.1 (40, 0, 0) 0 = 0 ∧ MF σ σ' := by
  have hw := wnm_ok T
  have hm := mN_8 hw.1 hw.2
  have hc := ycmp_0 (a := (mN (wnm T) : Int)) (b := 0) (by omega) (by omega)
  refine ex_of (e_X12_find ?_)
  refine b_X12_find_0 ((s_X12_bufferName (hT.m (MF.ck (σ := σ) (z := 0)))).up (by omega)) ycmp_rg (fun q => ?_) (fun q => ?_)
  · exact b_X12_find_20 ((s_X12_rowNamed (hA.m (MF.ck (σ := σ) (z := 0))) hw.1 hw.2).up (by omega)) (b_X12_find_25 ⟨_, rfl, noM 0⟩)
  · have e : wnm T = [] := (cN_0 (ltL_rev hw.1)).mp (show cN (wnm T).reverse = 0 by have := hc.mp q; unfold mN at this; omega) |> List.reverse_eq_nil_iff.mp
    rw [e, rwA_nil hA.1]
    exact b_X12_find_16 (b_X12_find_25 ⟨_, rfl, noM 0⟩)
theorem m_account {t : KT} {σ : SG} {S : SS} {i : Int} (h : MS S σ) (hi : -2147483648 ≤ i ∧ i < 2147483648) : ∃ σ', Ca 3 209 [aR (some (40, 0, 0)), aI (iZ i)] (am_hp σ) t (.inl (some (aI (iZ (moI (A_account S i))))), am_hp σ', t) ∧ σ'.1 (40, 0, 0) 0 = moC (A_account S i) ∧ MF σ σ' := by
  have ci := s_X12_isIn (t := t) (σ := σ) (i_rg hi) (i_rg (z := 0) (by omega)) (i_rg (z := 3) (by omega))
  obtain ⟨n1, n2, n3, n4⟩ := h.2.2.2.2.1
  refine ex_of (e_X12_account ?_)
  unfold A_account
  by_cases hI : 0 ≤ i ∧ i ≤ 3
  · rw [if_pos hI]
    refine b_X12_account_0 hi (ci.up (by omega)) ((goes_t hI).up (by omega)) (by omega) (fun _ => b_X12_account_18 hi (fun e => ?_) (fun e => ?_) (fun e => ?_) (fun e => ?_)) (fun q => by omega)
    · subst e
      exact b_X12_account_44 ⟨_, by rw [cd_at (by omega), n1]; rfl, noM 0⟩
    · subst e
      exact b_X12_account_49 ⟨_, by rw [cd_at (by omega), n2]; rfl, noM 0⟩
    · subst e
      exact b_X12_account_54 ⟨_, by rw [cd_at (by omega), n3]; rfl, noM 0⟩
    · have e : i = 3 := by omega
      subst e
      exact b_X12_account_59 ⟨_, by rw [cd_at (by omega), n4]; rfl, noM 0⟩
  · rw [if_neg hI]
    exact b_X12_account_0 hi (ci.up (by omega)) ((goes_f hI).up (by omega)) (by omega) (fun q => absurd rfl q) (fun _ => b_X12_account_16 ⟨_, rfl, noM 1⟩)
theorem m_refusal {t : KT} {σ : SG} {S : SS} (h : MS S σ) : ∃ σ', Ca 1 208 [aR (some (40, 0, 0))] (am_hp σ) t (.inl (some (aI (iZ (xL S)))), am_hp σ', t) ∧ σ'.1 (40, 0, 0) 0 = 0 ∧ MF σ σ' := by
  refine ex_of (e_X12_refusal ?_)
  refine b_X12_refusal_0 ⟨_, ?_, noM 0⟩
  rw [show (sI σ (40, 0, 0) (up (σ.1 (40, 0, 0)) 0 0)).1 (40, 0, 0) 21 = xL S by rw [show (sI σ (40, 0, 0) (up (σ.1 (40, 0, 0)) 0 0)).1 (40, 0, 0) 21 = σ.1 (40, 0, 0) 21 from cd_at (by omega)]; exact h.2.2.2.2.2.1]
  rfl
theorem m_errorCode {t : KT} {σ : SG} {S : SS} (h : MS S σ) : ∃ σ', Ca 1 197 [aR (some (40, 0, 0))] (am_hp σ) t (.inl (some (aI (iZ ((xE S).1)))), am_hp σ', t) ∧ σ'.1 (40, 0, 0) 0 = 0 ∧ MF σ σ' := by
  refine ex_of (e_X12_errorCode ?_)
  refine b_X12_errorCode_0 ⟨_, ?_, noM 0⟩
  rw [show (sI σ (40, 0, 0) (up (σ.1 (40, 0, 0)) 0 0)).1 (40, 0, 0) 10 = (xE S).1 by rw [show (sI σ (40, 0, 0) (up (σ.1 (40, 0, 0)) 0 0)).1 (40, 0, 0) 10 = σ.1 (40, 0, 0) 10 from cd_at (by omega)]; exact h.2.2.2.2.2.2.2.1.1]
  rfl
theorem m_errorPosition {t : KT} {σ : SG} {S : SS} (h : MS S σ) : ∃ σ', Ca 1 198 [aR (some (40, 0, 0))] (am_hp σ) t (.inl (some (aI (iZ ((xE S).2)))), am_hp σ', t) ∧ σ'.1 (40, 0, 0) 0 = 0 ∧ MF σ σ' := by
  refine ex_of (e_X12_errorPosition ?_)
  refine b_X12_errorPosition_0 ⟨_, ?_, noM 0⟩
  rw [show (sI σ (40, 0, 0) (up (σ.1 (40, 0, 0)) 0 0)).1 (40, 0, 0) 11 = (xE S).2 by rw [show (sI σ (40, 0, 0) (up (σ.1 (40, 0, 0)) 0 0)).1 (40, 0, 0) 11 = σ.1 (40, 0, 0) 11 from cd_at (by omega)]; exact h.2.2.2.2.2.2.2.1.2]
  rfl
theorem m_reportByte {t : KT} {σ : SG} {S : SS} {i : Int} (h : MS S σ) (hi : -2147483648 ≤ i ∧ i < 2147483648) : ∃ σ', Ca 3 335 [aR (some (40, 0, 0)), aI (iZ i)] (am_hp σ) t (.inl (some (aI (iZ (moI (A_reportByte S i))))), am_hp σ', t) ∧ σ'.1 (40, 0, 0) 0 = moC (A_reportByte S i) ∧ MF σ σ' := by
  obtain ⟨p1, p2, p3, p4, p5⟩ := h.2.2.2.2.2.2.2.2
  have ci := s_X12_isIn (t := t) (σ := σ) (i_rg hi) (i_rg (z := 0) (by omega)) (i_rg (z := σ.1 (40, 0, 0) 47 - 1) (by omega))
  refine ex_of (e_X12_reportByte ?_)
  unfold A_reportByte
  have no : ¬ (0 ≤ i ∧ i < (xR S).length) → Wp k_X12_reportByte 2 (28, [some (aR (some (40, 0, 0))), some (aI (iZ i))], [aR (some (40, 0, 0))], am_hp σ, t) (fun r' => ∃ σ', r' = (.inl (some (aI (iZ (moI (if 0 ≤ i ∧ i < (xR S).length then .inl ((xR S).getD i.toNat 0) else .inr 1))))), am_hp σ', t) ∧ σ'.1 (40, 0, 0) 0 = moC (if 0 ≤ i ∧ i < (xR S).length then .inl ((xR S).getD i.toNat 0) else .inr 1) ∧ MF σ σ') := fun hn => by
    have c := goes_f (t := t) (σ := σ) (P := False) (fun z => z)
    rw [bz_f (p := False) (fun z => z)] at c
    rw [if_neg hn]
    exact b_X12_reportByte_28 (b_X12_reportByte_29 (c.up (by omega)) (by omega) (fun _ => b_X12_reportByte_44 (b_X12_reportByte_45 ⟨_, rfl, noM 1⟩)) (fun q => absurd rfl q))
  refine b_X12_reportByte_0 (by omega) (fun q => no (fun z => ?_)) (fun q => ?_)
  · have hne : xR S ≠ [] := fun e => by rw [e] at z; exact absurd z.2 (by simp; omega)
    have := p4 hne
    omega
  · refine b_X12_reportByte_8 hi (by omega) (ci.up (by omega)) bz_rg (fun z => no (fun w => (bz_0.mp z) (by omega))) (fun z => ?_)
    have z := bz_n.mp z
    have c := goes_t (t := t) (σ := σ) (P := True) trivial
    rw [bz_t (p := True) trivial] at c
    rw [if_pos (by omega)]
    refine b_X12_reportByte_24 (b_X12_reportByte_29 (c.up (by omega)) (by omega) (fun q => by omega) (fun _ => b_X12_reportByte_35 (by omega) (b_X12_reportByte_45 ⟨_, ?_, noM 0⟩)))
    rw [show (cd σ 0).1 (62, 0, 0) = σ.1 (62, 0, 0) from (cd_fr.1 (62, 0, 0) (by decide)).1, p5 i.toNat (by omega)]
    rfl
