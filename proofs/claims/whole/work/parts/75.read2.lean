/-! THE MODEL: what is asked of words -/
set_option maxRecDepth 4000
theorem goes_t {t : KT} {σ : SG} {P : Prop} [Decidable P] (h : P) : Ca 2 178 [aR (some (40, 0, 0)), aI (iZ (bz P))] (am_hp σ) t (.inl (some (aI (iZ 1))), am_hp (cd σ 0), t) := by
  have c := s_X12_goes (t := t) (σ := σ) (P := P)
  rw [bz_f (p := ¬ P) (fun z => z h)] at c
  rw [bz_t h] at c ⊢
  exact c
theorem goes_f {t : KT} {σ : SG} {P : Prop} [Decidable P] (h : ¬ P) : Ca 2 178 [aR (some (40, 0, 0)), aI (iZ (bz P))] (am_hp σ) t (.inl (some (aI (iZ 0))), am_hp (cd σ 1), t) := by
  have c := s_X12_goes (t := t) (σ := σ) (P := P)
  rw [bz_t (p := ¬ P) h] at c
  rw [bz_f h] at c ⊢
  exact c
theorem gB_t {t : KT} {σ : SG} {P R : Prop} [Decidable P] [Decidable R] (h : P) (g : R) : Ca 1 179 [aR (some (40, 0, 0)), aI (iZ (bz P)), aI (iZ (bz R))] (am_hp σ) t (.inl (some (aI (iZ 1))), am_hp (cd σ 0), t) := by
  have c := s_X12_goesBoth (t := t) (σ := σ) (P := P) (R := R)
  rw [if_pos h, if_pos g, bz_t (p := P ∧ R) ⟨h, g⟩] at c
  exact c
theorem gB_1 {t : KT} {σ : SG} {P R : Prop} [Decidable P] [Decidable R] (h : ¬ P) : Ca 1 179 [aR (some (40, 0, 0)), aI (iZ (bz P)), aI (iZ (bz R))] (am_hp σ) t (.inl (some (aI (iZ 0))), am_hp (cd σ 1), t) := by
  have c := s_X12_goesBoth (t := t) (σ := σ) (P := P) (R := R)
  rw [if_neg h, bz_f (p := P ∧ R) (fun z => h z.1)] at c
  exact c
theorem gB_2 {t : KT} {σ : SG} {P R : Prop} [Decidable P] [Decidable R] (h : P) (g : ¬ R) : Ca 1 179 [aR (some (40, 0, 0)), aI (iZ (bz P)), aI (iZ (bz R))] (am_hp σ) t (.inl (some (aI (iZ 0))), am_hp (cd σ 2), t) := by
  have c := s_X12_goesBoth (t := t) (σ := σ) (P := P) (R := R)
  rw [if_pos h, if_neg g, bz_f (p := P ∧ R) (fun z => g z.2)] at c
  exact c
theorem okM {σ σ2 : SG} (q : QF (cd σ 0) σ2) : σ2.1 (40, 0, 0) 0 = 0 ∧ MF σ σ2 := ⟨by rw [q.c0, cd_0], MF.ck.trans q.m⟩
theorem noM {σ : SG} (z : Int) : (cd σ z).1 (40, 0, 0) 0 = z ∧ MF σ (cd σ z) := ⟨cd_0, MF.ck⟩
theorem isR_n {A : RA} {x : Int} (h : isR A x) : x.toNat < rN A ∧ ((x.toNat : Nat) : Int) = x := by omega
theorem m_row {t : KT} {σ : SG} {A : RA} {r x : Int} (hA : MA A σ) (hC : MC σ) (hr : -2147483648 ≤ r ∧ r < 2147483648) (hx : -2147483648 ≤ x ∧ x < 2147483648) : ∃ σ', Ca 7 262 [aR (some (40, 0, 0)), aI (iZ r), aI (iZ x)] (am_hp σ) t (.inl (some (aI (iZ (moI (A_row A r x))))), am_hp σ', t) ∧ σ'.1 (40, 0, 0) 0 = moC (A_row A r x) ∧ MF σ σ' := by
  have cr := s_X12_isRow (t := t) hA hr
  have ci := s_X12_isIn (t := t) (σ := σ) (i_rg hx) (i_rg (z := 0) (by omega)) (i_rg (z := 6) (by omega))
  refine ex_of (e_X12_row ?_)
  unfold A_row
  by_cases hR : isR A r
  · rw [if_pos hR]
    by_cases hx6 : 0 ≤ x ∧ x ≤ 6
    · refine b_X12_row_0 (cr.up (by omega)) hx (ci.up (by omega)) ((gB_t hR hx6).up (by omega)) (by omega) (fun _ => ?_) (fun q => by omega)
      have hn := isR_n hR
      obtain ⟨σ2, c2, w2, p2, q2⟩ := s_X12_packsRow (t := t) (hA.m (MF.ck (σ := σ) (z := 0))) (hC.m (MF.ck (σ := σ) (z := 0))) hn.1
      rw [hn.2] at c2
      have fin := okM q2
      have A2 := (hA.m (MF.ck (σ := σ) (z := 0))).q q2
      refine b_X12_row_23 (c2.up (by omega)) hx (fun e => ?_) (fun e => ?_) (fun e => ?_) (fun e => ?_) (fun e => ?_) (fun e => ?_) (fun e => ?_)
      · subst e
        exact b_X12_row_68 ⟨σ2, by rw [w2.2.1.1]; rfl, fin⟩
      · subst e
        exact b_X12_row_73 ⟨σ2, rfl, fin⟩
      · subst e
        exact b_X12_row_75 ((s_X12_priceNow w2 p2).up (by omega)) ⟨σ2, rfl, fin⟩
      · subst e
        exact b_X12_row_80 ((s_X12_entriesNow A2 w2).up (by omega)) ⟨σ2, rfl, fin⟩
      · subst e
        exact b_X12_row_85 ((s_X12_emptyBits w2).up (by omega)) ⟨σ2, rfl, fin⟩
      · subst e
        exact b_X12_row_90 ((s_X12_looseBits w2).up (by omega)) ⟨σ2, rfl, fin⟩
      · have e : x = 6 := by omega
        subst e
        exact b_X12_row_95 ((s_X12_waySet w2).up (by omega)) ⟨σ2, rfl, fin⟩
    · rw [if_neg (by omega), if_neg (by omega), if_neg (by omega), if_neg (by omega), if_neg (by omega), if_neg (by omega), if_neg (by omega)]
      exact b_X12_row_0 (cr.up (by omega)) hx (ci.up (by omega)) ((gB_2 hR hx6).up (by omega)) (by omega) (fun q => absurd rfl q) (fun _ => b_X12_row_21 ⟨_, rfl, noM 2⟩)
  · rw [if_neg hR]
    exact b_X12_row_0 (cr.up (by omega)) hx (ci.up (by omega)) ((gB_1 hR).up (by omega)) (by omega) (fun q => absurd rfl q) (fun _ => b_X12_row_21 ⟨_, rfl, noM 1⟩)
theorem s_X12_isWordOf {t : KT} {σ : SG} {A : RA} {r k : Int} (hA : MA A σ) (hC : MC σ) (hr : -2147483648 ≤ r ∧ r < 2147483648) (hk : -2147483648 ≤ k ∧ k < 2147483648) : ∃ σ', Ca 7 236 [aR (some (40, 0, 0)), aI (iZ r), aI (iZ k)] (am_hp σ) t (.inl (some (aI (iZ (bz (isW A r k))))), am_hp σ', t) ∧ (isR A r → WD (chA A r.toNat) (rNu A r.toNat) (rLn A r.toNat) σ' ∧ VP (rPr A) σ') ∧ QF σ σ' := by
  have cr := s_X12_isRow (t := t) hA hr
  refine ex_of (e_X12_isWordOf ?_)
  by_cases hR : isR A r
  · have hn := isR_n hR
    obtain ⟨σ2, c2, w2, p2, q2⟩ := s_X12_packsRow (t := t) hA hC hn.1
    rw [hn.2] at c2
    have w2n := w2.n
    have ci := s_X12_isIn (t := t) (σ := σ2) (i_rg hk) (i_rg (z := 0) (by omega)) (i_rg (z := ((nW (chA A r.toNat) (rLn A r.toNat)) : Int) - 1) (by omega))
    refine b_X12_isWordOf_0 (cr.up (by omega)) bz_rg (fun q => absurd hR (bz_0.mp q)) (fun _ => ?_)
    refine b_X12_isWordOf_8 hk (c2.up (by omega)) (by omega) (ci.up (by omega)) bz_rg (fun q => ?_) (fun q => ?_)
    · have q := bz_0.mp q
      rw [bz_f (p := isW A r k) (fun z => q (by have := z.2; omega))]
      exact b_X12_isWordOf_29 (b_X12_isWordOf_30 (by omega) ⟨σ2, rfl, fun _ => ⟨w2, p2⟩, q2⟩)
    · have q := bz_n.mp q
      rw [bz_t (p := isW A r k) ⟨hR, by omega⟩]
      exact b_X12_isWordOf_25 (b_X12_isWordOf_30 (by omega) ⟨σ2, rfl, fun _ => ⟨w2, p2⟩, q2⟩)
  · rw [bz_f (p := isW A r k) (fun z => hR z.1)]
    exact b_X12_isWordOf_0 (cr.up (by omega)) bz_rg (fun _ => b_X12_isWordOf_29 (b_X12_isWordOf_30 (by omega) ⟨σ, rfl, fun z => absurd z hR, QF.refl σ⟩)) (fun q => absurd (bz_n.mp q) hR)
theorem QF.okc {σ σ1 : SG} (h : QF σ σ1) (z : Int) : (cd σ1 z).1 (40, 0, 0) 0 = z ∧ MF σ (cd σ1 z) := ⟨cd_0, h.m.trans MF.ck⟩
theorem isW_n {A : RA} {r k : Int} (h : isW A r k) : k.toNat < (nW (chA A r.toNat) (rLn A r.toNat)) ∧ ((k.toNat : Nat) : Int) = k := by
  have := h.2
  omega
theorem m_word {t : KT} {σ : SG} {A : RA} {r k : Int} (hA : MA A σ) (hC : MC σ) (hr : -2147483648 ≤ r ∧ r < 2147483648) (hk : -2147483648 ≤ k ∧ k < 2147483648) : ∃ σ', Ca 8 264 [aR (some (40, 0, 0)), aI (iZ r), aI (iZ k)] (am_hp σ) t (.inl (some (aI (iZ (moI (A_word A r k))))), am_hp σ', t) ∧ σ'.1 (40, 0, 0) 0 = moC (A_word A r k) ∧ MF σ σ' := by
  obtain ⟨σ1, c1, w1, q1⟩ := s_X12_isWordOf (t := t) hA hC hr hk
  refine ex_of (e_X12_word ?_)
  unfold A_word
  by_cases hW : isW A r k
  · rw [if_pos hW]
    have w2 := (w1 hW.1).1
    have hn := isW_n hW
    have cw := s_X12_wordAsInt (t := t) (w2.ck (z := 0)) hn.1
    rw [hn.2] at cw
    exact b_X12_word_0 (c1.up (by omega)) ((goes_t hW).up (by omega)) (by omega) (fun q => by omega) (fun _ => b_X12_word_13 (cw.up (by omega)) (b_X12_word_22 ⟨_, rfl, q1.okc 0⟩))
  · rw [if_neg hW]
    exact b_X12_word_0 (c1.up (by omega)) ((goes_f hW).up (by omega)) (by omega) (fun _ => b_X12_word_21 (b_X12_word_22 ⟨_, rfl, q1.okc 1⟩)) (fun q => absurd rfl q)
theorem m_wordPart {t : KT} {σ : SG} {A : RA} {r k x : Int} (hA : MA A σ) (hC : MC σ) (hr : -2147483648 ≤ r ∧ r < 2147483648) (hk : -2147483648 ≤ k ∧ k < 2147483648) (hx : -2147483648 ≤ x ∧ x < 2147483648) : ∃ σ', Ca 8 265 [aR (some (40, 0, 0)), aI (iZ r), aI (iZ k), aI (iZ x)] (am_hp σ) t (.inl (some (aI (iZ (moI (A_wordPart A r k x))))), am_hp σ', t) ∧ σ'.1 (40, 0, 0) 0 = moC (A_wordPart A r k x) ∧ MF σ σ' := by
  obtain ⟨σ1, c1, w1, q1⟩ := s_X12_isWordOf (t := t) hA hC hr hk
  have ci := s_X12_isIn (t := t) (σ := σ1) (i_rg hx) (i_rg (z := 0) (by omega)) (i_rg (z := 3) (by omega))
  refine ex_of (e_X12_wordPart ?_)
  unfold A_wordPart
  by_cases hW : isW A r k
  · rw [if_pos hW]
    have w2 := ((w1 hW.1).1).ck (z := 0)
    have hn := isW_n hW
    have w2n := w2.n
    have hs := w2.st hn.1
    by_cases hx3 : 0 ≤ x ∧ x ≤ 3
    · have ch := s_X12_heldBy (t := t) w2 hn.1
      have ce := s_X12_emptyIn (t := t) w2 hn.1
      rw [hn.2] at ch ce
      refine b_X12_wordPart_0 (c1.up (by omega)) hx (ci.up (by omega)) ((gB_t hW hx3).up (by omega)) (by omega) (fun _ => ?_) (fun q => by omega)
      refine b_X12_wordPart_24 hx (fun e => ?_) (fun e => ?_) (fun e => ?_) (fun e => ?_)
      · subst e
        exact b_X12_wordPart_52 (by omega) ⟨_, by rw [hs.2.2.1]; rfl, q1.okc 0⟩
      · subst e
        exact b_X12_wordPart_59 (ch.up (by omega)) ⟨_, rfl, q1.okc 0⟩
      · subst e
        exact b_X12_wordPart_65 (by omega) ⟨_, by rw [hs.1]; rfl, q1.okc 0⟩
      · have e : x = 3 := by omega
        subst e
        exact b_X12_wordPart_72 (ce.up (by omega)) ⟨_, rfl, q1.okc 0⟩
    · rw [if_neg (by omega), if_neg (by omega), if_neg (by omega), if_neg (by omega)]
      exact b_X12_wordPart_0 (c1.up (by omega)) hx (ci.up (by omega)) ((gB_2 hW hx3).up (by omega)) (by omega) (fun q => absurd rfl q) (fun _ => b_X12_wordPart_22 ⟨_, rfl, q1.okc 2⟩)
  · rw [if_neg hW]
    exact b_X12_wordPart_0 (c1.up (by omega)) hx (ci.up (by omega)) ((gB_1 hW).up (by omega)) (by omega) (fun q => absurd rfl q) (fun _ => b_X12_wordPart_22 ⟨_, rfl, q1.okc 1⟩)
theorem m_wordSum {t : KT} {σ : SG} {A : RA} {r k : Int} (hA : MA A σ) (hC : MC σ) (hr : -2147483648 ≤ r ∧ r < 2147483648) (hk : -2147483648 ≤ k ∧ k < 2147483648) : ∃ σ', Ca 8 267 [aR (some (40, 0, 0)), aI (iZ r), aI (iZ k)] (am_hp σ) t (.inl (some (aL (jZ (moI (A_wordSum A r k))))), am_hp σ', t) ∧ σ'.1 (40, 0, 0) 0 = moC (A_wordSum A r k) ∧ MF σ σ' := by
  obtain ⟨σ1, c1, w1, q1⟩ := s_X12_isWordOf (t := t) hA hC hr hk
  refine ex_of (e_X12_wordSum ?_)
  unfold A_wordSum
  by_cases hW : isW A r k
  · rw [if_pos hW]
    have w2 := ((w1 hW.1).1).ck (z := 0)
    have hn := isW_n hW
    have w2n := w2.n
    have hs := w2.st hn.1
    have cs := s_X12_sumOf (t := t) w2.2.1 (Nat.le_add_right ((stU (chA A r.toNat) k.toNat)) ((hB (chA A r.toNat) (rLn A r.toNat) k.toNat))) hs.2.2.2.2.1
    rw [Nat.add_sub_cancel_left] at cs
    refine b_X12_wordSum_0 (c1.up (by omega)) ((goes_t hW).up (by omega)) (by omega) (fun q => by omega) (fun _ => b_X12_wordSum_13 (by omega) (by omega) ?_ (b_X12_wordSum_35 ⟨_, rfl, q1.okc 0⟩))
    rw [show (k + 1).toNat = k.toNat + 1 by omega, hs.1, hs.2.1]
    exact cs.up (by omega)
  · rw [if_neg hW]
    exact b_X12_wordSum_0 (c1.up (by omega)) ((goes_f hW).up (by omega)) (by omega) (fun _ => b_X12_wordSum_34 (b_X12_wordSum_35 ⟨_, rfl, q1.okc 1⟩)) (fun q => absurd rfl q)
