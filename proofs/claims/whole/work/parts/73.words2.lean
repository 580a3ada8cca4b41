/-! THE MODEL: words are read, the rest -/
set_option maxRecDepth 4000
theorem fndF_ex {P : Nat → Prop} [DecidablePred P] : ∀ (k i : Nat), fndF P i k = -1 ∨ ∃ m, m < k ∧ (∀ j, j < m → ¬ P (i + j)) ∧ P (i + m) ∧ fndF P i k = ((i + m : Nat) : Int)
  | 0, _ => Or.inl rfl
  | k + 1, i => by
    unfold fndF
    by_cases h : P i
    · rw [if_pos h]
      exact Or.inr ⟨0, Nat.succ_pos k, fun j hj => absurd hj (Nat.not_lt_zero j), h, rfl⟩
    · rw [if_neg h]
      rcases fndF_ex (P := P) k (i + 1) with g | ⟨m, h1, h2, h3, h4⟩
      · exact Or.inl g
      · refine Or.inr ⟨m + 1, by omega, fun j hj => ?_, by rw [show i + (m + 1) = i + 1 + m by omega]; exact h3, by rw [h4]; omega⟩
        cases j with
        | zero => exact h
        | succ j =>
          have := h2 j (by omega)
          rw [show i + (j + 1) = i + 1 + j by omega]
          exact this
theorem hB_eq {ch : Nat → Nat} {n k : Nat} (hk : k < nW ch n) : stU ch k + hB ch n k = min (stU ch k + cnt ((ch (stU ch k)))) n := by
  have h1 := sT_in hk
  have h2 := cnt_1 ((ch (stU ch k)))
  have e : stU ch (k + 1) = stU ch k + cnt ((ch (stU ch k))) := rfl
  unfold hB
  rw [h1.1]
  unfold sT
  rw [e]
  omega
theorem s_X12_wordAsInt {t : KT} {σ : SG} {ch : Nat → Nat} {f : Nat → Int} {n k : Nat} (h : WD ch f n σ) (hk : k < nW ch n) : Ca 2 263 [aR (some (40, 0, 0)), aI (iZ ((k : Int)))] (am_hp σ) t (.inl (some (aI (iZ (wrd f n ((ch (stU ch k))) (stU ch k))))), am_hp σ, t) := by
  have hn := h.n
  have hs := h.st hk
  have hb := hB_bd hk
  have he := hB_eq hk
  have hc := h.2.2.2 _ hs.2.2.2.1
  refine ca_of (e_X12_wordAsInt ?_)
  refine b_X12_wordAsInt_0 (by omega) ?_
  rw [Int.toNat_natCast, hs.2.2.1]
  generalize hw : (ch (stU ch k)) = w at hs hb he hc ⊢
  generalize hi : stU ch k = i at hs hb he ⊢
  have key : ∀ (m j : Nat) (a : Int), j + m = hB ch n k → Wp k_X12_wordAsInt 1 (12, [some (aR (some (40, 0, 0))), some (aI (iZ ((k : Int)))), some (aI (iZ a)), some (aI (iZ ((j : Int))))], [], am_hp σ, t) (fun r => r = (.inl (some (aI (iZ (wdF f n w i (cnt w - j) j a)))), am_hp σ, t)) := by
    intro m
    induction m with
    | zero =>
      intro j a hj
      have e : wdF f n w i (cnt w - j) j a = a := by
        cases hx : cnt w - j with
        | zero => rfl
        | succ x =>
          unfold wdF
          rw [if_neg (by omega)]
      rw [e]
      exact b_X12_wordAsInt_12 ((s_X12_heldBy h hk).up (by omega)) (by omega) (by omega) (fun _ => b_X12_wordAsInt_57 rfl) (fun q => by omega)
    | succ m ih =>
      intro j a hj
      refine b_X12_wordAsInt_12 ((s_X12_heldBy h hk).up (by omega)) (by omega) (by omega) (fun q => by omega) (fun _ => ?_)
      have hv := h.2.1.2.2 (i + j) (by omega)
      have e : wdF f n w i (cnt w - j) j a = wdF f n w i (cnt w - (j + 1)) (j + 1) (zor a (zshl (f (i + j)) ((j : Int) * (wid w : Int)))) := by
        rw [show cnt w - j = (cnt w - (j + 1)) + 1 by omega]
        conv => lhs; unfold wdF
        rw [if_pos (by omega)]
      rw [e]
      refine b_X12_wordAsInt_21 (by omega) (by rw [Int.toNat_natCast, hs.1]; omega) (by omega) (by rw [Int.toNat_natCast, hs.2.2.1]; omega) ?_
      rw [Int.toNat_natCast, hs.1, hs.2.2.1, Int.toNat_natCast, hc.2, show ((i : Int) + (j : Int)).toNat = i + j by omega, hv.1]
      exact ih (j + 1) _ (by omega)
  exact key (hB ch n k) 0 (zshl (w : Int) 28) (by omega)
theorem s_X12_wordWith {t : KT} {σ : SG} {ch : Nat → Nat} {f : Nat → Int} {n i : Nat} (h : WD ch f n σ) (hi : i < n) : Ca 1 238 [aR (some (40, 0, 0)), aI (iZ ((i : Int)))] (am_hp σ) t (.inl (some (aI (iZ (((cLe ch n i - 1 : Nat) : Int))))), am_hp σ, t) := by
  have hn := h.n
  have hw := wd_of (ch := ch) hi
  refine ca_of (e_X12_wordWith ?_)
  refine b_X12_wordWith_0 ?_
  refine w_loopU (cLe ch n i - 1) (fun k => (2, [some (aR (some (40, 0, 0))), some (aI (iZ ((i : Int)))), some (aI (iZ ((k : Int))))], [], am_hp σ, t)) rfl (fun k hk w => ?_) ?_
  · have hc := (cLe_seg ch n i (k + 1)).mp (by omega)
    have hs := h.st hc.1
    refine b_X12_wordWith_2 (by omega) (by rw [show ((k : Int) + 1).toNat = k + 1 by omega, hs.1]; omega) (by omega) (fun q => ?_) (fun _ => b_X12_wordWith_14 w)
    rw [show ((k : Int) + 1).toNat = k + 1 by omega, hs.1] at q
    omega
  · generalize cLe ch n i - 1 = k at hw ⊢
    have hs := h.st hw.1
    refine b_X12_wordWith_2 (by omega) (by rw [show ((k : Int) + 1).toNat = k + 1 by omega, hs.2.1]; omega) (by omega) (fun _ => b_X12_wordWith_20 rfl) (fun q => ?_)
    rw [show ((k : Int) + 1).toNat = k + 1 by omega, hs.2.1] at q
    omega
theorem s_X12_readsOf {t : KT} {σ : SG} {A : RA} {ch : Nat → Nat} {f : Nat → Int} {n i : Nat} (hA : MA A σ) (h : WD ch f n σ) (hi : i < n) : Ca 2 276 [aR (some (40, 0, 0)), aI (iZ ((i : Int)))] (am_hp σ) t (.inl (some (aI (iZ ((rdN ch n (rSk A) i : Int))))), am_hp σ, t) := by
  have hn := h.n
  have hw := wd_of (ch := ch) hi
  have hk : σ.1 (42, 0, 0) 2 = rSk A := hA.2.2.2.1
  have h9 := hA.1.2.2.1
  refine ca_of (e_X12_readsOf ?_)
  refine b_X12_readsOf_0 ((s_X12_wordWith h hi).up (by omega)) (by omega) ?_
  rw [hk, zrem_n (by omega) (by omega)]
  rfl
theorem smU_s (g : Nat → Int) (k : Nat) : smU g (k + 1) = smU g k + g k := rfl
theorem s_X12_looseBits {t : KT} {σ : SG} {ch : Nat → Nat} {f : Nat → Int} {n : Nat} (h : WD ch f n σ) : Ca 1 259 [aR (some (40, 0, 0))] (am_hp σ) t (.inl (some (aI (iZ (smU (fun k => (wid ((ch (stU ch k))) : Int) * (hB ch n k : Int)) (nW ch n) - smU (fun i => (bts (f i) : Int)) n)))), am_hp σ, t) := by
  have hn := h.n
  have e := h.1.1
  refine ca_of (e_X12_looseBits ?_)
  refine b_X12_looseBits_0 ?_
  refine w_loopS (nW ch n) (fun k c => ∃ u : Option AV, c = (4, [some (aR (some (40, 0, 0))), some (aI (iZ (smU (fun k => (wid ((ch (stU ch k))) : Int) * (hB ch n k : Int)) k - smU (fun i => (bts (f i) : Int)) (sT ch n k)))), some (aI (iZ ((k : Int)))), u], [], am_hp σ, t)) ⟨none, ?_⟩ (fun k c hk hI go => ?_) (fun c hI => ?_)
  · have : sT ch n 0 = 0 := by show min 0 n = 0; omega
    rw [this]
    rfl
  · obtain ⟨u, rfl⟩ := hI
    have hs := h.st hk
    have hc := h.2.2.2 _ hs.2.2.2.1
    have hst := sT_in hk
    have hb : sT ch n (k + 1) = stU ch k + hB ch n k := (hB_eq hk).symm
    refine b_X12_looseBits_4 (by omega) (by omega) (fun q => by omega) (fun _ => b_X12_looseBits_12 (by omega) ?_)
    rw [Int.toNat_natCast, hs.1, hst.1]
    refine w_loopU (hB ch n k) (fun m => (19, [some (aR (some (40, 0, 0))), some (aI (iZ (smU (fun k => (wid ((ch (stU ch k))) : Int) * (hB ch n k : Int)) k + (wid ((ch (stU ch k))) : Int) * (m : Int) - smU (fun i => (bts (f i) : Int)) (stU ch k + m)))), some (aI (iZ ((k : Int)))), some (aI (iZ (((stU ch k + m : Nat) : Int))))], [], am_hp σ, t)) ?_ (fun m hm w => ?_) ?_
    · show (19, _, _, _, _) = _
      rw [Nat.add_zero, show (wid ((ch (stU ch k))) : Int) * ((0 : Nat) : Int) = 0 from Int.mul_zero _, Int.add_zero]
    · have hv := h.2.1.2.2 (stU ch k + m) (by omega)
      refine b_X12_looseBits_19 (by omega) (by omega) (by rw [show ((k : Int) + 1).toNat = k + 1 by omega, hs.2.1]; omega) (fun q => ?_) (fun _ => b_X12_looseBits_31 (by omega) (by rw [Int.toNat_natCast, hs.2.2.1]; omega) (by omega) ?_)
      · rw [show ((k : Int) + 1).toNat = k + 1 by omega, hs.2.1] at q
        omega
      · rw [Int.toNat_natCast, Int.toNat_natCast, hs.2.2.1, Int.toNat_natCast, hc.2, hv.2.1]
        have ee : smU (fun k => (wid ((ch (stU ch k))) : Int) * (hB ch n k : Int)) k + (wid ((ch (stU ch k))) : Int) * (m : Int) - smU (fun i => (bts (f i) : Int)) (stU ch k + m) + ((wid ((ch (stU ch k))) : Int) - (bts (f (stU ch k + m)) : Int)) = smU (fun k => (wid ((ch (stU ch k))) : Int) * (hB ch n k : Int)) k + (wid ((ch (stU ch k))) : Int) * ((m + 1 : Nat) : Int) - smU (fun i => (bts (f i) : Int)) (stU ch k + (m + 1)) := by
          rw [show stU ch k + (m + 1) = (stU ch k + m) + 1 by omega, smU_s, Int.natCast_add, Int.mul_add, show ((1 : Nat) : Int) = 1 from rfl, Int.mul_one]
          omega
        rw [ee]
        exact w
    · refine b_X12_looseBits_19 (by omega) (by omega) (by rw [show ((k : Int) + 1).toNat = k + 1 by omega, hs.2.1]; omega) (fun _ => b_X12_looseBits_58 (go _ ⟨some (aI (iZ (((stU ch k + hB ch n k : Nat) : Int)))), ?_⟩)) (fun q => ?_)
      · rw [hb, smU_s]
        rfl
      · rw [show ((k : Int) + 1).toNat = k + 1 by omega, hs.2.1] at q
        omega
  · obtain ⟨u, rfl⟩ := hI
    rw [sT_out (Nat.le_refl _)]
    exact b_X12_looseBits_4 (by omega) (by omega) (fun _ => b_X12_looseBits_64 rfl) (fun q => by omega)
theorem s_X12_mayHold {t : KT} {σ : SG} {ch : Nat → Nat} {f : Nat → Int} {n k : Nat} {v : Int} (h : WD ch f n σ) (hk : k < nW ch n) (hv : 0 ≤ v ∧ v < 268435456) : Ca 2 280 [aR (some (40, 0, 0)), aI (iZ ((k : Int))), aI (iZ v)] (am_hp σ) t (.inl (some (aI (iZ (bz (ftW v ((ch (stU ch k)))))))), am_hp σ, t) := by
  have hn := h.n
  have hs := h.st hk
  have hc := h.2.2.2 _ hs.2.2.2.1
  have hw := wid_bd _ hs.2.2.2.1
  have hb := bts_bd v
  have hle := bts_le hv (m := wid ((ch (stU ch k)))) (by omega)
  refine ca_of (e_X12_mayHold ?_)
  refine b_X12_mayHold_0 (by omega) (fun q => by omega) (fun _ => ?_)
  refine b_X12_mayHold_4 ((s_X12_bitsOf hv).up (by omega)) (by omega) (by rw [Int.toNat_natCast, hs.2.2.1]; omega) (by omega) (by rw [Int.toNat_natCast, hs.2.2.1, Int.toNat_natCast, hc.2]; omega) (fun q => ?_) (fun q => ?_)
  · rw [Int.toNat_natCast, hs.2.2.1, Int.toNat_natCast, hc.2] at q
    rw [bz_f (p := ftW v ((ch (stU ch k)))) (fun z => by have := hle.mpr z.2; omega)]
    exact b_X12_mayHold_26 (b_X12_mayHold_27 (by omega) rfl)
  · rw [Int.toNat_natCast, hs.2.2.1, Int.toNat_natCast, hc.2] at q
    rw [bz_t (p := ftW v ((ch (stU ch k)))) ⟨hv.1, hle.mp (by omega)⟩]
    exact b_X12_mayHold_22 (b_X12_mayHold_27 (by omega) rfl)
theorem s_X12_inWord {t : KT} {σ : SG} {ch : Nat → Nat} {f : Nat → Int} {n k : Nat} {v : Int} (h : WD ch f n σ) (hk : k < nW ch n) (hv : -2147483648 ≤ v ∧ v < 2147483648) : Ca 2 281 [aR (some (40, 0, 0)), aI (iZ ((k : Int))), aI (iZ v)] (am_hp σ) t (.inl (some (aI (iZ (tmW ch f n v k)))), am_hp σ, t) := by
  have hn := h.n
  have hs := h.st hk
  have e1 : ((k : Int) + 1).toNat = k + 1 := by omega
  refine ca_of (e_X12_inWord ?_)
  refine b_X12_inWord_0 (by omega) ?_
  rw [Int.toNat_natCast, hs.1]
  refine w_loopU (hB ch n k) (fun m => (10, [some (aR (some (40, 0, 0))), some (aI (iZ ((k : Int)))), some (aI (iZ v)), some (aI (iZ (smU (fun j => bz (f (stU ch k + j) = v)) m))), some (aI (iZ (((stU ch k + m : Nat) : Int))))], [], am_hp σ, t)) rfl (fun m hm w => ?_) ?_
  · have hx := h.2.1.2.2 (stU ch k + m) (by omega)
    refine b_X12_inWord_10 (by omega) (by omega) (by rw [e1, hs.2.1]; omega) (fun q => by rw [e1, hs.2.1] at q; omega) (fun _ => ?_)
    refine b_X12_inWord_23 (by omega) (by rw [Int.toNat_natCast, hx.1]; omega) hv (fun q => ?_) (fun q => ?_)
    · rw [Int.toNat_natCast, hx.1] at q
      have c := s_X12_truth (t := t) (σ := σ) (P := f (stU ch k + m) = v)
      rw [bz_f q] at c
      refine b_X12_inWord_39 (b_X12_inWord_40 (c.up (by omega)) ?_)
      rw [smU_s, bz_f (p := f (stU ch k + m) = v) q] at w
      exact w
    · rw [Int.toNat_natCast, hx.1] at q
      have c := s_X12_truth (t := t) (σ := σ) (P := f (stU ch k + m) = v)
      rw [bz_t q] at c
      refine b_X12_inWord_35 (b_X12_inWord_40 (c.up (by omega)) ?_)
      rw [smU_s, bz_t (p := f (stU ch k + m) = v) q] at w
      exact w
  · exact b_X12_inWord_10 (by omega) (by omega) (by rw [e1, hs.2.1]; omega) (fun _ => b_X12_inWord_51 rfl) (fun q => by rw [e1, hs.2.1] at q; omega)
theorem s_X12_firstIn {t : KT} {σ : SG} {ch : Nat → Nat} {f : Nat → Int} {n k : Nat} {v : Int} (h : WD ch f n σ) (hk : k < nW ch n) (hv : -2147483648 ≤ v ∧ v < 2147483648) (hf : fdW ch f n v k ≠ -1) : Ca 1 282 [aR (some (40, 0, 0)), aI (iZ ((k : Int))), aI (iZ v)] (am_hp σ) t (.inl (some (aI (iZ (fdW ch f n v k)))), am_hp σ, t) := by
  have hn := h.n
  have hs := h.st hk
  rcases fndF_ex (P := fun i => f i = v) (hB ch n k) (stU ch k) with g | ⟨m, h1, h2, h3, h4⟩
  · exact absurd g hf
  · rw [fdW, h4]
    refine ca_of (e_X12_firstIn ?_)
    refine b_X12_firstIn_0 (by omega) ?_
    rw [Int.toNat_natCast, hs.1]
    refine w_loopU m (fun j => (7, [some (aR (some (40, 0, 0))), some (aI (iZ ((k : Int)))), some (aI (iZ v)), some (aI (iZ (((stU ch k + j : Nat) : Int))))], [], am_hp σ, t)) rfl (fun j hj w => ?_) ?_
    · have hx := h.2.1.2.2 (stU ch k + j) (by omega)
      refine b_X12_firstIn_7 (by omega) (by rw [Int.toNat_natCast, hx.1]; omega) hv (fun q => ?_) (fun _ => b_X12_firstIn_17 w)
      rw [Int.toNat_natCast, hx.1] at q
      exact absurd q (h2 j hj)
    · have hx := h.2.1.2.2 (stU ch k + m) (by omega)
      refine b_X12_firstIn_7 (by omega) (by rw [Int.toNat_natCast, hx.1]; omega) hv (fun _ => b_X12_firstIn_23 rfl) (fun q => ?_)
      rw [Int.toNat_natCast, hx.1] at q
      exact absurd h3 q
theorem s_X12_readsAhead {t : KT} {σ : SG} {A : RA} {ch : Nat → Nat} {f : Nat → Int} {n i : Nat} (hA : MA A σ) (h : WD ch f n σ) (hi : i ≤ n) (hn0 : 0 < nW ch n) : Ca 2 278 [aR (some (40, 0, 0)), aI (iZ ((i : Int)))] (am_hp σ) t (.inl (some (aI (iZ ((raN ch n (rSk A) i : Int))))), am_hp σ, t) := by
  have hn := h.n
  have e34 := h.1.1
  have hk : σ.1 (42, 0, 0) 2 = rSk A := hA.2.2.2.1
  have h9 := hA.1.2.2.1
  have c1 := s_X12_entriesNow (t := t) hA h
  have hle : enN (rSk A) (nW ch n) ≤ nW ch n := en_le h9.1
  have hc0 := (cLe_seg ch n i 0).mpr ⟨hn0, by rw [stU]; omega⟩
  have hcn : cLe ch n i - 1 < nW ch n := ((cLe_seg ch n i (cLe ch n i - 1)).mp (by omega)).1
  have hdm := Nat.div_add_mod (cLe ch n i - 1) (rSk A)
  have hq : (cLe ch n i - 1) / rSk A < enN (rSk A) (nW ch n) := (en_lt h9.1).mpr (by
    rw [Nat.mul_comm]
    omega)
  have hlt : cLt ch n i ≤ nW ch n := by
    apply Decidable.byContradiction
    intro z
    have := (cLt_seg ch n i (nW ch n)).mp (by omega)
    omega
  refine ca_of (e_X12_readsAhead ?_)
  refine b_X12_readsAhead_0 ?_
  refine w_loopU (enN (rSk A) (nW ch n)) (fun e => (4, [some (aR (some (40, 0, 0))), some (aI (iZ ((i : Int)))), some (aI (iZ (((rSk A * min (e - 1) ((cLe ch n i - 1) / rSk A) : Nat) : Int)))), some (aI (iZ ((e : Int)))), none], [], am_hp σ, t)) ?_ (fun e he w => ?_) ?_
  · show (4, _, _, _, _) = _
    rw [show min (0 - 1) ((cLe ch n i - 1) / rSk A) = 0 from Nat.zero_min _, Nat.mul_zero]
    rfl
  · have hes := (en_lt h9.1).mp he
    have hst := h.st hes
    have ee : ((e : Int) * (rSk A : Int)) = ((e * rSk A : Nat) : Int) := by rw [Int.natCast_mul]
    refine b_X12_readsAhead_4 (c1.up (by omega)) (by omega) (by omega) (fun q => by omega) (fun _ => ?_)
    have hiff : stU ch (e * rSk A) ≤ i ↔ e ≤ (cLe ch n i - 1) / rSk A := by
      have h1 := cLe_seg ch n i (e * rSk A)
      rw [Nat.le_div_iff_mul_le h9.1]
      omega
    refine b_X12_readsAhead_12 (by rw [hk, ee]; omega) (by rw [hk, ee, Int.toNat_natCast, hst.1]; omega) (by omega) (fun q => ?_) (fun q => ?_)
    · rw [hk, ee, Int.toNat_natCast, hst.1] at q
      have : ¬ e ≤ (cLe ch n i - 1) / rSk A := fun z => by have := hiff.mpr z; omega
      rw [show min (e - 1) ((cLe ch n i - 1) / rSk A) = min (e + 1 - 1) ((cLe ch n i - 1) / rSk A) by omega]
      exact b_X12_readsAhead_38 w
    · rw [hk, ee, Int.toNat_natCast, hst.1] at q
      have : e ≤ (cLe ch n i - 1) / rSk A := hiff.mp (by omega)
      rw [show min (e + 1 - 1) ((cLe ch n i - 1) / rSk A) = e by omega, Nat.mul_comm] at w
      refine b_X12_readsAhead_29 ?_
      rw [hk, ee]
      exact b_X12_readsAhead_38 w
  · rw [show min (enN (rSk A) (nW ch n) - 1) ((cLe ch n i - 1) / rSk A) = (cLe ch n i - 1) / rSk A by omega]
    refine b_X12_readsAhead_4 (c1.up (by omega)) (by omega) (by omega) (fun _ => b_X12_readsAhead_44 ?_) (fun q => by omega)
    have el : rSk A * ((cLe ch n i - 1) / rSk A) = (cLe ch n i - 1) - (cLe ch n i - 1) % rSk A := by omega
    rw [el]
    have hla : (cLe ch n i - 1) - (cLe ch n i - 1) % rSk A < nW ch n := by omega
    unfold raN
    generalize (cLe ch n i - 1) - (cLe ch n i - 1) % rSk A = la at hla ⊢
    refine w_loopU (nW ch n - la) (fun m => (49, [some (aR (some (40, 0, 0))), some (aI (iZ ((i : Int)))), some (aI (iZ ((la : Int)))), some (aI (iZ (((min (la + m) (cLt ch n i) - la : Nat) : Int)))), some (aI (iZ (((la + m : Nat) : Int))))], [], am_hp σ, t)) ?_ (fun m hm w => ?_) ?_
    · show (49, _, _, _, _) = _
      rw [show min (la + 0) (cLt ch n i) - la = 0 by omega]
      rfl
    · have hlm : la + m < nW ch n := by omega
      have hst := h.st hlm
      have hiff := cLt_seg ch n i (la + m)
      have c := s_X12_truth (t := t) (σ := σ) (P := stU ch (la + m) < i)
      refine b_X12_readsAhead_49 (by omega) (by omega) (fun q => by omega) (fun _ => ?_)
      refine b_X12_readsAhead_58 (by omega) (by rw [Int.toNat_natCast, hst.1]; omega) (by omega) (fun q => ?_) (fun q => ?_)
      · rw [Int.toNat_natCast, hst.1] at q
        rw [bz_f (p := stU ch (la + m) < i) (by omega)] at c
        refine b_X12_readsAhead_74 (b_X12_readsAhead_75 (c.up (by omega)) ?_)
        rw [show min (la + (m + 1)) (cLt ch n i) - la = min (la + m) (cLt ch n i) - la by omega] at w
        rw [Int.add_zero]
        exact w
      · rw [Int.toNat_natCast, hst.1] at q
        rw [bz_t (p := stU ch (la + m) < i) (by omega)] at c
        refine b_X12_readsAhead_70 (b_X12_readsAhead_75 (c.up (by omega)) ?_)
        have hx : la + m < cLt ch n i := by omega
        rw [show min (la + (m + 1)) (cLt ch n i) - la = (min (la + m) (cLt ch n i) - la) + 1 by omega] at w
        exact w
    · refine b_X12_readsAhead_49 (by omega) (by omega) (fun _ => b_X12_readsAhead_86 ?_) (fun q => by omega)
      rw [show min (la + (nW ch n - la)) (cLt ch n i) - la = cLt ch n i - la by omega]
