/-! SPECIFICATIONS: shares, what would be -/
set_option maxRecDepth 4000
/-- what the rows need in bits -/
abbrev nbA (A : RA) : Int := smU (neA A) (rN A)
abbrev waA (A : RA) : Int := smU (fun r => ((nW (chA A r) (rLn A r)) : Int)) (rN A)
def A_filled (A : RA) : UInt32 := if waA A = 0 then FP.fconst1 else FP.fdiv (FP.i2f (iZ (nbA A))) (FP.i2f (iZ (32 * waA A)))
def A_meanHeld (A : RA) (r : Int) : UInt64 ⊕ Nat := if isR A r then (if (nW (chA A r.toNat) (rLn A r.toNat)) = 0 then .inl FP.dconst0 else .inl (FP.ddiv (FP.i2d (iZ (rLn A r.toNat : Int))) (FP.i2d (iZ ((nW (chA A r.toNat) (rLn A r.toNat)) : Int))))) else .inr 1
def reD (E1 E2 : Nat) (σ : SG) (t : KT) : UInt64 ⊕ Nat → RS
  | .inl z => (.inl (some (aD z)), am_hp σ, t)
  | .inr c => (.inr (if c = 1 then E1 else E2), am_hp σ, (t.1, t.2.1 + 1, t.2.2 + 6))
theorem waA_bd {A : RA} (hA : Av A) : 0 ≤ waA A ∧ waA A ≤ 240 := by
  have h := smU_bd (g := fun r => ((nW (chA A r) (rLn A r)) : Int)) (B := 60) (rN A) (fun k hk => by
    have h1 := nW_le (chA A k) (rLn A k)
    have h2 := hA.l hk
    show 0 ≤ ((nW (chA A k) (rLn A k)) : Int) ∧ ((nW (chA A k) (rLn A k)) : Int) ≤ 60
    omega)
  have h4 := hA.1
  have h5 : waA A = smU (fun r => ((nW (chA A r) (rLn A r)) : Int)) (rN A) := rfl
  omega
theorem neA_bd {A : RA} (hA : Av A) {r : Nat} (hr : r < rN A) : 0 ≤ neA A r ∧ neA A r ≤ 1680 := by
  have h := smU_bd (g := fun i => (bts (rNu A r i) : Int)) (B := 28) (rLn A r) (fun k hk => by
    have h1 := bts_bd (rNu A r k)
    try dsimp only
    omega)
  have h2 := hA.l hr
  have h5 : neA A r = smU (fun i => (bts (rNu A r i) : Int)) (rLn A r) := rfl
  omega
theorem nbA_bd {A : RA} (hA : Av A) : 0 ≤ nbA A ∧ nbA A ≤ 6720 := by
  have h := smU_bd (g := neA A) (B := 1680) (rN A) (fun k hk => neA_bd hA hk)
  have h4 := hA.1
  have h5 : nbA A = smU (neA A) (rN A) := rfl
  omega
theorem s_X11_filled {t : KT} {σ : SG} {A : RA} (hW : CW A σ) : Ca 4 113 [aR (some (1, 0, 0))] (am_hp σ) t (.inl (some (aF (A_filled A))), am_hp σ, t) := by
  have h4 := hW.1.1
  have e4 := hW.2.1.1
  have hb := waA_bd hW.1
  refine ca_of (e_X11_filled ?_)
  refine b_X11_filled_0 ((s_X11_allWords hW).up (by omega)) (show -2147483648 ≤ waA A ∧ waA A < 2147483648 by omega) (fun h => ?_) (fun h => ?_)
  · refine b_X11_filled_11 ?_
    refine w_loopU (rN A) (fun i => (15, [some (aR (some (1, 0, 0))), some (aI (iZ (waA A))), some (aI (iZ (smU (neA A) i))), some (aI (iZ ((i : Int))))], [], am_hp σ, t)) rfl (fun i hi w => ?_) ?_
    · refine b_X11_filled_15 (by omega) (by omega) (fun h => by omega) (fun _ => ?_)
      exact b_X11_filled_26 ((s_X7_bitsNeeded hW.1 hW.2.1 hi).up (by omega)) w
    · have hn := nbA_bd hW.1
      have h0 : waA A ≠ 0 := h
      refine b_X11_filled_15 (by omega) (by omega) (fun _ => ?_) (fun h => by omega)
      obtain ⟨w, hw⟩ := Int.eq_ofNat_of_zero_le hb.1
      obtain ⟨x, hx⟩ := Int.eq_ofNat_of_zero_le hn.1
      have hok := fdiv_ok (x := x) (w := w) (by omega)
      rw [← hx, ← hw] at hok
      refine b_X11_filled_43 hok ?_
      rw [A_filled, if_neg h0]
  · refine b_X11_filled_9 ?_
    have h0 : waA A = 0 := h
    rw [A_filled, if_pos h0]
theorem s_X11_meanHeld {t : KT} {σ : SG} {A : RA} {r : Int} (hW : CW A σ) (hr : -2147483648 ≤ r ∧ r < 2147483648) : Ca 3 114 [aR (some (1, 0, 0)), aI (iZ r)] (am_hp σ) t (reD 2 2 σ t (A_meanHeld A r)) := by
  refine ca_of (e_X11_meanHeld ?_)
  by_cases hc : isR A r
  · have hl := hW.len hc
    have hn := hW.nw hc
    rw [A_meanHeld, if_pos hc]
    refine b_X11_meanHeld_0 ((s_X11_checkRow hW hc).up (by omega)) (by omega) (by omega) (fun h => ?_) (fun h => ?_)
    · rw [hn.1] at h ⊢
      refine b_X11_meanHeld_21 (by omega) (by rw [hl.1]; exact ddiv_ok _ (by omega) _ (by omega) (by omega)) ?_
      rw [if_neg (by omega), hl.1]
      rfl
    · rw [hn.1] at h
      refine b_X11_meanHeld_19 ?_
      rw [if_pos (by omega)]
      rfl
  · rw [A_meanHeld, if_neg hc]
    exact bx_X11_meanHeld_0_1 ((t_X11_checkRow hW hr hc).up (by omega)) rfl
/-- the planner loaded with a row, its ways chosen by a rule, counted and priced -/
theorem plan1 {t : KT} {σ : SG} {A : RA} {r u : Nat} (hW : CW A σ) (hr : r < rN A) (hu : u ≤ 2) : ∃ σ1 σ2, Ca 4 22 [aR (some (18, 0, 0)), aR (some (8, 0, 0)), aI (iZ ((r : Int)))] (am_hp σ) t (.inl none, am_hp σ1, t) ∧ Ca 4 28 [aR (some (18, 0, 0)), aI (iZ ((u : Int))), aR (some (13, 0, 0))] (am_hp σ1) t (.inl none, am_hp σ2, t) ∧ Ca 2 32 [aR (some (18, 0, 0))] (am_hp σ2) t (.inl (some (aI (iZ ((nW (wayF u (rPr A) (rNu A r) (rLn A r)) (rLn A r) : Int))))), am_hp σ2, t) ∧ Ca 2 33 [aR (some (18, 0, 0)), aR (some (13, 0, 0))] (am_hp σ2) t (.inl (some (aI (iZ (smU (fun k => rPr A (((wayF u (rPr A) (rNu A r) (rLn A r)) (stU (wayF u (rPr A) (rNu A r) (rLn A r)) k)))) (nW (wayF u (rPr A) (rNu A r) (rLn A r)) (rLn A r)))))), am_hp σ2, t) ∧ PL (rNu A r) (rLn A r) σ2 ∧ PC (wayF u (rPr A) (rNu A r) (rLn A r)) (rLn A r) σ2 ∧ Fr inP σ σ1 ∧ Fr inP σ1 σ2 := by
  obtain ⟨σ1, c1, p1, f1⟩ := s_X5_load (d := 0) (t := t) (r := r) hW.1 hW.2.1 hr
  have hW1 := hW.P f1
  obtain ⟨σ2, c2, p2, q2, f2⟩ := s_X5_choose (d := 0) (t := t) (pr := rPr A) (p := 0) hu (hW.1.v hr) hW.1.2.2.2.1 p1 hW1.2.1.2.2.2.1
  have hW2 := hW1.P f2
  have c4 := s_X5_sumPrices (d := 0) (t := t) (p := 0) p2 q2 hW2.2.1.2.2.2.1
  rw [spF_eq] at c4
  exact ⟨σ1, σ2, c1, c2, s_X5_nW p2 q2, c4, p2, q2, f1, f2⟩
theorem s_X11_wordsBy {t : KT} {σ : SG} {A : RA} {r u : Int} (hW : CW A σ) (hr : -2147483648 ≤ r ∧ r < 2147483648) (hu : -2147483648 ≤ u ∧ u < 2147483648) : ∃ σ', Ca 5 115 [aR (some (1, 0, 0)), aI (iZ r), aI (iZ u)] (am_hp σ) t (reI 2 1 σ' t (A_wordsBy A r u)) ∧ Fr inP σ σ' := by
  refine rx_of (R := fun σ' => reI 2 1 σ' t (A_wordsBy A r u)) (e_X11_wordsBy ?_)
  by_cases hc : isR A r
  · have hl := hW.len hc
    by_cases hy : 0 ≤ u ∧ u ≤ 2
    · rw [A_wordsBy, if_pos hc, if_pos hy]
      obtain ⟨σ1, σ2, c1, c2, c3, c4, p2, q2, f1, f2⟩ := plan1 (t := t) (r := r.toNat) (u := u.toNat) hW hl.2.2.1 (by omega)
      rw [hl.2.2.2.2] at c1
      rw [show ((u.toNat : Nat) : Int) = u by omega] at c2
      exact b_X11_wordsBy_0 ((s_X11_checkRow hW hc).up (by omega)) ((s_X11_checkArgument hu (by omega) (by omega) hy).up (by omega)) (c1.up (by omega)) (c2.up (by omega)) (c3.up (by omega)) ⟨σ2, rfl, f1.trans f2⟩
    · rw [A_wordsBy, if_pos hc, if_neg hy]
      exact bx_X11_wordsBy_0_2 (σ3 := σ) (σ4 := σ) (σ5 := σ) ((s_X11_checkRow hW hc).up (by omega)) ((t_X11_checkArgument hu (by omega) (by omega) hy).up (by omega)) ⟨σ, rfl, Fr.refl _ _⟩
  · rw [A_wordsBy, if_neg hc]
    exact bx_X11_wordsBy_0_1 (σ2 := σ) (σ3 := σ) (σ4 := σ) (σ5 := σ) ((t_X11_checkRow hW hr hc).up (by omega)) ⟨σ, rfl, Fr.refl _ _⟩
theorem s_X11_priceBy {t : KT} {σ : SG} {A : RA} {r u : Int} (hW : CW A σ) (hr : -2147483648 ≤ r ∧ r < 2147483648) (hu : -2147483648 ≤ u ∧ u < 2147483648) : ∃ σ', Ca 5 116 [aR (some (1, 0, 0)), aI (iZ r), aI (iZ u)] (am_hp σ) t (reI 2 1 σ' t (A_priceBy A r u)) ∧ Fr inP σ σ' := by
  refine rx_of (R := fun σ' => reI 2 1 σ' t (A_priceBy A r u)) (e_X11_priceBy ?_)
  by_cases hc : isR A r
  · have hl := hW.len hc
    by_cases hy : 0 ≤ u ∧ u ≤ 2
    · rw [A_priceBy, if_pos hc, if_pos hy]
      obtain ⟨σ1, σ2, c1, c2, c3, c4, p2, q2, f1, f2⟩ := plan1 (t := t) (r := r.toNat) (u := u.toNat) hW hl.2.2.1 (by omega)
      rw [hl.2.2.2.2] at c1
      rw [show ((u.toNat : Nat) : Int) = u by omega] at c2
      exact b_X11_priceBy_0 ((s_X11_checkRow hW hc).up (by omega)) ((s_X11_checkArgument hu (by omega) (by omega) hy).up (by omega)) (c1.up (by omega)) (c2.up (by omega)) (c4.up (by omega)) ⟨σ2, rfl, f1.trans f2⟩
    · rw [A_priceBy, if_pos hc, if_neg hy]
      exact bx_X11_priceBy_0_2 (σ3 := σ) (σ4 := σ) (σ5 := σ) ((s_X11_checkRow hW hc).up (by omega)) ((t_X11_checkArgument hu (by omega) (by omega) hy).up (by omega)) ⟨σ, rfl, Fr.refl _ _⟩
  · rw [A_priceBy, if_neg hc]
    exact bx_X11_priceBy_0_1 (σ2 := σ) (σ3 := σ) (σ4 := σ) (σ5 := σ) ((t_X11_checkRow hW hr hc).up (by omega)) ⟨σ, rfl, Fr.refl _ _⟩
theorem s_X11_wordsIf {t : KT} {σ : SG} {A : RA} {r i v : Int} (hW : CW A σ) (hr : -2147483648 ≤ r ∧ r < 2147483648) (hi : -2147483648 ≤ i ∧ i < 2147483648) (hv : -2147483648 ≤ v ∧ v < 2147483648) : ∃ σ', Ca 5 117 [aR (some (1, 0, 0)), aI (iZ r), aI (iZ i), aI (iZ v)] (am_hp σ) t (reI 2 1 σ' t (A_wordsIf A r i v)) ∧ Fr inP σ σ' := by
  refine rx_of (R := fun σ' => reI 2 1 σ' t (A_wordsIf A r i v)) (e_X11_wordsIf ?_)
  by_cases hc : isN A r i
  · have hl := hW.len hc.1
    by_cases hy : 0 ≤ v ∧ v ≤ 268435455
    · rw [A_wordsIf, if_pos hc, if_pos hy]
      obtain ⟨σ1, c1, p1, f1⟩ := s_X5_load (d := 0) (t := t) (r := r.toNat) hW.1 hW.2.1 hl.2.2.1
      rw [hl.2.2.2.2] at c1
      obtain ⟨σ2, c2, p2, f2⟩ := s_X5_replace (d := 0) (t := t) (i := i.toNat) (v := v) p1 (by omega)
      rw [show ((i.toNat : Nat) : Int) = i by omega] at c2
      have hW2 := (hW.P f1).P f2
      obtain ⟨σ3, c3, p3, q3, f3⟩ := s_X5_choose (d := 0) (t := t) (ru := rRu A) (pr := rPr A) (p := 0) hW.1.2.1 (fun j hj => by
        unfold fup
        split
        · omega
        · exact hW.1.v hl.2.2.1 j hj) hW.1.2.2.2.1 p2 hW2.2.1.2.2.2.1
      rw [← hW2.2.1.2.1] at c3
      exact b_X11_wordsIf_0 ((s_X11_checkNumber hW hc).up (by omega)) ((s_X11_checkArgument hv (by omega) (by omega) hy).up (by omega)) (c1.up (by omega)) (c2.up (by omega)) (c3.up (by omega)) ((s_X5_nW p3 q3).up (by omega)) ⟨σ3, rfl, (f1.trans f2).trans f3⟩
    · rw [A_wordsIf, if_pos hc, if_neg hy]
      exact bx_X11_wordsIf_0_2 (σ3 := σ) (σ4 := σ) (σ5 := σ) (σ6 := σ) ((s_X11_checkNumber hW hc).up (by omega)) ((t_X11_checkArgument hv (by omega) (by omega) hy).up (by omega)) ⟨σ, rfl, Fr.refl _ _⟩
  · rw [A_wordsIf, if_neg hc]
    exact bx_X11_wordsIf_0_1 (σ2 := σ) (σ3 := σ) (σ4 := σ) (σ5 := σ) (σ6 := σ) ((t_X11_checkNumber hW hr hi hc).up (by omega)) ⟨σ, rfl, Fr.refl _ _⟩
theorem brU_bd {g : Nat → Nat} : ∀ k, (brU g k).2 ≤ 60 ∧ -1 ≤ (brU g k).1 ∧ (brU g k).1 < k
  | 0 => by
    show 60 ≤ 60 ∧ (-1 : Int) ≤ -1 ∧ (-1 : Int) < 0
    decide
  | k + 1 => by
    have := brU_bd (g := g) k
    unfold brU
    split
    · dsimp only; omega
    · omega
theorem s_X11_bestRemove {t : KT} {σ : SG} {A : RA} {r : Int} (hW : CW A σ) (hr : -2147483648 ≤ r ∧ r < 2147483648) : ∃ σ', Ca 5 118 [aR (some (1, 0, 0)), aI (iZ r)] (am_hp σ) t (reI 2 2 σ' t (A_bestRemove A r)) ∧ Fr inP σ σ' := by
  refine rx_of (R := fun σ' => reI 2 2 σ' t (A_bestRemove A r)) (e_X11_bestRemove ?_)
  by_cases hc : isR A r
  · have hl := hW.len hc
    rw [A_bestRemove, if_pos hc]
    refine b_X11_bestRemove_0 ((s_X11_checkRow hW hc).up (by omega)) ?_
    refine w_loopS (rLn A r.toNat) (fun i c => ∃ σ' u, c = (13, [some (aR (some (1, 0, 0))), some (aI (iZ r)), some (aI (iZ ((brU (wlN A r.toNat) i).1))), some (aI (iZ (((brU (wlN A r.toNat) i).2 : Int)))), some (aI (iZ ((i : Int)))), u], [], am_hp σ', t) ∧ Fr inP σ σ') ⟨σ, none, rfl, Fr.refl _ _⟩ (fun i c hi hI go => ?_) (fun c hI => ?_)
    · obtain ⟨σ', u, rfl, ff⟩ := hI
      have hW' := hW.P ff
      have hl' := hW'.len hc
      have hbr := brU_bd (g := wlN A r.toNat) i
      obtain ⟨σ1, c1, p1, f1⟩ := s_X5_load (d := 0) (t := t) (r := r.toNat) hW'.1 hW'.2.1 hl.2.2.1
      rw [hl.2.2.2.2] at c1
      obtain ⟨σ2, c2, p2, f2⟩ := s_X5_drop (d := 0) (t := t) (i := i) p1 hi
      have hW2 := (hW'.P f1).P f2
      obtain ⟨σ3, c3, p3, q3, f3⟩ := s_X5_choose (d := 0) (t := t) (ru := rRu A) (pr := rPr A) (p := 0) hW.1.2.1 (fun j hj => by
        try dsimp only
        split
        · exact hW.1.v hl.2.2.1 j (by omega)
        · exact hW.1.v hl.2.2.1 (j + 1) (by omega)) hW.1.2.2.2.1 p2 hW2.2.1.2.2.2.1
      rw [← hW2.2.1.2.1] at c3
      have fa := ((ff.trans f1).trans f2).trans f3
      have c4 := s_X5_nW (t := t) p3 q3
      have hle : wlN A r.toNat i ≤ rLn A r.toNat - 1 := nW_le _ _
      have e5 : brU (wlN A r.toNat) (i + 1) = if wlN A r.toNat i < (brU (wlN A r.toNat) i).2 then ((i : Int), wlN A r.toNat i) else brU (wlN A r.toNat) i := rfl
      refine b_X11_bestRemove_13 (by omega) (by omega) (by omega) (fun h => by omega) (fun _ => ?_)
      refine b_X11_bestRemove_27 (r4 := (wlN A r.toNat i : Int)) (c1.up (by omega)) (c2.up (by omega)) (c3.up (by omega)) (c4.up (by omega)) (by omega) (by omega) (fun h => ?_) (fun h => ?_)
      · refine b_X11_bestRemove_90 (go _ ⟨σ3, some (aI (iZ ((wlN A r.toNat i : Int)))), ?_, fa⟩)
        rw [e5, if_neg (by omega)]
        rfl
      · refine b_X11_bestRemove_84 (b_X11_bestRemove_90 (go _ ⟨σ3, some (aI (iZ ((wlN A r.toNat i : Int)))), ?_, fa⟩))
        rw [e5, if_pos (by omega)]
        rfl
    · obtain ⟨σ', u, rfl, ff⟩ := hI
      have hl' := (hW.P ff).len hc
      exact b_X11_bestRemove_13 (by omega) (by omega) (by omega) (fun _ => b_X11_bestRemove_96 ⟨σ', rfl, ff⟩) (fun h => by omega)
  · rw [A_bestRemove, if_neg hc]
    exact bx_X11_bestRemove_0_1 ((t_X11_checkRow hW hr hc).up (by omega)) ⟨σ, rfl, Fr.refl _ _⟩
theorem s_X5_choose2 {d : Nat} {t : KT} {σ : SG} {f pr : Nat → Int} {n ru p : Nat} (hru : 1 ≤ ru ∧ ru ≤ 2) (hv : ∀ j, j < n → 0 ≤ f j ∧ f j < 268435456) (hpr : ∀ w, w < 9 → 0 ≤ pr w ∧ pr w ≤ 99) (hP : PL f n σ) (hp : ∀ w, w < 9 → σ.1 (13, p, 0) w = pr w) : ∃ σ', Ca (d + 4) 28 [aR (some (18, 0, 0)), aI (iZ (ru : Int)), aR (some (13, p, 0))] (am_hp σ) t (.inl none, am_hp σ', t) ∧ PL f n σ' ∧ PC (wayF ru pr f n) n σ' ∧ PT f n σ' ∧ PK (cst ru pr) σ' ∧ Fr inP σ σ' := by
  have mT : ∀ L, inT L → inP L := fun L h => by unfold inT at h; unfold inP; omega
  have mB : ∀ L, inB L → inP L := fun L h => by unfold inB at h; unfold inP; omega
  have mK : ∀ L, inK L → inP L := fun L h => by unfold inK at h; unfold inP; omega
  obtain ⟨σ1, c1, t1, f1⟩ := s_X5_findTakeable (d := d) (t := t) hP hv
  have t1 : PT f n σ1 := t1
  have hP1 := hP.fr f1 (inT_1 rfl) (inT_1 rfl)
  refine ex_of (e_X5_choose ?_)
  refine b_X5_choose_0 c1 ?_
  refine l_X5_ch1 (pr := pr) hru.2 9 0 σ1 (by omega) (fun w hw => ?_) (fun w hw => absurd hw (Nat.not_lt_zero w)) (fun σ2 f2 k2 => ?_)
  · rw [(f1.1 (13, p, 0) (inT_1 rfl)).1]; exact hp w hw
  have hP2 := hP1.fr f2 (inK_1 rfl) (inK_1 rfl)
  have t2 := t1.fr f2 (inK_1 rfl)
  refine b_X5_choose_42 (by omega) (fun h => ?_) (fun h => by omega)
  have hc : ∀ w, w < 9 → 0 ≤ cst ru pr w ∧ cst ru pr w ≤ 101377 := fun w hw => by
    have := hpr w hw
    unfold cst
    split <;> omega
  obtain ⟨σ3, c3, h3, f3⟩ := s_X5_chooseCheapest (d := d) (t := t) hv hc hP2 t2 k2
  refine b_X5_choose_53 (c3.up (by omega)) ?_
  refine b_X5_choose_57 ⟨σ3, rfl, hP2.fr f3 (inB_1 rfl) (inB_1 rfl), ?_, t2.fr f3 (inB_1 rfl), k2.fr f3 (inB_1 rfl), ((f1.mono mT).trans (f2.mono mK)).trans (f3.mono mB)⟩
  have e : wayF ru pr f n = cheW f n (cst ru pr) := by
    funext i
    exact if_neg (by omega)
  rw [e]
  exact h3
theorem wayF_2 (pr f : Nat → Int) (n : Nat) : wayF 2 pr f n = cheW f n (cst 2 pr) := by
  funext i
  exact if_neg (by decide)
theorem wayF_1 (pr f : Nat → Int) (n : Nat) : wayF 1 pr f n = cheW f n (fun _ => 1) := by
  funext i
  rw [← cst_1 pr]
  exact if_neg (by decide)
theorem dear_no {A : RA} {r : Nat} (hA : Av A) (hr : r < rN A) (h : (nW (cheW (rNu A r) (rLn A r) (cst 2 (rPr A))) (rLn A r)) = nW (cheW (rNu A r) (rLn A r) (fun _ => 1)) (rLn A r)) (w : Nat) : ¬ drW A r w := by
  intro hd
  apply hd
  refine fndF_no 100 0 (fun j hj hlt => ?_)
  have hf := fewest (ch := cheW (rNu A r) (rLn A r) (cst 2 (fup (rPr A) w ((0 + j : Nat) : Int)))) (hA.v hr) (fun i hi => ⟨(pick_ok _ _ (tk_8 hi (hA.v hr))).2.1, (pick_ok _ _ (tk_8 hi (hA.v hr))).2.2⟩)
  rw [← h] at hf
  have hlt : nW (cheW (rNu A r) (rLn A r) (cst 2 (fup (rPr A) w ((0 + j : Nat) : Int)))) (rLn A r) < (nW (cheW (rNu A r) (rLn A r) (cst 2 (rPr A))) (rLn A r)) := hlt
  omega
theorem s_X11_dearWay {t : KT} {σ : SG} {A : RA} {r : Int} (hW : CW A σ) (hr : -2147483648 ≤ r ∧ r < 2147483648) : ∃ σ', Ca 5 119 [aR (some (1, 0, 0)), aI (iZ r)] (am_hp σ) t (reI 2 2 σ' t (A_dearWay A r)) ∧ Fr inP σ σ' := by
  refine rx_of (R := fun σ' => reI 2 2 σ' t (A_dearWay A r)) (e_X11_dearWay ?_)
  by_cases hc : isR A r
  · have hl := hW.len hc
    have hv := hW.1.v hl.2.2.1
    rw [A_dearWay, if_pos hc]
    obtain ⟨σ1, c1, p1, f1⟩ := s_X5_load (d := 0) (t := t) (r := r.toNat) hW.1 hW.2.1 hl.2.2.1
    rw [hl.2.2.2.2] at c1
    have hW1 := hW.P f1
    obtain ⟨σ2, c2, p2, q2, f2⟩ := s_X5_choose (d := 0) (t := t) (ru := 1) (pr := rPr A) (p := 0) (by omega) hv hW.1.2.2.2.1 p1 hW1.2.1.2.2.2.1
    have hW2 := hW1.P f2
    have c3 := s_X5_nW (t := t) p2 q2
    obtain ⟨σ3, c4, p3, q3, t3, k3, f3⟩ := s_X5_choose2 (d := 0) (t := t) (ru := 2) (pr := rPr A) (p := 0) (by omega) hv hW.1.2.2.2.1 p2 hW2.2.1.2.2.2.1
    have hW3 := hW2.P f3
    have c5 := s_X5_nW (t := t) p3 q3
    rw [wayF_1] at c3
    rw [wayF_2] at c5
    have n1 := nW_le (cheW (rNu A r.toNat) (rLn A r.toNat) (fun _ => 1)) (rLn A r.toNat)
    have n2 := nW_le (cheW (rNu A r.toNat) (rLn A r.toNat) (cst 2 (rPr A))) (rLn A r.toNat)
    have fz := (f1.trans f2).trans f3
    refine b_X11_dearWay_0 ((s_X11_checkRow hW hc).up (by omega)) (c1.up (by omega)) (c2.up (by omega)) (c3.up (by omega)) (c4.up (by omega)) (c5.up (by omega)) (by omega) (by omega) (fun h => ?_) (fun h => ?_)
    · refine b_X11_dearWay_70 ?_
      refine w_loopS 9 (fun i c => ∃ σ', c = (73, [some (aR (some (1, 0, 0))), some (aI (iZ r)), some (aI (iZ ((nW (cheW (rNu A r.toNat) (rLn A r.toNat) (fun _ => 1)) (rLn A r.toNat) : Int)))), some (aI (iZ (((nW (cheW (rNu A r.toNat) (rLn A r.toNat) (cst 2 (rPr A))) (rLn A r.toNat)) : Int)))), some (aI (iZ ((i : Int))))], [], am_hp σ', t) ∧ PL (rNu A r.toNat) (rLn A r.toNat) σ' ∧ PT (rNu A r.toNat) (rLn A r.toNat) σ' ∧ PK (cst 2 (rPr A)) σ' ∧ Fr inP σ σ' ∧ ∀ w, w < i → ¬ drW A r.toNat (0 + w)) ⟨σ3, rfl, p3, t3, k3, fz, fun w hw => absurd hw (Nat.not_lt_zero w)⟩ (fun i c hi hI go => ?_) (fun c hI => ?_)
      · obtain ⟨σ', rfl, g1, g2, g3, g4, g5⟩ := hI
        obtain ⟨σ4, c6, h1, h2, h3, f4⟩ := s_X5_canGetBelow (t := t) (w := i) (had := (nW (cheW (rNu A r.toNat) (rLn A r.toNat) (cst 2 (rPr A))) (rLn A r.toNat))) hv hW.1.2.2.2.1 g1 g2 g3 hi (by omega)
        refine b_X11_dearWay_73 (by omega) (fun h => by omega) (fun _ => ?_)
        refine b_X11_dearWay_80 (c6.up (by omega)) bz_rg (fun h => ?_) (fun h => ?_)
        · refine b_X11_dearWay_96 (go _ ⟨σ4, rfl, h1, h2, h3, g4.trans f4, fun w hw => ?_⟩)
          by_cases e : w = i
          · subst e
            rw [Nat.zero_add]
            exact bz_0.mp h
          · exact g5 w (by omega)
        · refine b_X11_dearWay_93 ⟨σ4, ?_, g4.trans f4⟩
          rw [fndF_at (P := drW A r.toNat) 9 0 i hi g5 (by rw [Nat.zero_add]; exact bz_n.mp h), Nat.zero_add]
          rfl
      · obtain ⟨σ', rfl, g1, g2, g3, g4, g5⟩ := hI
        refine b_X11_dearWay_73 (by omega) (fun _ => b_X11_dearWay_102 ⟨σ', ?_, g4⟩) (fun h => by omega)
        rw [fndF_no (P := drW A r.toNat) 9 0 g5]
        rfl
    · refine b_X11_dearWay_68 ⟨σ3, ?_, fz⟩
      rw [fndF_no (P := drW A r.toNat) 9 0 (fun j _ => dear_no hW.1 hl.2.2.1 (by
        have h : ((nW (cheW (rNu A r.toNat) (rLn A r.toNat) (cst 2 (rPr A))) (rLn A r.toNat)) : Int) = (nW (cheW (rNu A r.toNat) (rLn A r.toNat) (fun _ => 1)) (rLn A r.toNat) : Int) := h
        omega) _)]
      rfl
  · rw [A_dearWay, if_neg hc]
    exact bx_X11_dearWay_0_1 (σ2 := σ) (σ3 := σ) (σ4 := σ) (σ5 := σ) (σ6 := σ) ((t_X11_checkRow hW hr hc).up (by omega)) ⟨σ, rfl, Fr.refl _ _⟩
theorem s_X11_wordsTogether {t : KT} {σ : SG} {A : RA} {r s : Int} (hW : CW A σ) (hr : -2147483648 ≤ r ∧ r < 2147483648) (hs : -2147483648 ≤ s ∧ s < 2147483648) : ∃ σ', Ca 5 120 [aR (some (1, 0, 0)), aI (iZ r), aI (iZ s)] (am_hp σ) t (reI 2 2 σ' t (A_wordsTogether A r s)) ∧ Fr inP σ σ' := by
  refine rx_of (R := fun σ' => reI 2 2 σ' t (A_wordsTogether A r s)) (e_X11_wordsTogether ?_)
  by_cases hc : isR A r
  · have hl := hW.len hc
    by_cases hy : isR A s
    · have hl2 := hW.len hy
      rw [A_wordsTogether, if_pos ⟨hc, hy⟩]
      obtain ⟨σ1, c1, p1, f1⟩ := s_X5_load (d := 0) (t := t) (r := r.toNat) hW.1 hW.2.1 hl.2.2.1
      rw [hl.2.2.2.2] at c1
      have hW1 := hW.P f1
      obtain ⟨σ2, c2, p2, f2⟩ := s_X5_loadBehind (d := 0) (t := t) (r := s.toNat) hW1.1 hW1.2.1 hl2.2.2.1 p1 hl.2.1
      rw [hl2.2.2.2.2] at c2
      have hW2 := hW1.P f2
      obtain ⟨σ3, c3, p3, q3, f3⟩ := s_X5_choose (d := 0) (t := t) (ru := rRu A) (pr := rPr A) (p := 0) hW.1.2.1 (fun j hj => by
        try dsimp only
        split
        · exact hW.1.v hl.2.2.1 j (by omega)
        · exact hW.1.v hl2.2.2.1 _ (by omega)) hW.1.2.2.2.1 p2 hW2.2.1.2.2.2.1
      rw [← hW2.2.1.2.1] at c3
      exact b_X11_wordsTogether_0 ((s_X11_checkRow hW hc).up (by omega)) ((s_X11_checkRow hW hy).up (by omega)) (c1.up (by omega)) (c2.up (by omega)) (c3.up (by omega)) ((s_X5_nW p3 q3).up (by omega)) ⟨σ3, rfl, (f1.trans f2).trans f3⟩
    · rw [A_wordsTogether, if_neg (fun h => hy h.2)]
      exact bx_X11_wordsTogether_0_2 (σ3 := σ) (σ4 := σ) (σ5 := σ) (σ6 := σ) ((s_X11_checkRow hW hc).up (by omega)) ((t_X11_checkRow hW hs hy).up (by omega)) ⟨σ, rfl, Fr.refl _ _⟩
  · rw [A_wordsTogether, if_neg (fun h => hc h.1)]
    exact bx_X11_wordsTogether_0_1 (σ2 := σ) (σ3 := σ) (σ4 := σ) (σ5 := σ) (σ6 := σ) ((t_X11_checkRow hW hr hc).up (by omega)) ⟨σ, rfl, Fr.refl _ _⟩
theorem rsN_bd {A : RA} {r sk : Nat} (hA : Av A) (hr : r < rN A) : 0 ≤ rsN A r sk ∧ rsN A r sk ≤ 3660 := by
  have hl := hA.l hr
  have h := smU_bd (g := fun i => (rdN (chA A r) (rLn A r) sk i : Int)) (B := 61) (rLn A r) (fun i hi => by
    have h1 : cLe (chA A r) (rLn A r) i ≤ nW (chA A r) (rLn A r) := cnU_le _ _
    have h2 := nW_le (chA A r) (rLn A r)
    have h3 : (cLe (chA A r) (rLn A r) i - 1) % sk ≤ cLe (chA A r) (rLn A r) i - 1 := Nat.mod_le _ _
    show 0 ≤ (((cLe (chA A r) (rLn A r) i - 1) % sk + 1 : Nat) : Int) ∧ (((cLe (chA A r) (rLn A r) i - 1) % sk + 1 : Nat) : Int) ≤ 61
    omega)
  have h5 : rsN A r sk = smU (fun i => (rdN (chA A r) (rLn A r) sk i : Int)) (rLn A r) := rfl
  omega
theorem bsU_bd {g : Nat → Int} : ∀ k, 1 ≤ bsU g k ∧ bsU g k ≤ k + 1
  | 0 => by
    show 1 ≤ 1 ∧ 1 ≤ 1
    decide
  | k + 1 => by
    have := bsU_bd (g := g) k
    unfold bsU
    split <;> omega
theorem s_X11_bestSkip {t : KT} {σ : SG} {A : RA} {r : Int} (hW : CW A σ) (hr : -2147483648 ≤ r ∧ r < 2147483648) : Ca 4 121 [aR (some (1, 0, 0)), aI (iZ r)] (am_hp σ) t (reI 2 2 σ t (A_bestSkip A r)) := by
  refine ca_of (e_X11_bestSkip ?_)
  by_cases hc : isR A r
  · have hl := hW.len hc
    rw [A_bestSkip, if_pos hc]
    have call : ∀ sk : Nat, 1 ≤ sk ∧ sk ≤ 9 → Ca 3 159 [aR (some (1, 0, 0)), aI (iZ r), aI (iZ ((sk : Int)))] (am_hp σ) t (.inl (some (aI (iZ (rsN A r.toNat sk)))), am_hp σ, t) := fun sk hsk => by
      have c := s_X11_readsOfAll (t := t) (r := r.toNat) hW hl.2.2.1 hsk
      rw [hl.2.2.2.2] at c
      exact c
    refine b_X11_bestSkip_0 ((s_X11_checkRow hW hc).up (by omega)) (by omega) (by omega) (fun h => ?_) (fun h => ?_)
    · rw [if_neg (by omega), hl.1]
      refine b_X11_bestSkip_21 (call 1 (by omega)) ?_
      refine w_loopS 8 (fun i c => ∃ u, c = (34, [some (aR (some (1, 0, 0))), some (aI (iZ r)), some (aI (iZ ((rLn A r.toNat : Int)))), some (aI (iZ ((bsU (rsN A r.toNat) i : Int)))), some (aI (iZ (rsN A r.toNat (bsU (rsN A r.toNat) i)))), some (aI (iZ (((i + 2 : Nat) : Int)))), u], [], am_hp σ, t)) ⟨none, rfl⟩ (fun i c hi hI go => ?_) (fun c hI => ?_)
      · obtain ⟨u, rfl⟩ := hI
        have hb := bsU_bd (g := rsN A r.toNat) i
        have b1 := rsN_bd (sk := i + 2) hW.1 hl.2.2.1
        have b2 := rsN_bd (sk := bsU (rsN A r.toNat) i) hW.1 hl.2.2.1
        have e5 : bsU (rsN A r.toNat) (i + 1) = if rsN A r.toNat (i + 2) ≤ rsN A r.toNat (bsU (rsN A r.toNat) i) then i + 2 else bsU (rsN A r.toNat) i := rfl
        refine b_X11_bestSkip_34 (by omega) (fun h => by omega) (fun _ => ?_)
        refine b_X11_bestSkip_41 (call (i + 2) (by omega)) (by omega) (by omega) (fun h => ?_) (fun h => ?_)
        · refine b_X11_bestSkip_64 (go _ ⟨some (aI (iZ (rsN A r.toNat (i + 2)))), ?_⟩)
          rw [e5, if_neg (by omega)]
          rfl
        · refine b_X11_bestSkip_57 (b_X11_bestSkip_64 (go _ ⟨some (aI (iZ (rsN A r.toNat (i + 2)))), ?_⟩))
          rw [e5, if_pos (by omega)]
          rfl
      · obtain ⟨u, rfl⟩ := hI
        exact b_X11_bestSkip_34 (by omega) (fun _ => b_X11_bestSkip_70 rfl) (fun h => by omega)
    · rw [if_pos (by omega)]
      exact b_X11_bestSkip_19 rfl
  · rw [A_bestSkip, if_neg hc]
    exact bx_X11_bestSkip_0_1 ((t_X11_checkRow hW hr hc).up (by omega)) rfl
