/-! THE MODEL: skips and shares -/
set_option maxRecDepth 4000
theorem smU_seg {g : Nat → Int} {a : Nat} {c : Int} : ∀ m, (∀ j, j < m → g (a + j) = c) → smU g (a + m) = smU g a + (m : Int) * c
  | 0, _ => by rw [show ((0 : Nat) : Int) * c = 0 from Int.zero_mul c, Int.add_zero]; rfl
  | m + 1, h => by
    rw [show a + (m + 1) = (a + m) + 1 by omega, smU_s, smU_seg m (fun j hj => h j (by omega)), h m (by omega), Int.natCast_add, Int.add_mul, show ((1 : Nat) : Int) = 1 from rfl, Int.one_mul, Int.add_assoc]
theorem cLe_at {ch : Nat → Nat} {n k j : Nat} (hk : k < nW ch n) (hj : j < hB ch n k) : cLe ch n (stU ch k + j) = k + 1 := by
  have h1 := (cLe_seg ch n (stU ch k + j) k).mpr ⟨hk, by omega⟩
  have h2 : ¬ k + 1 < cLe ch n (stU ch k + j) := fun z => by
    have h3 := (cLe_seg ch n (stU ch k + j) (k + 1)).mp z
    have h4 := sT_in h3.1
    have h5 : stU ch k + hB ch n k = sT ch n (k + 1) := hB_eq hk
    rw [h4.1] at h5
    omega
  omega
theorem s_X12_readsBy {t : KT} {σ : SG} {ch : Nat → Nat} {f : Nat → Int} {n sk : Nat} (h : WD ch f n σ) (hs : 1 ≤ sk ∧ sk ≤ 9) : Ca 2 300 [aR (some (40, 0, 0)), aI (iZ ((sk : Int)))] (am_hp σ) t (.inl (some (aI (iZ (smU (fun i => (rdN ch n sk i : Int)) n)))), am_hp σ, t) := by
  have hn := h.n
  have e := h.1.1
  refine ca_of (e_X12_readsBy ?_)
  refine b_X12_readsBy_0 ?_
  refine w_loopU (nW ch n) (fun k => (4, [some (aR (some (40, 0, 0))), some (aI (iZ ((sk : Int)))), some (aI (iZ (smU (fun i => (rdN ch n sk i : Int)) (sT ch n k)))), some (aI (iZ ((k : Int))))], [], am_hp σ, t)) ?_ (fun k hk w => ?_) ?_
  · have : sT ch n 0 = 0 := by show min 0 n = 0; omega
    show (4, _, _, _, _) = _
    rw [this]
    rfl
  · have hst := sT_in hk
    have hb : sT ch n (k + 1) = stU ch k + hB ch n k := (hB_eq hk).symm
    have hseg : smU (fun i => (rdN ch n sk i : Int)) (stU ch k + hB ch n k) = smU (fun i => (rdN ch n sk i : Int)) (stU ch k) + (hB ch n k : Int) * ((k % sk + 1 : Nat) : Int) := smU_seg (g := fun i => (rdN ch n sk i : Int)) (hB ch n k) (fun j hj => by
      show (((cLe ch n (stU ch k + j) - 1) % sk + 1 : Nat) : Int) = _
      rw [cLe_at hk hj, Nat.add_sub_cancel])
    rw [hb, hseg] at w
    rw [hst.1]
    refine b_X12_readsBy_4 (by omega) (by omega) (fun q => by omega) (fun _ => b_X12_readsBy_12 ((s_X12_heldBy h hk).up (by omega)) (by omega) ?_)
    rw [zrem_n (by omega) (by omega)]
    exact w
  · rw [sT_out (Nat.le_refl _)]
    exact b_X12_readsBy_4 (by omega) (by omega) (fun _ => b_X12_readsBy_32 rfl) (fun q => by omega)
theorem m_bestSkip {t : KT} {σ : SG} {A : RA} {r : Int} (hA : MA A σ) (hC : MC σ) (hr : -2147483648 ≤ r ∧ r < 2147483648) : ∃ σ', Ca 7 301 [aR (some (40, 0, 0)), aI (iZ r)] (am_hp σ) t (.inl (some (aI (iZ (moI (A_bestSkip A r))))), am_hp σ', t) ∧ σ'.1 (40, 0, 0) 0 = moC (A_bestSkip A r) ∧ MF σ σ' := by
  have cr := s_X12_isRow (t := t) hA hr
  refine ex_of (e_X12_bestSkip ?_)
  unfold A_bestSkip
  by_cases hR : isR A r
  · rw [if_pos hR]
    have hn := isR_n hR
    have A1 := hA.m (MF.ck (σ := σ) (z := 0))
    have C1 := hC.m (MF.ck (σ := σ) (z := 0))
    obtain ⟨σ2, c2, w2, p2, q2⟩ := s_X12_packsRow (t := t) A1 C1 hn.1
    rw [hn.2] at c2
    have w2n := w2.n
    have h0 : (nW (chA A r.toNat) (rLn A r.toNat)) = 0 ↔ rLn A r.toNat = 0 := by
      have := nW_lt (chA A r.toNat) (rLn A r.toNat) 0
      have e : stU (chA A r.toNat) 0 = 0 := rfl
      omega
    refine b_X12_bestSkip_0 (cr.up (by omega)) ((goes_t hR).up (by omega)) (by omega) (fun _ => b_X12_bestSkip_14 (c2.up (by omega)) (by omega) (fun q => ?_) (fun q => ?_)) (fun q => by omega)
    · rw [if_neg (by omega)]
      refine b_X12_bestSkip_26 ?_
      refine w_loopU 8 (fun k => (31, [some (aR (some (40, 0, 0))), some (aI (iZ r)), some (aI (iZ (((nW (chA A r.toNat) (rLn A r.toNat)) : Int)))), some (aI (iZ ((bsU (rsN A r.toNat) k : Int)))), some (aI (iZ (((k + 2 : Nat) : Int))))], [], am_hp σ2, t)) rfl (fun k hk w => ?_) ?_
      · have hb := bsU_bd (g := rsN A r.toNat) k
        have c4 := s_X12_readsBy (t := t) (sk := k + 2) w2 (by omega)
        have c5 := s_X12_readsBy (t := t) (sk := bsU (rsN A r.toNat) k) w2 (by omega)
        have r4 := rsN_bd (sk := k + 2) hA.1 hn.1
        have r5 := rsN_bd (sk := bsU (rsN A r.toNat) k) hA.1 hn.1
        have eb : bsU (rsN A r.toNat) (k + 1) = if rsN A r.toNat (k + 2) ≤ rsN A r.toNat (bsU (rsN A r.toNat) k) then k + 2 else bsU (rsN A r.toNat) k := rfl
        rw [eb] at w
        refine b_X12_bestSkip_31 (by omega) (fun q => by omega) (fun _ => ?_)
        refine b_X12_bestSkip_38 (c4.up (by omega)) (c5.up (by omega)) (show -2147483648 ≤ rsN A r.toNat (k + 2) ∧ rsN A r.toNat (k + 2) < 2147483648 by omega) (show -2147483648 ≤ rsN A r.toNat (bsU (rsN A r.toNat) k) ∧ rsN A r.toNat (bsU (rsN A r.toNat) k) < 2147483648 by omega) (fun q => ?_) (fun q => ?_)
        · have q : rsN A r.toNat (bsU (rsN A r.toNat) k) < rsN A r.toNat (k + 2) := q
          rw [if_neg (by omega)] at w
          exact b_X12_bestSkip_55 w
        · have q : rsN A r.toNat (k + 2) ≤ rsN A r.toNat (bsU (rsN A r.toNat) k) := q
          rw [if_pos q] at w
          exact b_X12_bestSkip_52 (b_X12_bestSkip_55 w)
      · exact b_X12_bestSkip_31 (by omega) (fun _ => b_X12_bestSkip_61 ⟨σ2, rfl, okM q2⟩) (fun q => by omega)
    · rw [if_pos (by omega)]
      exact b_X12_bestSkip_24 ⟨σ2, rfl, okM q2⟩
  · rw [if_neg hR]
    exact b_X12_bestSkip_0 (cr.up (by omega)) ((goes_f hR).up (by omega)) (by omega) (fun q => absurd rfl q) (fun _ => b_X12_bestSkip_12 ⟨_, rfl, noM 1⟩)
theorem s_X12_neededBits {t : KT} {σ : SG} {A : RA} (hA : MA A σ) : Ca 3 287 [aR (some (40, 0, 0))] (am_hp σ) t (.inl (some (aI (iZ (nbA A)))), am_hp σ, t) := by
  have e0 := hA.n
  refine ca_of (e_X12_neededBits ?_)
  refine b_X12_neededBits_0 ?_
  refine w_loopS (rN A) (fun r c => ∃ u : Option AV, c = (4, [some (aR (some (40, 0, 0))), some (aI (iZ (smU (neA A) r))), some (aI (iZ ((r : Int)))), u], [], am_hp σ, t)) ⟨none, rfl⟩ (fun r c hr hI go => ?_) (fun c hI => ?_)
  · obtain ⟨u, rfl⟩ := hI
    have hl := hA.len hr
    refine b_X12_neededBits_4 (by omega) (by omega) (fun q => by omega) (fun _ => b_X12_neededBits_14 ?_)
    refine w_loopU (rLn A r) (fun k => (16, [some (aR (some (40, 0, 0))), some (aI (iZ (smU (neA A) r + smU (fun i => (bts (rNu A r i) : Int)) k))), some (aI (iZ ((r : Int)))), some (aI (iZ ((k : Int))))], [], am_hp σ, t)) ?_ (fun k hk w => ?_) ?_
    · show (16, _, _, _, _) = _
      rw [show smU (fun i => (bts (rNu A r i) : Int)) 0 = 0 from rfl, Int.add_zero]
      rfl
    · have hv := hA.num hr hk
      rw [smU_s, ← Int.add_assoc] at w
      exact b_X12_neededBits_16 ((s_X12_manyIn hA hr).up (by omega)) (by omega) (by omega) (fun q => by omega) (fun _ => b_X12_neededBits_25 ((s_X12_valueAt hA hr hk).up (by omega)) ((s_X12_bitsOf hv.2).up (by omega)) w)
    · exact b_X12_neededBits_16 ((s_X12_manyIn hA hr).up (by omega)) (by omega) (by omega) (fun _ => b_X12_neededBits_43 (go _ ⟨_, rfl⟩)) (fun q => by omega)
  · obtain ⟨u, rfl⟩ := hI
    exact b_X12_neededBits_4 (by omega) (by omega) (fun _ => b_X12_neededBits_49 rfl) (fun q => by omega)
theorem m_filled {t : KT} {σ : SG} {A : RA} (hA : MA A σ) (hC : MC σ) : ∃ σ', Ca 8 288 [aR (some (40, 0, 0))] (am_hp σ) t (.inl (some (aF (A_filled A))), am_hp σ', t) ∧ σ'.1 (40, 0, 0) 0 = 0 ∧ MF σ σ' := by
  have A1 := hA.m (MF.ck (σ := σ) (z := 0))
  have C1 := hC.m (MF.ck (σ := σ) (z := 0))
  obtain ⟨σ2, c2, q2⟩ := s_X12_wordsAll (t := t) A1 C1
  have hb := waA_bd hA.1
  have hn := nbA_bd hA.1
  refine ex_of (e_X12_filled ?_)
  refine b_X12_filled_0 (c2.up (by omega)) (show -2147483648 ≤ waA A ∧ waA A < 2147483648 by omega) (fun h => ?_) (fun h => ?_)
  · have h0 : waA A ≠ 0 := h
    obtain ⟨w, hw⟩ := Int.eq_ofNat_of_zero_le hb.1
    obtain ⟨x, hx⟩ := Int.eq_ofNat_of_zero_le hn.1
    have hok := fdiv_ok (x := x) (w := w) (by omega)
    rw [← hx, ← hw] at hok
    refine b_X12_filled_18 ((s_X12_neededBits (A1.q q2)).up (by omega)) hok (b_X12_filled_29 ⟨σ2, ?_, okM q2⟩)
    rw [A_filled, if_neg h0]
  · have h0 : waA A = 0 := h
    refine b_X12_filled_14 (b_X12_filled_29 ⟨σ2, ?_, okM q2⟩)
    rw [A_filled, if_pos h0]
def moD : UInt64 ⊕ Nat → UInt64
  | .inl z => z
  | .inr _ => FP.dconst0
def moCD : UInt64 ⊕ Nat → Int
  | .inl _ => 0
  | .inr c => (c : Int)
theorem m_meanHeld {t : KT} {σ : SG} {A : RA} {r : Int} (hA : MA A σ) (hC : MC σ) (hr : -2147483648 ≤ r ∧ r < 2147483648) : ∃ σ', Ca 7 289 [aR (some (40, 0, 0)), aI (iZ r)] (am_hp σ) t (.inl (some (aD (moD (A_meanHeld A r)))), am_hp σ', t) ∧ σ'.1 (40, 0, 0) 0 = moCD (A_meanHeld A r) ∧ MF σ σ' := by
  have cr := s_X12_isRow (t := t) hA hr
  refine ex_of (e_X12_meanHeld ?_)
  unfold A_meanHeld
  by_cases hR : isR A r
  · rw [if_pos hR]
    have hn := isR_n hR
    have A1 := hA.m (MF.ck (σ := σ) (z := 0))
    have C1 := hC.m (MF.ck (σ := σ) (z := 0))
    have hl := (A1.len hn.1).2
    obtain ⟨σ2, c2, w2, p2, q2⟩ := s_X12_packsRow (t := t) A1 C1 hn.1
    rw [hn.2] at c2
    have w2n := w2.n
    have e33 := w2.2.1.1
    refine b_X12_meanHeld_0 (cr.up (by omega)) ((goes_t hR).up (by omega)) (by omega) (fun _ => b_X12_meanHeld_14 (c2.up (by omega)) (by omega) (fun q => ?_) (fun q => ?_)) (fun q => by omega)
    · rw [if_neg (by omega)]
      refine b_X12_meanHeld_28 (by rw [e33]; exact ddiv_ok _ (by omega) _ (by omega) (by omega)) (b_X12_meanHeld_36 ⟨σ2, ?_, okM q2⟩)
      rw [e33]
      rfl
    · rw [if_pos (by omega)]
      exact b_X12_meanHeld_24 (b_X12_meanHeld_36 ⟨σ2, rfl, okM q2⟩)
  · rw [if_neg hR]
    exact b_X12_meanHeld_0 (cr.up (by omega)) ((goes_f hR).up (by omega)) (by omega) (fun q => absurd rfl q) (fun _ => b_X12_meanHeld_12 ⟨_, rfl, noM 1⟩)
