/-! THE MODEL: words are read -/
set_option maxRecDepth 4000
def WD (ch : Nat → Nat) (f : Nat → Int) (n : Nat) (σ : SG) : Prop := VW ch n σ ∧ VL f n σ ∧ GW ch f n ∧ MC σ
theorem WD.n {ch : Nat → Nat} {f : Nat → Int} {n : Nat} {σ : SG} (h : WD ch f n σ) : n ≤ 120 ∧ nW ch n ≤ n := ⟨h.2.1.2.1, nW_le ch n⟩
theorem WD.st {ch : Nat → Nat} {f : Nat → Int} {n k : Nat} {σ : SG} (h : WD ch f n σ) (hk : k < nW ch n) : σ.1 (52, 0, 0) k = (stU ch k : Int) ∧ σ.1 (52, 0, 0) (k + 1) = ((stU ch k + hB ch n k : Nat) : Int) ∧ σ.1 (51, 0, 0) k = (ch (stU ch k) : Int) ∧ ch (stU ch k) < 9 ∧ stU ch k + hB ch n k ≤ n ∧ 1 ≤ hB ch n k := by
  have hs := sT_in hk
  have hb := hB_bd hk
  have e : stU ch k + hB ch n k = sT ch n (k + 1) := by
    have : hB ch n k = sT ch n (k + 1) - sT ch n k := rfl
    rw [hs.1] at this
    omega
  exact ⟨by rw [h.1.2.2 k (by omega), hs.1], by rw [h.1.2.2 (k + 1) hk, e], h.1.2.1 k hk, (h.2.2.1 _ hs.2).1, hb.2.2, hb.1⟩
theorem s_X12_heldBy {t : KT} {σ : SG} {ch : Nat → Nat} {f : Nat → Int} {n k : Nat} (h : WD ch f n σ) (hk : k < nW ch n) : Ca 1 237 [aR (some (40, 0, 0)), aI (iZ ((k : Int)))] (am_hp σ) t (.inl (some (aI (iZ ((hB ch n k : Int))))), am_hp σ, t) := by
  have hn := h.n
  have hs := h.st hk
  refine ca_of (e_X12_heldBy ?_)
  refine b_X12_heldBy_0 (by omega) (by omega) ?_
  rw [show ((k : Int) + 1).toNat = k + 1 by omega, Int.toNat_natCast, hs.1, hs.2.1, show (((stU ch k + hB ch n k : Nat) : Int) - (stU ch k : Int)) = (hB ch n k : Int) by omega]
theorem s_X12_emptyIn {t : KT} {σ : SG} {ch : Nat → Nat} {f : Nat → Int} {n k : Nat} (h : WD ch f n σ) (hk : k < nW ch n) : Ca 2 257 [aR (some (40, 0, 0)), aI (iZ ((k : Int)))] (am_hp σ) t (.inl (some (aI (iZ (28 - (wid ((ch (stU ch k))) : Int) * (hB ch n k : Int))))), am_hp σ, t) := by
  have hn := h.n
  have hs := h.st hk
  have hc := h.2.2.2 _ hs.2.2.2.1
  refine ca_of (e_X12_emptyIn ?_)
  refine b_X12_emptyIn_0 (by omega) (by rw [Int.toNat_natCast, hs.2.2.1]; omega) ((s_X12_heldBy h hk).up (by omega)) ?_
  rw [Int.toNat_natCast, hs.2.2.1, Int.toNat_natCast, hc.2]
theorem s_X12_emptyBits {t : KT} {σ : SG} {ch : Nat → Nat} {f : Nat → Int} {n : Nat} (h : WD ch f n σ) : Ca 3 258 [aR (some (40, 0, 0))] (am_hp σ) t (.inl (some (aI (iZ (smU (fun k => 28 - (wid ((ch (stU ch k))) : Int) * (hB ch n k : Int)) (nW ch n))))), am_hp σ, t) := by
  have hn := h.n
  have e := h.1.1
  refine ca_of (e_X12_emptyBits ?_)
  refine b_X12_emptyBits_0 ?_
  refine w_loopU (nW ch n) (fun k => (4, [some (aR (some (40, 0, 0))), some (aI (iZ (smU (fun k => 28 - (wid ((ch (stU ch k))) : Int) * (hB ch n k : Int)) k))), some (aI (iZ ((k : Int))))], [], am_hp σ, t)) rfl (fun k hk w => ?_) ?_
  · exact b_X12_emptyBits_4 (by omega) (by omega) (fun q => by omega) (fun _ => b_X12_emptyBits_12 ((s_X12_emptyIn h hk).up (by omega)) w)
  · exact b_X12_emptyBits_4 (by omega) (by omega) (fun _ => b_X12_emptyBits_26 rfl) (fun q => by omega)
theorem s_X12_priceNow {t : KT} {σ : SG} {ch : Nat → Nat} {f pr : Nat → Int} {n : Nat} (h : WD ch f n σ) (hP : VP pr σ) : Ca 1 239 [aR (some (40, 0, 0))] (am_hp σ) t (.inl (some (aI (iZ (smU (fun k => pr ((ch (stU ch k)))) (nW ch n))))), am_hp σ, t) := by
  have hn := h.n
  have e := h.1.1
  refine ca_of (e_X12_priceNow ?_)
  refine b_X12_priceNow_0 ?_
  refine w_loopU (nW ch n) (fun k => (4, [some (aR (some (40, 0, 0))), some (aI (iZ (smU (fun k => pr ((ch (stU ch k)))) k))), some (aI (iZ ((k : Int))))], [], am_hp σ, t)) rfl (fun k hk w => ?_) ?_
  · have hs := h.st hk
    refine b_X12_priceNow_4 (by omega) (by omega) (fun q => by omega) (fun _ => b_X12_priceNow_12 (by omega) (by rw [Int.toNat_natCast, hs.2.2.1]; omega) ?_)
    rw [Int.toNat_natCast, hs.2.2.1, Int.toNat_natCast, (hP _ hs.2.2.2.1).1]
    exact w
  · exact b_X12_priceNow_4 (by omega) (by omega) (fun _ => b_X12_priceNow_32 rfl) (fun q => by omega)
theorem s_X12_waySet {t : KT} {σ : SG} {ch : Nat → Nat} {f : Nat → Int} {n : Nat} (h : WD ch f n σ) : Ca 1 260 [aR (some (40, 0, 0))] (am_hp σ) t (.inl (some (aI (iZ (orU (wY ch) (nW ch n))))), am_hp σ, t) := by
  have hn := h.n
  have e := h.1.1
  refine ca_of (e_X12_waySet ?_)
  refine b_X12_waySet_0 ?_
  refine w_loopU (nW ch n) (fun k => (4, [some (aR (some (40, 0, 0))), some (aI (iZ (orU (wY ch) k))), some (aI (iZ ((k : Int))))], [], am_hp σ, t)) rfl (fun k hk w => ?_) ?_
  · have hs := h.st hk
    refine b_X12_waySet_4 (by omega) (by omega) (fun q => by omega) (fun _ => b_X12_waySet_12 (by omega) ?_)
    rw [Int.toNat_natCast, hs.2.2.1]
    exact w
  · exact b_X12_waySet_4 (by omega) (by omega) (fun _ => b_X12_waySet_29 rfl) (fun q => by omega)
theorem s_X12_entriesNow {t : KT} {σ : SG} {A : RA} {ch : Nat → Nat} {f : Nat → Int} {n : Nat} (hA : MA A σ) (h : WD ch f n σ) : Ca 1 261 [aR (some (40, 0, 0))] (am_hp σ) t (.inl (some (aI (iZ ((enN (rSk A) (nW ch n) : Int))))), am_hp σ, t) := by
  have hn := h.n
  have e := h.1.1
  have hk : σ.1 (42, 0, 0) 2 = rSk A := hA.2.2.2.1
  have h9 := hA.1.2.2.1
  refine ca_of (e_X12_entriesNow ?_)
  refine b_X12_entriesNow_0 (by omega) ?_
  rw [e, hk, show ((nW ch n : Int) + (rSk A : Int)) - 1 = ((nW ch n + rSk A - 1 : Nat) : Int) by omega, zdiv_n (by omega) (by omega)]
  rfl
theorem smF_snoc (f : Nat → Int) (i k : Nat) : smF f i (k + 1) = smF f i k + f (i + k) := by
  rw [smF_add]
  show smF f i k + (f (i + k) + 0) = _
  omega
theorem s_X12_sumOf {t : KT} {σ : SG} {f : Nat → Int} {n a b : Nat} (h : VL f n σ) (hab : a ≤ b) (hb : b ≤ n) : Ca 1 266 [aR (some (40, 0, 0)), aI (iZ ((a : Int))), aI (iZ ((b : Int)))] (am_hp σ) t (.inl (some (aL (jZ (smF f a (b - a))))), am_hp σ, t) := by
  have h2 := h.2.1
  refine ca_of (e_X12_sumOf ?_)
  refine b_X12_sumOf_0 ?_
  refine w_loopU (b - a) (fun k => (5, [some (aR (some (40, 0, 0))), some (aI (iZ ((a : Int)))), some (aI (iZ ((b : Int)))), some (aL (jZ (smF f a k))), none, some (aI (iZ (((a + k : Nat) : Int))))], [], am_hp σ, t)) rfl (fun k hk w => ?_) ?_
  · have hv := h.2.2 (a + k) (by omega)
    refine b_X12_sumOf_5 (by omega) (by omega) (fun q => by omega) (fun _ => b_X12_sumOf_11 (by omega) (by rw [Int.toNat_natCast, hv.1]; omega) ?_)
    rw [Int.toNat_natCast, hv.1, ← smF_snoc]
    exact w
  · exact b_X12_sumOf_5 (by omega) (by omega) (fun _ => b_X12_sumOf_28 rfl) (fun q => by omega)
