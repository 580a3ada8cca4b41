/-! SPECIFICATIONS: a word, and what words cost -/
set_option maxRecDepth 4000
/-- the numbers from place j of a word on, laid over what it holds -/
def wdF (f : Nat → Int) (n w i : Nat) : Nat → Nat → Int → Int
  | 0, _, a => a
  | k + 1, j, a => if i + j < n then wdF f n w i k (j + 1) (zor a (zshl (f (i + j)) ((j : Int) * (wid w : Int)))) else a
/-- the word of way w for the numbers from i on -/
abbrev wrd (f : Nat → Int) (n w i : Nat) : Int := wdF f n w i (cnt w) 0 (zshl w 28)
theorem l_X5_wordFrom {d : Nat} {t : KT} {Q : RS → Prop} {σ : SG} {f : Nat → Int} {n i w : Nat} (hP : PL f n σ) (hi : i < n) (hw : w < 9) : ∀ (k j : Nat) (a : Int), j + k = cnt w → Q (.inl (some (aI (iZ (wdF f n w i k j a)))), am_hp σ, t) → Wp k_X5_wordFrom (d + 1) (15, [some (aR (some (18, 0, 0))), some (aI (iZ (i : Int))), some (aI (iZ (w : Int))), some (aI (iZ a)), some (aI (iZ (j : Int)))], [], am_hp σ, t) Q
  | 0, j, a, hk, q => by
    have hcb := cnt_bd w hw
    refine b_X5_wordFrom_15 (s_X11_countOf (d := d) hw) (by omega) (by omega) (fun _ => ?_) (fun h => by omega)
    exact b_X5_wordFrom_61 q
  | k + 1, j, a, hk, q => by
    have hcb := cnt_bd w hw
    have hp2 := hP.2.1
    unfold wdF at q
    refine b_X5_wordFrom_15 (s_X11_countOf (d := d) hw) (by omega) (by omega) (fun h => by omega) (fun _ => ?_)
    refine b_X5_wordFrom_24 (by omega) (by rw [hP.1]; omega) (fun h => ?_) (fun h => ?_)
    · rw [hP.1] at h
      rw [if_neg (by omega)] at q
      exact b_X5_wordFrom_61 q
    · rw [hP.1] at h
      have hij : i + j < n := by omega
      rw [if_pos hij] at q
      refine b_X5_wordFrom_35 (by omega) (s_X11_widthOf (d := d) hw) ?_
      have e : ((i : Int) + (j : Int)).toNat = i + j := by omega
      rw [e, hP.2.2 (i + j) hij]
      exact l_X5_wordFrom hP hi hw k (j + 1) _ (by omega) q
theorem s_X5_wordFrom {d : Nat} {t : KT} {σ : SG} {f : Nat → Int} {n i : Nat} {ch : Nat → Nat} (hP : PL f n σ) (hC : PC ch n σ) (hi : i < n) : Ca (d + 2) 34 [aR (some (18, 0, 0)), aI (iZ (i : Int))] (am_hp σ) t (.inl (some (aI (iZ (wrd f n (ch i) i)))), am_hp σ, t) := by
  have hp2 := hP.2.1
  have c := hC i hi
  have e : σ.1 (21, 0, 0) (i : Int).toNat = ch i := c.1
  refine ca_of (e_X5_wordFrom ?_)
  refine b_X5_wordFrom_0 (by omega) ?_
  rw [e]
  exact l_X5_wordFrom hP hi c.2 (cnt (ch i)) 0 _ (by omega) rfl
/-- what the words from i on cost by prices -/
def spF (pr : Nat → Int) (ch : Nat → Nat) (n : Nat) : Nat → Nat → Int
  | 0, _ => 0
  | k + 1, i => if i < n then pr (ch i) + spF pr ch n k (i + cnt (ch i)) else 0
theorem l_X5_sumPrices {d : Nat} {t : KT} {Q : RS → Prop} {σ : SG} {f pr : Nat → Int} {n p : Nat} {ch : Nat → Nat} (hP : PL f n σ) (hC : PC ch n σ) (hp : ∀ w, w < 9 → σ.1 (13, p, 0) w = pr w) : ∀ (k i : Nat) (a : Int), n ≤ i + k → i ≤ 200 → Q (.inl (some (aI (iZ (a + spF pr ch n k i)))), am_hp σ, t) → Wp k_X5_sumPrices (d + 1) (4, [some (aR (some (18, 0, 0))), some (aR (some (13, p, 0))), some (aI (iZ a)), some (aI (iZ (i : Int)))], [], am_hp σ, t) Q
  | 0, i, a, hk, h2, q => by
    have hp2 := hP.2.1
    refine b_X5_sumPrices_4 (by omega) (by rw [hP.1]; omega) (fun _ => ?_) (fun h => by rw [hP.1] at h; omega)
    rw [spF, Int.add_zero] at q
    exact b_X5_sumPrices_40 q
  | k + 1, i, a, hk, h2, q => by
    have hp2 := hP.2.1
    unfold spF at q
    refine b_X5_sumPrices_4 (by omega) (by rw [hP.1]; omega) (fun h => ?_) (fun h => ?_)
    · rw [hP.1] at h
      rw [if_neg (by omega), Int.add_zero] at q
      exact b_X5_sumPrices_40 q
    · rw [hP.1] at h
      have hi : i < n := by omega
      have c := hC i hi
      have hcb := cnt_bd (ch i) c.2
      have e : σ.1 (21, 0, 0) (i : Int).toNat = ch i := c.1
      rw [if_pos hi, ← Int.add_assoc] at q
      have hpc := s_X11_priceOf (d := d) (t := t) (σ := σ) (p := p) c.2
      rw [hp _ c.2] at hpc
      refine b_X5_sumPrices_12 (by omega) (by rw [e]; exact hpc) (by rw [e]; exact s_X11_countOf (d := d) c.2) ?_
      exact l_X5_sumPrices hP hC hp k (i + cnt (ch i)) _ (by omega) (by omega) q
theorem s_X5_sumPrices {d : Nat} {t : KT} {σ : SG} {f pr : Nat → Int} {n p : Nat} {ch : Nat → Nat} (hP : PL f n σ) (hC : PC ch n σ) (hp : ∀ w, w < 9 → σ.1 (13, p, 0) w = pr w) : Ca (d + 2) 33 [aR (some (18, 0, 0)), aR (some (13, p, 0))] (am_hp σ) t (.inl (some (aI (iZ (spF pr ch n n 0)))), am_hp σ, t) := by
  refine ca_of (e_X5_sumPrices ?_)
  refine b_X5_sumPrices_0 ?_
  exact l_X5_sumPrices hP hC hp n 0 0 (by omega) (by omega) (by rw [Int.zero_add])
