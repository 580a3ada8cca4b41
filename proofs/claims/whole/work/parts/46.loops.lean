/-! LOOPS; words of a row, read -/
set_option maxRecDepth 4000
theorem w_loop {k : Nat → Option OP} {d : Nat} {Q : RS → Prop} {c : CF} (n : Nat) (C : Nat → CF) (I : Nat → Prop) (e : C 0 = c) (h0 : I 0) (step : ∀ i, i < n → I i → (I (i + 1) → Wp k d (C (i + 1)) Q) → Wp k d (C i) Q) (fin : I n → Wp k d (C n) Q) : Wp k d c Q := by
  subst e
  have h : ∀ m i, i + m = n → I i → Wp k d (C i) Q := by
    intro m
    induction m with
    | zero =>
      intro i hi hI
      have : i = n := by omega
      subst this
      exact fin hI
    | succ m ih =>
      intro i hi hI
      exact step i (by omega) hI (fun h => ih (i + 1) (by omega) h)
  exact h n 0 (by omega) h0
theorem w_loopU {k : Nat → Option OP} {d : Nat} {Q : RS → Prop} {c : CF} (n : Nat) (C : Nat → CF) (e : C 0 = c) (step : ∀ i, i < n → Wp k d (C (i + 1)) Q → Wp k d (C i) Q) (fin : Wp k d (C n) Q) : Wp k d c Q := w_loop n C (fun _ => True) e trivial (fun i hi _ w => step i hi (w trivial)) (fun _ => fin)
theorem w_loopS {k : Nat → Option OP} {d : Nat} {Q : RS → Prop} {c : CF} (n : Nat) (I : Nat → CF → Prop) (h0 : I 0 c) (step : ∀ i c, i < n → I i c → (∀ c', I (i + 1) c' → Wp k d c' Q) → Wp k d c Q) (fin : ∀ c, I n c → Wp k d c Q) : Wp k d c Q := by
  have h : ∀ m i c, i + m = n → I i c → Wp k d c Q := by
    intro m
    induction m with
    | zero =>
      intro i c hi hI
      have : i = n := by omega
      subst this
      exact fin c hI
    | succ m ih =>
      intro i c hi hI
      exact step i c (by omega) hI (fun c' h => ih (i + 1) c' (by omega) h)
  exact h n 0 c (by omega) h0
-- sums and counts from the front
def smU (g : Nat → Int) : Nat → Int
  | 0 => 0
  | k + 1 => smU g k + g k
def cnU (P : Nat → Prop) [DecidablePred P] : Nat → Nat
  | 0 => 0
  | k + 1 => cnU P k + if P k then 1 else 0
theorem smU_t {P : Nat → Prop} [DecidablePred P] {k : Nat} (h : P k) : smU (fun k => bz (P k)) (k + 1) = smU (fun k => bz (P k)) k + 1 := by
  show smU (fun k => bz (P k)) k + bz (P k) = _
  rw [bz_t h]
theorem smU_f {P : Nat → Prop} [DecidablePred P] {k : Nat} (h : ¬ P k) : smU (fun k => bz (P k)) (k + 1) = smU (fun k => bz (P k)) k := by
  show smU (fun k => bz (P k)) k + bz (P k) = _
  rw [bz_f h, Int.add_zero]
theorem smU_bd {g : Nat → Int} {B : Int} : ∀ m, (∀ k, k < m → 0 ≤ g k ∧ g k ≤ B) → 0 ≤ smU g m ∧ smU g m ≤ B * m
  | 0, _ => by simp [smU]
  | m + 1, h => by
    have h1 := h m (by omega)
    have h2 := smU_bd m (fun k hk => h k (by omega))
    have e : B * ((m + 1 : Nat) : Int) = B * m + B := by rw [Int.natCast_add, Int.mul_add]; omega
    unfold smU
    rw [e]
    omega
theorem smU_congr {g g' : Nat → Int} : ∀ m, (∀ k, k < m → g k = g' k) → smU g m = smU g' m
  | 0, _ => rfl
  | m + 1, h => by
    unfold smU
    rw [smU_congr m (fun k hk => h k (by omega)), h m (by omega)]
theorem cnU_le (P : Nat → Prop) [DecidablePred P] : ∀ m, cnU P m ≤ m
  | 0 => Nat.le_refl _
  | m + 1 => by
    have := cnU_le P m
    unfold cnU
    split <;> omega
/-- what holds of an initial stretch is counted -/
theorem cnU_seg {P : Nat → Prop} [DecidablePred P] (hP : ∀ a b, a ≤ b → P b → P a) : ∀ m k, k < cnU P m ↔ (k < m ∧ P k)
  | 0, k => by simp [cnU]
  | m + 1, k => by
    have ih := cnU_seg hP m
    have hle := cnU_le P m
    unfold cnU
    by_cases h : P m
    · rw [if_pos h]
      have e : cnU P m = m := by
        by_cases e : cnU P m = m
        · exact e
        · exfalso
          have h1 := (ih (cnU P m)).mpr ⟨by omega, hP _ m (by omega) h⟩
          omega
      constructor
      · intro hk
        exact ⟨by omega, hP k m (by omega) h⟩
      · intro hk
        omega
    · rw [if_neg h, Nat.add_zero, ih k]
      constructor
      · intro hk; exact ⟨by omega, hk.2⟩
      · intro hk
        refine ⟨?_, hk.2⟩
        by_cases e : k = m
        · subst e; exact absurd hk.2 h
        · omega
-- words
/-- where word k starts, or where the row ends -/
def sT (ch : Nat → Nat) (n k : Nat) : Nat := min (stU ch k) n
abbrev wY (ch : Nat → Nat) (k : Nat) : Nat := ch (stU ch k)
def hB (ch : Nat → Nat) (n k : Nat) : Nat := sT ch n (k + 1) - sT ch n k
/-- the ways are fit for the numbers -/
def GW (ch : Nat → Nat) (f : Nat → Int) (n : Nat) : Prop := ∀ i, i < n → ch i < 9 ∧ ∀ m, m < cnt (ch i) → i + m < n → 0 ≤ f (i + m) ∧ f (i + m) < 2 ^ wid (ch i)
def PX (ch : Nat → Nat) (f : Nat → Int) (n p : Nat) (σ : SG) : Prop := PW ch f n (nW ch n) p σ ∧ n ≤ 60 ∧ GW ch f n
theorem runF_in {f : Nat → Int} {w : Nat} : ∀ k i m, m < runF f w k i → 0 ≤ f (i + m) ∧ f (i + m) < 2 ^ wid w
  | 0, i, m, h => by simp [runF] at h
  | k + 1, i, m, h => by
    unfold runF at h
    split at h
    · rename_i hc
      cases m with
      | zero => exact hc
      | succ m =>
        have := runF_in (f := f) (w := w) k (i + 1) m (by omega)
        rw [show i + 1 + m = i + (m + 1) by omega] at this
        exact this
    · omega
theorem tk_in {f : Nat → Int} {n i w : Nat} (h : tk f n i w) {m : Nat} (hm : m < cnt w) (hn : i + m < n) : 0 ≤ f (i + m) ∧ f (i + m) < 2 ^ wid w := by
  unfold tk at h
  exact runF_in (n - i) i m (by omega)
theorem lwF_ok (P : Nat → Prop) [DecidablePred P] : ∀ k w, P (w + k) → P (lwF P k w)
  | 0, w, h => h
  | k + 1, w, h => by
    unfold lwF
    split
    · assumption
    · exact lwF_ok P k (w + 1) (by rw [show w + 1 + k = w + (k + 1) by omega]; exact h)
theorem wayF_tk {ru : Nat} {pr f : Nat → Int} {n i : Nat} (hv : ∀ j, j < n → 0 ≤ f j ∧ f j < 268435456) (hi : i < n) : wayF ru pr f n i < 9 ∧ tk f n i (wayF ru pr f n i) := by
  unfold wayF
  split
  · have := lwF_le (tk f n i) 8 0
    exact ⟨by show lwF (tk f n i) 8 0 < 9; omega, lwF_ok (tk f n i) 8 0 (tk_8 hi hv)⟩
  · exact (pick_ok (tk f n i) (gW f n (cst ru pr) i) (tk_8 hi hv)).2
theorem wayF_GW {ru : Nat} {pr f : Nat → Int} {n : Nat} (hv : ∀ j, j < n → 0 ≤ f j ∧ f j < 268435456) : GW (wayF ru pr f n) f n := fun i hi => ⟨(wayF_tk hv hi).1, fun m hm hn => tk_in (wayF_tk hv hi).2 hm hn⟩
theorem sT_in {ch : Nat → Nat} {n k : Nat} (h : k < nW ch n) : sT ch n k = stU ch k ∧ stU ch k < n := by
  have := (nW_lt ch n k).mp h
  unfold sT
  omega
theorem sT_out {ch : Nat → Nat} {n k : Nat} (h : nW ch n ≤ k) : sT ch n k = n := by
  have := (nW_lt ch n k)
  unfold sT
  omega
theorem hB_bd {ch : Nat → Nat} {n k : Nat} (h : k < nW ch n) : 1 ≤ hB ch n k ∧ hB ch n k ≤ cnt ((ch (stU ch k))) ∧ stU ch k + hB ch n k ≤ n := by
  have h1 := sT_in h
  have h2 := cnt_1 ((ch (stU ch k)))
  have e : stU ch (k + 1) = stU ch k + cnt ((ch (stU ch k))) := rfl
  unfold hB
  rw [h1.1]
  unfold sT
  rw [e]
  omega
theorem PX.way {ch : Nat → Nat} {f : Nat → Int} {n p k : Nat} {σ : SG} (h : PX ch f n p σ) (hk : k < nW ch n) : (ch (stU ch k)) < 9 := (h.2.2 _ (sT_in hk).2).1
theorem wrd_m {f : Nat → Int} {n w i : Nat} (hw : w < 9) (hf : ∀ m, m < cnt w → i + m < n → 0 ≤ f (i + m) ∧ f (i + m) < 2 ^ wid w) : dg f n w i (cnt w) < 2 ^ 28 := by
  have h := dg_lt (f := f) (n := n) (w := w) (i := i) (cnt w) hf
  have h2 := (wid_bd w hw).2.2
  exact Nat.lt_of_lt_of_le h (Nat.pow_le_pow_right (by decide) h2)
theorem wrd_way {f : Nat → Int} {n w i : Nat} (hw : w < 9) (hf : ∀ m, m < cnt w → i + m < n → 0 ≤ f (i + m) ∧ f (i + m) < 2 ^ wid w) : zush (wrd f n w i) 28 = w := by
  have h1 := wrd_u32 hw hf
  have h2 := wrd_m hw hf
  rw [u32_ushr h1 (by omega)]
  omega
theorem wrd_num {f : Nat → Int} {n w i j : Nat} (hw : w < 9) (hf : ∀ m, m < cnt w → i + m < n → 0 ≤ f (i + m) ∧ f (i + m) < 2 ^ wid w) (hj : j < cnt w) (hn : i + j < n) : zand (zshr (wrd f n w i) ((j : Int) * (wid w : Int))) (zshl 1 (wid w : Int) - 1) = f (i + j) := by
  have h1 := wrd_u32 hw hf
  have h2 := wrd_m hw hf
  have hb := wid_bd w hw
  have hs : j * wid w + wid w ≤ 28 := by
    have : (j + 1) * wid w ≤ cnt w * wid w := Nat.mul_le_mul_right _ hj
    rw [Nat.add_mul] at this
    omega
  have hp : 1 ≤ 2 ^ wid w := Nat.one_le_two_pow
  have e1 : zshl 1 (wid w : Int) - 1 = ((2 ^ wid w - 1 : Nat) : Int) := by
    rw [zshl_1 _ (by omega), Int.natCast_sub hp]
    norm_cast
  have e2 : (j : Int) * (wid w : Int) = ((j * wid w : Nat) : Int) := by norm_cast
  rw [e1, e2, unpack h1 (by omega) hs]
  have e3 : 2 ^ 28 * w = 2 ^ (j * wid w) * (2 ^ wid w * (2 ^ (28 - j * wid w - wid w) * w)) := by
    rw [← Nat.mul_assoc, ← Nat.mul_assoc, ← Nat.pow_add, ← Nat.pow_add, show j * wid w + wid w + (28 - j * wid w - wid w) = 28 by omega]
  rw [e3, Nat.mul_add_div (Nat.two_pow_pos _), Nat.mul_add_mod, dg_get (cnt w) j hf hj hn]
  have := hf j hj hn
  omega
theorem PX.at {ch : Nat → Nat} {f : Nat → Int} {n p k : Nat} {σ : SG} (h : PX ch f n p σ) (hk : k < nW ch n) : σ.1 (30, p, 0) k = stU ch k ∧ σ.1 (29, p, 0) k = wrd f n ((ch (stU ch k))) (stU ch k) := h.1.2.2 k hk
theorem s_X4_startOf {t : KT} {σ : SG} {ch : Nat → Nat} {f : Nat → Int} {n p k : Nat} (hX : PX ch f n p σ) (hk : k < 2147483647) : Ca 1 7 [aR (some (28, p, 0)), aI (iZ ((k : Int)))] (am_hp σ) t (.inl (some (aI (iZ ((sT ch n k : Int))))), am_hp σ, t) := by
  have hw := nW_le ch n
  have h60 := hX.2.1
  have e2 := hX.1.1
  have e3 := hX.1.2.1
  refine ca_of (e_X4_startOf ?_)
  refine b_X4_startOf_0 (by omega) (fun h => by omega) (fun _ => ?_)
  refine b_X4_startOf_4 (by omega) (by omega) (fun h => ?_) (fun h => ?_)
  · have hk2 : k < nW ch n := by omega
    refine b_X4_startOf_19 (by omega) (b_X4_startOf_25 ?_)
    rw [Int.toNat_natCast, (hX.at hk2).1, (sT_in hk2).1]
  · refine b_X4_startOf_12 (b_X4_startOf_25 ?_)
    rw [e3, sT_out (by omega)]
theorem s_X4_wayOf {t : KT} {σ : SG} {ch : Nat → Nat} {f : Nat → Int} {n p k : Nat} (hX : PX ch f n p σ) (hk : k < nW ch n) : Ca 1 8 [aR (some (28, p, 0)), aI (iZ ((k : Int)))] (am_hp σ) t (.inl (some (aI (iZ (((ch (stU ch k)) : Int))))), am_hp σ, t) := by
  have hw := nW_le ch n
  have h60 := hX.2.1
  have e2 := hX.1.1
  have hs := (sT_in hk).2
  refine ca_of (e_X4_wayOf ?_)
  refine b_X4_wayOf_0 (by omega) (fun h => by omega) (fun _ => ?_)
  refine b_X4_wayOf_4 (by omega) (by omega) (fun h => ?_) (fun h => by omega)
  refine b_X4_wayOf_16 (by omega) (b_X4_wayOf_25 ?_)
  rw [Int.toNat_natCast, (hX.at hk).2, wrd_way (hX.2.2 _ hs).1 (hX.2.2 _ hs).2]
theorem s_X4_heldBy {t : KT} {σ : SG} {ch : Nat → Nat} {f : Nat → Int} {n p k : Nat} (hX : PX ch f n p σ) (hk : k < nW ch n) : Ca 2 9 [aR (some (28, p, 0)), aI (iZ ((k : Int)))] (am_hp σ) t (.inl (some (aI (iZ ((hB ch n k : Int))))), am_hp σ, t) := by
  have hw := nW_le ch n
  have h60 := hX.2.1
  have hm : sT ch n k ≤ sT ch n (k + 1) := by
    have := stU_mono ch k 1
    unfold sT
    omega
  refine ca_of (e_X4_heldBy ?_)
  refine b_X4_heldBy_0 ((s_X4_startOf (k := k + 1) hX (by omega)).up (by omega)) ((s_X4_startOf hX (by omega)).up (by omega)) ?_
  rw [show (sT ch n (k + 1) : Int) - (sT ch n k : Int) = (hB ch n k : Int) by unfold hB; omega]
theorem s_X4_usedBits {t : KT} {σ : SG} {ch : Nat → Nat} {f : Nat → Int} {n p : Nat} (hX : PX ch f n p σ) : Ca 3 10 [aR (some (28, p, 0))] (am_hp σ) t (.inl (some (aI (iZ (smU (fun k => (wid ((ch (stU ch k))) : Int) * (hB ch n k : Int)) (nW ch n))))), am_hp σ, t) := by
  have hw := nW_le ch n
  have h60 := hX.2.1
  have e2 := hX.1.1
  refine ca_of (e_X4_usedBits ?_)
  refine b_X4_usedBits_0 ?_
  refine w_loopU (nW ch n) (fun i => (4, [some (aR (some (28, p, 0))), some (aI (iZ (smU (fun k => (wid ((ch (stU ch k))) : Int) * (hB ch n k : Int)) i))), some (aI (iZ ((i : Int))))], [], am_hp σ, t)) rfl (fun i hi w => ?_) ?_
  · refine b_X4_usedBits_4 (by omega) (by omega) (fun h => by omega) (fun _ => ?_)
    exact b_X4_usedBits_12 ((s_X4_wayOf hX hi).up (by omega)) ((s_X11_widthOf (d := 0) (hX.way hi)).up (by omega)) ((s_X4_heldBy hX hi).up (by omega)) w
  · refine b_X4_usedBits_4 (by omega) (by omega) (fun _ => b_X4_usedBits_35 rfl) (fun h => by omega)
theorem s_X4_emptyBitsOf {t : KT} {σ : SG} {ch : Nat → Nat} {f : Nat → Int} {n p k : Nat} (hX : PX ch f n p σ) (hk : k < nW ch n) : Ca 3 11 [aR (some (28, p, 0)), aI (iZ ((k : Int)))] (am_hp σ) t (.inl (some (aI (iZ (28 - (wid ((ch (stU ch k))) : Int) * (hB ch n k : Int))))), am_hp σ, t) := by
  refine ca_of (e_X4_emptyBitsOf ?_)
  exact b_X4_emptyBitsOf_0 ((s_X4_wayOf hX hk).up (by omega)) ((s_X11_widthOf (d := 0) (hX.way hk)).up (by omega)) ((s_X4_heldBy hX hk).up (by omega)) rfl
theorem smU_sub (a b : Nat → Int) : ∀ m, smU (fun k => a k - b k) m = smU a m - smU b m
  | 0 => rfl
  | m + 1 => by
    unfold smU
    rw [smU_sub a b m]
    omega
theorem smU_const (c : Int) : ∀ m, smU (fun _ => c) m = c * m
  | 0 => by simp [smU]
  | m + 1 => by
    unfold smU
    rw [smU_const c m, Int.natCast_add, Int.mul_add]
    omega
theorem s_X4_emptyBits {t : KT} {σ : SG} {ch : Nat → Nat} {f : Nat → Int} {n p : Nat} (hX : PX ch f n p σ) : Ca 4 12 [aR (some (28, p, 0))] (am_hp σ) t (.inl (some (aI (iZ (smU (fun k => 28 - (wid ((ch (stU ch k))) : Int) * (hB ch n k : Int)) (nW ch n))))), am_hp σ, t) := by
  refine ca_of (e_X4_emptyBits ?_)
  refine b_X4_emptyBits_0 ((s_X4_usedBits hX).up (by omega)) ?_
  rw [smU_sub (fun _ => 28), smU_const, hX.1.1]
/-- the ways of words as a set -/
def orU (g : Nat → Nat) : Nat → Int
  | 0 => 0
  | k + 1 => zor (orU g k) (zshl 1 (g k))
theorem s_X4_setOfWays {t : KT} {σ : SG} {ch : Nat → Nat} {f : Nat → Int} {n p : Nat} (hX : PX ch f n p σ) : Ca 2 13 [aR (some (28, p, 0))] (am_hp σ) t (.inl (some (aI (iZ (orU (wY ch) (nW ch n))))), am_hp σ, t) := by
  have hw := nW_le ch n
  have h60 := hX.2.1
  have e2 := hX.1.1
  refine ca_of (e_X4_setOfWays ?_)
  refine b_X4_setOfWays_0 ?_
  refine w_loopU (nW ch n) (fun i => (4, [some (aR (some (28, p, 0))), some (aI (iZ (orU (wY ch) i))), some (aI (iZ ((i : Int))))], [], am_hp σ, t)) rfl (fun i hi w => ?_) ?_
  · refine b_X4_setOfWays_4 (by omega) (by omega) (fun h => by omega) (fun _ => ?_)
    exact b_X4_setOfWays_12 ((s_X4_wayOf hX hi).up (by omega)) w
  · exact b_X4_setOfWays_4 (by omega) (by omega) (fun _ => b_X4_setOfWays_28 rfl) (fun h => by omega)
theorem s_X4_wordsOf {t : KT} {σ : SG} {ch : Nat → Nat} {f : Nat → Int} {n p y : Nat} (hX : PX ch f n p σ) (hy : y < 9) : Ca 2 14 [aR (some (28, p, 0)), aI (iZ ((y : Int)))] (am_hp σ) t (.inl (some (aI (iZ (smU (fun k => bz ((ch (stU ch k)) = y)) (nW ch n))))), am_hp σ, t) := by
  have hw := nW_le ch n
  have h60 := hX.2.1
  have e2 := hX.1.1
  refine ca_of (e_X4_wordsOf ?_)
  refine b_X4_wordsOf_0 ?_
  refine w_loopU (nW ch n) (fun i => (4, [some (aR (some (28, p, 0))), some (aI (iZ ((y : Int)))), some (aI (iZ (smU (fun k => bz ((ch (stU ch k)) = y)) i))), some (aI (iZ ((i : Int))))], [], am_hp σ, t)) rfl (fun i hi w => ?_) ?_
  · have hwy := hX.way hi
    refine b_X4_wordsOf_4 (by omega) (by omega) (fun h => by omega) (fun _ => ?_)
    refine b_X4_wordsOf_12 ((s_X4_wayOf hX hi).up (by omega)) (by omega) (by omega) (fun h => ?_) (fun h => ?_)
    · rw [smU_f (P := fun k => (ch (stU ch k)) = y) (by omega)] at w
      exact b_X4_wordsOf_24 w
    · rw [smU_t (P := fun k => (ch (stU ch k)) = y) (by omega)] at w
      exact b_X4_wordsOf_21 (b_X4_wordsOf_24 w)
  · exact b_X4_wordsOf_4 (by omega) (by omega) (fun _ => b_X4_wordsOf_30 rfl) (fun h => by omega)
theorem s_X4_sumPrices {t : KT} {σ : SG} {ch : Nat → Nat} {f pr : Nat → Int} {n p q : Nat} (hX : PX ch f n p σ) (hp : ∀ w, w < 9 → σ.1 (13, q, 0) w = pr w) : Ca 2 15 [aR (some (28, p, 0)), aR (some (13, q, 0))] (am_hp σ) t (.inl (some (aI (iZ (smU (fun k => pr ((ch (stU ch k)))) (nW ch n))))), am_hp σ, t) := by
  have hw := nW_le ch n
  have h60 := hX.2.1
  have e2 := hX.1.1
  refine ca_of (e_X4_sumPrices ?_)
  refine b_X4_sumPrices_0 ?_
  refine w_loopU (nW ch n) (fun i => (4, [some (aR (some (28, p, 0))), some (aR (some (13, q, 0))), some (aI (iZ (smU (fun k => pr ((ch (stU ch k)))) i))), some (aI (iZ ((i : Int))))], [], am_hp σ, t)) rfl (fun i hi w => ?_) ?_
  · refine b_X4_sumPrices_4 (by omega) (by omega) (fun h => by omega) (fun _ => ?_)
    have hc := s_X11_priceOf (d := 0) (t := t) (σ := σ) (p := q) (hX.way hi)
    rw [hp _ (hX.way hi)] at hc
    exact b_X4_sumPrices_12 ((s_X4_wayOf hX hi).up (by omega)) (hc.up (by omega)) w
  · exact b_X4_sumPrices_4 (by omega) (by omega) (fun _ => b_X4_sumPrices_30 rfl) (fun h => by omega)
/-- how many words start at i at the latest -/
def cLe (ch : Nat → Nat) (n i : Nat) : Nat := cnU (fun k => stU ch k ≤ i) (nW ch n)
def cLt (ch : Nat → Nat) (n i : Nat) : Nat := cnU (fun k => stU ch k < i) (nW ch n)
theorem stU_le {ch : Nat → Nat} {a b : Nat} (h : a ≤ b) : stU ch a ≤ stU ch b := by
  have := stU_mono ch a (b - a)
  rw [show a + (b - a) = b by omega] at this
  omega
theorem cLe_seg (ch : Nat → Nat) (n i k : Nat) : k < cLe ch n i ↔ (k < nW ch n ∧ stU ch k ≤ i) := cnU_seg (P := fun k => stU ch k ≤ i) (fun a b h hb => Nat.le_trans (stU_le h) hb) _ _
theorem cLt_seg (ch : Nat → Nat) (n i k : Nat) : k < cLt ch n i ↔ (k < nW ch n ∧ stU ch k < i) := cnU_seg (P := fun k => stU ch k < i) (fun a b h hb => Nat.lt_of_le_of_lt (stU_le h) hb) _ _
theorem s_X4_wordAt {t : KT} {σ : SG} {ch : Nat → Nat} {f : Nat → Int} {n p i : Nat} (hX : PX ch f n p σ) (hi : i ≤ n) : Ca 1 16 [aR (some (28, p, 0)), aI (iZ ((i : Int)))] (am_hp σ) t (.inl (some (aI (iZ (((cLe ch n i - 1 : Nat) : Int))))), am_hp σ, t) := by
  have hw := nW_le ch n
  have h60 := hX.2.1
  have e2 := hX.1.1
  have hl : cLe ch n i ≤ nW ch n := cnU_le (fun k => stU ch k ≤ i) (nW ch n)
  refine ca_of (e_X4_wordAt ?_)
  refine b_X4_wordAt_0 ?_
  refine w_loopU (cLe ch n i - 1) (fun k => (2, [some (aR (some (28, p, 0))), some (aI (iZ ((i : Int)))), some (aI (iZ ((k : Int))))], [], am_hp σ, t)) rfl (fun k hk w => ?_) ?_
  · have h1 := (cLe_seg ch n i (k + 1)).mp (by omega)
    have e30 : σ.1 (30, p, 0) ((k : Int) + 1).toNat = stU ch (k + 1) := (hX.at h1.1).1
    refine b_X4_wordAt_2 (by omega) (by omega) (fun h => by omega) (fun _ => ?_)
    refine b_X4_wordAt_12 (by omega) (by omega) (by omega) (fun h => by omega) (fun _ => ?_)
    exact b_X4_wordAt_24 w
  · by_cases h0 : nW ch n ≤ (cLe ch n i - 1) + 1
    · exact b_X4_wordAt_2 (by omega) (by omega) (fun _ => b_X4_wordAt_30 rfl) (fun h => by omega)
    · have h1 := (cLe_seg ch n i ((cLe ch n i - 1) + 1))
      have hs := (nW_lt ch n ((cLe ch n i - 1) + 1)).mp (by omega)
      have e30 : σ.1 (30, p, 0) (((cLe ch n i - 1 : Nat) : Int) + 1).toNat = stU ch ((cLe ch n i - 1) + 1) := (hX.at (by omega)).1
      have hgt : i < stU ch ((cLe ch n i - 1) + 1) := by
        apply Decidable.byContradiction
        intro hc
        have h00 := (cLe_seg ch n i 0).mpr ⟨by omega, by rw [stU]; omega⟩
        have := h1.mpr ⟨by omega, by omega⟩
        omega
      refine b_X4_wordAt_2 (by omega) (by omega) (fun h => by omega) (fun _ => ?_)
      refine b_X4_wordAt_12 (by omega) (by omega) (by omega) (fun _ => b_X4_wordAt_30 rfl) (fun h => by omega)
theorem s_X4_numberIn {t : KT} {σ : SG} {ch : Nat → Nat} {f : Nat → Int} {n p k j : Nat} (hX : PX ch f n p σ) (hk : k < nW ch n) (hj : j < hB ch n k) : Ca 2 17 [aR (some (28, p, 0)), aI (iZ ((k : Int))), aI (iZ ((j : Int)))] (am_hp σ) t (.inl (some (aI (iZ (f (stU ch k + j))))), am_hp σ, t) := by
  have hw := nW_le ch n
  have h60 := hX.2.1
  have e2 := hX.1.1
  have hs := (sT_in hk).2
  have hb := hB_bd hk
  refine ca_of (e_X4_numberIn ?_)
  refine b_X4_numberIn_0 (by omega) (fun h => by omega) (fun _ => ?_)
  refine b_X4_numberIn_4 (by omega) (by omega) (fun _ => ?_) (fun h => by omega)
  refine b_X4_numberIn_14 ((s_X4_wayOf hX hk).up (by omega)) ((s_X11_widthOf (d := 0) (hX.way hk)).up (by omega)) (by omega) ?_
  rw [Int.toNat_natCast, (hX.at hk).2, wrd_num (hX.2.2 _ hs).1 (hX.2.2 _ hs).2 (show j < cnt ((ch (stU ch k))) by omega) (by omega)]
/-- where a number stands -/
theorem wd_of {ch : Nat → Nat} {n i : Nat} (hi : i < n) : cLe ch n i - 1 < nW ch n ∧ stU ch (cLe ch n i - 1) ≤ i ∧ i < stU ch (cLe ch n i - 1) + hB ch n (cLe ch n i - 1) := by
  have h0 := (nW_lt ch n 0).mpr (by rw [stU]; omega)
  have h00 := (cLe_seg ch n i 0).mpr ⟨h0, by rw [stU]; omega⟩
  have h1 := (cLe_seg ch n i (cLe ch n i - 1)).mp (by omega)
  have h2 := cLe_seg ch n i (cLe ch n i)
  have hs := sT_in h1.1
  refine ⟨h1.1, h1.2, ?_⟩
  unfold hB
  rw [hs.1, show cLe ch n i - 1 + 1 = cLe ch n i by omega]
  have h3 := nW_lt ch n (cLe ch n i)
  have h4 : i < sT ch n (cLe ch n i) := by
    unfold sT
    omega
  omega
theorem s_X4_numberAt {t : KT} {σ : SG} {ch : Nat → Nat} {f : Nat → Int} {n p i : Nat} (hX : PX ch f n p σ) (hi : i < n) : Ca 3 18 [aR (some (28, p, 0)), aI (iZ ((i : Int)))] (am_hp σ) t (.inl (some (aI (iZ (f i)))), am_hp σ, t) := by
  have hw := nW_le ch n
  have h60 := hX.2.1
  have h := wd_of (ch := ch) hi
  have hs := sT_in h.1
  refine ca_of (e_X4_numberAt ?_)
  have c3 := s_X4_numberIn (t := t) (j := i - stU ch (cLe ch n i - 1)) hX h.1 (by omega)
  rw [show stU ch (cLe ch n i - 1) + (i - stU ch (cLe ch n i - 1)) = i by omega] at c3
  refine b_X4_numberAt_0 (r3 := f i) (σ3 := σ) ((s_X4_wordAt hX (by omega)).up (by omega)) ((s_X4_startOf hX (by omega)).up (by omega)) ?_ rfl
  rw [show (i : Int) - ((sT ch n (cLe ch n i - 1) : Nat) : Int) = ((i - stU ch (cLe ch n i - 1) : Nat) : Int) by rw [hs.1]; omega]
  exact c3.up (by omega)
theorem PX.v {ch : Nat → Nat} {f : Nat → Int} {n p k j : Nat} {σ : SG} (h : PX ch f n p σ) (hk : k < nW ch n) (hj : j < hB ch n k) : 0 ≤ f (stU ch k + j) ∧ f (stU ch k + j) < 268435456 := by
  have hb := hB_bd hk
  have h1 := (h.2.2 _ (sT_in hk).2).2 j (show j < cnt ((ch (stU ch k))) by omega) (by omega)
  have h2 : ∀ w : Nat, w < 9 → (2 : Int) ^ wid w ≤ 268435456 := by decide
  have h3 := h2 _ (h.way hk)
  have h4 : f (stU ch k + j) < 2 ^ wid ((ch (stU ch k))) := h1.2
  omega
theorem PX.k {ch : Nat → Nat} {f : Nat → Int} {n p k : Nat} {σ : SG} (h : PX ch f n p σ) (hk : k < nW ch n) : k < 60 := by
  have h1 := nW_le ch n
  have h2 := h.2.1
  omega
