/-! SPECIFICATIONS: the lowest way, words counted -/
set_option maxRecDepth 4000
theorem bset_bit (P : Nat → Prop) [DecidablePred P] : ∀ (k w : Nat), w < k → bset P k / 2 ^ w % 2 = if P w then 1 else 0
  | 0, w, h => by omega
  | k + 1, w, h => by
    unfold bset
    by_cases e : w = k
    · subst e
      have hl := bset_lt P w
      by_cases hp : P w
      · rw [if_pos hp, if_pos hp, Nat.add_div_right _ (Nat.two_pow_pos w), Nat.div_eq_of_lt hl]
      · rw [if_neg hp, if_neg hp, Nat.add_zero, Nat.div_eq_of_lt hl]
    · have ih := bset_bit P k w (by omega)
      by_cases hp : P k
      · rw [if_pos hp]
        have e2 : 2 ^ k = 2 ^ w * (2 * 2 ^ (k - w - 1)) := by
          rw [← Nat.pow_succ', ← Nat.pow_add]
          congr 1
          omega
        rw [e2, Nat.add_mul_div_left _ _ (Nat.two_pow_pos w), Nat.add_mul_mod_self_left, ih]
      · rw [if_neg hp, Nat.add_zero, ih]
/-- 'takeable' holds what can be taken -/
def PT (f : Nat → Int) (n : Nat) (σ : SG) : Prop := ∀ j, j < n → σ.1 (20, 0, 0) j = bset (tk f n j) 9
theorem PT.fr {f : Nat → Int} {n : Nat} {σ σ' : SG} {P : Lc → Prop} (h : PT f n σ) (k : Fr P σ σ') (h20 : ¬ P (20, 0, 0)) : PT f n σ' := by
  unfold PT at h ⊢
  rw [(k.1 _ h20).1]
  exact h
theorem s_X5_canTake {d : Nat} {t : KT} {σ : SG} {f : Nat → Int} {n i w : Nat} (hP : PL f n σ) (hT : PT f n σ) (hi : i < n) (hw : w < 9) : Ca (d + 1) 27 [aR (some (18, 0, 0)), aI (iZ (i : Int)), aI (iZ (w : Int))] (am_hp σ) t (.inl (some (aI (iZ (bz (tk f n i w))))), am_hp σ, t) := by
  have hp2 := hP.2.1
  have e : σ.1 (20, 0, 0) (i : Int).toNat = bset (tk f n i) 9 := hT i hi
  have hl : bset (tk f n i) 9 < 512 := bset_lt _ 9
  have eb := zand_bit w hw (bset (tk f n i) 9) hl
  rw [bset_bit (tk f n i) 9 w hw] at eb
  refine ca_of (e_X5_canTake ?_)
  refine b_X5_canTake_0 (by omega) (fun h => by omega) (fun _ => ?_)
  refine b_X5_canTake_4 (by omega) (by rw [hP.1]; omega) (fun h => by rw [hP.1] at h; omega) (fun _ => ?_)
  refine b_X5_canTake_12 (by omega) (by rw [e, eb]; split <;> decide) (fun h => ?_) (fun h => ?_)
  · rw [e, eb] at h
    have hn : ¬ tk f n i w := fun q => h (by rw [if_pos q]; rfl)
    refine b_X5_canTake_30 (b_X5_canTake_31 (Or.inl rfl) ?_)
    rw [bz_f hn]
  · rw [e, eb] at h
    have hn : tk f n i w := by
      apply Decidable.byContradiction
      intro q
      rw [if_neg q] at h
      exact absurd h (by decide)
    refine b_X5_canTake_26 (b_X5_canTake_31 (Or.inr rfl) ?_)
    rw [bz_t hn]
/-- the first of the ways from w on, but the last of them at the latest -/
def lwF (P : Nat → Prop) [DecidablePred P] : Nat → Nat → Nat
  | 0, w => w
  | k + 1, w => if P w then w else lwF P k (w + 1)
theorem lwF_le (P : Nat → Prop) [DecidablePred P] : ∀ k w, w ≤ lwF P k w ∧ lwF P k w ≤ w + k
  | 0, w => ⟨Nat.le_refl _, Nat.le_refl _⟩
  | k + 1, w => by
    have := lwF_le P k (w + 1)
    unfold lwF
    split <;> omega
abbrev lowW (f : Nat → Int) (n i : Nat) : Nat := lwF (tk f n i) 8 0
/-- 'chosen' holds the ways ch -/
def PC (ch : Nat → Nat) (n : Nat) (σ : SG) : Prop := ∀ i, i < n → σ.1 (21, 0, 0) i = ch i ∧ ch i < 9
theorem PC.fr {ch : Nat → Nat} {n : Nat} {σ σ' : SG} {P : Lc → Prop} (h : PC ch n σ) (k : Fr P σ σ') (h21 : ¬ P (21, 0, 0)) : PC ch n σ' := by
  unfold PC at h ⊢
  rw [(k.1 _ h21).1]
  exact h
theorem l_X5_cl2 {d : Nat} {t : KT} {Q : RS → Prop} {σ : SG} {f : Nat → Int} {n i : Nat} (hP : PL f n σ) (hT : PT f n σ) (hi : i < n) : ∀ (k w : Nat), w + k = 8 →
    Wp k_X5_chooseLowest (d + 1) (33, [some (aR (some (18, 0, 0))), some (aI (iZ (i : Int))), some (aI (iZ (lwF (tk f n i) k w : Int)))], [], am_hp σ, t) Q →
    Wp k_X5_chooseLowest (d + 1) (12, [some (aR (some (18, 0, 0))), some (aI (iZ (i : Int))), some (aI (iZ (w : Int)))], [], am_hp σ, t) Q
  | 0, w, hk, q => b_X5_chooseLowest_12 (by omega) (fun _ => q) (fun h => by omega)
  | k + 1, w, hk, q => by
    unfold lwF at q
    refine b_X5_chooseLowest_12 (by omega) (fun h => by omega) (fun _ => ?_)
    refine b_X5_chooseLowest_18 (s_X5_canTake hP hT hi (by omega)) bz_rg (fun h => ?_) (fun h => ?_)
    · rw [if_pos (bz_n.mp h)] at q
      exact q
    · rw [if_neg (bz_0.mp h)] at q
      refine b_X5_chooseLowest_27 ?_
      exact l_X5_cl2 hP hT hi k (w + 1) (by omega) q
def inC (L : Lc) : Prop := L.1 = 21
theorem inC_1 {a b c : Nat} (h : Nat.beq a 21 = false) : ¬ inC (a, b, c) := by
  intro e
  have e : a = 21 := e
  rw [e] at h
  exact absurd h (by decide)
theorem l_X5_cl1 {d : Nat} {t : KT} {Q : RS → Prop} {f : Nat → Int} {n : Nat} : ∀ (k i : Nat) (u : Option AV) (σ : SG), i + k = n → PL f n σ → PT f n σ → (∀ j, j < i → σ.1 (21, 0, 0) j = lowW f n j) →
    (∀ σ', Fr inC σ σ' → PC (lowW f n) n σ' → Q (.inl none, am_hp σ', t)) →
    Wp k_X5_chooseLowest (d + 1) (2, [some (aR (some (18, 0, 0))), some (aI (iZ (i : Int))), u], [], am_hp σ, t) Q
  | 0, i, u, σ, hk, hP, hT, hc, q => by
    have hp2 := hP.2.1
    refine b_X5_chooseLowest_2 (by omega) (by rw [hP.1]; omega) (fun _ => ?_) (fun h => by rw [hP.1] at h; omega)
    refine b_X5_chooseLowest_46 (q σ (Fr.refl _ _) (fun j hj => ⟨hc j (by omega), ?_⟩))
    have := lwF_le (tk f n j) 8 0
    show lwF (tk f n j) 8 0 < 9
    omega
  | k + 1, i, u, σ, hk, hP, hT, hc, q => by
    have hp2 := hP.2.1
    refine b_X5_chooseLowest_2 (by omega) (by rw [hP.1]; omega) (fun h => by rw [hP.1] at h; omega) (fun _ => ?_)
    refine b_X5_chooseLowest_10 ?_
    refine l_X5_cl2 hP hT (by omega) 8 0 (by omega) ?_
    refine b_X5_chooseLowest_33 (by omega) ?_
    have fa : Fr inC σ (sI σ (21, 0, 0) (up (σ.1 (21, 0, 0)) (i : Int).toNat (lwF (tk f n i) 8 0 : Int))) := Fr.sI rfl
    refine l_X5_cl1 k (i + 1) _ _ (by omega) (hP.fr fa (inC_1 rfl) (inC_1 rfl)) (hT.fr fa (inC_1 rfl)) (fun j hj => ?_) (fun σ' f1 h1 => q σ' (fa.trans f1) h1)
    by_cases e : j = i
    · subst e; simp [sI_1, up_at]
    · have := hc j (by omega)
      simp [sI_1, up_at, e, this]
theorem s_X5_chooseLowest {d : Nat} {t : KT} {σ : SG} {f : Nat → Int} {n : Nat} (hP : PL f n σ) (hT : PT f n σ) : ∃ σ', Ca (d + 2) 29 [aR (some (18, 0, 0))] (am_hp σ) t (.inl none, am_hp σ', t) ∧ PC (lowW f n) n σ' ∧ Fr inC σ σ' := by
  refine ex_of (e_X5_chooseLowest ?_)
  refine b_X5_chooseLowest_0 ?_
  exact l_X5_cl1 n 0 none σ (by omega) hP hT (fun j hj => absurd hj (Nat.not_lt_zero j)) (fun σ' f1 h1 => ⟨σ', rfl, h1, f1⟩)
/-- words from i on, by the ways ch -/
def cwF (ch : Nat → Nat) (n : Nat) : Nat → Nat → Nat
  | 0, _ => 0
  | k + 1, i => if i < n then cwF ch n k (i + cnt (ch i)) + 1 else 0
theorem l_X5_countWords {d : Nat} {t : KT} {Q : RS → Prop} {σ : SG} {f : Nat → Int} {n : Nat} {ch : Nat → Nat} (hP : PL f n σ) (hC : PC ch n σ) : ∀ (k i a : Nat), n ≤ i + k → i ≤ 200 → Q (.inl (some (aI (iZ ((a + cwF ch n k i : Nat) : Int)))), am_hp σ, t) → Wp k_X5_countWords (d + 1) (4, [some (aR (some (18, 0, 0))), some (aI (iZ (a : Int))), some (aI (iZ (i : Int)))], [], am_hp σ, t) Q
  | 0, i, a, hk, h2, q => by
    have hp2 := hP.2.1
    refine b_X5_countWords_4 (by omega) (by rw [hP.1]; omega) (fun _ => ?_) (fun h => by rw [hP.1] at h; omega)
    exact b_X5_countWords_30 q
  | k + 1, i, a, hk, h2, q => by
    have hp2 := hP.2.1
    unfold cwF at q
    refine b_X5_countWords_4 (by omega) (by rw [hP.1]; omega) (fun h => ?_) (fun h => ?_)
    · rw [hP.1] at h
      rw [if_neg (by omega)] at q
      exact b_X5_countWords_30 q
    · rw [hP.1] at h
      have hi : i < n := by omega
      have c := hC i hi
      have hcb := cnt_bd (ch i) c.2
      have e : σ.1 (21, 0, 0) (i : Int).toNat = ch i := c.1
      rw [if_pos hi] at q
      refine b_X5_countWords_12 (by omega) (by rw [e]; exact s_X11_countOf (d := d) c.2) ?_
      refine l_X5_countWords hP hC k (i + cnt (ch i)) (a + 1) (by omega) (by omega) ?_
      rw [show a + 1 + cwF ch n k (i + cnt (ch i)) = a + (cwF ch n k (i + cnt (ch i)) + 1) by omega]
      exact q
theorem s_X5_countWords {d : Nat} {t : KT} {σ : SG} {f : Nat → Int} {n : Nat} {ch : Nat → Nat} (hP : PL f n σ) (hC : PC ch n σ) : Ca (d + 2) 32 [aR (some (18, 0, 0))] (am_hp σ) t (.inl (some (aI (iZ (cwF ch n n 0 : Int)))), am_hp σ, t) := by
  refine ca_of (e_X5_countWords ?_)
  refine b_X5_countWords_0 ?_
  exact l_X5_countWords hP hC n 0 0 (by omega) (by omega) (by rw [Nat.zero_add])
