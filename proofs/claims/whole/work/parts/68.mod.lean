/-! THE MODEL: rows, and its small parts -/
set_option maxRecDepth 4000
theorem jZ_lt {a b : Int} (ha : -9223372036854775808 ≤ a ∧ a < 9223372036854775808) (hb : -9223372036854775808 ≤ b ∧ b < 9223372036854775808) : jZ a > jZ b ↔ b < a := by
  rw [gt_iff_lt, Int64.lt_iff_toInt_lt, jZ_get ha, jZ_get hb]
theorem ycmp_le {a b : Int} (ha : -9223372036854775808 ≤ a ∧ a < 9223372036854775808) (hb : -9223372036854775808 ≤ b ∧ b < 9223372036854775808) : (ycmp a b < 0 ↔ a < b) ∧ (0 < ycmp a b ↔ b < a) := by
  have e := ycmp_0 ha hb
  have l := jZ_lt ha hb
  unfold ycmp lg_cmp at e ⊢
  by_cases h1 : jZ a > jZ b
  · rw [if_pos h1] at e ⊢
    have := l.mp h1
    have k : (1 : Int32).toInt = 1 := by decide
    rw [k]
    omega
  · rw [if_neg h1] at e ⊢
    have : ¬ b < a := fun q => h1 (l.mpr q)
    by_cases h2 : jZ a = jZ b
    · rw [if_pos h2] at e ⊢
      have k : (0 : Int32).toInt = 0 := by decide
      rw [k] at e ⊢
      omega
    · rw [if_neg h2] at e ⊢
      have k : (-1 : Int32).toInt = -1 := by decide
      rw [k] at e ⊢
      omega
-- names, the first letter highest
def mN (l : List Nat) : Nat := cN l.reverse
/-- rows A lie in f from o on -/
def MR (A : RA) (f : Nat → Int) (o : Nat) : Prop := f o = rN A ∧ f (o + 1) = rRu A ∧ f (o + 2) = rSk A ∧ (∀ w, w < 9 → f (o + (3 + w)) = rPr A w) ∧ ∀ r, r < rN A → f (o + (12 + 63 * r)) = ((mN (rNm A r) / 1048576 : Nat) : Int) ∧ f (o + (13 + 63 * r)) = ((mN (rNm A r) % 1048576 : Nat) : Int) ∧ f (o + (14 + 63 * r)) = rLn A r ∧ ∀ j, j < rLn A r → f (o + (15 + 63 * r + j)) = rNu A r j
theorem MR.copy {A : RA} {f g : Nat → Int} {o p : Nat} (h : MR A f o) (h4 : rN A ≤ 4) (hl : ∀ r, r < rN A → rLn A r ≤ 60) (e : ∀ k, k < 264 → g (p + k) = f (o + k)) : MR A g p := by
  obtain ⟨h1, h2, h3, h5, h6⟩ := h
  refine ⟨by have := e 0 (by omega); rw [Nat.add_zero, Nat.add_zero] at this; rw [this]; exact h1, by rw [e 1 (by omega)]; exact h2, by rw [e 2 (by omega)]; exact h3, fun w hw => by rw [e (3 + w) (by omega)]; exact h5 w hw, fun r hr => ?_⟩
  have hl := hl r hr
  obtain ⟨k1, k2, k3, k4⟩ := h6 r hr
  exact ⟨by rw [e _ (by omega)]; exact k1, by rw [e _ (by omega)]; exact k2, by rw [e _ (by omega)]; exact k3, fun j hj => by rw [e _ (by omega)]; exact k4 j hj⟩
/-- the model's rows -/
abbrev MA (A : RA) (σ : SG) : Prop := Av A ∧ MR A (σ.1 (42, 0, 0)) 0
/-- the ways' tables -/
def MC (σ : SG) : Prop := ∀ w, w < 9 → σ.1 (46, 0, 0) w = cnt w ∧ σ.1 (47, 0, 0) w = wid w
theorem MC.fr {σ σ' : SG} {P : Lc → Prop} (h : MC σ) (f : Fr P σ σ') (h1 : ¬ P (46, 0, 0)) (h2 : ¬ P (47, 0, 0)) : MC σ' := fun w hw => by
  rw [(f.1 _ h1).1, (f.1 _ h2).1]
  exact h w hw
theorem MA.fr {A : RA} {σ σ' : SG} {P : Lc → Prop} (h : MA A σ) (f : Fr P σ σ') (h1 : ¬ P (42, 0, 0)) : MA A σ' := ⟨h.1, by rw [(f.1 _ h1).1]; exact h.2⟩
theorem MA.n {A : RA} {σ : SG} (h : MA A σ) : σ.1 (42, 0, 0) 0 = rN A ∧ rN A ≤ 4 := ⟨h.2.1, h.1.1⟩
theorem MA.len {A : RA} {σ : SG} (h : MA A σ) {r : Nat} (hr : r < rN A) : σ.1 (42, 0, 0) (14 + 63 * r) = rLn A r ∧ rLn A r ≤ 60 := by
  have := (h.2.2.2.2.2 r hr).2.2.1
  rw [Nat.zero_add] at this
  exact ⟨this, h.1.l hr⟩
theorem MA.num {A : RA} {σ : SG} (h : MA A σ) {r j : Nat} (hr : r < rN A) (hj : j < rLn A r) : σ.1 (42, 0, 0) (15 + 63 * r + j) = rNu A r j ∧ (0 ≤ rNu A r j ∧ rNu A r j < 268435456) := by
  have := (h.2.2.2.2.2 r hr).2.2.2 j hj
  rw [Nat.zero_add] at this
  exact ⟨this, h.1.v hr j hj⟩
abbrev wide_rg (z : Int) : Prop := -9223372036854775808 ≤ z ∧ z < 9223372036854775808
theorem s_X12_isIn {t : KT} {σ : SG} {v a b : Int} (hv : wide_rg v) (ha : wide_rg a) (hb : wide_rg b) : Ca 1 175 [aL (jZ v), aL (jZ a), aL (jZ b)] (am_hp σ) t (.inl (some (aI (iZ (bz (a ≤ v ∧ v ≤ b))))), am_hp σ, t) := by
  have c1 := ycmp_le hv ha
  have c2 := ycmp_le hv hb
  refine ca_of (e_X12_isIn ?_)
  refine b_X12_isIn_0 ycmp_rg (fun q => ?_) (fun q => ?_)
  · rw [bz_f (by omega)]
    exact b_X12_isIn_17 (b_X12_isIn_18 (by omega) rfl)
  · refine b_X12_isIn_6 ycmp_rg (fun q2 => ?_) (fun q2 => ?_)
    · rw [bz_f (by omega)]
      exact b_X12_isIn_17 (b_X12_isIn_18 (by omega) rfl)
    · rw [bz_t (by omega)]
      exact b_X12_isIn_13 (b_X12_isIn_18 (by omega) rfl)
theorem i_rg {z : Int} (h : -2147483648 ≤ z ∧ z < 2147483648) : wide_rg z := by unfold wide_rg; omega
theorem s_X12_truth {t : KT} {σ : SG} {P : Prop} [Decidable P] : Ca 1 176 [aI (iZ (bz P))] (am_hp σ) t (.inl (some (aI (iZ (bz P)))), am_hp σ, t) := by
  refine ca_of (e_X12_truth ?_)
  refine b_X12_truth_0 bz_rg (fun q => ?_) (fun q => ?_)
  · rw [bz_f (bz_0.mp q)]
    exact b_X12_truth_8 (b_X12_truth_9 rfl)
  · rw [bz_t (bz_n.mp q)]
    exact b_X12_truth_4 (b_X12_truth_9 rfl)
/-- the place of what the model's last call threw -/
def cd (σ : SG) (z : Int) : SG := sI σ (40, 0, 0) (up (σ.1 (40, 0, 0)) 0 z)
theorem cd_fr {σ : SG} {z : Int} : Fr (fun L => L.1 = 40) σ (cd σ z) := Fr.sI (P := fun L : Lc => L.1 = 40) rfl
theorem cd_at {σ : SG} {z : Int} {j : Nat} (h : j ≠ 0) : (cd σ z).1 (40, 0, 0) j = σ.1 (40, 0, 0) j := by simp [cd, sI_1, up_at, h]
theorem cd_0 {σ : SG} {z : Int} : (cd σ z).1 (40, 0, 0) 0 = z := by simp [cd, sI_1, up_at]
theorem s_X12_goes {t : KT} {σ : SG} {P : Prop} [Decidable P] : Ca 2 178 [aR (some (40, 0, 0)), aI (iZ (bz P))] (am_hp σ) t (.inl (some (aI (iZ (bz P)))), am_hp (cd σ (bz (¬ P))), t) := by
  refine ca_of (e_X12_goes ?_)
  refine b_X12_goes_0 bz_rg (fun q => ?_) (fun q => ?_)
  · have c := s_X12_truth (t := t) (σ := σ) (P := ¬ P)
    rw [bz_f (p := ¬ P) (fun z => z (bz_n.mp q))] at c ⊢
    exact b_X12_goes_9 (b_X12_goes_10 (c.up (by omega)) bz_01 rfl)
  · have c := s_X12_truth (t := t) (σ := σ) (P := ¬ P)
    rw [bz_t (p := ¬ P) (bz_0.mp q)] at c ⊢
    exact b_X12_goes_5 (b_X12_goes_10 (c.up (by omega)) bz_01 rfl)
theorem s_X12_goesBoth {t : KT} {σ : SG} {P R : Prop} [Decidable P] [Decidable R] : Ca 1 179 [aR (some (40, 0, 0)), aI (iZ (bz P)), aI (iZ (bz R))] (am_hp σ) t (.inl (some (aI (iZ (bz (P ∧ R))))), am_hp (cd σ (if P then (if R then 0 else 2) else 1)), t) := by
  refine ca_of (e_X12_goesBoth ?_)
  have z : ∀ x : Int, (sI σ (40, 0, 0) (up (σ.1 (40, 0, 0)) 0 x)).1 (40, 0, 0) 0 = x := fun x => by simp [sI_1, up_at]
  refine b_X12_goesBoth_0 bz_rg (fun q => ?_) (fun q => ?_)
  · have hP := bz_n.mp q
    rw [if_pos hP]
    refine b_X12_goesBoth_9 bz_rg (fun q2 => ?_) (fun q2 => ?_)
    · have hR := bz_n.mp q2
      rw [if_pos hR, bz_t (p := P ∧ R) ⟨hP, hR⟩]
      exact b_X12_goesBoth_17 (b_X12_goesBoth_18 (by rw [z]; omega) (fun k => absurd (z 0) k) (fun _ => b_X12_goesBoth_28 (b_X12_goesBoth_33 (by omega) rfl)))
    · have hR := bz_0.mp q2
      rw [if_neg hR, bz_f (p := P ∧ R) (fun k => hR k.2)]
      exact b_X12_goesBoth_13 (b_X12_goesBoth_18 (by rw [z]; omega) (fun _ => b_X12_goesBoth_32 (b_X12_goesBoth_33 (by omega) rfl)) (fun k => by rw [z] at k; omega))
  · have hP := bz_0.mp q
    rw [if_neg hP, bz_f (p := P ∧ R) (fun k => hP k.1)]
    exact b_X12_goesBoth_5 (b_X12_goesBoth_18 (by rw [z]; omega) (fun _ => b_X12_goesBoth_32 (b_X12_goesBoth_33 (by omega) rfl)) (fun k => by rw [z] at k; omega))
theorem s_X12_base {t : KT} {σ : SG} {r : Nat} : Ca 1 213 [aI (iZ ((r : Int)))] (am_hp σ) t (.inl (some (aI (iZ (((12 + 63 * r : Nat) : Int))))), am_hp σ, t) := by
  refine ca_of (e_X12_base ?_)
  refine b_X12_base_0 ?_
  rw [show (12 + 63 * (r : Int)) = ((12 + 63 * r : Nat) : Int) by omega]
theorem s_X12_manyIn {t : KT} {σ : SG} {A : RA} {r : Nat} (h : MA A σ) (hr : r < rN A) : Ca 2 214 [aR (some (40, 0, 0)), aI (iZ ((r : Int)))] (am_hp σ) t (.inl (some (aI (iZ ((rLn A r : Int))))), am_hp σ, t) := by
  have h4 := h.1.1
  have hl := h.len hr
  refine ca_of (e_X12_manyIn ?_)
  refine b_X12_manyIn_0 (s_X12_base.up (by omega)) (by omega) ?_
  rw [show (((12 + 63 * r : Nat) : Int) + 2).toNat = 14 + 63 * r by omega, hl.1]
theorem s_X12_valueAt {t : KT} {σ : SG} {A : RA} {r j : Nat} (h : MA A σ) (hr : r < rN A) (hj : j < rLn A r) : Ca 2 215 [aR (some (40, 0, 0)), aI (iZ ((r : Int))), aI (iZ ((j : Int)))] (am_hp σ) t (.inl (some (aI (iZ (rNu A r j)))), am_hp σ, t) := by
  have h4 := h.1.1
  have hl := h.len hr
  have hv := h.num hr hj
  refine ca_of (e_X12_valueAt ?_)
  refine b_X12_valueAt_0 (s_X12_base.up (by omega)) (by omega) ?_
  rw [show (((12 + 63 * r : Nat) : Int) + 3 + (j : Int)).toNat = 15 + 63 * r + j by omega, hv.1]
theorem s_X12_isRow {t : KT} {σ : SG} {A : RA} {x : Int} (h : MA A σ) (hx : -2147483648 ≤ x ∧ x < 2147483648) : Ca 2 217 [aR (some (40, 0, 0)), aI (iZ x)] (am_hp σ) t (.inl (some (aI (iZ (bz (isR A x))))), am_hp σ, t) := by
  have h4 := h.1.1
  have e0 := h.n.1
  refine ca_of (e_X12_isRow ?_)
  have c := s_X12_isIn (t := t) (σ := σ) (i_rg hx) (i_rg (z := 0) (by omega)) (i_rg (z := σ.1 (42, 0, 0) 0 - 1) (by omega))
  refine b_X12_isRow_0 hx (by omega) (c.up (by omega)) bz_01 ?_
  have e : bz (0 ≤ x ∧ x ≤ σ.1 (42, 0, 0) 0 - 1) = bz (isR A x) := by
    unfold bz
    by_cases q : isR A x
    · rw [if_pos q, if_pos (by unfold isR at q; omega)]
    · rw [if_neg q, if_neg (by unfold isR at q; omega)]
  rw [e]
theorem s_X12_isNumber {t : KT} {σ : SG} {A : RA} {x i : Int} (h : MA A σ) (hx : -2147483648 ≤ x ∧ x < 2147483648) (hi : -2147483648 ≤ i ∧ i < 2147483648) : Ca 3 218 [aR (some (40, 0, 0)), aI (iZ x), aI (iZ i)] (am_hp σ) t (.inl (some (aI (iZ (bz (isN A x i))))), am_hp σ, t) := by
  refine ca_of (e_X12_isNumber ?_)
  refine b_X12_isNumber_0 ((s_X12_isRow h hx).up (by omega)) bz_rg (fun q => ?_) (fun q => ?_)
  · have hn := bz_0.mp q
    rw [bz_f (fun k => hn k.1)]
    exact b_X12_isNumber_29 (b_X12_isNumber_30 (by omega) rfl)
  · have hy := bz_n.mp q
    have hr : x.toNat < rN A := by omega
    have ex : ((x.toNat : Nat) : Int) = x := by omega
    have hl := h.len hr
    have cm := s_X12_manyIn (t := t) h hr
    rw [ex] at cm
    have c := s_X12_isIn (t := t) (σ := σ) (i_rg hi) (i_rg (z := 0) (by omega)) (i_rg (z := (rLn A x.toNat : Int) - 1) (by omega))
    refine b_X12_isNumber_8 hi (cm.up (by omega)) (by omega) (c.up (by omega)) bz_rg (fun q2 => ?_) (fun q2 => ?_)
    · have h2 := bz_0.mp q2
      rw [bz_f (fun k => h2 (by have := k.2; omega))]
      exact b_X12_isNumber_29 (b_X12_isNumber_30 (by omega) rfl)
    · have h2 := bz_n.mp q2
      rw [bz_t ⟨hy, by omega⟩]
      exact b_X12_isNumber_25 (b_X12_isNumber_30 (by omega) rfl)
theorem s_X12_isValue {t : KT} {σ : SG} {v : Int} (hv : -2147483648 ≤ v ∧ v < 2147483648) : Ca 2 219 [aI (iZ v)] (am_hp σ) t (.inl (some (aI (iZ (bz (0 ≤ v ∧ v ≤ 268435455))))), am_hp σ, t) := by
  refine ca_of (e_X12_isValue ?_)
  exact b_X12_isValue_0 hv ((s_X12_isIn (i_rg hv) (i_rg (by omega)) (i_rg (by omega))).up (by omega)) bz_01 rfl
theorem s_X12_isWay {t : KT} {σ : SG} {v : Int} (hv : -2147483648 ≤ v ∧ v < 2147483648) : Ca 2 223 [aI (iZ v)] (am_hp σ) t (.inl (some (aI (iZ (bz (0 ≤ v ∧ v ≤ 8))))), am_hp σ, t) := by
  refine ca_of (e_X12_isWay ?_)
  exact b_X12_isWay_0 hv ((s_X12_isIn (i_rg hv) (i_rg (by omega)) (i_rg (by omega))).up (by omega)) bz_01 rfl
theorem s_X12_isRule {t : KT} {σ : SG} {v : Int} (hv : -2147483648 ≤ v ∧ v < 2147483648) : Ca 2 290 [aI (iZ v)] (am_hp σ) t (.inl (some (aI (iZ (bz (0 ≤ v ∧ v ≤ 2))))), am_hp σ, t) := by
  refine ca_of (e_X12_isRule ?_)
  exact b_X12_isRule_0 hv ((s_X12_isIn (i_rg hv) (i_rg (by omega)) (i_rg (by omega))).up (by omega)) bz_01 rfl
theorem s_X12_isSkip {t : KT} {σ : SG} {v : Int} (hv : -2147483648 ≤ v ∧ v < 2147483648) : Ca 2 315 [aI (iZ v)] (am_hp σ) t (.inl (some (aI (iZ (bz (1 ≤ v ∧ v ≤ 9))))), am_hp σ, t) := by
  refine ca_of (e_X12_isSkip ?_)
  exact b_X12_isSkip_0 hv ((s_X12_isIn (i_rg hv) (i_rg (by omega)) (i_rg (by omega))).up (by omega)) bz_01 rfl
theorem s_X12_isPrice {t : KT} {σ : SG} {v : Int} (hv : -2147483648 ≤ v ∧ v < 2147483648) : Ca 2 317 [aI (iZ v)] (am_hp σ) t (.inl (some (aI (iZ (bz (0 ≤ v ∧ v ≤ 99))))), am_hp σ, t) := by
  refine ca_of (e_X12_isPrice ?_)
  exact b_X12_isPrice_0 hv ((s_X12_isIn (i_rg hv) (i_rg (by omega)) (i_rg (by omega))).up (by omega)) bz_01 rfl
theorem s_X12_numbersAll {t : KT} {σ : SG} {A : RA} (h : MA A σ) : Ca 3 212 [aR (some (40, 0, 0))] (am_hp σ) t (.inl (some (aI (iZ (smU (fun r => (rLn A r : Int)) (rN A))))), am_hp σ, t) := by
  have e0 := h.n
  refine ca_of (e_X12_numbersAll ?_)
  refine b_X12_numbersAll_0 ?_
  refine w_loopU (rN A) (fun r => (4, [some (aR (some (40, 0, 0))), some (aI (iZ (smU (fun r => (rLn A r : Int)) r))), some (aI (iZ ((r : Int))))], [], am_hp σ, t)) rfl (fun r hr w => ?_) ?_
  · exact b_X12_numbersAll_4 (by omega) (by omega) (fun q => by omega) (fun _ => b_X12_numbersAll_14 ((s_X12_manyIn h hr).up (by omega)) w)
  · exact b_X12_numbersAll_4 (by omega) (by omega) (fun _ => b_X12_numbersAll_28 rfl) (fun q => by omega)
theorem s_X12_bitsOf {t : KT} {σ : SG} {v : Int} (hv : 0 ≤ v ∧ v < 268435456) : Ca 1 224 [aI (iZ v)] (am_hp σ) t (.inl (some (aI (iZ ((bts v : Int))))), am_hp σ, t) := by
  have hb := bts_bd v
  have hz : ∀ n : Nat, n < 32 → zshr v n = v / 2 ^ n := fun n hn => zshr_eq (by omega) hn
  have hk : ∀ k : Nat, 1 ≤ k → k ≤ 28 → (zshr v k ≤ 0 ↔ bts v ≤ k) := fun k h1 h2 => by
    rw [hz k (by omega), bts_le hv ⟨h1, h2⟩]
    have hp : (0 : Int) < 2 ^ k := by exact_mod_cast Nat.two_pow_pos k
    constructor
    · intro q
      have h0 : v / 2 ^ k = 0 := Int.le_antisymm q (Int.ediv_nonneg hv.1 (Int.le_of_lt hp))
      apply Decidable.byContradiction
      intro z
      have := Int.le_ediv_of_mul_le hp (show 1 * 2 ^ k ≤ v by rw [Int.one_mul]; exact Int.not_lt.mp z)
      omega
    · intro q
      rw [Int.ediv_eq_zero_of_lt hv.1 q]
      exact Int.le_refl _
  have hr : ∀ k : Nat, k < 32 → -2147483648 ≤ zshr v k ∧ zshr v k < 2147483648 := fun k hk => by
    rw [hz k hk]
    have hp : (0 : Int) < 2 ^ k := by exact_mod_cast Nat.two_pow_pos k
    have h1 := Int.ediv_nonneg hv.1 (Int.le_of_lt hp)
    have h2 := Int.ediv_le_self (2 ^ k) hv.1
    omega
  refine ca_of (e_X12_bitsOf ?_)
  refine b_X12_bitsOf_0 ?_
  refine w_loopU (bts v - 1) (fun k => (2, [some (aI (iZ v)), some (aI (iZ (((k + 1 : Nat) : Int))))], [], am_hp σ, t)) rfl (fun k hk2 w => ?_) ?_
  · refine b_X12_bitsOf_2 (hr _ (by omega)) (fun q => absurd ((hk (k + 1) (by omega) (by omega)).mp q) (by omega)) (fun _ => b_X12_bitsOf_8 ?_)
    exact w
  · rw [show bts v - 1 + 1 = bts v by omega]
    exact b_X12_bitsOf_2 (hr _ (by omega)) (fun _ => b_X12_bitsOf_14 rfl) (fun q => absurd ((hk (bts v) (by omega) (by omega)).mpr (Nat.le_refl _)) (by omega))
