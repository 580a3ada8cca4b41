/-! SPECIFICATIONS: rows read in loops -/
set_option maxRecDepth 4000
def fndF (P : Nat → Prop) [DecidablePred P] : Nat → Nat → Int
  | _, 0 => -1
  | i, k + 1 => if P i then i else fndF P (i + 1) k
def smF (f : Nat → Int) : Nat → Nat → Int
  | _, 0 => 0
  | i, k + 1 => f i + smF f (i + 1) k
theorem smF_bd {f : Nat → Int} {B : Int} : ∀ (k i : Nat), (∀ j, i ≤ j → j < i + k → 0 ≤ f j ∧ f j ≤ B) → 0 ≤ smF f i k ∧ smF f i k ≤ B * k
  | 0, i, h => by simp [smF]
  | k + 1, i, h => by
    have h1 := h i (Nat.le_refl _) (by omega)
    have h2 := smF_bd k (i + 1) (fun j a b => h j (by omega) (by omega))
    unfold smF
    have e : B * ((k + 1 : Nat) : Int) = B + B * k := by rw [Int.natCast_add, Int.mul_add]; omega
    rw [e]
    omega
theorem fndF_bd {P : Nat → Prop} [DecidablePred P] : ∀ (k i : Nat), fndF P i k = -1 ∨ (i ≤ fndF P i k ∧ fndF P i k < i + k)
  | 0, i => Or.inl rfl
  | k + 1, i => by
    unfold fndF
    split
    · right; omega
    · rcases fndF_bd k (i + 1) (P := P) with h | h
      · exact Or.inl h
      · right; omega
theorem ycmp_rg {a b : Int} : -2147483648 ≤ ycmp a b ∧ ycmp a b < 2147483648 := by
  unfold ycmp lg_cmp
  split
  · decide
  · split <;> decide
theorem ycmp_0 {a b : Int} (ha : -9223372036854775808 ≤ a ∧ a < 9223372036854775808) (hb : -9223372036854775808 ≤ b ∧ b < 9223372036854775808) : ycmp a b = 0 ↔ a = b := by
  have e : jZ a = jZ b ↔ a = b := by
    constructor
    · intro h
      have := congrArg Int64.toInt h
      rwa [jZ_get ha, jZ_get hb] at this
    · intro h; rw [h]
  unfold ycmp lg_cmp
  by_cases h1 : jZ a > jZ b
  · rw [if_pos h1]
    constructor
    · intro h; exact absurd h (by decide)
    · intro h; rw [h] at h1; exact absurd h1 (by simp)
  · rw [if_neg h1]
    by_cases h2 : jZ a = jZ b
    · rw [if_pos h2]
      exact ⟨fun _ => e.mp h2, fun _ => by decide⟩
    · rw [if_neg h2]
      constructor
      · intro h; exact absurd h (by decide)
      · intro h; exact absurd (e.mpr h) h2
theorem l_X7_rowNamed {d : Nat} {t : KT} {Q : RS → Prop} {σ : SG} {p : Nat} {y : Int} (hs : 0 ≤ σ.1 (8, p, 0) 4 ∧ σ.1 (8, p, 0) 4 ≤ 4) (hn : ∀ j : Nat, j < 4 → -9223372036854775808 ≤ σ.2.1 (9, p, 0) j ∧ σ.2.1 (9, p, 0) j < 9223372036854775808) (hy : -9223372036854775808 ≤ y ∧ y < 9223372036854775808) : ∀ (k i : Nat), (i : Int) + k = σ.1 (8, p, 0) 4 → Q (.inl (some (aI (iZ (fndF (fun j => σ.2.1 (9, p, 0) j = y) i k)))), am_hp σ, t) → Wp k_X7_rowNamed d (2, [some (aR (some (8, p, 0))), some (aL (jZ y)), none, some (aI (iZ (i : Int)))], [], am_hp σ, t) Q
  | 0, i, hk, q => by
    refine b_X7_rowNamed_2 (by omega) (by omega) (fun h => ?_) (fun h => by omega)
    exact b_X7_rowNamed_29 q
  | k + 1, i, hk, q => by
    unfold fndF at q
    refine b_X7_rowNamed_2 (by omega) (by omega) (fun h => by omega) (fun h => ?_)
    refine b_X7_rowNamed_10 (by omega) ycmp_rg (fun h => ?_) (fun h => ?_)
    · have h' := (not_congr (ycmp_0 (hn i (by omega)) hy)).mp h
      rw [if_neg h'] at q
      refine b_X7_rowNamed_23 ?_
      exact l_X7_rowNamed hs hn hy k (i + 1) (by omega) q
    · have h' := (ycmp_0 (hn i (by omega)) hy).mp h
      rw [if_pos h'] at q
      exact b_X7_rowNamed_21 q
theorem s_X7_rowNamed {d : Nat} {t : KT} {σ : SG} {p : Nat} {y : Int} (hs : 0 ≤ σ.1 (8, p, 0) 4 ∧ σ.1 (8, p, 0) 4 ≤ 4) (hn : ∀ j : Nat, j < 4 → -9223372036854775808 ≤ σ.2.1 (9, p, 0) j ∧ σ.2.1 (9, p, 0) j < 9223372036854775808) (hy : -9223372036854775808 ≤ y ∧ y < 9223372036854775808) : Ca (d + 1) 46 [aR (some (8, p, 0)), aL (jZ y)] (am_hp σ) t (.inl (some (aI (iZ (fndF (fun j => σ.2.1 (9, p, 0) j = y) 0 (σ.1 (8, p, 0) 4).toNat)))), am_hp σ, t) := by
  refine ca_of (e_X7_rowNamed ?_)
  refine b_X7_rowNamed_0 ?_
  exact l_X7_rowNamed hs hn hy (σ.1 (8, p, 0) 4).toNat 0 (by omega) rfl
theorem l_X7_allNumbers {d : Nat} {t : KT} {Q : RS → Prop} {σ : SG} {p : Nat} (hs : 0 ≤ σ.1 (8, p, 0) 4 ∧ σ.1 (8, p, 0) 4 ≤ 4) : ∀ (k i : Nat) (a : Int), (i : Int) + k = σ.1 (8, p, 0) 4 → Q (.inl (some (aI (iZ (a + smF (σ.1 (10, p, 0)) i k)))), am_hp σ, t) → Wp k_X7_allNumbers d (4, [some (aR (some (8, p, 0))), some (aI (iZ a)), some (aI (iZ (i : Int)))], [], am_hp σ, t) Q
  | 0, i, a, hk, q => by
    refine b_X7_allNumbers_4 (by omega) (by omega) (fun h => ?_) (fun h => by omega)
    rw [smF, Int.add_zero] at q
    exact b_X7_allNumbers_27 q
  | k + 1, i, a, hk, q => by
    refine b_X7_allNumbers_4 (by omega) (by omega) (fun h => by omega) (fun h => ?_)
    refine b_X7_allNumbers_12 (by omega) ?_
    rw [smF, ← Int.add_assoc] at q
    exact l_X7_allNumbers hs k (i + 1) _ (by omega) q
theorem s_X7_allNumbers {d : Nat} {t : KT} {σ : SG} {p : Nat} (hs : 0 ≤ σ.1 (8, p, 0) 4 ∧ σ.1 (8, p, 0) 4 ≤ 4) : Ca (d + 1) 47 [aR (some (8, p, 0))] (am_hp σ) t (.inl (some (aI (iZ (smF (σ.1 (10, p, 0)) 0 (σ.1 (8, p, 0) 4).toNat)))), am_hp σ, t) := by
  refine ca_of (e_X7_allNumbers ?_)
  refine b_X7_allNumbers_0 ?_
  exact l_X7_allNumbers hs (σ.1 (8, p, 0) 4).toNat 0 0 (by omega) (by rw [Int.zero_add])
theorem l_X7_sumOf {d : Nat} {t : KT} {Q : RS → Prop} {σ : SG} {p r b : Nat} {x2 : Int} (hs : 0 ≤ σ.1 (8, p, 0) 4 ∧ σ.1 (8, p, 0) 4 ≤ 4) (hr : (r : Int) < σ.1 (8, p, 0) 4) (hl : 0 ≤ σ.1 (10, p, 0) r ∧ σ.1 (10, p, 0) r ≤ 60) (hb : (b : Int) ≤ σ.1 (10, p, 0) r) (hv : ∀ j : Nat, j < 60 → 0 ≤ σ.1 (12, p, r) j ∧ σ.1 (12, p, r) j < 268435456) : ∀ (k i : Nat) (a : Int), i + k = b → Q (.inl (some (aL (jZ (a + smF (σ.1 (12, p, r)) i k)))), am_hp σ, t) → Wp k_X7_sumOf (d + 2) (10, [some (aR (some (8, p, 0))), some (aI (iZ (r : Int))), some (aI (iZ x2)), some (aI (iZ (b : Int))), some (aL (jZ a)), none, some (aI (iZ (i : Int)))], [], am_hp σ, t) Q
  | 0, i, a, hk, q => by
    refine b_X7_sumOf_10 (by omega) (by omega) (fun h => ?_) (fun h => by omega)
    rw [smF, Int.add_zero] at q
    exact b_X7_sumOf_47 q
  | k + 1, i, a, hk, q => by
    refine b_X7_sumOf_10 (by omega) (by omega) (fun h => by omega) (fun h => ?_)
    have hc := s_X7_lengthOf (d := d) (t := t) (σ := σ) (p := p) (x := (r : Int)) (by omega) hs
    rw [if_pos (by omega)] at hc
    have hl' : 0 ≤ σ.1 (10, p, 0) (r : Int).toNat ∧ σ.1 (10, p, 0) (r : Int).toNat ≤ 60 := hl
    have hb' : (b : Int) ≤ σ.1 (10, p, 0) (r : Int).toNat := hb
    refine b_X7_sumOf_16 hc (by omega) (by omega) (fun h => by omega) (fun h => ?_)
    have h3 := hv i (by omega)
    have h3' : -2147483648 ≤ σ.1 (12, p, (r : Int).toNat) (i : Int).toNat ∧ σ.1 (12, p, (r : Int).toNat) (i : Int).toNat < 2147483648 := by
      show -2147483648 ≤ σ.1 (12, p, r) i ∧ σ.1 (12, p, r) i < 2147483648
      omega
    refine b_X7_sumOf_26 (by omega) (by omega) h3' ?_
    rw [smF, ← Int.add_assoc] at q
    exact l_X7_sumOf hs hr hl hb hv k (i + 1) _ (by omega) q
theorem s_X7_sumOf {d : Nat} {t : KT} {σ : SG} {p r a b : Nat} (hs : 0 ≤ σ.1 (8, p, 0) 4 ∧ σ.1 (8, p, 0) 4 ≤ 4) (hr : (r : Int) < σ.1 (8, p, 0) 4) (hl : 0 ≤ σ.1 (10, p, 0) r ∧ σ.1 (10, p, 0) r ≤ 60) (hb : (b : Int) ≤ σ.1 (10, p, 0) r) (hv : ∀ j : Nat, j < 60 → 0 ≤ σ.1 (12, p, r) j ∧ σ.1 (12, p, r) j < 268435456) (hab : a ≤ b) : Ca (d + 3) 48 [aR (some (8, p, 0)), aI (iZ (r : Int)), aI (iZ (a : Int)), aI (iZ (b : Int))] (am_hp σ) t (.inl (some (aL (jZ (smF (σ.1 (12, p, r)) a (b - a))))), am_hp σ, t) := by
  refine ca_of (e_X7_sumOf ?_)
  refine b_X7_sumOf_0 (by omega) ?_
  rw [show max (a : Int) 0 = (a : Int) by omega]
  exact l_X7_sumOf hs hr hl hb hv (b - a) a 0 (by omega) (by rw [Int.zero_add])
