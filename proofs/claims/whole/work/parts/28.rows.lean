/-! SPECIFICATIONS: rows -/
set_option maxRecDepth 4000
def bz (p : Prop) [Decidable p] : Int := if p then 1 else 0
theorem bz_0 {p : Prop} [Decidable p] : bz p = 0 ↔ ¬ p := by unfold bz; split <;> simp_all
theorem bz_n {p : Prop} [Decidable p] : bz p ≠ 0 ↔ p := by unfold bz; split <;> simp_all
theorem bz_rg {p : Prop} [Decidable p] : -2147483648 ≤ bz p ∧ bz p < 2147483648 := by unfold bz; split <;> omega
theorem bz_01 {p : Prop} [Decidable p] : bz p = 0 ∨ bz p = 1 := by unfold bz; split <;> simp_all
theorem bz_t {p : Prop} [Decidable p] (h : p) : bz p = 1 := if_pos h
theorem bz_f {p : Prop} [Decidable p] (h : ¬ p) : bz p = 0 := if_neg h
def rI (z : Int) : Prop := -2147483648 ≤ z ∧ z < 2147483648
theorem sI_1 (σ : SG) (L : Lc) (f : Nat → Int) (L' : Lc) : (sI σ L f).1 L' = if L' = L then f else σ.1 L' := rfl
theorem sI_2 (σ : SG) (L : Lc) (f : Nat → Int) : (sI σ L f).2 = σ.2 := rfl
theorem sJ_1 (σ : SG) (L : Lc) (f : Nat → Int) : (sJ σ L f).1 = σ.1 := rfl
theorem sJ_21 (σ : SG) (L : Lc) (f : Nat → Int) (L' : Lc) : (sJ σ L f).2.1 L' = if L' = L then f else σ.2.1 L' := rfl
theorem sJ_22 (σ : SG) (L : Lc) (f : Nat → Int) : (sJ σ L f).2.2 = σ.2.2 := rfl
theorem sC_1 (σ : SG) (L : Lc) (c : Nat) : (sC σ L c).1 = σ.1 := rfl
theorem sC_21 (σ : SG) (L : Lc) (c : Nat) : (sC σ L c).2.1 = σ.2.1 := rfl
theorem sD_1 (σ : SG) (L : Lc) (f : Nat → UInt64) : (sD σ L f).1 = σ.1 := rfl
theorem sD_21 (σ : SG) (L : Lc) (f : Nat → UInt64) : (sD σ L f).2.1 = σ.2.1 := rfl
/-- rows that are as they must be -/
def RW (σ : SG) (r : Nat) : Prop := (0 ≤ σ.1 (8, r, 0) 4 ∧ σ.1 (8, r, 0) 4 ≤ 4) ∧ ∀ i : Nat, i < 4 → (0 ≤ σ.1 (10, r, 0) i ∧ σ.1 (10, r, 0) i ≤ 60) ∧ ∀ j : Nat, j < 60 → 0 ≤ σ.1 (12, r, i) j ∧ σ.1 (12, r, i) j < 268435456
theorem RW.len {σ : SG} {r : Nat} (h : RW σ r) {x : Int} (hx : 0 ≤ x ∧ x < 4) : 0 ≤ σ.1 (10, r, 0) x.toNat ∧ σ.1 (10, r, 0) x.toNat ≤ 60 := (h.2 x.toNat (by omega)).1
theorem s_X7_has {d : Nat} {t : KT} {σ : SG} {p : Nat} {x : Int} (hx : -2147483648 ≤ x ∧ x < 2147483648) (hs : 0 ≤ σ.1 (8, p, 0) 4 ∧ σ.1 (8, p, 0) 4 ≤ 4) : Ca (d + 1) 43 [aR (some (8, p, 0)), aI (iZ x)] (am_hp σ) t (.inl (some (aI (iZ (bz (0 ≤ x ∧ x < σ.1 (8, p, 0) 4))))), am_hp σ, t) := by
  refine ca_of (e_X7_has ?_)
  refine b_X7_has_0 (by first | assumption | omega | (constructor <;> assumption) | (simp only [RD] at *; omega)) (fun h1 => ?_) (fun h2 => ?_)
  · refine b_X7_has_16 ?_
    refine b_X7_has_17 (by first | assumption | omega | (constructor <;> assumption) | (simp only [RD] at *; omega)) ?_
    first | rw [bz_t (by omega)] | rw [bz_f (by omega)]
  · refine b_X7_has_4 (by first | assumption | omega | (constructor <;> assumption) | (simp only [RD] at *; omega)) (by first | assumption | omega | (constructor <;> assumption) | (simp only [RD] at *; omega)) (fun h4 => ?_) (fun h5 => ?_)
    · refine b_X7_has_16 ?_
      refine b_X7_has_17 (by first | assumption | omega | (constructor <;> assumption) | (simp only [RD] at *; omega)) ?_
      first | rw [bz_t (by omega)] | rw [bz_f (by omega)]
    · refine b_X7_has_12 ?_
      refine b_X7_has_17 (by first | assumption | omega | (constructor <;> assumption) | (simp only [RD] at *; omega)) ?_
      first | rw [bz_t (by omega)] | rw [bz_f (by omega)]
theorem s_X7_lengthOf {d : Nat} {t : KT} {σ : SG} {p : Nat} {x : Int} (hx : -2147483648 ≤ x ∧ x < 2147483648) (hs : 0 ≤ σ.1 (8, p, 0) 4 ∧ σ.1 (8, p, 0) 4 ≤ 4) : Ca (d + 2) 44 [aR (some (8, p, 0)), aI (iZ x)] (am_hp σ) t (.inl (some (aI (iZ (if 0 ≤ x ∧ x < σ.1 (8, p, 0) 4 then σ.1 (10, p, 0) x.toNat else 0)))), am_hp σ, t) := by
  refine ca_of (e_X7_lengthOf ?_)
  refine b_X7_lengthOf_0 (Ca.up (d := d + 1) (s_X7_has (by assumption) (by assumption)) (by omega)) bz_rg (fun h1 => ?_) (fun h2 => ?_)
  · replace h1 := bz_0.mp h1
    refine b_X7_lengthOf_17 ?_
    refine b_X7_lengthOf_18 ?_
    first | rw [if_pos (by omega)] | rw [if_neg (by omega)]
  · replace h2 := bz_n.mp h2
    refine b_X7_lengthOf_8 (by first | assumption | omega | (constructor <;> assumption) | (simp only [RD] at *; omega)) ?_
    refine b_X7_lengthOf_18 ?_
    first | rw [if_pos (by omega)] | rw [if_neg (by omega)]
theorem s_X7_hasNumber {d : Nat} {t : KT} {σ : SG} {p : Nat} {x : Int} (hx : -2147483648 ≤ x ∧ x < 2147483648) (hs : 0 ≤ σ.1 (8, p, 0) 4 ∧ σ.1 (8, p, 0) 4 ≤ 4) {i : Int} (hi : -2147483648 ≤ i ∧ i < 2147483648) (hl : ∀ i : Nat, i < 4 → 0 ≤ σ.1 (10, p, 0) i ∧ σ.1 (10, p, 0) i ≤ 60) : Ca (d + 2) 45 [aR (some (8, p, 0)), aI (iZ x), aI (iZ i)] (am_hp σ) t (.inl (some (aI (iZ (bz ((0 ≤ x ∧ x < σ.1 (8, p, 0) 4) ∧ 0 ≤ i ∧ i < σ.1 (10, p, 0) x.toNat))))), am_hp σ, t) := by
  refine ca_of (e_X7_hasNumber ?_)
  refine b_X7_hasNumber_0 (Ca.up (d := d + 1) (s_X7_has (by assumption) (by assumption)) (by omega)) bz_rg (fun h1 => ?_) (fun h2 => ?_)
  · replace h1 := bz_0.mp h1
    refine b_X7_hasNumber_26 ?_
    refine b_X7_hasNumber_27 (by first | assumption | omega | (have := hl x.toNat (by omega); omega)) ?_
    first | rw [bz_t (by omega)] | rw [bz_f (by omega)]
  · replace h2 := bz_n.mp h2
    refine b_X7_hasNumber_8 (by first | assumption | omega | (have := hl x.toNat (by omega); omega)) (fun h4 => ?_) (fun h5 => ?_)
    · refine b_X7_hasNumber_26 ?_
      refine b_X7_hasNumber_27 (by first | assumption | omega | (have := hl x.toNat (by omega); omega)) ?_
      first | rw [bz_t (by omega)] | rw [bz_f (by omega)]
    · refine b_X7_hasNumber_12 (by first | assumption | omega | (have := hl x.toNat (by omega); omega)) (by first | assumption | omega | (have := hl x.toNat (by omega); omega)) (by first | assumption | omega | (have := hl x.toNat (by omega); omega)) (fun h7 => ?_) (fun h8 => ?_)
      · refine b_X7_hasNumber_26 ?_
        refine b_X7_hasNumber_27 (by first | assumption | omega | (have := hl x.toNat (by omega); omega)) ?_
        first | rw [bz_t (by omega)] | rw [bz_f (by omega)]
      · refine b_X7_hasNumber_22 ?_
        refine b_X7_hasNumber_27 (by first | assumption | omega | (have := hl x.toNat (by omega); omega)) ?_
        first | rw [bz_t (by omega)] | rw [bz_f (by omega)]
