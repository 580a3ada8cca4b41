/-! SPECIFICATIONS: the cheapest ways -/
set_option maxRecDepth 4000
/-- the first of the ways that may be taken and cost least, from w on, against the best so far -/
def amF (ok : Nat → Prop) [DecidablePred ok] (g : Nat → Int) : Nat → Nat → Option Nat → Option Nat
  | 0, _, b => b
  | k + 1, w, b => amF ok g k (w + 1) (if ok w then (match b with
    | none => some w
    | some v => if g w < g v then some w else some v) else b)
theorem amF_lt (ok : Nat → Prop) [DecidablePred ok] (g : Nat → Int) : ∀ (k w : Nat) (b : Option Nat), (∀ v, b = some v → v < 9 ∧ ok v) → w + k = 9 → ∀ v, amF ok g k w b = some v → v < 9 ∧ ok v
  | 0, w, b, hb, hk, v, h => hb v h
  | k + 1, w, b, hb, hk, v, h => by
    unfold amF at h
    refine amF_lt ok g k (w + 1) _ (fun u hu => ?_) (by omega) v h
    by_cases e : ok w
    · rw [if_pos e] at hu
      cases b with
      | none => cases hu; exact ⟨by omega, e⟩
      | some x =>
        dsimp only at hu
        split at hu
        · cases hu; exact ⟨by omega, e⟩
        · cases hu; exact hb _ rfl
    · rw [if_neg e] at hu
      exact hb u hu
theorem amF_some (ok : Nat → Prop) [DecidablePred ok] (g : Nat → Int) (h8 : ok 8) : ∀ (k w : Nat) (b : Option Nat), w + k = 9 → (1 ≤ k ∨ b ≠ none) → amF ok g k w b ≠ none
  | 0, w, b, hk, h => by
    rcases h with h | h
    · omega
    · exact h
  | k + 1, w, b, hk, h => by
    unfold amF
    refine amF_some ok g h8 k (w + 1) _ (by omega) ?_
    by_cases e : k = 0
    · right
      have e2 : w = 8 := by omega
      subst e2
      rw [if_pos h8]
      cases b with
      | none => simp
      | some x =>
        dsimp only
        split <;> simp
    · left; omega
def pick (ok : Nat → Prop) [DecidablePred ok] (g : Nat → Int) : Nat := (amF ok g 9 0 none).getD 8
theorem pick_ok (ok : Nat → Prop) [DecidablePred ok] (g : Nat → Int) (h8 : ok 8) : amF ok g 9 0 none = some (pick ok g) ∧ pick ok g < 9 ∧ ok (pick ok g) := by
  have h := amF_some ok g h8 9 0 none rfl (Or.inl (by decide))
  unfold pick
  cases e : amF ok g 9 0 none with
  | none => exact absurd e h
  | some v =>
    have := amF_lt ok g 9 0 none (fun u hu => by cases hu) rfl v e
    exact ⟨rfl, this⟩
/-- what the numbers from i on cost at least, with k more words at most -/
def bcF (f : Nat → Int) (n : Nat) (c : Nat → Int) : Nat → Nat → Int
  | 0, _ => 0
  | k + 1, i => if i < n then c (pick (tk f n i) (fun w => c w + bcF f n c k (min (i + cnt w) n))) + bcF f n c k (min (i + cnt (pick (tk f n i) (fun w => c w + bcF f n c k (min (i + cnt w) n)))) n) else 0
theorem tk_8 {f : Nat → Int} {n i : Nat} (hi : i < n) (hv : ∀ j, j < n → 0 ≤ f j ∧ f j < 268435456) : tk f n i 8 := by
  unfold tk
  rw [show n - i = (n - i - 1) + 1 by omega, runF]
  have h := hv i hi
  have e : (2 : Int) ^ wid 8 = 268435456 := by decide
  rw [if_pos (by rw [e]; exact h)]
  have e2 : cnt 8 = 1 := by decide
  rw [e2]
  omega
theorem cnt_pos (w : Nat) (h : w < 9) : 1 ≤ cnt w := (cnt_bd w h).1
theorem bcF_eq {f : Nat → Int} {n : Nat} {c : Nat → Int} (hc1 : ∀ w, 1 ≤ cnt w) : ∀ (k k' i : Nat), n - i ≤ k → n - i ≤ k' → bcF f n c k i = bcF f n c k' i
  | 0, 0, i, _, _ => rfl
  | 0, k' + 1, i, h, _ => by
    unfold bcF
    rw [if_neg (by omega)]
  | k + 1, 0, i, _, h => by
    unfold bcF
    rw [if_neg (by omega)]
  | k + 1, k' + 1, i, h, h' => by
    have e : ∀ w, i < n → bcF f n c k (min (i + cnt w) n) = bcF f n c k' (min (i + cnt w) n) := fun w hi => bcF_eq hc1 k k' _ (by have := hc1 w; omega) (by have := hc1 w; omega)
    unfold bcF
    by_cases hi : i < n
    · rw [if_pos hi, if_pos hi]
      have e2 : (fun w => c w + bcF f n c k (min (i + cnt w) n)) = fun w => c w + bcF f n c k' (min (i + cnt w) n) := by
        funext w
        rw [e w hi]
      rw [e2, e _ hi]
    · rw [if_neg hi, if_neg hi]
theorem cnt_1 (w : Nat) : 1 ≤ cnt w := by
  by_cases h : w < 9
  · exact cnt_pos w h
  · unfold cnt
    rw [List.getD_eq_getElem?_getD, List.getElem?_eq_none (by simp; omega)]
    decide
/-- the least cost from i on -/
abbrev Bc (f : Nat → Int) (n : Nat) (c : Nat → Int) (i : Nat) : Int := bcF f n c (n - i) i
abbrev gW (f : Nat → Int) (n : Nat) (c : Nat → Int) (i w : Nat) : Int := c w + Bc f n c (min (i + cnt w) n)
/-- the cheapest way at i -/
abbrev cheW (f : Nat → Int) (n : Nat) (c : Nat → Int) (i : Nat) : Nat := pick (tk f n i) (gW f n c i)
theorem Bc_step {f : Nat → Int} {n : Nat} {c : Nat → Int} {i : Nat} (hi : i < n) : Bc f n c i = gW f n c i (cheW f n c i) := by
  have e0 : Bc f n c i = bcF f n c ((n - i - 1) + 1) i := by
    show bcF f n c (n - i) i = _
    rw [show n - i - 1 + 1 = n - i by omega]
  rw [e0]
  unfold cheW gW Bc
  conv => lhs; unfold bcF
  rw [if_pos hi]
  have e : ∀ w, bcF f n c (n - i - 1) (min (i + cnt w) n) = bcF f n c (n - min (i + cnt w) n) (min (i + cnt w) n) := fun w => bcF_eq cnt_1 _ _ _ (by have := cnt_1 w; omega) (by omega)
  have e2 : (fun w => c w + bcF f n c (n - i - 1) (min (i + cnt w) n)) = fun w => c w + bcF f n c (n - min (i + cnt w) n) (min (i + cnt w) n) := by
    funext w
    rw [e w]
  rw [e2, e]
theorem Bc_end {f : Nat → Int} {n : Nat} {c : Nat → Int} : Bc f n c n = 0 := by
  unfold Bc
  rw [Nat.sub_self]
  rfl
theorem Bc_bd {f : Nat → Int} {n : Nat} {c : Nat → Int} (hv : ∀ j, j < n → 0 ≤ f j ∧ f j < 268435456) (hc : ∀ w, w < 9 → 0 ≤ c w ∧ c w ≤ 101377) : ∀ (k i : Nat), n - i = k → i ≤ n → 0 ≤ Bc f n c i ∧ Bc f n c i ≤ 101377 * ((n : Int) - i) := by
  intro k
  induction k using Nat.strongRecOn with
  | _ k ih =>
    intro i hk hi
    by_cases e : i = n
    · subst e; rw [Bc_end]; omega
    · have hlt : i < n := by omega
      rw [Bc_step hlt]
      have hp := pick_ok (tk f n i) (gW f n c i) (tk_8 hlt hv)
      have hcw := hc _ hp.2.1
      have h1 := cnt_1 (pick (tk f n i) (gW f n c i))
      have := ih (n - min (i + cnt (pick (tk f n i) (gW f n c i))) n) (by omega) _ rfl (by omega)
      have hg : gW f n c i (cheW f n c i) = c (pick (tk f n i) (gW f n c i)) + Bc f n c (min (i + cnt (pick (tk f n i) (gW f n c i))) n) := rfl
      rw [hg]
      generalize pick (tk f n i) (gW f n c i) = w at hcw h1 this ⊢
      have hm : i + 1 ≤ min (i + cnt w) n := by omega
      generalize min (i + cnt w) n = m at hm this ⊢
      omega
