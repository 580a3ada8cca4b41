/-! NUMBERS OF A WORD -/
set_option maxRecDepth 4000
theorem dg_get {f : Nat → Int} {n w i : Nat} : ∀ (c j : Nat), (∀ m, m < c → i + m < n → 0 ≤ f (i + m) ∧ f (i + m) < 2 ^ wid w) → j < c → i + j < n → dg f n w i c / 2 ^ (j * wid w) % 2 ^ wid w = (f (i + j)).toNat
  | 0, j, _, h, _ => by omega
  | c + 1, j, hf, hj, hn => by
    have h1 := hf j hj hn
    have hv : (f (i + j)).toNat < 2 ^ wid w := by
      have h2 : (f (i + j)) < ((2 ^ wid w : Nat) : Int) := by exact_mod_cast h1.2
      omega
    unfold dg
    by_cases e : j = c
    · subst e
      have hl := dg_lt (f := f) (n := n) (w := w) (i := i) j (fun m hm => hf m (by omega))
      rw [if_pos hn, Nat.add_mul_div_right _ _ (Nat.two_pow_pos _), Nat.div_eq_of_lt hl, Nat.zero_add, Nat.mod_eq_of_lt hv]
    · have ih := dg_get c j (fun m hm => hf m (by omega)) (by omega) hn
      by_cases hi : i + c < n
      · rw [if_pos hi]
        have e2 : (f (i + c)).toNat * 2 ^ (c * wid w) = 2 ^ (j * wid w) * (2 ^ wid w * (2 ^ ((c - j - 1) * wid w) * (f (i + c)).toNat)) := by
          rw [← Nat.mul_assoc, ← Nat.mul_assoc, ← Nat.pow_add, ← Nat.pow_add, Nat.mul_comm]
          congr 2
          rw [← Nat.succ_mul, ← Nat.add_mul]
          congr 1
          omega
        rw [e2, Nat.add_mul_div_left _ _ (Nat.two_pow_pos _), Nat.add_mul_mod_self_left, ih]
      · rw [if_neg hi, Nat.add_zero, ih]
