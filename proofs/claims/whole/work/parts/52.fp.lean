/-! FLOATS that are numbers -/
set_option maxRecDepth 4000
def nnD (f : FP.Core.Fmt) : FP.Core.Datum → Prop
  | .nan => False
  | .inf _ => True
  | .fin _ c q => c < 2 ^ f.p ∧ q ≤ f.qmax
theorem nn_bound {f : FP.Core.Fmt} {s : Bool} {c : Nat} {q : Int} (hc : c < 2 ^ f.p) : nnD f (FP.Core.bound f s c q) := by
  unfold FP.Core.bound
  split
  · rename_i h
    exact ⟨hc, h⟩
  · trivial
theorem nn_rr {f : FP.Core.Fmt} {s : Bool} {num den : Nat} {e : Int} (hf : f.tails < 2 ^ f.p ∧ f.qmin ≤ f.qmax) : nnD f (FP.Core.roundRatio f s num den e) := by
  unfold FP.Core.roundRatio
  split
  · exact ⟨Nat.two_pow_pos _, hf.2⟩
  · unfold FP.Core.roundAt FP.Core.settle
    split
    · rename_i h
      exact nn_bound h
    · exact nn_bound hf.1
theorem g32 : FP.Core.b32.tails < 2 ^ FP.Core.b32.p ∧ FP.Core.b32.qmin ≤ FP.Core.b32.qmax := by decide
theorem g64 : FP.Core.b64.tails < 2 ^ FP.Core.b64.p ∧ FP.Core.b64.qmin ≤ FP.Core.b64.qmax := by decide
theorem enc32 {d : FP.Core.Datum} (h : nnD FP.Core.b32 d) : FP.Core.encode FP.Core.b32 d % 2147483648 ≤ 2139095040 := by
  have e1 : FP.Core.b32.exps = 256 := by decide
  have e2 : FP.Core.b32.tails = 8388608 := by decide
  have e3 : (2 : Nat) ^ FP.Core.b32.p = 16777216 := by decide
  have e4 : FP.Core.b32.qmin = -149 := by decide
  have e5 : FP.Core.b32.qmax = 104 := by decide
  cases d with
  | nan => exact h.elim
  | inf s => cases s <;> decide
  | fin s c q =>
    obtain ⟨h1, h2⟩ := h
    rw [e3] at h1
    rw [e5] at h2
    unfold FP.Core.encode FP.Core.assemble
    rw [e1, e2, e4]
    dsimp only
    split
    · cases s <;> simp only [Bool.toNat_false, Bool.toNat_true] <;> omega
    · cases s <;> simp only [Bool.toNat_false, Bool.toNat_true] <;> omega
theorem enc64 {d : FP.Core.Datum} (h : nnD FP.Core.b64 d) : FP.Core.encode FP.Core.b64 d % 9223372036854775808 ≤ 9218868437227405312 := by
  have e1 : FP.Core.b64.exps = 2048 := by decide
  have e2 : FP.Core.b64.tails = 4503599627370496 := by decide
  have e3 : (2 : Nat) ^ FP.Core.b64.p = 9007199254740992 := by decide
  have e4 : FP.Core.b64.qmin = -1074 := by decide
  have e5 : FP.Core.b64.qmax = 971 := by decide
  cases d with
  | nan => exact h.elim
  | inf s => cases s <;> decide
  | fin s c q =>
    obtain ⟨h1, h2⟩ := h
    rw [e3] at h1
    rw [e5] at h2
    unfold FP.Core.encode FP.Core.assemble
    rw [e1, e2, e4]
    dsimp only
    split
    · cases s <;> simp only [Bool.toNat_false, Bool.toNat_true] <;> omega
    · cases s <;> simp only [Bool.toNat_false, Bool.toNat_true] <;> omega
theorem nb32 {n : Nat} : (UInt32.ofNat n &&& 0x7fffffff ≤ 0x7f800000) ↔ n % 2147483648 ≤ 2139095040 := by
  rw [UInt32.le_iff_toNat_le, UInt32.toNat_and, UInt32.toNat_ofNat', show (0x7fffffff : UInt32).toNat = 2 ^ 31 - 1 by decide, Nat.and_two_pow_sub_one_eq_mod, show (0x7f800000 : UInt32).toNat = 2139095040 by decide]
  omega
theorem nb64 {n : Nat} : (UInt64.ofNat n &&& 0x7fffffffffffffff ≤ 0x7ff0000000000000) ↔ n % 9223372036854775808 ≤ 9218868437227405312 := by
  rw [UInt64.le_iff_toNat_le, UInt64.toNat_and, UInt64.toNat_ofNat', show (0x7fffffffffffffff : UInt64).toNat = 2 ^ 63 - 1 by decide, Nat.and_two_pow_sub_one_eq_mod, show (0x7ff0000000000000 : UInt64).toNat = 9218868437227405312 by decide]
  omega
/-- bits that are no NaN's -/
theorem dec32 {n : Nat} (h : n % 2147483648 ≤ 2139095040) : FP.Core.decode FP.Core.b32 n ≠ .nan := by
  have e1 : FP.Core.b32.exps = 256 := by decide
  have e2 : FP.Core.b32.tails = 8388608 := by decide
  unfold FP.Core.decode FP.Core.fieldE FP.Core.fieldT
  rw [e1, e2]
  split
  · split
    · simp
    · exfalso; omega
  · split <;> simp
theorem quo_nn {f : FP.Core.Fmt} {a b : FP.Core.Datum} (hf : f.tails < 2 ^ f.p ∧ f.qmin ≤ f.qmax) (ha : a ≠ .nan) (hb : ∃ s c q, b = .fin s c q ∧ c ≠ 0) : nnD f (FP.Core.quotient f a b) := by
  obtain ⟨s, c, q, rfl, hc⟩ := hb
  cases a with
  | nan => exact absurd rfl ha
  | inf t => trivial
  | fin t d r =>
    unfold FP.Core.quotient
    dsimp only
    rw [if_neg hc]
    exact nn_rr hf
theorem i2f_ok (x : Int32) : FP.Core.decode FP.Core.b32 (FP.i2f x).toNat ≠ .nan := by
  have h := enc32 (d := FP.Core.round FP.Core.b32 (FP.Core.ofInt x.toInt)) (nn_rr g32)
  apply dec32
  show (UInt32.ofNat (FP.Core.fromInt FP.Core.b32 x.toInt)).toNat % 2147483648 ≤ 2139095040
  rw [UInt32.toNat_ofNat']
  have h : FP.Core.fromInt FP.Core.b32 x.toInt % 2147483648 ≤ 2139095040 := h
  omega
def isF (d : FP.Core.Datum) : Bool := match d with
  | .fin _ c _ => c != 0
  | _ => false
theorem isF_of {d : FP.Core.Datum} (h : isF d = true) : ∃ s c q, d = .fin s c q ∧ c ≠ 0 := by
  cases d with
  | nan => cases h
  | inf s => cases h
  | fin s c q => exact ⟨s, c, q, rfl, by simpa [isF] using h⟩
theorem i2f_32 : ∀ w : Nat, w < 241 → w ≠ 0 → isF (FP.Core.decode FP.Core.b32 (FP.i2f (iZ (32 * (w : Int)))).toNat) = true := by decide +kernel
theorem fdiv_ok {x w : Nat} (hw : 1 ≤ w ∧ w ≤ 240) : FP.fdiv (FP.i2f (iZ (x : Int))) (FP.i2f (iZ (32 * (w : Int)))) &&& 0x7fffffff ≤ 0x7f800000 :=
  nb32.mpr (enc32 (quo_nn g32 (i2f_ok _) (isF_of (i2f_32 w (by omega) (by omega)))))
theorem ddiv_ok : ∀ a : Nat, a < 61 → ∀ b : Nat, b < 61 → b ≠ 0 → FP.ddiv (FP.i2d (iZ (a : Int))) (FP.i2d (iZ (b : Int))) &&& 0x7fffffffffffffff ≤ 0x7ff0000000000000 := by decide +kernel
theorem f2d_ok {x : UInt32} (h : x &&& 0x7fffffff ≤ 0x7f800000) : FP.f2d x &&& 0x7fffffffffffffff ≤ 0x7ff0000000000000 := by
  have hx : FP.Core.decode FP.Core.b32 x.toNat ≠ .nan := by
    apply dec32
    have h2 : UInt32.ofNat x.toNat &&& 0x7fffffff ≤ 0x7f800000 := by rw [UInt32.ofNat_toNat]; exact h
    exact nb32.mp h2
  have hn : FP.Core.fIsNaN x = false := decide_eq_false hx
  unfold FP.f2d
  rw [hn]
  refine nb64.mpr (enc64 ?_)
  cases hd : FP.Core.decode FP.Core.b32 x.toNat with
  | nan => exact absurd hd hx
  | inf s => trivial
  | fin s c q => exact nn_rr g64
