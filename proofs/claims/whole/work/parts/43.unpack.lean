/-! UNPACKING -/
set_option maxRecDepth 4000
theorem u32_int (x : Int) : u32 x (x % 4294967296).toNat := by
  unfold u32 iZ
  show BitVec.ofInt 32 x = _
  apply BitVec.eq_of_toNat_eq
  rw [BitVec.toNat_ofInt, BitVec.toNat_ofNat]
  have h : (x % ((2 ^ 32 : Nat) : Int)).toNat < 2 ^ 32 := by omega
  rw [show (4294967296 : Int) = ((2 ^ 32 : Nat) : Int) by decide, Nat.mod_eq_of_lt h]
theorem u32_toInt {z : Int} {m : Nat} (h : u32 z m) (hm : m < 2 ^ 32) : (iZ z).toInt = m ∨ (iZ z).toInt = (m : Int) - 4294967296 := by
  rw [← Int32.toInt_toBitVec, h, BitVec.toInt_eq_toNat_cond, BitVec.toNat_ofNat, Nat.mod_eq_of_lt hm]
  split
  · exact Or.inl rfl
  · right; omega
theorem unpack {z : Int} {m s k : Nat} (h : u32 z m) (hm : m < 2 ^ 32) (hs : s + k ≤ 28) : zand (zshr z s) ((2 ^ k - 1 : Nat) : Int) = (m / 2 ^ s % 2 ^ k : Nat) := by
  have hz : zshr z s = (iZ z).toInt / 2 ^ s := by
    have e : zshr z s = zshr (iZ z).toInt s := by unfold zshr; rw [iZ_toInt]
    rw [e]
    have hr := Int32.toInt_lt (iZ z)
    have hr2 := Int32.le_toInt (iZ z)
    exact zshr_eq (by omega) (by omega)
  rw [hz, zand_mask (u32_int _) (by omega)]
  congr 1
  have hp : (0 : Int) < 2 ^ s := by exact_mod_cast Nat.two_pow_pos s
  have hd : (2 ^ k : Nat) ∣ 4294967296 := by
    rw [show 4294967296 = 2 ^ 32 by decide]
    exact Nat.pow_dvd_pow 2 (by omega)
  have key : ((iZ z).toInt / 2 ^ s) % ((2 ^ k : Nat) : Int) = ((m / 2 ^ s % 2 ^ k : Nat) : Int) := by
    rcases u32_toInt h hm with e | e
    · rw [e]; norm_cast
    · have e2 : (m : Int) - 4294967296 = (m : Int) + 2 ^ s * (-(2 ^ (32 - s - k) * 2 ^ k)) := by
        have e3 : (2 : Int) ^ s * (2 ^ (32 - s - k) * 2 ^ k) = 4294967296 := by
          rw [← Int.pow_add, ← Int.pow_add, show s + (32 - s - k + k) = 32 by omega]
          decide
        rw [Int.mul_neg, e3]
        rfl
      rw [e, e2, Int.add_mul_ediv_left _ _ (by omega)]
      rw [← Int.neg_mul]
      have e4 : (-(2 : Int) ^ (32 - s - k)) * 2 ^ k = ((2 ^ k : Nat) : Int) * (-(2 : Int) ^ (32 - s - k)) := by
        rw [Int.mul_comm]
        norm_cast
      rw [e4, Int.add_mul_emod_self_left]
      norm_cast
  have hk0 : (0 : Int) < ((2 ^ k : Nat) : Int) := by exact_mod_cast Nat.two_pow_pos k
  apply Int.ofNat.inj
  show (((((iZ z).toInt / 2 ^ s) % 4294967296).toNat % 2 ^ k : Nat) : Int) = ((m / 2 ^ s % 2 ^ k : Nat) : Int)
  rw [← key, Int.natCast_emod, Int.toNat_of_nonneg (Int.emod_nonneg _ (by decide))]
  exact Int.emod_emod_of_dvd _ (Int.natCast_dvd_natCast.mpr hd)
