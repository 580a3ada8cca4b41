/-! SPECIFICATIONS: ways, bits -/
set_option maxRecDepth 4000
def cnt (w : Nat) : Nat := [28, 14, 9, 7, 5, 4, 3, 2, 1].getD w 1
def wid (w : Nat) : Nat := [1, 2, 3, 4, 5, 7, 9, 14, 28].getD w 28
theorem cntZ_eq : ∀ w : Nat, w < 9 → cntZ w = cnt w := by decide
theorem widZ_eq : ∀ w : Nat, w < 9 → widZ w = wid w := by decide
theorem cnt_bd : ∀ w : Nat, w < 9 → 1 ≤ cnt w ∧ cnt w ≤ 28 := by decide
theorem wid_bd : ∀ w : Nat, w < 9 → 1 ≤ wid w ∧ wid w ≤ 28 ∧ cnt w * wid w ≤ 28 := by decide
theorem zshl_1 : ∀ n : Nat, n < 31 → zshl 1 n = 2 ^ n := by decide
theorem zshr_eq {v : Int} (hv : -2147483648 ≤ v ∧ v < 2147483648) {n : Nat} (hn : n < 32) : zshr v n = v / 2 ^ n := by
  have h1 : ∀ n : Nat, n < 32 → (iZ n &&& 31).toBitVec.smod 32 = BitVec.ofNat 32 n := by decide
  have h2 : ∀ n : Nat, n < 32 → (BitVec.ofNat 32 n).toNat = n := by decide
  unfold zshr
  rw [← Int32.toInt_toBitVec, Int32.toBitVec_shiftRight, h1 n hn, BitVec.sshiftRight_eq', h2 n hn, BitVec.toInt_sshiftRight, Int32.toInt_toBitVec, iZ_get hv, Int.shiftRight_eq_div_pow]
  norm_cast
def btF (v : Int) : Nat → Nat → Nat
  | 0, n => n
  | k + 1, n => if v / 2 ^ n = 0 then n else btF v k (n + 1)
/-- how many bits a number needs -/
def bts (v : Int) : Nat := btF v 27 1
theorem s_X11_countOf {d : Nat} {t : KT} {σ : SG} {w : Nat} (hw : w < 9) : Ca (d + 1) 143 [aI (iZ (w : Int))] (am_hp σ) t (.inl (some (aI (iZ (cnt w : Int)))), am_hp σ, t) := by
  refine ca_of (e_X11_countOf ?_)
  refine b_X11_countOf_0 (by omega) (fun h1 => ?_) (fun h2 => ?_)
  · refine b_X11_countOf_10 ?_
    refine b_X11_countOf_19 ?_
    first | (exfalso; omega) | (rw [← cntZ_eq w hw]; rfl)
  · refine b_X11_countOf_4 (by omega) (fun h4 => ?_) (fun h5 => ?_)
    · refine b_X11_countOf_14 (by omega) ?_
      refine b_X11_countOf_19 ?_
      first | (exfalso; omega) | (rw [← cntZ_eq w hw]; rfl)
    · refine b_X11_countOf_10 ?_
      refine b_X11_countOf_19 ?_
      first | (exfalso; omega) | (rw [← cntZ_eq w hw]; rfl)
theorem s_X11_widthOf {d : Nat} {t : KT} {σ : SG} {w : Nat} (hw : w < 9) : Ca (d + 1) 144 [aI (iZ (w : Int))] (am_hp σ) t (.inl (some (aI (iZ (wid w : Int)))), am_hp σ, t) := by
  refine ca_of (e_X11_widthOf ?_)
  refine b_X11_widthOf_0 (by omega) (fun h1 => ?_) (fun h2 => ?_)
  · refine b_X11_widthOf_10 ?_
    refine b_X11_widthOf_20 ?_
    first | (exfalso; omega) | (rw [← widZ_eq w hw]; rfl)
  · refine b_X11_widthOf_4 (by omega) (fun h4 => ?_) (fun h5 => ?_)
    · refine b_X11_widthOf_15 (by omega) ?_
      refine b_X11_widthOf_20 ?_
      first | (exfalso; omega) | (rw [← widZ_eq w hw]; rfl)
    · refine b_X11_widthOf_10 ?_
      refine b_X11_widthOf_20 ?_
      first | (exfalso; omega) | (rw [← widZ_eq w hw]; rfl)
theorem s_X11_priceOf {d : Nat} {t : KT} {σ : SG} {w p : Nat} (hw : w < 9) : Ca (d + 1) 145 [aI (iZ (w : Int)), aR (some (13, p, 0))] (am_hp σ) t (.inl (some (aI (iZ (σ.1 (13, p, 0) w)))), am_hp σ, t) := by
  refine ca_of (e_X11_priceOf ?_)
  refine b_X11_priceOf_0 (by omega) (fun h1 => ?_) (fun h2 => ?_)
  · refine b_X11_priceOf_10 ?_
    refine b_X11_priceOf_17 ?_
    first | (exfalso; omega) | rfl
  · refine b_X11_priceOf_4 (by omega) (fun h4 => ?_) (fun h5 => ?_)
    · refine b_X11_priceOf_14 (by omega) ?_
      refine b_X11_priceOf_17 ?_
      first | (exfalso; omega) | rfl
    · refine b_X11_priceOf_10 ?_
      refine b_X11_priceOf_17 ?_
      first | (exfalso; omega) | rfl
theorem s_X11_fits {d : Nat} {t : KT} {σ : SG} {x : Int} (hx : -2147483648 ≤ x ∧ x < 2147483648) {w : Nat} (hw : w < 9) : Ca (d + 2) 146 [aI (iZ x), aI (iZ (w : Int))] (am_hp σ) t (.inl (some (aI (iZ (bz (0 ≤ x ∧ x < 2 ^ wid w))))), am_hp σ, t) := by
  have hz := zshl_1 (wid w) (by have := wid_bd w hw; omega)
  have hb : (2 : Int) ^ wid w ≤ 268435456 ∧ 0 ≤ (2 : Int) ^ wid w := by
    have h : ∀ w : Nat, w < 9 → (2 : Int) ^ wid w ≤ 268435456 ∧ 0 ≤ (2 : Int) ^ wid w := by decide
    exact h w hw
  refine ca_of (e_X11_fits ?_)
  refine b_X11_fits_0 (by first | omega | (rw [hz]; omega)) (fun h1 => ?_) (fun h2 => ?_)
  · refine b_X11_fits_18 ?_
    refine b_X11_fits_19 (by first | omega | (rw [hz]; omega)) ?_
    first | rw [bz_t (by omega)] | rw [bz_f (by omega)]
  · refine b_X11_fits_4 (Ca.up (d := d + 1) (s_X11_widthOf hw) (by omega)) (by first | omega | (rw [hz]; omega)) (by first | omega | (rw [hz]; omega)) (fun h4 => ?_) (fun h5 => ?_)
    · refine b_X11_fits_18 ?_
      refine b_X11_fits_19 (by first | omega | (rw [hz]; omega)) ?_
      first | rw [bz_t (by omega)] | rw [bz_f (by omega)]
    · refine b_X11_fits_14 ?_
      refine b_X11_fits_19 (by first | omega | (rw [hz]; omega)) ?_
      first | rw [bz_t (by omega)] | rw [bz_f (by omega)]
theorem l_X11_bitsOf {d : Nat} {t : KT} {Q : RS → Prop} {σ : SG} {v : Int} (hv : 0 ≤ v ∧ v < 268435456) : ∀ (k n : Nat), n + k = 28 → Q (.inl (some (aI (iZ (btF v k n : Int)))), am_hp σ, t) → Wp k_X11_bitsOf d (2, [some (aI (iZ v)), some (aI (iZ (n : Int)))], [], am_hp σ, t) Q
  | 0, n, hk, q => by
    refine b_X11_bitsOf_2 (by omega) (fun _ => b_X11_bitsOf_20 q) (fun h => by omega)
  | k + 1, n, hk, q => by
    have e := zshr_eq (v := v) (n := n) (by omega) (by omega)
    have hp : (1 : Int) ≤ 2 ^ n := by exact_mod_cast Nat.one_le_two_pow
    have hd : 0 ≤ v / 2 ^ n ∧ v / 2 ^ n ≤ v := ⟨Int.ediv_nonneg hv.1 (by omega), Int.ediv_le_self _ hv.1⟩
    unfold btF at q
    refine b_X11_bitsOf_2 (by omega) (fun h => by omega) (fun _ => ?_)
    refine b_X11_bitsOf_8 (by rw [e]; omega) (fun h => ?_) (fun h => ?_)
    · rw [e] at h
      rw [if_pos h] at q
      exact b_X11_bitsOf_20 q
    · rw [e] at h
      rw [if_neg h] at q
      refine b_X11_bitsOf_14 ?_
      exact l_X11_bitsOf hv k (n + 1) (by omega) q
theorem s_X11_bitsOf {d : Nat} {t : KT} {σ : SG} {v : Int} (hv : 0 ≤ v ∧ v < 268435456) : Ca (d + 1) 147 [aI (iZ v)] (am_hp σ) t (.inl (some (aI (iZ (bts v : Int)))), am_hp σ, t) := by
  refine ca_of (e_X11_bitsOf ?_)
  refine b_X11_bitsOf_0 ?_
  exact l_X11_bitsOf hv 27 1 rfl rfl
theorem btF_bd (v : Int) : ∀ k n : Nat, n ≤ btF v k n ∧ btF v k n ≤ n + k
  | 0, n => by simp [btF]
  | k + 1, n => by
    have := btF_bd v k (n + 1)
    unfold btF
    split <;> omega
theorem bts_bd (v : Int) : 1 ≤ bts v ∧ bts v ≤ 28 := btF_bd v 27 1
/-- a number fits a width just when it needs no more bits -/
theorem btF_le {v : Int} (hv : 0 ≤ v) : ∀ k n m : Nat, n ≤ m → m ≤ n + k → (v < 2 ^ (n + k)) → (btF v k n ≤ m ↔ v < 2 ^ m)
  | 0, n, m, h1, h2, h3 => by
    have : m = n := by omega
    subst this
    simp only [btF, Nat.le_refl, true_iff]
    exact h3
  | k + 1, n, m, h1, h2, h3 => by
    unfold btF
    by_cases e : v / 2 ^ n = 0
    · rw [if_pos e]
      have hp : (0 : Int) < 2 ^ n := by exact_mod_cast Nat.two_pow_pos n
      have hlt : v < 2 ^ n := by
        have := Int.lt_ediv_add_one_mul_self v hp
        rw [e] at this
        omega
      have hmono : (2 : Int) ^ n ≤ 2 ^ m := by exact_mod_cast Nat.pow_le_pow_right (by decide) h1
      exact ⟨fun _ => by omega, fun _ => h1⟩
    · rw [if_neg e]
      by_cases hm : n = m
      · subst hm
        have hge : ¬ v < 2 ^ n := fun q => e (Int.ediv_eq_zero_of_lt hv q)
        have := btF_bd v k (n + 1)
        exact ⟨fun q => by omega, fun q => absurd q hge⟩
      · exact btF_le hv k (n + 1) m (by omega) (by omega) (by rw [show n + 1 + k = n + (k + 1) by omega]; exact h3)
theorem bts_le {v : Int} (hv : 0 ≤ v ∧ v < 268435456) {m : Nat} (hm : 1 ≤ m ∧ m ≤ 28) : bts v ≤ m ↔ v < 2 ^ m := btF_le hv.1 27 1 m hm.1 (by omega) hv.2
