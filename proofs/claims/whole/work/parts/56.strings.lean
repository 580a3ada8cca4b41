/-! STRINGS: the literals of the class -/
set_option maxRecDepth 4000
section PCS
variable {d : Nat} {Q : RS → Prop}
theorem b_Jx29ce0_ordinal_8abf5_0 {p0 : Nat} {σ : SG} {t : KT} (q1 : Q (.inl (some (aI (iZ (((nI p0)).toInt)))), am_hp σ, t)) : Wp k_Jx29ce0_ordinal_8abf5 d (0, [some (aR (some (91, p0, 0)))], [], am_hp σ, t) Q := by
  refine w_s (c' := (1, [some (aR (some (91, p0, 0)))], [aR (some (91, p0, 0))], am_hp σ, t)) rfl rfl ?_
  refine w_get rfl (hp_91 _ p0) rfl rfl ?_
  refine w_e (c' := (4, [some (aR (some (91, p0, 0)))], [aI (iZ (((nI p0)).toInt))], am_hp σ, t)) (by rw [iZ_toInt]) ?_
  exact w_ret rfl rfl q1

theorem e_Jx29ce0_ordinal_8abf5 {p0 : Nat} {h : AH} {t : KT} {d : Nat} {P : RS → Prop} (w : Wp k_Jx29ce0_ordinal_8abf5 d (0, [some (aR (some (91, p0, 0)))], [], h, t) P) : ∃ r, Ca (d + 1) 336 [aR (some (91, p0, 0))] h t r ∧ P r := ca_W rfl rfl rfl rfl w

theorem b_J0_length_8abf5_0 {p0 : Nat} {r1 : Int} {σ σ1 : SG} {t : KT} (c1 : Ca d 339 [aR (some (94, p0, 0))] (am_hp σ) t (.inl (some (aI (iZ r1))), am_hp σ1, t)) (q2 : Q (.inl (some (aI (iZ (zshr (((am_byt p0).length : Int)) r1)))), am_hp σ1, t)) : Wp k_J0_length_8abf5 d (0, [some (aR (some (94, p0, 0)))], [], am_hp σ, t) Q := by
  refine w_s (c' := (1, [some (aR (some (94, p0, 0)))], [aR (some (94, p0, 0))], am_hp σ, t)) rfl rfl ?_
  refine w_get rfl (hp_94 _ p0) rfl rfl ?_
  refine w_s rfl rfl ?_
  refine w_e (c' := (5, [some (aR (some (94, p0, 0)))], [aI (iZ (((am_byt p0).length : Int)))], am_hp σ, t)) (by rw [iZ_ofNat]) ?_
  refine w_s (c' := (6, [some (aR (some (94, p0, 0)))], [aR (some (94, p0, 0)), aI (iZ (((am_byt p0).length : Int)))], am_hp σ, t)) rfl rfl ?_
  refine w_c0 (c' := (9, [some (aR (some (94, p0, 0)))], [aI (iZ r1), aI (iZ (((am_byt p0).length : Int)))], am_hp σ1, t)) rfl rfl (rcv_of (hp_94 _ p0)) rfl c1 (Nat.le_refl _) rfl ?_
  refine w_ishr rfl rfl ?_
  exact w_ret rfl rfl q2

theorem e_J0_length_8abf5 {p0 : Nat} {h : AH} {t : KT} {d : Nat} {P : RS → Prop} (w : Wp k_J0_length_8abf5 d (0, [some (aR (some (94, p0, 0)))], [], h, t) P) : ∃ r, Ca (d + 1) 337 [aR (some (94, p0, 0))] h t r ∧ P r := ca_W rfl rfl rfl rfl w

theorem b_J0_charAt_5068e_0 {p0 : Nat} {x1 : Int} {r1 : Int} {σ σ1 : SG} {t : KT} (c1 : Ca d 340 [aR (some (94, p0, 0))] (am_hp σ) t (.inl (some (aI (iZ r1))), am_hp σ1, t)) (h2 : -2147483648 ≤ r1 ∧ r1 < 2147483648) (w3 : r1 = 0 → Wp k_J0_charAt_5068e d (16, [some (aR (some (94, p0, 0))), some (aI (iZ x1))], [], am_hp σ1, t) Q) (w4 : r1 ≠ 0 → Wp k_J0_charAt_5068e d (7, [some (aR (some (94, p0, 0))), some (aI (iZ x1))], [], am_hp σ1, t) Q) : Wp k_J0_charAt_5068e d (0, [some (aR (some (94, p0, 0))), some (aI (iZ x1))], [], am_hp σ, t) Q := by
  refine w_s (c' := (1, [some (aR (some (94, p0, 0))), some (aI (iZ x1))], [aR (some (94, p0, 0))], am_hp σ, t)) rfl rfl ?_
  refine w_c0 (c' := (4, [some (aR (some (94, p0, 0))), some (aI (iZ x1))], [aI (iZ r1)], am_hp σ1, t)) rfl rfl (rcv_of (hp_94 _ p0)) rfl c1 (Nat.le_refl _) rfl ?_
  exact w_ifeq rfl h2 rfl w3 w4

theorem e_J0_charAt_5068e {p0 : Nat} {x1 : Int} {h : AH} {t : KT} {d : Nat} {P : RS → Prop} (w : Wp k_J0_charAt_5068e d (0, [some (aR (some (94, p0, 0))), some (aI (iZ x1))], [], h, t) P) : ∃ r, Ca (d + 1) 338 [aR (some (94, p0, 0)), aI (iZ x1)] h t r ∧ P r := ca_W rfl rfl rfl rfl w

theorem b_J0_charAt_5068e_7 {p0 : Nat} {x1 : Int} {r1 : Int} {σ σ1 : SG} {t : KT} (c1 : Ca d 342 [aR (some (95, p0, 0)), aI (iZ x1)] (am_hp σ) t (.inl (some (aI (iZ r1))), am_hp σ1, t)) (h2 : am_frt .char (aI (iZ r1)) = true) (q3 : Q (.inl (some (aI (iZ r1))), am_hp σ1, t)) : Wp k_J0_charAt_5068e d (7, [some (aR (some (94, p0, 0))), some (aI (iZ x1))], [], am_hp σ, t) Q := by
  refine w_s (c' := (8, [some (aR (some (94, p0, 0))), some (aI (iZ x1))], [aR (some (94, p0, 0))], am_hp σ, t)) rfl rfl ?_
  refine w_get rfl (hp_94 _ p0) rfl rfl ?_
  refine w_s (c' := (12, [some (aR (some (94, p0, 0))), some (aI (iZ x1))], [aI (iZ x1), aR (some (95, p0, 0))], am_hp σ, t)) rfl rfl ?_
  refine w_c0 (c' := (15, [some (aR (some (94, p0, 0))), some (aI (iZ x1))], [aI (iZ r1)], am_hp σ1, t)) rfl rfl rfl rfl c1 (Nat.le_refl _) rfl ?_
  exact w_ret rfl h2 q3

theorem b_J0_coder_7d493_0 {p0 : Nat} {σ : SG} {t : KT} (w1 : (1 : Int) = 0 → Wp k_J0_coder_7d493 d (13, [some (aR (some (94, p0, 0)))], [], am_hp σ, t) Q) (w2 : (1 : Int) ≠ 0 → Wp k_J0_coder_7d493 d (6, [some (aR (some (94, p0, 0)))], [], am_hp σ, t) Q) : Wp k_J0_coder_7d493 d (0, [some (aR (some (94, p0, 0)))], [], am_hp σ, t) Q := by
  refine w_psh rfl zc_1 rfl ?_
  exact w_ifeq rfl (by decide) rfl w1 w2

theorem e_J0_coder_7d493 {p0 : Nat} {h : AH} {t : KT} {d : Nat} {P : RS → Prop} (w : Wp k_J0_coder_7d493 d (0, [some (aR (some (94, p0, 0)))], [], h, t) P) : ∃ r, Ca (d + 1) 339 [aR (some (94, p0, 0))] h t r ∧ P r := ca_W rfl rfl rfl rfl w

theorem b_J0_coder_7d493_6 {p0 : Nat} {σ : SG} {t : KT} (w1 : Wp k_J0_coder_7d493 d (14, [some (aR (some (94, p0, 0)))], [aI (iZ (((0 : Int32)).toInt))], am_hp σ, t) Q) : Wp k_J0_coder_7d493 d (6, [some (aR (some (94, p0, 0)))], [], am_hp σ, t) Q := by
  refine w_s (c' := (7, [some (aR (some (94, p0, 0)))], [aR (some (94, p0, 0))], am_hp σ, t)) rfl rfl ?_
  refine w_get rfl (hp_94 _ p0) rfl rfl ?_
  refine w_e (c' := (10, [some (aR (some (94, p0, 0)))], [aI (iZ (((0 : Int32)).toInt))], am_hp σ, t)) (by rw [iZ_toInt]) ?_
  refine w_s (c' := (14, [some (aR (some (94, p0, 0)))], [aI (iZ (((0 : Int32)).toInt))], am_hp σ, t)) rfl rfl ?_
  exact w1

theorem b_J0_coder_7d493_13 {p0 : Nat} {σ : SG} {t : KT} (w1 : Wp k_J0_coder_7d493 d (14, [some (aR (some (94, p0, 0)))], [aI (iZ 1)], am_hp σ, t) Q) : Wp k_J0_coder_7d493 d (13, [some (aR (some (94, p0, 0)))], [], am_hp σ, t) Q := by
  refine w_psh rfl zc_1 rfl ?_
  exact w1

theorem b_J0_coder_7d493_14 {p0 : Nat} {xs0 : Int} {σ : SG} {t : KT} (h1 : am_frt .byte (aI (iZ xs0)) = true) (q2 : Q (.inl (some (aI (iZ xs0))), am_hp σ, t)) : Wp k_J0_coder_7d493 d (14, [some (aR (some (94, p0, 0)))], [aI (iZ xs0)], am_hp σ, t) Q := by
  exact w_ret rfl h1 q2

theorem b_J0_isLatin1_aae02_0 {p0 : Nat} {σ : SG} {t : KT} (w1 : (1 : Int) = 0 → Wp k_J0_isLatin1_aae02 d (17, [some (aR (some (94, p0, 0)))], [], am_hp σ, t) Q) (w2 : (1 : Int) ≠ 0 → Wp k_J0_isLatin1_aae02 d (6, [some (aR (some (94, p0, 0)))], [], am_hp σ, t) Q) : Wp k_J0_isLatin1_aae02 d (0, [some (aR (some (94, p0, 0)))], [], am_hp σ, t) Q := by
  refine w_psh rfl zc_1 rfl ?_
  exact w_ifeq rfl (by decide) rfl w1 w2

theorem e_J0_isLatin1_aae02 {p0 : Nat} {h : AH} {t : KT} {d : Nat} {P : RS → Prop} (w : Wp k_J0_isLatin1_aae02 d (0, [some (aR (some (94, p0, 0)))], [], h, t) P) : ∃ r, Ca (d + 1) 340 [aR (some (94, p0, 0))] h t r ∧ P r := ca_W rfl rfl rfl rfl w

theorem b_J0_isLatin1_aae02_6 {p0 : Nat} {σ : SG} {t : KT} (h1 : -2147483648 ≤ ((0 : Int32)).toInt ∧ ((0 : Int32)).toInt < 2147483648) (w2 : ((0 : Int32)).toInt ≠ 0 → Wp k_J0_isLatin1_aae02 d (17, [some (aR (some (94, p0, 0)))], [], am_hp σ, t) Q) (w3 : ((0 : Int32)).toInt = 0 → Wp k_J0_isLatin1_aae02 d (13, [some (aR (some (94, p0, 0)))], [], am_hp σ, t) Q) : Wp k_J0_isLatin1_aae02 d (6, [some (aR (some (94, p0, 0)))], [], am_hp σ, t) Q := by
  refine w_s (c' := (7, [some (aR (some (94, p0, 0)))], [aR (some (94, p0, 0))], am_hp σ, t)) rfl rfl ?_
  refine w_get rfl (hp_94 _ p0) rfl rfl ?_
  refine w_e (c' := (10, [some (aR (some (94, p0, 0)))], [aI (iZ (((0 : Int32)).toInt))], am_hp σ, t)) (by rw [iZ_toInt]) ?_
  exact w_ifne rfl h1 rfl w2 w3

theorem b_J0_isLatin1_aae02_13 {p0 : Nat} {σ : SG} {t : KT} (w1 : Wp k_J0_isLatin1_aae02 d (18, [some (aR (some (94, p0, 0)))], [aI (iZ 1)], am_hp σ, t) Q) : Wp k_J0_isLatin1_aae02 d (13, [some (aR (some (94, p0, 0)))], [], am_hp σ, t) Q := by
  refine w_psh rfl zc_1 rfl ?_
  refine w_s (c' := (18, [some (aR (some (94, p0, 0)))], [aI (iZ 1)], am_hp σ, t)) rfl rfl ?_
  exact w1

theorem b_J0_isLatin1_aae02_17 {p0 : Nat} {σ : SG} {t : KT} (w1 : Wp k_J0_isLatin1_aae02 d (18, [some (aR (some (94, p0, 0)))], [aI (iZ 0)], am_hp σ, t) Q) : Wp k_J0_isLatin1_aae02 d (17, [some (aR (some (94, p0, 0)))], [], am_hp σ, t) Q := by
  refine w_psh rfl zc_0 rfl ?_
  exact w1

theorem b_J0_isLatin1_aae02_18 {p0 : Nat} {xs0 : Int} {σ : SG} {t : KT} (h1 : xs0 = 0 ∨ xs0 = 1) (q2 : Q (.inl (some (aI (iZ xs0))), am_hp σ, t)) : Wp k_J0_isLatin1_aae02 d (18, [some (aR (some (94, p0, 0)))], [aI (iZ xs0)], am_hp σ, t) Q := by
  exact w_ret rfl (frt_b h1) q2

theorem b_J1_charAt_3b067_0 {p0 : Nat} {x1 : Int} {σ σ1 : SG} {t : KT} (c1 : Ca d 341 [aI (iZ x1), aI (iZ (((am_byt p0).length : Int)))] (am_hp σ) t (.inl none, am_hp σ1, t)) (h2 : 0 ≤ x1 ∧ x1 < (((am_byt p0).length : Nat) : Int)) (h3 : Nat.ble ((am_byt p0).length) 4000 = true) (h4 : am_frt .char (aI (iZ (zi2c (zand (bytZ p0 x1.toNat) 255)))) = true) (q5 : Q (.inl (some (aI (iZ (zi2c (zand (bytZ p0 x1.toNat) 255))))), am_hp σ1, t)) : Wp k_J1_charAt_3b067 d (0, [some (aR (some (95, p0, 0))), some (aI (iZ x1))], [], am_hp σ, t) Q := by
  refine w_s (c' := (1, [some (aR (some (95, p0, 0))), some (aI (iZ x1))], [aI (iZ x1)], am_hp σ, t)) rfl rfl ?_
  refine w_s (c' := (2, [some (aR (some (95, p0, 0))), some (aI (iZ x1))], [aR (some (95, p0, 0)), aI (iZ x1)], am_hp σ, t)) rfl rfl ?_
  refine w_s rfl rfl ?_
  refine w_e (c' := (3, [some (aR (some (95, p0, 0))), some (aI (iZ x1))], [aI (iZ (((am_byt p0).length : Int))), aI (iZ x1)], am_hp σ, t)) (by rw [iZ_ofNat]) ?_
  refine w_c0 (c' := (6, [some (aR (some (95, p0, 0))), some (aI (iZ x1))], [], am_hp σ1, t)) rfl rfl rfl rfl c1 (Nat.le_refl _) rfl ?_
  refine w_s (c' := (7, [some (aR (some (95, p0, 0))), some (aI (iZ x1))], [aR (some (95, p0, 0))], am_hp σ1, t)) rfl rfl ?_
  refine w_s (c' := (8, [some (aR (some (95, p0, 0))), some (aI (iZ x1))], [aI (iZ x1), aR (some (95, p0, 0))], am_hp σ1, t)) rfl rfl ?_
  refine w_bal rfl (hp_95 _ p0) h2 h3 rfl ?_
  refine w_psh rfl zc_255 rfl ?_
  refine w_iand rfl rfl ?_
  refine w_i2c rfl rfl ?_
  exact w_ret rfl h4 q5

theorem e_J1_charAt_3b067 {p0 : Nat} {x1 : Int} {h : AH} {t : KT} {d : Nat} {P : RS → Prop} (w : Wp k_J1_charAt_3b067 d (0, [some (aR (some (95, p0, 0))), some (aI (iZ x1))], [], h, t) P) : ∃ r, Ca (d + 1) 342 [aR (some (95, p0, 0)), aI (iZ x1)] h t r ∧ P r := ca_W rfl rfl rfl rfl w

end PCS
theorem s_J3_check {h : AH} {t : KT} {i n : Int} {o : Option Lc} (hi : 0 ≤ i ∧ i < n ∧ n < 2147483648) : Ca 1 343 [aI (iZ i), aI (iZ n), aR o] h t (.inl (some (aI (iZ i))), h, t) := by
  refine ca_of (ca_W (d := 0) (ls := [some (aI (iZ i)), some (aI (iZ n)), some (aR o)]) rfl rfl rfl rfl ?_)
  refine w_s (c' := (1, [some (aI (iZ i)), some (aI (iZ n)), some (aR o)], [aI (iZ i)], h, t)) rfl rfl ?_
  refine w_iflt rfl (by omega) rfl (fun q => by omega) (fun _ => ?_)
  refine w_s (c' := (5, [some (aI (iZ i)), some (aI (iZ n)), some (aR o)], [aI (iZ i)], h, t)) rfl rfl ?_
  refine w_s (c' := (6, [some (aI (iZ i)), some (aI (iZ n)), some (aR o)], [aI (iZ n), aI (iZ i)], h, t)) rfl rfl ?_
  refine w_iclt rfl (by omega) (by omega) rfl (fun _ => ?_) (fun q => by omega)
  refine w_s (c' := (17, [some (aI (iZ i)), some (aI (iZ n)), some (aR o)], [aI (iZ i)], h, t)) rfl rfl ?_
  exact w_ret rfl rfl rfl
theorem s_J0_check {t : KT} {σ : SG} {i n : Int} (hi : 0 ≤ i ∧ i < n ∧ n < 2147483648) : Ca 2 341 [aI (iZ i), aI (iZ n)] (am_hp σ) t (.inl none, am_hp σ, t) := by
  refine ca_of (ca_W (d := 1) (ls := [some (aI (iZ i)), some (aI (iZ n))]) rfl rfl rfl rfl ?_)
  refine w_s (c' := (1, [some (aI (iZ i)), some (aI (iZ n))], [aI (iZ i)], am_hp σ, t)) rfl rfl ?_
  refine w_s (c' := (2, [some (aI (iZ i)), some (aI (iZ n))], [aI (iZ n), aI (iZ i)], am_hp σ, t)) rfl rfl ?_
  refine w_s (c' := (5, [some (aI (iZ i)), some (aI (iZ n))], [aR σ.2.2.2.2.2.2, aI (iZ n), aI (iZ i)], am_hp σ, t)) rfl rfl ?_
  refine w_c0 (c' := (8, [some (aI (iZ i)), some (aI (iZ n))], [aI (iZ i)], am_hp σ, t)) rfl rfl rfl rfl (s_J3_check hi) (Nat.le_refl _) rfl ?_
  refine w_s (c' := (9, [some (aI (iZ i)), some (aI (iZ n))], [], am_hp σ, t)) rfl rfl ?_
  exact w_f rfl rfl rfl
theorem s_coder {t : KT} {σ : SG} {k : Nat} : Ca 1 339 [aR (some (94, k, 0))] (am_hp σ) t (.inl (some (aI (iZ 0))), am_hp σ, t) := by
  refine ca_of (e_J0_coder_7d493 ?_)
  refine b_J0_coder_7d493_0 (fun h => by omega) (fun _ => ?_)
  exact b_J0_coder_7d493_6 (b_J0_coder_7d493_14 rfl rfl)
theorem s_length {t : KT} {σ : SG} {k : Nat} (hk : k < 14) : Ca 2 337 [aR (some (94, k, 0))] (am_hp σ) t (.inl (some (aI (iZ (((am_byt k).length : Int))))), am_hp σ, t) := by
  have h : ∀ k : Nat, k < 14 → zshr ((am_byt k).length : Int) 0 = ((am_byt k).length : Int) := by decide +kernel
  refine ca_of (e_J0_length_8abf5 ?_)
  refine b_J0_length_8abf5_0 (s_coder.up (by omega)) ?_
  rw [h k hk]
theorem s_latin {t : KT} {σ : SG} {k : Nat} : Ca 1 340 [aR (some (94, k, 0))] (am_hp σ) t (.inl (some (aI (iZ 1))), am_hp σ, t) := by
  refine ca_of (e_J0_isLatin1_aae02 ?_)
  refine b_J0_isLatin1_aae02_0 (fun h => by omega) (fun _ => ?_)
  exact b_J0_isLatin1_aae02_6 (by decide) (fun h => absurd h (by decide)) (fun _ => b_J0_isLatin1_aae02_13 (b_J0_isLatin1_aae02_18 (by omega) rfl))
theorem byt_ok : ∀ k : Nat, k < 14 → (am_byt k).length ≤ 7 ∧ ∀ i : Nat, i < (am_byt k).length → zi2c (zand (bytZ k i) 255) = bytZ k i ∧ am_frt .char (aI (iZ (bytZ k i))) = true ∧ 97 ≤ bytZ k i ∧ bytZ k i ≤ 122 := by decide +kernel
theorem s_charAt {t : KT} {σ : SG} {k i : Nat} (hk : k < 14) (hi : i < (am_byt k).length) : Ca 4 338 [aR (some (94, k, 0)), aI (iZ ((i : Int)))] (am_hp σ) t (.inl (some (aI (iZ (bytZ k i)))), am_hp σ, t) := by
  have h := byt_ok k hk
  have hb := h.2 i hi
  have h4 : Nat.ble (am_byt k).length 4000 = true := Nat.ble_eq.mpr (by omega)
  have c : Ca 3 342 [aR (some (95, k, 0)), aI (iZ ((i : Int)))] (am_hp σ) t (.inl (some (aI (iZ (bytZ k i)))), am_hp σ, t) := by
    refine ca_of (e_J1_charAt_3b067 ?_)
    refine b_J1_charAt_3b067_0 ((s_J0_check (by omega)).up (by omega)) (by omega) h4 ?_ ?_
    · rw [Int.toNat_natCast, hb.1]
      exact hb.2.1
    · rw [Int.toNat_natCast, hb.1]
  refine ca_of (e_J0_charAt_5068e ?_)
  refine b_J0_charAt_5068e_0 (s_latin.up (by omega)) (by omega) (fun h => by omega) (fun _ => ?_)
  exact b_J0_charAt_5068e_7 (c.up (by omega)) hb.2.1 rfl
/-- the letters of a literal -/
def kwP (k : Nat) : Nat → List Nat
  | 0 => []
  | i + 1 => kwP k i ++ [(bytZ k i - 96).toNat]
abbrev kwL (k : Nat) : List Nat := kwP k (am_byt k).length
theorem kwP_len (k : Nat) : ∀ i, (kwP k i).length = i
  | 0 => rfl
  | i + 1 => by rw [kwP, List.length_append, kwP_len k i]; rfl
theorem kwP_lt {k : Nat} (hk : k < 14) : ∀ i, i ≤ (am_byt k).length → ltL (kwP k i)
  | 0, _ => fun x hx => by simp [kwP] at hx
  | i + 1, h => fun x hx => by
    rw [kwP, List.mem_append, List.mem_singleton] at hx
    rcases hx with hx | hx
    · exact kwP_lt hk i (by omega) x hx
    · have := (byt_ok k hk).2 i (by omega)
      omega
theorem s_X11_nameOf {t : KT} {σ : SG} {k : Nat} (hk : k < 14) : Ca 5 150 [aR (some (94, k, 0))] (am_hp σ) t (.inl (some (aL (jZ (cNm (kwL k))))), am_hp σ, t) := by
  have h := byt_ok k hk
  refine ca_of (e_X11_nameOf ?_)
  refine b_X11_nameOf_0 ?_
  refine w_loopU (am_byt k).length (fun i => (4, [some (aR (some (94, k, 0))), some (aL (jZ (cNm (kwP k i)))), none, some (aI (iZ ((i : Int))))], [], am_hp σ, t)) rfl (fun i hi w => ?_) ?_
  · have hb := h.2 i hi
    refine b_X11_nameOf_4 ((s_length hk).up (by omega)) (by omega) (by omega) (fun h => by omega) (fun _ => ?_)
    refine b_X11_nameOf_12 (by omega) (fun h => by omega) (fun _ => ?_)
    have cw := s_X11_withLetter (t := t) (σ := σ) (l := kwP k i) (x := (bytZ k i - 96).toNat) (kwP_lt hk i (by omega)) (by rw [kwP_len]; omega) (by omega)
    rw [kwP_len, show (((bytZ k i - 96).toNat : Nat) : Int) = bytZ k i - 97 + 1 by omega] at cw
    exact b_X11_nameOf_18 ((s_charAt hk hi).up (by omega)) (cw.up (by omega)) w
  · exact b_X11_nameOf_4 ((s_length hk).up (by omega)) (by omega) (by omega) (fun _ => b_X11_nameOf_40 rfl) (fun h => by omega)
theorem s_ordinal {t : KT} {σ : SG} {k : Nat} (hk : k < 10) : Ca 1 336 [aR (some (91, k, 0))] (am_hp σ) t (.inl (some (aI (iZ ((k : Int))))), am_hp σ, t) := by
  have h : ∀ k : Nat, k < 10 → (nI k).toInt = k := by decide
  refine ca_of (e_Jx29ce0_ordinal_8abf5 ?_)
  refine b_Jx29ce0_ordinal_8abf5_0 ?_
  rw [h k hk]
theorem s_X10_isWord {t : KT} {σ : SG} {T : TB} {p k : Nat} (hT : TT T p σ) (hk : k < 14) : Ca 6 84 [aR (some (2, 0, 0)), aR (some (94, k, 0))] (am_hp σ) t (.inl (some (aI (iZ (bz (tK T p = 1 ∧ tL T p = kwL k))))), am_hp σ, t) := by
  obtain ⟨h1, h2, h3, h4, h5, h6, h7⟩ := hT
  have hkl := tK_le T p
  refine ca_of (e_X10_isWord ?_)
  refine b_X10_isWord_0 (by omega) (fun h => ?_) (fun h => ?_)
  · refine b_X10_isWord_24 (b_X10_isWord_25 (by omega) ?_)
    rw [bz_f (by omega)]
  · have hk1 : tK T p = 1 := by omega
    have ho := tK_1n hk1
    have hb := byt_ok k hk
    have hc1 := cN_8 ho.2.2 ho.2.1
    have hc2 : cN (kwL k) < 1099511627776 := cN_8 (kwP_lt hk _ (Nat.le_refl _)) (by rw [kwP_len]; omega)
    have key : ycmp (cNm (tL T p)) (cNm (kwL k)) = 0 ↔ tL T p = kwL k := by
      rw [ycmp_0 (by rw [cNm_eq]; omega) (by rw [cNm_eq]; omega), cNm_inj ho.2.2 (kwP_lt hk _ (Nat.le_refl _))]
    refine b_X10_isWord_8 (r1 := cNm (kwL k)) (σ1 := σ) ((s_X11_nameOf hk).up (by omega)) ycmp_rg (fun h => ?_) (fun h => ?_)
    · rw [h7 hk1] at h
      refine b_X10_isWord_24 (b_X10_isWord_25 (by omega) ?_)
      rw [bz_f (fun q => h (key.mpr q.2))]
    · rw [h7 hk1] at h
      refine b_X10_isWord_20 (b_X10_isWord_25 (by omega) ?_)
      rw [bz_t ⟨hk1, key.mp h⟩]
