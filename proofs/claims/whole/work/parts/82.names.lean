/-! THE MODEL: names -/
set_option maxRecDepth 4000
theorem ltL_rev {l : List Nat} (h : ltL l) : ltL l.reverse := fun x hx => h x (List.mem_reverse.mp hx)
theorem mN_8 {l : List Nat} (h : ltL l) (h8 : l.length ≤ 8) : mN l < 1099511627776 := cN_8 (ltL_rev h) (by rw [List.length_reverse]; exact h8)
theorem mN_inj {l l' : List Nat} (h : ltL l) (h' : ltL l') : mN l = mN l' ↔ l = l' := by
  constructor
  · intro e
    have := cN_inj _ _ (ltL_rev h) (ltL_rev h') e
    exact List.reverse_inj.mp this
  · intro e; rw [e]
theorem mN_snoc (l : List Nat) (x : Nat) : mN (l ++ [x]) = x + 32 * mN l := by
  unfold mN
  rw [List.reverse_append]
  rfl
theorem s_X12_nameOf {t : KT} {σ : SG} {A : RA} {r : Nat} (hA : MA A σ) (hr : r < rN A) : Ca 2 220 [aR (some (40, 0, 0)), aI (iZ ((r : Int)))] (am_hp σ) t (.inl (some (aL (jZ ((mN (rNm A r) : Int))))), am_hp σ, t) := by
  have h4 := hA.1.1
  have ho := (hA.1.2.2.2.2 r hr).1
  have hm := mN_8 ho.2.2 ho.2.1
  obtain ⟨k1, k2, -, -⟩ := hA.2.2.2.2.2 r hr
  rw [Nat.zero_add] at k1 k2
  have e1 : (((12 + 63 * r : Nat) : Int) + 0).toNat = 12 + 63 * r := by omega
  have e2 : (((12 + 63 * r : Nat) : Int) + 1).toNat = 13 + 63 * r := by omega
  refine ca_of (e_X12_nameOf ?_)
  refine b_X12_nameOf_0 (s_X12_base.up (by omega)) (by omega) (by rw [e1, k1]; omega) (s_X12_base.up (by omega)) (by omega) (by rw [e2, k2]; omega) ?_
  rw [e1, e2, k1, k2]
  have h20 := yshl_n (a := mN (rNm A r) / 1048576) (s := 20) (by omega) (by
    have : (2 : Nat) ^ 20 = 1048576 := by decide
    have : (2 : Nat) ^ 63 = 9223372036854775808 := by decide
    omega)
  rw [show ((20 : Nat) : Int) = 20 from rfl] at h20
  rw [h20, yor_n (by
    have : (2 : Nat) ^ 20 = 1048576 := by decide
    have : (2 : Nat) ^ 62 = 4611686018427387904 := by decide
    omega) (by
    have : (2 : Nat) ^ 62 = 4611686018427387904 := by decide
    omega)]
  have e : mN (rNm A r) / 1048576 * 2 ^ 20 ||| mN (rNm A r) % 1048576 = mN (rNm A r) := by
    have h := Nat.two_pow_add_eq_or_of_lt (i := 20) (b := mN (rNm A r) % 1048576) (by
      have : (2 : Nat) ^ 20 = 1048576 := by decide
      omega) (mN (rNm A r) / 1048576)
    rw [Nat.mul_comm, ← h]
    have : (2 : Nat) ^ 20 = 1048576 := by decide
    rw [this]
    omega
  rw [e]
theorem s_X12_rowNamed {t : KT} {σ : SG} {A : RA} {nm : List Nat} (hA : MA A σ) (hn : ltL nm) (h8 : nm.length ≤ 8) : Ca 3 221 [aR (some (40, 0, 0)), aL (jZ ((mN nm : Int)))] (am_hp σ) t (.inl (some (aI (iZ (rwA A nm)))), am_hp σ, t) := by
  have e0 := hA.n
  have hm := mN_8 hn h8
  have key : ∀ r, r < rN A → (ycmp (mN (rNm A r) : Int) (mN nm : Int) = 0 ↔ rNm A r = nm) := fun r hr => by
    have ho := (hA.1.2.2.2.2 r hr).1
    have hm2 := mN_8 ho.2.2 ho.2.1
    rw [ycmp_0 (by omega) (by omega), ← mN_inj ho.2.2 hn]
    omega
  refine ca_of (e_X12_rowNamed ?_)
  refine b_X12_rowNamed_0 ?_
  refine w_loop (rN A) (fun r => (2, [some (aR (some (40, 0, 0))), some (aL (jZ ((mN nm : Int)))), none, some (aI (iZ ((r : Int))))], [], am_hp σ, t)) (fun r => ∀ j, j < r → ¬ rNm A (0 + j) = nm) rfl (fun j hj => absurd hj (Nat.not_lt_zero j)) (fun r hr hI w => ?_) (fun hI => ?_)
  · refine b_X12_rowNamed_2 (by omega) (by omega) (fun q => by omega) (fun _ => ?_)
    refine b_X12_rowNamed_12 ((s_X12_nameOf hA hr).up (by omega)) ycmp_rg (fun q => ?_) (fun q => ?_)
    · refine b_X12_rowNamed_24 (w (fun j hj => ?_))
      by_cases e : j = r
      · subst e
        rw [Nat.zero_add]
        exact fun z => q ((key j hr).mpr z)
      · exact hI j (by omega)
    · refine b_X12_rowNamed_22 ?_
      rw [rwA, fndF_at (P := fun r => rNm A r = nm) (rN A) 0 r hr hI (by rw [Nat.zero_add]; exact (key r hr).mp q), Nat.zero_add]
  · refine b_X12_rowNamed_2 (by omega) (by omega) (fun _ => b_X12_rowNamed_30 ?_) (fun q => by omega)
    rw [rwA, fndF_no (P := fun r => rNm A r = nm) (rN A) 0 hI]
theorem cN_0 {l : List Nat} (h : ltL l) : cN l = 0 ↔ l = [] := by
  constructor
  · intro e
    exact cN_inj l [] h (fun x hx => by simp at hx) e
  · intro e; rw [e]; rfl
theorem cN_dv : ∀ (l : List Nat) (i : Nat), ltL l → cN l / 2 ^ (5 * i) = cN (l.drop i)
  | l, 0, _ => by simp
  | [], i + 1, _ => by simp [cN]
  | x :: l, i + 1, h => by
    have h1 := h x List.mem_cons_self
    have h2 := cN_dv l i (fun y hy => h y (List.mem_cons_of_mem _ hy))
    rw [cN, show 5 * (i + 1) = 5 + 5 * i by omega, Nat.pow_add, ← Nat.div_div_eq_div_mul, show (x + 32 * cN l) / 2 ^ 5 = cN l by omega, h2]
    rfl
theorem ycmp_n0 {D : Nat} (h : D < 1099511627776) : (ycmp (D : Int) 0 ≤ 0 → D = 0) ∧ (0 < ycmp (D : Int) 0 → D ≠ 0) := by
  have hc := ycmp_le (a := (D : Int)) (b := 0) (by omega) (by omega)
  omega
theorem s_X12_lettersOf {t : KT} {σ : SG} {l : List Nat} (hl : ltL l) (h8 : l.length ≤ 8) : Ca 1 252 [aL (jZ ((mN l : Int)))] (am_hp σ) t (.inl (some (aI (iZ ((l.length : Int))))), am_hp σ, t) := by
  have hm := mN_8 hl h8
  have hr := ltL_rev hl
  have hlt : ∀ i, ltL (l.reverse.drop i) := fun i x hx => hr x (List.mem_of_mem_drop hx)
  have hq : ∀ i, mN l / 2 ^ (5 * i) ≤ mN l := fun i => Nat.div_le_self _ _
  have hz : ∀ i, mN l / 2 ^ (5 * i) = 0 ↔ l.length ≤ i := fun i => by
    unfold mN
    rw [cN_dv _ _ hr, cN_0 (hlt i), List.drop_eq_nil_iff, List.length_reverse]
  refine ca_of (e_X12_lettersOf ?_)
  refine b_X12_lettersOf_0 ?_
  refine w_loopU l.length (fun i => (4, [some (aL (jZ ((mN l : Int)))), none, some (aI (iZ ((i : Int)))), some (aL (jZ (((mN l / 2 ^ (5 * i) : Nat) : Int)))), none], [], am_hp σ, t)) ?_ (fun i hi w => ?_) ?_
  · show (4, _, _, _, _) = _
    rw [show mN l / 2 ^ (5 * 0) = mN l by simp]
    rfl
  · have hc := ycmp_n0 (D := mN l / 2 ^ (5 * i)) (Nat.lt_of_le_of_lt (hq i) hm)
    have hz := hz i
    refine b_X12_lettersOf_4 ycmp_rg (fun q => absurd (hz.mp (hc.1 q)) (by omega)) (fun _ => b_X12_lettersOf_10 ?_)
    have h5 := yshr_n (a := mN l / 2 ^ (5 * i)) (s := 5) (by omega) (by
      have := hq i
      have : (2 : Nat) ^ 63 = 9223372036854775808 := by decide
      omega)
    rw [show ((5 : Nat) : Int) = 5 from rfl] at h5
    rw [h5, Nat.div_div_eq_div_mul, ← Nat.pow_add, show 5 * i + 5 = 5 * (i + 1) by omega]
    exact w
  · have hc := ycmp_n0 (D := mN l / 2 ^ (5 * l.length)) (Nat.lt_of_le_of_lt (hq l.length) hm)
    have hz := (hz l.length).mpr (Nat.le_refl _)
    exact b_X12_lettersOf_4 ycmp_rg (fun _ => b_X12_lettersOf_20 rfl) (fun q => absurd hz (hc.2 q))
theorem getD_rev {l : List Nat} {i : Nat} (hi : i < l.length) : l.reverse.getD (l.length - 1 - i) 0 = l.getD i 0 := by
  rw [List.getD_eq_getElem?_getD, List.getD_eq_getElem?_getD, List.getElem?_reverse (by omega), show l.length - 1 - (l.length - 1 - i) = i by omega]
theorem s_X12_letterOf {t : KT} {σ : SG} {l : List Nat} {i : Int} (hl : ltL l) (h8 : l.length ≤ 8) (hi : -2147483648 ≤ i ∧ i < 2147483648) : Ca 2 253 [aL (jZ ((mN l : Int))), aI (iZ i)] (am_hp σ) t (.inl (some (aI (iZ (ltA l i)))), am_hp σ, t) := by
  have hm := mN_8 hl h8
  have ci := s_X12_isIn (t := t) (σ := σ) (i_rg hi) (i_rg (z := 0) (by omega)) (i_rg (z := (l.length : Int) - 1) (by omega))
  refine ca_of (e_X12_letterOf ?_)
  refine b_X12_letterOf_0 ((s_X12_lettersOf hl h8).up (by omega)) hi (by omega) (ci.up (by omega)) bz_rg (fun q => ?_) (fun q => ?_)
  · have q := bz_0.mp q
    rw [ltA, if_neg (by omega)]
    exact b_X12_letterOf_35 (b_X12_letterOf_36 rfl)
  · have q := bz_n.mp q
    rw [ltA, if_pos (by omega)]
    refine b_X12_letterOf_18 (b_X12_letterOf_36 ?_)
    have hi2 : i.toNat < l.length := by omega
    rw [show (5 * (((l.length : Int) - 1) - i)) = ((5 * (l.length - 1 - i.toNat) : Nat) : Int) by omega, yshr_n (by omega) (by
      have : (2 : Nat) ^ 63 = 9223372036854775808 := by decide
      omega)]
    have hd : mN l / 2 ^ (5 * (l.length - 1 - i.toNat)) ≤ mN l := Nat.div_le_self _ _
    have h31 := yand_n (m := mN l / 2 ^ (5 * (l.length - 1 - i.toNat))) (k := 31) (by
      have : (2 : Nat) ^ 62 = 4611686018427387904 := by decide
      omega) (by decide)
    rw [show ((31 : Nat) : Int) = 31 from rfl] at h31
    have hand : mN l / 2 ^ (5 * (l.length - 1 - i.toNat)) &&& 31 = l.getD i.toNat 0 := by
      rw [show 31 = 2 ^ 5 - 1 by decide, Nat.and_two_pow_sub_one_eq_mod, show (2 : Nat) ^ 5 = 32 by decide]
      unfold mN
      rw [cN_get _ _ (ltL_rev hl), getD_rev hi2]
    rw [h31, hand]
    have hx : l.getD i.toNat 0 ≤ 26 := by
      rw [List.getD_eq_getElem?_getD, List.getElem?_eq_getElem hi2]
      exact (hl _ (List.getElem_mem hi2)).2
    rw [zl2i_n (by omega)]
theorem m_letter {t : KT} {σ : SG} {A : RA} {r i : Int} (hA : MA A σ) (hr : -2147483648 ≤ r ∧ r < 2147483648) (hi : -2147483648 ≤ i ∧ i < 2147483648) : ∃ σ', Ca 3 254 [aR (some (40, 0, 0)), aI (iZ r), aI (iZ i)] (am_hp σ) t (.inl (some (aI (iZ (moI (A_letter A r i))))), am_hp σ', t) ∧ σ'.1 (40, 0, 0) 0 = moC (A_letter A r i) ∧ MF σ σ' := by
  have cr := s_X12_isRow (t := t) hA hr
  refine ex_of (e_X12_letter ?_)
  unfold A_letter
  by_cases hR : isR A r
  · rw [if_pos hR]
    have hn := isR_n hR
    have A1 := hA.m (MF.ck (σ := σ) (z := 0))
    have ho := (hA.1.2.2.2.2 r.toNat hn.1).1
    have cn := s_X12_nameOf (t := t) A1 hn.1
    rw [hn.2] at cn
    exact b_X12_letter_0 (cr.up (by omega)) ((goes_t hR).up (by omega)) (by omega) (fun q => by omega) (fun _ => b_X12_letter_12 (cn.up (by omega)) ((s_X12_letterOf ho.2.2 ho.2.1 hi).up (by omega)) (b_X12_letter_25 ⟨_, rfl, noM 0⟩))
  · rw [if_neg hR]
    exact b_X12_letter_0 (cr.up (by omega)) ((goes_f hR).up (by omega)) (by omega) (fun _ => b_X12_letter_24 (b_X12_letter_25 ⟨_, rfl, noM 1⟩)) (fun q => absurd rfl q)
