/-! THE MODEL: reports -/
set_option maxRecDepth 4000
/-- the page holds l -/
def RM (l : List Int) (σ : SG) : Prop := l.length ≤ 730 ∧ σ.1 (40, 0, 0) 47 = l.length ∧ ∀ j, j < l.length → σ.1 (62, 0, 0) j = l.getD j 0
def inPg (L : Lc) : Prop := L = (40, 0, 0) ∨ L = (62, 0, 0)
/-- only the page has changed -/
def PG (σ σ' : SG) : Prop := Fr inPg σ σ' ∧ ∀ j, j ≠ 47 → σ'.1 (40, 0, 0) j = σ.1 (40, 0, 0) j
theorem PG.refl (σ : SG) : PG σ σ := ⟨Fr.refl _ _, fun _ _ => rfl⟩
theorem PG.trans {a b c : SG} (h : PG a b) (g : PG b c) : PG a c := ⟨h.1.trans g.1, fun j hj => (g.2 j hj).trans (h.2 j hj)⟩
theorem PG.o {σ σ' : SG} (g : PG σ σ') (a : Nat) (h1 : a ≠ 40) (h2 : a ≠ 62) : σ'.1 (a, 0, 0) = σ.1 (a, 0, 0) := (g.1.1 (a, 0, 0) (fun q => by
  rcases q with q | q
  · exact h1 (congrArg (fun L : Lc => L.1) q)
  · exact h2 (congrArg (fun L : Lc => L.1) q))).1
theorem WD.pg {ch : Nat → Nat} {f : Nat → Int} {n : Nat} {σ σ' : SG} (h : WD ch f n σ) (g : PG σ σ') : WD ch f n σ' := by
  obtain ⟨⟨a1, a2, a3⟩, ⟨b1, b2, b3⟩, c, d⟩ := h
  refine ⟨⟨(g.2 34 (by omega)).trans a1, by rw [g.o 51 (by omega) (by omega)]; exact a2, by rw [g.o 52 (by omega) (by omega)]; exact a3⟩, ⟨(g.2 33 (by omega)).trans b1, b2, by rw [g.o 48 (by omega) (by omega), g.o 49 (by omega) (by omega)]; exact b3⟩, c, fun w hw => ?_⟩
  rw [g.o 46 (by omega) (by omega), g.o 47 (by omega) (by omega)]
  exact d w hw
theorem MS.rp {S : SS} {σ σ' : SG} {l : List Int} (h : MS S σ) (f : Fr (fun L => inQ L ∨ L.1 = 62) σ σ') (g : ∀ j, j ≠ 0 → j ≠ 33 → j ≠ 34 → j ≠ 47 → j ≠ 48 → σ'.1 (40, 0, 0) j = σ.1 (40, 0, 0) j) (hP : MP l σ') : MS (repS S l) σ' := by
  obtain ⟨h1, h2, h3, h4, h5, h6, h7, h8, h9⟩ := h
  have n : ∀ a : Nat, (a = 41 ∨ a = 42 ∨ a = 43 ∨ a = 45 ∨ a = 46 ∨ a = 47) → ¬ (inQ (a, 0, 0) ∨ ((a, 0, 0) : Lc).1 = 62) := fun a ha q => by
    unfold inQ at q
    dsimp only at q
    omega
  obtain ⟨n1, n2, n3, n4⟩ := h5
  exact ⟨h1.fr f (n 42 (by omega)), h2.fr f (n 46 (by omega)) (n 47 (by omega)), h3.ce (g 23 (by omega) (by omega) (by omega) (by omega) (by omega)) (f.1 _ (n 43 (by omega))).1, h4.ce (g 17 (by omega) (by omega) (by omega) (by omega) (by omega)) (f.1 _ (n 45 (by omega))).1, ⟨(g 18 (by omega) (by omega) (by omega) (by omega) (by omega)).trans n1, (g 19 (by omega) (by omega) (by omega) (by omega) (by omega)).trans n2, (g 20 (by omega) (by omega) (by omega) (by omega) (by omega)).trans n3, (g 22 (by omega) (by omega) (by omega) (by omega) (by omega)).trans n4⟩, (g 21 (by omega) (by omega) (by omega) (by omega) (by omega)).trans h6, h7.ce (g 2 (by omega) (by omega) (by omega) (by omega) (by omega)) (f.1 _ (n 41 (by omega))).1, ⟨(g 10 (by omega) (by omega) (by omega) (by omega) (by omega)).trans h8.1, (g 11 (by omega) (by omega) (by omega) (by omega) (by omega)).trans h8.2⟩, hP⟩
theorem s_X12_tell {t : KT} {σ : SG} {l : List Int} {x : Int} (h : RM l σ) (hl : l.length < 730) : ∃ σ', Ca 1 331 [aR (some (40, 0, 0)), aI (iZ x)] (am_hp σ) t (.inl none, am_hp σ', t) ∧ RM (l ++ [x]) σ' ∧ PG σ σ' := by
  obtain ⟨h1, h2, h3⟩ := h
  have eh : ∀ σ2 : SG, ∀ f : Nat → Int, (sI σ2 (40, 0, 0) f).1 (62, 0, 0) = σ2.1 (62, 0, 0) := fun σ2 f => by rw [sI_1, if_neg (by decide)]
  refine ex_of (e_X12_tell ?_)
  refine b_X12_tell_0 (by omega) ⟨_, rfl, ⟨by simp; omega, ?_, fun j hj => ?_⟩, (Fr.sI (P := inPg) (Or.inr rfl)).trans (Fr.sI (P := inPg) (Or.inl rfl)), fun j hj => ?_⟩
  · simp [sI_1, up_at, h2]
  · have hj : j < l.length + 1 := by simpa using hj
    rw [eh, sI_1, if_pos rfl, up_at, h2, Int.toNat_natCast]
    by_cases e : j = l.length
    · subst e
      rw [if_pos rfl]
      simp
    · rw [if_neg e, h3 j (by omega), List.getD_eq_getElem?_getD, List.getD_eq_getElem?_getD, List.getElem?_append_left (by omega)]
  · rw [sI_1, if_pos rfl, up_at, if_neg hj, sI_1, if_neg (by decide)]
theorem least {P : Nat → Prop} : ∀ n, P n → ∃ k, k ≤ n ∧ P k ∧ ∀ j, j < k → ¬ P j := by
  intro n
  induction n using Nat.strongRecOn with
  | ind n ih =>
    intro h
    by_cases q : ∃ m, m < n ∧ P m
    · obtain ⟨m, hm, hp⟩ := q
      obtain ⟨k, k1, k2, k3⟩ := ih m hm hp
      exact ⟨k, by omega, k2, k3⟩
    · exact ⟨n, Nat.le_refl n, h, fun j hj hp => q ⟨j, hj, hp⟩⟩
theorem pow_8 : ∀ j : Nat, j ≤ 8 → 1 ≤ 10 ^ j ∧ 10 ^ j ≤ 100000000 := by decide
theorem eD_nil {v k : Nat} (hk : v < 10 ^ (k + 1)) : ∀ i, i + k ≤ 8 → eD v i = []
  | 0, _ => rfl
  | i + 1, h => by
    have h1 : 10 ^ (k + 1) ≤ 10 ^ (8 - i) := Nat.pow_le_pow_right (by decide) (by omega)
    rw [eD, eD_nil hk i (by omega), if_neg (fun q => by
      rcases q with q | q
      · omega
      · omega)]
    rfl
theorem s_X12_tellNumber {t : KT} {σ : SG} {l : List Int} {v : Nat} (h : RM l σ) (hv : v < 268435456) (hl : l.length + 9 ≤ 730) : ∃ σ', Ca 2 332 [aR (some (40, 0, 0)), aI (iZ ((v : Int)))] (am_hp σ) t (.inl none, am_hp σ', t) ∧ RM (l ++ eD v 9) σ' ∧ PG σ σ' := by
  obtain ⟨k, k8, kp, km⟩ := least (P := fun j => v / 10 ^ j ≤ 9) 8 (by show v / 100000000 ≤ 9; omega)
  have kp : v / 10 ^ k ≤ 9 := kp
  have hv1 : v < 10 ^ (k + 1) := by
    have hb := pow_8 k k8
    have := (Nat.div_lt_iff_lt_mul (k := 10 ^ k) (x := v) (y := 10) (by omega)).mp (by omega)
    rw [Nat.pow_succ, Nat.mul_comm]
    exact this
  have hPd : ∀ j, j ≤ k → Pd v j := fun j hj => by
    by_cases e : k = 0
    · exact Or.inl (by omega)
    · right
      have hm : 9 < v / 10 ^ (k - 1) := Nat.lt_of_not_le (km (k - 1) (by omega))
      have hb := pow_8 (k - 1) (by omega)
      have h10 := (Nat.le_div_iff_mul_le (k := 10 ^ (k - 1)) (x := 10) (y := v) (by omega)).mp (by omega)
      have e2 : 10 ^ k = 10 * 10 ^ (k - 1) := by
        rw [Nat.mul_comm, ← Nat.pow_succ, show (k - 1).succ = k by omega]
      have h1 : 10 ^ j ≤ 10 ^ k := Nat.pow_le_pow_right (by decide) hj
      omega
  refine ex_of (e_X12_tellNumber ?_)
  refine wq (fun Q hQ => ?_)
  refine b_X12_tellNumber_0 ?_
  refine w_loopS k (fun i c => c = (2, [some (aR (some (40, 0, 0))), some (aI (iZ ((v : Int)))), some (aI (iZ (((10 ^ i : Nat) : Int))))], [], am_hp σ, t)) rfl (fun i c hi hI go => ?_) (fun c hI => ?_)
  · subst hI
    have hb := pow_8 i (by omega)
    have hd := zdiv_n (a := v) (b := 10 ^ i) (by omega) (by omega)
    have hm : 9 < v / 10 ^ i := Nat.lt_of_not_le (km i hi)
    have hle : v / 10 ^ i ≤ v := Nat.div_le_self _ _
    refine b_X12_tellNumber_2 (by omega) (by rw [hd]; omega) (fun q => by rw [hd] at q; omega) (fun _ => b_X12_tellNumber_10 (go _ ?_))
    rw [show ((10 ^ i : Nat) : Int) * 10 = ((10 ^ (i + 1) : Nat) : Int) by rw [Nat.pow_succ]; omega]
  · subst hI
    have hb := pow_8 k k8
    have hd := zdiv_n (a := v) (b := 10 ^ k) (by omega) (by omega)
    obtain ⟨y, hy, hy9⟩ : ∃ y : Nat, zdiv (v : Int) ((10 ^ k : Nat) : Int) = (y : Int) ∧ y ≤ 9 := ⟨_, hd, kp⟩
    clear hd
    refine b_X12_tellNumber_2 (by omega) (by rw [hy]; omega) (fun _ => ?_) (fun q => by rw [hy] at q; omega)
    refine w_loopS (k + 1) (fun m c => ∃ σ1, c = (18, [some (aR (some (40, 0, 0))), some (aI (iZ ((v : Int)))), some (aI (iZ (((if m ≤ k then 10 ^ (k - m) else 0 : Nat) : Int))))], [], am_hp σ1, t) ∧ RM (l ++ eD v (8 - k + m)) σ1 ∧ PG σ σ1) ⟨σ, ?_, ?_, PG.refl _⟩ (fun m c hm hI go => ?_) (fun c hI => ?_)
    · rw [if_pos (Nat.zero_le k), Nat.sub_zero]
    · rw [Nat.add_zero, eD_nil hv1 (8 - k) (by omega), List.append_nil]
      exact h
    · obtain ⟨σ1, rfl, g1, f1⟩ := hI
      rw [if_pos (show m ≤ k by omega)]
      have hbm := pow_8 (k - m) (by omega)
      have hdm := zdiv_n (a := v) (b := 10 ^ (k - m)) (by omega) (by omega)
      have hlm : v / 10 ^ (k - m) ≤ v := Nat.div_le_self _ _
      have hr := zrem_n (a := v / 10 ^ (k - m)) (b := 10) (by omega) (by omega)
      have hd10 := zdiv_n (a := 10 ^ (k - m)) (b := 10) (by omega) (by omega)
      have hlen := eD_len v (8 - k + m)
      have hrd : zrem (zdiv (v : Int) ((10 ^ (k - m) : Nat) : Int)) 10 = ((v / 10 ^ (k - m) % 10 : Nat) : Int) := by
        rw [hdm]
        exact hr
      obtain ⟨σ2, c2, g2, f2⟩ := s_X12_tell (t := t) (x := 48 + ((v / 10 ^ (k - m) % 10 : Nat) : Int)) g1 (by rw [List.length_append]; omega)
      rw [← hrd] at c2
      refine b_X12_tellNumber_18 (by omega) (fun q => by omega) (fun _ => b_X12_tellNumber_22 (by omega) (c2.up (by omega)) (go _ ⟨σ2, ?_, ?_, f1.trans f2⟩))
      · have e : zdiv ((10 ^ (k - m) : Nat) : Int) 10 = ((if m + 1 ≤ k then 10 ^ (k - (m + 1)) else 0 : Nat) : Int) := by
          have hd10' : zdiv ((10 ^ (k - m) : Nat) : Int) 10 = ((10 ^ (k - m) / 10 : Nat) : Int) := hd10
          rw [hd10']
          by_cases q : m + 1 ≤ k
          · rw [if_pos q, show k - m = (k - (m + 1)) + 1 by omega, Nat.pow_succ, Nat.mul_div_cancel _ (by decide)]
          · rw [if_neg q, show k - m = 0 by omega]
        rw [e]
      · have e1 : eD v (8 - k + (m + 1)) = eD v (8 - k + m) ++ (if Pd v (8 - (8 - k + m)) then [48 + ((v / 10 ^ (8 - (8 - k + m)) % 10 : Nat) : Int)] else []) := rfl
        rw [e1, show 8 - (8 - k + m) = k - m by omega, if_pos (hPd (k - m) (by omega)), ← List.append_assoc]
        exact g2
    · obtain ⟨σ1, rfl, g1, f1⟩ := hI
      rw [if_neg (show ¬ k + 1 ≤ k by omega)]
      rw [show 8 - k + (k + 1) = 9 by omega] at g1
      exact b_X12_tellNumber_18 (by decide) (fun _ => b_X12_tellNumber_43 (hQ _ ⟨σ1, rfl, g1, f1⟩)) (fun q => absurd q (by decide))
theorem s_X12_tellWord {t : KT} {σ : SG} {l : List Int} {ch : Nat → Nat} {f : Nat → Int} {n k : Nat} (h : RM l σ) (hX : WD ch f n σ) (hk : k < nW ch n) (hl : l.length + 12 * hB ch n k ≤ 730) : ∃ σ', Ca 3 333 [aR (some (40, 0, 0)), aI (iZ ((k : Int)))] (am_hp σ) t (.inl none, am_hp σ', t) ∧ RM (l ++ ([48 + ((ch (stU ch k)) : Int), 40] ++ (nuR f (stU ch k) (hB ch n k) ++ [41]))) σ' ∧ PG σ σ' := by
  have hn := hX.n
  have hs := hX.st hk
  have hlen := nuR_len f (stU ch k)
  refine ex_of (e_X12_tellWord ?_)
  refine wq (fun Q hQ => ?_)
  obtain ⟨σ1, c1, g1, f1⟩ := s_X12_tell (t := t) (x := 48 + ((ch (stU ch k)) : Int)) h (by omega)
  obtain ⟨σ2, c2, g2, f2⟩ := s_X12_tell (t := t) (x := 40) g1 (by rw [List.length_append]; simp; omega)
  have f12 := f1.trans f2
  have hs2 := (hX.pg f12).st hk
  refine b_X12_tellWord_0 (by omega) (by rw [Int.toNat_natCast, hs.2.2.1]; exact c1.up (by omega)) (c2.up (by omega)) (by omega) ?_
  rw [Int.toNat_natCast, hs2.1]
  refine w_loopS (hB ch n k) (fun j c => ∃ σ3, c = (26, [some (aR (some (40, 0, 0))), some (aI (iZ ((k : Int)))), some (aI (iZ (((stU ch k + j : Nat) : Int))))], [], am_hp σ3, t) ∧ RM (l ++ [48 + ((ch (stU ch k)) : Int)] ++ [40] ++ nuR f (stU ch k) j) σ3 ∧ PG σ σ3) ⟨σ2, rfl, by simpa [nuR] using g2, f12⟩ (fun j c hj hI go => ?_) (fun c hI => ?_)
  · obtain ⟨σ3, rfl, g3, f3⟩ := hI
    have hX3 := hX.pg f3
    have hs3 := hX3.st hk
    have hv := hX3.2.1.2.2 (stU ch k + j) (by omega)
    have hlj := hlen j
    have e5 : nuR f (stU ch k) (j + 1) = nuR f (stU ch k) j ++ ((if 0 < j then [44] else []) ++ eD (f (stU ch k + j)).toNat 9) := rfl
    have h54 : ∀ σ4, RM (l ++ [48 + ((ch (stU ch k)) : Int)] ++ [40] ++ (nuR f (stU ch k) j ++ (if 0 < j then [44] else []))) σ4 → PG σ σ4 → Wp k_X12_tellWord 2 (54, [some (aR (some (40, 0, 0))), some (aI (iZ ((k : Int)))), some (aI (iZ (((stU ch k + j : Nat) : Int))))], [], am_hp σ4, t) Q := by
      intro σ4 g4 f4
      have hv4 := (hX.pg f4).2.1.2.2 (stU ch k + j) (by omega)
      obtain ⟨v, hvv⟩ := Int.eq_ofNat_of_zero_le hv4.2.2.1
      obtain ⟨σ5, c5, g5, f5⟩ := s_X12_tellNumber (t := t) (v := v) g4 (by omega) (by
        simp only [List.length_append, List.length_cons, List.length_nil]
        by_cases e : 0 < j
        · rw [if_pos e]; simp only [List.length_cons, List.length_nil]; omega
        · rw [if_neg e]; simp only [List.length_nil]; omega)
      rw [← hvv, ← hv4.1] at c5
      refine b_X12_tellWord_54 (by omega) (by rw [Int.toNat_natCast]; exact c5.up (by omega)) ?_
      rw [show ((stU ch k + j : Nat) : Int) + 1 = ((stU ch k + (j + 1) : Nat) : Int) by omega]
      refine go _ ⟨σ5, rfl, ?_, f4.trans f5⟩
      rw [e5, hvv, Int.toNat_natCast]
      simpa [List.append_assoc] using g5
    have e1 : ((k : Int) + 1).toNat = k + 1 := by omega
    refine b_X12_tellWord_26 (by omega) (by omega) (by rw [e1, hs3.2.1]; omega) (fun q => by rw [e1, hs3.2.1] at q; omega) (fun _ => ?_)
    refine b_X12_tellWord_38 (by omega) (by omega) (by rw [Int.toNat_natCast, hs3.1]; omega) (fun q => ?_) (fun q => ?_)
    · rw [Int.toNat_natCast, hs3.1] at q
      refine h54 σ3 ?_ f3
      rw [if_neg (by omega), List.append_nil]
      exact g3
    · rw [Int.toNat_natCast, hs3.1] at q
      obtain ⟨σ4, c4, g4, f4⟩ := s_X12_tell (t := t) (x := 44) g3 (by
        simp only [List.length_append, List.length_cons, List.length_nil]
        omega)
      refine b_X12_tellWord_48 (c4.up (by omega)) (h54 σ4 ?_ (f3.trans f4))
      rw [if_pos (by omega), ← List.append_assoc]
      exact g4
  · obtain ⟨σ3, rfl, g3, f3⟩ := hI
    have hs3 := (hX.pg f3).st hk
    have hlj := hlen (hB ch n k)
    have e1 : ((k : Int) + 1).toNat = k + 1 := by omega
    obtain ⟨σ4, c4, g4, f4⟩ := s_X12_tell (t := t) (x := 41) g3 (by
      simp only [List.length_append, List.length_cons, List.length_nil]
      omega)
    refine b_X12_tellWord_26 (by omega) (by omega) (by rw [e1, hs3.2.1]; omega) (fun _ => ?_) (fun q => by rw [e1, hs3.2.1] at q; omega)
    refine b_X12_tellWord_70 (c4.up (by omega)) (hQ _ ⟨σ4, rfl, ?_, f3.trans f4⟩)
    simpa [List.append_assoc] using g4
theorem m_report {t : KT} {σ : SG} {S : SS} {r : Int} (h : MS S σ) (hr : -2147483648 ≤ r ∧ r < 2147483648) : ∃ σ', Ca 7 334 [aR (some (40, 0, 0)), aI (iZ r)] (am_hp σ) t (.inl (some (aI (iZ (moI (A_report S r).1)))), am_hp σ', t) ∧ σ'.1 (40, 0, 0) 0 = moC (A_report S r).1 ∧ MS (A_report S r).2 σ' ∧ Fr inMo σ σ' := by
  have cr := s_X12_isRow (t := t) h.1 hr
  refine ex_of (e_X12_report ?_)
  unfold A_report
  by_cases hR : isR (xA S) r
  · rw [if_pos hR]
    refine wq (fun Q hQ => ?_)
    have hn := isR_n hR
    have ho := (h.1.1.2.2.2.2 r.toNat hn.1).1
    have A1 := h.1.m (MF.ck (σ := σ) (z := 0))
    have cn := s_X12_nameOf (t := t) A1 hn.1
    obtain ⟨σ2, c2, w2, -, q2⟩ := s_X12_packsRow (t := t) A1 (h.2.1.m (MF.ck (σ := σ) (z := 0))) hn.1
    rw [hn.2] at c2 cn
    have w2n := w2.n
    have ok := okM q2
    have l60 := (h.1.len hn.1).2
    refine b_X12_report_0 (cr.up (by omega)) ((goes_t hR).up (by omega)) (by omega) (fun _ => ?_) (fun q => by omega)
    refine b_X12_report_14 (cn.up (by omega)) (c2.up (by omega)) ?_
    have p3 : ∀ j, j ≠ 47 → j ≠ 48 → (sI (sI σ2 (40, 0, 0) (up (σ2.1 (40, 0, 0)) 47 0)) (40, 0, 0) (up ((sI σ2 (40, 0, 0) (up (σ2.1 (40, 0, 0)) 47 0)).1 (40, 0, 0)) 48 1)).1 (40, 0, 0) j = σ2.1 (40, 0, 0) j := fun j h1 h2 => by rw [sI_1, if_pos rfl, up_at, if_neg h2, sI_1, if_pos rfl, up_at, if_neg h1]
    have e48 : (sI (sI σ2 (40, 0, 0) (up (σ2.1 (40, 0, 0)) 47 0)) (40, 0, 0) (up ((sI σ2 (40, 0, 0) (up (σ2.1 (40, 0, 0)) 47 0)).1 (40, 0, 0)) 48 1)).1 (40, 0, 0) 48 = 1 := by rw [sI_1, if_pos rfl, up_at, if_pos rfl]
    have e47 : (sI (sI σ2 (40, 0, 0) (up (σ2.1 (40, 0, 0)) 47 0)) (40, 0, 0) (up ((sI σ2 (40, 0, 0) (up (σ2.1 (40, 0, 0)) 47 0)).1 (40, 0, 0)) 48 1)).1 (40, 0, 0) 47 = 0 := by simp [sI_1, up_at]
    have fτ : Fr (fun L : Lc => L.1 = 40) σ2 (sI (sI σ2 (40, 0, 0) (up (σ2.1 (40, 0, 0)) 47 0)) (40, 0, 0) (up ((sI σ2 (40, 0, 0) (up (σ2.1 (40, 0, 0)) 47 0)).1 (40, 0, 0)) 48 1)) := (Fr.sI (P := fun L : Lc => L.1 = 40) rfl).trans (Fr.sI (P := fun L : Lc => L.1 = 40) rfl)
    generalize (sI (sI σ2 (40, 0, 0) (up (σ2.1 (40, 0, 0)) 47 0)) (40, 0, 0) (up ((sI σ2 (40, 0, 0) (up (σ2.1 (40, 0, 0)) 47 0)).1 (40, 0, 0)) 48 1)) = τ at p3 e48 e47 fτ ⊢
    have wτ : WD (chA (xA S) r.toNat) (rNu (xA S) r.toNat) (rLn (xA S) r.toNat) τ := by
      obtain ⟨⟨a1, a2, a3⟩, ⟨b1, b2, b3⟩, cc, dd⟩ := w2
      have o : ∀ a : Nat, a ≠ 40 → τ.1 (a, 0, 0) = σ2.1 (a, 0, 0) := fun a ha => (fτ.1 (a, 0, 0) ha).1
      exact ⟨⟨(p3 34 (by omega) (by omega)).trans a1, by rw [o 51 (by omega)]; exact a2, by rw [o 52 (by omega)]; exact a3⟩, ⟨(p3 33 (by omega) (by omega)).trans b1, b2, by rw [o 48 (by omega), o 49 (by omega)]; exact b3⟩, cc, dd.fr fτ (by decide) (by decide)⟩
    have r0 : RM [] τ := ⟨by simp, e47, fun j hj => by simp at hj⟩
    have hnl := nmR_len (rNm (xA S) r.toNat)
    have ho8 := ho.2.1
    refine w_loopS (rNm (xA S) r.toNat).length (fun i c => ∃ σ3, c = (40, [some (aR (some (40, 0, 0))), some (aI (iZ r)), some (aL (jZ (mN (rNm (xA S) r.toNat) : Int))), none, some (aI (iZ (((nW (chA (xA S) r.toNat) (rLn (xA S) r.toNat)) : Int)))), some (aI (iZ ((i : Int))))], [], am_hp σ3, t) ∧ RM (nmR (rNm (xA S) r.toNat) i) σ3 ∧ PG τ σ3) ⟨τ, rfl, r0, PG.refl _⟩ (fun i c hi hI go => ?_) (fun c hI => ?_)
    · obtain ⟨σ3, rfl, g3, f3⟩ := hI
      have cl := s_X12_letterOf (t := t) (σ := σ3) (l := rNm (xA S) r.toNat) (i := (i : Int)) ho.2.2 ho8 (by omega)
      have hlt : ltA (rNm (xA S) r.toNat) (i : Int) = ((rNm (xA S) r.toNat).getD i 0 : Int) := by
        unfold ltA
        rw [if_pos (by omega), Int.toNat_natCast]
      rw [hlt] at cl
      have hli := hnl i
      obtain ⟨σ4, c4, g4, f4⟩ := s_X12_tell (t := t) (x := 96 + ((rNm (xA S) r.toNat).getD i 0 : Int)) g3 (by omega)
      refine b_X12_report_40 ((s_X12_lettersOf ho.2.2 ho8).up (by omega)) (by omega) (by omega) (fun q => by omega) (fun _ => b_X12_report_49 (cl.up (by omega)) (c4.up (by omega)) (go _ ⟨σ4, rfl, g4, f3.trans f4⟩))
    · obtain ⟨σ3, rfl, g3, f3⟩ := hI
      have hli := hnl (rNm (xA S) r.toNat).length
      obtain ⟨σ4, c4, g4, f4⟩ := s_X12_tell (t := t) (x := 58) g3 (by omega)
      refine b_X12_report_40 ((s_X12_lettersOf ho.2.2 ho8).up (by omega)) (by omega) (by omega) (fun _ => b_X12_report_68 (c4.up (by omega)) ?_) (fun q => by omega)
      refine w_loopS ((nW (chA (xA S) r.toNat) (rLn (xA S) r.toNat))) (fun k c => ∃ σ5, c = (77, [some (aR (some (40, 0, 0))), some (aI (iZ r)), some (aL (jZ (mN (rNm (xA S) r.toNat) : Int))), none, some (aI (iZ (((nW (chA (xA S) r.toNat) (rLn (xA S) r.toNat)) : Int)))), some (aI (iZ ((k : Int))))], [], am_hp σ5, t) ∧ RM (nmR (rNm (xA S) r.toNat) (rNm (xA S) r.toNat).length ++ [58] ++ wdR (chA (xA S) r.toNat) (rNu (xA S) r.toNat) (rLn (xA S) r.toNat) k) σ5 ∧ PG τ σ5) ⟨σ4, rfl, by simpa [wdR] using g4, f3.trans f4⟩ (fun k c hk hI go => ?_) (fun c hI => ?_)
      · obtain ⟨σ5, rfl, g5, f5⟩ := hI
        have hw := wdR_len (ch := chA (xA S) r.toNat) (f := rNu (xA S) r.toNat) (n := rLn (xA S) r.toNat) k (by omega)
        have hs := sT_suc (ch := chA (xA S) r.toNat) (n := rLn (xA S) r.toNat) (k := k)
        have hsn : sT (chA (xA S) r.toNat) (rLn (xA S) r.toNat) (k + 1) ≤ rLn (xA S) r.toNat := by unfold sT; omega
        obtain ⟨σ6, c6, g6, f6⟩ := s_X12_tellWord (t := t) (k := k) g5 (wτ.pg f5) hk (by
          simp only [List.length_append, List.length_cons, List.length_nil]
          omega)
        refine b_X12_report_77 (by omega) (by omega) (fun q => by omega) (fun _ => b_X12_report_84 (c6.up (by omega)) (go _ ⟨σ6, rfl, ?_, f5.trans f6⟩))
        rw [wdR, ← List.append_assoc]
        exact g6
      · obtain ⟨σ5, rfl, g5, f5⟩ := hI
        have hw := wdR_len (ch := chA (xA S) r.toNat) (f := rNu (xA S) r.toNat) (n := rLn (xA S) r.toNat) ((nW (chA (xA S) r.toNat) (rLn (xA S) r.toNat))) (Nat.le_refl _)
        have hs : sT (chA (xA S) r.toNat) (rLn (xA S) r.toNat) ((nW (chA (xA S) r.toNat) (rLn (xA S) r.toNat))) ≤ rLn (xA S) r.toNat := by unfold sT; omega
        obtain ⟨σ6, c6, g6, f6⟩ := s_X12_tell (t := t) (x := 10) g5 (by
          simp only [List.length_append, List.length_cons, List.length_nil]
          omega)
        have F := f5.trans f6
        have mPg : ∀ L, inPg L → (inQ L ∨ L.1 = 62) := fun L q => by
          rcases q with q | q
          · subst q; exact Or.inl (Or.inl rfl)
          · subst q; exact Or.inr rfl
        have FF : Fr (fun L => inQ L ∨ L.1 = 62) σ σ6 := ((ok.2.1.mono (fun L q => Or.inl q)).trans (fτ.mono (fun L q => Or.inl (Or.inl q)))).trans (F.1.mono mPg)
        refine b_X12_report_77 (by omega) (by omega) (fun _ => b_X12_report_96 (c6.up (by omega)) (hQ _ ⟨σ6, ?_, ?_, ?_, FF.mono (fun L q => by unfold inQ at q; unfold inMo; omega)⟩)) (fun q => by omega)
        · rw [g6.2.1]
          rfl
        · rw [F.2 0 (by omega), p3 0 (by omega) (by omega), ok.1]
          rfl
        · refine h.rp FF (fun j h0 h1 h2 h3 h4 => ?_) ⟨g6.1, g6.2.1, Or.inr ?_, fun _ => ?_, g6.2.2⟩
          · rw [F.2 j h3, p3 j h3 h4, ok.2.2.1 j h0 h1 h2]
          · rw [F.2 48 (by omega), e48]
          · rw [F.2 48 (by omega), e48]
  · rw [if_neg hR]
    exact b_X12_report_0 (cr.up (by omega)) ((goes_f hR).up (by omega)) (by omega) (fun q => absurd rfl q) (fun _ => b_X12_report_12 ⟨_, rfl, (noM 1).1, h.m (noM 1).2, (noM 1).2.mo⟩)
