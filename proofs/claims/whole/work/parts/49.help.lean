/-! SPECIFICATIONS: checks, sums over rows and entries -/
set_option maxRecDepth 4000
theorem nat_rg {n : Nat} (h : n < 2147483648) : -2147483648 ≤ (n : Int) ∧ (n : Int) < 2147483648 := by omega
theorem zdiv_nat {a b : Nat} (ha : a < 2147483648) (hb : 0 < b ∧ b < 2147483648) : iZ (a : Int) / iZ (b : Int) = iZ ((a / b : Nat) : Int) := by
  apply Int32.toInt_inj.mp
  have hle : a / b ≤ a := Nat.div_le_self _ _
  rw [Int32.toInt_div_of_ne_right _ _ (by
    intro h
    have := congrArg Int32.toInt h
    rw [iZ_get (by omega)] at this
    have e : (-1 : Int32).toInt = -1 := by decide
    rw [e] at this
    omega), iZ_get (by omega), iZ_get (by omega), iZ_get (nat_rg (Nat.lt_of_le_of_lt hle ha)), Int.tdiv_eq_ediv_of_nonneg (by omega)]
  norm_cast
theorem zdiv_n {a b : Nat} (ha : a < 2147483648) (hb : 0 < b ∧ b < 2147483648) : zdiv (a : Int) (b : Int) = ((a / b : Nat) : Int) := by
  have hle : a / b ≤ a := Nat.div_le_self _ _
  unfold zdiv
  rw [zdiv_nat ha hb, iZ_get (nat_rg (Nat.lt_of_le_of_lt hle ha))]
theorem zrem_n {a b : Nat} (ha : a < 2147483648) (hb : 0 < b ∧ b < 2147483648) : zrem (a : Int) (b : Int) = ((a % b : Nat) : Int) := by
  have hle : a % b ≤ a := Nat.mod_le _ _
  have h := Nat.div_add_mod a b
  unfold zrem
  rw [zdiv_nat ha hb, iZ_mul, iZ_sub, show (a : Int) - ((a / b : Nat) : Int) * (b : Int) = ((a % b : Nat) : Int) by
    have h2 : (b : Int) * ((a / b : Nat) : Int) + ((a % b : Nat) : Int) = (a : Int) := by exact_mod_cast h
    rw [Int.mul_comm] at h2
    omega, iZ_get (by omega)]
theorem en_lt {sk n e : Nat} (hs : 1 ≤ sk) : e < enN sk n ↔ e * sk < n := by
  have h := Nat.le_div_iff_mul_le (x := e + 1) (y := n + sk - 1) (k := sk) hs
  rw [Nat.add_mul, Nat.one_mul] at h
  show e < (n + sk - 1) / sk ↔ _
  omega
theorem en_le {sk n : Nat} (hs : 1 ≤ sk) : enN sk n ≤ n := by
  apply Decidable.byContradiction
  intro h
  have h1 := (en_lt (sk := sk) (n := n) (e := n) hs).mp (by omega)
  have : n * 1 ≤ n * sk := Nat.mul_le_mul_left _ hs
  omega
theorem s_X11_checkRow {t : KT} {σ : SG} {A : RA} {x : Int} (hW : CW A σ) (h : isR A x) : Ca 2 138 [aR (some (1, 0, 0)), aI (iZ x)] (am_hp σ) t (.inl none, am_hp σ, t) := by
  have h4 := hW.1.1
  have e4 := hW.2.1.1
  have hc := s_X7_has (d := 0) (t := t) (σ := σ) (p := 0) (x := x) (by omega) (by omega)
  refine ca_of (e_X11_checkRow ?_)
  exact b_X11_checkRow_0 (hc.up (by omega)) bz_rg (fun _ => b_X11_checkRow_19 rfl) (fun h => absurd (bz_0.mp h) (by omega))
theorem t_X11_checkRow {t : KT} {σ : SG} {A : RA} {x : Int} (hW : CW A σ) (hx : -2147483648 ≤ x ∧ x < 2147483648) (h : ¬ isR A x) : Ca 2 138 [aR (some (1, 0, 0)), aI (iZ x)] (am_hp σ) t (.inr 2, am_hp σ, (t.1, t.2.1 + 1, t.2.2 + 6)) := by
  have h4 := hW.1.1
  have e4 := hW.2.1.1
  have hc := s_X7_has (d := 0) (t := t) (σ := σ) (p := 0) (x := x) (by omega) (by omega)
  refine ca_of (e_X11_checkRow ?_)
  exact b_X11_checkRow_0 (hc.up (by omega)) bz_rg (fun h => absurd (bz_n.mp h) (by omega)) (fun _ => b_X11_checkRow_11 rfl)
theorem CW.len {A : RA} {σ : SG} {x : Int} (hW : CW A σ) (h : isR A x) : σ.1 (10, 0, 0) x.toNat = rLn A x.toNat ∧ rLn A x.toNat ≤ 60 ∧ x.toNat < rN A ∧ rN A ≤ 4 ∧ ((x.toNat : Nat) : Int) = x := ⟨(hW.2.1.2.2.2.2 x.toNat (by omega)).2.1, hW.1.l (by omega), by omega, hW.1.1, by omega⟩
theorem s_X11_checkNumber {t : KT} {σ : SG} {A : RA} {x i : Int} (hW : CW A σ) (h : isN A x i) : Ca 3 139 [aR (some (1, 0, 0)), aI (iZ x), aI (iZ i)] (am_hp σ) t (.inl none, am_hp σ, t) := by
  have hl := hW.len h.1
  refine ca_of (e_X11_checkNumber ?_)
  refine b_X11_checkNumber_0 ((s_X11_checkRow hW h.1).up (by omega)) (by omega) (fun h => by omega) (fun _ => ?_)
  exact b_X11_checkNumber_9 (by omega) (by omega) (by omega) (fun _ => b_X11_checkNumber_30 rfl) (fun h => by omega)
theorem t_X11_checkNumber {t : KT} {σ : SG} {A : RA} {x i : Int} (hW : CW A σ) (hx : -2147483648 ≤ x ∧ x < 2147483648) (hi : -2147483648 ≤ i ∧ i < 2147483648) (h : ¬ isN A x i) : Ca 3 139 [aR (some (1, 0, 0)), aI (iZ x), aI (iZ i)] (am_hp σ) t (.inr 2, am_hp σ, (t.1, t.2.1 + 1, t.2.2 + 6)) := by
  refine ca_of (e_X11_checkNumber ?_)
  by_cases hr : isR A x
  · have hl := hW.len hr
    refine b_X11_checkNumber_0 ((s_X11_checkRow hW hr).up (by omega)) (by omega) (fun h => b_X11_checkNumber_22 rfl) (fun _ => ?_)
    exact b_X11_checkNumber_9 (by omega) (by omega) (by omega) (fun h => by omega) (fun _ => b_X11_checkNumber_22 rfl)
  · exact bx_X11_checkNumber_0_1 ((t_X11_checkRow hW hx hr).up (by omega)) rfl
theorem CW.px {A : RA} {σ : SG} {x : Int} (hW : CW A σ) (h : isR A x) : PX (chA A x.toNat) (rNu A x.toNat) (rLn A x.toNat) x.toNat σ := hW.2.2 _ (by omega)
theorem CW.nw {A : RA} {σ : SG} {x : Int} (hW : CW A σ) (h : isR A x) : σ.1 (28, x.toNat, 0) 2 = (nW (chA A x.toNat) (rLn A x.toNat)) ∧ (nW (chA A x.toNat) (rLn A x.toNat)) ≤ 60 := ⟨(hW.px h).1.1, Nat.le_trans (nW_le _ _) (hW.px h).2.1⟩
theorem s_X11_checkWord {t : KT} {σ : SG} {A : RA} {x k : Int} (hW : CW A σ) (h : isW A x k) : Ca 3 140 [aR (some (1, 0, 0)), aI (iZ x), aI (iZ k)] (am_hp σ) t (.inl none, am_hp σ, t) := by
  have hl := hW.len h.1
  have hn := hW.nw h.1
  refine ca_of (e_X11_checkWord ?_)
  refine b_X11_checkWord_0 ((s_X11_checkRow hW h.1).up (by omega)) (by omega) (fun h => by omega) (fun _ => ?_)
  exact b_X11_checkWord_9 (by omega) (by omega) (by omega) (fun _ => b_X11_checkWord_30 rfl) (fun h => by omega)
theorem t_X11_checkWord {t : KT} {σ : SG} {A : RA} {x k : Int} (hW : CW A σ) (hx : -2147483648 ≤ x ∧ x < 2147483648) (hi : -2147483648 ≤ k ∧ k < 2147483648) (h : ¬ isW A x k) : Ca 3 140 [aR (some (1, 0, 0)), aI (iZ x), aI (iZ k)] (am_hp σ) t (.inr 2, am_hp σ, (t.1, t.2.1 + 1, t.2.2 + 6)) := by
  refine ca_of (e_X11_checkWord ?_)
  by_cases hr : isR A x
  · have hl := hW.len hr
    have hn := hW.nw hr
    refine b_X11_checkWord_0 ((s_X11_checkRow hW hr).up (by omega)) (by omega) (fun h => b_X11_checkWord_22 rfl) (fun _ => ?_)
    exact b_X11_checkWord_9 (by omega) (by omega) (by omega) (fun h => by omega) (fun _ => b_X11_checkWord_22 rfl)
  · exact bx_X11_checkWord_0_1 ((t_X11_checkRow hW hx hr).up (by omega)) rfl
theorem s_X11_checkWay {t : KT} {σ : SG} {w : Int} (h : 0 ≤ w ∧ w < 9) : Ca 1 141 [aI (iZ w)] (am_hp σ) t (.inl none, am_hp σ, t) := by
  refine ca_of (e_X11_checkWay ?_)
  refine b_X11_checkWay_0 (by omega) (fun h => by omega) (fun _ => ?_)
  exact b_X11_checkWay_4 (by omega) (fun _ => b_X11_checkWay_18 rfl) (fun h => by omega)
theorem t_X11_checkWay {t : KT} {σ : SG} {w : Int} (hw : -2147483648 ≤ w ∧ w < 2147483648) (h : ¬ (0 ≤ w ∧ w < 9)) : Ca 1 141 [aI (iZ w)] (am_hp σ) t (.inr 2, am_hp σ, (t.1, t.2.1 + 1, t.2.2 + 6)) := by
  refine ca_of (e_X11_checkWay ?_)
  refine b_X11_checkWay_0 (by omega) (fun _ => b_X11_checkWay_10 rfl) (fun _ => ?_)
  exact b_X11_checkWay_4 (by omega) (fun h => by omega) (fun _ => b_X11_checkWay_10 rfl)
theorem s_X11_checkArgument {t : KT} {σ : SG} {v a b : Int} (hv : -2147483648 ≤ v ∧ v < 2147483648) (ha : -2147483648 ≤ a ∧ a < 2147483648) (hb : -2147483648 ≤ b ∧ b < 2147483648) (h : a ≤ v ∧ v ≤ b) : Ca 1 142 [aI (iZ v), aI (iZ a), aI (iZ b)] (am_hp σ) t (.inl none, am_hp σ, t) := by
  refine ca_of (e_X11_checkArgument ?_)
  refine b_X11_checkArgument_0 hv ha (fun h => by omega) (fun _ => ?_)
  exact b_X11_checkArgument_5 hv hb (fun _ => b_X11_checkArgument_18 rfl) (fun h => by omega)
theorem t_X11_checkArgument {t : KT} {σ : SG} {v a b : Int} (hv : -2147483648 ≤ v ∧ v < 2147483648) (ha : -2147483648 ≤ a ∧ a < 2147483648) (hb : -2147483648 ≤ b ∧ b < 2147483648) (h : ¬ (a ≤ v ∧ v ≤ b)) : Ca 1 142 [aI (iZ v), aI (iZ a), aI (iZ b)] (am_hp σ) t (.inr 1, am_hp σ, (t.1, t.2.1 + 1, t.2.2 + 6)) := by
  refine ca_of (e_X11_checkArgument ?_)
  refine b_X11_checkArgument_0 hv ha (fun _ => b_X11_checkArgument_10 rfl) (fun _ => ?_)
  exact b_X11_checkArgument_5 hv hb (fun h => by omega) (fun _ => b_X11_checkArgument_10 rfl)
theorem s_X7_allNum {t : KT} {σ : SG} {A : RA} {p : Nat} (hA : Av A) (hR : Rep A σ p) : Ca 1 47 [aR (some (8, p, 0))] (am_hp σ) t (.inl (some (aI (iZ (smU (fun r => (rLn A r : Int)) (rN A))))), am_hp σ, t) := by
  have h4 := hA.1
  have e4 := hR.1
  have h := s_X7_allNumbers (d := 0) (t := t) (σ := σ) (p := p) (by omega)
  rw [e4, Int.toNat_natCast, smF_smU, smU_congr (g' := fun r => (rLn A r : Int)) _ (fun k hk => (hR.2.2.2.2 k hk).2.1)] at h
  exact h
theorem s_X11_allWords {t : KT} {σ : SG} {A : RA} (hW : CW A σ) : Ca 1 152 [aR (some (1, 0, 0))] (am_hp σ) t (.inl (some (aI (iZ (smU (fun r => ((nW (chA A r) (rLn A r)) : Int)) (rN A))))), am_hp σ, t) := by
  have h4 := hW.1.1
  have e4 := hW.2.1.1
  refine ca_of (e_X11_allWords ?_)
  refine b_X11_allWords_0 ?_
  refine w_loopU (rN A) (fun i => (4, [some (aR (some (1, 0, 0))), some (aI (iZ (smU (fun r => ((nW (chA A r) (rLn A r)) : Int)) i))), some (aI (iZ ((i : Int))))], [], am_hp σ, t)) rfl (fun i hi w => ?_) ?_
  · refine b_X11_allWords_4 (by omega) (by omega) (fun h => by omega) (fun _ => ?_)
    refine b_X11_allWords_15 (by omega) ?_
    rw [Int.toNat_natCast, (hW.2.2 i hi).1.1]
    exact w
  · exact b_X11_allWords_4 (by omega) (by omega) (fun _ => b_X11_allWords_33 rfl) (fun h => by omega)
theorem s_X11_allPrices {t : KT} {σ : SG} {A : RA} (hW : CW A σ) : Ca 3 153 [aR (some (1, 0, 0))] (am_hp σ) t (.inl (some (aI (iZ (smU (prA A) (rN A))))), am_hp σ, t) := by
  have h4 := hW.1.1
  have e4 := hW.2.1.1
  refine ca_of (e_X11_allPrices ?_)
  refine b_X11_allPrices_0 ?_
  refine w_loopU (rN A) (fun i => (4, [some (aR (some (1, 0, 0))), some (aI (iZ (smU (prA A) i))), some (aI (iZ ((i : Int))))], [], am_hp σ, t)) rfl (fun i hi w => ?_) ?_
  · refine b_X11_allPrices_4 (by omega) (by omega) (fun h => by omega) (fun _ => ?_)
    exact b_X11_allPrices_15 (by omega) ((s_X4_sumPrices (hW.2.2 i hi) hW.2.1.2.2.2.1).up (by omega)) w
  · exact b_X11_allPrices_4 (by omega) (by omega) (fun _ => b_X11_allPrices_40 rfl) (fun h => by omega)
theorem s_X11_allWordsOf {t : KT} {σ : SG} {A : RA} {y : Nat} (hW : CW A σ) (hy : y < 9) : Ca 3 154 [aR (some (1, 0, 0)), aI (iZ ((y : Int)))] (am_hp σ) t (.inl (some (aI (iZ (smU (fun r => smU (fun k => bz ((chA A r (stU (chA A r) k)) = y)) ((nW (chA A r) (rLn A r)))) (rN A))))), am_hp σ, t) := by
  have h4 := hW.1.1
  have e4 := hW.2.1.1
  refine ca_of (e_X11_allWordsOf ?_)
  refine b_X11_allWordsOf_0 ?_
  refine w_loopU (rN A) (fun i => (4, [some (aR (some (1, 0, 0))), some (aI (iZ ((y : Int)))), some (aI (iZ (smU (fun r => smU (fun k => bz ((chA A r (stU (chA A r) k)) = y)) ((nW (chA A r) (rLn A r)))) i))), some (aI (iZ ((i : Int))))], [], am_hp σ, t)) rfl (fun i hi w => ?_) ?_
  · refine b_X11_allWordsOf_4 (by omega) (by omega) (fun h => by omega) (fun _ => ?_)
    exact b_X11_allWordsOf_15 (by omega) ((s_X4_wordsOf (hW.2.2 i hi) hy).up (by omega)) w
  · exact b_X11_allWordsOf_4 (by omega) (by omega) (fun _ => b_X11_allWordsOf_34 rfl) (fun h => by omega)
theorem s_X11_entriesOf {t : KT} {σ : SG} {A : RA} {p : Nat} (hW : CW A σ) (hp : p < rN A) : Ca 1 155 [aR (some (1, 0, 0)), aR (some (28, p, 0))] (am_hp σ) t (.inl (some (aI (iZ ((enN (rSk A) ((nW (chA A p) (rLn A p))) : Int))))), am_hp σ, t) := by
  have hX := hW.2.2 p hp
  have hn := Nat.le_trans (nW_le (chA A p) (rLn A p)) hX.2.1
  have e2 := hX.1.1
  have e6 := hW.2.1.2.2.1
  have hs := hW.1.2.2.1
  have hle := en_le (sk := rSk A) (n := (nW (chA A p) (rLn A p))) hs.1
  refine ca_of (e_X11_entriesOf ?_)
  refine b_X11_entriesOf_0 ?_
  have hmul : ∀ e : Nat, (e : Int) * σ.1 (8, 0, 0) 6 = ((e * rSk A : Nat) : Int) := fun e => by rw [e6]; norm_cast
  have hb : ∀ e : Nat, e ≤ 60 → e * rSk A ≤ 60 * 9 := fun e he => Nat.mul_le_mul he hs.2
  refine w_loopU (enN (rSk A) ((nW (chA A p) (rLn A p)))) (fun e => (2, [some (aR (some (1, 0, 0))), some (aR (some (28, p, 0))), some (aI (iZ ((e : Int))))], [], am_hp σ, t)) rfl (fun e he w => ?_) ?_
  · have h1 := (en_lt (n := (nW (chA A p) (rLn A p))) hs.1).mp he
    have h2 := hb e (by omega)
    refine b_X11_entriesOf_2 (by omega) (by omega) (fun h => by omega) (fun _ => ?_)
    refine b_X11_entriesOf_10 (by rw [hmul]; omega) (by omega) (fun h => by rw [hmul] at h; omega) (fun _ => ?_)
    exact b_X11_entriesOf_26 w
  · have h1 := (en_lt (n := (nW (chA A p) (rLn A p))) (e := enN (rSk A) ((nW (chA A p) (rLn A p)))) hs.1)
    have h2 := hb (enN (rSk A) ((nW (chA A p) (rLn A p)))) (by omega)
    refine b_X11_entriesOf_2 (by omega) (by omega) (fun _ => b_X11_entriesOf_32 rfl) (fun _ => ?_)
    refine b_X11_entriesOf_10 (by rw [hmul]; omega) (by omega) (fun _ => b_X11_entriesOf_32 rfl) (fun h => by rw [hmul] at h; omega)
theorem s_X11_hasEntry {t : KT} {σ : SG} {A : RA} {r e : Int} (hW : CW A σ) (hr : isR A r) (he : -2147483648 ≤ e ∧ e < 2147483648) : Ca 2 156 [aR (some (1, 0, 0)), aI (iZ r), aI (iZ e)] (am_hp σ) t (.inl (some (aI (iZ (bz (0 ≤ e ∧ e < enN (rSk A) ((nW (chA A r.toNat) (rLn A r.toNat)))))))), am_hp σ, t) := by
  have hl := hW.len hr
  have hn := hW.nw hr
  have hle := en_le (sk := rSk A) (n := (nW (chA A r.toNat) (rLn A r.toNat))) hW.1.2.2.1.1
  refine ca_of (e_X11_hasEntry ?_)
  refine b_X11_hasEntry_0 he (fun h => ?_) (fun h => ?_)
  · refine b_X11_hasEntry_22 (b_X11_hasEntry_23 (by omega) ?_)
    rw [bz_f (by omega)]
  · refine b_X11_hasEntry_4 (by omega) ((s_X11_entriesOf hW hl.2.2.1).up (by omega)) he (by omega) (fun h => ?_) (fun h => ?_)
    · refine b_X11_hasEntry_22 (b_X11_hasEntry_23 (by omega) ?_)
      rw [bz_f (by omega)]
    · refine b_X11_hasEntry_18 (b_X11_hasEntry_23 (by omega) ?_)
      rw [bz_t (by omega)]
theorem s_X11_wordsBehindEntry {t : KT} {σ : SG} {w sk : Nat} (hw : w < 2147483648) (hs : 1 ≤ sk ∧ sk < 2147483648) : Ca 1 157 [aI (iZ ((w : Int))), aI (iZ ((sk : Int)))] (am_hp σ) t (.inl (some (aI (iZ (((w % sk : Nat) : Int))))), am_hp σ, t) := by
  refine ca_of (e_X11_wordsBehindEntry ?_)
  refine b_X11_wordsBehindEntry_0 (by omega) (fun _ => ?_) (fun h => by omega)
  refine b_X11_wordsBehindEntry_9 (by omega) (b_X11_wordsBehindEntry_12 ?_)
  rw [zrem_n hw (by omega)]
theorem s_X11_readsOf {t : KT} {σ : SG} {A : RA} {r i sk : Nat} (hW : CW A σ) (hr : r < rN A) (hi : i ≤ rLn A r) (hs : 1 ≤ sk ∧ sk ≤ 9) : Ca 2 158 [aR (some (1, 0, 0)), aI (iZ ((r : Int))), aI (iZ ((i : Int))), aI (iZ ((sk : Int)))] (am_hp σ) t (.inl (some (aI (iZ ((rdN (chA A r) (rLn A r) sk i : Int))))), am_hp σ, t) := by
  have h4 := hW.1.1
  have hX := hW.2.2 r hr
  have hn := Nat.le_trans (nW_le (chA A r) (rLn A r)) hX.2.1
  have hc : cLe (chA A r) (rLn A r) i ≤ nW (chA A r) (rLn A r) := cnU_le _ _
  refine ca_of (e_X11_readsOf ?_)
  exact b_X11_readsOf_0 (by omega) ((s_X4_wordAt hX hi).up (by omega)) ((s_X11_wordsBehindEntry (by omega) (by omega)).up (by omega)) rfl
theorem s_X11_readsOfAll {t : KT} {σ : SG} {A : RA} {r sk : Nat} (hW : CW A σ) (hr : r < rN A) (hs : 1 ≤ sk ∧ sk ≤ 9) : Ca 3 159 [aR (some (1, 0, 0)), aI (iZ ((r : Int))), aI (iZ ((sk : Int)))] (am_hp σ) t (.inl (some (aI (iZ (rsN A r sk)))), am_hp σ, t) := by
  have h4 := hW.1.1
  have hl := hW.1.l hr
  have e10 : σ.1 (10, 0, 0) (r : Int).toNat = rLn A r := (hW.2.1.2.2.2.2 r hr).2.1
  refine ca_of (e_X11_readsOfAll ?_)
  refine b_X11_readsOfAll_0 ?_
  refine w_loopU (rLn A r) (fun i => (5, [some (aR (some (1, 0, 0))), some (aI (iZ ((r : Int)))), some (aI (iZ ((sk : Int)))), some (aI (iZ (smU (fun i => (rdN (chA A r) (rLn A r) sk i : Int)) i))), some (aI (iZ ((i : Int))))], [], am_hp σ, t)) rfl (fun i hi w => ?_) ?_
  · refine b_X11_readsOfAll_5 (by omega) (by omega) (by omega) (fun h => by omega) (fun _ => ?_)
    exact b_X11_readsOfAll_19 ((s_X11_readsOf hW hr (by omega) hs).up (by omega)) w
  · exact b_X11_readsOfAll_5 (by omega) (by omega) (by omega) (fun _ => b_X11_readsOfAll_36 rfl) (fun h => by omega)
theorem s_X11_readsAhead {t : KT} {σ : SG} {A : RA} {r i : Nat} (hW : CW A σ) (hr : r < rN A) (hi : i ≤ rLn A r) : Ca 2 160 [aR (some (1, 0, 0)), aI (iZ ((r : Int))), aI (iZ ((i : Int)))] (am_hp σ) t (.inl (some (aI (iZ ((raN (chA A r) (rLn A r) (rSk A) i : Int))))), am_hp σ, t) := by
  have h4 := hW.1.1
  have hX := hW.2.2 r hr
  have hl := hX.2.1
  have e2 := hX.1.1
  have hn := Nat.le_trans (nW_le (chA A r) (rLn A r)) hX.2.1
  have hc : cLe (chA A r) (rLn A r) i ≤ nW (chA A r) (rLn A r) := cnU_le _ _
  have hc2 : cLt (chA A r) (rLn A r) i ≤ nW (chA A r) (rLn A r) := cnU_le _ _
  have e6 : σ.1 (8, 0, 0) 6 = rSk A := hW.2.1.2.2.1
  have hs := hW.1.2.2.1
  have hm : (cLe (chA A r) (rLn A r) i - 1) % rSk A ≤ cLe (chA A r) (rLn A r) i - 1 := Nat.mod_le _ _
  refine ca_of (e_X11_readsAhead ?_)
  refine b_X11_readsAhead_0 (r2 := (((cLe (chA A r) (rLn A r) i - 1) % rSk A : Nat) : Int)) (σ2 := σ) (by omega) ((s_X4_wordAt hX hi).up (by omega)) ?_ ?_
  · rw [e6]
    exact (s_X11_wordsBehindEntry (by omega) (by omega)).up (by omega)
  generalize hL : (cLe (chA A r) (rLn A r) i - 1) % rSk A = md at hm ⊢
  generalize hL0 : cLe (chA A r) (rLn A r) i - 1 = la at hm ⊢
  refine w_loop (cLt (chA A r) (rLn A r) i - (la - md)) (fun j => (34, [some (aR (some (1, 0, 0))), some (aI (iZ ((r : Int)))), some (aI (iZ ((i : Int)))), some (aR (some (28, r, 0))), some (aI (iZ ((la : Int)))), some (aI (iZ ((j : Int)))), some (aI (iZ (((la - md + j : Nat) : Int))))], [], am_hp σ, t)) (fun _ => True) ?_ trivial (fun j hj _ w => ?_) (fun _ => ?_)
  · rw [show ((la - md + 0 : Nat) : Int) = (la : Int) - (md : Int) by omega]
    rfl
  · have h1 := (cLt_seg (chA A r) (rLn A r) i (la - md + j)).mp (by omega)
    have hs1 := sT_in h1.1
    refine b_X11_readsAhead_34 (by omega) (by omega) (fun h => by omega) (fun _ => ?_)
    refine b_X11_readsAhead_43 ((s_X4_startOf hX (by omega)).up (by omega)) (by rw [hs1.1]; omega) (by omega) (fun h => by rw [hs1.1] at h; omega) (fun _ => ?_)
    exact b_X11_readsAhead_53 (w trivial)
  · have hfin : Wp k_X11_readsAhead 1 (62, [some (aR (some (1, 0, 0))), some (aI (iZ ((r : Int)))), some (aI (iZ ((i : Int)))), some (aR (some (28, r, 0))), some (aI (iZ ((la : Int)))), some (aI (iZ (((cLt (chA A r) (rLn A r) i - (la - md) : Nat) : Int)))), some (aI (iZ (((la - md + (cLt (chA A r) (rLn A r) i - (la - md)) : Nat) : Int))))], [], am_hp σ, t) (fun r' => r' = (.inl (some (aI (iZ ((raN (chA A r) (rLn A r) (rSk A) i : Int))))), am_hp σ, t)) := by
      refine b_X11_readsAhead_62 ?_
      rw [raN, hL, hL0]
    refine b_X11_readsAhead_34 (by omega) (by omega) (fun _ => hfin) (fun h => ?_)
    have hk : la - md + (cLt (chA A r) (rLn A r) i - (la - md)) < nW (chA A r) (rLn A r) := by omega
    have hs1 := sT_in hk
    have h2 := cLt_seg (chA A r) (rLn A r) i (la - md + (cLt (chA A r) (rLn A r) i - (la - md)))
    refine b_X11_readsAhead_43 ((s_X4_startOf hX (by omega)).up (by omega)) (by rw [hs1.1]; omega) (by omega) (fun _ => hfin) (fun h => by
      rw [hs1.1] at h
      have := h2.mpr ⟨hk, by omega⟩
      omega)
theorem s_X7_sum {t : KT} {σ : SG} {A : RA} {p r a b : Nat} (hA : Av A) (hR : Rep A σ p) (hr : r < rN A) (hab : a ≤ b) (hb : b ≤ rLn A r) : Ca 3 48 [aR (some (8, p, 0)), aI (iZ ((r : Int))), aI (iZ ((a : Int))), aI (iZ ((b : Int)))] (am_hp σ) t (.inl (some (aL (jZ (smF (rNu A r) a (b - a))))), am_hp σ, t) := by
  have h4 := hA.1
  have hl := hA.l hr
  have hv := hA.v hr
  have hRr := hR.2.2.2.2 r hr
  refine ca_of (e_X7_sumOf ?_)
  refine b_X7_sumOf_0 (by omega) ?_
  rw [show max (a : Int) 0 = (a : Int) by omega]
  refine w_loopU (b - a) (fun m => (10, [some (aR (some (8, p, 0))), some (aI (iZ ((r : Int)))), some (aI (iZ ((a : Int)))), some (aI (iZ ((b : Int)))), some (aL (jZ (smF (rNu A r) a m))), none, some (aI (iZ (((a + m : Nat) : Int))))], [], am_hp σ, t)) rfl (fun m hm w => ?_) ?_
  · refine b_X7_sumOf_10 (by omega) (by omega) (fun h => by omega) (fun _ => ?_)
    refine b_X7_sumOf_16 ((s_X7_lenOf (d := 0) hA hR hr).up (by omega)) (by omega) (by omega) (fun h => by omega) (fun _ => ?_)
    have e : σ.1 (12, p, (r : Int).toNat) ((a + m : Nat) : Int).toNat = rNu A r (a + m) := hRr.2.2 (a + m) (by omega)
    have hv1 := hv (a + m) (by omega)
    refine b_X7_sumOf_26 (by omega) (by omega) (by rw [e]; omega) ?_
    rw [e]
    have e2 : smF (rNu A r) a (m + 1) = smF (rNu A r) a m + rNu A r (a + m) := by
      rw [smF_add (rNu A r) m a 1]
      show _ + (_ + 0) = _
      rw [Int.add_zero]
    rw [e2] at w
    exact w
  · refine b_X7_sumOf_10 (by omega) (by omega) (fun _ => b_X7_sumOf_47 rfl) (fun h => by omega)
