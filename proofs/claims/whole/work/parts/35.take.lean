/-! SPECIFICATIONS: what can be taken -/
set_option maxRecDepth 4000
def runF (f : Nat → Int) (w : Nat) : Nat → Nat → Nat
  | 0, _ => 0
  | k + 1, i => if 0 ≤ f i ∧ f i < 2 ^ wid w then runF f w k (i + 1) + 1 else 0
theorem runF_le (f : Nat → Int) (w : Nat) : ∀ k i, runF f w k i ≤ k
  | 0, _ => Nat.le_refl _
  | k + 1, i => by
    have := runF_le f w k (i + 1)
    unfold runF
    split <;> omega
/-- way w can take the numbers from i on, as long as there are some -/
abbrev tk (f : Nat → Int) (n i w : Nat) : Prop := min (cnt w) (n - i) ≤ runF f w (n - i) i
def bset (P : Nat → Prop) [DecidablePred P] : Nat → Nat
  | 0 => 0
  | w + 1 => bset P w + if P w then 2 ^ w else 0
theorem bset_lt (P : Nat → Prop) [DecidablePred P] : ∀ w, bset P w < 2 ^ w
  | 0 => by simp [bset]
  | w + 1 => by
    have := bset_lt P w
    unfold bset
    rw [Nat.pow_succ]
    split <;> omega
theorem zor_bit : ∀ w : Nat, w < 9 → ∀ m : Nat, m < 2 ^ w → zor m (zshl 1 w) = m + 2 ^ w := by decide +kernel
theorem zand_bit : ∀ w : Nat, w < 9 → ∀ m : Nat, m < 512 → zand (zshr m w) 1 = (m / 2 ^ w % 2 : Nat) := by decide +kernel
/-- cells of 'takeable' and 'runs' -/
def inT (L : Lc) : Prop := L.1 = 20 ∨ L.1 = 24
theorem PL.fr {f : Nat → Int} {n : Nat} {σ σ' : SG} {P : Lc → Prop} (h : PL f n σ) (k : Fr P σ σ') (h18 : ¬ P (18, 0, 0)) (h19 : ¬ P (19, 0, 0)) : PL f n σ' := by
  unfold PL at h ⊢
  rw [(k.1 _ h18).1, (k.1 _ h19).1]
  exact h
theorem inT_1 {a b c : Nat} (h : (Nat.beq a 20 || Nat.beq a 24) = false) : ¬ inT (a, b, c) := by
  rw [Bool.or_eq_false_iff] at h
  rintro (e | e)
  · have e : a = 20 := e
    rw [e] at h; exact absurd h.1 (by decide)
  · have e : a = 24 := e
    rw [e] at h; exact absurd h.2 (by decide)
theorem l_X5_ft2 {d : Nat} {t : KT} {Q : RS → Prop} {f : Nat → Int} {n i : Nat} (hi : i < n) (hv : ∀ j, j < n → 0 ≤ f j ∧ f j < 268435456) : ∀ (k w : Nat) (σ : SG), w + k = 9 → PL f n σ →
    (∀ v, v < 9 → σ.1 (24, 0, 0) v = if v < w then (runF f v (n - i) i : Int) else (runF f v (n - i - 1) (i + 1) : Int)) → σ.1 (20, 0, 0) i = bset (tk f n i) w →
    (∀ σ', Fr inT σ σ' → (∀ v, v < 9 → σ'.1 (24, 0, 0) v = runF f v (n - i) i) → σ'.1 (20, 0, 0) i = bset (tk f n i) 9 → (∀ j, j ≠ i → σ'.1 (20, 0, 0) j = σ.1 (20, 0, 0) j) → Wp k_X5_findTakeable (d + 2) (118, [some (aR (some (18, 0, 0))), some (aI (iZ (i : Int))), some (aI (iZ ((9 : Nat) : Int)))], [], am_hp σ', t) Q) →
    Wp k_X5_findTakeable (d + 2) (41, [some (aR (some (18, 0, 0))), some (aI (iZ (i : Int))), some (aI (iZ (w : Int)))], [], am_hp σ, t) Q
  | 0, w, σ, hk, hP, hr, ht, q => by
    have e : w = 9 := by omega
    subst e
    have hp2 := hP.2.1
    refine b_X5_findTakeable_41 (by omega) (fun _ => ?_) (fun h => by omega)
    exact q σ (Fr.refl _ _) (fun v hv => by rw [hr v hv, if_pos hv]) ht (fun _ _ => rfl)
  | k + 1, w, σ, hk, hP, hr, ht, q => by
    have hw : w < 9 := by omega
    have hp2 := hP.2.1
    have e19 : σ.1 (19, 0, 0) (i : Int).toNat = f i := hP.2.2 i hi
    have e24 : σ.1 (24, 0, 0) (w : Int).toNat = runF f w (n - i - 1) (i + 1) := by
      have := hr w hw
      rw [if_neg (Nat.lt_irrefl w)] at this
      exact this
    have hrl := runF_le f w (n - i - 1) (i + 1)
    have hrl2 := runF_le f w (n - i) i
    have hst : runF f w (n - i) i = if 0 ≤ f i ∧ f i < 2 ^ wid w then runF f w (n - i - 1) (i + 1) + 1 else 0 := by
      rw [show n - i = (n - i - 1) + 1 by omega, runF]
      simp
    have hfi := hv i hi
    have hcb := cnt_bd w hw
    have h77 : Wp k_X5_findTakeable (d + 2) (77, [some (aR (some (18, 0, 0))), some (aI (iZ (i : Int))), some (aI (iZ (w : Int)))], [aI (iZ (runF f w (n - i) i : Int)), aI (iZ (w : Int)), aR (some (24, 0, 0))], am_hp σ, t) Q := by
      have fa : Fr inT σ (sI σ (24, 0, 0) (up (σ.1 (24, 0, 0)) (w : Int).toNat (runF f w (n - i) i : Int))) := Fr.sI (Or.inr rfl)
      have ea : (sI σ (24, 0, 0) (up (σ.1 (24, 0, 0)) (w : Int).toNat (runF f w (n - i) i : Int))).1 (24, 0, 0) (w : Int).toNat = runF f w (n - i) i := by simp [sI_1, up_at]
      have e20 : (sI σ (24, 0, 0) (up (σ.1 (24, 0, 0)) (w : Int).toNat (runF f w (n - i) i : Int))).1 (20, 0, 0) = σ.1 (20, 0, 0) := by simp [sI_1]
      have e24a : ∀ v, v < 9 → (sI σ (24, 0, 0) (up (σ.1 (24, 0, 0)) (w : Int).toNat (runF f w (n - i) i : Int))).1 (24, 0, 0) v = if v < w + 1 then (runF f v (n - i) i : Int) else (runF f v (n - i - 1) (i + 1) : Int) := by
        intro v hv9
        by_cases e : v = w
        · subst e; simp [sI_1, up_at]
        · have := hr v hv9
          simp only [sI_1, if_true, up_at, Int.toNat_natCast, e, if_false, this]
          by_cases e2 : v < w
          · rw [if_pos e2, if_pos (by omega)]
          · rw [if_neg e2, if_neg (by omega)]
      generalize hσa : sI σ (24, 0, 0) (up (σ.1 (24, 0, 0)) (w : Int).toNat (runF f w (n - i) i : Int)) = σa at fa ea e20 e24a
      have hPa := hP.fr fa (inT_1 rfl) (inT_1 rfl)
      have e6 := hPa.1
      have hmin : min (cnt w : Int) ((n : Int) - i) = ((min (cnt w) (n - i) : Nat) : Int) := by omega
      refine b_X5_findTakeable_77 (σ1 := σa) (by omega) (by omega) (by rw [hσa]; exact (s_X11_countOf (d := d + 1) hw)) (by omega) (by rw [e6]; omega) (by rw [hσa, ea]; omega) (by rw [e6]; omega) (fun h => ?_) (fun h => ?_)
      · rw [hσa, ea, e6, hmin] at h
        have hn : ¬ tk f n i w := by unfold tk; omega
        refine b_X5_findTakeable_112 ?_
        refine l_X5_ft2 hi hv k (w + 1) σa (by omega) hPa e24a ?_ (fun σ' f1 f2 f3 f4 => ?_)
        · rw [e20, ht, bset, if_neg hn, Nat.add_zero]
        · exact q σ' (fa.trans f1) f2 f3 (fun j hj => by rw [f4 j hj, e20])
      · rw [hσa, ea, e6, hmin] at h
        have hn : tk f n i w := by unfold tk; omega
        refine b_X5_findTakeable_100 (by omega) ?_
        have hb := zor_bit w hw (bset (tk f n i) w) (bset_lt _ w)
        have e20i : σa.1 (20, 0, 0) (i : Int).toNat = bset (tk f n i) w := by rw [e20]; exact ht
        have fb : Fr inT σa (sI σa (20, 0, 0) (up (σa.1 (20, 0, 0)) (i : Int).toNat (zor (σa.1 (20, 0, 0) (i : Int).toNat) (zshl 1 w)))) := Fr.sI (Or.inl rfl)
        have g24 : (sI σa (20, 0, 0) (up (σa.1 (20, 0, 0)) (i : Int).toNat (zor (σa.1 (20, 0, 0) (i : Int).toNat) (zshl 1 w)))).1 (24, 0, 0) = σa.1 (24, 0, 0) := by simp [sI_1]
        have g20 : (sI σa (20, 0, 0) (up (σa.1 (20, 0, 0)) (i : Int).toNat (zor (σa.1 (20, 0, 0) (i : Int).toNat) (zshl 1 w)))).1 (20, 0, 0) i = bset (tk f n i) (w + 1) := by
          rw [e20i, hb, bset, if_pos hn]
          simp [sI_1, up_at]
        have g20j : ∀ j, j ≠ i → (sI σa (20, 0, 0) (up (σa.1 (20, 0, 0)) (i : Int).toNat (zor (σa.1 (20, 0, 0) (i : Int).toNat) (zshl 1 w)))).1 (20, 0, 0) j = σa.1 (20, 0, 0) j := by
          intro j hj
          simp [sI_1, up_at, hj]
        generalize sI σa (20, 0, 0) (up (σa.1 (20, 0, 0)) (i : Int).toNat (zor (σa.1 (20, 0, 0) (i : Int).toNat) (zshl 1 w))) = σb at fb g24 g20 g20j ⊢
        refine b_X5_findTakeable_112 ?_
        refine l_X5_ft2 hi hv k (w + 1) σb (by omega) (hPa.fr fb (inT_1 rfl) (inT_1 rfl)) (by rw [g24]; exact e24a) g20 (fun σ' f1 f2 f3 f4 => ?_)
        exact q σ' ((fa.trans fb).trans f1) f2 f3 (fun j hj => by rw [f4 j hj, g20j j hj, e20])
    refine b_X5_findTakeable_41 (by omega) (fun h => by omega) (fun _ => ?_)
    refine b_X5_findTakeable_47 (by omega) (by rw [e19]; exact s_X11_fits (x := f i) (by omega) hw) bz_rg (fun h => ?_) (fun h => ?_)
    · replace h := bz_0.mp h
      rw [hst, if_neg h] at h77
      exact b_X5_findTakeable_76 h77
    · replace h := bz_n.mp h
      rw [hst, if_pos h] at h77
      refine b_X5_findTakeable_65 (by omega) ?_
      rw [e24]
      exact h77

theorem l_X5_ft1 {d : Nat} {t : KT} {Q : RS → Prop} {f : Nat → Int} {n : Nat} (hv : ∀ j, j < n → 0 ≤ f j ∧ f j < 268435456) : ∀ (k : Nat) (u : Option AV) (σ : SG), k ≤ n → PL f n σ →
    (∀ v, v < 9 → σ.1 (24, 0, 0) v = runF f v (n - k) k) → (∀ j, k ≤ j → j < n → σ.1 (20, 0, 0) j = bset (tk f n j) 9) →
    (∀ σ', Fr inT σ σ' → (∀ j, j < n → σ'.1 (20, 0, 0) j = bset (tk f n j) 9) → Q (.inl none, am_hp σ', t)) →
    Wp k_X5_findTakeable (d + 2) (28, [some (aR (some (18, 0, 0))), some (aI (iZ ((k : Int) - 1))), u], [], am_hp σ, t) Q
  | 0, u, σ, hk, hP, hr, ht, q => by
    refine b_X5_findTakeable_28 (by omega) (fun _ => ?_) (fun h => by omega)
    exact b_X5_findTakeable_124 (q σ (Fr.refl _ _) (fun j hj => ht j (Nat.zero_le _) hj))
  | k + 1, u, σ, hk, hP, hr, ht, q => by
    have hp2 := hP.2.1
    rw [show (((k + 1 : Nat) : Int) - 1) = (k : Int) by omega]
    refine b_X5_findTakeable_28 (by omega) (fun h => by omega) (fun _ => ?_)
    refine b_X5_findTakeable_32 (by omega) ?_
    have fa : Fr inT σ (sI σ (20, 0, 0) (up (σ.1 (20, 0, 0)) (k : Int).toNat 0)) := Fr.sI (Or.inl rfl)
    have e24 : (sI σ (20, 0, 0) (up (σ.1 (20, 0, 0)) (k : Int).toNat 0)).1 (24, 0, 0) = σ.1 (24, 0, 0) := by simp [sI_1]
    have e20 : (sI σ (20, 0, 0) (up (σ.1 (20, 0, 0)) (k : Int).toNat 0)).1 (20, 0, 0) k = 0 := by simp [sI_1, up_at]
    have e20j : ∀ j, j ≠ k → (sI σ (20, 0, 0) (up (σ.1 (20, 0, 0)) (k : Int).toNat 0)).1 (20, 0, 0) j = σ.1 (20, 0, 0) j := fun j hj => by simp [sI_1, up_at, hj]
    generalize sI σ (20, 0, 0) (up (σ.1 (20, 0, 0)) (k : Int).toNat 0) = σa at fa e24 e20 e20j ⊢
    refine l_X5_ft2 (i := k) (by omega) hv 9 0 σa (by omega) (hP.fr fa (inT_1 rfl) (inT_1 rfl)) (fun v hv9 => ?_) (by rw [e20]; rfl) (fun σ' f1 f2 f3 f4 => ?_)
    · rw [e24, hr v hv9, if_neg (Nat.not_lt_zero _)]
      congr 2
    · refine b_X5_findTakeable_118 ?_
      refine l_X5_ft1 hv k _ σ' (by omega) ((hP.fr fa (inT_1 rfl) (inT_1 rfl)).fr f1 (inT_1 rfl) (inT_1 rfl)) f2 (fun j h1 h2 => ?_) (fun σ'' g1 g2 => q σ'' ((fa.trans f1).trans g1) g2)
      by_cases e : j = k
      · subst e; exact f3
      · rw [f4 j e, e20j j e]; exact ht j (by omega) h2
theorem l_X5_ft0 {d : Nat} {t : KT} {Q : RS → Prop} : ∀ (k w : Nat) (σ : SG), w + k = 9 → (∀ σ', Fr inT σ σ' → (∀ v, v < 9 → (w ≤ v ∨ σ.1 (24, 0, 0) v = 0) → σ'.1 (24, 0, 0) v = 0) → Wp k_X5_findTakeable d (21, [some (aR (some (18, 0, 0))), some (aI (iZ ((9 : Nat) : Int))), none], [], am_hp σ', t) Q) → Wp k_X5_findTakeable d (2, [some (aR (some (18, 0, 0))), some (aI (iZ (w : Int))), none], [], am_hp σ, t) Q
  | 0, w, σ, hk, q => by
    have e : w = 9 := by omega
    subst e
    refine b_X5_findTakeable_2 (by omega) (fun _ => ?_) (fun h => by omega)
    exact q σ (Fr.refl _ _) (fun v hv h => by rcases h with h | h; omega; exact h)
  | k + 1, w, σ, hk, q => by
    refine b_X5_findTakeable_2 (by omega) (fun h => by omega) (fun _ => ?_)
    refine b_X5_findTakeable_8 (by omega) ?_
    refine l_X5_ft0 k (w + 1) _ (by omega) (fun σ' f1 f2 => q σ' ((Fr.sI (Or.inr rfl)).trans f1) (fun v hv h => f2 v hv ?_))
    by_cases e : v = w
    · subst e; right; simp [sI_1, up_at]
    · rcases h with h | h
      · left; omega
      · right; simp [sI_1, up_at, e, h]
theorem s_X5_findTakeable {d : Nat} {t : KT} {σ : SG} {n : Nat} {f : Nat → Int} (hP : PL f n σ) (hv : ∀ j, j < n → 0 ≤ f j ∧ f j < 268435456) : ∃ σ', Ca (d + 3) 26 [aR (some (18, 0, 0))] (am_hp σ) t (.inl none, am_hp σ', t) ∧ (∀ j, j < n → σ'.1 (20, 0, 0) j = bset (tk f n j) 9) ∧ Fr inT σ σ' := by
  refine ex_of (e_X5_findTakeable ?_)
  refine b_X5_findTakeable_0 ?_
  refine l_X5_ft0 9 0 σ (by omega) (fun σ1 f1 h1 => ?_)
  have hP1 := hP.fr f1 (inT_1 rfl) (inT_1 rfl)
  have hp2 := hP.2.1
  refine b_X5_findTakeable_21 ?_
  rw [hP1.1]
  refine l_X5_ft1 hv n none σ1 (Nat.le_refl _) hP1 (fun v hv9 => ?_) (fun j a b => by omega) (fun σ' f2 h2 => ⟨σ', rfl, h2, f1.trans f2⟩)
  rw [h1 v hv9 (Or.inl (Nat.zero_le _)), Nat.sub_self]
  rfl
