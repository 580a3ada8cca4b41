/-! THE MODEL: ways are chosen -/
set_option maxRecDepth 4000
/-- what the words from j on weigh, for all j from k on -/
def WI (ru : Nat) (pr f : Nat → Int) (n k : Nat) (σ : SG) : Prop := ∀ j, k ≤ j → j ≤ n → (0 ≤ σ.1 (53, 0, 0) j ∧ σ.1 (53, 0, 0) j ≤ (n : Int) - j) ∧ (0 ≤ σ.1 (54, 0, 0) j ∧ σ.1 (54, 0, 0) j ≤ 99 * ((n : Int) - j)) ∧ Bc f n (cst ru pr) j = (if ru = 2 then 1024 * σ.1 (54, 0, 0) j else 0) + σ.1 (53, 0, 0) j
theorem s_X12_isLess {t : KT} {σ : SG} {ru : Nat} {pr f : Nat → Int} {n i a b : Nat} (hC : MC σ) (h : VL f n σ) (hP : VP pr σ) (hW : WI ru pr f n (i + 1) σ) (hi : i < n) (ha : a < 9) (hb : b < 9) : Ca 2 230 [aR (some (40, 0, 0)), aI (iZ ((i : Int))), aI (iZ ((a : Int))), aI (iZ ((b : Int))), aI (iZ (bz (ru = 2)))] (am_hp σ) t (.inl (some (aI (iZ (bz (gW f n (cst ru pr) i a < gW f n (cst ru pr) i b))))), am_hp σ, t) := by
  have ca := s_X12_behind (t := t) hC h (Nat.le_of_lt hi) ha
  have cb := s_X12_behind (t := t) hC h (Nat.le_of_lt hi) hb
  have h2 := h.2.1
  have hca := cnt_bd a ha
  have hcb := cnt_bd b hb
  have wa := hW (min (i + cnt a) n) (by omega) (by omega)
  have wb := hW (min (i + cnt b) n) (by omega) (by omega)
  have pa := hP a ha
  have pb := hP b hb
  have ga : gW f n (cst ru pr) i a = (if ru = 2 then pr a * 1024 + 1 else 1) + ((if ru = 2 then 1024 * σ.1 (54, 0, 0) (min (i + cnt a) n) else 0) + σ.1 (53, 0, 0) (min (i + cnt a) n)) := by
    unfold gW
    rw [wa.2.2]
    rfl
  have gb : gW f n (cst ru pr) i b = (if ru = 2 then pr b * 1024 + 1 else 1) + ((if ru = 2 then 1024 * σ.1 (54, 0, 0) (min (i + cnt b) n) else 0) + σ.1 (53, 0, 0) (min (i + cnt b) n)) := by
    unfold gW
    rw [wb.2.2]
    rfl
  rw [ga, gb]
  refine ca_of (e_X12_isLess ?_)
  have fin80 : ∀ (x y : Int) (c : Prop) [Decidable c], (c ↔ σ.1 (53, 0, 0) (min (i + cnt a) n) < σ.1 (53, 0, 0) (min (i + cnt b) n)) → Wp k_X12_isLess 1 (80, [some (aR (some (40, 0, 0))), some (aI (iZ ((i : Int)))), some (aI (iZ ((a : Int)))), some (aI (iZ ((b : Int)))), some (aI (iZ (bz (ru = 2)))), some (aI (iZ x)), some (aI (iZ y))], [], am_hp σ, t) (fun r => r = (.inl (some (aI (iZ (bz c)))), am_hp σ, t)) := by
    intro x y c _ hc
    refine b_X12_isLess_80 (ca.up (by omega)) (by omega) (cb.up (by omega)) (by omega) (by rw [Int.toNat_natCast]; omega) (by rw [Int.toNat_natCast]; omega) (fun q => ?_) (fun q => ?_)
    · rw [Int.toNat_natCast, Int.toNat_natCast] at q
      rw [bz_f (p := c) (fun z => by have := hc.mp z; omega)]
      exact b_X12_isLess_109 (b_X12_isLess_110 (by omega) rfl)
    · rw [Int.toNat_natCast, Int.toNat_natCast] at q
      rw [bz_t (p := c) (hc.mpr q)]
      exact b_X12_isLess_105 (b_X12_isLess_110 (by omega) rfl)
  by_cases e2 : ru = 2
  · rw [if_pos e2, if_pos e2, if_pos e2, if_pos e2]
    refine b_X12_isLess_0 bz_rg (fun q => absurd e2 (bz_0.mp q)) (fun _ => ?_)
    refine b_X12_isLess_5 (by omega) (ca.up (by omega)) (by omega) ?_
    rw [Int.toNat_natCast, Int.toNat_natCast, pa.1]
    refine b_X12_isLess_27 bz_rg (fun q => absurd e2 (bz_0.mp q)) (fun _ => ?_)
    refine b_X12_isLess_34 (by omega) (cb.up (by omega)) (by omega) ?_
    rw [Int.toNat_natCast, Int.toNat_natCast, pb.1]
    refine b_X12_isLess_56 (by omega) (by omega) (fun q => fin80 _ _ _ (by omega)) (fun q => ?_)
    refine b_X12_isLess_65 (by omega) (by omega) (fun q2 => ?_) (fun q2 => ?_)
    · rw [bz_f (p := pr a * 1024 + 1 + (1024 * σ.1 (54, 0, 0) (min (i + cnt a) n) + σ.1 (53, 0, 0) (min (i + cnt a) n)) < pr b * 1024 + 1 + (1024 * σ.1 (54, 0, 0) (min (i + cnt b) n) + σ.1 (53, 0, 0) (min (i + cnt b) n))) (by omega)]
      exact b_X12_isLess_76 (b_X12_isLess_110 (by omega) rfl)
    · rw [bz_t (p := pr a * 1024 + 1 + (1024 * σ.1 (54, 0, 0) (min (i + cnt a) n) + σ.1 (53, 0, 0) (min (i + cnt a) n)) < pr b * 1024 + 1 + (1024 * σ.1 (54, 0, 0) (min (i + cnt b) n) + σ.1 (53, 0, 0) (min (i + cnt b) n))) (by omega)]
      exact b_X12_isLess_72 (b_X12_isLess_110 (by omega) rfl)
  · rw [if_neg e2, if_neg e2, if_neg e2, if_neg e2]
    refine b_X12_isLess_0 bz_rg (fun _ => ?_) (fun q => absurd (bz_n.mp q) e2)
    refine b_X12_isLess_26 (b_X12_isLess_27 bz_rg (fun _ => ?_) (fun q => absurd (bz_n.mp q) e2))
    refine b_X12_isLess_55 (b_X12_isLess_56 (by omega) (by omega) (fun q => fin80 _ _ _ (by omega)) (fun q => absurd rfl q))
theorem s_X12_bestWay {t : KT} {σ : SG} {ru : Nat} {pr f : Nat → Int} {n i : Nat} (hC : MC σ) (h : VL f n σ) (hP : VP pr σ) (hW : WI ru pr f n (i + 1) σ) (hi : i < n) : Ca 3 231 [aR (some (40, 0, 0)), aI (iZ ((i : Int))), aI (iZ (bz (ru = 2)))] (am_hp σ) t (.inl (some (aI (iZ ((cheW f n (cst ru pr) i : Int))))), am_hp σ, t) := by
  have hv := h.v
  have hpk := pick_ok (tk f n i) (gW f n (cst ru pr) i) (tk_8 hi hv)
  refine ca_of (e_X12_bestWay ?_)
  refine b_X12_bestWay_0 ?_
  have key : ∀ (k w : Nat) (acc : Option Nat), w + k = 9 → (∀ v, acc = some v → v < 9) → amF (tk f n i) (gW f n (cst ru pr) i) k w acc = some (cheW f n (cst ru pr) i) → Wp k_X12_bestWay 2 (5, [some (aR (some (40, 0, 0))), some (aI (iZ ((i : Int)))), some (aI (iZ (bz (ru = 2)))), some (aI (iZ ((match acc with | none => (-1 : Int) | some v => (v : Int))))), some (aI (iZ ((w : Int))))], [], am_hp σ, t) (fun r => r = (.inl (some (aI (iZ ((cheW f n (cst ru pr) i : Int))))), am_hp σ, t)) := by
    intro k
    induction k with
    | zero =>
      intro w acc hwk hacc ham
      have ham : acc = some (cheW f n (cst ru pr) i) := ham
      subst ham
      exact b_X12_bestWay_5 (by omega) (fun _ => b_X12_bestWay_51 rfl) (fun q => by omega)
    | succ k ih =>
      intro w acc hwk hacc ham
      unfold amF at ham
      refine b_X12_bestWay_5 (by omega) (fun q => by omega) (fun _ => ?_)
      refine b_X12_bestWay_12 ((s_X12_canTake hC h (Nat.le_of_lt hi) (by omega)).up (by omega)) bz_rg (fun q => ?_) (fun q => ?_)
      · rw [if_pos (bz_n.mp q)] at ham
        cases acc with
        | none =>
          refine b_X12_bestWay_25 (by dsimp only; omega) (fun _ => b_X12_bestWay_42 (b_X12_bestWay_45 ?_)) (fun q => absurd rfl q)
          exact ih (w + 1) (some w) (by omega) (fun v hv => by cases hv; omega) ham
        | some v =>
          have hv9 := hacc v rfl
          dsimp only at ham
          refine b_X12_bestWay_25 (by dsimp only; omega) (fun q => by dsimp only at q; omega) (fun _ => ?_)
          refine b_X12_bestWay_30 ((s_X12_isLess hC h hP hW hi (by omega) hv9).up (by omega)) bz_rg (fun q2 => ?_) (fun q2 => ?_)
          · rw [if_neg (bz_0.mp q2)] at ham
            exact b_X12_bestWay_45 (ih (w + 1) (some v) (by omega) (fun u hu => by cases hu; omega) ham)
          · rw [if_pos (bz_n.mp q2)] at ham
            exact b_X12_bestWay_42 (b_X12_bestWay_45 (ih (w + 1) (some w) (by omega) (fun u hu => by cases hu; omega) ham))
      · rw [if_neg (bz_0.mp q)] at ham
        exact b_X12_bestWay_22 (b_X12_bestWay_45 (ih (w + 1) acc (by omega) hacc ham))
  exact key 9 0 none (by omega) (fun v hv => by cases hv) hpk.1
theorem s_X12_lowestWay {t : KT} {σ : SG} {f : Nat → Int} {n i : Nat} (hC : MC σ) (h : VL f n σ) (hi : i < n) : Ca 2 232 [aR (some (40, 0, 0)), aI (iZ ((i : Int)))] (am_hp σ) t (.inl (some (aI (iZ ((lowW f n i : Int))))), am_hp σ, t) := by
  have hv := h.v
  refine ca_of (e_X12_lowestWay ?_)
  refine b_X12_lowestWay_0 ?_
  have key : ∀ (W k w : Nat), w + k = 8 → lwF (tk f n i) k w = W → Wp k_X12_lowestWay 1 (2, [some (aR (some (40, 0, 0))), some (aI (iZ ((i : Int)))), some (aI (iZ ((w : Int))))], [], am_hp σ, t) (fun r => r = (.inl (some (aI (iZ ((W : Int))))), am_hp σ, t)) := by
    intro W k
    induction k with
    | zero =>
      intro w hwk hl
      have hl : w = W := hl
      have ew : w = 8 := by omega
      have ht : tk f n i w := by rw [ew]; exact tk_8 hi hv
      rw [← hl]
      exact b_X12_lowestWay_2 ((s_X12_canTake hC h (Nat.le_of_lt hi) (by omega)).up (by omega)) bz_rg (fun _ => b_X12_lowestWay_17 rfl) (fun q => absurd ht (bz_0.mp q))
    | succ k ih =>
      intro w hwk hl
      unfold lwF at hl
      refine b_X12_lowestWay_2 ((s_X12_canTake hC h (Nat.le_of_lt hi) (by omega)).up (by omega)) bz_rg (fun q => ?_) (fun q => ?_)
      · rw [if_pos (bz_n.mp q)] at hl
        rw [← hl]
        exact b_X12_lowestWay_17 rfl
      · rw [if_neg (bz_0.mp q)] at hl
        exact b_X12_lowestWay_11 (ih (w + 1) (by omega) hl)
  exact key (lowW f n i) 8 0 (by omega) rfl
theorem WI.fr {ru : Nat} {pr f : Nat → Int} {n k : Nat} {σ σ' : SG} (h : WI ru pr f n k σ) (e3 : σ'.1 (53, 0, 0) = σ.1 (53, 0, 0)) (e4 : σ'.1 (54, 0, 0) = σ.1 (54, 0, 0)) : WI ru pr f n k σ' := by
  unfold WI at h ⊢
  rw [e3, e4]
  exact h
theorem s_X12_weighs {t : KT} {σ : SG} {ru : Nat} {pr f : Nat → Int} {n : Nat} (hC : MC σ) (h : VL f n σ) (hP : VP pr σ) : ∃ σ', Ca 4 233 [aR (some (40, 0, 0)), aI (iZ (bz (ru = 2)))] (am_hp σ) t (.inl none, am_hp σ', t) ∧ WI ru pr f n 0 σ' ∧ VL f n σ' ∧ VP pr σ' ∧ QF σ σ' ∧ σ'.1 (40, 0, 0) = σ.1 (40, 0, 0) := by
  have h1 := h.1
  have h2 := h.2.1
  have hv := h.v
  have e1 : (sI σ (53, 0, 0) (up (σ.1 (53, 0, 0)) (σ.1 (40, 0, 0) 33).toNat 0)).1 (40, 0, 0) 33 = n := by simp [sI_1, h1]
  refine ex_of (e_X12_weighs ?_)
  refine b_X12_weighs_0 (by omega) (by rw [e1]; omega) ?_
  have en : (σ.1 (40, 0, 0) 33).toNat = n := by rw [h1]; rfl
  rw [e1, en, Int.toNat_natCast]
  have q0 : QF σ (sI (sI σ (53, 0, 0) (up (σ.1 (53, 0, 0)) n 0)) (54, 0, 0) (up ((sI σ (53, 0, 0) (up (σ.1 (53, 0, 0)) n 0)).1 (54, 0, 0)) n 0)) := (QF.arr (by omega)).trans (QF.arr (by omega))
  have w0 : WI ru pr f n n (sI (sI σ (53, 0, 0) (up (σ.1 (53, 0, 0)) n 0)) (54, 0, 0) (up ((sI σ (53, 0, 0) (up (σ.1 (53, 0, 0)) n 0)).1 (54, 0, 0)) n 0)) := fun j hj1 hj2 => by
    have : j = n := by omega
    subst this
    rw [Bc_end]
    simp [sI_1, up_at]
  have v0 : VL f n (sI (sI σ (53, 0, 0) (up (σ.1 (53, 0, 0)) n 0)) (54, 0, 0) (up ((sI σ (53, 0, 0) (up (σ.1 (53, 0, 0)) n 0)).1 (54, 0, 0)) n 0)) := h.fr (by simp [sI_1]) (by simp [sI_1]) (by simp [sI_1])
  have p0 : VP pr (sI (sI σ (53, 0, 0) (up (σ.1 (53, 0, 0)) n 0)) (54, 0, 0) (up ((sI σ (53, 0, 0) (up (σ.1 (53, 0, 0)) n 0)).1 (54, 0, 0)) n 0)) := hP.fr (by simp [sI_1])
  have x0 : (sI (sI σ (53, 0, 0) (up (σ.1 (53, 0, 0)) n 0)) (54, 0, 0) (up ((sI σ (53, 0, 0) (up (σ.1 (53, 0, 0)) n 0)).1 (54, 0, 0)) n 0)).1 (40, 0, 0) 33 = n := v0.1
  rw [x0]
  have o0 : (sI (sI σ (53, 0, 0) (up (σ.1 (53, 0, 0)) n 0)) (54, 0, 0) (up ((sI σ (53, 0, 0) (up (σ.1 (53, 0, 0)) n 0)).1 (54, 0, 0)) n 0)).1 (40, 0, 0) = σ.1 (40, 0, 0) := by simp [sI_1]
  generalize (sI (sI σ (53, 0, 0) (up (σ.1 (53, 0, 0)) n 0)) (54, 0, 0) (up ((sI σ (53, 0, 0) (up (σ.1 (53, 0, 0)) n 0)).1 (54, 0, 0)) n 0)) = σ0 at q0 w0 v0 p0 o0
  have key : ∀ (k : Nat) (σ1 : SG) (u : Option AV), k ≤ n → WI ru pr f n k σ1 → VL f n σ1 → VP pr σ1 → QF σ σ1 → σ1.1 (40, 0, 0) = σ.1 (40, 0, 0) → Wp k_X12_weighs 3 (27, [some (aR (some (40, 0, 0))), some (aI (iZ (bz (ru = 2)))), some (aI (iZ ((k : Int) - 1))), u], [], am_hp σ1, t) (fun r => ∃ σ', r = (.inl none, am_hp σ', t) ∧ WI ru pr f n 0 σ' ∧ VL f n σ' ∧ VP pr σ' ∧ QF σ σ' ∧ σ'.1 (40, 0, 0) = σ.1 (40, 0, 0)) := by
    intro k
    induction k with
    | zero =>
      intro σ1 u hk w1 v1 p1 q1 o1
      exact b_X12_weighs_27 (by omega) (fun _ => b_X12_weighs_87 ⟨σ1, rfl, w1, v1, p1, q1, o1⟩) (fun q => by omega)
    | succ k ih =>
      intro σ1 u hk w1 v1 p1 q1 o1
      have C1 := hC.q q1
      have hpk := pick_ok (tk f n k) (gW f n (cst ru pr) k) (tk_8 (by omega) hv)
      have hw9 : cheW f n (cst ru pr) k < 9 := hpk.2.1
      have hcb := cnt_bd _ hw9
      have hpw := p1 _ hw9
      have hst := Bc_step (f := f) (n := n) (c := cst ru pr) (i := k) (by omega)
      have wj := w1 (min (k + cnt (cheW f n (cst ru pr) k)) n) (by omega) (by omega)
      have cw := s_X12_bestWay (t := t) C1 v1 p1 w1 (by omega : k < n)
      have cb := s_X12_behind (t := t) C1 v1 (by omega : k ≤ n) hw9
      have hgW : gW f n (cst ru pr) k (cheW f n (cst ru pr) k) = (if ru = 2 then pr (cheW f n (cst ru pr) k) * 1024 + 1 else 1) + ((if ru = 2 then 1024 * σ1.1 (54, 0, 0) (min (k + cnt (cheW f n (cst ru pr) k)) n) else 0) + σ1.1 (53, 0, 0) (min (k + cnt (cheW f n (cst ru pr) k)) n)) := by
        unfold gW
        rw [wj.2.2]
        rfl
      rw [hgW] at hst
      generalize cheW f n (cst ru pr) k = w at hw9 hcb hpw hst wj cw cb
      generalize hj : min (k + cnt w) n = j at wj cb hst
      have ek : ((k + 1 : Nat) : Int) - 1 = (k : Int) := by omega
      rw [ek]
      refine b_X12_weighs_27 (by omega) (fun q => by omega) (fun _ => ?_)
      have v2 : VL f n (sI σ1 (53, 0, 0) (up (σ1.1 (53, 0, 0)) k (1 + σ1.1 (53, 0, 0) j))) := v1.fr (by simp [sI_1]) (by simp [sI_1]) (by simp [sI_1])
      have cb2 := s_X12_behind (t := t) (hC.q (q1.trans (QF.arr (a := 53) (f := up (σ1.1 (53, 0, 0)) k (1 + σ1.1 (53, 0, 0) j)) (by omega)))) v2 (by omega : k ≤ n) hw9
      rw [hj] at cb2
      refine b_X12_weighs_31 (cw.up (by omega)) (cb.up (by omega)) (by omega) (by omega) (by omega) (by rw [Int.toNat_natCast, Int.toNat_natCast]; exact cb2.up (by omega)) (by omega) ?_
      rw [Int.toNat_natCast, Int.toNat_natCast, Int.toNat_natCast, show (k : Int) + -1 = (k : Int) - 1 by omega]
      refine ih _ _ (by omega) (fun m hm1 hm2 => ?_) (v2.fr (by simp [sI_1]) (by simp [sI_1]) (by simp [sI_1])) (p1.fr (by simp [sI_1])) (q1.trans ((QF.arr (by omega)).trans (QF.arr (by omega)))) (by rw [← o1]; simp [sI_1])
      have ejk : ¬ j = k := by omega
      have e5 : (sI σ1 (53, 0, 0) (up (σ1.1 (53, 0, 0)) k (1 + σ1.1 (53, 0, 0) j))).1 (50, 0, 0) w = pr w := by simp [sI_1, hpw.1]
      have e6 : (sI σ1 (53, 0, 0) (up (σ1.1 (53, 0, 0)) k (1 + σ1.1 (53, 0, 0) j))).1 (54, 0, 0) = σ1.1 (54, 0, 0) := by simp [sI_1]
      have e7 : ∀ g : Nat → Int, (sI (sI σ1 (53, 0, 0) (up (σ1.1 (53, 0, 0)) k (1 + σ1.1 (53, 0, 0) j))) (54, 0, 0) g).1 (53, 0, 0) = up (σ1.1 (53, 0, 0)) k (1 + σ1.1 (53, 0, 0) j) := fun g => by simp [sI_1]
      rw [e7, e5, e6, sI_1, if_pos rfl, up_at, up_at]
      by_cases e : m = k
      · subst e
        rw [if_pos rfl, if_pos rfl, hst]
        refine ⟨by omega, by omega, ?_⟩
        by_cases e2 : ru = 2
        · rw [if_pos e2, if_pos e2, if_pos e2]; omega
        · rw [if_neg e2, if_neg e2, if_neg e2]; omega
      · rw [if_neg e, if_neg e]
        exact w1 m (by omega) hm2
  exact key n σ0 none (Nat.le_refl _) w0 v0 p0 q0 o0
