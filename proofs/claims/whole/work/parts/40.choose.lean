/-! SPECIFICATIONS: ways are chosen by a rule -/
set_option maxRecDepth 4000
def cst (ru : Nat) (pr : Nat → Int) (w : Nat) : Int := if ru = 2 then pr w * 1024 + 1 else 1
/-- the way at i, by a rule and prices -/
def wayF (ru : Nat) (pr : Nat → Int) (f : Nat → Int) (n i : Nat) : Nat := if ru = 0 then lowW f n i else cheW f n (cst ru pr) i
def inK (L : Lc) : Prop := L.1 = 23
theorem inK_1 {a b c : Nat} (h : Nat.beq a 23 = false) : ¬ inK (a, b, c) := by
  intro e
  have e : a = 23 := e
  rw [e] at h
  exact absurd h (by decide)
theorem l_X5_ch1 {d : Nat} {t : KT} {Q : RS → Prop} {ru p : Nat} {pr : Nat → Int} (hru : ru ≤ 2) : ∀ (k i : Nat) (σ : SG), i + k = 9 → (∀ w, w < 9 → σ.1 (13, p, 0) w = pr w) → (∀ w, w < i → σ.1 (23, 0, 0) w = cst ru pr w) →
    (∀ σ', Fr inK σ σ' → PK (cst ru pr) σ' → Wp k_X5_choose d (42, [some (aR (some (18, 0, 0))), some (aI (iZ (ru : Int))), some (aR (some (13, p, 0))), some (aI (iZ ((9 : Nat) : Int)))], [], am_hp σ', t) Q) →
    Wp k_X5_choose d (6, [some (aR (some (18, 0, 0))), some (aI (iZ (ru : Int))), some (aR (some (13, p, 0))), some (aI (iZ (i : Int)))], [], am_hp σ, t) Q
  | 0, i, σ, hk, hp, hc, q => by
    have e : i = 9 := by omega
    subst e
    refine b_X5_choose_6 (by omega) (fun _ => ?_) (fun h => by omega)
    exact q σ (Fr.refl _ _) hc
  | k + 1, i, σ, hk, hp, hc, q => by
    have h35 : Wp k_X5_choose d (35, [some (aR (some (18, 0, 0))), some (aI (iZ (ru : Int))), some (aR (some (13, p, 0))), some (aI (iZ (i : Int)))], [aI (iZ (cst ru pr i)), aI (iZ (i : Int)), aR (some (23, 0, 0))], am_hp σ, t) Q := by
      refine b_X5_choose_35 (by omega) ?_
      have fa : Fr inK σ (sI σ (23, 0, 0) (up (σ.1 (23, 0, 0)) (i : Int).toNat (cst ru pr i))) := Fr.sI rfl
      refine l_X5_ch1 hru k (i + 1) _ (by omega) (fun w hw => ?_) (fun w hw => ?_) (fun σ' f1 h1 => q σ' (fa.trans f1) h1)
      · rw [(fa.1 (13, p, 0) (inK_1 rfl)).1]; exact hp w hw
      · by_cases e : w = i
        · subst e; simp [sI_1, up_at]
        · have := hc w (by omega)
          simp [sI_1, up_at, e, this]
    refine b_X5_choose_6 (by omega) (fun h => by omega) (fun _ => ?_)
    refine b_X5_choose_12 (by omega) (fun h => ?_) (fun h => ?_)
    · rw [cst, if_neg (by omega)] at h35
      exact b_X5_choose_34 h35
    · rw [cst, if_pos (by omega)] at h35
      refine b_X5_choose_22 (by omega) ?_
      rw [show σ.1 (13, p, 0) (i : Int).toNat = pr i from hp i (by omega)]
      exact h35
theorem s_X5_choose {d : Nat} {t : KT} {σ : SG} {f pr : Nat → Int} {n ru p : Nat} (hru : ru ≤ 2) (hv : ∀ j, j < n → 0 ≤ f j ∧ f j < 268435456) (hpr : ∀ w, w < 9 → 0 ≤ pr w ∧ pr w ≤ 99) (hP : PL f n σ) (hp : ∀ w, w < 9 → σ.1 (13, p, 0) w = pr w) : ∃ σ', Ca (d + 4) 28 [aR (some (18, 0, 0)), aI (iZ (ru : Int)), aR (some (13, p, 0))] (am_hp σ) t (.inl none, am_hp σ', t) ∧ PL f n σ' ∧ PC (wayF ru pr f n) n σ' ∧ Fr inP σ σ' := by
  have mT : ∀ L, inT L → inP L := fun L h => by unfold inT at h; unfold inP; omega
  have mB : ∀ L, inB L → inP L := fun L h => by unfold inB at h; unfold inP; omega
  have mC : ∀ L, inC L → inP L := fun L h => by unfold inC at h; unfold inP; omega
  have mK : ∀ L, inK L → inP L := fun L h => by unfold inK at h; unfold inP; omega
  obtain ⟨σ1, c1, t1, f1⟩ := s_X5_findTakeable (d := d) (t := t) hP hv
  have t1 : PT f n σ1 := t1
  have hP1 := hP.fr f1 (inT_1 rfl) (inT_1 rfl)
  refine ex_of (e_X5_choose ?_)
  refine b_X5_choose_0 c1 ?_
  refine l_X5_ch1 (pr := pr) hru 9 0 σ1 (by omega) (fun w hw => ?_) (fun w hw => absurd hw (Nat.not_lt_zero w)) (fun σ2 f2 k2 => ?_)
  · rw [(f1.1 (13, p, 0) (inT_1 rfl)).1]; exact hp w hw
  have hP2 := hP1.fr f2 (inK_1 rfl) (inK_1 rfl)
  have t2 := t1.fr f2 (inK_1 rfl)
  refine b_X5_choose_42 (by omega) (fun h => ?_) (fun h => ?_)
  · have hc : ∀ w, w < 9 → 0 ≤ cst ru pr w ∧ cst ru pr w ≤ 101377 := fun w hw => by
      have := hpr w hw
      unfold cst
      split <;> omega
    obtain ⟨σ3, c3, h3, f3⟩ := s_X5_chooseCheapest (d := d) (t := t) hv hc hP2 t2 k2
    refine b_X5_choose_53 (c3.up (by omega)) ?_
    refine b_X5_choose_57 ⟨σ3, rfl, hP2.fr f3 (inB_1 rfl) (inB_1 rfl), ?_, ((f1.mono mT).trans (f2.mono mK)).trans (f3.mono mB)⟩
    have e : wayF ru pr f n = cheW f n (cst ru pr) := by
      funext i
      exact if_neg (by omega)
    rw [e]
    exact h3
  · obtain ⟨σ3, c3, h3, f3⟩ := s_X5_chooseLowest (d := d) (t := t) hP2 t2
    refine b_X5_choose_46 (c3.up (by omega)) ?_
    refine b_X5_choose_57 ⟨σ3, rfl, hP2.fr f3 (inC_1 rfl) (inC_1 rfl), ?_, ((f1.mono mT).trans (f2.mono mK)).trans (f3.mono mC)⟩
    have e : wayF ru pr f n = lowW f n := by
      funext i
      exact if_pos (by omega)
    rw [e]
    exact h3
