/-! SPECIFICATIONS: the planner is loaded -/
set_option maxRecDepth 4000
/-- the planner holds the first n numbers of f -/
def PL (f : Nat → Int) (n : Nat) (σ : SG) : Prop := σ.1 (18, 0, 0) 6 = n ∧ n ≤ 120 ∧ ∀ i, i < n → σ.1 (19, 0, 0) i = f i
/-- the planner's cells -/
def inP (L : Lc) : Prop := 18 ≤ L.1 ∧ L.1 ≤ 24
theorem inPk {a p b : Nat} (h : (Nat.ble 18 a && Nat.ble a 24) = true) : inP (a, p, b) := by
  rw [Bool.and_eq_true] at h
  exact ⟨Nat.ble_eq.mp h.1, Nat.ble_eq.mp h.2⟩
theorem inP_R {L : Lc} {p : Nat} (h : inR p L) : ¬ inP L := by
  unfold inR at h
  unfold inP
  omega
theorem s_X7_lenOf {d : Nat} {t : KT} {σ : SG} {p r : Nat} {A : RA} (hA : Av A) (hR : Rep A σ p) (hr : r < rN A) : Ca (d + 2) 44 [aR (some (8, p, 0)), aI (iZ (r : Int))] (am_hp σ) t (.inl (some (aI (iZ (rLn A r : Int)))), am_hp σ, t) := by
  have h4 := hA.1
  have e4 := hR.1
  have hc := s_X7_lengthOf (d := d) (t := t) (σ := σ) (p := p) (x := (r : Int)) (by omega) (by omega)
  have e : (if 0 ≤ (r : Int) ∧ (r : Int) < σ.1 (8, p, 0) 4 then σ.1 (10, p, 0) (r : Int).toNat else 0) = rLn A r := by
    rw [if_pos (by omega)]
    exact (hR.2.2.2.2 r hr).2.1
  rw [e] at hc
  exact hc
theorem s_X5_loadBehind {d : Nat} {t : KT} {σ : SG} {p r n : Nat} {f : Nat → Int} {A : RA} (hA : Av A) (hR : Rep A σ p) (hr : r < rN A) (hP : PL f n σ) (hn : n ≤ 60) : ∃ σ', Ca (d + 3) 23 [aR (some (18, 0, 0)), aR (some (8, p, 0)), aI (iZ (r : Int))] (am_hp σ) t (.inl none, am_hp σ', t) ∧ PL (fun i => if i < n then f i else rNu A r (i - n)) (n + rLn A r) σ' ∧ Fr inP σ σ' := by
  have h4 := hA.1
  have hl := (hA.2.2.2.2 r hr).2.1
  have b := hR.2.2.2.2 r hr
  obtain ⟨p1, p2, p3⟩ := hP
  have hm : min (rLn A r : Int) (120 - n) = rLn A r := by omega
  refine ex_of (e_X5_loadBehind ?_)
  refine b_X5_loadBehind_0 (s_X7_lenOf hA hR hr) (by omega) (by rw [p1]; omega) (by rw [p1, hm]; omega) (fun h => ?_) (fun h => ?_)
  · rw [p1, hm] at h
    refine b_X5_loadBehind_49 ⟨σ, rfl, ⟨by rw [p1]; omega, by omega, fun i hi => ?_⟩, Fr.refl _ _⟩
    dsimp only
    rw [if_pos (by omega)]
    exact p3 i (by omega)
  · rw [p1, hm] at h ⊢
    refine b_X5_loadBehind_20 (by omega) (by rw [p1]; omega) ?_
    refine b_X5_loadBehind_49 ⟨_, rfl, ⟨?_, by omega, fun i hi => ?_⟩, (Fr.sI (inPk rfl)).trans (Fr.sI (inPk rfl))⟩
    · simp [sI_1, up_at, p1]
    · by_cases e : i < n
      · simp [sI_1, cpy, p1, e, show ¬ n ≤ i by omega, p3 i e]
      · have := b.2.2 (i - n) (by omega)
        simp [sI_1, cpy, p1, e, show n ≤ i by omega, show i < n + rLn A r from hi, this]
theorem s_X5_load {d : Nat} {t : KT} {σ : SG} {p r : Nat} {A : RA} (hA : Av A) (hR : Rep A σ p) (hr : r < rN A) : ∃ σ', Ca (d + 4) 22 [aR (some (18, 0, 0)), aR (some (8, p, 0)), aI (iZ (r : Int))] (am_hp σ) t (.inl none, am_hp σ', t) ∧ PL (rNu A r) (rLn A r) σ' ∧ Fr inP σ σ' := by
  have f0 : Fr inP σ (sI σ (18, 0, 0) (up (σ.1 (18, 0, 0)) 6 0)) := Fr.sI (inPk rfl)
  have hR' := hR.fr f0 (fun L h => inP_R h)
  obtain ⟨σ', c, hp, f⟩ := s_X5_loadBehind (d := d) (t := t) (f := rNu A r) (n := 0) hA hR' hr ⟨by simp [sI_1, up_at], by omega, fun i hi => absurd hi (Nat.not_lt_zero i)⟩ (by omega)
  refine ex_of (e_X5_load ?_)
  refine b_X5_load_0 c ⟨σ', rfl, ?_, f0.trans f⟩
  simpa using hp
theorem s_X5_replace {d : Nat} {t : KT} {σ : SG} {n i : Nat} {f : Nat → Int} {v : Int} (hP : PL f n σ) (hi : i < n) : ∃ σ', Ca (d + 1) 24 [aR (some (18, 0, 0)), aI (iZ (i : Int)), aI (iZ v)] (am_hp σ) t (.inl none, am_hp σ', t) ∧ PL (fup f i v) n σ' ∧ Fr inP σ σ' := by
  obtain ⟨p1, p2, p3⟩ := hP
  refine ex_of (e_X5_replace ?_)
  refine b_X5_replace_0 (by omega) (fun h => by omega) (fun _ => ?_)
  refine b_X5_replace_4 (by omega) (by omega) (fun h => by omega) (fun _ => ?_)
  refine b_X5_replace_12 (by omega) ?_
  refine b_X5_replace_19 ⟨_, rfl, ⟨by simp [sI_1, p1], p2, fun j hj => ?_⟩, Fr.sI (inPk rfl)⟩
  by_cases e : j = i
  · subst e; simp [sI_1, up_at, fup]
  · simp [sI_1, up_at, fup, e, p3 j hj]
theorem s_X5_drop {d : Nat} {t : KT} {σ : SG} {n i : Nat} {f : Nat → Int} (hP : PL f n σ) (hi : i < n) : ∃ σ', Ca (d + 1) 25 [aR (some (18, 0, 0)), aI (iZ (i : Int))] (am_hp σ) t (.inl none, am_hp σ', t) ∧ PL (fun j => if j < i then f j else f (j + 1)) (n - 1) σ' ∧ Fr inP σ σ' := by
  obtain ⟨p1, p2, p3⟩ := hP
  refine ex_of (e_X5_drop ?_)
  refine b_X5_drop_0 (by omega) (fun h => by omega) (fun _ => ?_)
  refine b_X5_drop_4 (by omega) (by omega) (fun h => by omega) (fun _ => ?_)
  refine b_X5_drop_12 (by rw [p1]; omega) ?_
  refine b_X5_drop_45 ⟨_, rfl, ⟨?_, by omega, fun j hj => ?_⟩, (Fr.sI (inPk rfl)).trans (Fr.sI (inPk rfl))⟩
  · simp [sI_1, up_at, p1]; omega
  · have h7 : (↑i + 1 : Int).toNat = i + 1 := rfl
    have h8 : ((n : Int) - ↑i - 1).toNat = n - i - 1 := by omega
    by_cases e : j < i
    · simp [sI_1, cpy, e, show ¬ i ≤ j by omega, p3 j (by omega)]
    · have h6 : i + 1 + (j - i) = j + 1 := by omega
      simp [sI_1, cpy, e, p1, h7, h8]
      rw [if_pos (by omega), h6, p3 (j + 1) (by omega)]
