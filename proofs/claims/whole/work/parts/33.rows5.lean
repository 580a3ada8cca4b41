/-! SPECIFICATIONS: rows written, III -/
set_option maxRecDepth 4000
theorem s_X7_addRow {d : Nat} {t : KT} {σ : SG} {p : Nat} {A : RA} (hR : Rep A σ p) {nm : List Nat} (hn : rN A < 4) : ∃ σ', Ca (d + 1) 50 [aR (some (8, p, 0)), aL (jZ (cNm nm))] (am_hp σ) t (.inl none, am_hp σ', t) ∧ Rep (addA A nm) σ' p ∧ Fr (inR p) σ σ' := by
  have e4 := hR.1
  refine ex_of (e_X7_addRow ?_)
  refine b_X7_addRow_0 (by omega) (fun h => by omega) (fun _ => ?_)
  refine b_X7_addRow_8 (by omega) (by rw [sJ_1]; omega) ?_
  refine b_X7_addRow_38 ⟨_, rfl, ?_, ((Fr.sJ (inRk rfl)).trans (Fr.sI (inRk rfl))).trans (Fr.sI (inRk rfl))⟩
  obtain ⟨⟨n, ru, sk⟩, pr, nm', ln, nu⟩ := A
  obtain ⟨a1, a2, a3, a4, a5⟩ := hR
  simp only [rN, rRu, rSk, rPr, rNm, rLn, rNu] at *
  refine ⟨by simp [sI_1, sJ_1, up_at, addA, a1, rN, rRu, rSk, rPr, rNm, rLn, rNu], by simpa [sI_1, sJ_1, up_at, addA, rN, rRu, rSk, rPr, rNm, rLn, rNu] using a2, by simpa [sI_1, sJ_1, up_at, addA, rN, rRu, rSk, rPr, rNm, rLn, rNu] using a3, fun w hw => by simpa [sI_1, sJ_1, addA, rN, rRu, rSk, rPr, rNm, rLn, rNu] using a4 w hw, fun j hj => ?_⟩
  have hj' : j < n + 1 := by simpa [addA, rN, rRu, rSk, rPr, rNm, rLn, rNu] using hj
  by_cases e : j = n
  · subst e
    refine ⟨by simp [sI_2, sJ_21, up_at, addA, fup, a1, rN, rRu, rSk, rPr, rNm, rLn, rNu], by simp [sI_1, sJ_1, up_at, addA, fup, a1, rN, rRu, rSk, rPr, rNm, rLn, rNu], fun m hm => ?_⟩
    simp [addA, fup, rN, rRu, rSk, rPr, rNm, rLn, rNu] at hm
  · have b := a5 j (by omega)
    refine ⟨by simp [sI_2, sJ_21, up_at, addA, fup, a1, e, b.1, rN, rRu, rSk, rPr, rNm, rLn, rNu], by simp [sI_1, sJ_1, up_at, addA, fup, a1, e, b.2.1, rN, rRu, rSk, rPr, rNm, rLn, rNu], fun m hm => ?_⟩
    have hm' : m < ln j := by simpa [addA, fup, e, rN, rRu, rSk, rPr, rNm, rLn, rNu] using hm
    simp [sI_1, sJ_1, addA, b.2.2 m hm', rN, rRu, rSk, rPr, rNm, rLn, rNu]
theorem s_X7_putPrice {d : Nat} {t : KT} {σ : SG} {p : Nat} {A : RA} (hR : Rep A σ p) {w : Nat} {z : Int} (hw : w < 9) : ∃ σ', Ca (d + 1) 55 [aR (some (8, p, 0)), aI (iZ (w : Int)), aI (iZ z)] (am_hp σ) t (.inl none, am_hp σ', t) ∧ Rep (priA A w z) σ' p ∧ Fr (inR p) σ σ' := by
  refine ex_of (e_X7_putPrice ?_)
  refine b_X7_putPrice_0 (by omega) (fun h => by omega) (fun _ => ?_)
  refine b_X7_putPrice_4 (by omega) (fun h => by omega) (fun _ => ?_)
  refine b_X7_putPrice_10 (by omega) ?_
  refine b_X7_putPrice_17 ⟨_, rfl, ?_, Fr.sI (inRk rfl)⟩
  obtain ⟨⟨n, ru, sk⟩, pr, nm', ln, nu⟩ := A
  obtain ⟨a1, a2, a3, a4, a5⟩ := hR
  simp only [rN, rRu, rSk, rPr, rNm, rLn, rNu] at *
  refine ⟨by simpa [sI_1, priA, rN, rRu, rSk, rPr, rNm, rLn, rNu] using a1, by simpa [sI_1, priA, rN, rRu, rSk, rPr, rNm, rLn, rNu] using a2, by simpa [sI_1, priA, rN, rRu, rSk, rPr, rNm, rLn, rNu] using a3, fun v hv => ?_, fun j hj => ?_⟩
  · by_cases e : v = w
    · subst e; simp [sI_1, up_at, priA, fup, rN, rRu, rSk, rPr, rNm, rLn, rNu]
    · simp [sI_1, up_at, priA, fup, e, a4 v hv, rN, rRu, rSk, rPr, rNm, rLn, rNu]
  · have b := a5 j (by simpa [priA, rN, rRu, rSk, rPr, rNm, rLn, rNu] using hj)
    exact ⟨by simpa [sI_2, priA, rN, rRu, rSk, rPr, rNm, rLn, rNu] using b.1, by simpa [sI_1, priA, rN, rRu, rSk, rPr, rNm, rLn, rNu] using b.2.1, fun m hm => by simpa [sI_1, priA, rN, rRu, rSk, rPr, rNm, rLn, rNu] using b.2.2 m hm⟩
def clrA : RA := ((0, 0, 4), fun _ => 1, fun _ => [], fun _ => 0, fun _ _ => 0)
theorem l_X7_clearAll {d : Nat} {t : KT} {Q : RS → Prop} {p : Nat} : ∀ (k i : Nat) (σ : SG), i + k = 9 → (∀ σ', Fr (inR p) σ σ' → σ'.1 (8, p, 0) = σ.1 (8, p, 0) → (∀ w, w < 9 → (i ≤ w ∨ σ.1 (13, p, 0) w = 1) → σ'.1 (13, p, 0) w = 1) → Q (.inl none, am_hp σ', t)) → Wp k_X7_clearAll d (17, [some (aR (some (8, p, 0))), some (aI (iZ (i : Int)))], [], am_hp σ, t) Q
  | 0, i, σ, hk, q => by
    refine b_X7_clearAll_17 (by omega) (fun _ => ?_) (fun h => by omega)
    exact b_X7_clearAll_36 (q σ (Fr.refl _ _) rfl (fun w hw h => by rcases h with h | h; omega; exact h))
  | k + 1, i, σ, hk, q => by
    refine b_X7_clearAll_17 (by omega) (fun h => by omega) (fun _ => ?_)
    refine b_X7_clearAll_23 (by omega) ?_
    refine l_X7_clearAll k (i + 1) _ (by omega) (fun σ' f e8 e13 => ?_)
    refine q σ' ((Fr.sI (inRk rfl)).trans f) (by rw [e8]; simp [sI_1]) (fun w hw h => e13 w hw ?_)
    by_cases e : w = i
    · subst e; right; simp [sI_1, up_at]
    · rcases h with h | h
      · left; omega
      · right; simp [sI_1, up_at, e, h]
theorem s_X7_clearAll {d : Nat} {t : KT} {σ : SG} {p : Nat} : ∃ σ', Ca (d + 1) 41 [aR (some (8, p, 0))] (am_hp σ) t (.inl none, am_hp σ', t) ∧ Rep clrA σ' p ∧ Fr (inR p) σ σ' := by
  refine ex_of (e_X7_clearAll ?_)
  refine b_X7_clearAll_0 ?_
  refine l_X7_clearAll 9 0 _ (by omega) (fun σ' f e8 e13 => ?_)
  refine ⟨σ', rfl, ⟨?_, ?_, ?_, fun w hw => e13 w hw (Or.inl (Nat.zero_le _)), fun i hi => absurd hi (Nat.not_lt_zero _)⟩, (((Fr.sI (inRk rfl)).trans (Fr.sI (inRk rfl))).trans (Fr.sI (inRk rfl))).trans f⟩
  · rw [e8]; simp [sI_1, up_at, clrA]
  · rw [e8]; simp [sI_1, up_at, clrA]
  · rw [e8]; simp [sI_1, up_at, clrA]
theorem l_X7_copyFrom {d : Nat} {t : KT} {Q : RS → Prop} {p q : Nat} (hpq : p ≠ q) : ∀ (k i : Nat) (σ : SG), i + k = 4 → (∀ σ', Fr (inR p) σ σ' → (∀ a : Nat, a ≠ 12 → σ'.1 (a, p, 0) = σ.1 (a, p, 0)) → σ'.2.1 (9, p, 0) = σ.2.1 (9, p, 0) → (∀ m, m < 4 → ∀ j, j < 60 → (i ≤ m ∨ σ.1 (12, p, m) j = σ.1 (12, q, m) j) → σ'.1 (12, p, m) j = σ.1 (12, q, m) j) → Q (.inl none, am_hp σ', t)) → Wp k_X7_copyFrom d (69, [some (aR (some (8, p, 0))), some (aR (some (8, q, 0))), some (aI (iZ (i : Int)))], [], am_hp σ, t) Q
  | 0, i, σ, hk, w => by
    refine b_X7_copyFrom_69 (by omega) (fun _ => ?_) (fun h => by omega)
    exact b_X7_copyFrom_99 (w σ (Fr.refl _ _) (fun _ _ => rfl) rfl (fun m hm j hj h => by rcases h with h | h; omega; exact h))
  | k + 1, i, σ, hk, w => by
    refine b_X7_copyFrom_69 (by omega) (fun h => by omega) (fun _ => ?_)
    refine b_X7_copyFrom_74 (by omega) ?_
    refine l_X7_copyFrom hpq k (i + 1) _ (by omega) (fun σ' f e1 e2 e3 => ?_)
    refine w σ' ((Fr.sI (inRk rfl)).trans f) (fun a ha => by rw [e1 a ha]; simp [sI_1, ha]) (by rw [e2, sI_2]) (fun m hm j hj h => ?_)
    have hq : ¬ q = p := fun e => hpq e.symm
    have e4 := e3 m hm j hj
    simp only [sI_1, Prod.mk.injEq, hq, false_and, and_false, if_false] at e4
    refine e4 ?_
    by_cases e : m = i
    · subst e; right; simp [cpy, hj]
    · rcases h with h | h
      · left; omega
      · right; simp [e, h]
theorem s_X7_copyFrom {d : Nat} {t : KT} {σ : SG} {p q : Nat} {A : RA} (hpq : p ≠ q) (hA : Av A) (hR : Rep A σ q) : ∃ σ', Ca (d + 1) 42 [aR (some (8, p, 0)), aR (some (8, q, 0))] (am_hp σ) t (.inl none, am_hp σ', t) ∧ Rep A σ' p ∧ Fr (inR p) σ σ' := by
  have hq : ¬ q = p := fun e => hpq e.symm
  refine ex_of (e_X7_copyFrom ?_)
  refine b_X7_copyFrom_0 rfl rfl rfl rfl rfl rfl ?_
  refine l_X7_copyFrom hpq 4 0 _ (by omega) (fun σ' f e1 e2 e3 => ?_)
  refine ⟨σ', rfl, ?_, ((((((Fr.sI (inRk rfl)).trans (Fr.sI (inRk rfl))).trans (Fr.sI (inRk rfl))).trans (Fr.sI (inRk rfl))).trans (Fr.sJ (inRk rfl))).trans (Fr.sI (inRk rfl))).trans f⟩
  have h8 := e1 8 (by decide)
  have h13 := e1 13 (by decide)
  have h10 := e1 10 (by decide)
  simp [sI_1, sI_2, sJ_1, sJ_21, hq] at h8 h13 h10 e2 e3
  obtain ⟨a1, a2, a3, a4, a5⟩ := hR
  refine ⟨by rw [h8]; simp [up_at, a1], by rw [h8]; simp [up_at, a2], by rw [h8]; simp [up_at, a3], fun w hw => by rw [h13]; simp [cpy, hw, a4], fun i hi => ?_⟩
  have h4 := hA.1
  have b := a5 i hi
  have hl := (hA.2.2.2.2 i hi).2.1
  refine ⟨by rw [e2]; simp [cpy, show i < 4 by omega, b.1], by rw [h10]; simp [cpy, show i < 4 by omega, b.2.1], fun j hj => ?_⟩
  rw [e3 i (by omega) j (by omega), b.2.2 j hj]
