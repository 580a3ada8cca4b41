/-! THE MODEL: rows are copied, kept -/
set_option maxRecDepth 4000
theorem s_copy_42_44 {t : KT} {σ : SG} {a b : Nat} (ha : a + 264 ≤ 264) (hb : b + 264 ≤ 264) : ∃ σ', Ca 1 200 [aR (some (42, 0, 0)), aI (iZ ((a : Int))), aR (some (44, 0, 0)), aI (iZ ((b : Int)))] (am_hp σ) t (.inl none, am_hp σ', t) ∧ Fr (fun L => L = (44, 0, 0)) σ σ' ∧ (∀ k, k < 264 → σ'.1 (44, 0, 0) (b + k) = σ.1 (42, 0, 0) (a + k)) ∧ ∀ k, (k < b ∨ b + 264 ≤ k) → σ'.1 (44, 0, 0) k = σ.1 (44, 0, 0) k := by
  refine ex_of (e_X12_copiesRow_42_44 ?_)
  refine b_X12_copiesRow_42_44_0 ?_
  refine w_loopS 264 (fun k c => ∃ σ1, c = (3, [some (aR (some (42, 0, 0))), some (aI (iZ ((a : Int)))), some (aR (some (44, 0, 0))), some (aI (iZ ((b : Int)))), some (aI (iZ ((k : Int))))], [], am_hp σ1, t) ∧ Fr (fun L => L = (44, 0, 0)) σ σ1 ∧ (∀ j, j < k → σ1.1 (44, 0, 0) (b + j) = σ.1 (42, 0, 0) (a + j)) ∧ ∀ j, (j < b ∨ b + 264 ≤ j) → σ1.1 (44, 0, 0) j = σ.1 (44, 0, 0) j) ⟨σ, rfl, Fr.refl _ _, fun j hj => absurd hj (Nat.not_lt_zero j), fun _ _ => rfl⟩ (fun k c hk hI go => ?_) (fun c hI => ?_)
  · obtain ⟨σ1, rfl, f1, g1, g2⟩ := hI
    have e1 := (f1.1 (42, 0, 0) (fun z => absurd (congrArg (fun L : Lc => L.1) z) (by decide))).1
    refine b_X12_copiesRow_42_44_3 (by omega) (fun q => by omega) (fun _ => b_X12_copiesRow_42_44_11 (by omega) (by omega) (go _ ⟨_, rfl, f1.trans (Fr.sI (P := fun L : Lc => L = (44, 0, 0)) rfl), fun j hj => ?_, fun j hj => ?_⟩))
    · rw [sI_1, if_pos rfl, up_at, e1, show ((b : Int) + (k : Int)).toNat = b + k by omega, show ((a : Int) + (k : Int)).toNat = a + k by omega]
      by_cases e : j = k
      · subst e
        rw [if_pos rfl]
      · rw [if_neg (by omega)]
        exact g1 j (by omega)
    · rw [sI_1, if_pos rfl, up_at, show ((b : Int) + (k : Int)).toNat = b + k by omega, if_neg (by omega)]
      exact g2 j hj
  · obtain ⟨σ1, rfl, f1, g1, g2⟩ := hI
    exact b_X12_copiesRow_42_44_3 (by omega) (fun _ => b_X12_copiesRow_42_44_29 ⟨σ1, rfl, f1, g1, g2⟩) (fun q => by omega)
theorem s_copy_44_42 {t : KT} {σ : SG} {a b : Nat} (ha : a + 264 ≤ 264) (hb : b + 264 ≤ 264) : ∃ σ', Ca 1 200 [aR (some (44, 0, 0)), aI (iZ ((a : Int))), aR (some (42, 0, 0)), aI (iZ ((b : Int)))] (am_hp σ) t (.inl none, am_hp σ', t) ∧ Fr (fun L => L = (42, 0, 0)) σ σ' ∧ (∀ k, k < 264 → σ'.1 (42, 0, 0) (b + k) = σ.1 (44, 0, 0) (a + k)) ∧ ∀ k, (k < b ∨ b + 264 ≤ k) → σ'.1 (42, 0, 0) k = σ.1 (42, 0, 0) k := by
  refine ex_of (e_X12_copiesRow_44_42 ?_)
  refine b_X12_copiesRow_44_42_0 ?_
  refine w_loopS 264 (fun k c => ∃ σ1, c = (3, [some (aR (some (44, 0, 0))), some (aI (iZ ((a : Int)))), some (aR (some (42, 0, 0))), some (aI (iZ ((b : Int)))), some (aI (iZ ((k : Int))))], [], am_hp σ1, t) ∧ Fr (fun L => L = (42, 0, 0)) σ σ1 ∧ (∀ j, j < k → σ1.1 (42, 0, 0) (b + j) = σ.1 (44, 0, 0) (a + j)) ∧ ∀ j, (j < b ∨ b + 264 ≤ j) → σ1.1 (42, 0, 0) j = σ.1 (42, 0, 0) j) ⟨σ, rfl, Fr.refl _ _, fun j hj => absurd hj (Nat.not_lt_zero j), fun _ _ => rfl⟩ (fun k c hk hI go => ?_) (fun c hI => ?_)
  · obtain ⟨σ1, rfl, f1, g1, g2⟩ := hI
    have e1 := (f1.1 (44, 0, 0) (fun z => absurd (congrArg (fun L : Lc => L.1) z) (by decide))).1
    refine b_X12_copiesRow_44_42_3 (by omega) (fun q => by omega) (fun _ => b_X12_copiesRow_44_42_11 (by omega) (by omega) (go _ ⟨_, rfl, f1.trans (Fr.sI (P := fun L : Lc => L = (42, 0, 0)) rfl), fun j hj => ?_, fun j hj => ?_⟩))
    · rw [sI_1, if_pos rfl, up_at, e1, show ((b : Int) + (k : Int)).toNat = b + k by omega, show ((a : Int) + (k : Int)).toNat = a + k by omega]
      by_cases e : j = k
      · subst e
        rw [if_pos rfl]
      · rw [if_neg (by omega)]
        exact g1 j (by omega)
    · rw [sI_1, if_pos rfl, up_at, show ((b : Int) + (k : Int)).toNat = b + k by omega, if_neg (by omega)]
      exact g2 j hj
  · obtain ⟨σ1, rfl, f1, g1, g2⟩ := hI
    exact b_X12_copiesRow_44_42_3 (by omega) (fun _ => b_X12_copiesRow_44_42_29 ⟨σ1, rfl, f1, g1, g2⟩) (fun q => by omega)
theorem s_copy_44_45 {t : KT} {σ : SG} {a b : Nat} (ha : a + 264 ≤ 264) (hb : b + 264 ≤ 1584) : ∃ σ', Ca 1 200 [aR (some (44, 0, 0)), aI (iZ ((a : Int))), aR (some (45, 0, 0)), aI (iZ ((b : Int)))] (am_hp σ) t (.inl none, am_hp σ', t) ∧ Fr (fun L => L = (45, 0, 0)) σ σ' ∧ (∀ k, k < 264 → σ'.1 (45, 0, 0) (b + k) = σ.1 (44, 0, 0) (a + k)) ∧ ∀ k, (k < b ∨ b + 264 ≤ k) → σ'.1 (45, 0, 0) k = σ.1 (45, 0, 0) k := by
  refine ex_of (e_X12_copiesRow_44_45 ?_)
  refine b_X12_copiesRow_44_45_0 ?_
  refine w_loopS 264 (fun k c => ∃ σ1, c = (3, [some (aR (some (44, 0, 0))), some (aI (iZ ((a : Int)))), some (aR (some (45, 0, 0))), some (aI (iZ ((b : Int)))), some (aI (iZ ((k : Int))))], [], am_hp σ1, t) ∧ Fr (fun L => L = (45, 0, 0)) σ σ1 ∧ (∀ j, j < k → σ1.1 (45, 0, 0) (b + j) = σ.1 (44, 0, 0) (a + j)) ∧ ∀ j, (j < b ∨ b + 264 ≤ j) → σ1.1 (45, 0, 0) j = σ.1 (45, 0, 0) j) ⟨σ, rfl, Fr.refl _ _, fun j hj => absurd hj (Nat.not_lt_zero j), fun _ _ => rfl⟩ (fun k c hk hI go => ?_) (fun c hI => ?_)
  · obtain ⟨σ1, rfl, f1, g1, g2⟩ := hI
    have e1 := (f1.1 (44, 0, 0) (fun z => absurd (congrArg (fun L : Lc => L.1) z) (by decide))).1
    refine b_X12_copiesRow_44_45_3 (by omega) (fun q => by omega) (fun _ => b_X12_copiesRow_44_45_11 (by omega) (by omega) (go _ ⟨_, rfl, f1.trans (Fr.sI (P := fun L : Lc => L = (45, 0, 0)) rfl), fun j hj => ?_, fun j hj => ?_⟩))
    · rw [sI_1, if_pos rfl, up_at, e1, show ((b : Int) + (k : Int)).toNat = b + k by omega, show ((a : Int) + (k : Int)).toNat = a + k by omega]
      by_cases e : j = k
      · subst e
        rw [if_pos rfl]
      · rw [if_neg (by omega)]
        exact g1 j (by omega)
    · rw [sI_1, if_pos rfl, up_at, show ((b : Int) + (k : Int)).toNat = b + k by omega, if_neg (by omega)]
      exact g2 j hj
  · obtain ⟨σ1, rfl, f1, g1, g2⟩ := hI
    exact b_X12_copiesRow_44_45_3 (by omega) (fun _ => b_X12_copiesRow_44_45_29 ⟨σ1, rfl, f1, g1, g2⟩) (fun q => by omega)
theorem s_copy_45_42 {t : KT} {σ : SG} {a b : Nat} (ha : a + 264 ≤ 1584) (hb : b + 264 ≤ 264) : ∃ σ', Ca 1 200 [aR (some (45, 0, 0)), aI (iZ ((a : Int))), aR (some (42, 0, 0)), aI (iZ ((b : Int)))] (am_hp σ) t (.inl none, am_hp σ', t) ∧ Fr (fun L => L = (42, 0, 0)) σ σ' ∧ (∀ k, k < 264 → σ'.1 (42, 0, 0) (b + k) = σ.1 (45, 0, 0) (a + k)) ∧ ∀ k, (k < b ∨ b + 264 ≤ k) → σ'.1 (42, 0, 0) k = σ.1 (42, 0, 0) k := by
  refine ex_of (e_X12_copiesRow_45_42 ?_)
  refine b_X12_copiesRow_45_42_0 ?_
  refine w_loopS 264 (fun k c => ∃ σ1, c = (3, [some (aR (some (45, 0, 0))), some (aI (iZ ((a : Int)))), some (aR (some (42, 0, 0))), some (aI (iZ ((b : Int)))), some (aI (iZ ((k : Int))))], [], am_hp σ1, t) ∧ Fr (fun L => L = (42, 0, 0)) σ σ1 ∧ (∀ j, j < k → σ1.1 (42, 0, 0) (b + j) = σ.1 (45, 0, 0) (a + j)) ∧ ∀ j, (j < b ∨ b + 264 ≤ j) → σ1.1 (42, 0, 0) j = σ.1 (42, 0, 0) j) ⟨σ, rfl, Fr.refl _ _, fun j hj => absurd hj (Nat.not_lt_zero j), fun _ _ => rfl⟩ (fun k c hk hI go => ?_) (fun c hI => ?_)
  · obtain ⟨σ1, rfl, f1, g1, g2⟩ := hI
    have e1 := (f1.1 (45, 0, 0) (fun z => absurd (congrArg (fun L : Lc => L.1) z) (by decide))).1
    refine b_X12_copiesRow_45_42_3 (by omega) (fun q => by omega) (fun _ => b_X12_copiesRow_45_42_11 (by omega) (by omega) (go _ ⟨_, rfl, f1.trans (Fr.sI (P := fun L : Lc => L = (42, 0, 0)) rfl), fun j hj => ?_, fun j hj => ?_⟩))
    · rw [sI_1, if_pos rfl, up_at, e1, show ((b : Int) + (k : Int)).toNat = b + k by omega, show ((a : Int) + (k : Int)).toNat = a + k by omega]
      by_cases e : j = k
      · subst e
        rw [if_pos rfl]
      · rw [if_neg (by omega)]
        exact g1 j (by omega)
    · rw [sI_1, if_pos rfl, up_at, show ((b : Int) + (k : Int)).toNat = b + k by omega, if_neg (by omega)]
      exact g2 j hj
  · obtain ⟨σ1, rfl, f1, g1, g2⟩ := hI
    exact b_X12_copiesRow_45_42_3 (by omega) (fun _ => b_X12_copiesRow_45_42_29 ⟨σ1, rfl, f1, g1, g2⟩) (fun q => by omega)
theorem s_copy_42_43 {t : KT} {σ : SG} {a b : Nat} (ha : a + 264 ≤ 264) (hb : b + 264 ≤ 264) : ∃ σ', Ca 1 200 [aR (some (42, 0, 0)), aI (iZ ((a : Int))), aR (some (43, 0, 0)), aI (iZ ((b : Int)))] (am_hp σ) t (.inl none, am_hp σ', t) ∧ Fr (fun L => L = (43, 0, 0)) σ σ' ∧ (∀ k, k < 264 → σ'.1 (43, 0, 0) (b + k) = σ.1 (42, 0, 0) (a + k)) ∧ ∀ k, (k < b ∨ b + 264 ≤ k) → σ'.1 (43, 0, 0) k = σ.1 (43, 0, 0) k := by
  refine ex_of (e_X12_copiesRow_42_43 ?_)
  refine b_X12_copiesRow_42_43_0 ?_
  refine w_loopS 264 (fun k c => ∃ σ1, c = (3, [some (aR (some (42, 0, 0))), some (aI (iZ ((a : Int)))), some (aR (some (43, 0, 0))), some (aI (iZ ((b : Int)))), some (aI (iZ ((k : Int))))], [], am_hp σ1, t) ∧ Fr (fun L => L = (43, 0, 0)) σ σ1 ∧ (∀ j, j < k → σ1.1 (43, 0, 0) (b + j) = σ.1 (42, 0, 0) (a + j)) ∧ ∀ j, (j < b ∨ b + 264 ≤ j) → σ1.1 (43, 0, 0) j = σ.1 (43, 0, 0) j) ⟨σ, rfl, Fr.refl _ _, fun j hj => absurd hj (Nat.not_lt_zero j), fun _ _ => rfl⟩ (fun k c hk hI go => ?_) (fun c hI => ?_)
  · obtain ⟨σ1, rfl, f1, g1, g2⟩ := hI
    have e1 := (f1.1 (42, 0, 0) (fun z => absurd (congrArg (fun L : Lc => L.1) z) (by decide))).1
    refine b_X12_copiesRow_42_43_3 (by omega) (fun q => by omega) (fun _ => b_X12_copiesRow_42_43_11 (by omega) (by omega) (go _ ⟨_, rfl, f1.trans (Fr.sI (P := fun L : Lc => L = (43, 0, 0)) rfl), fun j hj => ?_, fun j hj => ?_⟩))
    · rw [sI_1, if_pos rfl, up_at, e1, show ((b : Int) + (k : Int)).toNat = b + k by omega, show ((a : Int) + (k : Int)).toNat = a + k by omega]
      by_cases e : j = k
      · subst e
        rw [if_pos rfl]
      · rw [if_neg (by omega)]
        exact g1 j (by omega)
    · rw [sI_1, if_pos rfl, up_at, show ((b : Int) + (k : Int)).toNat = b + k by omega, if_neg (by omega)]
      exact g2 j hj
  · obtain ⟨σ1, rfl, f1, g1, g2⟩ := hI
    exact b_X12_copiesRow_42_43_3 (by omega) (fun _ => b_X12_copiesRow_42_43_29 ⟨σ1, rfl, f1, g1, g2⟩) (fun q => by omega)
theorem s_copy_43_42 {t : KT} {σ : SG} {a b : Nat} (ha : a + 264 ≤ 264) (hb : b + 264 ≤ 264) : ∃ σ', Ca 1 200 [aR (some (43, 0, 0)), aI (iZ ((a : Int))), aR (some (42, 0, 0)), aI (iZ ((b : Int)))] (am_hp σ) t (.inl none, am_hp σ', t) ∧ Fr (fun L => L = (42, 0, 0)) σ σ' ∧ (∀ k, k < 264 → σ'.1 (42, 0, 0) (b + k) = σ.1 (43, 0, 0) (a + k)) ∧ ∀ k, (k < b ∨ b + 264 ≤ k) → σ'.1 (42, 0, 0) k = σ.1 (42, 0, 0) k := by
  refine ex_of (e_X12_copiesRow_43_42 ?_)
  refine b_X12_copiesRow_43_42_0 ?_
  refine w_loopS 264 (fun k c => ∃ σ1, c = (3, [some (aR (some (43, 0, 0))), some (aI (iZ ((a : Int)))), some (aR (some (42, 0, 0))), some (aI (iZ ((b : Int)))), some (aI (iZ ((k : Int))))], [], am_hp σ1, t) ∧ Fr (fun L => L = (42, 0, 0)) σ σ1 ∧ (∀ j, j < k → σ1.1 (42, 0, 0) (b + j) = σ.1 (43, 0, 0) (a + j)) ∧ ∀ j, (j < b ∨ b + 264 ≤ j) → σ1.1 (42, 0, 0) j = σ.1 (42, 0, 0) j) ⟨σ, rfl, Fr.refl _ _, fun j hj => absurd hj (Nat.not_lt_zero j), fun _ _ => rfl⟩ (fun k c hk hI go => ?_) (fun c hI => ?_)
  · obtain ⟨σ1, rfl, f1, g1, g2⟩ := hI
    have e1 := (f1.1 (43, 0, 0) (fun z => absurd (congrArg (fun L : Lc => L.1) z) (by decide))).1
    refine b_X12_copiesRow_43_42_3 (by omega) (fun q => by omega) (fun _ => b_X12_copiesRow_43_42_11 (by omega) (by omega) (go _ ⟨_, rfl, f1.trans (Fr.sI (P := fun L : Lc => L = (42, 0, 0)) rfl), fun j hj => ?_, fun j hj => ?_⟩))
    · rw [sI_1, if_pos rfl, up_at, e1, show ((b : Int) + (k : Int)).toNat = b + k by omega, show ((a : Int) + (k : Int)).toNat = a + k by omega]
      by_cases e : j = k
      · subst e
        rw [if_pos rfl]
      · rw [if_neg (by omega)]
        exact g1 j (by omega)
    · rw [sI_1, if_pos rfl, up_at, show ((b : Int) + (k : Int)).toNat = b + k by omega, if_neg (by omega)]
      exact g2 j hj
  · obtain ⟨σ1, rfl, f1, g1, g2⟩ := hI
    exact b_X12_copiesRow_43_42_3 (by omega) (fun _ => b_X12_copiesRow_43_42_29 ⟨σ1, rfl, f1, g1, g2⟩) (fun q => by omega)
/-- rows B lie aside -/
def MD (B : RA) (σ : SG) : Prop := Av B ∧ MR B (σ.1 (44, 0, 0)) 0
theorem MA.cp {A : RA} {σ : SG} {g : Nat → Int} {p : Nat} (h : MA A σ) (e : ∀ k, k < 264 → g (p + k) = σ.1 (42, 0, 0) (0 + k)) : MR A g p := h.2.copy h.1.1 (fun r hr => h.1.l hr) e
theorem s_X12_laysAside {t : KT} {σ : SG} {A : RA} (hA : MA A σ) : ∃ σ', Ca 2 202 [aR (some (40, 0, 0))] (am_hp σ) t (.inl none, am_hp σ', t) ∧ MD A σ' ∧ Fr (fun L => L = (44, 0, 0)) σ σ' := by
  obtain ⟨σ1, c1, f1, g1, -⟩ := s_copy_42_44 (t := t) (σ := σ) (a := 0) (b := 0) (by omega) (by omega)
  refine ex_of (e_X12_laysAside ?_)
  exact b_X12_laysAside_0 (c1.up (by omega)) ⟨σ1, rfl, ⟨hA.1, hA.cp g1⟩, f1⟩
theorem s_X12_goesBack {t : KT} {σ : SG} {B : RA} (hB : MD B σ) : ∃ σ', Ca 2 203 [aR (some (40, 0, 0))] (am_hp σ) t (.inl none, am_hp σ', t) ∧ MA B σ' ∧ Fr (fun L => L = (42, 0, 0)) σ σ' := by
  obtain ⟨σ1, c1, f1, g1, -⟩ := s_copy_44_42 (t := t) (σ := σ) (a := 0) (b := 0) (by omega) (by omega)
  refine ex_of (e_X12_goesBack ?_)
  exact b_X12_goesBack_0 (c1.up (by omega)) ⟨σ1, rfl, ⟨hB.1, hB.2.copy hB.1.1 (fun r hr => hB.1.l hr) g1⟩, f1⟩
/-- only the rows that are kept, and how many they are -/
def inKp (L : Lc) : Prop := L = (40, 0, 0) ∨ L = (45, 0, 0)
theorem s_X12_keeps {t : KT} {σ : SG} {B : RA} {l : List RA} (hB : MD B σ) (hH : MH l σ) : ∃ σ', Ca 2 204 [aR (some (40, 0, 0))] (am_hp σ) t (.inl none, am_hp σ', t) ∧ MH ((B :: l).take 6) σ' ∧ Fr inKp σ σ' ∧ (∀ j, j ≠ 17 → σ'.1 (40, 0, 0) j = σ.1 (40, 0, 0) j) ∧ σ'.2.1 (40, 0, 0) = σ.2.1 (40, 0, 0) := by
  obtain ⟨h6, e17, hk⟩ := hH
  have lB : ∀ r, r < rN B → rLn B r ≤ 60 := fun r hr => hB.1.l hr
  refine ex_of (e_X12_keeps ?_)
  refine wq (fun Q hQ => ?_)
  -- from the copy on: n rows are kept, the list is l'
  have fin : ∀ (σ1 : SG) (u : Option AV) (l' : List RA), l'.length < 6 → σ1.1 (40, 0, 0) 17 = l'.length → Fr inKp σ σ1 → (∀ j, j ≠ 17 → σ1.1 (40, 0, 0) j = σ.1 (40, 0, 0) j) → σ1.2.1 (40, 0, 0) = σ.2.1 (40, 0, 0) → (∀ j A, l'[j]? = some A → Av A ∧ MR A (σ1.1 (45, 0, 0)) (264 * (l'.length - 1 - j))) → (B :: l).take 6 = B :: l' → Wp k_X12_keeps 1 (55, [some (aR (some (40, 0, 0))), u], [], am_hp σ1, t) Q := by
    intro σ1 u l' hl e1 f1 o1 oJ h1 hcut
    obtain ⟨σ2, c2, f2, g2, g3⟩ := s_copy_44_45 (t := t) (σ := σ1) (a := 0) (b := 264 * l'.length) (by omega) (by omega)
    have e44 := (f1.1 (44, 0, 0) (by unfold inKp; intro z; rcases z with z | z <;> exact absurd (congrArg (fun L : Lc => L.1) z) (by decide))).1
    have e40 := f2.1 (40, 0, 0) (fun z => absurd (congrArg (fun L : Lc => L.1) z) (by decide))
    have ecast : (264 * (σ1.1 (40, 0, 0) 17)) = ((264 * l'.length : Nat) : Int) := by rw [e1]; omega
    refine b_X12_keeps_55 (by rw [ecast]; exact c2.up (by omega)) (hQ _ ⟨_, rfl, ?_, ?_, ?_, ?_⟩)
    · rw [hcut]
      have e45 : (sI σ2 (40, 0, 0) (up (σ2.1 (40, 0, 0)) 17 (σ2.1 (40, 0, 0) 17 + 1))).1 (45, 0, 0) = σ2.1 (45, 0, 0) := by simp [sI_1]
      refine ⟨by simp only [List.length_cons]; omega, ?_, fun j A hj => ?_⟩
      · rw [sI_1, if_pos rfl, up_at, if_pos rfl, e40.1, e1, List.length_cons]
        omega
      · rw [e45]
        cases j with
        | zero =>
          cases hj
          refine ⟨hB.1, ?_⟩
          rw [show (B :: l').length - 1 - 0 = l'.length by simp]
          refine hB.2.copy hB.1.1 lB (fun k hk2 => ?_)
          rw [g2 k hk2, e44]
        | succ j =>
          have hj : l'[j]? = some A := hj
          have hlt : j < l'.length := by
            apply Decidable.byContradiction
            intro z
            rw [List.getElem?_eq_none (by omega)] at hj
            cases hj
          have hA := h1 j A hj
          refine ⟨hA.1, ?_⟩
          rw [show (B :: l').length - 1 - (j + 1) = l'.length - 1 - j by simp only [List.length_cons]; omega]
          refine hA.2.copy hA.1.1 (fun r hr => hA.1.l hr) (fun k hk2 => ?_)
          exact g3 _ (Or.inl (by omega))
    · exact (f1.trans (f2.mono (fun L z => Or.inr z))).trans (Fr.sI (P := inKp) (Or.inl rfl))
    · intro j hj
      rw [sI_1, if_pos rfl, up_at, if_neg hj, e40.1]
      exact o1 j hj
    · show σ2.2.1 (40, 0, 0) = _
      rw [e40.2.1, oJ]
  by_cases h : l.length = 6
  · refine b_X12_keeps_0 (by omega) (fun q => by omega) (fun _ => b_X12_keeps_9 ?_)
    have t40 : ∀ j, (sI σ (40, 0, 0) (up (σ.1 (40, 0, 0)) 17 (σ.1 (40, 0, 0) 17 - 1))).1 (40, 0, 0) j = if j = 17 then 5 else σ.1 (40, 0, 0) j := fun j => by
      rw [sI_1, if_pos rfl, up_at, e17, h]
      rfl
    have t45 : (sI σ (40, 0, 0) (up (σ.1 (40, 0, 0)) 17 (σ.1 (40, 0, 0) 17 - 1))).1 (45, 0, 0) = σ.1 (45, 0, 0) := by simp [sI_1]
    have tf : Fr inKp σ (sI σ (40, 0, 0) (up (σ.1 (40, 0, 0)) 17 (σ.1 (40, 0, 0) 17 - 1))) := Fr.sI (P := inKp) (Or.inl rfl)
    have tJ : (sI σ (40, 0, 0) (up (σ.1 (40, 0, 0)) 17 (σ.1 (40, 0, 0) 17 - 1))).2.1 (40, 0, 0) = σ.2.1 (40, 0, 0) := rfl
    generalize (sI σ (40, 0, 0) (up (σ.1 (40, 0, 0)) 17 (σ.1 (40, 0, 0) 17 - 1))) = τ at t40 t45 tf tJ
    refine w_loopS 1320 (fun k c => ∃ σ1, c = (21, [some (aR (some (40, 0, 0))), some (aI (iZ ((k : Int))))], [], am_hp σ1, t) ∧ Fr inKp σ σ1 ∧ (∀ j, σ1.1 (40, 0, 0) j = if j = 17 then 5 else σ.1 (40, 0, 0) j) ∧ σ1.2.1 (40, 0, 0) = σ.2.1 (40, 0, 0) ∧ (∀ p, p < k → σ1.1 (45, 0, 0) p = σ.1 (45, 0, 0) (p + 264)) ∧ ∀ p, k ≤ p → σ1.1 (45, 0, 0) p = σ.1 (45, 0, 0) p) ⟨τ, rfl, tf, t40, tJ, fun p hp => absurd hp (Nat.not_lt_zero p), fun p _ => by rw [t45]⟩ (fun k c hk2 hI go => ?_) (fun c hI => ?_)
    · obtain ⟨σ1, rfl, f1, o1, oJ, g1, g2⟩ := hI
      have e1 : σ1.1 (40, 0, 0) 17 = 5 := o1 17
      refine b_X12_keeps_21 (by omega) (by omega) (fun q => by omega) (fun _ => b_X12_keeps_33 (by omega) (by omega) (go _ ⟨_, rfl, f1.trans (Fr.sI (P := inKp) (Or.inr rfl)), fun j => ?_, oJ, fun p hp => ?_, fun p hp => ?_⟩))
      · rw [show (sI σ1 (45, 0, 0) (up (σ1.1 (45, 0, 0)) (k : Int).toNat (σ1.1 (45, 0, 0) ((k : Int) + 264).toNat))).1 (40, 0, 0) = σ1.1 (40, 0, 0) by simp [sI_1]]
        exact o1 j
      · rw [sI_1, if_pos rfl, up_at, Int.toNat_natCast, show ((k : Int) + 264).toNat = k + 264 by omega]
        by_cases e : p = k
        · subst e
          rw [if_pos rfl]
          exact g2 _ (by omega)
        · rw [if_neg e]
          exact g1 p (by omega)
      · rw [sI_1, if_pos rfl, up_at, Int.toNat_natCast, if_neg (by omega)]
        exact g2 p (by omega)
    · obtain ⟨σ1, rfl, f1, o1, oJ, g1, g2⟩ := hI
      have e1 : σ1.1 (40, 0, 0) 17 = 5 := o1 17
      have hl5 : (l.take 5).length = 5 := by rw [List.length_take]; omega
      refine b_X12_keeps_21 (by omega) (by omega) (fun _ => ?_) (fun q => by omega)
      refine fin σ1 _ (l.take 5) (by omega) (by rw [e1, hl5]; rfl) f1 (fun j hj => by rw [o1 j, if_neg hj]) oJ (fun j A hj => ?_) rfl
      have hj5 : j < 5 := by
        apply Decidable.byContradiction
        intro z
        rw [List.getElem?_eq_none (by omega)] at hj
        cases hj
      rw [List.getElem?_take, if_pos hj5] at hj
      have hA := hk j A hj
      refine ⟨hA.1, hA.2.copy hA.1.1 (fun r hr => hA.1.l hr) (fun k hk2 => ?_)⟩
      rw [hl5, g1 _ (by omega), h, show 264 * (6 - 1 - j) + k = 264 * (5 - 1 - j) + k + 264 by omega]
  · refine b_X12_keeps_0 (by omega) (fun _ => ?_) (fun q => by omega)
    refine fin σ _ l (by omega) e17 (Fr.refl _ _) (fun _ _ => rfl) rfl hk ?_
    rw [List.take_of_length_le (by simp only [List.length_cons]; omega)]
