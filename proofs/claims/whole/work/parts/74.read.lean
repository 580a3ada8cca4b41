/-! THE MODEL: what is asked of rows -/
set_option maxRecDepth 4000
def moI : RZ → Int
  | .inl z => z
  | .inr _ => 0
def moC : RZ → Int
  | .inl _ => 0
  | .inr c => (c : Int)
/-- nothing is changed but what works -/
def MF (σ σ' : SG) : Prop := Fr inQ σ σ' ∧ (∀ j, j ≠ 0 → j ≠ 33 → j ≠ 34 → σ'.1 (40, 0, 0) j = σ.1 (40, 0, 0) j) ∧ σ'.2.1 (40, 0, 0) = σ.2.1 (40, 0, 0)
theorem MF.refl (σ : SG) : MF σ σ := ⟨Fr.refl _ _, fun _ _ _ _ => rfl, rfl⟩
theorem MF.trans {a b c : SG} (h : MF a b) (g : MF b c) : MF a c := ⟨h.1.trans g.1, fun j h0 h1 h2 => by rw [g.2.1 j h0 h1 h2]; exact h.2.1 j h0 h1 h2, by rw [g.2.2]; exact h.2.2⟩
theorem QF.m {σ σ' : SG} (h : QF σ σ') : MF σ σ' := ⟨h.1, fun j _ h1 h2 => h.2.1 j h1 h2, h.2.2⟩
theorem MF.ck {σ : SG} {z : Int} : MF σ (cd σ z) := ⟨cd_fr.mono (fun L h => Or.inl h), fun j h _ _ => cd_at h, rfl⟩
theorem MA.m {A : RA} {σ σ' : SG} (h : MA A σ) (f : MF σ σ') : MA A σ' := h.fr f.1 (by unfold inQ; omega)
theorem MC.m {σ σ' : SG} (h : MC σ) (f : MF σ σ') : MC σ' := h.fr f.1 (by unfold inQ; omega) (by unfold inQ; omega)
theorem QF.c0 {σ σ' : SG} (h : QF σ σ') : σ'.1 (40, 0, 0) 0 = σ.1 (40, 0, 0) 0 := h.2.1 0 (by omega) (by omega)
theorem WD.ck {ch : Nat → Nat} {f : Nat → Int} {n : Nat} {σ : SG} {z : Int} (h : WD ch f n σ) : WD ch f n (cd σ z) := by
  obtain ⟨⟨a1, a2, a3⟩, ⟨b1, b2, b3⟩, c, d⟩ := h
  have o : ∀ a : Nat, a ≠ 40 → (cd σ z).1 (a, 0, 0) = σ.1 (a, 0, 0) := fun a ha => (cd_fr.1 (a, 0, 0) ha).1
  exact ⟨⟨by rw [cd_at (by omega)]; exact a1, by rw [o 51 (by omega)]; exact a2, by rw [o 52 (by omega)]; exact a3⟩, ⟨by rw [cd_at (by omega)]; exact b1, b2, by rw [o 48 (by omega), o 49 (by omega)]; exact b3⟩, c, d.fr cd_fr (by decide) (by decide)⟩
theorem s_X12_packsRow {t : KT} {σ : SG} {A : RA} {r : Nat} (hA : MA A σ) (hC : MC σ) (hr : r < rN A) : ∃ σ', Ca 6 235 [aR (some (40, 0, 0)), aI (iZ ((r : Int)))] (am_hp σ) t (.inl (some (aI (iZ (((nW (chA A r) (rLn A r)) : Int))))), am_hp σ', t) ∧ WD (chA A r) (rNu A r) (rLn A r) σ' ∧ VP (rPr A) σ' ∧ QF σ σ' := by
  obtain ⟨σ1, c1, g1, g2, g3⟩ := s_X12_lays (t := t) hA hr
  obtain ⟨σ2, c2, k1, k2, k3, k4⟩ := s_X12_packs (t := t) (hC.q g3) g1 g2 hA.1.2.1
  have e1 : σ1.1 (42, 0, 0) 1 = rRu A := (hA.q g3).2.2.1
  have q2 := g3.trans k4
  refine ex_of (e_X12_packsRow ?_)
  exact b_X12_packsRow_0 (c1.up (by omega)) (by rw [e1]; exact c2.up (by omega)) ⟨σ2, rfl, ⟨k1, k2, wayF_GW (hA.1.v hr), hC.q q2⟩, k3, q2⟩
theorem s_X12_packsBy {t : KT} {σ : SG} {A : RA} {r u : Nat} (hA : MA A σ) (hC : MC σ) (hr : r < rN A) (hu : u ≤ 2) : ∃ σ', Ca 6 291 [aR (some (40, 0, 0)), aI (iZ ((r : Int))), aI (iZ ((u : Int)))] (am_hp σ) t (.inl (some (aI (iZ ((nW (wayF u (rPr A) (rNu A r) (rLn A r)) (rLn A r) : Int))))), am_hp σ', t) ∧ WD (wayF u (rPr A) (rNu A r) (rLn A r)) (rNu A r) (rLn A r) σ' ∧ VP (rPr A) σ' ∧ QF σ σ' := by
  obtain ⟨σ1, c1, g1, g2, g3⟩ := s_X12_lays (t := t) hA hr
  obtain ⟨σ2, c2, k1, k2, k3, k4⟩ := s_X12_packs (t := t) (hC.q g3) g1 g2 hu
  have q2 := g3.trans k4
  refine ex_of (e_X12_packsBy ?_)
  exact b_X12_packsBy_0 (c1.up (by omega)) (c2.up (by omega)) ⟨σ2, rfl, ⟨k1, k2, wayF_GW (hA.1.v hr), hC.q q2⟩, k3, q2⟩
theorem s_X12_wordsAll {t : KT} {σ : SG} {A : RA} (hA : MA A σ) (hC : MC σ) : ∃ σ', Ca 7 248 [aR (some (40, 0, 0))] (am_hp σ) t (.inl (some (aI (iZ (smU (fun r => ((nW (chA A r) (rLn A r)) : Int)) (rN A))))), am_hp σ', t) ∧ QF σ σ' := by
  have e0 := hA.n
  refine ex_of (e_X12_wordsAll ?_)
  refine b_X12_wordsAll_0 ?_
  refine w_loopS (rN A) (fun r c => ∃ σ1, c = (4, [some (aR (some (40, 0, 0))), some (aI (iZ (smU (fun r => ((nW (chA A r) (rLn A r)) : Int)) r))), some (aI (iZ ((r : Int))))], [], am_hp σ1, t) ∧ QF σ σ1) ⟨σ, rfl, QF.refl σ⟩ (fun r c hr hI go => ?_) (fun c hI => ?_)
  · obtain ⟨σ1, rfl, q1⟩ := hI
    have A1 := hA.q q1
    have e1 := A1.n
    obtain ⟨σ2, c2, -, -, q2⟩ := s_X12_packsRow (t := t) A1 (hC.q q1) hr
    exact b_X12_wordsAll_4 (by omega) (by omega) (fun q => by omega) (fun _ => b_X12_wordsAll_14 (c2.up (by omega)) (go _ ⟨σ2, rfl, q1.trans q2⟩))
  · obtain ⟨σ1, rfl, q1⟩ := hI
    have e1 := (hA.q q1).n
    exact b_X12_wordsAll_4 (by omega) (by omega) (fun _ => b_X12_wordsAll_28 ⟨σ1, rfl, q1⟩) (fun q => by omega)
theorem s_X12_priceOf {t : KT} {σ : SG} {A : RA} {r : Nat} (hA : MA A σ) (hC : MC σ) (hr : r < rN A) : ∃ σ', Ca 7 250 [aR (some (40, 0, 0)), aI (iZ ((r : Int)))] (am_hp σ) t (.inl (some (aI (iZ (prA A r)))), am_hp σ', t) ∧ QF σ σ' := by
  obtain ⟨σ1, c1, g1, g2, g3⟩ := s_X12_packsRow (t := t) hA hC hr
  have hn := g1.n
  refine ex_of (e_X12_priceOf ?_)
  refine b_X12_priceOf_0 (c1.up (by omega)) (by omega) (fun _ => b_X12_priceOf_14 ((s_X12_priceNow g1 g2).up (by omega)) (b_X12_priceOf_18 ⟨σ1, rfl, g3⟩)) (fun q => b_X12_priceOf_10 (b_X12_priceOf_18 ⟨σ1, ?_, g3⟩))
  have e : (nW (chA A r) (rLn A r)) = 0 := by omega
  rw [prA, e]
  rfl
theorem s_X12_pricesAll {t : KT} {σ : SG} {A : RA} (hA : MA A σ) (hC : MC σ) : ∃ σ', Ca 8 249 [aR (some (40, 0, 0))] (am_hp σ) t (.inl (some (aI (iZ (smU (prA A) (rN A))))), am_hp σ', t) ∧ QF σ σ' := by
  have e0 := hA.n
  refine ex_of (e_X12_pricesAll ?_)
  refine b_X12_pricesAll_0 ?_
  refine w_loopS (rN A) (fun r c => ∃ σ1, c = (4, [some (aR (some (40, 0, 0))), some (aI (iZ (smU (prA A) r))), some (aI (iZ ((r : Int))))], [], am_hp σ1, t) ∧ QF σ σ1) ⟨σ, rfl, QF.refl σ⟩ (fun r c hr hI go => ?_) (fun c hI => ?_)
  · obtain ⟨σ1, rfl, q1⟩ := hI
    have A1 := hA.q q1
    have e1 := A1.n
    obtain ⟨σ2, c2, q2⟩ := s_X12_priceOf (t := t) A1 (hC.q q1) hr
    exact b_X12_pricesAll_4 (by omega) (by omega) (fun q => by omega) (fun _ => b_X12_pricesAll_14 (c2.up (by omega)) (go _ ⟨σ2, rfl, q1.trans q2⟩))
  · obtain ⟨σ1, rfl, q1⟩ := hI
    have e1 := (hA.q q1).n
    exact b_X12_pricesAll_4 (by omega) (by omega) (fun _ => b_X12_pricesAll_28 ⟨σ1, rfl, q1⟩) (fun q => by omega)
theorem m_setting {t : KT} {σ : SG} {A : RA} {x : Int} (hA : MA A σ) (hC : MC σ) (hx : -2147483648 ≤ x ∧ x < 2147483648) : ∃ σ', Ca 9 251 [aR (some (40, 0, 0)), aI (iZ x)] (am_hp σ) t (.inl (some (aI (iZ (moI (A_setting A x))))), am_hp σ', t) ∧ σ'.1 (40, 0, 0) 0 = moC (A_setting A x) ∧ MF σ σ' := by
  have c1 := s_X12_isIn (t := t) (σ := σ) (i_rg hx) (i_rg (z := 0) (by omega)) (i_rg (z := 5) (by omega))
  have c2 := s_X12_goes (t := t) (σ := σ) (P := 0 ≤ x ∧ x ≤ 5)
  have m1 : MF σ (cd σ (bz (¬ (0 ≤ x ∧ x ≤ 5)))) := MF.ck
  have A1 := hA.m m1
  have C1 := hC.m m1
  refine ex_of (e_X12_setting ?_)
  refine b_X12_setting_0 hx (c1.up (by omega)) (c2.up (by omega)) bz_rg (fun q => ?_) (fun q => ?_)
  · have hx5 := bz_n.mp q
    have z0 : ∀ σ2, QF (cd σ (bz (¬ (0 ≤ x ∧ x ≤ 5)))) σ2 → σ2.1 (40, 0, 0) 0 = 0 := fun σ2 h => by rw [h.c0, cd_0, bz_f (fun z => z hx5)]
    unfold A_setting
    refine b_X12_setting_18 hx (fun e => ?_) (fun e => ?_) (fun e => ?_) (fun e => ?_)
    · subst e
      exact b_X12_setting_44 ((s_X12_numbersAll A1).up (by omega)) ⟨_, rfl, z0 _ (QF.refl _), m1⟩
    · subst e
      obtain ⟨σ2, c3, q3⟩ := s_X12_wordsAll (t := t) A1 C1
      exact b_X12_setting_49 (c3.up (by omega)) ⟨σ2, rfl, z0 _ q3, m1.trans q3.m⟩
    · subst e
      obtain ⟨σ2, c3, q3⟩ := s_X12_pricesAll (t := t) A1 C1
      exact b_X12_setting_54 (c3.up (by omega)) ⟨σ2, rfl, z0 _ q3, m1.trans q3.m⟩
    · rcases (by omega : x = 0 ∨ x = 1 ∨ x = 2) with rfl | rfl | rfl
      · exact b_X12_setting_59 (by omega) ⟨_, by rw [show (cd σ (bz (¬ ((0 : Int) ≤ 0 ∧ (0 : Int) ≤ 5)))).1 (42, 0, 0) (0 : Int).toNat = rN A from A1.2.1]; rfl, z0 _ (QF.refl _), m1⟩
      · exact b_X12_setting_59 (by omega) ⟨_, by rw [show (cd σ (bz (¬ ((0 : Int) ≤ 1 ∧ (1 : Int) ≤ 5)))).1 (42, 0, 0) (1 : Int).toNat = rRu A from A1.2.2.1]; rfl, z0 _ (QF.refl _), m1⟩
      · exact b_X12_setting_59 (by omega) ⟨_, by rw [show (cd σ (bz (¬ ((0 : Int) ≤ 2 ∧ (2 : Int) ≤ 5)))).1 (42, 0, 0) (2 : Int).toNat = rSk A from A1.2.2.2.1]; rfl, z0 _ (QF.refl _), m1⟩
  · have hx5 := bz_0.mp q
    unfold A_setting
    rw [if_neg (by omega), if_neg (by omega), if_neg (by omega), if_neg (by omega), if_neg (by omega), if_neg (by omega)]
    exact b_X12_setting_16 ⟨_, rfl, by rw [cd_0, bz_t (p := ¬ (0 ≤ x ∧ x ≤ 5)) hx5]; rfl, m1⟩
