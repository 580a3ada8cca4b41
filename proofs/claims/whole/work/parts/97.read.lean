/-! THE MODEL: a script is read -/
set_option maxRecDepth 4000
theorem l_109 {t : KT} {Q : RS → Prop} {σ : SG} {k c : Nat} (hc : c < 10) (hn : ¬ (c = 2 ∨ c = 3 ∨ c = 8)) (q : Q (.inl none, am_hp σ, t)) : Wp k_X12_readsRest 3 (79, [some (aR (some (40, 0, 0))), some (aI (iZ ((k : Int)))), some (aI (iZ ((c : Int))))], [], am_hp σ, t) Q :=
  b_X12_readsRest_79 (by omega) (fun z => absurd z (by omega)) (fun _ => b_X12_readsRest_84 (by omega) (fun z => absurd z (by omega)) (fun _ => b_X12_readsRest_89 (by omega) (fun _ => b_X12_readsRest_109 q) (fun z => absurd z (by omega))))
theorem l_95 {t : KT} {Q : RS → Prop} {σ : SG} {k c : Nat} (hn : c = 2 ∨ c = 3 ∨ c = 8) (q : Wp k_X12_readsRest 3 (95, [some (aR (some (40, 0, 0))), some (aI (iZ ((k : Int)))), some (aI (iZ ((c : Int))))], [], am_hp σ, t) Q) : Wp k_X12_readsRest 3 (79, [some (aR (some (40, 0, 0))), some (aI (iZ ((k : Int)))), some (aI (iZ ((c : Int))))], [], am_hp σ, t) Q :=
  b_X12_readsRest_79 (by omega) (fun _ => q) (fun _ => b_X12_readsRest_84 (by omega) (fun _ => q) (fun _ => b_X12_readsRest_89 (by omega) (fun z => absurd z (by omega)) (fun _ => q)))
theorem l_65 {t : KT} {Q : RS → Prop} {σ : SG} {k c : Nat} (hc : c < 10) (hn : ¬ (c = 0 ∨ c = 5)) (q : Wp k_X12_readsRest 3 (65, [some (aR (some (40, 0, 0))), some (aI (iZ ((k : Int)))), some (aI (iZ ((c : Int))))], [], am_hp σ, t) Q) : Wp k_X12_readsRest 3 (56, [some (aR (some (40, 0, 0))), some (aI (iZ ((k : Int)))), some (aI (iZ ((c : Int))))], [], am_hp σ, t) Q :=
  b_X12_readsRest_56 (by omega) (fun z => absurd z (by omega)) (fun _ => b_X12_readsRest_60 (by omega) (fun z => absurd z (by omega)) (fun _ => q))
theorem l_79 {t : KT} {Q : RS → Prop} {σ : SG} {k c : Nat} (hn : c = 0 ∨ c = 5) (q : Wp k_X12_readsRest 3 (79, [some (aR (some (40, 0, 0))), some (aI (iZ ((k : Int)))), some (aI (iZ ((c : Int))))], [], am_hp σ, t) Q) : Wp k_X12_readsRest 3 (56, [some (aR (some (40, 0, 0))), some (aI (iZ ((k : Int)))), some (aI (iZ ((c : Int))))], [], am_hp σ, t) Q :=
  b_X12_readsRest_56 (by omega) (fun _ => q) (fun _ => b_X12_readsRest_60 (by omega) (fun _ => q) (fun z => absurd z (by omega)))
theorem l_79_f {t : KT} {Q : RS → Prop} {σ : SG} {k c : Nat} {e : PE} (hk : k < 60) (hc : c < 10) (h : FE e σ) (q : ∀ σ', FE e σ' → ZS k σ σ' → Q (.inl none, am_hp σ', t)) : Wp k_X12_readsRest 3 (79, [some (aR (some (40, 0, 0))), some (aI (iZ ((k : Int)))), some (aI (iZ ((c : Int))))], [], am_hp σ, t) Q := by
  by_cases hn : c = 2 ∨ c = 3 ∨ c = 8
  · refine l_95 hn (b_X12_readsRest_95 ((s_number_f h).up (by omega)) (by omega) ?_)
    rw [Int.toNat_natCast]
    exact b_X12_readsRest_109 (q _ (h.e (by rw [sI_1, if_neg (lc_ne (by omega))])) (ZS.i (Or.inr rfl)))
  · exact l_109 hc hn (q σ h (ZS.refl _ _))
theorem l_56_f {t : KT} {Q : RS → Prop} {σ : SG} {k c : Nat} {e : PE} (hk : k < 60) (hc : c < 10) (h : FE e σ) (q : ∀ σ', FE e σ' → ZS k σ σ' → Q (.inl none, am_hp σ', t)) : Wp k_X12_readsRest 3 (56, [some (aR (some (40, 0, 0))), some (aI (iZ ((k : Int)))), some (aI (iZ ((c : Int))))], [], am_hp σ, t) Q := by
  by_cases hn : c = 0 ∨ c = 5
  · exact l_79 hn (l_79_f hk hc h q)
  · refine l_65 hc hn (b_X12_readsRest_65 ((s_number_f h).up (by omega)) (by omega) ?_)
    rw [Int.toNat_natCast]
    exact l_79_f hk hc (h.e (by rw [sI_1, if_neg (lc_ne (by omega))])) (fun σ' h' r' => q σ' h' ((ZS.i (Or.inl rfl)).trans r'))
theorem l_41_f {t : KT} {Q : RS → Prop} {σ : SG} {k c : Nat} {e : PE} (hk : k < 60) (hc : c < 10) (h : FE e σ) (q : ∀ σ', FE e σ' → ZS k σ σ' → Q (.inl none, am_hp σ', t)) : Wp k_X12_readsRest 3 (41, [some (aR (some (40, 0, 0))), some (aI (iZ ((k : Int)))), some (aI (iZ ((c : Int))))], [], am_hp σ, t) Q := by
  refine b_X12_readsRest_41 (by omega) (fun _ => l_56_f hk hc h q) (fun z => b_X12_readsRest_46 ((s_anyName_f h).up (by omega)) (by omega) ?_)
  rw [Int.toNat_natCast]
  exact l_56_f hk hc (h.e (by rw [sJ_1])) (fun σ' h' r' => q σ' h' ((ZS.j (Or.inr rfl)).trans r'))
/-- the numbers of a command are read -/
theorem l_56 {t : KT} {Q : RS → Prop} {σ : SG} {T : TB} {q k c : Nat} (hk : k < 60) (hc : c < 9) (hT : TQ T q σ) (g : GN σ)
    (ok : ∀ (σ' : SG) (b : Int × Int × Nat), nbsP T c q = .inl b → TQ T b.2.2 σ' → GN σ' → ZS k σ σ' → σ'.2.1 (60, 0, 0) = σ.2.1 (60, 0, 0) ∧ σ'.2.1 (61, 0, 0) = σ.2.1 (61, 0, 0) → (hasI c = true → σ'.1 (56, 0, 0) k = b.1 ∧ 0 ≤ b.1 ∧ b.1 ≤ 999999999) → (hasV c = true → (hasI c = false → σ'.1 (56, 0, 0) k = b.2.1) ∧ (hasI c = true → σ'.1 (57, 0, 0) k = b.2.1) ∧ 0 ≤ b.2.1 ∧ b.2.1 ≤ 999999999) → Q (.inl none, am_hp σ', t))
    (no : ∀ (σ' : SG) (e : PE), nbsP T c q = .inr e → FE e σ' → ZS k σ σ' → Q (.inl none, am_hp σ', t)) : Wp k_X12_readsRest 3 (56, [some (aR (some (40, 0, 0))), some (aI (iZ ((k : Int)))), some (aI (iZ ((c : Int))))], [], am_hp σ, t) Q := by
  by_cases hA : c = 0 ∨ c = 5
  · obtain ⟨e1, e2, e3⟩ := nb_A (T := T) (q := q) hA
    exact l_79 hA (l_109 (by omega) (by omega) (ok σ _ e1 hT g (ZS.refl _ _) ⟨rfl, rfl⟩ (fun z => by rw [e2] at z; cases z) (fun z => by rw [e3] at z; cases z)))
  · by_cases hn : tK T q = 2 ∧ ¬ (tN T q < 0 ∨ 999999999 < tN T q)
    · obtain ⟨σ1, c1, q1, g1, f1⟩ := s_number_ok (t := t) (lo := 0) (hi := 999999999) hT g hn (by omega)
      have hb := (tK_2 hn.1).2
      have ei : (sI σ1 (56, 0, 0) (up (σ1.1 (56, 0, 0)) k (tN T q : Int))).1 (56, 0, 0) k = (tN T q : Int) := by rw [sI_1, if_pos rfl, up_at, if_pos rfl]
      have q2 : TQ T (tE T q) (sI σ1 (56, 0, 0) (up (σ1.1 (56, 0, 0)) k (tN T q : Int))) := q1.e (by rw [sI_1, if_neg (lc_ne (by omega))]) (by rw [sI_2]) (by rw [sI_1, if_neg (lc_ne (by omega))])
      have g2 : GN (sI σ1 (56, 0, 0) (up (σ1.1 (56, 0, 0)) k (tN T q : Int))) := g1.e (by rw [sI_1, if_neg (lc_ne (by omega))])
      have r2 : ZS k σ (sI σ1 (56, 0, 0) (up (σ1.1 (56, 0, 0)) k (tN T q : Int))) := f1.s.trans (ZS.i (Or.inl rfl))
      have s2 : (sI σ1 (56, 0, 0) (up (σ1.1 (56, 0, 0)) k (tN T q : Int))).2.1 (60, 0, 0) = σ.2.1 (60, 0, 0) ∧ (sI σ1 (56, 0, 0) (up (σ1.1 (56, 0, 0)) k (tN T q : Int))).2.1 (61, 0, 0) = σ.2.1 (61, 0, 0) := ⟨by rw [sI_2]; exact (f1.1.1 _ (n_in40 (by omega))).2.1, by rw [sI_2]; exact (f1.1.1 _ (n_in40 (by omega))).2.1⟩
      refine l_65 (by omega) hA (b_X12_readsRest_65 (c1.up (by omega)) (by omega) ?_)
      rw [Int.toNat_natCast]
      generalize (sI σ1 (56, 0, 0) (up (σ1.1 (56, 0, 0)) k (tN T q : Int))) = τ at ei q2 g2 r2 s2 ⊢
      by_cases hD : c = 2 ∨ c = 3 ∨ c = 8
      · obtain ⟨e1, e2, e3⟩ := nb_D (T := T) (q := q) hD
        rw [numP_ok hn] at e1
        by_cases hm : tK T (tE T q) = 2 ∧ ¬ (tN T (tE T q) < 0 ∨ 999999999 < tN T (tE T q))
        · rw [numP_ok hm] at e1
          have hb2 := (tK_2 hm.1).2
          obtain ⟨σ3, c3, q3, g3, f3⟩ := s_number_ok (t := t) (lo := 0) (hi := 999999999) q2 g2 hm (by omega)
          refine l_95 hD (b_X12_readsRest_95 (c3.up (by omega)) (by omega) ?_)
          rw [Int.toNat_natCast]
          refine b_X12_readsRest_109 (ok _ _ e1 (q3.e (by rw [sI_1, if_neg (lc_ne (by omega))]) (by rw [sI_2]) (by rw [sI_1, if_neg (lc_ne (by omega))])) (g3.e (by rw [sI_1, if_neg (lc_ne (by omega))])) ((r2.trans f3.s).trans (ZS.i (Or.inr rfl))) ⟨by rw [sI_2, (f3.1.1 _ (n_in40 (by omega))).2.1]; exact s2.1, by rw [sI_2, (f3.1.1 _ (n_in40 (by omega))).2.1]; exact s2.2⟩ (fun _ => ⟨?_, by omega, by omega⟩) (fun _ => ⟨(fun z => by rw [e2] at z; cases z), fun _ => ?_, by show (0 : Int) ≤ ((tN T (tE T q) : Nat) : Int); omega, by show ((tN T (tE T q) : Nat) : Int) ≤ 999999999; omega⟩))
          · rw [sI_1, if_neg (lc_ne (by omega)), (f3.1.1 _ (n_in40 (by omega))).1]
            exact ei
          · rw [sI_1, if_pos rfl, up_at, if_pos rfl]
        · rw [numP_no hm] at e1
          obtain ⟨z, σ3, c3, q3, f3⟩ := s_number_no (t := t) (lo := 0) (hi := 999999999) q2 g2 hm (by omega)
          refine l_95 hD (b_X12_readsRest_95 (c3.up (by omega)) (by omega) ?_)
          rw [Int.toNat_natCast]
          exact b_X12_readsRest_109 (no _ _ e1 (q3.e (by rw [sI_1, if_neg (lc_ne (by omega))])) ((r2.trans f3.s).trans (ZS.i (Or.inr rfl))))
      · refine l_109 (by omega) hD ?_
        by_cases h4 : c = 4
        · subst h4
          obtain ⟨e1, e2, e3⟩ := nb_C (T := T) (q := q)
          rw [numP_ok hn] at e1
          exact ok τ _ e1 q2 g2 r2 s2 (fun _ => ⟨ei, by omega, by omega⟩) (fun z => by rw [e3] at z; cases z)
        · obtain ⟨e1, e2, e3⟩ := nb_B (T := T) (q := q) (c := c) (by omega)
          rw [numP_ok hn] at e1
          exact ok τ _ e1 q2 g2 r2 s2 (fun z => by rw [e2] at z; cases z) (fun _ => ⟨fun _ => ei, (fun z => by rw [e2] at z; cases z), by show (0 : Int) ≤ ((tN T q : Nat) : Int); omega, by show ((tN T q : Nat) : Int) ≤ 999999999; omega⟩)
    · obtain ⟨z, σ1, c1, q1, f1⟩ := s_number_no (t := t) (lo := 0) (hi := 999999999) hT g hn (by omega)
      have eN : nbsP T c q = .inr (if tK T q ≠ 2 then 1 else 2, tS T q) := by
        by_cases hD : c = 2 ∨ c = 3 ∨ c = 8
        · rw [(nb_D (T := T) (q := q) hD).1]; exact numP_no hn
        · by_cases h4 : c = 4
          · subst h4
            rw [(nb_C (T := T) (q := q)).1]; exact numP_no hn
          · rw [(nb_B (T := T) (q := q) (c := c) (by omega)).1]; exact numP_no hn
      refine l_65 (by omega) hA (b_X12_readsRest_65 (c1.up (by omega)) (by omega) ?_)
      rw [Int.toNat_natCast]
      exact l_79_f hk (by omega) (q1.e (by rw [sI_1, if_neg (lc_ne (by omega))])) (fun σ' h' r' => no σ' _ eN h' ((f1.s.trans (ZS.i (Or.inl rfl))).trans r'))
/-- what stands behind a command's word -/
def rrP (T : TB) (c p : Nat) : (IT × Nat) ⊕ PE := match nmsP T c p with
  | .inr e => .inr e
  | .inl n => match nbsP T c n.2.2 with
    | .inr e => .inr e
    | .inl b => if c = 9 then kdP T b.2.2 4 (.inl ((c, n.1, n.2.1, b.1, b.2.1), tE T b.2.2)) else .inl ((c, n.1, n.2.1, b.1, b.2.1), b.2.2)
def RQ (T : TB) (c k : Nat) (σ' : SG) : (IT × Nat) ⊕ PE → Prop
  | .inl x => TQ T x.2 σ' ∧ GN σ' ∧ iC x.1 = c ∧ (c < 9 → JSt σ' k x.1) ∧ (c = 9 → ∃ n : Nat, (1 ≤ n ∧ n ≤ 20) ∧ iV x.1 = (n : Int) ∧ σ'.1 (56, 0, 0) k = (n : Int))
  | .inr e => FE e σ'
theorem s_X12_readsRest {t : KT} {σ : SG} {T : TB} {p k c : Nat} (hT : TQ T p σ) (g : GN σ) (hk : k < 60) (hc : c < 10) (h55 : σ.1 (55, 0, 0) k = (c : Int)) : ∃ σ', Ca 4 321 [aR (some (40, 0, 0)), aI (iZ ((k : Int))), aI (iZ ((c : Int)))] (am_hp σ) t (.inl none, am_hp σ', t) ∧ RQ T c k σ' (rrP T c p) ∧ ZS k σ σ' := by
  refine ex_of (e_X12_readsRest ?_)
  refine wq (fun Q hQ => ?_)
  by_cases h9 : c = 9
  · subst h9
    have eR : rrP T 9 p = (match numP T p 1 20 ((.inl ((0 : Int), (tN T p : Int), tE T p)) : (Int × Int × Nat) ⊕ PE) with
      | .inr e => .inr e
      | .inl b => kdP T b.2.2 4 (.inl ((9, [], [], b.1, b.2.1), tE T b.2.2))) := by
      unfold rrP
      have e1 : nmsP T 9 p = .inl ([], [], p) := rfl
      have e2 : nbsP T 9 p = numP T p 1 20 (.inl ((0 : Int), (tN T p : Int), tE T p)) := rfl
      rw [e1]
      dsimp only
      rw [e2]
      cases numP T p 1 20 ((.inl ((0 : Int), (tN T p : Int), tE T p)) : (Int × Int × Nat) ⊕ PE) with
      | inr e => rfl
      | inl b => exact if_pos rfl
    refine b_X12_readsRest_0 (by omega) (fun z => absurd z (by omega)) (fun _ => ?_)
    by_cases hn : tK T p = 2 ∧ ¬ (tN T p < 1 ∨ 20 < tN T p)
    · rw [numP_ok hn] at eR
      obtain ⟨σ1, c1, q1, g1, f1⟩ := s_number_ok (t := t) (lo := 1) (hi := 20) hT g hn (by omega)
      have ei : (sI σ1 (56, 0, 0) (up (σ1.1 (56, 0, 0)) k (tN T p : Int))).1 (56, 0, 0) k = (tN T p : Int) := by rw [sI_1, if_pos rfl, up_at, if_pos rfl]
      have q2 : TQ T (tE T p) (sI σ1 (56, 0, 0) (up (σ1.1 (56, 0, 0)) k (tN T p : Int))) := q1.e (by rw [sI_1, if_neg (lc_ne (by omega))]) (by rw [sI_2]) (by rw [sI_1, if_neg (lc_ne (by omega))])
      have g2 : GN (sI σ1 (56, 0, 0) (up (σ1.1 (56, 0, 0)) k (tN T p : Int))) := g1.e (by rw [sI_1, if_neg (lc_ne (by omega))])
      have r2 : ZS k σ (sI σ1 (56, 0, 0) (up (σ1.1 (56, 0, 0)) k (tN T p : Int))) := f1.s.trans (ZS.i (Or.inl rfl))
      have eR : rrP T 9 p = kdP T (tE T p) 4 (.inl ((9, [], [], (0 : Int), (tN T p : Int)), tE T (tE T p))) := eR
      have blk := fun σ2 => b_X12_readsRest_6 (Q := Q) (d := 3) (σ := σ) (σ1 := σ1) (σ2 := σ2) (x1 := (k : Int)) (x2 := ((9 : Nat) : Int)) (t := t) (c1.up (by omega)) (by omega)
      rw [Int.toNat_natCast] at blk
      generalize (sI σ1 (56, 0, 0) (up (σ1.1 (56, 0, 0)) k (tN T p : Int))) = τ at ei q2 g2 r2 blk
      by_cases h4 : tK T (tE T p) = 4
      · obtain ⟨σ2, c2, q3, g3, f3⟩ := s_mustSign_ok (t := t) (kd := 4) (c := 40) q2 g2 (Or.inr (Or.inl ⟨rfl, rfl⟩)) h4
        have eR2 := eR.trans (if_neg (fun z => z h4))
        refine blk σ2 (c2.up (by omega)) (hQ _ ⟨σ2, rfl, ?_, r2.trans f3.s⟩)
        rw [eR2]
        exact ⟨q3, g3, rfl, fun z => absurd z (by omega), fun _ => ⟨tN T p, by omega, rfl, by rw [(f3.1.1 _ (n_in40 (by omega))).1]; exact ei⟩⟩
      · obtain ⟨σ2, c2, q3, f3⟩ := s_mustSign_no (t := t) (kd := 4) (c := 40) q2 g2 (Or.inr (Or.inl ⟨rfl, rfl⟩)) h4
        have eR2 := eR.trans (if_pos h4)
        refine blk σ2 (c2.up (by omega)) (hQ _ ⟨σ2, rfl, ?_, r2.trans f3.s⟩)
        rw [eR2]
        exact q3
    · rw [numP_no hn] at eR
      obtain ⟨z, σ1, c1, q1, f1⟩ := s_number_no (t := t) (lo := 1) (hi := 20) hT g hn (by omega)
      have q2 : FE (if tK T p ≠ 2 then 1 else 2, tS T p) (sI σ1 (56, 0, 0) (up (σ1.1 (56, 0, 0)) ((k : Int)).toNat z)) := q1.e (by rw [sI_1, if_neg (lc_ne (by omega))])
      refine b_X12_readsRest_6 (c1.up (by omega)) (by omega) ((s_mustSign_f q2).up (by omega)) (hQ _ ⟨_, rfl, ?_, ?_⟩)
      · rw [eR]
        exact q2
      · rw [Int.toNat_natCast]
        exact f1.s.trans (ZS.i (Or.inl rfl))
  · have h56 : ∀ (σ1 : SG) (n : List Nat × List Nat × Nat), nmsP T c p = .inl n → TQ T n.2.2 σ1 → GN σ1 → ZS k σ σ1 → (c ≤ 5 → σ1.2.1 (60, 0, 0) k = (mN n.1 : Int) ∧ ltL n.1 ∧ n.1.length ≤ 8) → (c = 5 → σ1.2.1 (61, 0, 0) k = (mN n.2.1 : Int) ∧ ltL n.2.1 ∧ n.2.1.length ≤ 8) → Wp k_X12_readsRest 3 (56, [some (aR (some (40, 0, 0))), some (aI (iZ ((k : Int)))), some (aI (iZ ((c : Int))))], [], am_hp σ1, t) Q := by
      intro σ1 n en q1 g1 r1 hn hm
      refine l_56 hk (by omega) q1 g1 (fun σ2 b eb q2 g2 r2 s2 hi hv => hQ _ ⟨σ2, rfl, ?_, r1.trans r2⟩) (fun σ2 e eb q2 r2 => hQ _ ⟨σ2, rfl, ?_, r1.trans r2⟩)
      · have eR : rrP T c p = .inl ((c, n.1, n.2.1, b.1, b.2.1), b.2.2) := by
          unfold rrP
          rw [en]
          dsimp only
          rw [eb]
          exact if_neg h9
        rw [eR]
        refine ⟨q2, g2, rfl, fun z => ⟨?_, z, fun z5 => ?_, fun z5 => ?_, hi, hv⟩, fun z => absurd z h9⟩
        · rw [(r1.trans r2).2.2.1]
          exact h55
        · have := hn z5
          rw [s2.1]
          exact this
        · have := hm z5
          rw [s2.2]
          exact this
      · have eR : rrP T c p = .inr e := by
          unfold rrP
          rw [en]
          dsimp only
          rw [eb]
        rw [eR]
        exact q2
    have bad : ∀ (σ1 : SG) (e : PE), rrP T c p = .inr e → FE e σ1 → ZS k σ σ1 → ∀ σ', FE e σ' → ZS k σ1 σ' → Q (.inl none, am_hp σ', t) := fun σ1 e er _ r1 σ' q' r' => hQ _ ⟨σ', rfl, by rw [er]; exact q', r1.trans r'⟩
    refine b_X12_readsRest_0 (by omega) (fun _ => ?_) (fun z => absurd z (by omega))
    by_cases h5 : c ≤ 5
    · refine b_X12_readsRest_26 (by omega) (fun z => absurd z (by omega)) (fun _ => ?_)
      by_cases hk1 : tK T p = 1
      · obtain ⟨σ1, c1, q1, g1, f1⟩ := s_anyName_ok (t := t) hT g hk1
        have ho := tK_1n hk1
        have ej : (sJ σ1 (60, 0, 0) (up (σ1.2.1 (60, 0, 0)) k (mN (tL T p) : Int))).2.1 (60, 0, 0) k = (mN (tL T p) : Int) := by rw [sJ_21, if_pos rfl, up_at, if_pos rfl]
        have q2 : TQ T (tE T p) (sJ σ1 (60, 0, 0) (up (σ1.2.1 (60, 0, 0)) k (mN (tL T p) : Int))) := q1.e (by rw [sJ_1]) (by rw [sJ_21, if_neg (lc_ne (by omega))]) (by rw [sJ_1])
        have g2 : GN (sJ σ1 (60, 0, 0) (up (σ1.2.1 (60, 0, 0)) k (mN (tL T p) : Int))) := g1.e (by rw [sJ_1])
        have r2 : ZS k σ (sJ σ1 (60, 0, 0) (up (σ1.2.1 (60, 0, 0)) k (mN (tL T p) : Int))) := f1.s.trans (ZS.j (Or.inl rfl))
        refine b_X12_readsRest_31 (c1.up (by omega)) (by omega) ?_
        rw [Int.toNat_natCast]
        generalize (sJ σ1 (60, 0, 0) (up (σ1.2.1 (60, 0, 0)) k (mN (tL T p) : Int))) = τ at ej q2 g2 r2 ⊢
        by_cases hj : c = 5
        · subst hj
          have en : nmsP T 5 p = kdP T (tE T p) 1 (.inl (tL T p, tL T (tE T p), tE T (tE T p))) := by
            unfold nmsP kdP
            rw [if_pos (by omega), if_neg (fun z => z hk1), if_pos rfl]
          refine b_X12_readsRest_41 (by omega) (fun z => absurd z (by omega)) (fun _ => ?_)
          by_cases hk2 : tK T (tE T p) = 1
          · obtain ⟨σ3, c3, q3, g3, f3⟩ := s_anyName_ok (t := t) q2 g2 hk2
            have ho2 := tK_1n hk2
            have en2 := en.trans (if_neg (fun z => z hk2))
            refine b_X12_readsRest_46 (c3.up (by omega)) (by omega) ?_
            rw [Int.toNat_natCast]
            refine h56 _ _ en2 (q3.e (by rw [sJ_1]) (by rw [sJ_21, if_neg (lc_ne (by omega))]) (by rw [sJ_1])) (g3.e (by rw [sJ_1])) ((r2.trans f3.s).trans (ZS.j (Or.inr rfl))) (fun _ => ⟨?_, ho.2.2, ho.2.1⟩) (fun _ => ⟨?_, ho2.2.2, ho2.2.1⟩)
            · rw [sJ_21, if_neg (lc_ne (by omega)), (f3.1.1 _ (n_in40 (by omega))).2.1]
              exact ej
            · rw [sJ_21, if_pos rfl, up_at, if_pos rfl]
          · obtain ⟨z, σ3, c3, q3, f3⟩ := s_anyName_no (t := t) q2 g2 hk2
            have en2 := en.trans (if_pos hk2)
            have er : rrP T 5 p = .inr (1, tS T (tE T p)) := by
              unfold rrP
              rw [en2]
            have q4 : FE (1, tS T (tE T p)) (sJ σ3 (61, 0, 0) (up (σ3.2.1 (61, 0, 0)) k z)) := q3.e (by rw [sJ_1])
            refine b_X12_readsRest_46 (c3.up (by omega)) (by omega) ?_
            rw [Int.toNat_natCast]
            exact l_56_f hk hc q4 (bad _ _ er q4 ((r2.trans f3.s).trans (ZS.j (Or.inr rfl))))
        · have en : nmsP T c p = .inl (tL T p, [], tE T p) := by
            unfold nmsP kdP
            rw [if_pos h5, if_neg (fun z => z hk1), if_neg hj]
          exact b_X12_readsRest_41 (by omega) (fun _ => h56 τ _ en q2 g2 r2 (fun _ => ⟨ej, ho.2.2, ho.2.1⟩) (fun z => absurd z hj)) (fun z => absurd z (by omega))
      · obtain ⟨z, σ1, c1, q1, f1⟩ := s_anyName_no (t := t) hT g hk1
        have en : nmsP T c p = .inr (1, tS T p) := by
          unfold nmsP kdP
          rw [if_pos h5, if_pos hk1]
        have er : rrP T c p = .inr (1, tS T p) := by
          unfold rrP
          rw [en]
        have q2 : FE (1, tS T p) (sJ σ1 (60, 0, 0) (up (σ1.2.1 (60, 0, 0)) k z)) := q1.e (by rw [sJ_1])
        refine b_X12_readsRest_31 (c1.up (by omega)) (by omega) ?_
        rw [Int.toNat_natCast]
        exact l_41_f hk hc q2 (bad _ _ er q2 (f1.s.trans (ZS.j (Or.inl rfl))))
    · have en : nmsP T c p = .inl ([], [], p) := by
        unfold nmsP
        rw [if_neg h5]
      exact b_X12_readsRest_26 (by omega) (fun _ => b_X12_readsRest_41 (by omega) (fun _ => h56 σ _ en hT g (ZS.refl _ _) (fun z => absurd z h5) (fun z => absurd z (by omega))) (fun z => absurd z (by omega))) (fun z => absurd z (by omega))
-- one command
/-- a command without the sign behind it -/
def comR (T : TB) (dp w p : Nat) : (IT × Nat) ⊕ PE := if cmK T p = -1 then .inr (1, tS T p) else if cmK T p = 9 ∧ 2 ≤ dp then .inr (3, tS T p) else if 30 ≤ w then .inr (5, tS T p) else rrP T (cmK T p).toNat (tE T p)
def bnR (T : TB) : (IT × Nat) ⊕ PE → (IT × Nat) ⊕ PE
  | .inr e => .inr e
  | .inl x => if iC x.1 = 9 then .inl x else kdP T x.2 3 (.inl (x.1, tE T x.2))
theorem comP_R (T : TB) (dp w p : Nat) : comP T dp w p = bnR T (comR T dp w p) := by
  unfold comP comR
  have hb := cmK_bd T p
  by_cases h1 : cmK T p = -1
  · rw [if_pos h1, if_pos h1]; rfl
  · rw [if_neg h1, if_neg h1]
    by_cases h2 : cmK T p = 9 ∧ 2 ≤ dp
    · rw [if_pos h2, if_pos h2]; rfl
    · rw [if_neg h2, if_neg h2]
      by_cases h3 : 30 ≤ w
      · rw [if_pos h3, if_pos h3]; rfl
      · rw [if_neg h3, if_neg h3]
        unfold rrP
        cases nmsP T (cmK T p).toNat (tE T p) with
        | inr e => rfl
        | inl n =>
          dsimp only
          cases nbsP T (cmK T p).toNat n.2.2 with
          | inr e => rfl
          | inl b =>
            dsimp only
            by_cases h9 : cmK T p = 9
            · rw [if_pos h9, if_pos (show (cmK T p).toNat = 9 by omega)]
              unfold kdP
              by_cases h4 : tK T b.2.2 ≠ 4
              · rw [if_pos h4]; rfl
              · rw [if_neg h4]
                exact (if_pos (show (cmK T p).toNat = 9 by omega)).symm
            · rw [if_neg h9, if_neg (show ¬ (cmK T p).toNat = 9 by omega)]
              exact (if_neg (show ¬ (cmK T p).toNat = 9 by omega)).symm
def SMr (T : TB) (l : LV) (m w p : Nat) (σ : SG) : Prop := TQ T p σ ∧ GN σ ∧ (1 ≤ l.length ∧ l.length ≤ 3) ∧ σ.1 (40, 0, 0) 45 = ((l.length - 1 : Nat) : Int) ∧ σ.1 (40, 0, 0) 43 = (m : Int) ∧ σ.1 (40, 0, 0) 44 = (w : Int) ∧ w ≤ 30 ∧ m + (l.length - 1) ≤ 2 * w ∧ LM σ l m
def SF (σ σ' : SG) : Prop := Fr inSm σ σ' ∧ ∀ j, (j < 4 ∨ 9 < j) → j ≠ 43 → j ≠ 44 → j ≠ 45 → σ'.1 (40, 0, 0) j = σ.1 (40, 0, 0) j
theorem SF.refl (σ : SG) : SF σ σ := ⟨Fr.refl _ _, fun _ _ _ _ _ => rfl⟩
theorem SF.trans {a b c : SG} (h : SF a b) (g : SF b c) : SF a c := ⟨h.1.trans g.1, fun j hj h1 h2 h3 => (g.2 j hj h1 h2 h3).trans (h.2 j hj h1 h2 h3)⟩
theorem ZS.sf {k : Nat} {σ σ' : SG} (h : ZS k σ σ') : SF σ σ' := ⟨h.1, fun j hj _ _ _ => h.2.1 j hj⟩
theorem TF.sf {σ σ' : SG} (h : TF σ σ') : SF σ σ' := ⟨h.1.mono mSm, fun j hj _ _ _ => h.2 j hj⟩
theorem SF.up {σ : SG} {k : Nat} {z : Int} (hk : k = 43 ∨ k = 44 ∨ k = 45) : SF σ (sI σ (40, 0, 0) (up (σ.1 (40, 0, 0)) k z)) := ⟨Fr.sI (P := inSm) (Or.inl rfl), fun j _ h1 h2 h3 => by rw [sI_1, if_pos rfl, up_at, if_neg (by omega)]⟩
theorem SF.c {σ : SG} {f : Nat → Int} : SF σ (sI σ (55, 0, 0) f) := ⟨Fr.sI (P := inSm) (Or.inr ⟨by decide, by decide⟩), fun j _ _ _ _ => by rw [sI_1, if_neg (lc_ne (by omega))]⟩
theorem SMr.g {T : TB} {l : LV} {m w p q : Nat} {σ σ' : SG} (h : SMr T l m w p σ) (k : TQ T q σ') (g : GN σ') (f : TG σ σ') : SMr T l m w q σ' := by
  obtain ⟨-, -, h3, h4, h5, h6, h7, h8, h9⟩ := h
  exact ⟨k, g, h3, (f.2 45 (by omega)).trans h4, (f.2 43 (by omega)).trans h5, (f.2 44 (by omega)).trans h6, h7, h8, h9.cong (fun k _ => AGs.f f.1)⟩
def CMr (T : TB) (l : LV) (m w : Nat) (σ' : SG) : (IT × Nat) ⊕ PE → Prop
  | .inl x => (iC x.1 = 9 → SMr T ((x.1.2.2.2.2.toNat, []) :: l) (m + 1) (w + 1) x.2 σ' ∧ σ'.1 (40, 0, 0) 45 = (l.length : Int)) ∧ (iC x.1 ≠ 9 → SMr T (adL x.1 l) (m + 1) (w + 1) x.2 σ' ∧ σ'.1 (40, 0, 0) 45 = ((l.length - 1 : Nat) : Int))
  | .inr e => FE e σ' ∧ σ'.1 (40, 0, 0) 45 = ((l.length - 1 : Nat) : Int)
theorem s_X12_command {t : KT} {σ : SG} {T : TB} {l : LV} {m w p : Nat} (h : SMr T l m w p σ) : ∃ σ', Ca 5 322 [aR (some (40, 0, 0))] (am_hp σ) t (.inl none, am_hp σ', t) ∧ CMr T l m w σ' (comR T (l.length - 1) w p) ∧ SF σ σ' := by
  obtain ⟨hT, g, hl, e45, e43, e44, hw, hmw, hL⟩ := h
  have hb := cmK_bd T p
  refine ex_of (e_X12_command ?_)
  refine wq (fun Q hQ => ?_)
  have bad48 : ∀ (σ1 : SG) (e : PE) (x1 : Int), comR T (l.length - 1) w p = .inr e → FE e σ1 → TF σ σ1 → Wp k_X12_command 4 (48, [some (aR (some (40, 0, 0))), some (aI (iZ x1)), none], [], am_hp σ1, t) Q := fun σ1 e x1 he q1 f1 => b_X12_command_48 ((s_isGood_f q1).up (by omega)) (by omega) (fun q => absurd rfl q) (fun _ => b_X12_command_55 (hQ _ ⟨σ1, rfl, by rw [he]; exact ⟨q1, (f1.2 45 (by omega)).trans e45⟩, f1.sf⟩))
  have bad34 : ∀ (σ1 : SG) (e : PE) (x1 : Int), comR T (l.length - 1) w p = .inr e → FE e σ1 → TF σ σ1 → Wp k_X12_command 4 (34, [some (aR (some (40, 0, 0))), some (aI (iZ x1)), none], [], am_hp σ1, t) Q := fun σ1 e x1 he q1 f1 => by
    have e1 := (f1.2 44 (by omega)).trans e44
    exact b_X12_command_34 (by omega) (fun _ => bad48 σ1 e x1 he q1 f1) (fun _ => b_X12_command_43 ((s_wrong_f q1).up (by omega)) (bad48 σ1 e x1 he q1 f1))
  refine b_X12_command_0 ((s_X12_commandHere hT g).up (by omega)) (by omega) (fun q1 => ?_) (fun q1 => ?_)
  · have hc := hb.resolve_left q1
    have k1 : tK T p = 1 := hc.2.2.1
    obtain ⟨c, ec⟩ := Int.eq_ofNat_of_zero_le hc.1
    have ecn : (cmK T p).toNat = c := by rw [ec]; rfl
    rw [ec]
    have go34 : ¬ (cmK T p = 9 ∧ 2 ≤ l.length - 1) → Wp k_X12_command 4 (34, [some (aR (some (40, 0, 0))), some (aI (iZ ((c : Int)))), none], [], am_hp σ, t) Q := fun n9 => by
      refine b_X12_command_34 (by omega) (fun q3 => ?_) (fun q3 => ?_)
      · have er : comR T (l.length - 1) w p = rrP T c (tE T p) := by
          unfold comR
          rw [if_neg q1, if_neg n9, if_neg (by omega), ecn]
        have ga : TQ T p (sI σ (40, 0, 0) (up (σ.1 (40, 0, 0)) 44 (σ.1 (40, 0, 0) 44 + 1))) ∧ GN (sI σ (40, 0, 0) (up (σ.1 (40, 0, 0)) 44 (σ.1 (40, 0, 0) 44 + 1))) := ⟨hT.c (by omega), g.c (by omega)⟩
        have ea : ∀ j, j ≠ 44 → (sI σ (40, 0, 0) (up (σ.1 (40, 0, 0)) 44 (σ.1 (40, 0, 0) 44 + 1))).1 (40, 0, 0) j = σ.1 (40, 0, 0) j := fun j hj => by rw [sI_1, if_pos rfl, up_at, if_neg hj]
        have ea4 : (sI σ (40, 0, 0) (up (σ.1 (40, 0, 0)) 44 (σ.1 (40, 0, 0) 44 + 1))).1 (40, 0, 0) 44 = (w : Int) + 1 := by rw [sI_1, if_pos rfl, up_at, if_pos rfl, e44]
        have fa : Fr in40 σ (sI σ (40, 0, 0) (up (σ.1 (40, 0, 0)) 44 (σ.1 (40, 0, 0) 44 + 1))) := Fr.sI (P := in40) rfl
        have sa : SF σ (sI σ (40, 0, 0) (up (σ.1 (40, 0, 0)) 44 (σ.1 (40, 0, 0) 44 + 1))) := SF.up (by omega)
        refine b_X12_command_48 ((s_isGood_t g).up (by omega)) (by omega) (fun _ => ?_) (fun q => by omega)
        have blk := fun σ1 σ2 σ3 r3 => b_X12_command_56 (Q := Q) (d := 4) (σ := σ) (σ1 := σ1) (σ2 := σ2) (σ3 := σ3) (r3 := r3) (x1 := (c : Int)) (t := t)
        generalize (sI σ (40, 0, 0) (up (σ.1 (40, 0, 0)) 44 (σ.1 (40, 0, 0) 44 + 1))) = τ at ga ea ea4 fa sa blk
        obtain ⟨σ1, c1, t1, g1, f1⟩ := s_goOn (t := t) ga.1 ga.2
        have m1 : σ1.1 (40, 0, 0) 43 = (m : Int) := (f1.2 43 (by omega)).trans ((ea 43 (by omega)).trans e43)
        have d55 : (sI σ1 (55, 0, 0) (up (σ1.1 (55, 0, 0)) m (c : Int))).1 (55, 0, 0) m = (c : Int) := by rw [sI_1, if_pos rfl, up_at, if_pos rfl]
        have tb : TQ T (tE T p) (sI σ1 (55, 0, 0) (up (σ1.1 (55, 0, 0)) m (c : Int))) := t1.e (by rw [sI_1, if_neg (lc_ne (by omega))]) (by rw [sI_2]) (by rw [sI_1, if_neg (lc_ne (by omega))])
        have gb : GN (sI σ1 (55, 0, 0) (up (σ1.1 (55, 0, 0)) m (c : Int))) := g1.e (by rw [sI_1, if_neg (lc_ne (by omega))])
        obtain ⟨σ2, c2, r2, s2⟩ := s_X12_readsRest (t := t) tb gb (k := m) (c := c) (by omega) (by omega) d55
        have b40 : ∀ j, (sI σ1 (55, 0, 0) (up (σ1.1 (55, 0, 0)) m (c : Int))).1 (40, 0, 0) j = σ1.1 (40, 0, 0) j := fun j => by rw [sI_1, if_neg (lc_ne (by omega))]
        have S2 : SF σ σ2 := ((sa.trans f1.f.sf).trans SF.c).trans s2.sf
        have A2 : ∀ k, k < m → AGs σ σ2 k := fun k hk => by
          have a1 : AGs σ σ1 k := (AGs.f fa).trans (AGs.f f1.1)
          have a2 : AGs σ1 (sI σ1 (55, 0, 0) (up (σ1.1 (55, 0, 0)) m (c : Int))) k := ⟨by rw [sI_1, if_pos rfl, up_at, if_neg (by omega)], by rw [sI_1, if_neg (lc_ne (by omega))], by rw [sI_1, if_neg (lc_ne (by omega))], by rw [sI_2], by rw [sI_2]⟩
          exact (a1.trans a2).trans (s2.2.2.2 k (by omega))
        have v : ∀ j, (j < 4 ∨ 9 < j) → j ≠ 44 → σ2.1 (40, 0, 0) j = σ.1 (40, 0, 0) j := fun j hj h4 => by rw [s2.2.1 j hj, b40, f1.2 j (by omega), ea j h4]
        have v44 : σ2.1 (40, 0, 0) 44 = (w : Int) + 1 := by rw [s2.2.1 44 (by omega), b40, f1.2 44 (by omega), ea4]
        have e55 : σ2.1 (55, 0, 0) m = (c : Int) := by rw [s2.2.2.1]; exact d55
        have hi43 : 0 ≤ σ1.1 (40, 0, 0) 43 ∧ σ1.1 (40, 0, 0) 43 < 60 := by omega
        cases hr : rrP T c (tE T p) with
        | inr e =>
          rw [hr] at r2 er
          have q2 : FE e σ2 := r2
          refine blk σ1 σ2 σ2 0 (c1.up (by omega)) hi43 (by rw [m1, Int.toNat_natCast]; exact c2.up (by omega)) ((s_isGood_f q2).up (by omega)) (by omega) (fun q => absurd rfl q) (fun _ => b_X12_command_95 (hQ _ ⟨σ2, rfl, ?_, S2⟩))
          rw [er]
          exact ⟨q2, (v 45 (by omega) (by omega)).trans e45⟩
        | inl x =>
          rw [hr] at r2 er
          obtain ⟨q2, g2, ex, hj, h20⟩ := (r2 : TQ T x.2 σ2 ∧ GN σ2 ∧ iC x.1 = c ∧ (c < 9 → JSt σ2 m x.1) ∧ (c = 9 → ∃ n : Nat, (1 ≤ n ∧ n ≤ 20) ∧ iV x.1 = (n : Int) ∧ σ2.1 (56, 0, 0) m = (n : Int)))
          have v43 : σ2.1 (40, 0, 0) 43 = (m : Int) := (v 43 (by omega) (by omega)).trans e43
          have v45 : σ2.1 (40, 0, 0) 45 = ((l.length - 1 : Nat) : Int) := (v 45 (by omega) (by omega)).trans e45
          refine blk σ1 σ2 σ2 1 (c1.up (by omega)) hi43 (by rw [m1, Int.toNat_natCast]; exact c2.up (by omega)) ((s_isGood_t g2).up (by omega)) (by omega) (fun _ => ?_) (fun q => by omega)
          have fin : ∀ r1 : Int, CMr T l m w (sI (sI σ2 (40, 0, 0) (up (σ2.1 (40, 0, 0)) 43 (σ2.1 (40, 0, 0) 43 + 1))) (40, 0, 0) (up ((sI σ2 (40, 0, 0) (up (σ2.1 (40, 0, 0)) 43 (σ2.1 (40, 0, 0) 43 + 1))).1 (40, 0, 0)) 45 ((sI σ2 (40, 0, 0) (up (σ2.1 (40, 0, 0)) 43 (σ2.1 (40, 0, 0) 43 + 1))).1 (40, 0, 0) 45 + r1))) (.inl x) → Q (.inl none, am_hp (sI (sI σ2 (40, 0, 0) (up (σ2.1 (40, 0, 0)) 43 (σ2.1 (40, 0, 0) 43 + 1))) (40, 0, 0) (up ((sI σ2 (40, 0, 0) (up (σ2.1 (40, 0, 0)) 43 (σ2.1 (40, 0, 0) 43 + 1))).1 (40, 0, 0)) 45 ((sI σ2 (40, 0, 0) (up (σ2.1 (40, 0, 0)) 43 (σ2.1 (40, 0, 0) 43 + 1))).1 (40, 0, 0) 45 + r1))), t) := fun r1 hcm => hQ _ ⟨_, rfl, by rw [er]; exact hcm, (S2.trans (SF.up (by omega))).trans (SF.up (by omega))⟩
          have kit : ∀ r1 : Int, TQ T x.2 (sI (sI σ2 (40, 0, 0) (up (σ2.1 (40, 0, 0)) 43 (σ2.1 (40, 0, 0) 43 + 1))) (40, 0, 0) (up ((sI σ2 (40, 0, 0) (up (σ2.1 (40, 0, 0)) 43 (σ2.1 (40, 0, 0) 43 + 1))).1 (40, 0, 0)) 45 ((sI σ2 (40, 0, 0) (up (σ2.1 (40, 0, 0)) 43 (σ2.1 (40, 0, 0) 43 + 1))).1 (40, 0, 0) 45 + r1))) ∧ GN (sI (sI σ2 (40, 0, 0) (up (σ2.1 (40, 0, 0)) 43 (σ2.1 (40, 0, 0) 43 + 1))) (40, 0, 0) (up ((sI σ2 (40, 0, 0) (up (σ2.1 (40, 0, 0)) 43 (σ2.1 (40, 0, 0) 43 + 1))).1 (40, 0, 0)) 45 ((sI σ2 (40, 0, 0) (up (σ2.1 (40, 0, 0)) 43 (σ2.1 (40, 0, 0) 43 + 1))).1 (40, 0, 0) 45 + r1))) ∧ (sI (sI σ2 (40, 0, 0) (up (σ2.1 (40, 0, 0)) 43 (σ2.1 (40, 0, 0) 43 + 1))) (40, 0, 0) (up ((sI σ2 (40, 0, 0) (up (σ2.1 (40, 0, 0)) 43 (σ2.1 (40, 0, 0) 43 + 1))).1 (40, 0, 0)) 45 ((sI σ2 (40, 0, 0) (up (σ2.1 (40, 0, 0)) 43 (σ2.1 (40, 0, 0) 43 + 1))).1 (40, 0, 0) 45 + r1))).1 (40, 0, 0) 45 = ((l.length - 1 : Nat) : Int) + r1 ∧ (sI (sI σ2 (40, 0, 0) (up (σ2.1 (40, 0, 0)) 43 (σ2.1 (40, 0, 0) 43 + 1))) (40, 0, 0) (up ((sI σ2 (40, 0, 0) (up (σ2.1 (40, 0, 0)) 43 (σ2.1 (40, 0, 0) 43 + 1))).1 (40, 0, 0)) 45 ((sI σ2 (40, 0, 0) (up (σ2.1 (40, 0, 0)) 43 (σ2.1 (40, 0, 0) 43 + 1))).1 (40, 0, 0) 45 + r1))).1 (40, 0, 0) 43 = ((m + 1 : Nat) : Int) ∧ (sI (sI σ2 (40, 0, 0) (up (σ2.1 (40, 0, 0)) 43 (σ2.1 (40, 0, 0) 43 + 1))) (40, 0, 0) (up ((sI σ2 (40, 0, 0) (up (σ2.1 (40, 0, 0)) 43 (σ2.1 (40, 0, 0) 43 + 1))).1 (40, 0, 0)) 45 ((sI σ2 (40, 0, 0) (up (σ2.1 (40, 0, 0)) 43 (σ2.1 (40, 0, 0) 43 + 1))).1 (40, 0, 0) 45 + r1))).1 (40, 0, 0) 44 = ((w + 1 : Nat) : Int) ∧ ∀ k, AGs σ2 (sI (sI σ2 (40, 0, 0) (up (σ2.1 (40, 0, 0)) 43 (σ2.1 (40, 0, 0) 43 + 1))) (40, 0, 0) (up ((sI σ2 (40, 0, 0) (up (σ2.1 (40, 0, 0)) 43 (σ2.1 (40, 0, 0) 43 + 1))).1 (40, 0, 0)) 45 ((sI σ2 (40, 0, 0) (up (σ2.1 (40, 0, 0)) 43 (σ2.1 (40, 0, 0) 43 + 1))).1 (40, 0, 0) 45 + r1))) k := fun r1 => by
            refine ⟨(q2.c (by omega)).c (by omega), (g2.c (by omega)).c (by omega), ?_, ?_, ?_, fun k => AGs.f ((Fr.sI (P := in40) rfl).trans (Fr.sI (P := in40) rfl))⟩
            · rw [sI_1, if_pos rfl, up_at, if_pos rfl, sI_1, if_pos rfl, up_at, if_neg (by omega), v45]
            · rw [sI_1, if_pos rfl, up_at, if_neg (by omega), sI_1, if_pos rfl, up_at, if_pos rfl, v43]
              rfl
            · rw [sI_1, if_pos rfl, up_at, if_neg (by omega), sI_1, if_pos rfl, up_at, if_neg (by omega), v44]
              rfl
          by_cases h9 : c = 9
          · have ct := s_X12_truth (t := t) (σ := sI σ2 (40, 0, 0) (up (σ2.1 (40, 0, 0)) 43 (σ2.1 (40, 0, 0) 43 + 1))) (P := True)
            rw [bz_t (p := True) trivial] at ct
            refine b_X12_command_96 (by omega) (fun z => absurd z (by omega)) (fun _ => b_X12_command_117 (b_X12_command_122 (ct.up (by omega)) (fin 1 ⟨fun _ => ?_, fun z => absurd (ex.trans h9) z⟩)))
            obtain ⟨k1, k2, k3, k4, k5, k6⟩ := kit 1
            obtain ⟨n, hn20, en, e56⟩ := h20 h9
            clear h20
            have enn : x.1.2.2.2.2.toNat = n := by
              have : x.1.2.2.2.2 = (n : Int) := en
              omega
            have l2 : l.length ≤ 2 := by
              have : ¬ 2 ≤ l.length - 1 := fun z => n9 ⟨by rw [ec, h9]; rfl, z⟩
              omega
            have hL2 : LM (sI (sI σ2 (40, 0, 0) (up (σ2.1 (40, 0, 0)) 43 (σ2.1 (40, 0, 0) 43 + 1))) (40, 0, 0) (up ((sI σ2 (40, 0, 0) (up (σ2.1 (40, 0, 0)) 43 (σ2.1 (40, 0, 0) 43 + 1))).1 (40, 0, 0)) 45 ((sI σ2 (40, 0, 0) (up (σ2.1 (40, 0, 0)) 43 (σ2.1 (40, 0, 0) 43 + 1))).1 (40, 0, 0) 45 + 1))) l m := hL.cong (fun k hk => (A2 k hk).trans (k6 k))
            rw [enn]
            refine ⟨⟨k1, k2, ⟨by rw [List.length_cons]; omega, by rw [List.length_cons]; omega⟩, ?_, k4, k5, by omega, by rw [List.length_cons]; omega, LM.opn ((k6 m).1.trans (by rw [e55, h9]; rfl)) ((k6 m).2.1.trans e56) hn20 hL2⟩, by rw [k3]; omega⟩
            rw [k3, List.length_cons]
            omega
          · have ct := s_X12_truth (t := t) (σ := sI σ2 (40, 0, 0) (up (σ2.1 (40, 0, 0)) 43 (σ2.1 (40, 0, 0) 43 + 1))) (P := False)
            rw [bz_f (p := False) (fun z => z)] at ct
            refine b_X12_command_96 (by omega) (fun _ => b_X12_command_121 (b_X12_command_122 (ct.up (by omega)) (fin 0 ⟨fun z => absurd (ex.symm.trans z) h9, fun _ => ?_⟩))) (fun z => absurd z (by omega))
            obtain ⟨k1, k2, k3, k4, k5, k6⟩ := kit 0
            clear h20
            have hL2 : LM (sI (sI σ2 (40, 0, 0) (up (σ2.1 (40, 0, 0)) 43 (σ2.1 (40, 0, 0) 43 + 1))) (40, 0, 0) (up ((sI σ2 (40, 0, 0) (up (σ2.1 (40, 0, 0)) 43 (σ2.1 (40, 0, 0) 43 + 1))).1 (40, 0, 0)) 45 ((sI σ2 (40, 0, 0) (up (σ2.1 (40, 0, 0)) 43 (σ2.1 (40, 0, 0) 43 + 1))).1 (40, 0, 0) 45 + 0))) l m := hL.cong (fun k hk => (A2 k hk).trans (k6 k))
            have k3 := k3.trans (Int.add_zero _)
            refine ⟨⟨k1, k2, by rw [adL_len]; exact hl, by rw [adL_len]; exact k3, k4, k5, by omega, by rw [adL_len]; omega, LM.add ((hj (by omega)).cong (k6 m)) hL2⟩, k3⟩
      · have er : comR T (l.length - 1) w p = .inr (5, tS T p) := by
          unfold comR
          rw [if_neg q1, if_neg n9, if_pos (by omega)]
        obtain ⟨σ1, c1, t1, f1⟩ := s_wrong (t := t) (c := 5) hT g (by omega) (fun q => by exfalso; have q : tK T p = 6 := q; omega)
        exact b_X12_command_43 (c1.up (by omega)) (bad48 σ1 _ _ er t1 f1)
    refine b_X12_command_15 (by omega) (fun q2 => go34 (fun z => q2 (by rw [← ec]; exact z.1))) (fun q2 => ?_)
    refine b_X12_command_21 (by omega) (fun q3 => go34 (fun z => q3 (by omega))) (fun q3 => ?_)
    have er : comR T (l.length - 1) w p = .inr (3, tS T p) := by
      unfold comR
      rw [if_neg q1, if_pos ⟨by rw [ec]; exact q2, by omega⟩]
    obtain ⟨σ1, c1, t1, f1⟩ := s_wrong (t := t) (c := 3) hT g (by omega) (fun q => by exfalso; have q : tK T p = 6 := q; omega)
    exact b_X12_command_29 (c1.up (by omega)) (bad34 σ1 _ _ er t1 f1)
  · have er : comR T (l.length - 1) w p = .inr (1, tS T p) := if_pos q1
    obtain ⟨σ1, c1, t1, f1⟩ := s_wrong (t := t) (c := 1) hT g (by omega) (fun _ => rfl)
    exact b_X12_command_10 (c1.up (by omega)) (b_X12_command_15 (by omega) (fun _ => bad34 σ1 _ _ er t1 f1) (fun q => by omega))
-- repeats are closed
theorem s_closes_f {t : KT} {σ : SG} {e : PE} (h : FE e σ) (hz : -2147483648 ≤ σ.1 (40, 0, 0) 45 ∧ σ.1 (40, 0, 0) 45 < 2147483648) : Ca 4 323 [aR (some (40, 0, 0))] (am_hp σ) t (.inl none, am_hp σ, t) := by
  refine ca_of (e_X12_closes ?_)
  exact b_X12_closes_0 hz (fun _ => b_X12_closes_60 rfl) (fun _ => b_X12_closes_7 ((s_isSign_f h).up (by omega)) (by omega) (fun _ => b_X12_closes_60 rfl) (fun q => absurd rfl q))
/-- what stands behind all that closes -/
def LCr (T : TB) (f : Nat) (l : LV) (w p : Nat) (σ' : SG) : Prop := (∃ f' l' m' p', SMr T l' m' w p' σ' ∧ ¬ (1 < l'.length ∧ tK T p' = 5) ∧ lopS T f l w p = lopS T f' l' w p' ∧ f' ≤ f ∧ 601 ≤ f' + p') ∨ (∃ e, lopS T f l w p = .inr e ∧ FE e σ' ∧ -2147483648 ≤ σ'.1 (40, 0, 0) 45 ∧ σ'.1 (40, 0, 0) 45 < 2147483648)
theorem s_X12_closes {t : KT} {σ : SG} {T : TB} {f : Nat} {l : LV} {m w p : Nat} (h : SMr T l m w p σ) (hf : 601 ≤ f + p) : ∃ σ', Ca 4 323 [aR (some (40, 0, 0))] (am_hp σ) t (.inl none, am_hp σ', t) ∧ LCr T f l w p σ' ∧ SF σ σ' := by
  refine ex_of (e_X12_closes ?_)
  have key : ∀ (n : Nat) (l1 : LV) (f1 m1 p1 : Nat) (σ1 : SG), l1.length ≤ n → SMr T l1 m1 w p1 σ1 → 601 ≤ f1 + p1 → lopS T f l w p = lopS T f1 l1 w p1 → f1 ≤ f → SF σ σ1 → Wp k_X12_closes 3 (0, [some (aR (some (40, 0, 0)))], [], am_hp σ1, t) (fun r => ∃ σ', r = (.inl none, am_hp σ', t) ∧ LCr T f l w p σ' ∧ SF σ σ') := by
    intro n
    induction n with
    | zero => intro l1 f1 m1 p1 σ1 hn h1; have := h1.2.2.1.1; omega
    | succ n ih =>
      intro l1 f1 m1 p1 σ1 hn h1 hf1 eS hff F1
      obtain ⟨hT, g, hl, e45, e43, e44, hw, hmw, hL⟩ := h1
      have h600 := hT.1.2.1
      have hpT := hT.2.1
      by_cases hc : 1 < l1.length ∧ tK T p1 = 5
      · cases f1 with
        | zero => omega
        | succ f0 =>
          have eS2 : lopS T f l w p = kdP T (tE T p1) 3 (lopS T f0 (clL l1) w (tE T (tE T p1))) := by
            rw [eS]
            show (if l1.length = 1 ∧ tK T p1 = 0 then _ else if 1 < l1.length ∧ tK T p1 = 5 then _ else _) = _
            rw [if_neg (by omega), if_pos hc]
          have hb1 := tE_bd hpT
          have hp1 := hb1.2.2 (by omega)
          have hs1 := tS_bd hpT
          have hge := tE_ge hb1.2.1
          have cs := s_isSign_g (t := t) (kd := 5) (c := 41) hT g (Or.inr (Or.inr ⟨rfl, rfl⟩))
          rw [bz_t hc.2] at cs
          refine b_X12_closes_0 (by omega) (fun q => by omega) (fun _ => b_X12_closes_7 (cs.up (by omega)) (by omega) (fun q => by omega) (fun _ => ?_))
          have o43 : (sI σ1 (40, 0, 0) (up (σ1.1 (40, 0, 0)) 45 (σ1.1 (40, 0, 0) 45 - 1))).1 (40, 0, 0) 43 = (m1 : Int) := by rw [sI_1, if_pos rfl, up_at, if_neg (by omega), e43]
          have m60 : m1 < 60 := by omega
          refine wq (fun Q hQ => ?_)
          have blk := fun σ2 σ3 => b_X12_closes_16 (Q := Q) (d := 3) (σ := σ1) (σ1 := σ2) (σ2 := σ3) (t := t)
          rw [o43, Int.toNat_natCast] at blk
          have ga : TQ T p1 (sI (sI (sI σ1 (40, 0, 0) (up (σ1.1 (40, 0, 0)) 45 (σ1.1 (40, 0, 0) 45 - 1))) (55, 0, 0) (up ((sI σ1 (40, 0, 0) (up (σ1.1 (40, 0, 0)) 45 (σ1.1 (40, 0, 0) 45 - 1))).1 (55, 0, 0)) m1 10)) (40, 0, 0) (up ((sI (sI σ1 (40, 0, 0) (up (σ1.1 (40, 0, 0)) 45 (σ1.1 (40, 0, 0) 45 - 1))) (55, 0, 0) (up ((sI σ1 (40, 0, 0) (up (σ1.1 (40, 0, 0)) 45 (σ1.1 (40, 0, 0) 45 - 1))).1 (55, 0, 0)) m1 10)).1 (40, 0, 0)) 43 ((sI (sI σ1 (40, 0, 0) (up (σ1.1 (40, 0, 0)) 45 (σ1.1 (40, 0, 0) 45 - 1))) (55, 0, 0) (up ((sI σ1 (40, 0, 0) (up (σ1.1 (40, 0, 0)) 45 (σ1.1 (40, 0, 0) 45 - 1))).1 (55, 0, 0)) m1 10)).1 (40, 0, 0) 43 + 1))) := TQ.c (TQ.e (TQ.c (k := 45) hT (by omega)) (by rw [sI_1, if_neg (lc_ne (by omega))]) (by rw [sI_2]) (by rw [sI_1, if_neg (lc_ne (by omega))])) (by omega)
          have gg : GN (sI (sI (sI σ1 (40, 0, 0) (up (σ1.1 (40, 0, 0)) 45 (σ1.1 (40, 0, 0) 45 - 1))) (55, 0, 0) (up ((sI σ1 (40, 0, 0) (up (σ1.1 (40, 0, 0)) 45 (σ1.1 (40, 0, 0) 45 - 1))).1 (55, 0, 0)) m1 10)) (40, 0, 0) (up ((sI (sI σ1 (40, 0, 0) (up (σ1.1 (40, 0, 0)) 45 (σ1.1 (40, 0, 0) 45 - 1))) (55, 0, 0) (up ((sI σ1 (40, 0, 0) (up (σ1.1 (40, 0, 0)) 45 (σ1.1 (40, 0, 0) 45 - 1))).1 (55, 0, 0)) m1 10)).1 (40, 0, 0)) 43 ((sI (sI σ1 (40, 0, 0) (up (σ1.1 (40, 0, 0)) 45 (σ1.1 (40, 0, 0) 45 - 1))) (55, 0, 0) (up ((sI σ1 (40, 0, 0) (up (σ1.1 (40, 0, 0)) 45 (σ1.1 (40, 0, 0) 45 - 1))).1 (55, 0, 0)) m1 10)).1 (40, 0, 0) 43 + 1))) := GN.c (GN.e (GN.c (k := 45) g (by omega)) (by rw [sI_1, if_neg (lc_ne (by omega))])) (by omega)
          have x45 : (sI (sI (sI σ1 (40, 0, 0) (up (σ1.1 (40, 0, 0)) 45 (σ1.1 (40, 0, 0) 45 - 1))) (55, 0, 0) (up ((sI σ1 (40, 0, 0) (up (σ1.1 (40, 0, 0)) 45 (σ1.1 (40, 0, 0) 45 - 1))).1 (55, 0, 0)) m1 10)) (40, 0, 0) (up ((sI (sI σ1 (40, 0, 0) (up (σ1.1 (40, 0, 0)) 45 (σ1.1 (40, 0, 0) 45 - 1))) (55, 0, 0) (up ((sI σ1 (40, 0, 0) (up (σ1.1 (40, 0, 0)) 45 (σ1.1 (40, 0, 0) 45 - 1))).1 (55, 0, 0)) m1 10)).1 (40, 0, 0)) 43 ((sI (sI σ1 (40, 0, 0) (up (σ1.1 (40, 0, 0)) 45 (σ1.1 (40, 0, 0) 45 - 1))) (55, 0, 0) (up ((sI σ1 (40, 0, 0) (up (σ1.1 (40, 0, 0)) 45 (σ1.1 (40, 0, 0) 45 - 1))).1 (55, 0, 0)) m1 10)).1 (40, 0, 0) 43 + 1))).1 (40, 0, 0) 45 = ((l1.length - 1 : Nat) : Int) - 1 := by
            rw [sI_1, if_pos rfl, up_at, if_neg (by omega), sI_1, if_neg (lc_ne (by omega)), sI_1, if_pos rfl, up_at, if_pos rfl, e45]
          have x43 : (sI (sI (sI σ1 (40, 0, 0) (up (σ1.1 (40, 0, 0)) 45 (σ1.1 (40, 0, 0) 45 - 1))) (55, 0, 0) (up ((sI σ1 (40, 0, 0) (up (σ1.1 (40, 0, 0)) 45 (σ1.1 (40, 0, 0) 45 - 1))).1 (55, 0, 0)) m1 10)) (40, 0, 0) (up ((sI (sI σ1 (40, 0, 0) (up (σ1.1 (40, 0, 0)) 45 (σ1.1 (40, 0, 0) 45 - 1))) (55, 0, 0) (up ((sI σ1 (40, 0, 0) (up (σ1.1 (40, 0, 0)) 45 (σ1.1 (40, 0, 0) 45 - 1))).1 (55, 0, 0)) m1 10)).1 (40, 0, 0)) 43 ((sI (sI σ1 (40, 0, 0) (up (σ1.1 (40, 0, 0)) 45 (σ1.1 (40, 0, 0) 45 - 1))) (55, 0, 0) (up ((sI σ1 (40, 0, 0) (up (σ1.1 (40, 0, 0)) 45 (σ1.1 (40, 0, 0) 45 - 1))).1 (55, 0, 0)) m1 10)).1 (40, 0, 0) 43 + 1))).1 (40, 0, 0) 43 = ((m1 + 1 : Nat) : Int) := by
            rw [sI_1, if_pos rfl, up_at, if_pos rfl, sI_1, if_neg (lc_ne (by omega)), o43]
            rfl
          have x44 : (sI (sI (sI σ1 (40, 0, 0) (up (σ1.1 (40, 0, 0)) 45 (σ1.1 (40, 0, 0) 45 - 1))) (55, 0, 0) (up ((sI σ1 (40, 0, 0) (up (σ1.1 (40, 0, 0)) 45 (σ1.1 (40, 0, 0) 45 - 1))).1 (55, 0, 0)) m1 10)) (40, 0, 0) (up ((sI (sI σ1 (40, 0, 0) (up (σ1.1 (40, 0, 0)) 45 (σ1.1 (40, 0, 0) 45 - 1))) (55, 0, 0) (up ((sI σ1 (40, 0, 0) (up (σ1.1 (40, 0, 0)) 45 (σ1.1 (40, 0, 0) 45 - 1))).1 (55, 0, 0)) m1 10)).1 (40, 0, 0)) 43 ((sI (sI σ1 (40, 0, 0) (up (σ1.1 (40, 0, 0)) 45 (σ1.1 (40, 0, 0) 45 - 1))) (55, 0, 0) (up ((sI σ1 (40, 0, 0) (up (σ1.1 (40, 0, 0)) 45 (σ1.1 (40, 0, 0) 45 - 1))).1 (55, 0, 0)) m1 10)).1 (40, 0, 0) 43 + 1))).1 (40, 0, 0) 44 = (w : Int) := by
            rw [sI_1, if_pos rfl, up_at, if_neg (by omega), sI_1, if_neg (lc_ne (by omega)), sI_1, if_pos rfl, up_at, if_neg (by omega), e44]
          have x55 : (sI (sI (sI σ1 (40, 0, 0) (up (σ1.1 (40, 0, 0)) 45 (σ1.1 (40, 0, 0) 45 - 1))) (55, 0, 0) (up ((sI σ1 (40, 0, 0) (up (σ1.1 (40, 0, 0)) 45 (σ1.1 (40, 0, 0) 45 - 1))).1 (55, 0, 0)) m1 10)) (40, 0, 0) (up ((sI (sI σ1 (40, 0, 0) (up (σ1.1 (40, 0, 0)) 45 (σ1.1 (40, 0, 0) 45 - 1))) (55, 0, 0) (up ((sI σ1 (40, 0, 0) (up (σ1.1 (40, 0, 0)) 45 (σ1.1 (40, 0, 0) 45 - 1))).1 (55, 0, 0)) m1 10)).1 (40, 0, 0)) 43 ((sI (sI σ1 (40, 0, 0) (up (σ1.1 (40, 0, 0)) 45 (σ1.1 (40, 0, 0) 45 - 1))) (55, 0, 0) (up ((sI σ1 (40, 0, 0) (up (σ1.1 (40, 0, 0)) 45 (σ1.1 (40, 0, 0) 45 - 1))).1 (55, 0, 0)) m1 10)).1 (40, 0, 0) 43 + 1))).1 (55, 0, 0) m1 = 10 := by
            rw [sI_1, if_neg (lc_ne (by omega)), sI_1, if_pos rfl, up_at, if_pos rfl]
          have xA : ∀ k, k < m1 → AGs σ1 (sI (sI (sI σ1 (40, 0, 0) (up (σ1.1 (40, 0, 0)) 45 (σ1.1 (40, 0, 0) 45 - 1))) (55, 0, 0) (up ((sI σ1 (40, 0, 0) (up (σ1.1 (40, 0, 0)) 45 (σ1.1 (40, 0, 0) 45 - 1))).1 (55, 0, 0)) m1 10)) (40, 0, 0) (up ((sI (sI σ1 (40, 0, 0) (up (σ1.1 (40, 0, 0)) 45 (σ1.1 (40, 0, 0) 45 - 1))) (55, 0, 0) (up ((sI σ1 (40, 0, 0) (up (σ1.1 (40, 0, 0)) 45 (σ1.1 (40, 0, 0) 45 - 1))).1 (55, 0, 0)) m1 10)).1 (40, 0, 0)) 43 ((sI (sI σ1 (40, 0, 0) (up (σ1.1 (40, 0, 0)) 45 (σ1.1 (40, 0, 0) 45 - 1))) (55, 0, 0) (up ((sI σ1 (40, 0, 0) (up (σ1.1 (40, 0, 0)) 45 (σ1.1 (40, 0, 0) 45 - 1))).1 (55, 0, 0)) m1 10)).1 (40, 0, 0) 43 + 1))) k := fun k hk => ⟨by rw [sI_1, if_neg (lc_ne (by omega)), sI_1, if_pos rfl, up_at, if_neg (by omega), sI_1, if_neg (lc_ne (by omega))], by rw [sI_1, if_neg (lc_ne (by omega)), sI_1, if_neg (lc_ne (by omega)), sI_1, if_neg (lc_ne (by omega))], by rw [sI_1, if_neg (lc_ne (by omega)), sI_1, if_neg (lc_ne (by omega)), sI_1, if_neg (lc_ne (by omega))], by rw [sI_2, sI_2, sI_2], by rw [sI_2, sI_2, sI_2]⟩
          have xS : SF σ1 (sI (sI (sI σ1 (40, 0, 0) (up (σ1.1 (40, 0, 0)) 45 (σ1.1 (40, 0, 0) 45 - 1))) (55, 0, 0) (up ((sI σ1 (40, 0, 0) (up (σ1.1 (40, 0, 0)) 45 (σ1.1 (40, 0, 0) 45 - 1))).1 (55, 0, 0)) m1 10)) (40, 0, 0) (up ((sI (sI σ1 (40, 0, 0) (up (σ1.1 (40, 0, 0)) 45 (σ1.1 (40, 0, 0) 45 - 1))) (55, 0, 0) (up ((sI σ1 (40, 0, 0) (up (σ1.1 (40, 0, 0)) 45 (σ1.1 (40, 0, 0) 45 - 1))).1 (55, 0, 0)) m1 10)).1 (40, 0, 0)) 43 ((sI (sI σ1 (40, 0, 0) (up (σ1.1 (40, 0, 0)) 45 (σ1.1 (40, 0, 0) 45 - 1))) (55, 0, 0) (up ((sI σ1 (40, 0, 0) (up (σ1.1 (40, 0, 0)) 45 (σ1.1 (40, 0, 0) 45 - 1))).1 (55, 0, 0)) m1 10)).1 (40, 0, 0) 43 + 1))) := ((SF.up (by omega)).trans SF.c).trans (SF.up (by omega))
          generalize (sI (sI (sI σ1 (40, 0, 0) (up (σ1.1 (40, 0, 0)) 45 (σ1.1 (40, 0, 0) 45 - 1))) (55, 0, 0) (up ((sI σ1 (40, 0, 0) (up (σ1.1 (40, 0, 0)) 45 (σ1.1 (40, 0, 0) 45 - 1))).1 (55, 0, 0)) m1 10)) (40, 0, 0) (up ((sI (sI σ1 (40, 0, 0) (up (σ1.1 (40, 0, 0)) 45 (σ1.1 (40, 0, 0) 45 - 1))) (55, 0, 0) (up ((sI σ1 (40, 0, 0) (up (σ1.1 (40, 0, 0)) 45 (σ1.1 (40, 0, 0) 45 - 1))).1 (55, 0, 0)) m1 10)).1 (40, 0, 0)) 43 ((sI (sI σ1 (40, 0, 0) (up (σ1.1 (40, 0, 0)) 45 (σ1.1 (40, 0, 0) 45 - 1))) (55, 0, 0) (up ((sI σ1 (40, 0, 0) (up (σ1.1 (40, 0, 0)) 45 (σ1.1 (40, 0, 0) 45 - 1))).1 (55, 0, 0)) m1 10)).1 (40, 0, 0) 43 + 1))) = τ at blk ga gg x45 x43 x44 x55 xA xS
          obtain ⟨σ2, c2, t2, g2, f2⟩ := s_goOn (t := t) ga gg
          have hL2 : LM σ2 l1 m1 := hL.cong (fun k hk => (xA k hk).trans (AGs.f f2.1))
          have y55 : σ2.1 (55, 0, 0) m1 = 10 := by rw [(f2.1.1 _ (n_in40 (by omega))).1]; exact x55
          have y45 := (f2.2 45 (by omega)).trans x45
          have y43 := (f2.2 43 (by omega)).trans x43
          have y44 := (f2.2 44 (by omega)).trans x44
          by_cases h3 : tK T (tE T p1) = 3
          · obtain ⟨σ3, c3, t3, g3, f3⟩ := s_mustSign_ok (t := t) (kd := 3) (c := 59) t2 g2 (Or.inl ⟨rfl, rfl⟩) h3
            have eS3 := eS2.trans (if_neg (fun z => z h3))
            have S3 : SMr T (clL l1) (m1 + 1) w (tE T (tE T p1)) σ3 ∧ (clL l1).length + 1 = l1.length := by
              match l1, hL2, hc, hl, hmw, y45 with
              | (t1, s1) :: (t0, s0) :: r, hL2, hc, hl, hmw, y45 =>
                have e1 : (clL ((t1, s1) :: (t0, s0) :: r)) = (t0, s0 ++ rpL s1 t1) :: r := rfl
                have en : ((t1, s1) :: (t0, s0) :: r : LV).length = r.length + 2 := rfl
                rw [en] at hc hl hmw y45
                rw [e1]
                have hL3 := (LM.cls hL2 (by omega) y55).cong (σ' := σ3) (fun k _ => AGs.f f3.1)
                refine ⟨⟨t3, g3, ⟨by rw [List.length_cons]; omega, by rw [List.length_cons]; omega⟩, ?_, (f3.2 43 (by omega)).trans y43, (f3.2 44 (by omega)).trans y44, hw, by rw [List.length_cons]; omega, hL3⟩, rfl⟩
                rw [f3.2 45 (by omega), y45, List.length_cons]
                omega
            have := ih (clL l1) f0 (m1 + 1) (tE T (tE T p1)) σ3 (by omega) S3.1 (by omega) eS3 (by omega) (((F1.trans xS).trans f2.f.sf).trans f3.f.sf)
            exact blk σ2 σ3 (by omega) (c2.up (by omega)) (c3.up (by omega)) (this.imp hQ)
          · obtain ⟨σ3, c3, t3, f3⟩ := s_mustSign_no (t := t) (kd := 3) (c := 59) t2 g2 (Or.inl ⟨rfl, rfl⟩) h3
            have eS3 := eS2.trans (if_pos h3)
            have z45 := (f3.2 45 (by omega)).trans y45
            have hz : -2147483648 ≤ σ3.1 (40, 0, 0) 45 ∧ σ3.1 (40, 0, 0) 45 < 2147483648 := by omega
            have fin := hQ (.inl none, am_hp σ3, t) ⟨σ3, rfl, Or.inr ⟨_, eS3, t3, hz⟩, ((F1.trans xS).trans f2.f.sf).trans f3.sf⟩
            exact blk σ2 σ3 (by omega) (c2.up (by omega)) (c3.up (by omega)) (b_X12_closes_0 hz (fun _ => b_X12_closes_60 fin) (fun _ => b_X12_closes_7 ((s_isSign_f t3).up (by omega)) (by omega) (fun _ => b_X12_closes_60 fin) (fun q => absurd rfl q)))
      · have fin : Wp k_X12_closes 3 (60, [some (aR (some (40, 0, 0)))], [], am_hp σ1, t) (fun r => ∃ σ', r = (.inl none, am_hp σ', t) ∧ LCr T f l w p σ' ∧ SF σ σ') := b_X12_closes_60 ⟨σ1, rfl, Or.inl ⟨f1, l1, m1, p1, ⟨hT, g, hl, e45, e43, e44, hw, hmw, hL⟩, hc, eS, hff, hf1⟩, F1⟩
        refine b_X12_closes_0 (by omega) (fun _ => fin) (fun q => ?_)
        have cs := s_isSign_g (t := t) (kd := 5) (c := 41) hT g (Or.inr (Or.inr ⟨rfl, rfl⟩))
        rw [bz_f (fun z => hc ⟨by omega, z⟩)] at cs
        exact b_X12_closes_7 (cs.up (by omega)) (by omega) (fun _ => fin) (fun q => absurd rfl q)
  exact key l.length l f m p σ (Nat.le_refl _) h hf rfl (Nat.le_refl _) (SF.refl _)
