/-! THE MODEL: calls that change -/
set_option maxRecDepth 4000
def inC4 (L : Lc) : Prop := L.1 = 40 ∨ L.1 = 42 ∨ L.1 = 44 ∨ (48 ≤ L.1 ∧ L.1 ≤ 54)
/-- what a change has touched before the rows are kept -/
def RC (σ σ' : SG) : Prop := Fr inC4 σ σ' ∧ ∀ j, j ≠ 0 → j ≠ 33 → j ≠ 34 → σ'.1 (40, 0, 0) j = σ.1 (40, 0, 0) j
theorem RC.trans {a b c : SG} (h : RC a b) (g : RC b c) : RC a c := ⟨h.1.trans g.1, fun j h0 h1 h2 => by rw [g.2 j h0 h1 h2]; exact h.2 j h0 h1 h2⟩
theorem RC.ck {σ : SG} {z : Int} : RC σ (cd σ z) := ⟨cd_fr.mono (fun L h => Or.inl h), fun j h0 _ _ => cd_at h0⟩
theorem QF.rc {σ σ' : SG} (h : QF σ σ') : RC σ σ' := ⟨h.1.mono (fun L q => by unfold inQ at q; unfold inC4; omega), fun j _ h1 h2 => h.2.1 j h1 h2⟩
theorem RC.one {σ σ' : SG} {a : Nat} (f : Fr (fun L => L = (a, 0, 0)) σ σ') (ha : a = 42 ∨ a = 44) : RC σ σ' := ⟨f.mono (fun L q => by
  have q : L = (a, 0, 0) := q
  subst q
  unfold inC4
  omega), fun j _ _ _ => by rw [(f.1 (40, 0, 0) (fun z => absurd (congrArg (fun L : Lc => L.1) z) (by show ¬ (40 : Nat) = a; omega))).1]⟩
theorem MC.rc {σ σ' : SG} (h : MC σ) (f : RC σ σ') : MC σ' := h.fr f.1 (by unfold inC4; omega) (by unfold inC4; omega)
theorem MD.q {B : RA} {σ σ' : SG} (h : MD B σ) (f : QF σ σ') : MD B σ' := ⟨h.1, by rw [(f.1.1 (44, 0, 0) (by unfold inQ; omega)).1]; exact h.2⟩
theorem MD.o {B : RA} {σ σ' : SG} (h : MD B σ) (f : Fr in42 σ σ') : MD B σ' := ⟨h.1, by rw [(f.1 (44, 0, 0) (fun z => absurd (congrArg (fun L : Lc => L.1) z) (by decide))).1]; exact h.2⟩
/-- the state with other rows, kept rows, counts -/
theorem MS.ch {S : SS} {σ σ' : SG} {P : Lc → Prop} {A : RA} {l : List RA} {cn : Nat → Int} {V : Int} (h : MS S σ) (f : Fr P σ σ') (hP : ∀ L, P L → inC4 L ∨ L.1 = 45) (e : ∀ j, (j = 2 ∨ j = 10 ∨ j = 11 ∨ j = 23 ∨ j = 47 ∨ j = 48) → σ'.1 (40, 0, 0) j = σ.1 (40, 0, 0) j) (w : MA A σ') (H : MH l σ') (n : MN cn σ') (v : σ'.1 (40, 0, 0) 21 = V) : MS (A, xV S, l, cn, V, S.2.2.2.2.2) σ' := by
  obtain ⟨h1, h2, h3, h4, h5, h6, h7, h8, h9⟩ := h
  have o : ∀ a : Nat, (a = 41 ∨ a = 43 ∨ a = 46 ∨ a = 47 ∨ a = 62) → ¬ P (a, 0, 0) := fun a ha q => by
    have := hP _ q
    unfold inC4 at this
    dsimp only at this
    omega
  refine ⟨w, h2.fr f (o 46 (by omega)) (o 47 (by omega)), ?_, H, n, v, ?_, ⟨by rw [e 10 (by omega)]; exact h8.1, by rw [e 11 (by omega)]; exact h8.2⟩, ?_⟩
  · show MV (xV S) σ'
    unfold MV at h3 ⊢
    rw [e 23 (by omega), (f.1 _ (o 43 (by omega))).1]
    exact h3
  · show MB (xT S) σ'
    unfold MB at h7 ⊢
    rw [e 2 (by omega), (f.1 _ (o 41 (by omega))).1]
    exact h7
  · show MP (xR S) σ'
    unfold MP at h9 ⊢
    rw [e 47 (by omega), e 48 (by omega), (f.1 _ (o 62 (by omega))).1]
    exact h9
theorem s_X12_kept {t : KT} {σ : SG} {S : SS} {σ0 : SG} {A : RA} {z : Int} (h : MS S σ0) (f : RC σ0 σ) (w : MA A σ) (d : MD (xA S) σ) : ∃ σ', Ca 3 205 [aR (some (40, 0, 0)), aI (iZ z)] (am_hp σ) t (.inl (some (aI (iZ z))), am_hp σ', t) ∧ σ'.1 (40, 0, 0) 0 = σ.1 (40, 0, 0) 0 ∧ MS (A, xV S, (xA S :: xP S).take 6, fup (xC S) 0 (xC S 0 + 1), S.2.2.2.2) σ' ∧ Fr (fun L => inC4 L ∨ L.1 = 45) σ0 σ' := by
  have hH : MH (xP S) σ := by
    have := h.2.2.2.1
    unfold MH at this ⊢
    rw [f.2 17 (by omega) (by omega) (by omega), (f.1.1 (45, 0, 0) (by unfold inC4; omega)).1]
    exact this
  obtain ⟨σ1, c1, g1, f1, o1, -⟩ := s_X12_keeps (t := t) d hH
  have mk : ∀ L, inKp L → inC4 L ∨ L.1 = 45 := fun L q => by
    rcases q with q | q
    · subst q; exact Or.inl (Or.inl rfl)
    · subst q; exact Or.inr rfl
  have F : Fr (fun L => inC4 L ∨ L.1 = 45) σ0 (sI σ1 (40, 0, 0) (up (σ1.1 (40, 0, 0)) 18 (σ1.1 (40, 0, 0) 18 + 1))) := ((f.1.mono (fun L q => Or.inl q)).trans (f1.mono mk)).trans (Fr.sI (P := fun L => inC4 L ∨ L.1 = 45) (Or.inl (Or.inl rfl)))
  have e : ∀ j, j ≠ 0 → j ≠ 17 → j ≠ 18 → j ≠ 33 → j ≠ 34 → (sI σ1 (40, 0, 0) (up (σ1.1 (40, 0, 0)) 18 (σ1.1 (40, 0, 0) 18 + 1))).1 (40, 0, 0) j = σ0.1 (40, 0, 0) j := fun j h0 h1 h2 h3 h4 => by
    rw [sI_1, if_pos rfl, up_at, if_neg h2, o1 j h1, f.2 j h0 h3 h4]
  obtain ⟨n1, n2, n3, n4⟩ := h.2.2.2.2.1
  have n42 : ¬ inKp (42, 0, 0) := by
    intro q
    rcases q with q | q <;> exact absurd (congrArg (fun L : Lc => L.1) q) (by decide)
  refine ex_of (e_X12_kept ?_)
  refine b_X12_kept_0 (c1.up (by omega)) ⟨_, rfl, ?_, ?_, F⟩
  · rw [sI_1, if_pos rfl, up_at, if_neg (by omega), o1 0 (by omega)]
  · refine h.ch F (fun L q => q) (fun j hj => e j (by omega) (by omega) (by omega) (by omega) (by omega)) ?_ ?_ ⟨?_, ?_, ?_, ?_⟩ ?_
    · exact (w.fr f1 n42).fr (Fr.sI (P := fun L : Lc => L.1 = 40) rfl) (by decide)
    · unfold MH at g1 ⊢
      rw [show (sI σ1 (40, 0, 0) (up (σ1.1 (40, 0, 0)) 18 (σ1.1 (40, 0, 0) 18 + 1))).1 (40, 0, 0) 17 = σ1.1 (40, 0, 0) 17 by simp [sI_1, up_at], show (sI σ1 (40, 0, 0) (up (σ1.1 (40, 0, 0)) 18 (σ1.1 (40, 0, 0) 18 + 1))).1 (45, 0, 0) = σ1.1 (45, 0, 0) by simp [sI_1]]
      exact g1
    · rw [sI_1, if_pos rfl, up_at, if_pos rfl, o1 18 (by omega), f.2 18 (by omega) (by omega) (by omega), n1]
      rfl
    · rw [e 19 (by omega) (by omega) (by omega) (by omega) (by omega), n2]; rfl
    · rw [e 20 (by omega) (by omega) (by omega) (by omega) (by omega), n3]; rfl
    · rw [e 22 (by omega) (by omega) (by omega) (by omega) (by omega), n4]; rfl
    · rw [e 21 (by omega) (by omega) (by omega) (by omega) (by omega)]
      exact h.2.2.2.2.2.1
theorem s_X12_refuses {t : KT} {σ : SG} {S : SS} {σ0 : SG} {V : Int} (h : MS S σ0) (f : MF σ0 σ) : ∃ σ', Ca 1 206 [aR (some (40, 0, 0)), aI (iZ V)] (am_hp σ) t (.inl (some (aI (iZ (-V)))), am_hp σ', t) ∧ σ'.1 (40, 0, 0) 0 = σ.1 (40, 0, 0) 0 ∧ MS (S.1, S.2.1, S.2.2.1, fup (xC S) 1 (xC S 1 + 1), V, S.2.2.2.2.2) σ' ∧ Fr (fun L => inC4 L ∨ L.1 = 45) σ0 σ' := by
  have h' := h.m f
  obtain ⟨n1, n2, n3, n4⟩ := h'.2.2.2.2.1
  have F1 : Fr (fun L => inC4 L ∨ L.1 = 45) σ (sI (sI σ (40, 0, 0) (up (σ.1 (40, 0, 0)) 19 (σ.1 (40, 0, 0) 19 + 1))) (40, 0, 0) (up ((sI σ (40, 0, 0) (up (σ.1 (40, 0, 0)) 19 (σ.1 (40, 0, 0) 19 + 1))).1 (40, 0, 0)) 21 V)) := (Fr.sI (P := fun L => inC4 L ∨ L.1 = 45) (Or.inl (Or.inl rfl))).trans (Fr.sI (P := fun L => inC4 L ∨ L.1 = 45) (Or.inl (Or.inl rfl)))
  have F40 : Fr (fun L : Lc => L.1 = 40) σ (sI (sI σ (40, 0, 0) (up (σ.1 (40, 0, 0)) 19 (σ.1 (40, 0, 0) 19 + 1))) (40, 0, 0) (up ((sI σ (40, 0, 0) (up (σ.1 (40, 0, 0)) 19 (σ.1 (40, 0, 0) 19 + 1))).1 (40, 0, 0)) 21 V)) := (Fr.sI (P := fun L : Lc => L.1 = 40) rfl).trans (Fr.sI (P := fun L : Lc => L.1 = 40) rfl)
  have e : ∀ j, j ≠ 19 → j ≠ 21 → (sI (sI σ (40, 0, 0) (up (σ.1 (40, 0, 0)) 19 (σ.1 (40, 0, 0) 19 + 1))) (40, 0, 0) (up ((sI σ (40, 0, 0) (up (σ.1 (40, 0, 0)) 19 (σ.1 (40, 0, 0) 19 + 1))).1 (40, 0, 0)) 21 V)).1 (40, 0, 0) j = σ.1 (40, 0, 0) j := fun j h1 h2 => by
    rw [sI_1, if_pos rfl, up_at, if_neg h2, sI_1, if_pos rfl, up_at, if_neg h1]
  refine ex_of (e_X12_refuses ?_)
  refine b_X12_refuses_0 ⟨_, rfl, e 0 (by omega) (by omega), ?_, (f.1.mono (fun L q => by unfold inQ at q; unfold inC4; omega)).trans F1⟩
  refine h'.ch F1 (fun L q => q) (fun j hj => e j (by omega) (by omega)) (h'.1.fr F40 (by decide)) ?_ ⟨?_, ?_, ?_, ?_⟩ ?_
  · have hH := h'.2.2.2.1
    unfold MH at hH ⊢
    rw [e 17 (by omega) (by omega), (F40.1 (45, 0, 0) (by decide)).1]
    exact hH
  · rw [e 18 (by omega) (by omega), n1]; rfl
  · rw [sI_1, if_pos rfl, up_at, if_neg (by omega), sI_1, if_pos rfl, up_at, if_pos rfl, n2]; rfl
  · rw [e 20 (by omega) (by omega), n3]; rfl
  · rw [e 22 (by omega) (by omega), n4]; rfl
  · rw [sI_1, if_pos rfl, up_at, if_pos rfl]
theorem s_X12_whyNoMore {t : KT} {σ : SG} {A : RA} {r m : Nat} (hA : MA A σ) (hr : r < rN A) (hm : m ≤ 60) : Ca 3 241 [aR (some (40, 0, 0)), aI (iZ ((r : Int))), aI (iZ ((m : Int)))] (am_hp σ) t (.inl (some (aI (iZ (((if 60 < rLn A r + m then 103 else 0 : Nat) : Int))))), am_hp σ, t) := by
  have hl := hA.len hr
  refine ca_of (e_X12_whyNoMore ?_)
  refine b_X12_whyNoMore_0 ((s_X12_manyIn hA hr).up (by omega)) (by omega) (fun q => ?_) (fun q => ?_)
  · rw [if_neg (by omega)]
    exact b_X12_whyNoMore_17 (b_X12_whyNoMore_18 rfl)
  · rw [if_pos (by omega)]
    exact b_X12_whyNoMore_12 (b_X12_whyNoMore_18 rfl)
/-- a row was changed: its words are made, the rows before are kept -/
theorem m_tail {t : KT} {σ : SG} {S : SS} {σ0 : SG} {A : RA} {r : Nat} (h : MS S σ0) (f : RC σ0 σ) (w : MA A σ) (d : MD (xA S) σ) (hr : r < rN A) : ∃ σ1 σ2, Ca 6 235 [aR (some (40, 0, 0)), aI (iZ ((r : Int)))] (am_hp σ) t (.inl (some (aI (iZ (((nW (chA A r) (rLn A r)) : Int))))), am_hp σ1, t) ∧ Ca 3 205 [aR (some (40, 0, 0)), aI (iZ (((nW (chA A r) (rLn A r)) : Int)))] (am_hp σ1) t (.inl (some (aI (iZ (((nW (chA A r) (rLn A r)) : Int))))), am_hp σ2, t) ∧ σ2.1 (40, 0, 0) 0 = σ.1 (40, 0, 0) 0 ∧ MS (A, xV S, (xA S :: xP S).take 6, fup (xC S) 0 (xC S 0 + 1), S.2.2.2.2) σ2 ∧ Fr (fun L => inC4 L ∨ L.1 = 45) σ0 σ2 := by
  obtain ⟨σ1, c1, -, -, q1⟩ := s_X12_packsRow (t := t) w (h.2.1.rc f) hr
  obtain ⟨σ2, c2, z2, g2, f2⟩ := s_X12_kept (t := t) (z := ((nW (chA A r) (rLn A r)) : Int)) h (f.trans q1.rc) (w.q q1) (d.q q1)
  exact ⟨σ1, σ2, c1, c2, by rw [z2, q1.c0], g2, f2⟩
