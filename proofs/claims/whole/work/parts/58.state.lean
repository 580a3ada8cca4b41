/-! THE CLASS'S STATE: rows kept, words made, systems read -/
set_option maxRecDepth 4000
theorem numP_inl {α : Type} {T : TB} {p lo hi : Nat} {k : α ⊕ PE} {x : α} (h : numP T p lo hi k = .inl x) : tK T p = 2 ∧ k = .inl x := by
  unfold numP at h
  split at h
  · cases h
  · split at h
    · cases h
    · exact ⟨by omega, h⟩
theorem kdP_inl {α : Type} {T : TB} {p kd : Nat} {k : α ⊕ PE} {x : α} (h : kdP T p kd k = .inl x) : tK T p = kd ∧ k = .inl x := by
  unfold kdP at h
  split at h
  · cases h
  · exact ⟨by omega, h⟩
theorem tE_ge {T : TB} {p : Nat} (h : p ≤ T.2) : p ≤ tE T p ∧ tE T p ≤ T.2 := by
  have h1 := tE_bd h
  have h2 := tS_bd h
  omega
theorem numsP_ge {T : TB} {r m : Nat} : ∀ (f : Nat) (A : RA) (p : Nat) (x : SR), p ≤ T.2 → numsP T r m f A p = .inl x → p ≤ x.2.2 ∧ x.2.2 ≤ T.2
  | 0, A, p, x, hp, h => by
    cases h
    exact ⟨Nat.le_refl _, hp⟩
  | f + 1, A, p, x, hp, h => by
    unfold numsP at h
    split at h
    · have h2 := (numP_inl h).2
      split at h2
      · cases h2
      · have h3 := tE_ge hp
        have h4 := numsP_ge f _ _ x h3.2 h2
        omega
    · cases h
      exact ⟨Nat.le_refl _, hp⟩
theorem stmP_ge {T : TB} {A : RA} {m p : Nat} {x : SR} (hp : p ≤ T.2) (h : stmP T A m p = .inl x) : tE T p ≤ x.2.2 ∧ x.2.2 ≤ T.2 := by
  have h1 := tE_ge hp
  have h2 := tE_ge h1.2
  have h3 := tE_ge h2.2
  have h4 := tE_ge h3.2
  unfold stmP at h
  split at h
  · unfold rowP at h
    split at h
    · cases h
    · have h5 := (kdP_inl h).2
      split at h5
      · cases h5
      · have h6 := numsP_ge _ _ _ x h2.2 h5
        omega
  · split at h
    · unfold priP at h
      have h5 := (numP_inl h).2
      split at h5
      · cases h5
      · have h6 := (numP_inl h5).2
        cases h6
        dsimp only
        omega
    · split at h
      · unfold fillP at h
        have h5 := (kdP_inl h).2
        split at h5
        · cases h5
        · have h6 := (numP_inl h5).2
          split at h6
          · cases h6
          · have h7 := (numP_inl h6).2
            cases h7
            dsimp only
            omega
      · cases h
/-- a system was read, or where it is wrong -/
def SZ (T : TB) (o : RA ⊕ PE) (σ : SG) : Prop := match o with
  | .inl A => Rep A σ 1 ∧ Av A ∧ TX T σ ∧ σ.1 (2, 0, 0) 5 = 0 ∧ σ.1 (2, 0, 0) 6 = -1
  | .inr e => SE T e σ
theorem s_X9_readFrom {t : KT} {σ : SG} {T : TB} (hT : TX T σ) : ∃ σ', Ca 8 64 [aR (some (14, 0, 0)), aR (some (2, 0, 0))] (am_hp σ) t (.inl (some (aI (iZ (bO (sysP T))))), am_hp σ', t) ∧ SZ T (sysP T) σ' ∧ Fr inSy σ σ' := by
  have h600 := hT.2.1
  obtain ⟨σ1, c1, g1, f1⟩ := s_X7_clearAll (d := 0) (t := t) (σ := σ) (p := 1)
  have fa : Fr (fun L => L = (14, 0, 0)) σ1 (sI σ1 (14, 0, 0) (up (σ1.1 (14, 0, 0)) 1 0)) := Fr.sI rfl
  have T1 : TX T (sI σ1 (14, 0, 0) (up (σ1.1 (14, 0, 0)) 1 0)) := (hT.fr f1 (by unfold inR; omega) (by unfold inR; omega)).fr fa (by decide) (by decide)
  obtain ⟨σ2, c2, g2, f2, e5, e6⟩ := s_X10_begin (t := t) T1
  have y : SY T clrA 0 0 σ2 := by
    refine ⟨g2, (g1.fr fa (fun L hL hP => by
      have hP : L = (14, 0, 0) := hP
      subst hP
      unfold inR at hL
      omega)).tx f2, Av_clr, ?_, by omega, e5, e6⟩
    rw [tx14 f2]
    simp [sI_1, up_at]
  have fs : Fr inSy σ σ2 := ((f1.mono mR1).trans (fa.mono (fun L hL => Or.inr (Or.inr hL)))).trans (f2.mono mTx)
  obtain ⟨σ3, c3, g3, f3⟩ := s_X9_readPack (t := t) y
  have fs3 := fs.trans f3
  refine ex_of (e_X9_readFrom ?_)
  unfold sysP
  cases hp : pckP T clrA 0 with
  | inr e =>
    rw [hp] at c3 g3
    exact b_X9_readFrom_0 (c1.up (by omega)) (c2.up (by omega)) (c3.up (by omega)) (by show _ ∧ _; simp [bO]) (fun _ => b_X9_readFrom_32 ⟨σ3, rfl, g3, fs3⟩) (fun q => absurd rfl q)
  | inl x =>
    rw [hp] at c3 g3
    have g3 : SY T x.1 0 x.2 σ3 := g3
    refine b_X9_readFrom_0 (c1.up (by omega)) (c2.up (by omega)) (c3.up (by omega)) (by simp [bO]) (fun q => absurd q (by simp [bO])) (fun _ => ?_)
    have key : ∀ (f k : Nat) (A : RA) (m p : Nat) (σ4 : SG), k + f = 601 → k ≤ 600 → k ≤ p → SY T A m p σ4 → Fr inSy σ σ4 → Wp k_X9_readFrom 7 (36, [some (aR (some (14, 0, 0))), some (aR (some (2, 0, 0))), some (aI (iZ ((k : Int))))], [], am_hp σ4, t) (fun r => ∃ σ', r = (.inl (some (aI (iZ (bO (lopP T f A m p))))), am_hp σ', t) ∧ SZ T (lopP T f A m p) σ' ∧ Fr inSy σ σ') := by
      intro f
      induction f with
      | zero => intro k A m p σ4 h1 h2; omega
      | succ f ih =>
        intro k A m p σ4 hk h6 hkp g4 f4
        have e2 := g4.1.2.2.1
        have hpT := g4.1.2.1
        have hkl := tK_le T p
        have hb := tE_bd hpT
        have hb2 := tS_bd hpT
        unfold lopP
        by_cases h0 : tK T p = 0
        · rw [if_pos h0]
          have hfin : Wp k_X9_readFrom 7 (74, [some (aR (some (14, 0, 0))), some (aR (some (2, 0, 0))), some (aI (iZ ((k : Int))))], [], am_hp σ4, t) (fun r => ∃ σ', r = (.inl (some (aI (iZ 1))), am_hp σ', t) ∧ SZ T (.inl A) σ' ∧ Fr inSy σ σ') := b_X9_readFrom_74 ⟨σ4, rfl, ⟨g4.2.1, g4.2.2.1, g4.1.1, g4.2.2.2.2.2.1, g4.2.2.2.2.2.2⟩, f4⟩
          exact b_X9_readFrom_36 (by omega) (fun _ => hfin) (fun _ => b_X9_readFrom_43 (by omega) (fun _ => hfin) (fun q => by omega))
        · rw [if_neg h0]
          have hpos := hb.2.2 h0
          refine b_X9_readFrom_36 (by omega) (fun q => by omega) (fun _ => ?_)
          refine b_X9_readFrom_43 (by omega) (fun q => by omega) (fun _ => ?_)
          obtain ⟨σ5, c5, g5, f5⟩ := s_X9_readStatement (t := t) g4
          cases hs : stmP T A m p with
          | inr e =>
            rw [hs] at c5 g5
            exact b_X9_readFrom_50 (c5.up (by omega)) (by simp [bO]) (fun _ => b_X9_readFrom_66 ⟨σ5, rfl, g5, f4.trans f5⟩) (fun q => absurd rfl q)
          | inl z =>
            rw [hs] at c5 g5
            have g5 : SY T z.1 z.2.1 z.2.2 σ5 := g5
            have hz := stmP_ge hpT hs
            have hz2 := tE_ge hz.2
            dsimp only
            refine b_X9_readFrom_50 (c5.up (by omega)) (by simp [bO]) (fun q => absurd q (by simp [bO])) (fun _ => ?_)
            by_cases h3 : tK T z.2.2 = 3
            · obtain ⟨σ6, c6, g6, f6⟩ := s_pass_ok (t := t) (w := 3) g5.1 h3
              have ek : kdP T z.2.2 3 (lopP T f z.1 z.2.1 (tE T z.2.2)) = lopP T f z.1 z.2.1 (tE T z.2.2) := if_neg (by omega)
              rw [ek]
              refine b_X9_readFrom_58 (c6.up (by omega)) (by omega) (fun _ => ?_) (fun q => by omega)
              refine b_X9_readFrom_68 ?_
              exact ih (k + 1) _ _ _ σ6 (by omega) (by omega) (by omega) (g5.adv g6 f6) ((f4.trans f5).trans (f6.1.mono mTx))
            · obtain ⟨σ6, c6, g6, f6⟩ := s_pass_no (t := t) (w := 3) g5.1 h3 (by omega)
              have ek : kdP T z.2.2 3 (lopP T f z.1 z.2.1 (tE T z.2.2)) = .inr (1, tS T z.2.2) := if_pos h3
              rw [ek]
              exact b_X9_readFrom_58 (c6.up (by omega)) (by omega) (fun q => by omega) (fun _ => b_X9_readFrom_66 ⟨σ6, rfl, g6, (f4.trans f5).trans (f6.mono mTx)⟩)
    dsimp only
    by_cases h3 : tK T x.2 = 3
    · obtain ⟨σ6, c6, g6, f6⟩ := s_pass_ok (t := t) (w := 3) g3.1 h3
      have ek : kdP T x.2 3 (lopP T 601 x.1 0 (tE T x.2)) = lopP T 601 x.1 0 (tE T x.2) := if_neg (by omega)
      rw [ek]
      refine b_X9_readFrom_24 (c6.up (by omega)) (by omega) (fun _ => ?_) (fun q => by omega)
      refine b_X9_readFrom_34 ?_
      exact key 601 0 _ _ _ σ6 (by omega) (by omega) (Nat.zero_le _) (g3.adv g6 f6) (fs3.trans (f6.1.mono mTx))
    · obtain ⟨σ6, c6, g6, f6⟩ := s_pass_no (t := t) (w := 3) g3.1 h3 (by omega)
      have ek : kdP T x.2 3 (lopP T 601 x.1 0 (tE T x.2)) = .inr (1, tS T x.2) := if_pos h3
      rw [ek]
      exact b_X9_readFrom_24 (c6.up (by omega)) (by omega) (fun q => by omega) (fun _ => b_X9_readFrom_32 ⟨σ6, rfl, g6, fs3.trans (f6.mono mTx)⟩)
-- words are made anew
def inPkw (L : Lc) : Prop := inP L ∨ (28 ≤ L.1 ∧ L.1 ≤ 30)
theorem Rep.pk {A : RA} {σ σ' : SG} {p : Nat} (h : Rep A σ p) (f : Fr inPkw σ σ') : Rep A σ' p := h.fr f (fun L hL hP => by
  unfold inR at hL
  unfold inPkw inP at hP
  omega)
theorem s_X11_packRows {t : KT} {σ : SG} {A : RA} (hA : Av A) (hR : Rep A σ 0) : ∃ σ', Ca 5 151 [aR (some (1, 0, 0))] (am_hp σ) t (.inl none, am_hp σ', t) ∧ CW A σ' ∧ Fr inPkw σ σ' := by
  have h4 := hA.1
  refine ex_of (e_X11_packRows ?_)
  refine b_X11_packRows_0 ?_
  refine w_loopS (rN A) (fun i c => ∃ σ', c = (2, [some (aR (some (1, 0, 0))), some (aI (iZ ((i : Int))))], [], am_hp σ', t) ∧ Fr inPkw σ σ' ∧ ∀ r, r < i → PX (chA A r) (rNu A r) (rLn A r) r σ') ⟨σ, rfl, Fr.refl _ _, fun r hr => absurd hr (Nat.not_lt_zero r)⟩ (fun i c hi hI go => ?_) (fun c hI => ?_)
  · obtain ⟨σ1, rfl, f1, g1⟩ := hI
    have R1 := hR.pk f1
    have e4 := R1.1
    obtain ⟨σ2, c2, p2, f2⟩ := s_X5_load (d := 0) (t := t) (r := i) hA R1 hi
    have R2 := R1.pk (f2.mono (fun L h => Or.inl h))
    obtain ⟨σ3, c3, p3, q3, f3⟩ := s_X5_choose (d := 0) (t := t) (ru := rRu A) (pr := rPr A) (p := 0) hA.2.1 (hA.v hi) hA.2.2.2.1 p2 R2.2.2.2.1
    rw [← R2.2.1] at c3
    obtain ⟨σ4, c4, p4, f4⟩ := s_X4_fillFrom (d := 0) (t := t) (p := i) (hA.l hi) p3 q3
    refine b_X11_packRows_2 (by omega) (by omega) (fun h => by omega) (fun _ => ?_)
    refine b_X11_packRows_13 (c2.up (by omega)) (c3.up (by omega)) (by omega) (c4.up (by omega)) (go _ ⟨σ4, rfl, ((f1.trans (f2.mono (fun L h => Or.inl h))).trans (f3.mono (fun L h => Or.inl h))).trans (f4.mono (fun L h => Or.inr h.1)), fun r hr => ?_⟩)
    by_cases e : r = i
    · subst e
      exact ⟨p4, hA.l hi, wayF_GW (hA.v hi)⟩
    · have nP : ∀ L, inW r L → ¬ inP L := fun L h1 h2 => by unfold inW at h1; unfold inP at h2; omega
      have nW' : ∀ L, inW r L → ¬ inW i L := fun L h1 h2 => e (h1.2.symm.trans h2.2)
      exact (((g1 r (by omega)).fr f2 nP).fr f3 nP).fr f4 nW'
  · obtain ⟨σ1, rfl, f1, g1⟩ := hI
    have R1 := hR.pk f1
    have e4 := R1.1
    exact b_X11_packRows_2 (by omega) (by omega) (fun _ => b_X11_packRows_65 ⟨σ1, rfl, ⟨hA, R1, g1⟩, f1⟩) (fun h => by omega)
-- rows that are kept
/-- the rows that are kept, the latest first -/
def HS (L : List RA) (σ : SG) : Prop := L.length ≤ 6 ∧ ∃ nx : Nat, nx < 6 ∧ σ.1 (15, 0, 0) 1 = nx ∧ σ.1 (15, 0, 0) 2 = L.length ∧ ∀ j B, L[j]? = some B → Av B ∧ Rep B σ (3 + (nx + 5 - j) % 6)
def inH (L : Lc) : Prop := L = (15, 0, 0) ∨ (8 ≤ L.1 ∧ L.1 ≤ 13 ∧ 3 ≤ L.2.1)
theorem HS.fr {l : List RA} {σ σ' : SG} {P : Lc → Prop} (h : HS l σ) (k : Fr P σ σ') (hP : ∀ L, inH L → ¬ P L) : HS l σ' := by
  obtain ⟨h1, nx, h2, h3, h4, h5⟩ := h
  refine ⟨h1, nx, h2, ?_, ?_, fun j B hB => ⟨(h5 j B hB).1, (h5 j B hB).2.fr k (fun L hL => hP L (Or.inr ?_))⟩⟩
  · rw [(k.1 _ (hP _ (Or.inl rfl))).1]; exact h3
  · rw [(k.1 _ (hP _ (Or.inl rfl))).1]; exact h4
  · unfold inR at hL
    omega
theorem s_X3_forget {t : KT} {σ : SG} {l : List RA} (h : HS l σ) : ∃ σ', Ca 1 2 [aR (some (15, 0, 0))] (am_hp σ) t (.inl none, am_hp σ', t) ∧ HS [] σ' ∧ Fr (fun L => L = (15, 0, 0)) σ σ' := by
  obtain ⟨h1, nx, h2, h3, h4, h5⟩ := h
  refine ex_of (e_X3_forget ?_)
  exact b_X3_forget_0 ⟨_, rfl, ⟨by decide, nx, h2, by simp [sI_1, up_at, h3], by simp [sI_1, up_at], fun j B hB => by simp at hB⟩, Fr.sI rfl⟩
theorem s_X3_keep {t : KT} {σ : SG} {l : List RA} {A : RA} (h : HS l σ) (hA : Av A) (hR : Rep A σ 0) : ∃ σ', Ca 2 3 [aR (some (15, 0, 0)), aR (some (8, 0, 0))] (am_hp σ) t (.inl none, am_hp σ', t) ∧ HS ((A :: l).take 6) σ' ∧ Fr inH σ σ' := by
  obtain ⟨h1, nx, h2, h3, h4, h5⟩ := h
  obtain ⟨σ1, c1, g1, f1⟩ := s_X7_copyFrom (d := 0) (t := t) (p := 3 + nx) (q := 0) (by omega) hA hR
  have n15 : ¬ inR (3 + nx) (15, 0, 0) := by unfold inR; omega
  have e1 : σ1.1 (15, 0, 0) = σ.1 (15, 0, 0) := (f1.1 _ n15).1
  have fH : Fr inH σ σ1 := f1.mono (fun L hL => Or.inr (by unfold inR at hL; omega))
  have c2 : Ca 1 42 [aR (some (8, 3 + (σ.1 (15, 0, 0) 1).toNat, 0)), aR (some (8, 0, 0))] (am_hp σ) t (.inl none, am_hp σ1, t) := by
    rw [h3]
    exact c1
  have fin : ∀ z : Nat, z < 6 → z % 6 = (nx + 1) % 6 → Wp k_X3_keep 1 (35, [some (aR (some (15, 0, 0))), some (aR (some (8, 0, 0)))], [aI (iZ ((z : Int))), aR (some (15, 0, 0))], am_hp σ1, t) (fun r => ∃ σ', r = (.inl none, am_hp σ', t) ∧ HS ((A :: l).take 6) σ' ∧ Fr inH σ σ') := by
    intro z hz hz2
    refine b_X3_keep_35 (by simp [sI_1, up_at, e1, h4]; omega) ⟨_, rfl, ⟨by simp; omega, z, hz, by simp [sI_1, up_at], ?_, fun j B hB => ?_⟩, (fH.trans (Fr.sI (Or.inl rfl))).trans (Fr.sI (Or.inl rfl))⟩
    · simp [sI_1, up_at, e1, h4]
      omega
    · have fq : Fr (fun L => L = (15, 0, 0)) σ1 (sI (sI σ1 (15, 0, 0) (up (σ1.1 (15, 0, 0)) 1 (z : Int))) (15, 0, 0) (up ((sI σ1 (15, 0, 0) (up (σ1.1 (15, 0, 0)) 1 (z : Int))).1 (15, 0, 0)) 2 (min ((sI σ1 (15, 0, 0) (up (σ1.1 (15, 0, 0)) 1 (z : Int))).1 (15, 0, 0) 2 + 1) 6))) := (Fr.sI (P := fun L => L = (15, 0, 0)) rfl).trans (Fr.sI (P := fun L => L = (15, 0, 0)) rfl)
      have nq : ∀ (p : Nat) (L : Lc), inR p L → ¬ L = (15, 0, 0) := fun p L hL e => by
        subst e
        unfold inR at hL
        omega
      rw [List.getElem?_take] at hB
      split at hB
      · rename_i hj6
        cases j with
        | zero =>
          have hB : A = B := by simpa using hB
          subst hB
          refine ⟨hA, ?_⟩
          rw [show (z + 5 - 0) % 6 = nx by omega]
          exact g1.fr fq (nq _)
        | succ j =>
          have hB : l[j]? = some B := by simpa using hB
          have hjl : j < l.length := (List.getElem?_eq_some_iff.mp hB).1
          have hb := h5 j B hB
          refine ⟨hb.1, ?_⟩
          rw [show (z + 5 - (j + 1)) % 6 = (nx + 5 - j) % 6 by omega]
          refine (hb.2.fr f1 (fun L h1 h2 => ?_)).fr fq (nq _)
          unfold inR at h1 h2
          omega
      · cases hB
  refine ex_of (e_X3_keep ?_)
  refine b_X3_keep_0 (by omega) (c2.up (by omega)) (by rw [e1]; omega) (fun h => ?_) (fun h => ?_)
  · rw [e1] at h
    exact b_X3_keep_34 (fin 0 (by omega) (by omega))
  · rw [e1] at h
    refine b_X3_keep_25 ?_
    rw [e1, h3, show (nx : Int) + 1 = ((nx + 1 : Nat) : Int) by omega]
    exact fin (nx + 1) (by omega) (by omega)
theorem s_X3_takeBack {t : KT} {σ : SG} {l : List RA} {A : RA} (h : HS (A :: l) σ) : ∃ σ', Ca 2 4 [aR (some (15, 0, 0)), aR (some (8, 0, 0))] (am_hp σ) t (.inl (some (aI (iZ 1))), am_hp σ', t) ∧ HS l σ' ∧ Av A ∧ Rep A σ' 0 ∧ Fr (fun L => L = (15, 0, 0) ∨ inR 0 L) σ σ' := by
  obtain ⟨h1, nx, h2, h3, h4, h5⟩ := h
  have h1 : l.length + 1 ≤ 6 := h1
  have h4 : σ.1 (15, 0, 0) 2 = ((l.length + 1 : Nat) : Int) := h4
  have hA := h5 0 A rfl
  have fin : ∀ z : Nat, z < 6 → z = (nx + 5) % 6 → Wp k_X3_takeBack 1 (27, [some (aR (some (15, 0, 0))), some (aR (some (8, 0, 0)))], [aI (iZ ((z : Int))), aR (some (15, 0, 0))], am_hp σ, t) (fun r => ∃ σ', r = (.inl (some (aI (iZ 1))), am_hp σ', t) ∧ HS l σ' ∧ Av A ∧ Rep A σ' 0 ∧ Fr (fun L => L = (15, 0, 0) ∨ inR 0 L) σ σ') := by
    intro z hz hz2
    have fa : Fr (fun L => L = (15, 0, 0)) σ (sI σ (15, 0, 0) (up (σ.1 (15, 0, 0)) 1 (z : Int))) := Fr.sI rfl
    have nq : ∀ (p : Nat) (L : Lc), inR p L → ¬ L = (15, 0, 0) := fun p L hL e => by
      subst e
      unfold inR at hL
      omega
    have R1 := hA.2.fr fa (nq _)
    rw [Nat.sub_zero, ← hz2] at R1
    obtain ⟨σ1, c1, g1, f1⟩ := s_X7_copyFrom (d := 0) (t := t) (p := 0) (q := 3 + z) (by omega) hA.1 R1
    have e15 : σ1.1 (15, 0, 0) = up (σ.1 (15, 0, 0)) 1 (z : Int) := by
      rw [(f1.1 _ (by unfold inR; omega)).1]
      simp [sI_1]
    have ez : ((sI σ (15, 0, 0) (up (σ.1 (15, 0, 0)) 1 (z : Int))).1 (15, 0, 0) 1).toNat = z := by simp [sI_1, up_at]
    rw [← ez] at c1
    have fb : Fr (fun L => L = (15, 0, 0)) σ1 (sI σ1 (15, 0, 0) (up (σ1.1 (15, 0, 0)) 2 (σ1.1 (15, 0, 0) 2 - 1))) := Fr.sI rfl
    refine b_X3_takeBack_27 (by simp [sI_1, up_at]; omega) (c1.up (by omega)) ⟨_, rfl, ⟨by omega, z, hz, by simp [sI_1, up_at, e15], ?_, fun j B hB => ?_⟩, hA.1, g1.fr fb (nq _), ((fa.mono (fun L h => Or.inl h)).trans (f1.mono (fun L h => Or.inr h))).trans (fb.mono (fun L h => Or.inl h))⟩
    · simp [sI_1, up_at, e15, h4]
    · have hjl : j < l.length := (List.getElem?_eq_some_iff.mp hB).1
      have hb := h5 (j + 1) B (by simpa using hB)
      refine ⟨hb.1, ?_⟩
      rw [show (z + 5 - j) % 6 = (nx + 5 - (j + 1)) % 6 by omega]
      refine ((hb.2.fr fa (nq _)).fr f1 (fun L h1 h2 => ?_)).fr fb (nq _)
      unfold inR at h1 h2
      omega
  refine ex_of (e_X3_takeBack ?_)
  refine b_X3_takeBack_0 (by omega) (fun _ => ?_) (fun h => by omega)
  refine b_X3_takeBack_9 (by omega) (fun h => ?_) (fun h => ?_)
  · exact b_X3_takeBack_26 (fin 5 (by omega) (by omega))
  · refine b_X3_takeBack_17 ?_
    rw [h3, show (nx : Int) - 1 = ((nx - 1 : Nat) : Int) by omega]
    exact fin (nx - 1) (by omega) (by omega)
theorem t_X3_takeBack {t : KT} {σ : SG} (h : HS [] σ) : Ca 2 4 [aR (some (15, 0, 0)), aR (some (8, 0, 0))] (am_hp σ) t (.inl (some (aI (iZ 0))), am_hp σ, t) := by
  obtain ⟨h1, nx, h2, h3, h4, h5⟩ := h
  have h4 : σ.1 (15, 0, 0) 2 = 0 := h4
  refine ca_of (e_X3_takeBack ?_)
  exact b_X3_takeBack_0 (by omega) (fun h => absurd h4 h) (fun _ => b_X3_takeBack_7 rfl)
