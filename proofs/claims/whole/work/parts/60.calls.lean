/-! THE CLASS'S CALLS that change -/
set_option maxRecDepth 4000
/-- the system: rows, saved rows, rows kept (the latest first), counts, the latest refusal, the text, its fault, the report -/
abbrev SS : Type := RA × Option RA × List RA × (Nat → Int) × Int × TB × (Int × Int) × List Int
abbrev xA (S : SS) : RA := S.1
abbrev xV (S : SS) : Option RA := S.2.1
abbrev xP (S : SS) : List RA := S.2.2.1
abbrev xC (S : SS) : Nat → Int := S.2.2.2.1
abbrev xL (S : SS) : Int := S.2.2.2.2.1
abbrev xT (S : SS) : TB := S.2.2.2.2.2.1
abbrev xE (S : SS) : Int × Int := S.2.2.2.2.2.2.1
abbrev xR (S : SS) : List Int := S.2.2.2.2.2.2.2
def SV (v : Option RA) (σ : SG) : Prop := match v with
  | none => σ.1 (1, 0, 0) 12 = 0
  | some B => σ.1 (1, 0, 0) 12 = 1 ∧ Av B ∧ Rep B σ 2
def RP (l : List Int) (σ : SG) : Prop := l.length ≤ 730 ∧ σ.1 (25, 0, 0) 1 = l.length ∧ ∀ j, j < l.length → σ.1 (26, 0, 0) j = l.getD j 0
def CS (S : SS) (σ : SG) : Prop := CW (xA S) σ ∧ SV (xV S) σ ∧ HS (xP S) σ ∧ (∀ j, j < 4 → σ.1 (27, 0, 0) j = xC S j) ∧ σ.1 (1, 0, 0) 11 = xL S ∧ (TX (xT S) σ ∧ σ.1 (2, 0, 0) 5 = (xE S).1 ∧ σ.1 (2, 0, 0) 6 = (xE S).2) ∧ RP (xR S) σ ∧ ∀ k, k < 31 → KI σ k
theorem SV.fr {v : Option RA} {σ σ' : SG} {P : Lc → Prop} (h : SV v σ) (f : Fr P σ σ') (h1 : ¬ P (1, 0, 0)) (h2 : ∀ L, inR 2 L → ¬ P L) : SV v σ' := by
  cases v with
  | none =>
    have h : σ.1 (1, 0, 0) 12 = 0 := h
    show σ'.1 (1, 0, 0) 12 = 0
    rw [(f.1 _ h1).1]
    exact h
  | some B =>
    obtain ⟨a, b, c⟩ := h
    refine ⟨?_, b, c.fr f h2⟩
    rw [(f.1 _ h1).1]
    exact a
theorem RP.fr {l : List Int} {σ σ' : SG} {P : Lc → Prop} (h : RP l σ) (f : Fr P σ σ') (h1 : ¬ P (25, 0, 0)) (h2 : ¬ P (26, 0, 0)) : RP l σ' := by
  unfold RP
  rw [(f.1 _ h1).1, (f.1 _ h2).1]
  exact h
theorem KI.fr {k : Nat} {σ σ' : SG} {P : Lc → Prop} (h : KI σ k) (f : Fr P σ σ') (h1 : ¬ P (7, k, 0)) : KI σ' k := by
  unfold KI
  rw [(f.1 _ h1).1]
  exact h
/-- what the state rests on -/
def inCo (L : Lc) : Prop := L.1 ≤ 3 ∨ L.1 = 7 ∨ (8 ≤ L.1 ∧ L.1 ≤ 13 ∧ L.2.1 ≠ 1) ∨ L.1 = 15 ∨ (25 ≤ L.1 ∧ L.1 ≤ 30)
theorem CS.keep {S : SS} {σ σ' : SG} {P : Lc → Prop} (h : CS S σ) (f : Fr P σ σ') (hP : ∀ L, inCo L → ¬ P L) : CS S σ' := by
  obtain ⟨h1, h2, h3, h4, h5, h6, h7, h8⟩ := h
  have n : ∀ a b c : Nat, inCo (a, b, c) → ¬ P (a, b, c) := fun a b c h => hP _ h
  refine ⟨h1.fr f (fun L hL => hP L ?_), h2.fr f (n _ _ _ (Or.inl (by decide))) (fun L hL => hP L ?_), h3.fr f (fun L hL => hP L ?_), fun j hj => ?_, ?_, ⟨h6.1.fr f (n _ _ _ (Or.inl (by decide))) (n _ _ _ (Or.inl (by decide))), ?_, ?_⟩, h7.fr f (n _ _ _ (by unfold inCo; omega)) (n _ _ _ (by unfold inCo; omega)), fun k hk => (h8 k hk).fr f (n _ _ _ (by unfold inCo; omega))⟩
  · unfold inR at hL; unfold inCo; omega
  · unfold inR at hL; unfold inCo; omega
  · unfold inH at hL
    unfold inCo
    rcases hL with hL | hL
    · subst hL; omega
    · omega
  · rw [(f.1 _ (n _ _ _ (by unfold inCo; omega))).1]; exact h4 j hj
  · rw [(f.1 _ (n _ _ _ (Or.inl (by decide)))).1]; exact h5
  · rw [(f.1 _ (n _ _ _ (Or.inl (by decide)))).1]; exact h6.2.1
  · rw [(f.1 _ (n _ _ _ (Or.inl (by decide)))).1]; exact h6.2.2
theorem CS.P {S : SS} {σ σ' : SG} (h : CS S σ) (f : Fr inP σ σ') : CS S σ' := h.keep f (fun L h1 h2 => by unfold inCo at h1; unfold inP at h2; omega)
/-- the class's cells -/
def inCl (L : Lc) : Prop := L.1 < 40
def upC (S : SS) (j : Nat) (z : Int) : SS := (S.1, S.2.1, S.2.2.1, fup (xC S) j (xC S j + z), S.2.2.2.2)
theorem CS.acc {S : SS} {σ σ' : SG} {c : Int} (h : CS S σ) (k : AQ σ σ' c) : CS (upC S 3 c) σ' := by
  obtain ⟨h1, h2, h3, h4, h5, h6, h7, h8⟩ := h
  have f := k.1
  have n : ∀ a b c : Nat, a ≠ 27 → ¬ inA (a, b, c) := fun a b c h q => h q
  refine ⟨h1.A f, h2.fr f (n _ _ _ (by decide)) (fun L hL q => ?_), h3.fr f (fun L hL q => ?_), fun j hj => ?_, ?_, ⟨h6.1.fr f (n _ _ _ (by decide)) (n _ _ _ (by decide)), ?_, ?_⟩, h7.fr f (n _ _ _ (by decide)) (n _ _ _ (by decide)), fun k hk => (h8 k hk).fr f (n _ _ _ (by decide))⟩
  · unfold inR at hL; unfold inA at q; omega
  · unfold inH at hL
    unfold inA at q
    rcases hL with hL | hL
    · subst hL; omega
    · omega
  · show σ'.1 (27, 0, 0) j = fup (xC S) 3 (xC S 3 + c) j
    unfold fup
    by_cases e : j = 3
    · subst e
      rw [if_pos rfl, k.2.1, h4 3 (by omega)]
    · rw [if_neg e, k.2.2 j e, h4 j hj]
  · rw [(f.1 _ (n _ _ _ (by decide))).1]; exact h5
  · rw [(f.1 _ (n _ _ _ (by decide))).1]; exact h6.2.1
  · rw [(f.1 _ (n _ _ _ (by decide))).1]; exact h6.2.2
/-- a change by a call: the verdict, and the system afterwards -/
def N_call (S : SS) (c : Nat) (nm : List Nat) (x y i v : Int) : SS :=
  if vdA (xA S) c nm x y i v = 0 then (doA (xA S) c nm x y i v, xV S, (xA S :: xP S).take 6, fup (xC S) 0 (xC S 0 + 1), S.2.2.2.2)
  else if vdA (xA S) c nm x y i v ≤ 2 then S
  else (S.1, S.2.1, S.2.2.1, fup (xC S) 1 (xC S 1 + 1), (vdA (xA S) c nm x y i v : Int), S.2.2.2.2.2)
/-- the cells that a call may change beside its change -/
def inCa (L : Lc) : Prop := L.1 = 1 ∨ (8 ≤ L.1 ∧ L.1 ≤ 13 ∧ L.2.1 ≠ 1 ∧ L.2.1 ≠ 2) ∨ L.1 = 15 ∨ (18 ≤ L.1 ∧ L.1 ≤ 24) ∨ (27 ≤ L.1 ∧ L.1 ≤ 30)
theorem s_X11_noteRefusal {t : KT} {σ : SG} {S : SS} {V : Int} (h : CS S σ) : ∃ σ', Ca 1 166 [aR (some (1, 0, 0)), aI (iZ V)] (am_hp σ) t (.inl none, am_hp σ', t) ∧ CS (S.1, S.2.1, S.2.2.1, fup (xC S) 1 (xC S 1 + 1), V, S.2.2.2.2.2) σ' ∧ Fr (fun L => L.1 = 1 ∨ L.1 = 27) σ σ' := by
  obtain ⟨h1, h2, h3, h4, h5, h6, h7, h8⟩ := h
  have f : Fr (fun L => L.1 = 1 ∨ L.1 = 27) σ (sI (sI σ (1, 0, 0) (up (σ.1 (1, 0, 0)) 11 V)) (27, 0, 0) (up ((sI σ (1, 0, 0) (up (σ.1 (1, 0, 0)) 11 V)).1 (27, 0, 0)) (1 : Int).toNat ((sI σ (1, 0, 0) (up (σ.1 (1, 0, 0)) 11 V)).1 (27, 0, 0) 1 + 1))) := (Fr.sI (P := fun L => L.1 = 1 ∨ L.1 = 27) (Or.inl rfl)).trans (Fr.sI (P := fun L => L.1 = 1 ∨ L.1 = 27) (Or.inr rfl))
  refine ex_of (e_X11_noteRefusal ?_)
  refine b_X11_noteRefusal_0 ⟨_, rfl, ⟨h1.fr f (fun L hL q => ?_), ?_, h3.fr f (fun L hL q => ?_), fun j hj => ?_, ?_, ⟨h6.1.fr f (by omega) (by omega), ?_, ?_⟩, h7.fr f (by omega) (by omega), fun k hk => (h8 k hk).fr f (by omega)⟩, f⟩
  · unfold inR at hL; omega
  · show SV (xV S) _
    cases hv : xV S with
    | none =>
      rw [hv] at h2
      have h2 : σ.1 (1, 0, 0) 12 = 0 := h2
      show _ = _
      simp [sI_1, up_at, h2]
    | some B =>
      rw [hv] at h2
      obtain ⟨a, b, c⟩ := h2
      exact ⟨by simp [sI_1, up_at, a], b, c.fr f (fun L hL q => by unfold inR at hL; omega)⟩
  · unfold inH at hL
    rcases hL with hL | hL
    · subst hL; omega
    · omega
  · show _ = fup (xC S) 1 (xC S 1 + 1) j
    have b := h4 j hj
    have b1 := h4 1 (by omega)
    unfold fup
    by_cases e : j = 1
    · subst e; simp [sI_1, up_at, b]
    · simp [sI_1, up_at, e, b]
  · simp [sI_1, up_at]
  · simp [sI_1, up_at, h6.2.1]
  · simp [sI_1, up_at, h6.2.2]
theorem HS.fr2 {l : List RA} {σ σ' : SG} {P : Lc → Prop} (h : HS l σ) (f : Fr P σ σ') (hP : ∀ L : Lc, (L.1 = 15 ∨ (8 ≤ L.1 ∧ L.1 ≤ 13 ∧ 3 ≤ L.2.1)) → ¬ P L) : HS l σ' := h.fr f (fun L hL => hP L (by
  unfold inH at hL
  rcases hL with hL | hL
  · subst hL; exact Or.inl rfl
  · exact Or.inr hL))
theorem inH_c {L : Lc} (h : inH L) : L.1 = 15 ∨ (8 ≤ L.1 ∧ L.1 ≤ 13 ∧ 3 ≤ L.2.1) := by
  unfold inH at h
  rcases h with hL | hL
  · subst hL; exact Or.inl rfl
  · exact Or.inr hL
/-- the state is put together again after rows and words have changed -/
theorem CS.mk' {S : SS} {σ σ' : SG} {P : Lc → Prop} (h : CS S σ) (f : Fr P σ σ') (hP : ∀ L, P L → inCa L ∧ L.1 ≠ 1) {A : RA} {l : List RA} {cn : Nat → Int} (w : CW A σ') (hs : HS l σ') (hc : ∀ j, j < 4 → σ'.1 (27, 0, 0) j = cn j) : CS (A, xV S, l, cn, S.2.2.2.2) σ' := by
  obtain ⟨h1, h2, h3, h4, h5, h6, h7, h8⟩ := h
  have n : ∀ L : Lc, ¬ (inCa L ∧ L.1 ≠ 1) → ¬ P L := fun L h q => h (hP L q)
  refine ⟨w, h2.fr f (n _ (by unfold inCa; omega)) (fun L hL => n L ?_), hs, hc, ?_, ⟨h6.1.fr f (n _ (by unfold inCa; omega)) (n _ (by unfold inCa; omega)), ?_, ?_⟩, h7.fr f (n _ (by unfold inCa; omega)) (n _ (by unfold inCa; omega)), fun k hk => (h8 k hk).fr f (n _ (by unfold inCa; omega))⟩
  · unfold inR at hL; unfold inCa; omega
  · rw [(f.1 _ (n (1, 0, 0) (by unfold inCa; omega))).1]; exact h5
  · rw [(f.1 _ (n (2, 0, 0) (by unfold inCa; omega))).1]; exact h6.2.1
  · rw [(f.1 _ (n (2, 0, 0) (by unfold inCa; omega))).1]; exact h6.2.2
theorem s_X11_doCall0 {t : KT} {σ : SG} {S : SS} {c : Nat} {nm : List Nat} (h : CS S σ) (hc : σ.2.2.2.1 (7, 30, 0) = c) (hc9 : c < 10) (hn : c = 0 → σ.2.1 (7, 30, 0) 1 = cNm nm ∧ ltL nm ∧ nm.length ≤ 8) (hv : vdA (xA S) c nm (σ.1 (7, 30, 0) 3) (σ.1 (7, 30, 0) 4) (σ.1 (7, 30, 0) 5) (σ.1 (7, 30, 0) 6) = 0) : ∃ σ', Ca 6 162 [aR (some (1, 0, 0))] (am_hp σ) t (.inl (some (aI (iZ 0))), am_hp σ', t) ∧ CS (N_call S c nm (σ.1 (7, 30, 0) 3) (σ.1 (7, 30, 0) 4) (σ.1 (7, 30, 0) 5) (σ.1 (7, 30, 0) 6)) σ' ∧ Fr inCa σ σ' := by
  have hK := h.2.2.2.2.2.2.2 30 (by omega)
  have cv := s_X11_verdictOn (t := t) h.1.1 h.1.2.1 hK hc hc9 hn
  rw [hv] at cv
  obtain ⟨σ1, c1, g1, f1⟩ := s_X3_keep (t := t) h.2.2.1 h.1.1 h.1.2.1
  have n7 : ¬ inH (7, 30, 0) := by
    intro q
    have := inH_c q
    omega
  have R1 := h.1.2.1.fr f1 (fun L hL q => by have := inH_c q; unfold inR at hL; omega)
  have K1 := hK.fr f1 n7
  have e7 := (f1.1 _ n7)
  have hv1 : vdA (xA S) c nm (σ1.1 (7, 30, 0) 3) (σ1.1 (7, 30, 0) 4) (σ1.1 (7, 30, 0) 5) (σ1.1 (7, 30, 0) 6) = 0 := by rw [e7.1]; exact hv
  obtain ⟨σ2, c2, g2, f2, a2⟩ := s_X11_doChange (t := t) (c := c) (nm := nm) h.1.1 R1 K1 (by rw [e7.2.2]; exact hc) (fun e => by rw [e7.2.1]; exact (hn e).1) hv1
  rw [e7.1] at g2
  have A2 := Av_do h.1.1 hv (fun e => (hn e).2)
  obtain ⟨σ3, c3, g3, f3⟩ := s_X11_packRows (t := t) A2 g2
  have HS2 := (g1.fr2 f2 (fun L hL q => by unfold inD inR at q; omega)).fr2 f3 (fun L hL q => by unfold inPkw inP at q; omega)
  have m1 : ∀ L, inH L → inCa L ∧ L.1 ≠ 1 := fun L q => by have := inH_c q; unfold inCa; omega
  have m2 : ∀ L, inD L → inCa L ∧ L.1 ≠ 1 := fun L q => by unfold inD inR at q; unfold inCa; omega
  have m3 : ∀ L, inPkw L → inCa L ∧ L.1 ≠ 1 := fun L q => by unfold inPkw inP at q; unfold inCa; omega
  have ff : Fr (fun L => inCa L ∧ L.1 ≠ 1) σ σ3 := ((f1.mono m1).trans (f2.mono m2)).trans (f3.mono m3)
  have e27 : ∀ j, j < 4 → σ3.1 (27, 0, 0) j = fup (xC S) 0 (xC S 0 + 1) j := by
    intro j hj
    rw [(f3.1 (27, 0, 0) (by unfold inPkw inP; omega)).1, a2, (f1.1 (27, 0, 0) (by intro q; have := inH_c q; omega)).1, up_at]
    have b := h.2.2.2.1 j hj
    have b0 := h.2.2.2.1 0 (by omega)
    unfold fup
    by_cases e : j = 0
    · rw [if_pos e, if_pos e, b0]
    · rw [if_neg e, if_neg e, b]
  refine ex_of (e_X11_doCall ?_)
  refine b_X11_doCall_0 (cv.up (by omega)) (by omega) (fun _ => ?_) (fun q => absurd q (by decide))
  refine b_X11_doCall_22 (by omega) (fun _ => ?_) (fun q => absurd q (by decide))
  refine b_X11_doCall_35 (by omega) (fun _ => ?_) (fun q => absurd rfl q)
  refine b_X11_doCall_47 (c1.up (by omega)) (c2.up (by omega)) (c3.up (by omega)) ⟨σ3, rfl, ?_, ff.mono (fun L q => q.1)⟩
  unfold N_call
  rw [if_pos hv]
  exact h.mk' ff (fun L q => q) g3 HS2 e27
theorem t_X11_doCall {t : KT} {σ : SG} {S : SS} {c : Nat} {nm : List Nat} (h : CS S σ) (hc : σ.2.2.2.1 (7, 30, 0) = c) (hc9 : c < 10) (hn : c = 0 → σ.2.1 (7, 30, 0) 1 = cNm nm ∧ ltL nm ∧ nm.length ≤ 8) (hv : vdA (xA S) c nm (σ.1 (7, 30, 0) 3) (σ.1 (7, 30, 0) 4) (σ.1 (7, 30, 0) 5) (σ.1 (7, 30, 0) 6) = 1 ∨ vdA (xA S) c nm (σ.1 (7, 30, 0) 3) (σ.1 (7, 30, 0) 4) (σ.1 (7, 30, 0) 5) (σ.1 (7, 30, 0) 6) = 2) : Ca 6 162 [aR (some (1, 0, 0))] (am_hp σ) t (.inr (if vdA (xA S) c nm (σ.1 (7, 30, 0) 3) (σ.1 (7, 30, 0) 4) (σ.1 (7, 30, 0) 5) (σ.1 (7, 30, 0) 6) = 1 then 2 else 1), am_hp σ, (t.1, t.2.1 + 1, t.2.2 + 6)) := by
  have hK := h.2.2.2.2.2.2.2 30 (by omega)
  have cv := s_X11_verdictOn (t := t) h.1.1 h.1.2.1 hK hc hc9 hn
  refine ca_of (e_X11_doCall ?_)
  rcases hv with hv | hv
  · rw [hv] at cv ⊢
    exact b_X11_doCall_0 (cv.up (by omega)) (by omega) (fun q => absurd rfl q) (fun _ => b_X11_doCall_14 rfl)
  · rw [hv] at cv ⊢
    refine b_X11_doCall_0 (cv.up (by omega)) (by omega) (fun _ => ?_) (fun q => absurd q (by decide))
    exact b_X11_doCall_22 (by omega) (fun q => absurd rfl q) (fun _ => b_X11_doCall_27 rfl)
theorem vdA_bd (A : RA) (c : Nat) (nm : List Nat) (x y i v : Int) : vdA A c nm x y i v ≤ 103 := by
  have hi : ∀ a b : Int, inV A a b v ≤ 103 := fun a b => by
    unfold inV
    split
    · omega
    · split
      · omega
      · split <;> omega
  have h1 := hi x (if isR A x then (rLn A x.toNat : Int) else 0)
  have h2 := hi x i
  have h3 := hi x (rLn A x.toNat : Int)
  have h4 := hi x 0
  unfold vdA
  repeat' split
  all_goals omega
theorem s_X11_doCall1 {t : KT} {σ : SG} {S : SS} {c : Nat} {nm : List Nat} (h : CS S σ) (hc : σ.2.2.2.1 (7, 30, 0) = c) (hc9 : c < 10) (hn : c = 0 → σ.2.1 (7, 30, 0) 1 = cNm nm ∧ ltL nm ∧ nm.length ≤ 8) (hv : 2 < vdA (xA S) c nm (σ.1 (7, 30, 0) 3) (σ.1 (7, 30, 0) 4) (σ.1 (7, 30, 0) 5) (σ.1 (7, 30, 0) 6)) : ∃ σ', Ca 6 162 [aR (some (1, 0, 0))] (am_hp σ) t (.inl (some (aI (iZ (-(vdA (xA S) c nm (σ.1 (7, 30, 0) 3) (σ.1 (7, 30, 0) 4) (σ.1 (7, 30, 0) 5) (σ.1 (7, 30, 0) 6) : Int))))), am_hp σ', t) ∧ CS (N_call S c nm (σ.1 (7, 30, 0) 3) (σ.1 (7, 30, 0) 4) (σ.1 (7, 30, 0) 5) (σ.1 (7, 30, 0) 6)) σ' ∧ Fr inCa σ σ' := by
  have hK := h.2.2.2.2.2.2.2 30 (by omega)
  have cv := s_X11_verdictOn (t := t) h.1.1 h.1.2.1 hK hc hc9 hn
  have hbd := vdA_bd (xA S) c nm (σ.1 (7, 30, 0) 3) (σ.1 (7, 30, 0) 4) (σ.1 (7, 30, 0) 5) (σ.1 (7, 30, 0) 6)
  unfold N_call
  rw [if_neg (by omega), if_neg (by omega)]
  generalize vdA (xA S) c nm (σ.1 (7, 30, 0) 3) (σ.1 (7, 30, 0) 4) (σ.1 (7, 30, 0) 5) (σ.1 (7, 30, 0) 6) = V at hv cv hbd ⊢
  obtain ⟨σ1, c1, g1, f1⟩ := s_X11_noteRefusal (t := t) (V := (V : Int)) h
  refine ex_of (e_X11_doCall ?_)
  refine b_X11_doCall_0 (cv.up (by omega)) (by omega) (fun _ => ?_) (fun q => by omega)
  refine b_X11_doCall_22 (by omega) (fun _ => ?_) (fun q => by omega)
  refine b_X11_doCall_35 (by omega) (fun q => by omega) (fun _ => ?_)
  exact b_X11_doCall_39 (c1.up (by omega)) ⟨σ1, rfl, g1, f1.mono (fun L q => by unfold inCa; omega)⟩
/-- what a call answers that changes row x -/
def R_call (S : SS) (c : Nat) (nm : List Nat) (x y i v : Int) : RZ :=
  if vdA (xA S) c nm x y i v = 0 then .inl ((nW (chA (doA (xA S) c nm x y i v) x.toNat) (rLn (doA (xA S) c nm x y i v) x.toNat)))
  else if vdA (xA S) c nm x y i v ≤ 2 then .inr (vdA (xA S) c nm x y i v)
  else .inl (-(vdA (xA S) c nm x y i v : Int))
theorem s_X11_wordsAfterCall {t : KT} {σ : SG} {S : SS} {c : Nat} {nm : List Nat} (h : CS S σ) (hc : σ.2.2.2.1 (7, 30, 0) = c) (hc9 : 1 ≤ c ∧ c ≤ 5) : ∃ σ', Ca 7 161 [aR (some (1, 0, 0))] (am_hp σ) t (reI 2 1 σ' t (R_call S c nm (σ.1 (7, 30, 0) 3) (σ.1 (7, 30, 0) 4) (σ.1 (7, 30, 0) 5) (σ.1 (7, 30, 0) 6))) ∧ CS (N_call S c nm (σ.1 (7, 30, 0) 3) (σ.1 (7, 30, 0) 4) (σ.1 (7, 30, 0) 5) (σ.1 (7, 30, 0) 6)) σ' ∧ Fr inCa σ σ' := by
  refine rx_of (R := fun σ' => reI 2 1 σ' t (R_call S c nm (σ.1 (7, 30, 0) 3) (σ.1 (7, 30, 0) 4) (σ.1 (7, 30, 0) 5) (σ.1 (7, 30, 0) 6))) (e_X11_wordsAfterCall ?_)
  have hK := h.2.2.2.2.2.2.2 30 (by omega)
  have hbd := vdA_bd (xA S) c nm (σ.1 (7, 30, 0) 3) (σ.1 (7, 30, 0) 4) (σ.1 (7, 30, 0) 5) (σ.1 (7, 30, 0) 6)
  have hn0 : c = 0 → σ.2.1 (7, 30, 0) 1 = cNm nm ∧ ltL nm ∧ nm.length ≤ 8 := fun e => by omega
  by_cases h0 : vdA (xA S) c nm (σ.1 (7, 30, 0) 3) (σ.1 (7, 30, 0) 4) (σ.1 (7, 30, 0) 5) (σ.1 (7, 30, 0) 6) = 0
  · obtain ⟨σ1, c1, g1, f1⟩ := s_X11_doCall0 (t := t) h hc (by omega) hn0 h0
    have e7 := (f1.1 (7, 30, 0) (by unfold inCa; omega)).1
    have hx : isR (xA S) (σ.1 (7, 30, 0) 3) := by
      have h0 := h0
      unfold vdA at h0
      rw [if_neg (by omega)] at h0
      rcases (by omega : c = 1 ∨ c = 2 ∨ c = 3 ∨ c = 4 ∨ c = 5) with rfl | rfl | rfl | rfl | rfl
      · rw [if_pos rfl] at h0
        exact (inV_0 h0).1
      · rw [if_neg (by omega), if_pos rfl] at h0
        split at h0
        · rename_i q; exact q.1
        · omega
      · rw [if_neg (by omega), if_neg (by omega), if_pos rfl] at h0
        exact (inV_0 h0).1
      · rw [if_neg (by omega), if_neg (by omega), if_neg (by omega), if_pos rfl] at h0
        split at h0
        · rename_i q; exact q.1
        · omega
      · rw [if_neg (by omega), if_neg (by omega), if_neg (by omega), if_neg (by omega), if_pos rfl] at h0
        split at h0
        · omega
        · rename_i q; exact (Decidable.not_not.mp q).1
    have eN : rN (doA (xA S) c nm (σ.1 (7, 30, 0) 3) (σ.1 (7, 30, 0) 4) (σ.1 (7, 30, 0) 5) (σ.1 (7, 30, 0) 6)) = rN (xA S) := by
      unfold doA
      rcases (by omega : c = 1 ∨ c = 2 ∨ c = 3 ∨ c = 4 ∨ c = 5) with rfl | rfl | rfl | rfl | rfl <;> rfl
    have eS : N_call S c nm (σ.1 (7, 30, 0) 3) (σ.1 (7, 30, 0) 4) (σ.1 (7, 30, 0) 5) (σ.1 (7, 30, 0) 6) = (doA (xA S) c nm (σ.1 (7, 30, 0) 3) (σ.1 (7, 30, 0) 4) (σ.1 (7, 30, 0) 5) (σ.1 (7, 30, 0) 6), xV S, (xA S :: xP S).take 6, fup (xC S) 0 (xC S 0 + 1), S.2.2.2.2) := if_pos h0
    have W1 : CW (doA (xA S) c nm (σ.1 (7, 30, 0) 3) (σ.1 (7, 30, 0) 4) (σ.1 (7, 30, 0) 5) (σ.1 (7, 30, 0) 6)) σ1 := by
      have := g1.1
      rw [eS] at this
      exact this
    have hx1 : isR (doA (xA S) c nm (σ.1 (7, 30, 0) 3) (σ.1 (7, 30, 0) 4) (σ.1 (7, 30, 0) 5) (σ.1 (7, 30, 0) 6)) (σ.1 (7, 30, 0) 3) := by
      rw [isR, eN]
      exact hx
    have hl := W1.len hx1
    have hnw := W1.nw hx1
    have k3 := hK 3 (by omega) (by omega)
    have cR := s_X7_hasR (t := t) W1.1 W1.2.1 k3
    rw [bz_t hx1] at cR
    rw [← e7] at cR
    refine b_X11_wordsAfterCall_0 (c1.up (by omega)) (by omega) (fun q => absurd rfl q) (fun _ => ?_)
    refine b_X11_wordsAfterCall_9 (cR.up (by omega)) (by omega) (fun _ => ?_) (fun q => absurd q (by decide))
    refine b_X11_wordsAfterCall_30 (by rw [e7]; omega) (b_X11_wordsAfterCall_45 ⟨σ1, ?_, g1, f1⟩)
    rw [e7, hnw.1]
    unfold R_call
    rw [if_pos h0]
    rfl
  · by_cases h2 : vdA (xA S) c nm (σ.1 (7, 30, 0) 3) (σ.1 (7, 30, 0) 4) (σ.1 (7, 30, 0) 5) (σ.1 (7, 30, 0) 6) ≤ 2
    · have c1 := t_X11_doCall (t := t) h hc (by omega) hn0 (by omega)
      unfold R_call N_call
      rw [if_neg h0, if_pos h2, if_neg h0, if_pos h2]
      exact bx_X11_wordsAfterCall_0_1 (c1.up (by omega)) ⟨σ, rfl, h, Fr.refl _ _⟩
    · obtain ⟨σ1, c1, g1, f1⟩ := s_X11_doCall1 (t := t) h hc (by omega) hn0 (by omega)
      unfold R_call
      rw [if_neg h0, if_neg h2]
      refine b_X11_wordsAfterCall_0 (c1.up (by omega)) (by omega) (fun _ => ?_) (fun q => by omega)
      exact b_X11_wordsAfterCall_26 (b_X11_wordsAfterCall_45 ⟨σ1, rfl, g1, f1⟩)
/-- the call's parameters are laid down -/
theorem CS.c7 {S : SS} {σ σ' : SG} (h : CS S σ) (f : Fr (fun L => L = (7, 30, 0)) σ σ') (k : KI σ' 30) : CS S σ' := by
  obtain ⟨h1, h2, h3, h4, h5, h6, h7, h8⟩ := h
  have n : ∀ a b c : Nat, a ≠ 7 → ¬ ((a, b, c) : Lc) = (7, 30, 0) := fun a b c h q => h (congrArg (fun L : Lc => L.1) q)
  have n2 : ∀ L : Lc, L.1 ≠ 7 → ¬ L = (7, 30, 0) := fun L h q => h (by rw [q])
  refine ⟨h1.fr f (fun L hL => n2 L ?_), h2.fr f (n _ _ _ (by decide)) (fun L hL => n2 L ?_), h3.fr2 f (fun L hL => n2 L (by omega)), fun j hj => ?_, ?_, ⟨h6.1.fr f (n _ _ _ (by decide)) (n _ _ _ (by decide)), ?_, ?_⟩, h7.fr f (n _ _ _ (by decide)) (n _ _ _ (by decide)), fun k' hk => ?_⟩
  · unfold inR at hL; omega
  · unfold inR at hL; omega
  · rw [(f.1 _ (n _ _ _ (by decide))).1]; exact h4 j hj
  · rw [(f.1 _ (n _ _ _ (by decide))).1]; exact h5
  · rw [(f.1 _ (n _ _ _ (by decide))).1]; exact h6.2.1
  · rw [(f.1 _ (n _ _ _ (by decide))).1]; exact h6.2.2
  · by_cases e : k' = 30
    · subst e; exact k
    · exact (h8 k' hk).fr f (fun q => e (congrArg (fun L : Lc => L.2.1) q))
def inN (L : Lc) : Prop := inCa L ∨ L.1 = 7
theorem mN1 : ∀ L, inCa L → inN L := fun L h => Or.inl h
theorem mN2 : ∀ L : Lc, L = (7, 30, 0) → inN L := fun L h => Or.inr (by rw [h])
theorem KI.up {σ : SG} {k j : Nat} {z : Int} (h : KI σ k) (hz : -2147483648 ≤ z ∧ z < 2147483648) : KI (sI σ (7, k, 0) (up (σ.1 (7, k, 0)) j z)) k := by
  intro m h1 h2
  have b := h m h1 h2
  rw [sI_1, if_pos rfl, up_at]
  split
  · exact hz
  · exact b
theorem KI.sC {σ : SG} {k : Nat} {L : Lc} {c : Nat} (h : KI σ k) : KI (sC σ L c) k := h
theorem sC_at (σ : SG) (L : Lc) (c : Nat) : (sC σ L c).2.2.2.1 L = c := by
  show (if L = L then c else σ.2.2.2.1 L) = c
  rw [if_pos rfl]
theorem s_X11_append {t : KT} {σ : SG} {S : SS} {a b : Int} (h : CS S σ) (ha : -2147483648 ≤ a ∧ a < 2147483648) (hb : -2147483648 ≤ b ∧ b < 2147483648) : ∃ σ', Ca 8 123 [aR (some (1, 0, 0)), aI (iZ a), aI (iZ b)] (am_hp σ) t (reI 2 1 σ' t (R_call S 1 [] a (σ.1 (7, 30, 0) 4) (σ.1 (7, 30, 0) 5) b)) ∧ CS (N_call S 1 [] a (σ.1 (7, 30, 0) 4) (σ.1 (7, 30, 0) 5) b) σ' ∧ Fr inN σ σ' := by
  have f0 : Fr (fun L => L = (7, 30, 0)) σ (sC σ (7, 30, 0) 1) := Fr.sC rfl
  have k0 : KI (sC σ (7, 30, 0) 1) 30 := h.2.2.2.2.2.2.2 30 (by omega)
  have c0 := sC_at σ (7, 30, 0) 1
  have x0 : ∀ j, (sC σ (7, 30, 0) 1).1 (7, 30, 0) j = σ.1 (7, 30, 0) j := fun j => rfl
  generalize eτ1 : sC σ (7, 30, 0) 1 = τ1 at f0 k0 c0 x0
  have f1 : Fr (fun L => L = (7, 30, 0)) τ1 (sI τ1 (7, 30, 0) (up (τ1.1 (7, 30, 0)) 3 a)) := Fr.sI rfl
  have k1 := k0.up (j := 3) (z := a) ha
  have c1 : (sI τ1 (7, 30, 0) (up (τ1.1 (7, 30, 0)) 3 a)).2.2.2.1 (7, 30, 0) = 1 := c0
  have x1 : ∀ m, (sI τ1 (7, 30, 0) (up (τ1.1 (7, 30, 0)) 3 a)).1 (7, 30, 0) m = if m = 3 then a else τ1.1 (7, 30, 0) m := fun m => by rw [sI_1, if_pos rfl, up_at]
  generalize eτ2 : sI τ1 (7, 30, 0) (up (τ1.1 (7, 30, 0)) 3 a) = τ2 at f1 k1 c1 x1
  have f2 : Fr (fun L => L = (7, 30, 0)) τ2 (sI τ2 (7, 30, 0) (up (τ2.1 (7, 30, 0)) 6 b)) := Fr.sI rfl
  have k2 := k1.up (j := 6) (z := b) hb
  have c2 : (sI τ2 (7, 30, 0) (up (τ2.1 (7, 30, 0)) 6 b)).2.2.2.1 (7, 30, 0) = 1 := c1
  have x2 : ∀ m, (sI τ2 (7, 30, 0) (up (τ2.1 (7, 30, 0)) 6 b)).1 (7, 30, 0) m = if m = 6 then b else τ2.1 (7, 30, 0) m := fun m => by rw [sI_1, if_pos rfl, up_at]
  generalize eτ3 : sI τ2 (7, 30, 0) (up (τ2.1 (7, 30, 0)) 6 b) = τ3 at f2 k2 c2 x2
  have hf := ((f0.trans f1).trans f2)
  have hS := h.c7 hf k2
  have v3 : τ3.1 (7, 30, 0) 3 = a := by simp [x0, x1, x2]
  have v4 : τ3.1 (7, 30, 0) 4 = (σ.1 (7, 30, 0) 4) := by simp [x0, x1, x2]
  have v5 : τ3.1 (7, 30, 0) 5 = (σ.1 (7, 30, 0) 5) := by simp [x0, x1, x2]
  have v6 : τ3.1 (7, 30, 0) 6 = b := by simp [x0, x1, x2]
  obtain ⟨σ1, d1, g1, ff1⟩ := s_X11_wordsAfterCall (t := t) (nm := []) hS c2 (by omega)
  rw [v3, v4, v5, v6] at d1 g1
  refine rx_of (R := fun σ' => reI 2 1 σ' t (R_call S 1 [] a (σ.1 (7, 30, 0) 4) (σ.1 (7, 30, 0) 5) b)) (e_X11_append ?_)
  have hF : Fr inN σ σ1 := (hf.mono mN2).trans (ff1.mono mN1)
  cases hr : R_call S 1 [] a (σ.1 (7, 30, 0) 4) (σ.1 (7, 30, 0) 5) b with
  | inl z =>
    rw [hr] at d1
    subst eτ3; subst eτ2; subst eτ1
    exact b_X11_append_0 (d1.up (by omega)) ⟨σ1, rfl, g1, hF⟩
  | inr e =>
    rw [hr] at d1
    subst eτ3; subst eτ2; subst eτ1
    exact bx_X11_append_0_1 (d1.up (by omega)) ⟨σ1, rfl, g1, hF⟩
theorem s_X11_put {t : KT} {σ : SG} {S : SS} {a b c : Int} (h : CS S σ) (ha : -2147483648 ≤ a ∧ a < 2147483648) (hb : -2147483648 ≤ b ∧ b < 2147483648) (hc : -2147483648 ≤ c ∧ c < 2147483648) : ∃ σ', Ca 8 124 [aR (some (1, 0, 0)), aI (iZ a), aI (iZ b), aI (iZ c)] (am_hp σ) t (reI 2 1 σ' t (R_call S 2 [] a (σ.1 (7, 30, 0) 4) b c)) ∧ CS (N_call S 2 [] a (σ.1 (7, 30, 0) 4) b c) σ' ∧ Fr inN σ σ' := by
  have f0 : Fr (fun L => L = (7, 30, 0)) σ (sC σ (7, 30, 0) 2) := Fr.sC rfl
  have k0 : KI (sC σ (7, 30, 0) 2) 30 := h.2.2.2.2.2.2.2 30 (by omega)
  have c0 := sC_at σ (7, 30, 0) 2
  have x0 : ∀ j, (sC σ (7, 30, 0) 2).1 (7, 30, 0) j = σ.1 (7, 30, 0) j := fun j => rfl
  generalize eτ1 : sC σ (7, 30, 0) 2 = τ1 at f0 k0 c0 x0
  have f1 : Fr (fun L => L = (7, 30, 0)) τ1 (sI τ1 (7, 30, 0) (up (τ1.1 (7, 30, 0)) 3 a)) := Fr.sI rfl
  have k1 := k0.up (j := 3) (z := a) ha
  have c1 : (sI τ1 (7, 30, 0) (up (τ1.1 (7, 30, 0)) 3 a)).2.2.2.1 (7, 30, 0) = 2 := c0
  have x1 : ∀ m, (sI τ1 (7, 30, 0) (up (τ1.1 (7, 30, 0)) 3 a)).1 (7, 30, 0) m = if m = 3 then a else τ1.1 (7, 30, 0) m := fun m => by rw [sI_1, if_pos rfl, up_at]
  generalize eτ2 : sI τ1 (7, 30, 0) (up (τ1.1 (7, 30, 0)) 3 a) = τ2 at f1 k1 c1 x1
  have f2 : Fr (fun L => L = (7, 30, 0)) τ2 (sI τ2 (7, 30, 0) (up (τ2.1 (7, 30, 0)) 5 b)) := Fr.sI rfl
  have k2 := k1.up (j := 5) (z := b) hb
  have c2 : (sI τ2 (7, 30, 0) (up (τ2.1 (7, 30, 0)) 5 b)).2.2.2.1 (7, 30, 0) = 2 := c1
  have x2 : ∀ m, (sI τ2 (7, 30, 0) (up (τ2.1 (7, 30, 0)) 5 b)).1 (7, 30, 0) m = if m = 5 then b else τ2.1 (7, 30, 0) m := fun m => by rw [sI_1, if_pos rfl, up_at]
  generalize eτ3 : sI τ2 (7, 30, 0) (up (τ2.1 (7, 30, 0)) 5 b) = τ3 at f2 k2 c2 x2
  have f3 : Fr (fun L => L = (7, 30, 0)) τ3 (sI τ3 (7, 30, 0) (up (τ3.1 (7, 30, 0)) 6 c)) := Fr.sI rfl
  have k3 := k2.up (j := 6) (z := c) hc
  have c3 : (sI τ3 (7, 30, 0) (up (τ3.1 (7, 30, 0)) 6 c)).2.2.2.1 (7, 30, 0) = 2 := c2
  have x3 : ∀ m, (sI τ3 (7, 30, 0) (up (τ3.1 (7, 30, 0)) 6 c)).1 (7, 30, 0) m = if m = 6 then c else τ3.1 (7, 30, 0) m := fun m => by rw [sI_1, if_pos rfl, up_at]
  generalize eτ4 : sI τ3 (7, 30, 0) (up (τ3.1 (7, 30, 0)) 6 c) = τ4 at f3 k3 c3 x3
  have hf := (((f0.trans f1).trans f2).trans f3)
  have hS := h.c7 hf k3
  have v3 : τ4.1 (7, 30, 0) 3 = a := by simp [x0, x1, x2, x3]
  have v4 : τ4.1 (7, 30, 0) 4 = (σ.1 (7, 30, 0) 4) := by simp [x0, x1, x2, x3]
  have v5 : τ4.1 (7, 30, 0) 5 = b := by simp [x0, x1, x2, x3]
  have v6 : τ4.1 (7, 30, 0) 6 = c := by simp [x0, x1, x2, x3]
  obtain ⟨σ1, d1, g1, ff1⟩ := s_X11_wordsAfterCall (t := t) (nm := []) hS c3 (by omega)
  rw [v3, v4, v5, v6] at d1 g1
  refine rx_of (R := fun σ' => reI 2 1 σ' t (R_call S 2 [] a (σ.1 (7, 30, 0) 4) b c)) (e_X11_put ?_)
  have hF : Fr inN σ σ1 := (hf.mono mN2).trans (ff1.mono mN1)
  cases hr : R_call S 2 [] a (σ.1 (7, 30, 0) 4) b c with
  | inl z =>
    rw [hr] at d1
    exact b_X11_put_0 eτ1.symm eτ2.symm eτ3.symm eτ4.symm (d1.up (by omega)) ⟨σ1, rfl, g1, hF⟩
  | inr e =>
    rw [hr] at d1
    exact bx_X11_put_0_1 eτ1.symm eτ2.symm eτ3.symm eτ4.symm (d1.up (by omega)) ⟨σ1, rfl, g1, hF⟩
theorem s_X11_insert {t : KT} {σ : SG} {S : SS} {a b c : Int} (h : CS S σ) (ha : -2147483648 ≤ a ∧ a < 2147483648) (hb : -2147483648 ≤ b ∧ b < 2147483648) (hc : -2147483648 ≤ c ∧ c < 2147483648) : ∃ σ', Ca 8 125 [aR (some (1, 0, 0)), aI (iZ a), aI (iZ b), aI (iZ c)] (am_hp σ) t (reI 2 1 σ' t (R_call S 3 [] a (σ.1 (7, 30, 0) 4) b c)) ∧ CS (N_call S 3 [] a (σ.1 (7, 30, 0) 4) b c) σ' ∧ Fr inN σ σ' := by
  have f0 : Fr (fun L => L = (7, 30, 0)) σ (sC σ (7, 30, 0) 3) := Fr.sC rfl
  have k0 : KI (sC σ (7, 30, 0) 3) 30 := h.2.2.2.2.2.2.2 30 (by omega)
  have c0 := sC_at σ (7, 30, 0) 3
  have x0 : ∀ j, (sC σ (7, 30, 0) 3).1 (7, 30, 0) j = σ.1 (7, 30, 0) j := fun j => rfl
  generalize eτ1 : sC σ (7, 30, 0) 3 = τ1 at f0 k0 c0 x0
  have f1 : Fr (fun L => L = (7, 30, 0)) τ1 (sI τ1 (7, 30, 0) (up (τ1.1 (7, 30, 0)) 3 a)) := Fr.sI rfl
  have k1 := k0.up (j := 3) (z := a) ha
  have c1 : (sI τ1 (7, 30, 0) (up (τ1.1 (7, 30, 0)) 3 a)).2.2.2.1 (7, 30, 0) = 3 := c0
  have x1 : ∀ m, (sI τ1 (7, 30, 0) (up (τ1.1 (7, 30, 0)) 3 a)).1 (7, 30, 0) m = if m = 3 then a else τ1.1 (7, 30, 0) m := fun m => by rw [sI_1, if_pos rfl, up_at]
  generalize eτ2 : sI τ1 (7, 30, 0) (up (τ1.1 (7, 30, 0)) 3 a) = τ2 at f1 k1 c1 x1
  have f2 : Fr (fun L => L = (7, 30, 0)) τ2 (sI τ2 (7, 30, 0) (up (τ2.1 (7, 30, 0)) 5 b)) := Fr.sI rfl
  have k2 := k1.up (j := 5) (z := b) hb
  have c2 : (sI τ2 (7, 30, 0) (up (τ2.1 (7, 30, 0)) 5 b)).2.2.2.1 (7, 30, 0) = 3 := c1
  have x2 : ∀ m, (sI τ2 (7, 30, 0) (up (τ2.1 (7, 30, 0)) 5 b)).1 (7, 30, 0) m = if m = 5 then b else τ2.1 (7, 30, 0) m := fun m => by rw [sI_1, if_pos rfl, up_at]
  generalize eτ3 : sI τ2 (7, 30, 0) (up (τ2.1 (7, 30, 0)) 5 b) = τ3 at f2 k2 c2 x2
  have f3 : Fr (fun L => L = (7, 30, 0)) τ3 (sI τ3 (7, 30, 0) (up (τ3.1 (7, 30, 0)) 6 c)) := Fr.sI rfl
  have k3 := k2.up (j := 6) (z := c) hc
  have c3 : (sI τ3 (7, 30, 0) (up (τ3.1 (7, 30, 0)) 6 c)).2.2.2.1 (7, 30, 0) = 3 := c2
  have x3 : ∀ m, (sI τ3 (7, 30, 0) (up (τ3.1 (7, 30, 0)) 6 c)).1 (7, 30, 0) m = if m = 6 then c else τ3.1 (7, 30, 0) m := fun m => by rw [sI_1, if_pos rfl, up_at]
  generalize eτ4 : sI τ3 (7, 30, 0) (up (τ3.1 (7, 30, 0)) 6 c) = τ4 at f3 k3 c3 x3
  have hf := (((f0.trans f1).trans f2).trans f3)
  have hS := h.c7 hf k3
  have v3 : τ4.1 (7, 30, 0) 3 = a := by simp [x0, x1, x2, x3]
  have v4 : τ4.1 (7, 30, 0) 4 = (σ.1 (7, 30, 0) 4) := by simp [x0, x1, x2, x3]
  have v5 : τ4.1 (7, 30, 0) 5 = b := by simp [x0, x1, x2, x3]
  have v6 : τ4.1 (7, 30, 0) 6 = c := by simp [x0, x1, x2, x3]
  obtain ⟨σ1, d1, g1, ff1⟩ := s_X11_wordsAfterCall (t := t) (nm := []) hS c3 (by omega)
  rw [v3, v4, v5, v6] at d1 g1
  refine rx_of (R := fun σ' => reI 2 1 σ' t (R_call S 3 [] a (σ.1 (7, 30, 0) 4) b c)) (e_X11_insert ?_)
  have hF : Fr inN σ σ1 := (hf.mono mN2).trans (ff1.mono mN1)
  cases hr : R_call S 3 [] a (σ.1 (7, 30, 0) 4) b c with
  | inl z =>
    rw [hr] at d1
    exact b_X11_insert_0 eτ1.symm eτ2.symm eτ3.symm eτ4.symm (d1.up (by omega)) ⟨σ1, rfl, g1, hF⟩
  | inr e =>
    rw [hr] at d1
    exact bx_X11_insert_0_1 eτ1.symm eτ2.symm eτ3.symm eτ4.symm (d1.up (by omega)) ⟨σ1, rfl, g1, hF⟩
theorem s_X11_remove {t : KT} {σ : SG} {S : SS} {a b : Int} (h : CS S σ) (ha : -2147483648 ≤ a ∧ a < 2147483648) (hb : -2147483648 ≤ b ∧ b < 2147483648) : ∃ σ', Ca 8 126 [aR (some (1, 0, 0)), aI (iZ a), aI (iZ b)] (am_hp σ) t (reI 2 1 σ' t (R_call S 4 [] a (σ.1 (7, 30, 0) 4) b (σ.1 (7, 30, 0) 6))) ∧ CS (N_call S 4 [] a (σ.1 (7, 30, 0) 4) b (σ.1 (7, 30, 0) 6)) σ' ∧ Fr inN σ σ' := by
  have f0 : Fr (fun L => L = (7, 30, 0)) σ (sC σ (7, 30, 0) 4) := Fr.sC rfl
  have k0 : KI (sC σ (7, 30, 0) 4) 30 := h.2.2.2.2.2.2.2 30 (by omega)
  have c0 := sC_at σ (7, 30, 0) 4
  have x0 : ∀ j, (sC σ (7, 30, 0) 4).1 (7, 30, 0) j = σ.1 (7, 30, 0) j := fun j => rfl
  generalize eτ1 : sC σ (7, 30, 0) 4 = τ1 at f0 k0 c0 x0
  have f1 : Fr (fun L => L = (7, 30, 0)) τ1 (sI τ1 (7, 30, 0) (up (τ1.1 (7, 30, 0)) 3 a)) := Fr.sI rfl
  have k1 := k0.up (j := 3) (z := a) ha
  have c1 : (sI τ1 (7, 30, 0) (up (τ1.1 (7, 30, 0)) 3 a)).2.2.2.1 (7, 30, 0) = 4 := c0
  have x1 : ∀ m, (sI τ1 (7, 30, 0) (up (τ1.1 (7, 30, 0)) 3 a)).1 (7, 30, 0) m = if m = 3 then a else τ1.1 (7, 30, 0) m := fun m => by rw [sI_1, if_pos rfl, up_at]
  generalize eτ2 : sI τ1 (7, 30, 0) (up (τ1.1 (7, 30, 0)) 3 a) = τ2 at f1 k1 c1 x1
  have f2 : Fr (fun L => L = (7, 30, 0)) τ2 (sI τ2 (7, 30, 0) (up (τ2.1 (7, 30, 0)) 5 b)) := Fr.sI rfl
  have k2 := k1.up (j := 5) (z := b) hb
  have c2 : (sI τ2 (7, 30, 0) (up (τ2.1 (7, 30, 0)) 5 b)).2.2.2.1 (7, 30, 0) = 4 := c1
  have x2 : ∀ m, (sI τ2 (7, 30, 0) (up (τ2.1 (7, 30, 0)) 5 b)).1 (7, 30, 0) m = if m = 5 then b else τ2.1 (7, 30, 0) m := fun m => by rw [sI_1, if_pos rfl, up_at]
  generalize eτ3 : sI τ2 (7, 30, 0) (up (τ2.1 (7, 30, 0)) 5 b) = τ3 at f2 k2 c2 x2
  have hf := ((f0.trans f1).trans f2)
  have hS := h.c7 hf k2
  have v3 : τ3.1 (7, 30, 0) 3 = a := by simp [x0, x1, x2]
  have v4 : τ3.1 (7, 30, 0) 4 = (σ.1 (7, 30, 0) 4) := by simp [x0, x1, x2]
  have v5 : τ3.1 (7, 30, 0) 5 = b := by simp [x0, x1, x2]
  have v6 : τ3.1 (7, 30, 0) 6 = (σ.1 (7, 30, 0) 6) := by simp [x0, x1, x2]
  obtain ⟨σ1, d1, g1, ff1⟩ := s_X11_wordsAfterCall (t := t) (nm := []) hS c2 (by omega)
  rw [v3, v4, v5, v6] at d1 g1
  refine rx_of (R := fun σ' => reI 2 1 σ' t (R_call S 4 [] a (σ.1 (7, 30, 0) 4) b (σ.1 (7, 30, 0) 6))) (e_X11_remove ?_)
  have hF : Fr inN σ σ1 := (hf.mono mN2).trans (ff1.mono mN1)
  cases hr : R_call S 4 [] a (σ.1 (7, 30, 0) 4) b (σ.1 (7, 30, 0) 6) with
  | inl z =>
    rw [hr] at d1
    subst eτ3; subst eτ2; subst eτ1
    exact b_X11_remove_0 (d1.up (by omega)) ⟨σ1, rfl, g1, hF⟩
  | inr e =>
    rw [hr] at d1
    subst eτ3; subst eτ2; subst eτ1
    exact bx_X11_remove_0_1 (d1.up (by omega)) ⟨σ1, rfl, g1, hF⟩
theorem s_X11_join {t : KT} {σ : SG} {S : SS} {a b : Int} (h : CS S σ) (ha : -2147483648 ≤ a ∧ a < 2147483648) (hb : -2147483648 ≤ b ∧ b < 2147483648) : ∃ σ', Ca 8 127 [aR (some (1, 0, 0)), aI (iZ a), aI (iZ b)] (am_hp σ) t (reI 2 1 σ' t (R_call S 5 [] a b (σ.1 (7, 30, 0) 5) (σ.1 (7, 30, 0) 6))) ∧ CS (N_call S 5 [] a b (σ.1 (7, 30, 0) 5) (σ.1 (7, 30, 0) 6)) σ' ∧ Fr inN σ σ' := by
  have f0 : Fr (fun L => L = (7, 30, 0)) σ (sC σ (7, 30, 0) 5) := Fr.sC rfl
  have k0 : KI (sC σ (7, 30, 0) 5) 30 := h.2.2.2.2.2.2.2 30 (by omega)
  have c0 := sC_at σ (7, 30, 0) 5
  have x0 : ∀ j, (sC σ (7, 30, 0) 5).1 (7, 30, 0) j = σ.1 (7, 30, 0) j := fun j => rfl
  generalize eτ1 : sC σ (7, 30, 0) 5 = τ1 at f0 k0 c0 x0
  have f1 : Fr (fun L => L = (7, 30, 0)) τ1 (sI τ1 (7, 30, 0) (up (τ1.1 (7, 30, 0)) 3 a)) := Fr.sI rfl
  have k1 := k0.up (j := 3) (z := a) ha
  have c1 : (sI τ1 (7, 30, 0) (up (τ1.1 (7, 30, 0)) 3 a)).2.2.2.1 (7, 30, 0) = 5 := c0
  have x1 : ∀ m, (sI τ1 (7, 30, 0) (up (τ1.1 (7, 30, 0)) 3 a)).1 (7, 30, 0) m = if m = 3 then a else τ1.1 (7, 30, 0) m := fun m => by rw [sI_1, if_pos rfl, up_at]
  generalize eτ2 : sI τ1 (7, 30, 0) (up (τ1.1 (7, 30, 0)) 3 a) = τ2 at f1 k1 c1 x1
  have f2 : Fr (fun L => L = (7, 30, 0)) τ2 (sI τ2 (7, 30, 0) (up (τ2.1 (7, 30, 0)) 4 b)) := Fr.sI rfl
  have k2 := k1.up (j := 4) (z := b) hb
  have c2 : (sI τ2 (7, 30, 0) (up (τ2.1 (7, 30, 0)) 4 b)).2.2.2.1 (7, 30, 0) = 5 := c1
  have x2 : ∀ m, (sI τ2 (7, 30, 0) (up (τ2.1 (7, 30, 0)) 4 b)).1 (7, 30, 0) m = if m = 4 then b else τ2.1 (7, 30, 0) m := fun m => by rw [sI_1, if_pos rfl, up_at]
  generalize eτ3 : sI τ2 (7, 30, 0) (up (τ2.1 (7, 30, 0)) 4 b) = τ3 at f2 k2 c2 x2
  have hf := ((f0.trans f1).trans f2)
  have hS := h.c7 hf k2
  have v3 : τ3.1 (7, 30, 0) 3 = a := by simp [x0, x1, x2]
  have v4 : τ3.1 (7, 30, 0) 4 = b := by simp [x0, x1, x2]
  have v5 : τ3.1 (7, 30, 0) 5 = (σ.1 (7, 30, 0) 5) := by simp [x0, x1, x2]
  have v6 : τ3.1 (7, 30, 0) 6 = (σ.1 (7, 30, 0) 6) := by simp [x0, x1, x2]
  obtain ⟨σ1, d1, g1, ff1⟩ := s_X11_wordsAfterCall (t := t) (nm := []) hS c2 (by omega)
  rw [v3, v4, v5, v6] at d1 g1
  refine rx_of (R := fun σ' => reI 2 1 σ' t (R_call S 5 [] a b (σ.1 (7, 30, 0) 5) (σ.1 (7, 30, 0) 6))) (e_X11_join ?_)
  have hF : Fr inN σ σ1 := (hf.mono mN2).trans (ff1.mono mN1)
  cases hr : R_call S 5 [] a b (σ.1 (7, 30, 0) 5) (σ.1 (7, 30, 0) 6) with
  | inl z =>
    rw [hr] at d1
    subst eτ3; subst eτ2; subst eτ1
    exact b_X11_join_0 (d1.up (by omega)) ⟨σ1, rfl, g1, hF⟩
  | inr e =>
    rw [hr] at d1
    subst eτ3; subst eτ2; subst eτ1
    exact bx_X11_join_0_1 (d1.up (by omega)) ⟨σ1, rfl, g1, hF⟩
