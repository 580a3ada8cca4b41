/-! SCRIPTS: the commands are done -/
set_option maxRecDepth 4000
/-- while a script runs: rows, counts, the latest refusal, how many were done, whether it goes on -/
abbrev XS : Type := RA × (Nat → Int) × Int × Nat × Bool
def stX (X : XS) (x : IT) : XS :=
  let V := vdA X.1 (iC x) (iN x) (rwA X.1 (iN x)) (rwA X.1 (iM x)) (iI x) (iV x)
  if V = 0 then (doA X.1 (iC x) (iN x) (rwA X.1 (iN x)) (rwA X.1 (iM x)) (iI x) (iV x), fup X.2.1 0 (X.2.1 0 + 1), X.2.2.1, X.2.2.2.1 + 1, decide (X.2.2.2.1 + 1 < 40))
  else if V ≤ 2 then (X.1, X.2.1, X.2.2.1, X.2.2.2.1, false)
  else (X.1, fup X.2.1 1 (X.2.1 1 + 1), (V : Int), X.2.2.2.1, false)
def ruX : List IT → XS → XS
  | [], X => X
  | x :: s, X => if X.2.2.2.2 = true then ruX s (stX X x) else X
theorem ruX_no : ∀ (s : List IT) {X : XS}, X.2.2.2.2 ≠ true → ruX s X = X
  | [], _, _ => rfl
  | _ :: _, _, h => if_neg h
theorem ruX_app : ∀ (s s' : List IT) (X : XS), ruX (s ++ s') X = ruX s' (ruX s X)
  | [], _, _ => rfl
  | x :: s, s', X => by
    show (if X.2.2.2.2 = true then ruX (s ++ s') (stX X x) else X) = ruX s' (if X.2.2.2.2 = true then ruX s (stX X x) else X)
    by_cases h : X.2.2.2.2 = true
    · rw [if_pos h, if_pos h]; exact ruX_app s s' _
    · rw [if_neg h, if_neg h, ruX_no s' h]
theorem rpL_add (s : List IT) : ∀ i j, rpL s (i + j) = rpL s i ++ rpL s j
  | 0, j => by rw [Nat.zero_add]; rfl
  | i + 1, j => by
    rw [show i + 1 + j = (i + j) + 1 by omega]
    show s ++ rpL s (i + j) = s ++ rpL s i ++ rpL s j
    rw [rpL_add s i j, List.append_assoc]
theorem rpL_1 (s : List IT) : rpL s 1 = s := List.append_nil s
/-- what does not matter for a command -/
theorem vdA_irr (A : RA) {c : Nat} (nm : List Nat) (x y : Int) {i i' v v' : Int} (hi : hasI c = true → i = i') (hv : hasV c = true → v = v') (hc : c < 9) : vdA A c nm x y i v = vdA A c nm x y i' v' ∧ doA A c nm x y i v = doA A c nm x y i' v' := by
  rcases (by omega : c = 0 ∨ c = 1 ∨ c = 2 ∨ c = 3 ∨ c = 4 ∨ c = 5 ∨ c = 6 ∨ c = 7 ∨ c = 8) with rfl | rfl | rfl | rfl | rfl | rfl | rfl | rfl | rfl
  · exact ⟨rfl, rfl⟩
  · cases hv rfl; exact ⟨rfl, rfl⟩
  · cases hv rfl; cases hi rfl; exact ⟨rfl, rfl⟩
  · cases hv rfl; cases hi rfl; exact ⟨rfl, rfl⟩
  · cases hi rfl; exact ⟨rfl, rfl⟩
  · exact ⟨rfl, rfl⟩
  · cases hv rfl; exact ⟨rfl, rfl⟩
  · cases hv rfl; exact ⟨rfl, rfl⟩
  · cases hv rfl; cases hi rfl; exact ⟨rfl, rfl⟩
def inRn (L : Lc) : Prop := inR 0 L ∨ L.1 = 27 ∨ L.1 = 1 ∨ L.1 = 4 ∨ L.1 = 7
def RN (X : XS) (σ : SG) : Prop := Av X.1 ∧ Rep X.1 σ 0 ∧ (∀ j, j < 4 → σ.1 (27, 0, 0) j = X.2.1 j) ∧ σ.1 (1, 0, 0) 11 = X.2.2.1 ∧ σ.1 (4, 0, 0) 4 = (X.2.2.2.1 : Int) ∧ σ.1 (4, 0, 0) 5 = (if X.2.2.2.2 = true then 1 else 0) ∧ (X.2.2.2.2 = true → X.2.2.2.1 < 40) ∧ X.2.2.2.1 ≤ 40
/-- the steps themselves stay -/
def KR (σ σ' : SG) : Prop := Fr inRn σ σ' ∧ (∀ k j : Nat, 5 ≤ j → σ'.1 (7, k, 0) j = σ.1 (7, k, 0) j) ∧ (∀ k : Nat, σ'.2.1 (7, k, 0) = σ.2.1 (7, k, 0) ∧ σ'.2.2.2.1 (7, k, 0) = σ.2.2.2.1 (7, k, 0)) ∧ σ'.1 (1, 0, 0) 12 = σ.1 (1, 0, 0) 12 ∧ σ'.1 (4, 0, 0) 3 = σ.1 (4, 0, 0) 3 ∧ ∀ k, KI σ k → KI σ' k
theorem KR.refl (σ : SG) : KR σ σ := ⟨Fr.refl _ _, fun _ _ _ => rfl, fun _ => ⟨rfl, rfl⟩, rfl, rfl, fun _ h => h⟩
theorem KR.trans {σ σ' σ2 : SG} (h : KR σ σ') (g : KR σ' σ2) : KR σ σ2 := ⟨h.1.trans g.1, fun k j hj => by rw [g.2.1 k j hj]; exact h.2.1 k j hj, fun k => ⟨by rw [(g.2.2.1 k).1]; exact (h.2.2.1 k).1, by rw [(g.2.2.1 k).2]; exact (h.2.2.1 k).2⟩, by rw [g.2.2.2.1]; exact h.2.2.2.1, by rw [g.2.2.2.2.1]; exact h.2.2.2.2.1, fun k q => g.2.2.2.2.2 k (h.2.2.2.2.2 k q)⟩
theorem KR.of {P : Lc → Prop} {σ σ' : SG} (f : Fr P σ σ') (hP : ∀ L, P L → (inR 0 L ∨ L.1 = 27) ) : KR σ σ' := by
  have n : ∀ L : Lc, ¬ (inR 0 L ∨ L.1 = 27) → ¬ P L := fun L h q => h (hP L q)
  have n7 : ∀ k : Nat, ¬ P (7, k, 0) := fun k => n _ (by unfold inR; omega)
  exact ⟨f.mono (fun L q => (hP L q).elim (fun q => Or.inl q) (fun q => Or.inr (Or.inl q))), fun k j _ => by rw [(f.1 _ (n7 k)).1], fun k => ⟨(f.1 _ (n7 k)).2.1, (f.1 _ (n7 k)).2.2⟩, by rw [(f.1 _ (n (1, 0, 0) (by unfold inR; omega))).1], by rw [(f.1 _ (n (4, 0, 0) (by unfold inR; omega))).1], fun k h => h.fr f (n7 k)⟩
theorem KR.s4 {σ : SG} {j : Nat} {z : Int} (hj : j ≠ 3) : KR σ (sI σ (4, 0, 0) (up (σ.1 (4, 0, 0)) j z)) := by
  refine ⟨Fr.sI (P := inRn) (Or.inr (Or.inr (Or.inr (Or.inl rfl)))), fun k i _ => by simp [sI_1], fun k => ⟨rfl, rfl⟩, by simp [sI_1], by rw [sI_1, if_pos rfl, up_at, if_neg (fun z => hj z.symm)], fun k h => ?_⟩
  exact h.fr (Fr.sI (P := fun L : Lc => L.1 = 4) rfl) (by show ¬ (7 : Nat) = 4; decide)
theorem KR.s7 {σ : SG} {k j : Nat} {z : Int} (hj : j < 5) (hz : -2147483648 ≤ z ∧ z < 2147483648) : KR σ (sI σ (7, k, 0) (up (σ.1 (7, k, 0)) j z)) := by
  refine ⟨Fr.sI (P := inRn) (Or.inr (Or.inr (Or.inr (Or.inr rfl)))), fun i m hm => ?_, fun k => ⟨rfl, rfl⟩, by simp [sI_1], by simp [sI_1], fun i h => ?_⟩
  · rw [sI_1]
    split
    · rename_i e
      have e : i = k := congrArg (fun L : Lc => L.2.1) e
      subst e
      rw [up_at, if_neg (by omega)]
    · rfl
  · by_cases e : i = k
    · subst e; exact h.up hz
    · exact h.fr (Fr.sI (P := fun L : Lc => L = (7, k, 0)) rfl) (fun z => e (congrArg (fun L : Lc => L.2.1) z))
theorem IS.kr {σ σ' : SG} {k : Nat} {x : IT} (h : IS σ k x) (g : KR σ σ') : IS σ' k x := by
  obtain ⟨h1, h2, h3, h4, h5, h6⟩ := h
  refine ⟨by rw [(g.2.2.1 k).2]; exact h1, h2, ⟨by rw [(g.2.2.1 k).1]; exact h3.1, h3.2⟩, ⟨by rw [(g.2.2.1 k).1]; exact h4.1, h4.2⟩, fun q => ?_, fun q => ?_⟩
  · rw [g.2.1 k 5 (by omega)]; exact h5 q
  · rw [g.2.1 k 6 (by omega)]; exact h6 q
theorem SQ.kr {σ σ' : SG} (g : KR σ σ') : ∀ {n dp a b : Nat} {s : List IT}, SQ σ n dp a b s → SQ σ' n dp a b s
  | 0, dp, a, b, s, h => h
  | n + 1, dp, a, b, s, h => by
    rcases h with h | ⟨hab, h | h⟩
    · exact Or.inl h
    · obtain ⟨x, s', h1, h2, h3, h4, h5⟩ := h
      exact Or.inr ⟨hab, Or.inl ⟨x, s', h1.kr g, h2, by rw [g.2.1 a 7 (by omega)]; exact h3, h4, h5.kr g⟩⟩
    · obtain ⟨t, e, s1, s2, h1, h2, h3, h4, h5, h6, h7, h8, h9, h10⟩ := h
      exact Or.inr ⟨hab, Or.inr ⟨t, e, s1, s2, h1, by rw [(g.2.2.1 a).2]; exact h2, by rw [g.2.1 a 6 (by omega)]; exact h3, h4, by rw [g.2.1 a 7 (by omega)]; exact h5, h6, h7, h8.kr g, h9.kr g, h10⟩⟩
theorem s_note {t : KT} {σ : SG} {X : XS} {V : Int} (h : RN X σ) : ∃ σ', Ca 1 166 [aR (some (1, 0, 0)), aI (iZ V)] (am_hp σ) t (.inl none, am_hp σ', t) ∧ RN (X.1, fup X.2.1 1 (X.2.1 1 + 1), V, X.2.2.2) σ' ∧ KR σ σ' := by
  obtain ⟨h1, h2, h3, h4, h5, h6, h7, h8⟩ := h
  have f : Fr (fun L => L.1 = 1 ∨ L.1 = 27) σ (sI (sI σ (1, 0, 0) (up (σ.1 (1, 0, 0)) 11 V)) (27, 0, 0) (up ((sI σ (1, 0, 0) (up (σ.1 (1, 0, 0)) 11 V)).1 (27, 0, 0)) (1 : Int).toNat ((sI σ (1, 0, 0) (up (σ.1 (1, 0, 0)) 11 V)).1 (27, 0, 0) 1 + 1))) := (Fr.sI (P := fun L => L.1 = 1 ∨ L.1 = 27) (Or.inl rfl)).trans (Fr.sI (P := fun L => L.1 = 1 ∨ L.1 = 27) (Or.inr rfl))
  refine ex_of (e_X11_noteRefusal ?_)
  refine b_X11_noteRefusal_0 ⟨_, rfl, ⟨h1, h2.fr f (fun L hL q => by unfold inR at hL; omega), fun j hj => ?_, ?_, ?_, ?_, h7, h8⟩, ?_, ?_, fun k => ⟨rfl, rfl⟩, ?_, ?_, fun k q => q.fr f (by omega)⟩
  · show _ = fup X.2.1 1 (X.2.1 1 + 1) j
    have b := h3 j hj
    have b1 := h3 1 (by omega)
    unfold fup
    by_cases e : j = 1
    · subst e; simp [sI_1, up_at, b]
    · simp [sI_1, up_at, e, b]
  · simp [sI_1, up_at]
  · rw [(f.1 _ (by omega)).1]; exact h5
  · rw [(f.1 _ (by omega)).1]; exact h6
  · exact f.mono (fun L q => q.elim (fun q => Or.inr (Or.inr (Or.inl q))) (fun q => Or.inr (Or.inl q)))
  · intro k j _
    rw [(f.1 _ (by omega)).1]
  · simp [sI_1, up_at]
  · rw [(f.1 _ (by omega)).1]
theorem RN.s4 {X : XS} {σ : SG} {dn : Nat} {go : Bool} {z w : Int} (h : RN X σ) (hz : z = (dn : Int)) (hw : w = if go = true then 1 else 0) (hg : go = true → dn < 40) (hd : dn ≤ 40) : RN (X.1, X.2.1, X.2.2.1, dn, go) (sI (sI σ (4, 0, 0) (up (σ.1 (4, 0, 0)) 4 z)) (4, 0, 0) (up ((sI σ (4, 0, 0) (up (σ.1 (4, 0, 0)) 4 z)).1 (4, 0, 0)) 5 w)) := by
  obtain ⟨h1, h2, h3, h4, h5, h6, h7, h8⟩ := h
  refine ⟨h1, (h2.fr (Fr.sI (P := fun L : Lc => L.1 = 4) rfl) (fun L hL q => by unfold inR at hL; omega)).fr (Fr.sI (P := fun L : Lc => L.1 = 4) rfl) (fun L hL q => by unfold inR at hL; omega), fun j hj => by simp [sI_1, h3 j hj], by simp [sI_1, h4], ?_, ?_, hg, hd⟩
  · simp [sI_1, up_at, hz]
  · simp [sI_1, up_at, hw]
theorem RN.s5 {X : XS} {σ : SG} (h : RN X σ) : RN (X.1, X.2.1, X.2.2.1, X.2.2.2.1, false) (sI σ (4, 0, 0) (up (σ.1 (4, 0, 0)) 5 0)) := by
  obtain ⟨h1, h2, h3, h4, h5, h6, h7, h8⟩ := h
  refine ⟨h1, h2.fr (Fr.sI (P := fun L : Lc => L.1 = 4) rfl) (fun L hL q => by unfold inR at hL; omega), fun j hj => by simp [sI_1, h3 j hj], by simp [sI_1, h4], ?_, ?_, fun q => absurd (show false = true from q) (by decide), h8⟩
  · simp [sI_1, up_at, h5]
  · simp [sI_1, up_at]
/-- the rows that a command names are noted -/
theorem two_7 {σ : SG} {k : Nat} {a b : Int} (ha : -2147483648 ≤ a ∧ a < 2147483648) (hb : -2147483648 ≤ b ∧ b < 2147483648) : KR σ (sI (sI σ (7, k, 0) (up (σ.1 (7, k, 0)) 3 a)) (7, k, 0) (up ((sI σ (7, k, 0) (up (σ.1 (7, k, 0)) 3 a)).1 (7, k, 0)) 4 b)) ∧ Fr (fun L => L.1 = 7) σ (sI (sI σ (7, k, 0) (up (σ.1 (7, k, 0)) 3 a)) (7, k, 0) (up ((sI σ (7, k, 0) (up (σ.1 (7, k, 0)) 3 a)).1 (7, k, 0)) 4 b)) ∧ (sI (sI σ (7, k, 0) (up (σ.1 (7, k, 0)) 3 a)) (7, k, 0) (up ((sI σ (7, k, 0) (up (σ.1 (7, k, 0)) 3 a)).1 (7, k, 0)) 4 b)).1 (7, k, 0) 3 = a ∧ (sI (sI σ (7, k, 0) (up (σ.1 (7, k, 0)) 3 a)) (7, k, 0) (up ((sI σ (7, k, 0) (up (σ.1 (7, k, 0)) 3 a)).1 (7, k, 0)) 4 b)).1 (7, k, 0) 4 = b := by
  refine ⟨(KR.s7 (by omega) ha).trans (KR.s7 (by omega) hb), (Fr.sI (P := fun L : Lc => L.1 = 7) rfl).trans (Fr.sI (P := fun L : Lc => L.1 = 7) rfl), ?_, ?_⟩
  · simp [sI_1, up_at]
  · simp [sI_1, up_at]
theorem rwA_rg {A : RA} (h : Av A) (nm : List Nat) : -2147483648 ≤ rwA A nm ∧ rwA A nm < 2147483648 := by
  have := rwA_bd A nm
  have := h.1
  omega
theorem RN.fr7 {X : XS} {σ σ' : SG} (h : RN X σ) (f : Fr (fun L : Lc => L.1 = 7) σ σ') : RN X σ' := by
  obtain ⟨h1, h2, h3, h4, h5, h6, h7, h8⟩ := h
  refine ⟨h1, h2.fr f (fun L hL q => by unfold inR at hL; omega), fun j hj => ?_, ?_, ?_, ?_, h7, h8⟩
  · rw [(f.1 _ (by decide)).1]; exact h3 j hj
  · rw [(f.1 _ (by decide)).1]; exact h4
  · rw [(f.1 _ (by decide)).1]; exact h5
  · rw [(f.1 _ (by decide)).1]; exact h6
theorem s_X11_doStep {t : KT} {σ : SG} {X : XS} {k : Nat} {x : IT} (h : RN X σ) (hg : X.2.2.2.2 = true) (hI : IS σ k x) (h9 : iC x < 9) (hK : KI σ k) : ∃ σ', Ca 5 165 [aR (some (1, 0, 0)), aR (some (7, k, 0))] (am_hp σ) t (.inl none, am_hp σ', t) ∧ RN (stX X x) σ' ∧ KR σ σ' := by
  have hA := h.1
  have ha := rwA_rg hA (iN x)
  have hb := rwA_rg hA (iM x)
  have fa : Fr (fun L : Lc => L.1 = 7) σ (sI σ (7, k, 0) (up (σ.1 (7, k, 0)) 3 (rwA X.1 (iN x)))) := Fr.sI (P := fun L : Lc => L.1 = 7) rfl
  have c1 := s_X7_rowNm (t := t) hA h.2.1 hI.2.2.1.2.1 hI.2.2.1.2.2
  have c2 := s_X7_rowNm (t := t) hA (h.fr7 fa).2.1 hI.2.2.2.1.2.1 hI.2.2.2.1.2.2
  obtain ⟨kb, fb, b3, b4⟩ := two_7 (σ := σ) (k := k) ha hb
  refine ex_of (e_X11_doStep ?_)
  refine wq (fun Q hQ => ?_)
  have blk := fun r3 σ3 => b_X11_doStep_0 (Q := Q) (t := t) (d := 4) (σ := σ) (σ1 := σ) (σ2 := (sI σ (7, k, 0) (up (σ.1 (7, k, 0)) 3 (rwA X.1 (iN x))))) (σ3 := σ3) (p1 := k) (r1 := rwA X.1 (iN x)) (r2 := rwA X.1 (iM x)) (r3 := r3)
  generalize hB : (sI (sI σ (7, k, 0) (up (σ.1 (7, k, 0)) 3 (rwA X.1 (iN x)))) (7, k, 0) (up ((sI σ (7, k, 0) (up (σ.1 (7, k, 0)) 3 (rwA X.1 (iN x)))).1 (7, k, 0)) 4 (rwA X.1 (iM x)))) = σb at kb fb b3 b4 blk
  have hb' := h.fr7 fb
  have Ib := hI.kr kb
  have Kb := kb.2.2.2.2.2 k hK
  have cv := s_X11_verdictOn (t := t) (c := iC x) (nm := iN x) hA hb'.2.1 Kb Ib.1 Ib.2.1 (fun _ => Ib.2.2.1)
  have irr := vdA_irr X.1 (c := iC x) (iN x) (rwA X.1 (iN x)) (rwA X.1 (iM x)) Ib.2.2.2.2.1 Ib.2.2.2.2.2 h9
  rw [b3, b4, irr.1] at cv
  unfold stX at hQ
  by_cases h0 : vdA X.1 (iC x) (iN x) (rwA X.1 (iN x)) (rwA X.1 (iM x)) (iI x) (iV x) = 0
  · dsimp only at hQ
    rw [if_pos h0] at hQ
    rw [h0] at cv
    refine blk 0 σb (by rw [hI.2.2.1.1]; exact c1.up (by omega)) (by rw [show (sI σ (7, k, 0) (up (σ.1 (7, k, 0)) 3 (rwA X.1 (iN x)))).2.1 (7, k, 0) 2 = _ from hI.2.2.2.1.1]; exact c2.up (by omega)) (cv.up (by omega)) (by omega) (fun q => absurd rfl q) (fun _ => ?_)
    obtain ⟨σ1, c4, g4, f4, a4⟩ := s_X11_doChange (t := t) (c := iC x) (nm := iN x) hA hb'.2.1 Kb Ib.1 (fun _ => Ib.2.2.1.1) (by rw [b3, b4, irr.1]; exact h0)
    rw [b3, b4, irr.2] at g4
    have A4 := Av_do hA h0 (fun _ => hI.2.2.1.2)
    have k4 : KR σb σ1 := KR.of f4 (fun L q => q)
    have hd := h.2.2.2.2.2.2.1 hg
    have R1 : RN (doA X.1 (iC x) (iN x) (rwA X.1 (iN x)) (rwA X.1 (iM x)) (iI x) (iV x), fup X.2.1 0 (X.2.1 0 + 1), X.2.2) σ1 := by
      refine ⟨A4, g4, fun j hj => ?_, ?_, ?_, ?_, h.2.2.2.2.2.2⟩
      · rw [a4, up_at]
        have b := hb'.2.2.1 j hj
        have b0 := hb'.2.2.1 0 (by omega)
        show _ = fup X.2.1 0 (X.2.1 0 + 1) j
        unfold fup
        by_cases e : j = 0
        · rw [if_pos e, if_pos e, b0]
        · rw [if_neg e, if_neg e, b]
      · rw [(f4.1 (1, 0, 0) (by unfold inD inR; omega)).1]; exact hb'.2.2.2.1
      · rw [(f4.1 (4, 0, 0) (by unfold inD inR; omega)).1]; exact hb'.2.2.2.2.1
      · rw [(f4.1 (4, 0, 0) (by unfold inD inR; omega)).1]; exact hb'.2.2.2.2.2.1
    have e4 : σ1.1 (4, 0, 0) 4 = (X.2.2.2.1 : Int) := R1.2.2.2.2.1
    have e44 : (sI σ1 (4, 0, 0) (up (σ1.1 (4, 0, 0)) 4 (σ1.1 (4, 0, 0) 4 + 1))).1 (4, 0, 0) 4 = (X.2.2.2.1 : Int) + 1 := by simp [sI_1, up_at, e4]
    have kk : ∀ w : Int, KR σ (sI (sI σ1 (4, 0, 0) (up (σ1.1 (4, 0, 0)) 4 (σ1.1 (4, 0, 0) 4 + 1))) (4, 0, 0) (up ((sI σ1 (4, 0, 0) (up (σ1.1 (4, 0, 0)) 4 (σ1.1 (4, 0, 0) 4 + 1))).1 (4, 0, 0)) 5 w)) := fun w => ((kb.trans k4).trans (KR.s4 (by omega))).trans (KR.s4 (by omega))
    refine b_X11_doStep_40 (c4.up (by omega)) (by rw [e44]; omega) (fun q => ?_) (fun q => ?_)
    · rw [e44] at q
      refine b_X11_doStep_78 (b_X11_doStep_79 (by omega) (hQ _ ⟨_, rfl, ?_, kk 0⟩))
      exact R1.s4 (dn := X.2.2.2.1 + 1) (by rw [e4]; omega) (by rw [if_neg (by rw [decide_eq_true_eq]; omega)]) (fun z => by rw [decide_eq_true_eq] at z; exact z) (by omega)
    · rw [e44] at q
      refine b_X11_doStep_74 (b_X11_doStep_79 (by omega) (hQ _ ⟨_, rfl, ?_, kk 1⟩))
      exact R1.s4 (dn := X.2.2.2.1 + 1) (by rw [e4]; omega) (by rw [if_pos (by rw [decide_eq_true_eq]; omega)]) (fun z => by rw [decide_eq_true_eq] at z; exact z) (by omega)
  · dsimp only at hQ
    rw [if_neg h0] at hQ
    have hbd := vdA_bd X.1 (iC x) (iN x) (rwA X.1 (iN x)) (rwA X.1 (iM x)) (iI x) (iV x)
    generalize vdA X.1 (iC x) (iN x) (rwA X.1 (iN x)) (rwA X.1 (iM x)) (iI x) (iV x) = V at h0 hbd cv hQ
    refine blk (V : Int) σb (by rw [hI.2.2.1.1]; exact c1.up (by omega)) (by rw [show (sI σ (7, k, 0) (up (σ.1 (7, k, 0)) 3 (rwA X.1 (iN x)))).2.1 (7, k, 0) 2 = _ from hI.2.2.2.1.1]; exact c2.up (by omega)) (cv.up (by omega)) (by omega) (fun _ => ?_) (fun q => by omega)
    have R5 := hb'.s5
    have k5 : KR σ (sI σb (4, 0, 0) (up (σb.1 (4, 0, 0)) 5 0)) := kb.trans (KR.s4 (by omega))
    by_cases h2 : V ≤ 2
    · rw [if_pos h2] at hQ
      have fin := hQ _ ⟨_, rfl, R5, k5⟩
      refine b_X11_doStep_83 (by omega) (fun _ => b_X11_doStep_106 fin) (fun q => ?_)
      exact b_X11_doStep_96 (by omega) (fun _ => b_X11_doStep_106 fin) (fun q => by omega)
    · rw [if_neg h2] at hQ
      refine b_X11_doStep_83 (by omega) (fun q => by omega) (fun q => ?_)
      refine b_X11_doStep_96 (by omega) (fun q => by omega) (fun q => ?_)
      obtain ⟨σ6, c6, g6, k6⟩ := s_note (t := t) (V := (V : Int)) R5
      exact b_X11_doStep_101 (c6.up (by omega)) (b_X11_doStep_106 (hQ _ ⟨σ6, rfl, g6, k5.trans k6⟩))
