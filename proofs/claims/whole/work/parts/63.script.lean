/-! TEXTS that are read; SCRIPTS: as they are meant, and as the class reads them -/
set_option maxRecDepth 4000
def A_readText (S : SS) : RZ × SS := match sysP (xT S) with
  | .inr e => (.inr 1, (S.1, S.2.1, S.2.2.1, S.2.2.2.1, S.2.2.2.2.1, ((xT S).1, 0), ((e.1 : Int), (e.2 : Int)), xR S))
  | .inl A => (.inl (rN A), (A, S.2.1, [], S.2.2.2.1, S.2.2.2.2.1, ((xT S).1, 0), (0, -1), xR S))
theorem CS.txt {S : SS} {σ σ' : SG} {P : Lc → Prop} {T : TB} {e : Int × Int} (h : CS S σ) (f : Fr P σ σ') (hP : ∀ L, P L → ¬ inCo L ∨ L.1 = 2) (hT : TX T σ') (e5 : σ'.1 (2, 0, 0) 5 = e.1) (e6 : σ'.1 (2, 0, 0) 6 = e.2) : CS (S.1, S.2.1, S.2.2.1, S.2.2.2.1, S.2.2.2.2.1, T, e, xR S) σ' := by
  obtain ⟨h1, h2, h3, h4, h5, h6, h7, h8⟩ := h
  have n : ∀ L : Lc, inCo L → L.1 ≠ 2 → ¬ P L := fun L a b q => (hP L q).elim (fun z => z a) b
  refine ⟨h1.fr f (fun L hL => n L ?_ ?_), h2.fr f (n _ (by unfold inCo; omega) (by decide)) (fun L hL => n L ?_ ?_), h3.fr2 f (fun L hL => n L ?_ (by omega)), fun j hj => ?_, ?_, ⟨hT, e5, e6⟩, h7.fr f (n _ (by unfold inCo; omega) (by decide)) (n _ (by unfold inCo; omega) (by decide)), fun k hk => (h8 k hk).fr f (n _ (by unfold inCo; omega) (by decide : (7 : Nat) ≠ 2))⟩
  · unfold inR at hL; unfold inCo; omega
  · unfold inR at hL; omega
  · unfold inR at hL; unfold inCo; omega
  · unfold inR at hL; omega
  · unfold inCo; omega
  · rw [(f.1 (27, 0, 0) (n _ (by unfold inCo; omega) (by decide))).1]; exact h4 j hj
  · rw [(f.1 (1, 0, 0) (n _ (by unfold inCo; omega) (by decide))).1]; exact h5
theorem inSy_c {L : Lc} (h : inSy L) : L.1 = 2 ∨ inR 1 L ∨ L.1 = 14 := by
  rcases h with h | h | h
  · left; rw [h]
  · right; left; exact h
  · right; right; rw [h]
theorem txcut {T : TB} {σ : SG} (h : TX T σ) : TX (T.1, 0) (sI σ (2, 0, 0) (up (σ.1 (2, 0, 0)) 1 0)) := ⟨by simp [sI_1, up_at], by show 0 ≤ 600; omega, h.2.2.1, fun j hj => absurd hj (Nat.not_lt_zero j)⟩
theorem s_X11_readText {t : KT} {σ : SG} {S : SS} (h : CS S σ) : ∃ σ', Ca 9 91 [aR (some (1, 0, 0))] (am_hp σ) t (reI 1 1 σ' t ((A_readText S).1)) ∧ CS (A_readText S).2 σ' ∧ Fr inCl σ σ' := by
  refine rx_of (R := fun σ' => reI 1 1 σ' t (A_readText S).1) (e_X11_readText ?_)
  obtain ⟨σ1, c1, g1, f1⟩ := s_X9_readFrom (t := t) h.2.2.2.2.2.1.1
  have fb : Fr inTx σ1 (sI σ1 (2, 0, 0) (up (σ1.1 (2, 0, 0)) 1 0)) := Fr.sI rfl
  have fS : Fr inSy σ (sI σ1 (2, 0, 0) (up (σ1.1 (2, 0, 0)) 1 0)) := f1.trans (fb.mono mTx)
  have hP : ∀ L, inSy L → ¬ inCo L ∨ L.1 = 2 := fun L q => by
    rcases inSy_c q with q | q | q
    · exact Or.inr q
    · left; unfold inR at q; unfold inCo; omega
    · left; unfold inCo; omega
  have mS : ∀ L, inSy L → inCl L := fun L q => by
    have := inSy_c q
    unfold inR at this
    unfold inCl
    omega
  unfold A_readText
  cases hs : sysP (xT S) with
  | inr e =>
    rw [hs] at c1 g1
    obtain ⟨T1, e5, e6⟩ := g1
    have hC := h.txt (e := ((e.1 : Int), (e.2 : Int))) fS hP (txcut T1) (by simp [sI_1, up_at, e5]) (by simp [sI_1, up_at, e6])
    exact b_X11_readText_0 (c1.up (by omega)) (by simp [bO]) (fun q => absurd rfl q) (fun _ => b_X11_readText_24 ⟨_, rfl, hC, fS.mono mS⟩)
  | inl A =>
    rw [hs] at c1 g1
    obtain ⟨R1, A1, T1, e5, e6⟩ := g1
    have hC := h.txt (e := (0, -1)) fS hP (txcut T1) (by simp [sI_1, up_at, e5]) (by simp [sI_1, up_at, e6])
    refine b_X11_readText_0 (c1.up (by omega)) (by simp [bO]) (fun _ => ?_) (fun q => absurd q (by simp [bO]))
    obtain ⟨σ2, c2, g2, f2⟩ := s_X7_copyFrom (d := 0) (t := t) (p := 0) (q := 1) (by omega) A1 (R1.tx fb)
    obtain ⟨σ3, c3, g3, f3⟩ := s_X3_forget (t := t) (hC.2.2.1.fr2 f2 (fun L hL q => by unfold inR at q; omega))
    have n15 : ∀ L : Lc, L.1 ≠ 15 → ¬ L = (15, 0, 0) := fun L h q => h (by rw [q])
    have ff : Fr (fun L => L.1 = 15 ∨ inR 0 L) (sI σ1 (2, 0, 0) (up (σ1.1 (2, 0, 0)) 1 0)) σ3 := (f2.mono (fun L q => Or.inr q)).trans (f3.mono (fun L q => Or.inl (by rw [q])))
    obtain ⟨σ4, c4, g4, f4⟩ := newRows (t := t) (cn := xC S) hC ff (fun L q => by unfold inR at q; unfold inCa; omega) A1 (g2.fr f3 (fun L hL => n15 L (by unfold inR at hL; omega))) g3 (fun j hj => by
      rw [(ff.1 (27, 0, 0) (by unfold inR; omega)).1]
      exact hC.2.2.2.1 j hj)
    refine b_X11_readText_32 (c2.up (by omega)) (c3.up (by omega)) (c4.up (by omega)) ⟨σ4, ?_, g4, ((fS.mono mS).trans (ff.mono (fun L q => by unfold inR at q; unfold inCl; omega))).trans (f4.mono (fun L q => by unfold inPkw inP at q; unfold inCl; omega))⟩
    rw [g4.1.2.1.1]
    rfl
-- scripts as they are meant
/-- a command: which, names, index, value -/
abbrev IT : Type := Nat × List Nat × List Nat × Int × Int
abbrev iC (x : IT) : Nat := x.1
abbrev iN (x : IT) : List Nat := x.2.1
abbrev iM (x : IT) : List Nat := x.2.2.1
abbrev iI (x : IT) : Int := x.2.2.2.1
abbrev iV (x : IT) : Int := x.2.2.2.2
def hasI (c : Nat) : Bool := c == 2 || c == 3 || c == 4 || c == 8
def hasV (c : Nat) : Bool := c == 1 || c == 2 || c == 3 || c == 6 || c == 7 || c == 8 || c == 9
def rpL (s : List IT) : Nat → List IT
  | 0 => []
  | k + 1 => s ++ rpL s k
def nmsP (T : TB) (c p : Nat) : (List Nat × List Nat × Nat) ⊕ PE := if c ≤ 5 then kdP T p 1 (if c = 5 then kdP T (tE T p) 1 (.inl (tL T p, tL T (tE T p), tE T (tE T p))) else .inl (tL T p, [], tE T p)) else .inl ([], [], p)
def valP (T : TB) (c p : Nat) (i : Int) : (Int × Int × Nat) ⊕ PE := if hasV c then numP T p (if c = 9 then 1 else 0) (if c = 9 then 20 else 999999999) (.inl (i, (tN T p : Int), tE T p)) else .inl (i, 0, p)
def nbsP (T : TB) (c p : Nat) : (Int × Int × Nat) ⊕ PE := if hasI c then numP T p 0 999999999 (valP T c (tE T p) (tN T p : Int)) else valP T c p 0
/-- the command that stands at p, or -1 -/
abbrev cmK (T : TB) (p : Nat) : Int := fndF (fun k => isKw T p k) 0 10
/-- a command with its parameters and the sign behind it; dp repeats are open, m commands were read -/
def comP (T : TB) (dp m p : Nat) : (IT × Nat) ⊕ PE :=
  if cmK T p = -1 then .inr (1, tS T p)
  else if cmK T p = 9 ∧ 2 ≤ dp then .inr (3, tS T p)
  else if 30 ≤ m then .inr (5, tS T p)
  else match nmsP T (cmK T p).toNat (tE T p) with
    | .inr e => .inr e
    | .inl n => match nbsP T (cmK T p).toNat n.2.2 with
      | .inr e => .inr e
      | .inl b => kdP T b.2.2 (if cmK T p = 9 then 4 else 3) (.inl (((cmK T p).toNat, n.1, n.2.1, b.1, b.2.1), tE T b.2.2))
/-- levels of a script that is being read: the inmost first; times, what was read -/
abbrev LV : Type := List (Nat × List IT)
def adL (x : IT) : LV → LV
  | [] => []
  | (t, s) :: r => (t, s ++ [x]) :: r
def clL : LV → LV
  | (t, s) :: (t0, s0) :: r => (t0, s0 ++ rpL s t) :: r
  | l => l
def tpL : LV → List IT
  | [] => []
  | (_, s) :: _ => s
def lopS (T : TB) : Nat → LV → Nat → Nat → List IT ⊕ PE
  | 0, l, _, _ => .inl (tpL l)
  | f + 1, l, m, p => if l.length = 1 ∧ tK T p = 0 then .inl (tpL l)
    else if 1 < l.length ∧ tK T p = 5 then kdP T (tE T p) 3 (lopS T f (clL l) m (tE T (tE T p)))
    else match comP T (l.length - 1) m p with
      | .inr e => .inr e
      | .inl x => if iC x.1 = 9 then lopS T f ((x.1.2.2.2.2.toNat, []) :: l) (m + 1) x.2 else lopS T f (adL x.1 l) (m + 1) x.2
/-- the commands of a script in the order in which they are done -/
def scrP (T : TB) : List IT ⊕ PE := lopS T 601 [(0, [])] 0 0
-- steps of the class
/-- step k holds the command x -/
def IS (σ : SG) (k : Nat) (x : IT) : Prop := σ.2.2.2.1 (7, k, 0) = iC x ∧ iC x < 10 ∧ (σ.2.1 (7, k, 0) 1 = cNm (iN x) ∧ ltL (iN x) ∧ (iN x).length ≤ 8) ∧ (σ.2.1 (7, k, 0) 2 = cNm (iM x) ∧ ltL (iM x) ∧ (iM x).length ≤ 8) ∧ (hasI (iC x) = true → σ.1 (7, k, 0) 5 = iI x) ∧ (hasV (iC x) = true → σ.1 (7, k, 0) 6 = iV x)
/-- the steps from a up to b mean s, with dp repeats around -/
def SQ (σ : SG) : Nat → Nat → Nat → Nat → List IT → Prop
  | 0, _, a, b, s => a = b ∧ s = []
  | n + 1, dp, a, b, s => (a = b ∧ s = []) ∨ (a < b ∧ ((∃ x s', IS σ a x ∧ iC x < 9 ∧ σ.1 (7, a, 0) 7 = ((a + 1 : Nat) : Int) ∧ s = x :: s' ∧ SQ σ n dp (a + 1) b s') ∨ (∃ t e s1 s2, dp < 2 ∧ σ.2.2.2.1 (7, a, 0) = 9 ∧ σ.1 (7, a, 0) 6 = ((t : Nat) : Int) ∧ t ≤ 20 ∧ σ.1 (7, a, 0) 7 = ((e : Nat) : Int) ∧ a < e ∧ e ≤ b ∧ SQ σ n (dp + 1) (a + 1) e s1 ∧ SQ σ n dp e b s2 ∧ s = rpL s1 t ++ s2)))
theorem SQ.mono {σ : SG} : ∀ {n dp a b : Nat} {s : List IT}, SQ σ n dp a b s → SQ σ (n + 1) dp a b s
  | 0, dp, a, b, s, h => Or.inl h
  | n + 1, dp, a, b, s, h => by
    rcases h with h | ⟨hab, h | h⟩
    · exact Or.inl h
    · obtain ⟨x, s', h1, h2, h3, h4, h5⟩ := h
      exact Or.inr ⟨hab, Or.inl ⟨x, s', h1, h2, h3, h4, h5.mono⟩⟩
    · obtain ⟨t, e, s1, s2, h1, h2, h3, h4, h5, h6, h7, h8, h9, h10⟩ := h
      exact Or.inr ⟨hab, Or.inr ⟨t, e, s1, s2, h1, h2, h3, h4, h5, h6, h7, h8.mono, h9.mono, h10⟩⟩
theorem SQ.le {σ : SG} {dp a b : Nat} {s : List IT} {n : Nat} (h : SQ σ n dp a b s) : ∀ m, n ≤ m → SQ σ m dp a b s := by
  intro m hm
  induction m with
  | zero =>
    have : n = 0 := by omega
    subst this
    exact h
  | succ m ih =>
    by_cases e : n = m + 1
    · subst e; exact h
    · exact (ih (by omega)).mono
theorem SQ.ab {σ : SG} : ∀ {n dp a b : Nat} {s : List IT}, SQ σ n dp a b s → a ≤ b
  | 0, _, a, b, s, h => by rw [h.1]; exact Nat.le_refl _
  | n + 1, dp, a, b, s, h => by
    rcases h with h | h
    · rw [h.1]; exact Nat.le_refl _
    · omega
/-- two stretches, one behind the other -/
theorem SQ.app {σ : SG} {k : Nat} : ∀ {n dp a b c : Nat} {s s' : List IT}, SQ σ n dp a b s → SQ σ k dp b c s' → SQ σ (n + k) dp a c (s ++ s')
  | 0, dp, a, b, c, s, s', h, g => by
    obtain ⟨rfl, rfl⟩ := h
    rw [Nat.zero_add, List.nil_append]
    exact g
  | n + 1, dp, a, b, c, s, s', h, g => by
    have hbc := g.ab
    rw [show n + 1 + k = (n + k) + 1 by omega]
    rcases h with h | ⟨hab, h | h⟩
    · obtain ⟨rfl, rfl⟩ := h
      rw [List.nil_append]
      exact g.le _ (by omega)
    · obtain ⟨x, s2, h1, h2, h3, h4, h5⟩ := h
      subst h4
      exact Or.inr ⟨by omega, Or.inl ⟨x, s2 ++ s', h1, h2, h3, rfl, h5.app g⟩⟩
    · obtain ⟨t, e, s1, s2, h1, h2, h3, h4, h5, h6, h7, h8, h9, h10⟩ := h
      subst h10
      exact Or.inr ⟨by omega, Or.inr ⟨t, e, s1, s2 ++ s', h1, h2, h3, h4, h5, h6, by omega, h8.le _ (by omega), h9.app g, by rw [List.append_assoc]⟩⟩
/-- it rests on the steps from a up to b alone -/
theorem SQ.cong {σ σ' : SG} : ∀ {n dp a b : Nat} {s : List IT}, SQ σ n dp a b s → (∀ k, a ≤ k → k < b → σ'.1 (7, k, 0) = σ.1 (7, k, 0) ∧ σ'.2.1 (7, k, 0) = σ.2.1 (7, k, 0) ∧ σ'.2.2.2.1 (7, k, 0) = σ.2.2.2.1 (7, k, 0)) → SQ σ' n dp a b s
  | 0, _, a, b, s, h, _ => h
  | n + 1, dp, a, b, s, h, hc => by
    rcases h with h | ⟨hab, h | h⟩
    · exact Or.inl h
    · obtain ⟨x, s2, h1, h2, h3, h4, h5⟩ := h
      have e := hc a (Nat.le_refl _) hab
      refine Or.inr ⟨hab, Or.inl ⟨x, s2, ?_, h2, by rw [e.1]; exact h3, h4, h5.cong (fun k h6 h7 => hc k (by omega) h7)⟩⟩
      unfold IS at h1 ⊢
      rw [e.1, e.2.1, e.2.2]
      exact h1
    · obtain ⟨t, e, s1, s2, h1, h2, h3, h4, h5, h6, h7, h8, h9, h10⟩ := h
      have ea := hc a (Nat.le_refl _) hab
      exact Or.inr ⟨hab, Or.inr ⟨t, e, s1, s2, h1, by rw [ea.2.2]; exact h2, by rw [ea.1]; exact h3, h4, by rw [ea.1]; exact h5, h6, h7, h8.cong (fun k q1 q2 => hc k (by omega) (by omega)), h9.cong (fun k q1 q2 => hc k (by omega) q2), h10⟩⟩
/-- the levels that are being read, down from level dp, whose steps end at m -/
def LQ (σ : SG) : LV → Nat → Prop
  | [], _ => False
  | (t, s) :: r, m => match r with
    | [] => ∃ n, SQ σ n 0 0 m s
    | (_ :: r') => ∃ o : Nat, o < m ∧ σ.1 (6, 0, 0) r'.length = (o : Int) ∧ σ.2.2.2.1 (7, o, 0) = 9 ∧ σ.1 (7, o, 0) 6 = ((t : Nat) : Int) ∧ t ≤ 20 ∧ (∃ n, SQ σ n (r'.length + 1) (o + 1) m s) ∧ LQ σ r o
/-- the script as far as it was read: levels l, m steps; the reading stands at p -/
def SK (T : TB) (l : LV) (m p : Nat) (σ : SG) : Prop := TT T p σ ∧ (1 ≤ l.length ∧ l.length ≤ 3) ∧ σ.1 (4, 0, 0) 2 = ((l.length - 1 : Nat) : Int) ∧ σ.1 (4, 0, 0) 3 = (m : Int) ∧ m ≤ 30 ∧ LQ σ l m ∧ (∀ k, k < 31 → KI σ k) ∧ σ.1 (2, 0, 0) 5 = 0 ∧ σ.1 (2, 0, 0) 6 = -1
/-- what is changed while a script is read -/
def inSk (L : Lc) : Prop := L.1 = 2 ∨ L.1 = 4 ∨ L.1 = 6 ∨ (L.1 = 7 ∧ L.2.1 ≠ 30)
theorem LQ.cong {σ σ' : SG} : ∀ {l : LV} {m : Nat}, LQ σ l m → (∀ k, k < m → σ'.1 (7, k, 0) = σ.1 (7, k, 0) ∧ σ'.2.1 (7, k, 0) = σ.2.1 (7, k, 0) ∧ σ'.2.2.2.1 (7, k, 0) = σ.2.2.2.1 (7, k, 0)) → (∀ j, j + 1 < l.length → σ'.1 (6, 0, 0) j = σ.1 (6, 0, 0) j) → LQ σ' l m
  | [], _, h, _, _ => h
  | (t, s) :: r, m, h, hc, h6 => by
    cases r with
    | nil =>
      obtain ⟨n, h⟩ := h
      exact ⟨n, h.cong (fun k _ q => hc k q)⟩
    | cons y r' =>
      obtain ⟨o, h1, h2, h3, h4, h5, ⟨n, h7⟩, h8⟩ := h
      have eo := hc o h1
      refine ⟨o, h1, ?_, by rw [eo.2.2]; exact h3, by rw [eo.1]; exact h4, h5, ⟨n, h7.cong (fun k _ q => hc k q)⟩, h8.cong (fun k q => hc k (by omega)) (fun j q => h6 j (by
        simp only [List.length_cons] at q ⊢
        omega))⟩
      rw [h6 r'.length (by simp)]
      exact h2
theorem SK.tx {T : TB} {l : LV} {m p q : Nat} {σ σ' : SG} (h : SK T l m p σ) (k : TT T q σ') (f : FT σ σ') : SK T l m q σ' := by
  obtain ⟨h1, h2, h3, h4, h5, h6, h7, h8, h9⟩ := h
  have n : ∀ a b c : Nat, a ≠ 2 → ¬ inTx (a, b, c) := fun a b c h q => h (congrArg (fun L : Lc => L.1) q)
  have g := f.1
  have e4 := (g.1 (4, 0, 0) (n _ _ _ (by decide))).1
  have e6 := (g.1 (6, 0, 0) (n _ _ _ (by decide))).1
  exact ⟨k, h2, by rw [e4]; exact h3, by rw [e4]; exact h4, h5, h6.cong (fun k _ => ⟨(g.1 _ (n _ _ _ (by decide))).1, (g.1 _ (n _ _ _ (by decide))).2.1, (g.1 _ (n _ _ _ (by decide))).2.2⟩) (fun j _ => by rw [e6]), fun k hk => (h7 k hk).fr g (n _ _ _ (by decide)), by rw [f.2.1]; exact h8, by rw [f.2.2]; exact h9⟩
theorem s_X8_commandAt {t : KT} {σ : SG} {T : TB} {p : Nat} (h : TT T p σ) : Ca 7 60 [aR (some (2, 0, 0))] (am_hp σ) t (.inl (some (aR (if cmK T p = -1 then none else some (91, (cmK T p).toNat, 0)))), am_hp σ, t) := by
  refine ca_of (e_X8_commandAt ?_)
  refine b_X8_commandAt_0 ?_
  refine w_loop 10 (fun i => (2, [some (aR (some (2, 0, 0))), some (aI (iZ ((i : Int))))], [], am_hp σ, t)) (fun i => ∀ j, j < i → ¬ isKw T p (0 + j)) rfl (fun j hj => absurd hj (Nat.not_lt_zero j)) (fun i hi hI w => ?_) (fun hI => ?_)
  · refine b_X8_commandAt_2 (by omega) (fun q => by omega) (fun _ => ?_)
    refine b_X8_commandAt_10 (by omega) ((s_X10_isWord (k := i) h (by omega)).up (by omega)) bz_rg (fun q => ?_) (fun q => ?_)
    · refine b_X8_commandAt_31 (w (fun j hj => ?_))
      by_cases e : j = i
      · subst e
        rw [Nat.zero_add]
        exact bz_0.mp q
      · exact hI j (by omega)
    · refine b_X8_commandAt_25 (by omega) ?_
      have e : cmK T p = (i : Int) := by
        rw [cmK, fndF_at (P := fun k => isKw T p k) 10 0 i hi hI (by rw [Nat.zero_add]; exact bz_n.mp q), Nat.zero_add]
      rw [e, if_neg (by omega)]
  · refine b_X8_commandAt_2 (by omega) (fun _ => b_X8_commandAt_37 ?_) (fun q => by omega)
    have e : cmK T p = -1 := fndF_no (P := fun k => isKw T p k) 10 0 hI
    rw [e, if_pos rfl]
theorem cmd_ok : ∀ c : Nat, c < 10 → (am_cmd c).2.1.toInt = (if c ≤ 5 then (if c = 5 then 2 else 1) else 0) ∧ ((am_cmd c).2.2.1.toInt = if hasI c then 1 else 0) ∧ ((am_cmd c).2.2.2.toInt = if hasV c then 1 else 0) := by decide +kernel
/-- step k is being read: its command c; nothing else but the text and it changes -/
def inS7 (k : Nat) (L : Lc) : Prop := L.1 = 2 ∨ (L.1 = 7 ∧ L.2.1 = k)
def TC (T : TB) (p k c : Nat) (σ : SG) : Prop := TT T p σ ∧ σ.2.2.2.1 (7, k, 0) = c ∧ c < 10 ∧ KI σ k ∧ σ.1 (2, 0, 0) 5 = 0 ∧ σ.1 (2, 0, 0) 6 = -1
theorem TC.adv {T : TB} {p q k c : Nat} {σ σ' : SG} (h : TC T p k c σ) (g : TT T q σ') (f : FT σ σ') : TC T q k c σ' := by
  have n : ∀ a b c : Nat, a ≠ 2 → ¬ inTx (a, b, c) := fun a b c h q => h (congrArg (fun L : Lc => L.1) q)
  exact ⟨g, by rw [(f.1.1 _ (n _ _ _ (by decide))).2.2]; exact h.2.1, h.2.2.1, h.2.2.2.1.fr f.1 (n _ _ _ (by decide)), by rw [f.2.1]; exact h.2.2.2.2.1, by rw [f.2.2]; exact h.2.2.2.2.2⟩
theorem TC.upJ {T : TB} {p k c : Nat} {σ : SG} {f : Nat → Int} (h : TC T p k c σ) : TC T p k c (sJ σ (7, k, 0) f) := by
  have fr : Fr (fun L => L.1 = 7) σ (sJ σ (7, k, 0) f) := Fr.sJ rfl
  exact ⟨h.1.fr fr (by decide) (by decide), h.2⟩
theorem TC.set {T : TB} {p k c j : Nat} {z : Int} {σ : SG} (h : TC T p k c σ) (hz : -2147483648 ≤ z ∧ z < 2147483648) : TC T p k c (sI σ (7, k, 0) (up (σ.1 (7, k, 0)) j z)) := by
  have fr : Fr (fun L => L.1 = 7) σ (sI σ (7, k, 0) (up (σ.1 (7, k, 0)) j z)) := Fr.sI rfl
  exact ⟨h.1.fr fr (by decide) (by decide), h.2.1, h.2.2.1, h.2.2.2.1.up hz, by simp [sI_1, h.2.2.2.2.1], by simp [sI_1, h.2.2.2.2.2]⟩
theorem mT7 (k : Nat) : ∀ L, inTx L → inS7 k L := fun L h => Or.inl (by rw [h])
theorem m77 (k : Nat) : ∀ L : Lc, L = (7, k, 0) → inS7 k L := fun L h => Or.inr (by rw [h]; exact ⟨rfl, rfl⟩)
def NQ (T : TB) (k c : Nat) (σ : SG) : (List Nat × List Nat × Nat) ⊕ PE → SG → Prop
  | .inl x, σ' => TC T x.2.2 k c σ' ∧ (σ'.2.1 (7, k, 0) 1 = cNm x.1 ∧ ltL x.1 ∧ x.1.length ≤ 8) ∧ (σ'.2.1 (7, k, 0) 2 = cNm x.2.1 ∧ ltL x.2.1 ∧ x.2.1.length ≤ 8) ∧ σ'.1 (7, k, 0) = σ.1 (7, k, 0)
  | .inr e, σ' => SE T e σ' ∧ KI σ' k
theorem s_X8_readNames {t : KT} {σ : SG} {T : TB} {p k c : Nat} (h : TC T p k c σ) : ∃ σ', Ca 5 61 [aR (some (2, 0, 0)), aR (some (7, k, 0))] (am_hp σ) t (.inl (some (aI (iZ (bO (nmsP T c p))))), am_hp σ', t) ∧ NQ T k c σ (nmsP T c p) σ' ∧ Fr (inS7 k) σ σ' := by
  have hcm := cmd_ok c h.2.2.1
  have nil_ok : ltL ([] : List Nat) := fun x hx => by simp at hx
  refine ex_of (e_X8_readNames ?_)
  refine wq (fun Q hQ => ?_)
  have k1 : TC T p k c (sJ (sJ σ (7, k, 0) (up (σ.2.1 (7, k, 0)) 1 0)) (7, k, 0) (up ((sJ σ (7, k, 0) (up (σ.2.1 (7, k, 0)) 1 0)).2.1 (7, k, 0)) 2 0)) := h.upJ.upJ
  have f1 : Fr (inS7 k) σ (sJ (sJ σ (7, k, 0) (up (σ.2.1 (7, k, 0)) 1 0)) (7, k, 0) (up ((sJ σ (7, k, 0) (up (σ.2.1 (7, k, 0)) 1 0)).2.1 (7, k, 0)) 2 0)) := (Fr.sJ (P := inS7 k) (m77 k _ rfl)).trans (Fr.sJ (P := inS7 k) (m77 k _ rfl))
  have n1 : (sJ (sJ σ (7, k, 0) (up (σ.2.1 (7, k, 0)) 1 0)) (7, k, 0) (up ((sJ σ (7, k, 0) (up (σ.2.1 (7, k, 0)) 1 0)).2.1 (7, k, 0)) 2 0)).2.1 (7, k, 0) 1 = cNm [] := by simp [sJ_21, up_at, cNm]
  have n2 : (sJ (sJ σ (7, k, 0) (up (σ.2.1 (7, k, 0)) 1 0)) (7, k, 0) (up ((sJ σ (7, k, 0) (up (σ.2.1 (7, k, 0)) 1 0)).2.1 (7, k, 0)) 2 0)).2.1 (7, k, 0) 2 = cNm [] := by simp [sJ_21, up_at, cNm]
  have i1 : (sJ (sJ σ (7, k, 0) (up (σ.2.1 (7, k, 0)) 1 0)) (7, k, 0) (up ((sJ σ (7, k, 0) (up (σ.2.1 (7, k, 0)) 1 0)).2.1 (7, k, 0)) 2 0)).1 (7, k, 0) = σ.1 (7, k, 0) := rfl
  refine b_X8_readNames_0 ?_ ?_ ?_
  all_goals generalize sJ (sJ σ (7, k, 0) (up (σ.2.1 (7, k, 0)) 1 0)) (7, k, 0) (up ((sJ σ (7, k, 0) (up (σ.2.1 (7, k, 0)) 1 0)).2.1 (7, k, 0)) 2 0) = σ1 at k1 f1 n1 n2 i1 ⊢
  all_goals rw [k1.2.1, hcm.1]
  · split
    · split <;> decide
    · decide
  · intro hle
    have h6 : ¬ c ≤ 5 := by
      intro q
      rw [if_pos q] at hle
      split at hle <;> omega
    refine b_X8_readNames_38 (by rw [k1.2.1, hcm.1, if_neg h6]; decide) (fun _ => ?_) (fun q => by rw [k1.2.1, hcm.1, if_neg h6] at q; omega)
    refine b_X8_readNames_63 (hQ _ ⟨σ1, ?_, ?_, f1⟩)
    · unfold nmsP
      rw [if_neg h6]
      rfl
    · unfold nmsP
      rw [if_neg h6]
      exact ⟨k1, ⟨n1, nil_ok, by simp⟩, ⟨n2, nil_ok, by simp⟩, i1⟩
  · intro hgt
    have h5 : c ≤ 5 := by
      apply Decidable.byContradiction
      intro q
      rw [if_neg q] at hgt
      omega
    have ej : ∀ z : Int, Fr (inS7 k) σ1 (sJ σ1 (7, k, 0) (up (σ1.2.1 (7, k, 0)) 1 z)) := fun z => Fr.sJ (P := inS7 k) (m77 k _ rfl)
    have k2 : TC T p k c (sJ σ1 (7, k, 0) (up (σ1.2.1 (7, k, 0)) 1 (σ1.2.1 (2, 0, 0) 4))) := k1.upJ
    have nk7 : ¬ inTx (7, k, 0) := fun q => absurd (show (7 : Nat) = 2 from congrArg (fun L : Lc => L.1) q) (by decide)
    by_cases hk : tK T p = 1
    · have ho := tK_1n hk
      have en := k1.1.2.2.2.2.2.2 hk
      obtain ⟨σ2, c2, g2, f2⟩ := s_pass_ok (t := t) (w := 1) k2.1 hk
      have k3 := k2.adv g2 f2
      have m1 : σ2.2.1 (7, k, 0) 1 = cNm (tL T p) := by
        rw [(f2.1.1 _ nk7).2.1]
        simp [sJ_21, up_at, en]
      have m2 : σ2.2.1 (7, k, 0) 2 = cNm [] := by
        rw [(f2.1.1 _ nk7).2.1]
        simp [sJ_21, up_at, n2]
      have i2 : σ2.1 (7, k, 0) = σ.1 (7, k, 0) := by
        rw [(f2.1.1 _ nk7).1]
        exact i1
      have fA : Fr (inS7 k) σ σ2 := (f1.trans (ej _)).trans (f2.1.mono (mT7 k))
      refine b_X8_readNames_20 (c2.up (by omega)) (by omega) (fun _ => ?_) (fun q => absurd q (by decide))
      refine b_X8_readNames_38 (by rw [k3.2.1, hcm.1, if_pos h5]; split <;> decide) (fun q => ?_) (fun q => ?_)
      · rw [k3.2.1, hcm.1, if_pos h5] at q
        have hne : c ≠ 5 := fun z => by rw [if_pos z] at q; omega
        have er : nmsP T c p = .inl (tL T p, [], tE T p) := by
          unfold nmsP kdP
          rw [if_pos h5, if_neg (fun z => z hk), if_neg hne]
        rw [er] at hQ
        exact b_X8_readNames_63 (hQ _ ⟨σ2, rfl, ⟨k3, ⟨m1, ho.2.2, ho.2.1⟩, ⟨m2, nil_ok, by simp⟩, i2⟩, fA⟩)
      · rw [k3.2.1, hcm.1, if_pos h5] at q
        have he5 : c = 5 := by
          apply Decidable.byContradiction
          intro z
          rw [if_neg z] at q
          omega
        have k4 : TC T (tE T p) k c (sJ σ2 (7, k, 0) (up (σ2.2.1 (7, k, 0)) 2 (σ2.2.1 (2, 0, 0) 4))) := k3.upJ
        have fB : Fr (inS7 k) σ2 (sJ σ2 (7, k, 0) (up (σ2.2.1 (7, k, 0)) 2 (σ2.2.1 (2, 0, 0) 4))) := Fr.sJ (P := inS7 k) (m77 k _ rfl)
        by_cases hk2 : tK T (tE T p) = 1
        · have ho2 := tK_1n hk2
          have en2 := k3.1.2.2.2.2.2.2 hk2
          obtain ⟨σ3, c3, g3, f3⟩ := s_pass_ok (t := t) (w := 1) k4.1 hk2
          have k5 := k4.adv g3 f3
          have er : nmsP T c p = .inl (tL T p, tL T (tE T p), tE T (tE T p)) := by
            unfold nmsP kdP
            rw [if_pos h5, if_neg (fun z => z hk), if_pos he5, if_neg (fun z => z hk2)]
          rw [er] at hQ
          refine b_X8_readNames_49 (c3.up (by omega)) (by omega) (hQ _ ⟨σ3, rfl, ⟨k5, ⟨?_, ho.2.2, ho.2.1⟩, ⟨?_, ho2.2.2, ho2.2.1⟩, ?_⟩, (fA.trans fB).trans (f3.1.mono (mT7 k))⟩)
          · rw [(f3.1.1 _ nk7).2.1]
            simp [sJ_21, up_at, m1]
          · rw [(f3.1.1 _ nk7).2.1]
            simp [sJ_21, up_at, en2]
          · rw [(f3.1.1 _ nk7).1]
            exact i2
        · obtain ⟨σ3, c3, g3, f3⟩ := s_pass_no (t := t) (w := 1) k4.1 hk2 (by omega)
          have er : nmsP T c p = .inr (1, tS T (tE T p)) := by
            unfold nmsP kdP
            rw [if_pos h5, if_neg (fun z => z hk), if_pos he5, if_pos hk2]
          rw [er] at hQ
          exact b_X8_readNames_49 (c3.up (by omega)) (by omega) (hQ _ ⟨σ3, rfl, ⟨g3, k4.2.2.2.1.fr f3 nk7⟩, (fA.trans fB).trans (f3.mono (mT7 k))⟩)
    · obtain ⟨σ2, c2, g2, f2⟩ := s_pass_no (t := t) (w := 1) k2.1 hk (by omega)
      have er : nmsP T c p = .inr (1, tS T p) := by
        unfold nmsP kdP
        rw [if_pos h5, if_pos hk]
      rw [er] at hQ
      exact b_X8_readNames_20 (c2.up (by omega)) (by omega) (fun q => absurd rfl q) (fun _ => b_X8_readNames_36 (hQ _ ⟨σ2, rfl, ⟨g2, k2.2.2.2.1.fr f2 nk7⟩, (f1.trans (ej _)).trans (f2.mono (mT7 k))⟩))
def BQ (T : TB) (k c : Nat) (σ : SG) : (Int × Int × Nat) ⊕ PE → SG → Prop
  | .inl x, σ' => TC T x.2.2 k c σ' ∧ (hasI c = true → σ'.1 (7, k, 0) 5 = x.1) ∧ (hasV c = true → σ'.1 (7, k, 0) 6 = x.2.1) ∧ σ'.1 (7, k, 0) 7 = σ.1 (7, k, 0) 7 ∧ σ'.2.1 (7, k, 0) = σ.2.1 (7, k, 0)
  | .inr e, σ' => SE T e σ' ∧ KI σ' k
theorem hasV_9 {c : Nat} (h : c = 9) : hasV c = true := by
  subst h
  rfl
theorem l_X8_val {t : KT} {Q : RS → Prop} {σ σ0 : SG} {T : TB} {p k c : Nat} {i : Int} (h : TC T p k c σ) (hI : hasI c = true → σ.1 (7, k, 0) 5 = i) (h7 : σ.1 (7, k, 0) 7 = σ0.1 (7, k, 0) 7) (hJ : σ.2.1 (7, k, 0) = σ0.2.1 (7, k, 0)) (q : ∀ σ', Fr (inS7 k) σ σ' → BQ T k c σ0 (valP T c p i) σ' → Q (.inl (some (aI (iZ (bO (valP T c p i))))), am_hp σ', t)) : Wp k_X8_readNumbers 3 (34, [some (aR (some (2, 0, 0))), some (aR (some (7, k, 0))), none], [], am_hp σ, t) Q := by
  have hcm := cmd_ok c h.2.2.1
  unfold valP at q
  have hc := h.2.1
  refine b_X8_readNumbers_34 (by rw [hc, hcm.2.2]; split <;> decide) (fun h0 => ?_) (fun h0 => ?_)
  · rw [hc, hcm.2.2] at h0
    have hv : hasV c = false := by
      apply Bool.eq_false_iff.mpr
      intro z
      rw [if_pos z] at h0
      omega
    rw [if_neg (by rw [hv]; decide)] at q
    exact b_X8_readNumbers_101 (q σ (Fr.refl _ _) ⟨h, hI, fun z => (by rw [hv] at z; cases z), h7, hJ⟩)
  · rw [hc, hcm.2.2] at h0
    have hv : hasV c = true := by
      apply Decidable.byContradiction
      intro z
      rw [if_neg z] at h0
      omega
    rw [if_pos hv] at q
    have h81 : ∀ (x2 : Int) (lo hi : Nat), lo ≤ 1000000000 ∧ hi ≤ 1000000000 → lo = (if c = 9 then 1 else 0) → hi = (if c = 9 then 20 else 999999999) → Wp k_X8_readNumbers 3 (81, [some (aR (some (2, 0, 0))), some (aR (some (7, k, 0))), some (aI (iZ x2))], [aI (iZ ((hi : Int))), aI (iZ ((lo : Int))), aR (some (2, 0, 0))], am_hp σ, t) Q := by
      intro x2 lo hi hb hlo hhi
      rw [← hlo, ← hhi] at q
      by_cases hn : tK T p = 2 ∧ ¬ (tN T p < lo ∨ hi < tN T p)
      · rw [numP_ok hn] at q
        have e3 := h.1.2.2.2.2.2.1 hn.1
        have hr := (tK_2 hn.1).2
        refine b_X8_readNumbers_81 ((s_num_ok h.1 hn.1 hn.2 hb).up (by omega)) (by omega) (fun _ => ?_) (fun z => by omega)
        have k1 := h.set (j := 6) (z := σ.1 (2, 0, 0) 3) (by omega)
        have f1 : Fr (inS7 k) σ (sI σ (7, k, 0) (up (σ.1 (7, k, 0)) 6 (σ.1 (2, 0, 0) 3))) := Fr.sI (P := inS7 k) (m77 k _ rfl)
        obtain ⟨σ2, c2, g2, f2⟩ := s_X10_advance (t := t) k1.1.1 (tE_bd h.1.2.1).2.1 k1.1.2.2.2.2.1
        have k2 := k1.adv g2 f2
        have nk7 : ¬ inTx (7, k, 0) := fun q => absurd (show (7 : Nat) = 2 from congrArg (fun L : Lc => L.1) q) (by decide)
        have e7 := f2.1.1 _ nk7
        refine b_X8_readNumbers_89 (c2.up (by omega)) (b_X8_readNumbers_101 (q σ2 (f1.trans (f2.1.mono (mT7 k))) ⟨k2, fun z => ?_, fun _ => ?_, ?_, ?_⟩))
        · rw [e7.1]
          simp [sI_1, up_at, hI z]
        · rw [e7.1]
          simp [sI_1, up_at, e3]
        · rw [e7.1]
          simp [sI_1, up_at, h7]
        · rw [e7.2.1]
          exact hJ
      · rw [numP_no hn] at q
        obtain ⟨σ2, c2, g2, f2⟩ := s_num_no (t := t) h.1 hn hb
        exact b_X8_readNumbers_81 (c2.up (by omega)) (by omega) (fun z => by omega) (fun _ => b_X8_readNumbers_87 (q σ2 (f2.mono (mT7 k)) ⟨g2, h.2.2.2.1.fr f2 (fun q => absurd (show (7 : Nat) = 2 from congrArg (fun L : Lc => L.1) q) (by decide))⟩))
    refine b_X8_readNumbers_44 (fun h9 => ?_) (fun h9 => ?_)
    · rw [hc] at h9
      have hne : c ≠ 9 := fun z => h9 (by rw [z])
      refine b_X8_readNumbers_58 (b_X8_readNumbers_59 (by omega) (fun _ => ?_) (fun z => by omega))
      refine b_X8_readNumbers_69 (b_X8_readNumbers_70 (by omega) (fun _ => ?_) (fun z => by omega))
      exact b_X8_readNumbers_79 (h81 0 0 999999999 (by omega) (by rw [if_neg hne]) (by rw [if_neg hne]))
    · rw [hc] at h9
      have he : c = 9 := by
        have := congrArg (fun o : Option Lc => (o.getD (0, 0, 0)).2.1) h9
        exact this
      refine b_X8_readNumbers_54 (b_X8_readNumbers_59 (by omega) (fun z => by omega) (fun _ => ?_))
      refine b_X8_readNumbers_65 (b_X8_readNumbers_70 (by omega) (fun z => by omega) (fun _ => ?_))
      exact b_X8_readNumbers_74 (h81 1 1 20 (by omega) (by rw [if_pos he]) (by rw [if_pos he]))
theorem s_X8_readNumbers {t : KT} {σ : SG} {T : TB} {p k c : Nat} (h : TC T p k c σ) : ∃ σ', Ca 4 62 [aR (some (2, 0, 0)), aR (some (7, k, 0))] (am_hp σ) t (.inl (some (aI (iZ (bO (nbsP T c p))))), am_hp σ', t) ∧ BQ T k c σ (nbsP T c p) σ' ∧ Fr (inS7 k) σ σ' := by
  have hcm := cmd_ok c h.2.2.1
  have hc := h.2.1
  refine ex_of (e_X8_readNumbers ?_)
  unfold nbsP
  refine b_X8_readNumbers_0 (by rw [hc, hcm.2.1]; split <;> decide) (fun h0 => ?_) (fun h0 => ?_)
  · rw [hc, hcm.2.1] at h0
    have hv : hasI c = false := by
      apply Bool.eq_false_iff.mpr
      intro z
      rw [if_pos z] at h0
      omega
    rw [if_neg (by rw [hv]; decide)]
    exact l_X8_val h (fun z => by rw [hv] at z; cases z) rfl rfl (fun σ' f g => ⟨σ', rfl, g, f⟩)
  · rw [hc, hcm.2.1] at h0
    have hv : hasI c = true := by
      apply Decidable.byContradiction
      intro z
      rw [if_neg z] at h0
      omega
    rw [if_pos hv]
    by_cases hn : tK T p = 2 ∧ ¬ (tN T p < 0 ∨ 999999999 < tN T p)
    · rw [numP_ok hn]
      have e3 := h.1.2.2.2.2.2.1 hn.1
      have hr := (tK_2 hn.1).2
      refine b_X8_readNumbers_10 ((s_num_ok h.1 hn.1 hn.2 (by omega)).up (by omega)) (by omega) (fun _ => ?_) (fun z => by omega)
      have k1 := h.set (j := 5) (z := σ.1 (2, 0, 0) 3) (by omega)
      have f1 : Fr (inS7 k) σ (sI σ (7, k, 0) (up (σ.1 (7, k, 0)) 5 (σ.1 (2, 0, 0) 3))) := Fr.sI (P := inS7 k) (m77 k _ rfl)
      obtain ⟨σ2, c2, g2, f2⟩ := s_X10_advance (t := t) k1.1.1 (tE_bd h.1.2.1).2.1 k1.1.2.2.2.2.1
      have k2 := k1.adv g2 f2
      have nk7 : ¬ inTx (7, k, 0) := fun q => absurd (show (7 : Nat) = 2 from congrArg (fun L : Lc => L.1) q) (by decide)
      have e7 := f2.1.1 _ nk7
      refine b_X8_readNumbers_22 (c2.up (by omega)) (l_X8_val (σ0 := σ) k2 (fun _ => ?_) ?_ ?_ (fun σ' f g => ⟨σ', rfl, g, (f1.trans (f2.1.mono (mT7 k))).trans f⟩))
      · rw [e7.1]
        simp [sI_1, up_at, e3]
      · rw [e7.1]
        simp [sI_1, up_at]
      · rw [e7.2.1]
        rfl
    · rw [numP_no hn]
      obtain ⟨σ2, c2, g2, f2⟩ := s_num_no (t := t) h.1 hn (by omega)
      exact b_X8_readNumbers_10 (c2.up (by omega)) (by omega) (fun z => by omega) (fun _ => b_X8_readNumbers_20 ⟨σ2, rfl, ⟨g2, h.2.2.2.1.fr f2 (fun q => absurd (show (7 : Nat) = 2 from congrArg (fun L : Lc => L.1) q) (by decide))⟩, f2.mono (mT7 k)⟩)
