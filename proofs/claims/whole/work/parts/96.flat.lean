/-! THE MODEL: commands of a script are read -/
set_option maxRecDepth 4000
/-- the cells that a script's steps lie in -/
def AGs (σ σ' : SG) (k : Nat) : Prop := σ'.1 (55, 0, 0) k = σ.1 (55, 0, 0) k ∧ σ'.1 (56, 0, 0) k = σ.1 (56, 0, 0) k ∧ σ'.1 (57, 0, 0) k = σ.1 (57, 0, 0) k ∧ σ'.2.1 (60, 0, 0) k = σ.2.1 (60, 0, 0) k ∧ σ'.2.1 (61, 0, 0) k = σ.2.1 (61, 0, 0) k
theorem AGs.refl (σ : SG) (k : Nat) : AGs σ σ k := ⟨rfl, rfl, rfl, rfl, rfl⟩
theorem AGs.trans {a b c : SG} {k : Nat} (h : AGs a b k) (g : AGs b c k) : AGs a c k := ⟨g.1.trans h.1, g.2.1.trans h.2.1, g.2.2.1.trans h.2.2.1, g.2.2.2.1.trans h.2.2.2.1, g.2.2.2.2.trans h.2.2.2.2⟩
/-- step k of the model holds the command x -/
def JSt (σ : SG) (k : Nat) (x : IT) : Prop := σ.1 (55, 0, 0) k = (iC x : Int) ∧ iC x < 9 ∧ (iC x ≤ 5 → σ.2.1 (60, 0, 0) k = (mN (iN x) : Int) ∧ ltL (iN x) ∧ (iN x).length ≤ 8) ∧ (iC x = 5 → σ.2.1 (61, 0, 0) k = (mN (iM x) : Int) ∧ ltL (iM x) ∧ (iM x).length ≤ 8) ∧ (hasI (iC x) = true → σ.1 (56, 0, 0) k = iI x ∧ 0 ≤ iI x ∧ iI x ≤ 999999999) ∧ (hasV (iC x) = true → (hasI (iC x) = false → σ.1 (56, 0, 0) k = iV x) ∧ (hasI (iC x) = true → σ.1 (57, 0, 0) k = iV x) ∧ 0 ≤ iV x ∧ iV x ≤ 999999999)
theorem JSt.cong {σ σ' : SG} {k : Nat} {x : IT} (h : JSt σ k x) (e : AGs σ σ' k) : JSt σ' k x := by
  obtain ⟨e1, e2, e3, e4, e5⟩ := e
  unfold JSt at h ⊢
  rw [e1, e2, e3, e4, e5]
  exact h
/-- the steps from a up to b mean s, with dp repeats around -/
def JQ (σ : SG) : Nat → Nat → Nat → Nat → List IT → Prop
  | 0, _, a, b, s => a = b ∧ s = []
  | n + 1, dp, a, b, s => (a = b ∧ s = []) ∨ (a < b ∧ ((∃ x s', JSt σ a x ∧ s = x :: s' ∧ JQ σ n dp (a + 1) b s') ∨ (∃ t e s1 s2, dp < 2 ∧ σ.1 (55, 0, 0) a = 9 ∧ σ.1 (56, 0, 0) a = ((t : Nat) : Int) ∧ (1 ≤ t ∧ t ≤ 20) ∧ a < e ∧ e < b ∧ σ.1 (55, 0, 0) e = 10 ∧ JQ σ n (dp + 1) (a + 1) e s1 ∧ JQ σ n dp (e + 1) b s2 ∧ s = rpL s1 t ++ s2)))
theorem JQ.mono {σ : SG} : ∀ {n dp a b : Nat} {s : List IT}, JQ σ n dp a b s → JQ σ (n + 1) dp a b s
  | 0, dp, a, b, s, h => Or.inl h
  | n + 1, dp, a, b, s, h => by
    rcases h with h | ⟨hab, h | h⟩
    · exact Or.inl h
    · obtain ⟨x, s', h1, h4, h5⟩ := h
      exact Or.inr ⟨hab, Or.inl ⟨x, s', h1, h4, h5.mono⟩⟩
    · obtain ⟨t, e, s1, s2, h1, h2, h3, h4, h5, h6, h7, h8, h9, h10⟩ := h
      exact Or.inr ⟨hab, Or.inr ⟨t, e, s1, s2, h1, h2, h3, h4, h5, h6, h7, h8.mono, h9.mono, h10⟩⟩
theorem JQ.le {σ : SG} {dp a b : Nat} {s : List IT} {n : Nat} (h : JQ σ n dp a b s) : ∀ m, n ≤ m → JQ σ m dp a b s := by
  intro m hm
  induction m with
  | zero =>
    have : n = 0 := by omega
    subst this
    exact h
  | succ m ih =>
    by_cases e : n = m + 1
    · subst e; exact h
    · exact (ih (by omega)).mono
theorem JQ.ab {σ : SG} : ∀ {n dp a b : Nat} {s : List IT}, JQ σ n dp a b s → a ≤ b
  | 0, _, a, b, s, h => by rw [h.1]; exact Nat.le_refl _
  | n + 1, dp, a, b, s, h => by
    rcases h with h | h
    · rw [h.1]; exact Nat.le_refl _
    · omega
theorem JQ.app {σ : SG} {k : Nat} : ∀ {n dp a b c : Nat} {s s' : List IT}, JQ σ n dp a b s → JQ σ k dp b c s' → JQ σ (n + k) dp a c (s ++ s')
  | 0, dp, a, b, c, s, s', h, g => by
    obtain ⟨rfl, rfl⟩ := h
    rw [Nat.zero_add, List.nil_append]
    exact g
  | n + 1, dp, a, b, c, s, s', h, g => by
    have hbc := g.ab
    rw [show n + 1 + k = (n + k) + 1 by omega]
    rcases h with h | ⟨hab, h | h⟩
    · obtain ⟨rfl, rfl⟩ := h
      rw [List.nil_append]
      exact g.le _ (by omega)
    · obtain ⟨x, s2, h1, h4, h5⟩ := h
      subst h4
      exact Or.inr ⟨by omega, Or.inl ⟨x, s2 ++ s', h1, rfl, h5.app g⟩⟩
    · obtain ⟨t, e, s1, s2, h1, h2, h3, h4, h5, h6, h7, h8, h9, h10⟩ := h
      subst h10
      exact Or.inr ⟨by omega, Or.inr ⟨t, e, s1, s2 ++ s', h1, h2, h3, h4, h5, by omega, h7, h8.le _ (by omega), h9.app g, by rw [List.append_assoc]⟩⟩
theorem JQ.cong {σ σ' : SG} : ∀ {n dp a b : Nat} {s : List IT}, JQ σ n dp a b s → (∀ k, a ≤ k → k < b → AGs σ σ' k) → JQ σ' n dp a b s
  | 0, _, a, b, s, h, _ => h
  | n + 1, dp, a, b, s, h, hc => by
    rcases h with h | ⟨hab, h | h⟩
    · exact Or.inl h
    · obtain ⟨x, s2, h1, h4, h5⟩ := h
      exact Or.inr ⟨hab, Or.inl ⟨x, s2, h1.cong (hc a (Nat.le_refl _) hab), h4, h5.cong (fun k h6 h7 => hc k (by omega) h7)⟩⟩
    · obtain ⟨t, e, s1, s2, h1, h2, h3, h4, h5, h6, h7, h8, h9, h10⟩ := h
      have ea := hc a (Nat.le_refl _) hab
      have ee := hc e (by omega) h6
      exact Or.inr ⟨hab, Or.inr ⟨t, e, s1, s2, h1, ea.1.trans h2, ea.2.1.trans h3, h4, h5, h6, ee.1.trans h7, h8.cong (fun k q1 q2 => hc k (by omega) (by omega)), h9.cong (fun k q1 q2 => hc k (by omega) q2), h10⟩⟩
/-- the levels that are being read, whose steps end at m -/
def LM (σ : SG) : LV → Nat → Prop
  | [], _ => False
  | (t, s) :: r, m => match r with
    | [] => ∃ n, JQ σ n 0 0 m s
    | (_ :: r') => ∃ o : Nat, o < m ∧ σ.1 (55, 0, 0) o = 9 ∧ σ.1 (56, 0, 0) o = ((t : Nat) : Int) ∧ (1 ≤ t ∧ t ≤ 20) ∧ (∃ n, JQ σ n (r'.length + 1) (o + 1) m s) ∧ LM σ r o
theorem LM.cong {σ σ' : SG} : ∀ {l : LV} {m : Nat}, LM σ l m → (∀ k, k < m → AGs σ σ' k) → LM σ' l m
  | [], _, h, _ => h
  | (t, s) :: r, m, h, hc => by
    cases r with
    | nil =>
      obtain ⟨n, h⟩ := h
      exact ⟨n, h.cong (fun k _ q => hc k q)⟩
    | cons y r' =>
      obtain ⟨o, h1, h3, h4, h5, ⟨n, h7⟩, h8⟩ := h
      have eo := hc o h1
      exact ⟨o, h1, eo.1.trans h3, eo.2.1.trans h4, h5, ⟨n, h7.cong (fun k _ q => hc k q)⟩, h8.cong (fun k q => hc k (by omega))⟩
theorem JQ.one {σ : SG} {dp a : Nat} {x : IT} (h : JSt σ a x) : JQ σ 1 dp a (a + 1) [x] := Or.inr ⟨Nat.lt_succ_self a, Or.inl ⟨x, [], h, rfl, rfl, rfl⟩⟩
theorem LM.add {σ : SG} {x : IT} {m : Nat} (h : JSt σ m x) : ∀ {l : LV}, LM σ l m → LM σ (adL x l) (m + 1)
  | [], g => g
  | (t, s) :: r, g => by
    cases r with
    | nil =>
      obtain ⟨n, g⟩ := g
      exact ⟨n + 1, g.app (JQ.one h)⟩
    | cons y r' =>
      obtain ⟨o, h1, h3, h4, h5, ⟨n, h6⟩, h8⟩ := g
      exact ⟨o, by omega, h3, h4, h5, ⟨n + 1, h6.app (JQ.one h)⟩, h8⟩
theorem LM.opn {σ : SG} {t m : Nat} (h9 : σ.1 (55, 0, 0) m = 9) (h6 : σ.1 (56, 0, 0) m = ((t : Nat) : Int)) (ht : 1 ≤ t ∧ t ≤ 20) : ∀ {l : LV}, LM σ l m → LM σ ((t, []) :: l) (m + 1)
  | [], g => g.elim
  | y :: r, g => ⟨m, Nat.lt_succ_self m, h9, h6, ht, ⟨0, rfl, rfl⟩, g⟩
theorem LM.cls {σ : SG} {t0 t : Nat} {s0 s : List IT} {r : LV} {m : Nat} (h : LM σ ((t, s) :: (t0, s0) :: r) m) (hr : r.length < 2) (hm : σ.1 (55, 0, 0) m = 10) : LM σ ((t0, s0 ++ rpL s t) :: r) (m + 1) := by
  obtain ⟨o', h1, h3, h4, h5, ⟨n, h7⟩, h8⟩ := h
  have one : JQ σ (n + 1) r.length o' (m + 1) (rpL s t) := Or.inr ⟨by omega, Or.inr ⟨t, m, s, [], hr, h3, h4, h5, h1, Nat.lt_succ_self m, hm, h7, by
    cases n with
    | zero => exact ⟨rfl, rfl⟩
    | succ n => exact Or.inl ⟨rfl, rfl⟩, by rw [List.append_nil]⟩⟩
  cases r with
  | nil =>
    obtain ⟨n0, g⟩ := h8
    have g : JQ σ n0 0 0 o' s0 := g
    exact ⟨n0 + (n + 1), g.app one⟩
  | cons y r' =>
    obtain ⟨o2, k1, k3, k4, k5, ⟨n2, k7⟩, k8⟩ := h8
    exact ⟨o2, by omega, k3, k4, k5, ⟨n2 + (n + 1), k7.app one⟩, k8⟩
-- what a step's parameters change
def inSm (L : Lc) : Prop := L.1 = 40 ∨ (55 ≤ L.1 ∧ L.1 ≤ 61)
theorem mSm : ∀ L, in40 L → inSm L := fun L q => by
  have q : L = (40, 0, 0) := q
  subst q; exact Or.inl rfl
def ZS (k : Nat) (σ σ' : SG) : Prop := Fr inSm σ σ' ∧ (∀ j, (j < 4 ∨ 9 < j) → σ'.1 (40, 0, 0) j = σ.1 (40, 0, 0) j) ∧ σ'.1 (55, 0, 0) = σ.1 (55, 0, 0) ∧ ∀ j, j ≠ k → AGs σ σ' j
theorem ZS.refl (k : Nat) (σ : SG) : ZS k σ σ := ⟨Fr.refl _ _, fun _ _ => rfl, rfl, fun _ _ => AGs.refl _ _⟩
theorem ZS.trans {k : Nat} {a b c : SG} (h : ZS k a b) (g : ZS k b c) : ZS k a c := ⟨h.1.trans g.1, fun j hj => (g.2.1 j hj).trans (h.2.1 j hj), g.2.2.1.trans h.2.2.1, fun j hj => (h.2.2.2 j hj).trans (g.2.2.2 j hj)⟩
theorem n_in40 {a : Nat} (h : a ≠ 40) : ¬ in40 (a, 0, 0) := fun q => h (congrArg (fun L : Lc => L.1) q)
theorem AGs.f {σ σ' : SG} {k : Nat} (f : Fr in40 σ σ') : AGs σ σ' k := by
  unfold AGs
  rw [(f.1 _ (n_in40 (a := 55) (by omega))).1, (f.1 _ (n_in40 (a := 56) (by omega))).1, (f.1 _ (n_in40 (a := 57) (by omega))).1, (f.1 _ (n_in40 (a := 60) (by omega))).2.1, (f.1 _ (n_in40 (a := 61) (by omega))).2.1]
  exact ⟨rfl, rfl, rfl, rfl, rfl⟩
theorem TF.s {σ σ' : SG} {k : Nat} (h : TF σ σ') : ZS k σ σ' := ⟨h.1.mono mSm, h.2, (h.1.1 _ (n_in40 (by omega))).1, fun j _ => AGs.f h.1⟩
theorem TG.s {σ σ' : SG} {k : Nat} (h : TG σ σ') : ZS k σ σ' := h.f.s
theorem ZS.i {σ : SG} {k a : Nat} {z : Int} (ha : a = 56 ∨ a = 57) : ZS k σ (sI σ (a, 0, 0) (up (σ.1 (a, 0, 0)) k z)) := by
  have n40 : ¬ ((40, 0, 0) : Lc) = (a, 0, 0) := fun q => absurd (congrArg (fun L : Lc => L.1) q) (by show ¬ (40 : Nat) = a; omega)
  have n55 : ¬ ((55, 0, 0) : Lc) = (a, 0, 0) := fun q => absurd (congrArg (fun L : Lc => L.1) q) (by show ¬ (55 : Nat) = a; omega)
  refine ⟨Fr.sI (P := inSm) (Or.inr ⟨by show 55 ≤ a; omega, by show a ≤ 61; omega⟩), fun j _ => by rw [sI_1, if_neg n40], by rw [sI_1, if_neg n55], fun j hj => ⟨by rw [sI_1, if_neg n55], ?_, ?_, by rw [sI_2], by rw [sI_2]⟩⟩
  · rw [sI_1]
    by_cases q : ((56, 0, 0) : Lc) = (a, 0, 0)
    · rw [if_pos q, ← q, up_at, if_neg hj]
    · rw [if_neg q]
  · rw [sI_1]
    by_cases q : ((57, 0, 0) : Lc) = (a, 0, 0)
    · rw [if_pos q, ← q, up_at, if_neg hj]
    · rw [if_neg q]
theorem ZS.j {σ : SG} {k a : Nat} {z : Int} (ha : a = 60 ∨ a = 61) : ZS k σ (sJ σ (a, 0, 0) (up (σ.2.1 (a, 0, 0)) k z)) := by
  refine ⟨Fr.sJ (P := inSm) (Or.inr ⟨by show 55 ≤ a; omega, by show a ≤ 61; omega⟩), fun j _ => by rw [sJ_1], by rw [sJ_1], fun j hj => ⟨by rw [sJ_1], by rw [sJ_1], by rw [sJ_1], ?_, ?_⟩⟩
  · rw [sJ_21]
    by_cases q : ((60, 0, 0) : Lc) = (a, 0, 0)
    · rw [if_pos q, ← q, up_at, if_neg hj]
    · rw [if_neg q]
  · rw [sJ_21]
    by_cases q : ((61, 0, 0) : Lc) = (a, 0, 0)
    · rw [if_pos q, ← q, up_at, if_neg hj]
    · rw [if_neg q]
theorem TQ.e {T : TB} {p : Nat} {σ σ' : SG} (h : TQ T p σ) (e1 : σ'.1 (40, 0, 0) = σ.1 (40, 0, 0)) (e2 : σ'.2.1 (40, 0, 0) = σ.2.1 (40, 0, 0)) (e3 : σ'.1 (41, 0, 0) = σ.1 (41, 0, 0)) : TQ T p σ' := by
  unfold TQ TY at h ⊢
  rw [e1, e2, e3]
  exact h
theorem GN.e {σ σ' : SG} (h : GN σ) (e1 : σ'.1 (40, 0, 0) = σ.1 (40, 0, 0)) : GN σ' := by
  unfold GN at h ⊢
  rw [e1]
  exact h
theorem FE.e {e : PE} {σ σ' : SG} (h : FE e σ) (e1 : σ'.1 (40, 0, 0) = σ.1 (40, 0, 0)) : FE e σ' := by
  unfold FE at h ⊢
  rw [e1]
  exact h
theorem lc_ne {a b : Nat} (h : a ≠ b) : ¬ ((a, 0, 0) : Lc) = (b, 0, 0) := fun q => h (congrArg (fun L : Lc => L.1) q)
theorem s_X12_commandHere {t : KT} {σ : SG} {T : TB} {p : Nat} (h : TQ T p σ) (g : GN σ) : Ca 2 319 [aR (some (40, 0, 0))] (am_hp σ) t (.inl (some (aI (iZ (cmK T p)))), am_hp σ, t) := by
  obtain ⟨k0, k1, k2, k3, k4, k5, k6, k7, k8, k9, -⟩ := kw_eq
  have w0 := s_isKw (t := t) h g (by omega) k0
  have w1 := s_isKw (t := t) h g (by omega) k1
  have w2 := s_isKw (t := t) h g (by omega) k2
  have w3 := s_isKw (t := t) h g (by omega) k3
  have w4 := s_isKw (t := t) h g (by omega) k4
  have w5 := s_isKw (t := t) h g (by omega) k5
  have w6 := s_isKw (t := t) h g (by omega) k6
  have w7 := s_isKw (t := t) h g (by omega) k7
  have w8 := s_isKw (t := t) h g (by omega) k8
  have w9 := s_isKw (t := t) h g (by omega) k9
  have at_ : ∀ k : Nat, k < 10 → (∀ j, j < k → ¬ isKw T p j) → isKw T p k → cmK T p = (k : Int) := fun k hk hn hy => by
    have := fndF_at (P := fun k => isKw T p k) 10 0 k hk (fun j hj => by rw [Nat.zero_add]; exact hn j hj) (by rw [Nat.zero_add]; exact hy)
    rw [Nat.zero_add] at this
    exact this
  refine ca_of (e_X12_commandHere ?_)
  refine b_X12_commandHere_0 (w0.up (by omega)) bz_rg (fun q0 => ?_) (fun q => by rw [at_ 0 (by omega) (fun j hj => absurd hj (Nat.not_lt_zero j)) (bz_n.mp q)]; exact b_X12_commandHere_10 rfl)
  have n0 := bz_0.mp q0
  refine b_X12_commandHere_12 (w1.up (by omega)) bz_rg (fun q1 => ?_) (fun q => by rw [at_ 1 (by omega) (fun j hj => by have e : j = 0 := (by omega); subst e; exact n0) (bz_n.mp q)]; exact b_X12_commandHere_22 rfl)
  have n1 : ∀ j, j < 2 → ¬ isKw T p j := fun j hj => by
    by_cases e : j = 1
    · subst e; exact bz_0.mp q1
    · have e : j = 0 := by omega
      subst e; exact n0
  refine b_X12_commandHere_24 (w2.up (by omega)) bz_rg (fun q2 => ?_) (fun q => by rw [at_ 2 (by omega) n1 (bz_n.mp q)]; exact b_X12_commandHere_34 rfl)
  have n2 : ∀ j, j < 3 → ¬ isKw T p j := fun j hj => by
    by_cases e : j = 2
    · subst e; exact bz_0.mp q2
    · exact n1 j (by omega)
  refine b_X12_commandHere_36 (w3.up (by omega)) bz_rg (fun q3 => ?_) (fun q => by rw [at_ 3 (by omega) n2 (bz_n.mp q)]; exact b_X12_commandHere_46 rfl)
  have n3 : ∀ j, j < 4 → ¬ isKw T p j := fun j hj => by
    by_cases e : j = 3
    · subst e; exact bz_0.mp q3
    · exact n2 j (by omega)
  refine b_X12_commandHere_48 (w4.up (by omega)) bz_rg (fun q4 => ?_) (fun q => by rw [at_ 4 (by omega) n3 (bz_n.mp q)]; exact b_X12_commandHere_58 rfl)
  have n4 : ∀ j, j < 5 → ¬ isKw T p j := fun j hj => by
    by_cases e : j = 4
    · subst e; exact bz_0.mp q4
    · exact n3 j (by omega)
  refine b_X12_commandHere_60 (w5.up (by omega)) bz_rg (fun q5 => ?_) (fun q => by rw [at_ 5 (by omega) n4 (bz_n.mp q)]; exact b_X12_commandHere_70 rfl)
  have n5 : ∀ j, j < 6 → ¬ isKw T p j := fun j hj => by
    by_cases e : j = 5
    · subst e; exact bz_0.mp q5
    · exact n4 j (by omega)
  refine b_X12_commandHere_72 (w6.up (by omega)) bz_rg (fun q6 => ?_) (fun q => by rw [at_ 6 (by omega) n5 (bz_n.mp q)]; exact b_X12_commandHere_82 rfl)
  have n6 : ∀ j, j < 7 → ¬ isKw T p j := fun j hj => by
    by_cases e : j = 6
    · subst e; exact bz_0.mp q6
    · exact n5 j (by omega)
  refine b_X12_commandHere_85 (w7.up (by omega)) bz_rg (fun q7 => ?_) (fun q => by rw [at_ 7 (by omega) n6 (bz_n.mp q)]; exact b_X12_commandHere_95 rfl)
  have n7 : ∀ j, j < 8 → ¬ isKw T p j := fun j hj => by
    by_cases e : j = 7
    · subst e; exact bz_0.mp q7
    · exact n6 j (by omega)
  refine b_X12_commandHere_98 (w8.up (by omega)) bz_rg (fun q8 => ?_) (fun q => by rw [at_ 8 (by omega) n7 (bz_n.mp q)]; exact b_X12_commandHere_108 rfl)
  have n8 : ∀ j, j < 9 → ¬ isKw T p j := fun j hj => by
    by_cases e : j = 8
    · subst e; exact bz_0.mp q8
    · exact n7 j (by omega)
  refine b_X12_commandHere_111 (w9.up (by omega)) bz_rg (fun q9 => ?_) (fun q => b_X12_commandHere_121 (b_X12_commandHere_127 (by rw [at_ 9 (by omega) n8 (bz_n.mp q)]; rfl)))
  have n9 : ∀ j, j < 10 → ¬ isKw T p (0 + j) := fun j hj => by
    rw [Nat.zero_add]
    by_cases e : j = 9
    · subst e; exact bz_0.mp q9
    · exact n8 j (by omega)
  refine b_X12_commandHere_126 (b_X12_commandHere_127 ?_)
  rw [show cmK T p = -1 from fndF_no (P := fun k => isKw T p k) 10 0 n9]
theorem s_anyName_ok {t : KT} {σ : SG} {T : TB} {p : Nat} (h : TQ T p σ) (g : GN σ) (hk : tK T p = 1) : ∃ σ', Ca 3 320 [aR (some (40, 0, 0))] (am_hp σ) t (.inl (some (aL (jZ ((mN (tL T p) : Int))))), am_hp σ', t) ∧ TQ T (tE T p) σ' ∧ GN σ' ∧ TG σ σ' := by
  obtain ⟨σ1, c1, q1, g1, f1⟩ := s_goOn (t := t) h g
  have eJ := h.2.2.2.2.2.2.1 hk
  refine ex_of (e_X12_anyName ?_)
  refine b_X12_anyName_0 ((s_mustName_ok h g hk).up (by omega)) ((s_isGood_t g).up (by omega)) (by omega) (fun q => by omega) (fun _ => ?_)
  rw [eJ]
  exact b_X12_anyName_16 (c1.up (by omega)) (b_X12_anyName_20 ⟨σ1, rfl, q1, g1, f1⟩)
theorem s_anyName_no {t : KT} {σ : SG} {T : TB} {p : Nat} (h : TQ T p σ) (g : GN σ) (hk : tK T p ≠ 1) : ∃ z : Int, ∃ σ', Ca 3 320 [aR (some (40, 0, 0))] (am_hp σ) t (.inl (some (aL (jZ z))), am_hp σ', t) ∧ FE (1, tS T p) σ' ∧ TF σ σ' := by
  obtain ⟨σ1, c1, q1, f1⟩ := s_mustName_no (t := t) h g hk
  refine ⟨σ1.2.1 (40, 0, 0) 12, ex_of (e_X12_anyName ?_)⟩
  exact b_X12_anyName_0 (c1.up (by omega)) ((s_isGood_f q1).up (by omega)) (by omega) (fun _ => b_X12_anyName_20 ⟨σ1, rfl, q1, f1⟩) (fun q => absurd rfl q)
theorem s_anyName_f {t : KT} {σ : SG} {e : PE} (h : FE e σ) : Ca 3 320 [aR (some (40, 0, 0))] (am_hp σ) t (.inl (some (aL (jZ (σ.2.1 (40, 0, 0) 12)))), am_hp σ, t) := by
  refine ca_of (e_X12_anyName ?_)
  exact b_X12_anyName_0 ((s_mustName_f h).up (by omega)) ((s_isGood_f h).up (by omega)) (by omega) (fun _ => b_X12_anyName_20 rfl) (fun q => absurd rfl q)
theorem nb_A {T : TB} {q c : Nat} (h : c = 0 ∨ c = 5) : nbsP T c q = .inl (0, 0, q) ∧ hasI c = false ∧ hasV c = false := by
  rcases h with h | h <;> subst h <;> exact ⟨rfl, rfl, rfl⟩
theorem nb_B {T : TB} {q c : Nat} (h : c = 1 ∨ c = 6 ∨ c = 7) : nbsP T c q = numP T q 0 999999999 (.inl (0, (tN T q : Int), tE T q)) ∧ hasI c = false ∧ hasV c = true := by
  rcases h with h | h | h <;> subst h <;> exact ⟨rfl, rfl, rfl⟩
theorem nb_C {T : TB} {q : Nat} : nbsP T 4 q = numP T q 0 999999999 (.inl ((tN T q : Int), 0, tE T q)) ∧ hasI 4 = true ∧ hasV 4 = false := ⟨rfl, rfl, rfl⟩
theorem nb_D {T : TB} {q c : Nat} (h : c = 2 ∨ c = 3 ∨ c = 8) : nbsP T c q = numP T q 0 999999999 (numP T (tE T q) 0 999999999 (.inl ((tN T q : Int), (tN T (tE T q) : Int), tE T (tE T q)))) ∧ hasI c = true ∧ hasV c = true := by
  rcases h with h | h | h <;> subst h <;> exact ⟨rfl, rfl, rfl⟩
