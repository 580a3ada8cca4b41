/-! SCRIPTS: read whole and run by the class -/
set_option maxRecDepth 4000
def CQ (T : TB) (l : LV) (m : Nat) : (IT × Nat) ⊕ PE → SG → Prop
  | .inl x, σ' => if iC x.1 = 9 then SK T ((x.1.2.2.2.2.toNat, []) :: l) (m + 1) x.2 σ' else SK T (adL x.1 l) (m + 1) x.2 σ'
  | .inr e, σ' => SE T e σ' ∧ ∀ k, k < 31 → KI σ' k
theorem mS7 {k : Nat} (hk : k < 30) : ∀ L, inS7 k L → inSk L := fun L h => by
  unfold inS7 at h
  unfold inSk
  omega
theorem adL_len (x : IT) : ∀ l : LV, (adL x l).length = l.length
  | [] => rfl
  | (_, _) :: _ => rfl
theorem cmK_bd (T : TB) (p : Nat) : cmK T p = -1 ∨ (0 ≤ cmK T p ∧ cmK T p < 10 ∧ isKw T p (cmK T p).toNat) := by
  have h : ∀ k i, fndF (fun k => isKw T p k) i k = -1 ∨ ((i : Int) ≤ fndF (fun k => isKw T p k) i k ∧ fndF (fun k => isKw T p k) i k < i + k ∧ isKw T p (fndF (fun k => isKw T p k) i k).toNat) := by
    intro k
    induction k with
    | zero => intro i; exact Or.inl rfl
    | succ k ih =>
      intro i
      unfold fndF
      split
      · rename_i h
        right
        refine ⟨by omega, by omega, ?_⟩
        rw [Int.toNat_natCast]
        exact h
      · rcases ih (i + 1) with h | h
        · exact Or.inl h
        · exact Or.inr ⟨by omega, by omega, h.2.2⟩
  have h2 := h 10 0
  rcases h2 with h2 | h2
  · exact Or.inl h2
  · exact Or.inr ⟨by unfold cmK; omega, by unfold cmK; omega, h2.2.2⟩
/-- a step is put behind the others -/
theorem SQ.one {σ : SG} {dp a : Nat} {x : IT} (h : IS σ a x) (h9 : iC x < 9) (h7 : σ.1 (7, a, 0) 7 = ((a + 1 : Nat) : Int)) : SQ σ 1 dp a (a + 1) [x] := Or.inr ⟨Nat.lt_succ_self a, Or.inl ⟨x, [], h, h9, h7, rfl, rfl, rfl⟩⟩
theorem LQ.add {σ : SG} {x : IT} {m : Nat} (h : IS σ m x) (h9 : iC x < 9) (h7 : σ.1 (7, m, 0) 7 = ((m + 1 : Nat) : Int)) : ∀ {l : LV}, LQ σ l m → LQ σ (adL x l) (m + 1)
  | [], g => g
  | (t, s) :: r, g => by
    cases r with
    | nil =>
      obtain ⟨n, g⟩ := g
      exact ⟨n + 1, g.app (SQ.one h h9 h7)⟩
    | cons y r' =>
      obtain ⟨o, h1, h2, h3, h4, h5, ⟨n, h6⟩, h8⟩ := g
      exact ⟨o, by omega, h2, h3, h4, h5, ⟨n + 1, h6.app (SQ.one h h9 h7)⟩, h8⟩
/-- a repeat is opened -/
theorem LQ.opn {σ : SG} {t m : Nat} (h9 : σ.2.2.2.1 (7, m, 0) = 9) (h6 : σ.1 (7, m, 0) 6 = ((t : Nat) : Int)) (ht : t ≤ 20) : ∀ {l : LV}, LQ σ l m → σ.1 (6, 0, 0) (l.length - 1) = (m : Int) → LQ σ ((t, []) :: l) (m + 1)
  | [], g, _ => g.elim
  | y :: r, g, ho => ⟨m, Nat.lt_succ_self m, ho, h9, h6, ht, ⟨0, rfl, rfl⟩, g⟩
theorem new_step {σ : SG} {m a : Nat} (hm : σ.1 (4, 0, 0) 3 = (m : Int)) (hK : ∀ k, k < 31 → KI σ k) (hm30 : m < 30) : ∃ σa, sI (sC (sI σ (4, 0, 0) (up (σ.1 (4, 0, 0)) 3 (σ.1 (4, 0, 0) 3 + 1))) (7, (σ.1 (4, 0, 0) 3).toNat, 0) a) (7, (σ.1 (4, 0, 0) 3).toNat, 0) (up ((sC (sI σ (4, 0, 0) (up (σ.1 (4, 0, 0)) 3 (σ.1 (4, 0, 0) 3 + 1))) (7, (σ.1 (4, 0, 0) 3).toNat, 0) a).1 (7, (σ.1 (4, 0, 0) 3).toNat, 0)) 7 ((sC (sI σ (4, 0, 0) (up (σ.1 (4, 0, 0)) 3 (σ.1 (4, 0, 0) 3 + 1))) (7, (σ.1 (4, 0, 0) 3).toNat, 0) a).1 (4, 0, 0) 3)) = σa ∧ Fr inSk σ σa ∧ σa.1 (4, 0, 0) 3 = (m : Int) + 1 ∧ σa.1 (4, 0, 0) 2 = σ.1 (4, 0, 0) 2 ∧ σa.1 (7, m, 0) 7 = (m : Int) + 1 ∧ σa.2.2.2.1 (7, m, 0) = a ∧ (∀ k : Nat, k ≠ m → σa.1 (7, k, 0) = σ.1 (7, k, 0) ∧ σa.2.1 (7, k, 0) = σ.2.1 (7, k, 0) ∧ σa.2.2.2.1 (7, k, 0) = σ.2.2.2.1 (7, k, 0)) ∧ (σa.1 (2, 0, 0) = σ.1 (2, 0, 0) ∧ σa.2.1 (2, 0, 0) = σ.2.1 (2, 0, 0) ∧ σa.1 (3, 0, 0) = σ.1 (3, 0, 0)) ∧ σa.1 (6, 0, 0) = σ.1 (6, 0, 0) ∧ ∀ k, k < 31 → KI σa k := by
  have emn : (σ.1 (4, 0, 0) 3).toNat = m := by rw [hm]; rfl
  rw [emn]
  have h0 := hK m (by omega)
  have k1 : KI (sI σ (4, 0, 0) (up (σ.1 (4, 0, 0)) 3 (σ.1 (4, 0, 0) 3 + 1))) m := h0.fr (Fr.sI (P := fun L : Lc => L.1 = 4) rfl) (by show ¬ (7 : Nat) = 4; decide)
  have k2 : KI (sC (sI σ (4, 0, 0) (up (σ.1 (4, 0, 0)) 3 (σ.1 (4, 0, 0) 3 + 1))) (7, m, 0) a) m := k1
  have z3 : (sC (sI σ (4, 0, 0) (up (σ.1 (4, 0, 0)) 3 (σ.1 (4, 0, 0) 3 + 1))) (7, m, 0) a).1 (4, 0, 0) 3 = (m : Int) + 1 := by simp [sC_1, sI_1, up_at, hm]
  refine ⟨_, rfl, ((Fr.sI (P := inSk) (Or.inr (Or.inl rfl))).trans (Fr.sC (P := inSk) (Or.inr (Or.inr (Or.inr ⟨rfl, (show m ≠ 30 by omega)⟩))))).trans (Fr.sI (P := inSk) (Or.inr (Or.inr (Or.inr ⟨rfl, (show m ≠ 30 by omega)⟩)))), ?_, ?_, ?_, sC_at _ (7, m, 0) a, fun k hk => ⟨?_, rfl, ?_⟩, ⟨?_, rfl, ?_⟩, ?_, fun k hk => ?_⟩
  · rw [sI_1, if_neg (fun z => absurd (show (4 : Nat) = 7 from congrArg (fun L : Lc => L.1) z) (by decide))]
    exact z3
  · simp [sI_1, sC_1, up_at]
  · rw [sI_1, if_pos rfl, up_at, if_pos rfl]
    exact z3
  · simp [sI_1, sC_1, hk]
  · show (if ((7, k, 0) : Lc) = (7, m, 0) then a else σ.2.2.2.1 (7, k, 0)) = _
    rw [if_neg (fun z => hk (congrArg (fun L : Lc => L.2.1) z))]
  · simp [sI_1, sC_1]
  · simp [sI_1, sC_1]
  · simp [sI_1, sC_1]
  · by_cases e : k = m
    · subst e
      exact k2.up (by rw [z3]; omega)
    · have hkk := hK k hk
      unfold KI at hkk ⊢
      simpa [sI_1, sC_1, e] using hkk
theorem rep_20 {T : TB} {q : Nat} {b : Int × Int × Nat} (h : nbsP T 9 q = .inl b) : ∃ n : Nat, n ≤ 20 ∧ b.2.1 = (n : Int) := by
  have h : numP T q 1 20 (.inl ((0 : Int), (tN T q : Int), tE T q)) = .inl b := h
  unfold numP at h
  split at h
  · cases h
  · split at h
    · cases h
    · cases h
      exact ⟨tN T q, by omega, rfl⟩
theorem s_X8_readCommand {t : KT} {σ : SG} {T : TB} {l : LV} {m p : Nat} (h : SK T l m p σ) : ∃ σ', Ca 8 59 [aR (some (4, 0, 0)), aR (some (2, 0, 0))] (am_hp σ) t (.inl (some (aI (iZ (bO (comP T (l.length - 1) m p))))), am_hp σ', t) ∧ CQ T l m (comP T (l.length - 1) m p) σ' ∧ Fr inSk σ σ' := by
  obtain ⟨hT, hl, hd, hm, hm30, hL, hK, e5, e6⟩ := h
  have hcb := cmK_bd T p
  refine ex_of (e_X8_readCommand ?_)
  refine wq (fun Q hQ => ?_)
  have mT : ∀ L, inTx L → inSk L := fun L q => Or.inl (by rw [q])
  have n7 : ∀ k : Nat, ¬ inTx (7, k, 0) := fun k q => absurd (show (7 : Nat) = 2 from congrArg (fun L : Lc => L.1) q) (by decide)
  have fail : ∀ e : Nat, Ca 1 83 [aR (some (2, 0, 0)), aI (iZ ((e : Int)))] (am_hp σ) t (.inl (some (aI (iZ 0))), am_hp σ, t) ∨ ∃ σ', Ca 1 83 [aR (some (2, 0, 0)), aI (iZ ((e : Int)))] (am_hp σ) t (.inl (some (aI (iZ 0))), am_hp σ', t) ∧ (SE T (e, tS T p) σ' ∧ ∀ k, k < 31 → KI σ' k) ∧ Fr inSk σ σ' := fun e => by
    obtain ⟨σ1, c1, g1, f1⟩ := s_X10_fail (t := t) (c := e) hT
    exact Or.inr ⟨σ1, c1, ⟨g1, fun k hk => (hK k hk).fr f1 (n7 k)⟩, f1.mono mT⟩
  have cc := s_X8_commandAt (t := t) hT
  unfold comP at hQ
  by_cases h0 : cmK T p = -1
  · rw [if_pos h0] at hQ cc
    refine b_X8_readCommand_0 (cc.up (by omega)) (fun L q => by cases q) (fun a q => by cases q) (fun _ => ?_)
    obtain ⟨σ1, c1, g1, f1⟩ := s_X10_fail (t := t) (c := 1) hT
    exact b_X8_readCommand_9 (c1.up (by omega)) (by omega) (hQ _ ⟨σ1, rfl, ⟨g1, fun k hk => (hK k hk).fr f1 (n7 k)⟩, f1.mono mT⟩)
  · rw [if_neg h0] at hQ cc
    have hc : 0 ≤ cmK T p ∧ cmK T p < 10 := by omega
    obtain ⟨c, hcc⟩ := Int.eq_ofNat_of_zero_le hc.1
    have hkw : isKw T p c := by
      rcases hcb with q | q
      · exact absurd q h0
      · have := q.2.2
        rw [hcc, Int.toNat_natCast] at this
        exact this
    rw [hcc, Int.toNat_natCast] at hQ cc
    have hc10 : c < 10 := by omega
    refine b_X8_readCommand_0 (cc.up (by omega)) (fun L q => ⟨c, by cases q; rfl⟩) (fun a q => ?_) (fun q => by cases q)
    have ha : a = c := by
      have := congrArg (fun o : Option Lc => (o.getD (0, 0, 0)).2.1) q
      exact this.symm
    subst ha
    have h9iff : ((some (91, a, 0) : Option Lc) = some (91, 9, 0)) ↔ a = 9 := ⟨fun z => by
      have := congrArg (fun o : Option Lc => (o.getD (0, 0, 0)).2.1) z
      exact this, fun z => by rw [z]⟩
    have hz9 : ((a : Int) = 9) ↔ a = 9 := by omega
    -- from piece 36 on
    have h36 : ¬ ((a : Int) = 9 ∧ 2 ≤ l.length - 1) → Wp k_X8_readCommand 7 (36, [some (aR (some (4, 0, 0))), some (aR (some (2, 0, 0))), some (aR (some (91, a, 0))), none], [], am_hp σ, t) Q := by
      intro hno
      rw [if_neg hno] at hQ
      refine b_X8_readCommand_36 (by omega) (fun q => ?_) (fun q => ?_)
      · rw [if_neg (by omega)] at hQ
        have hm29 : m < 30 := by omega
        have emn : (σ.1 (4, 0, 0) 3).toNat = m := by rw [hm]; rfl
        obtain ⟨σa, hσa, fa, q43, q42, q77, q70, q7k, ⟨q2, q2J, q3⟩, q6, qK⟩ := new_step (a := a) hm hK hm29
        have Ta : TT T p σa := by
          obtain ⟨⟨x1, x2, x3, x4⟩, y2, y3, y4, y5, y6, y7⟩ := hT
          exact ⟨⟨by rw [q2]; exact x1, x2, x3, by rw [q3]; exact x4⟩, y2, by rw [q2]; exact y3, by rw [q2]; exact y4, by rw [q2]; exact y5, by rw [q2]; exact y6, by rw [q2J]; exact y7⟩
        obtain ⟨σ1, c1, g1, f1⟩ := s_X10_advance (t := t) Ta.1 (tE_bd Ta.2.1).2.1 Ta.2.2.2.2.1
        have C1 : TC T (tE T p) m a σ1 := ⟨g1, by rw [(f1.1.1 _ (n7 m)).2.2]; exact q70, hc10, (qK m (by omega)).fr f1.1 (n7 m), by rw [f1.2.1, q2]; exact e5, by rw [f1.2.2, q2]; exact e6⟩
        have E1 := f1.1.1 _ (n7 m)
        obtain ⟨σ2, c2, g2, f2⟩ := s_X8_readNames (t := t) C1
        have f01 : Fr inSk σ σ1 := fa.trans (f1.1.mono mT)
        have f02 : Fr inSk σ σ2 := f01.trans (f2.mono (mS7 hm29))
        have kK : ∀ σ' : SG, Fr (inS7 m) σ1 σ' → KI σ' m → ∀ k, k < 31 → KI σ' k := by
          intro σ' f hkm k hk
          by_cases e : k = m
          · subst e; exact hkm
          · exact ((qK k hk).fr f1.1 (n7 k)).fr f (fun z => z.elim (fun z => absurd (show (7 : Nat) = 2 from z) (by decide)) (fun z => e z.2))
        have n72 : ∀ σ', Fr (inS7 m) σ1 σ' → σ'.1 (4, 0, 0) = σ1.1 (4, 0, 0) ∧ σ'.1 (6, 0, 0) = σ1.1 (6, 0, 0) := fun σ' f => ⟨(f.1 (4, 0, 0) (by unfold inS7; omega)).1, (f.1 (6, 0, 0) (by unfold inS7; omega)).1⟩
        have e14 : σ1.1 (4, 0, 0) = σa.1 (4, 0, 0) ∧ σ1.1 (6, 0, 0) = σa.1 (6, 0, 0) := ⟨(f1.1.1 (4, 0, 0) (fun q => absurd (show (4 : Nat) = 2 from congrArg (fun L : Lc => L.1) q) (by decide))).1, (f1.1.1 (6, 0, 0) (fun q => absurd (show (6 : Nat) = 2 from congrArg (fun L : Lc => L.1) q) (by decide))).1⟩
        cases hn : nmsP T a (tE T p) with
        | inr e =>
          rw [hn] at c2 g2 hQ
          refine b_X8_readCommand_51 (by omega) (by rw [hσa]; exact c1.up (by omega)) (by rw [emn]; exact c2.up (by omega)) (by simp [bO]) (fun _ => ?_) (fun q => absurd rfl q)
          rw [emn]
          exact b_X8_readCommand_104 (hQ _ ⟨σ2, rfl, ⟨g2.1, kK σ2 f2 g2.2⟩, f02⟩)
        | inl n =>
          rw [hn] at c2 g2 hQ
          dsimp only at hQ
          obtain ⟨C2, N1, N2, N3⟩ := g2
          obtain ⟨σ3, c3, g3, f3⟩ := s_X8_readNumbers (t := t) C2
          have f13 := f2.trans f3
          have f03 : Fr inSk σ σ3 := f02.trans (f3.mono (mS7 hm29))
          refine b_X8_readCommand_51 (by omega) (by rw [hσa]; exact c1.up (by omega)) (by rw [emn]; exact c2.up (by omega)) (by simp [bO]) (fun q => absurd q (by simp [bO])) (fun _ => ?_)
          rw [emn]
          cases hb : nbsP T a n.2.2 with
          | inr e =>
            rw [hb] at c3 g3 hQ
            exact b_X8_readCommand_96 (c3.up (by omega)) (by simp [bO]) (fun q => absurd rfl q) (fun _ => b_X8_readCommand_104 (hQ _ ⟨σ3, rfl, ⟨g3.1, kK σ3 f13 g3.2⟩, f03⟩))
          | inl b =>
            rw [hb] at c3 g3 hQ
            obtain ⟨C3, B1, B2, B3, B4⟩ := g3
            refine b_X8_readCommand_96 (c3.up (by omega)) (by simp [bO]) (fun _ => ?_) (fun q => absurd q (by simp [bO]))
            have E3 := n72 σ3 f13
            have d2 : σ3.1 (4, 0, 0) 2 = ((l.length - 1 : Nat) : Int) := by rw [E3.1, e14.1, q42, hd]
            have d3 : σ3.1 (4, 0, 0) 3 = (m : Int) + 1 := by rw [E3.1, e14.1, q43]
            have d6 : σ3.1 (6, 0, 0) = σ.1 (6, 0, 0) := by rw [E3.2, e14.2, q6]
            have d7 : ∀ k, k < m → σ3.1 (7, k, 0) = σ.1 (7, k, 0) ∧ σ3.2.1 (7, k, 0) = σ.2.1 (7, k, 0) ∧ σ3.2.2.2.1 (7, k, 0) = σ.2.2.2.1 (7, k, 0) := fun k hk => by
              have a1 := f13.1 (7, k, 0) (fun z => z.elim (fun z => absurd (show (7 : Nat) = 2 from z) (by decide)) (fun z => absurd (show k = m from z.2) (by omega)))
              have a2 := f1.1.1 _ (n7 k)
              have a3 := q7k k (by omega)
              exact ⟨by rw [a1.1, a2.1, a3.1], by rw [a1.2.1, a2.2.1, a3.2.1], by rw [a1.2.2, a2.2.2, a3.2.2]⟩
            have d77 : σ3.1 (7, m, 0) 7 = ((m + 1 : Nat) : Int) := by
              rw [B3, N3, E1.1, q77]
              omega
            have dK := kK σ3 f13 C3.2.2.2.1
            have dL : LQ σ3 l m := hL.cong d7 (fun j _ => by rw [d6])
            have dI : IS σ3 m (a, n.1, n.2.1, b.1, b.2.1) := ⟨C3.2.1, hc10, ⟨by rw [B4]; exact N1.1, N1.2⟩, ⟨by rw [B4]; exact N2.1, N2.2⟩, B1, B2⟩
            dsimp only at hQ
            have i2 : ∀ (l' : LV) (p' : Nat) (σ' : SG), TT T p' σ' → Fr inTx σ3 σ' → (1 ≤ l'.length ∧ l'.length ≤ 3) → l'.length = l.length → LQ σ3 l' (m + 1) → σ'.1 (2, 0, 0) 5 = 0 → σ'.1 (2, 0, 0) 6 = -1 → SK T l' (m + 1) p' σ' := by
              intro l' p' σ' t1 t2 t3 t4 t5 t6 t7
              have n : ∀ a b c : Nat, a ≠ 2 → ¬ inTx (a, b, c) := fun a b c h q => h (congrArg (fun L : Lc => L.1) q)
              have g4 := (t2.1 (4, 0, 0) (n _ _ _ (by decide))).1
              have g6 := (t2.1 (6, 0, 0) (n _ _ _ (by decide))).1
              exact ⟨t1, t3, by rw [g4, d2, t4], by rw [g4, d3]; omega, by omega, t5.cong (fun k _ => ⟨(t2.1 _ (n7 k)).1, (t2.1 _ (n7 k)).2.1, (t2.1 _ (n7 k)).2.2⟩) (fun j _ => by rw [g6]), fun k hk => (dK k hk).fr t2 (n7 k), t6, t7⟩
            refine b_X8_readCommand_106 (fun q9 => ?_) (fun q9 => ?_)
            · have h9 := h9iff.mp q9
              rw [if_pos (hz9.mpr h9)] at hQ
              obtain ⟨tn, htn, hbt⟩ := rep_20 (T := T) (q := n.2.2) (b := b) (by rw [← h9]; exact hb)
              have hl2 : l.length ≤ 2 := by
                apply Decidable.byContradiction
                intro z
                exact hno ⟨hz9.mpr h9, by omega⟩
              have fb1 : Fr (fun L => L.1 = 6 ∨ L.1 = 4) σ3 (sI (sI σ3 (6, 0, 0) (up (σ3.1 (6, 0, 0)) (σ3.1 (4, 0, 0) 2).toNat (σ3.1 (4, 0, 0) 3 - 1))) (4, 0, 0) (up ((sI σ3 (6, 0, 0) (up (σ3.1 (6, 0, 0)) (σ3.1 (4, 0, 0) 2).toNat (σ3.1 (4, 0, 0) 3 - 1))).1 (4, 0, 0)) 2 ((sI σ3 (6, 0, 0) (up (σ3.1 (6, 0, 0)) (σ3.1 (4, 0, 0) 2).toNat (σ3.1 (4, 0, 0) 3 - 1))).1 (4, 0, 0) 2 + 1))) := (Fr.sI (P := fun L => L.1 = 6 ∨ L.1 = 4) (Or.inl rfl)).trans (Fr.sI (P := fun L => L.1 = 6 ∨ L.1 = 4) (Or.inr rfl))
              have r6 : ∀ j, (sI (sI σ3 (6, 0, 0) (up (σ3.1 (6, 0, 0)) (σ3.1 (4, 0, 0) 2).toNat (σ3.1 (4, 0, 0) 3 - 1))) (4, 0, 0) (up ((sI σ3 (6, 0, 0) (up (σ3.1 (6, 0, 0)) (σ3.1 (4, 0, 0) 2).toNat (σ3.1 (4, 0, 0) 3 - 1))).1 (4, 0, 0)) 2 ((sI σ3 (6, 0, 0) (up (σ3.1 (6, 0, 0)) (σ3.1 (4, 0, 0) 2).toNat (σ3.1 (4, 0, 0) 3 - 1))).1 (4, 0, 0) 2 + 1))).1 (6, 0, 0) j = if j = l.length - 1 then (m : Int) else σ3.1 (6, 0, 0) j := fun j => by
                rw [sI_1, if_neg (fun z => absurd (show (6 : Nat) = 4 from congrArg (fun L : Lc => L.1) z) (by decide)), sI_1, if_pos rfl, up_at, d2, d3, Int.toNat_natCast]
                by_cases ej : j = l.length - 1
                · rw [if_pos ej, if_pos ej]; omega
                · rw [if_neg ej, if_neg ej]
              have r42 : (sI (sI σ3 (6, 0, 0) (up (σ3.1 (6, 0, 0)) (σ3.1 (4, 0, 0) 2).toNat (σ3.1 (4, 0, 0) 3 - 1))) (4, 0, 0) (up ((sI σ3 (6, 0, 0) (up (σ3.1 (6, 0, 0)) (σ3.1 (4, 0, 0) 2).toNat (σ3.1 (4, 0, 0) 3 - 1))).1 (4, 0, 0)) 2 ((sI σ3 (6, 0, 0) (up (σ3.1 (6, 0, 0)) (σ3.1 (4, 0, 0) 2).toNat (σ3.1 (4, 0, 0) 3 - 1))).1 (4, 0, 0) 2 + 1))).1 (4, 0, 0) 2 = (l.length : Int) := by
                simp [sI_1, up_at, d2]
                omega
              have r43 : (sI (sI σ3 (6, 0, 0) (up (σ3.1 (6, 0, 0)) (σ3.1 (4, 0, 0) 2).toNat (σ3.1 (4, 0, 0) 3 - 1))) (4, 0, 0) (up ((sI σ3 (6, 0, 0) (up (σ3.1 (6, 0, 0)) (σ3.1 (4, 0, 0) 2).toNat (σ3.1 (4, 0, 0) 3 - 1))).1 (4, 0, 0)) 2 ((sI σ3 (6, 0, 0) (up (σ3.1 (6, 0, 0)) (σ3.1 (4, 0, 0) 2).toNat (σ3.1 (4, 0, 0) 3 - 1))).1 (4, 0, 0) 2 + 1))).1 (4, 0, 0) 3 = (m : Int) + 1 := by
                simp [sI_1, up_at, d3]
              generalize hτ : (sI (sI σ3 (6, 0, 0) (up (σ3.1 (6, 0, 0)) (σ3.1 (4, 0, 0) 2).toNat (σ3.1 (4, 0, 0) 3 - 1))) (4, 0, 0) (up ((sI σ3 (6, 0, 0) (up (σ3.1 (6, 0, 0)) (σ3.1 (4, 0, 0) 2).toNat (σ3.1 (4, 0, 0) 3 - 1))).1 (4, 0, 0)) 2 ((sI σ3 (6, 0, 0) (up (σ3.1 (6, 0, 0)) (σ3.1 (4, 0, 0) 2).toNat (σ3.1 (4, 0, 0) 3 - 1))).1 (4, 0, 0) 2 + 1))) = τ at fb1 r6 r42 r43
              have gT : TT T b.2.2 τ := C3.1.fr fb1 (by decide) (by decide)
              have g7 : ∀ k : Nat, ¬ ((fun L : Lc => L.1 = 6 ∨ L.1 = 4) (7, k, 0)) := fun k z => z.elim (fun z => absurd (show (7 : Nat) = 6 from z) (by decide)) (fun z => absurd (show (7 : Nat) = 4 from z) (by decide))
              have g2' : ¬ ((fun L : Lc => L.1 = 6 ∨ L.1 = 4) (2, 0, 0)) := by decide
              have f0t : Fr inSk σ τ := f03.trans (fb1.mono (fun L q => q.elim (fun q => Or.inr (Or.inr (Or.inl q))) (fun q => Or.inr (Or.inl q))))
              have tK' : ∀ k, k < 31 → KI τ k := fun k hk => (dK k hk).fr fb1 (g7 k)
              by_cases h4 : tK T b.2.2 = 4
              · obtain ⟨σ4, c4, g4, f4⟩ := s_pass_ok (t := t) (w := 4) gT h4
                have ek : kdP T b.2.2 4 ((.inl ((a, n.1, n.2.1, b.1, b.2.1), tE T b.2.2)) : (IT × Nat) ⊕ PE) = .inl ((a, n.1, n.2.1, b.1, b.2.1), tE T b.2.2) := if_neg (fun z => z h4)
                rw [ek] at hQ
                refine b_X8_readCommand_119 (by omega) (by rw [hτ]; exact c4.up (by omega)) (Or.inr rfl) (hQ _ ⟨σ4, rfl, ?_, f0t.trans (f4.1.mono mT)⟩)
                show if a = 9 then _ else _
                rw [if_pos h9]
                have n : ∀ a b c : Nat, a ≠ 2 → ¬ inTx (a, b, c) := fun a b c h q => h (congrArg (fun L : Lc => L.1) q)
                have e44 := (f4.1.1 (4, 0, 0) (n _ _ _ (by decide))).1
                have e46 := (f4.1.1 (6, 0, 0) (n _ _ _ (by decide))).1
                have etn : b.2.1.toNat = tn := by rw [hbt]; rfl
                have t7 : ∀ k : Nat, σ4.1 (7, k, 0) = σ3.1 (7, k, 0) ∧ σ4.2.1 (7, k, 0) = σ3.2.1 (7, k, 0) ∧ σ4.2.2.2.1 (7, k, 0) = σ3.2.2.2.1 (7, k, 0) := fun k => by
                  have u1 := f4.1.1 _ (n7 k)
                  have u2 := fb1.1 _ (g7 k)
                  exact ⟨by rw [u1.1, u2.1], by rw [u1.2.1, u2.2.1], by rw [u1.2.2, u2.2.2]⟩
                have hL4 : LQ σ4 l m := hL.cong (fun k hk => ⟨by rw [(t7 k).1]; exact (d7 k hk).1, by rw [(t7 k).2.1]; exact (d7 k hk).2.1, by rw [(t7 k).2.2]; exact (d7 k hk).2.2⟩) (fun j hj => by
                  rw [e46, r6 j, if_neg (by omega), d6])
                have hb6 : σ4.1 (7, m, 0) 6 = (tn : Int) := by
                  rw [(t7 m).1, ← hbt]
                  exact B2 (by rw [h9]; rfl)
                have hl1 : ((b.2.1.toNat, []) :: l : LV).length = l.length + 1 := rfl
                refine ⟨g4, ⟨by rw [hl1]; omega, by rw [hl1]; omega⟩, by rw [e44, r42, hl1]; omega, by rw [e44, r43]; omega, by omega, ?_, fun k hk => (tK' k hk).fr f4.1 (n7 k), ?_, ?_⟩
                · show LQ σ4 ((b.2.1.toNat, []) :: l) (m + 1)
                  rw [etn]
                  exact LQ.opn (by rw [(t7 m).2.2, C3.2.1, h9]) hb6 htn hL4 (by rw [e46, r6, if_pos rfl])
                · rw [f4.2.1, (fb1.1 _ g2').1]; exact C3.2.2.2.2.1
                · rw [f4.2.2, (fb1.1 _ g2').1]; exact C3.2.2.2.2.2
              · obtain ⟨σ4, c4, g4, f4⟩ := s_pass_no (t := t) (w := 4) gT h4 (by omega)
                have ek : kdP T b.2.2 4 ((.inl ((a, n.1, n.2.1, b.1, b.2.1), tE T b.2.2)) : (IT × Nat) ⊕ PE) = .inr (1, tS T b.2.2) := if_pos h4
                rw [ek] at hQ
                exact b_X8_readCommand_119 (by omega) (by rw [hτ]; exact c4.up (by omega)) (Or.inl rfl) (hQ _ ⟨σ4, rfl, ⟨g4, fun k hk => (tK' k hk).fr f4 (n7 k)⟩, f0t.trans (f4.mono mT)⟩)
            · have h9 : a ≠ 9 := fun z => q9 (h9iff.mpr z)
              rw [if_neg (fun z => h9 (hz9.mp z))] at hQ
              by_cases h3 : tK T b.2.2 = 3
              · obtain ⟨σ4, c4, g4, f4⟩ := s_pass_ok (t := t) (w := 3) C3.1 h3
                have ek : kdP T b.2.2 3 ((.inl ((a, n.1, n.2.1, b.1, b.2.1), tE T b.2.2)) : (IT × Nat) ⊕ PE) = .inl ((a, n.1, n.2.1, b.1, b.2.1), tE T b.2.2) := if_neg (fun z => z h3)
                rw [ek] at hQ
                refine b_X8_readCommand_113 (c4.up (by omega)) (by omega) (hQ _ ⟨σ4, rfl, ?_, f03.trans (f4.1.mono mT)⟩)
                show if a = 9 then _ else _
                rw [if_neg h9]
                exact i2 _ _ σ4 g4 f4.1 (by rw [adL_len]; exact hl) (adL_len _ _) (dL.add dI (by show a < 9; omega) d77) (by rw [f4.2.1]; exact C3.2.2.2.2.1) (by rw [f4.2.2]; exact C3.2.2.2.2.2)
              · obtain ⟨σ4, c4, g4, f4⟩ := s_pass_no (t := t) (w := 3) C3.1 h3 (by omega)
                have ek : kdP T b.2.2 3 ((.inl ((a, n.1, n.2.1, b.1, b.2.1), tE T b.2.2)) : (IT × Nat) ⊕ PE) = .inr (1, tS T b.2.2) := if_pos h3
                rw [ek] at hQ
                exact b_X8_readCommand_113 (c4.up (by omega)) (by omega) (hQ _ ⟨σ4, rfl, ⟨g4, fun k hk => (dK k hk).fr f4 (n7 k)⟩, f03.trans (f4.mono mT)⟩)
      · rw [if_pos (by omega)] at hQ
        obtain ⟨σ1, c1, g1, f1⟩ := s_X10_fail (t := t) (c := 5) hT
        exact b_X8_readCommand_45 (c1.up (by omega)) (by omega) (hQ _ ⟨σ1, rfl, ⟨g1, fun k hk => (hK k hk).fr f1 (n7 k)⟩, f1.mono mT⟩)
    refine b_X8_readCommand_15 (fun q => ?_) (fun q => ?_)
    · exact h36 (fun z => q (h9iff.mpr (hz9.mp z.1)))
    · have h9 := h9iff.mp q
      refine b_X8_readCommand_22 (by omega) (fun q2 => ?_) (fun q2 => ?_)
      · exact h36 (fun z => by omega)
      · rw [if_pos ⟨hz9.mpr h9, by omega⟩] at hQ
        obtain ⟨σ1, c1, g1, f1⟩ := s_X10_fail (t := t) (c := 3) hT
        exact b_X8_readCommand_30 (c1.up (by omega)) (by omega) (hQ _ ⟨σ1, rfl, ⟨g1, fun k hk => (hK k hk).fr f1 (n7 k)⟩, f1.mono mT⟩)
