/-! SCRIPTS: the whole of a script is read -/
set_option maxRecDepth 4000
/-- a script was read, or where it is wrong -/
def ZQ (T : TB) : List IT ⊕ PE → SG → Prop
  | .inl s, σ => (∃ n m : Nat, m ≤ 30 ∧ σ.1 (4, 0, 0) 3 = (m : Int) ∧ SQ σ n 0 0 m s) ∧ TX T σ ∧ (∀ k, k < 31 → KI σ k) ∧ σ.1 (2, 0, 0) 5 = 0 ∧ σ.1 (2, 0, 0) 6 = -1
  | .inr e, σ => SE T e σ ∧ ∀ k, k < 31 → KI σ k
theorem LQ.cls {σ σ' : SG} {t0 t s0 s} {r : LV} {m o : Nat} (h : LQ σ ((t, s) :: (t0, s0) :: r) m) (hr : r.length < 2) (ho : σ.1 (6, 0, 0) r.length = (o : Int)) (h6 : σ'.1 (6, 0, 0) = σ.1 (6, 0, 0)) (hk : ∀ k : Nat, k ≠ o → σ'.1 (7, k, 0) = σ.1 (7, k, 0) ∧ σ'.2.1 (7, k, 0) = σ.2.1 (7, k, 0) ∧ σ'.2.2.2.1 (7, k, 0) = σ.2.2.2.1 (7, k, 0)) (hc : σ'.2.2.2.1 (7, o, 0) = σ.2.2.2.1 (7, o, 0)) (h6o : σ'.1 (7, o, 0) 6 = σ.1 (7, o, 0) 6) (h7o : σ'.1 (7, o, 0) 7 = (m : Int)) : LQ σ' ((t0, s0 ++ rpL s t) :: r) m := by
  obtain ⟨o', h1, h2, h3, h4, h5, ⟨n, h7⟩, h8⟩ := h
  have eo : o' = o := by
    have : (o' : Int) = (o : Int) := by rw [← h2]; exact ho
    omega
  subst eo
  have q1 : SQ σ' n (r.length + 1) (o' + 1) m s := h7.cong (fun k q1 _ => hk k (by omega))
  have one : SQ σ' (n + 1) r.length o' m (rpL s t) := Or.inr ⟨h1, Or.inr ⟨t, m, s, [], hr, by rw [hc]; exact h3, by rw [h6o]; exact h4, h5, h7o, h1, Nat.le_refl _, q1, by
    cases n with
    | zero => exact ⟨rfl, rfl⟩
    | succ n => exact Or.inl ⟨rfl, rfl⟩, by rw [List.append_nil]⟩⟩
  cases r with
  | nil =>
    obtain ⟨n0, g⟩ := h8
    have g : SQ σ' n0 0 0 o' s0 := g.cong (fun k _ q => hk k (by omega))
    exact ⟨n0 + (n + 1), g.app one⟩
  | cons y r' =>
    obtain ⟨o2, k1, k2, k3, k4, k5, ⟨n2, k7⟩, k8⟩ := h8
    have e2 := hk o2 (by omega)
    have g : SQ σ' n2 (r'.length + 1) (o2 + 1) o' s0 := k7.cong (fun k _ q => hk k (by omega))
    exact ⟨o2, by omega, by rw [h6]; exact k2, by rw [e2.2.2]; exact k3, by rw [e2.1]; exact k4, k5, ⟨n2 + (n + 1), g.app one⟩, k8.cong (fun k q => hk k (by omega)) (fun j _ => by rw [h6])⟩
theorem s_X8_closeRepeat {t : KT} {σ : SG} {T : TB} {l : LV} {m p : Nat} (h : SK T l m p σ) (h1 : 1 < l.length) : ∃ σ', Ca 5 58 [aR (some (4, 0, 0)), aR (some (2, 0, 0))] (am_hp σ) t (.inl (some (aI (iZ (bO (kdP T (tE T p) 3 ((.inl (0, 0)) : (Nat × Nat) ⊕ PE)))))), am_hp σ', t) ∧ (match kdP T (tE T p) 3 ((.inl (0, 0)) : (Nat × Nat) ⊕ PE) with | .inl _ => SK T (clL l) m (tE T (tE T p)) σ' | .inr e => SE T e σ' ∧ ∀ k, k < 31 → KI σ' k) ∧ Fr inSk σ σ' := by
  obtain ⟨hT, hl, hd, hm, hm30, hL, hK, e5, e6⟩ := h
  cases l with
  | nil => exact absurd h1 (by decide)
  | cons y l =>
  cases l with
  | nil => exact absurd (show 1 < 1 from h1) (by decide)
  | cons y0 r =>
  obtain ⟨t1, s⟩ := y
  obtain ⟨t0, s0⟩ := y0
  have hr : r.length < 2 := by have := hl.2; simp only [List.length_cons] at this; omega
  have hd : σ.1 (4, 0, 0) 2 = (r.length : Int) + 1 := by rw [hd]; simp only [List.length_cons]; omega
  have hL' := hL
  obtain ⟨o, o1, o2, o3, o4, o5, _, _⟩ := hL'
  have mT : ∀ L, inTx L → inSk L := fun L q => Or.inl (by rw [q])
  have n : ∀ a b c : Nat, a ≠ 2 → ¬ inTx (a, b, c) := fun a b c h q => h (congrArg (fun L : Lc => L.1) q)
  have n7 : ∀ k : Nat, ¬ inTx (7, k, 0) := fun k => n _ _ _ (by decide)
  refine ex_of (e_X8_closeRepeat ?_)
  refine wq (fun Q hQ => ?_)
  have z2 : (sI σ (4, 0, 0) (up (σ.1 (4, 0, 0)) 2 (σ.1 (4, 0, 0) 2 - 1))).1 (4, 0, 0) 2 = (r.length : Int) := by simp [sI_1, up_at, hd]
  have z6 : (sI σ (4, 0, 0) (up (σ.1 (4, 0, 0)) 2 (σ.1 (4, 0, 0) 2 - 1))).1 (6, 0, 0) = σ.1 (6, 0, 0) := by simp [sI_1]
  have z3 : (sI σ (4, 0, 0) (up (σ.1 (4, 0, 0)) 2 (σ.1 (4, 0, 0) 2 - 1))).1 (4, 0, 0) 3 = (m : Int) := by simp [sI_1, up_at, hm]
  have z7 : ∀ k : Nat, (sI σ (4, 0, 0) (up (σ.1 (4, 0, 0)) 2 (σ.1 (4, 0, 0) 2 - 1))).1 (7, k, 0) = σ.1 (7, k, 0) := fun k => by simp [sI_1]
  have fA : Fr inSk σ (sI σ (4, 0, 0) (up (σ.1 (4, 0, 0)) 2 (σ.1 (4, 0, 0) 2 - 1))) := Fr.sI (P := inSk) (Or.inr (Or.inl rfl))
  have fA4 : Fr (fun L => L.1 = 4 ∨ L.1 = 7) σ (sI σ (4, 0, 0) (up (σ.1 (4, 0, 0)) 2 (σ.1 (4, 0, 0) 2 - 1))) := Fr.sI (P := fun L => L.1 = 4 ∨ L.1 = 7) (Or.inl rfl)
  have y2 : ∀ L, (sI σ (4, 0, 0) (up (σ.1 (4, 0, 0)) 2 (σ.1 (4, 0, 0) 2 - 1))).2.1 L = σ.2.1 L := fun L => rfl
  have yC : ∀ L, (sI σ (4, 0, 0) (up (σ.1 (4, 0, 0)) 2 (σ.1 (4, 0, 0) 2 - 1))).2.2.2.1 L = σ.2.2.2.1 L := fun L => rfl
  have hz : (0 ≤ (sI σ (4, 0, 0) (up (σ.1 (4, 0, 0)) 2 (σ.1 (4, 0, 0) 2 - 1))).1 (4, 0, 0) 2 ∧ (sI σ (4, 0, 0) (up (σ.1 (4, 0, 0)) 2 (σ.1 (4, 0, 0) 2 - 1))).1 (4, 0, 0) 2 < 2) := by omega
  have blk := fun r2 σ1 σ2 => b_X8_closeRepeat_0 (t := t) (d := 4) (σ := σ) (σ1 := σ1) (σ2 := σ2) (r2 := r2) (Q := Q) hz
  generalize hA : (sI σ (4, 0, 0) (up (σ.1 (4, 0, 0)) 2 (σ.1 (4, 0, 0) 2 - 1))) = σa at z2 z6 z3 z7 fA fA4 y2 yC blk
  have w6 : σa.1 (6, 0, 0) (σa.1 (4, 0, 0) 2).toNat = (o : Int) := by rw [z6, z2, Int.toNat_natCast]; exact o2
  rw [w6, z3, Int.toNat_natCast] at blk
  have x7 : (sI σa (7, o, 0) (up (σa.1 (7, o, 0)) 7 (m : Int))).1 (7, o, 0) = up (σ.1 (7, o, 0)) 7 (m : Int) := by rw [sI_1, if_pos rfl, z7]
  have x7k : ∀ k : Nat, k ≠ o → (sI σa (7, o, 0) (up (σa.1 (7, o, 0)) 7 (m : Int))).1 (7, k, 0) = σ.1 (7, k, 0) := fun k hk => by rw [sI_1, if_neg (fun z => hk (congrArg (fun L : Lc => L.2.1) z)), z7]
  have x6 : (sI σa (7, o, 0) (up (σa.1 (7, o, 0)) 7 (m : Int))).1 (6, 0, 0) = σ.1 (6, 0, 0) := by rw [sI_1, if_neg (fun z => absurd (show (6 : Nat) = 7 from congrArg (fun L : Lc => L.1) z) (by decide)), z6]
  have x4 : (sI σa (7, o, 0) (up (σa.1 (7, o, 0)) 7 (m : Int))).1 (4, 0, 0) = σa.1 (4, 0, 0) := by rw [sI_1, if_neg (fun z => absurd (show (4 : Nat) = 7 from congrArg (fun L : Lc => L.1) z) (by decide))]
  have fB : Fr inSk σ (sI σa (7, o, 0) (up (σa.1 (7, o, 0)) 7 (m : Int))) := fA.trans (Fr.sI (P := inSk) (Or.inr (Or.inr (Or.inr ⟨rfl, (show o ≠ 30 by omega)⟩))))
  have fB4 : Fr (fun L => L.1 = 4 ∨ L.1 = 7) σ (sI σa (7, o, 0) (up (σa.1 (7, o, 0)) 7 (m : Int))) := fA4.trans (Fr.sI (P := fun L => L.1 = 4 ∨ L.1 = 7) (Or.inr rfl))
  have xJ : ∀ L, (sI σa (7, o, 0) (up (σa.1 (7, o, 0)) 7 (m : Int))).2.1 L = σ.2.1 L := y2
  have xC : ∀ L, (sI σa (7, o, 0) (up (σa.1 (7, o, 0)) 7 (m : Int))).2.2.2.1 L = σ.2.2.2.1 L := yC
  generalize hB : (sI σa (7, o, 0) (up (σa.1 (7, o, 0)) 7 (m : Int))) = σb at x7 x7k x6 x4 fB fB4 xJ xC blk
  have Tb : TT T p σb := hT.fr fB4 (by omega) (by omega)
  obtain ⟨σ1, c1, g1, f1⟩ := s_X10_advance (t := t) Tb.1 (tE_bd Tb.2.1).2.1 Tb.2.2.2.2.1
  have Kb : ∀ k, k < 31 → KI σb k := fun k hk => by
    by_cases e : k = o
    · subst e
      have := hK k hk
      unfold KI at this ⊢
      intro j j3 j7
      rw [x7, up_at]
      split
      · omega
      · exact this j j3 j7
    · have := hK k hk
      unfold KI at this ⊢
      rw [x7k k e]
      exact this
  have fin : ∀ (q : Nat) (σ2 : SG), TT T q σ2 → FT σb σ2 → SK T ((t0, s0 ++ rpL s t1) :: r) m q σ2 := by
    intro q σ2 g f
    have g4 := (f.1.1 (4, 0, 0) (n _ _ _ (by decide))).1
    have g6 := (f.1.1 (6, 0, 0) (n _ _ _ (by decide))).1
    have u7 : ∀ k : Nat, σ2.1 (7, k, 0) = σb.1 (7, k, 0) ∧ σ2.2.1 (7, k, 0) = σ.2.1 (7, k, 0) ∧ σ2.2.2.2.1 (7, k, 0) = σ.2.2.2.1 (7, k, 0) := fun k => by
      have := f.1.1 _ (n7 k)
      exact ⟨this.1, by rw [this.2.1, xJ], by rw [this.2.2, xC]⟩
    have gb2 := fB4.1 (2, 0, 0) (by omega)
    refine ⟨g, ⟨by simp only [List.length_cons]; omega, by simp only [List.length_cons]; omega⟩, ?_, ?_, hm30, ?_, fun k hk => (Kb k hk).fr f.1 (n7 k), ?_, ?_⟩
    · rw [g4, x4, z2]; simp only [List.length_cons]; omega
    · rw [g4, x4, z3]
    · refine LQ.cls (o := o) hL hr o2 (by rw [g6, x6]) (fun k hk => ⟨by rw [(u7 k).1, x7k k hk], (u7 k).2.1, (u7 k).2.2⟩) (u7 o).2.2 ?_ ?_
      · rw [(u7 o).1, x7]; simp [up_at]
      · rw [(u7 o).1, x7]; simp [up_at]
    · rw [f.2.1, gb2.1]; exact e5
    · rw [f.2.2, gb2.1]; exact e6
  by_cases h3 : tK T (tE T p) = 3
  · obtain ⟨σ2, c2, g2, f2⟩ := s_pass_ok (t := t) (w := 3) g1 h3
    have ek : kdP T (tE T p) 3 ((.inl (0, 0)) : (Nat × Nat) ⊕ PE) = .inl (0, 0) := if_neg (fun z => z h3)
    rw [ek] at hQ
    exact blk 1 σ1 σ2 (by omega) (c1.up (by omega)) (c2.up (by omega)) (Or.inr rfl) (hQ _ ⟨σ2, rfl, fin _ _ g2 (f1.trans f2), (fB.trans (f1.1.mono mT)).trans (f2.1.mono mT)⟩)
  · obtain ⟨σ2, c2, g2, f2⟩ := s_pass_no (t := t) (w := 3) g1 h3 (by omega)
    have ek : kdP T (tE T p) 3 ((.inl (0, 0)) : (Nat × Nat) ⊕ PE) = .inr (1, tS T (tE T p)) := if_pos h3
    rw [ek] at hQ
    exact blk 0 σ1 σ2 (by omega) (c1.up (by omega)) (c2.up (by omega)) (Or.inl rfl) (hQ _ ⟨σ2, rfl, ⟨g2, fun k hk => ((Kb k hk).fr f1.1 (n7 k)).fr f2 (n7 k)⟩, (fB.trans (f1.1.mono mT)).trans (f2.mono mT)⟩)
theorem comP_ge {T : TB} {dp m p : Nat} {x : IT × Nat} (hp : p ≤ T.2) (h : comP T dp m p = .inl x) : p + 2 ≤ x.2 ∧ x.2 ≤ T.2 := by
  have hb := cmK_bd T p
  unfold comP at h
  split at h
  · cases h
  · rename_i h0
    have hk : tK T p = 1 := by
      rcases hb with q | q
      · exact absurd q h0
      · exact q.2.2.1
    have e1 := tE_bd hp
    have e1' := tS_bd hp
    have e2 := e1.2.2 (by omega)
    split at h
    · cases h
    · split at h
      · cases h
      · have hE : ∀ q, tE T p ≤ q → q ≤ T.2 → tK T q ≠ 0 → p + 2 ≤ tE T q ∧ tE T q ≤ T.2 := fun q q1 q2 q3 => by
          have := tE_bd q2
          have := tS_bd q2
          have := (tE_bd q2).2.2 q3
          omega
        split at h
        · cases h
        · rename_i n hn
          have hn2 : tE T p ≤ n.2.2 ∧ n.2.2 ≤ T.2 := by
            have k1 := tE_ge e1.2.1
            have k2 := tE_ge k1.2
            unfold nmsP at hn
            split at hn
            · have := (kdP_inl hn).2
              split at this
              · have := (kdP_inl this).2
                cases this
                dsimp only
                omega
              · cases this
                dsimp only
                omega
            · cases hn
              dsimp only
              omega
          split at h
          · cases h
          · rename_i b hb2
            have hv : ∀ (q : Nat) (i : Int) (z : Int × Int × Nat), q ≤ T.2 → valP T (cmK T p).toNat q i = .inl z → q ≤ z.2.2 ∧ z.2.2 ≤ T.2 := fun q i z hq hz => by
              have k1 := tE_ge hq
              unfold valP at hz
              split at hz
              · have := (numP_inl hz).2
                cases this
                dsimp only
                omega
              · cases hz
                dsimp only
                omega
            have hb3 : tE T p ≤ b.2.2 ∧ b.2.2 ≤ T.2 := by
              have k1 := tE_ge hn2.2
              unfold nbsP at hb2
              split at hb2
              · have := hv _ _ _ k1.2 (numP_inl hb2).2
                omega
              · have := hv _ _ _ hn2.2 hb2
                omega
            have k := kdP_inl h
            have k2 := k.2
            cases k2
            refine hE b.2.2 hb3.1 hb3.2 ?_
            rw [k.1]
            split <;> decide
theorem s_X8_readFrom {t : KT} {σ : SG} {T : TB} (hT : TX T σ) (hK : ∀ k, k < 31 → KI σ k) : ∃ σ', Ca 9 57 [aR (some (4, 0, 0)), aR (some (2, 0, 0))] (am_hp σ) t (.inl (some (aI (iZ (bO (scrP T))))), am_hp σ', t) ∧ ZQ T (scrP T) σ' ∧ Fr inSk σ σ' := by
  have h600 := hT.2.1
  have fa4 : Fr (fun L => L.1 = 4) σ (sI (sI σ (4, 0, 0) (up (σ.1 (4, 0, 0)) 3 0)) (4, 0, 0) (up ((sI σ (4, 0, 0) (up (σ.1 (4, 0, 0)) 3 0)).1 (4, 0, 0)) 2 0)) := (Fr.sI (P := fun L => L.1 = 4) rfl).trans (Fr.sI (P := fun L => L.1 = 4) rfl)
  have T1 := hT.fr fa4 (by decide) (by decide)
  have n : ∀ a b c : Nat, a ≠ 2 → ¬ inTx (a, b, c) := fun a b c h q => h (congrArg (fun L : Lc => L.1) q)
  have mT : ∀ L, inTx L → inSk L := fun L q => Or.inl (by rw [q])
  obtain ⟨σ1, c1, g1, f1, e5, e6⟩ := s_X10_begin (t := t) T1
  have g4 := (f1.1 (4, 0, 0) (n _ _ _ (by decide))).1
  have y : SK T [(0, [])] 0 0 σ1 := by
    refine ⟨g1, ⟨by decide, by decide⟩, ?_, ?_, by omega, ⟨0, rfl, rfl⟩, fun k hk => ((hK k hk).fr fa4 (by show ¬ (7 : Nat) = 4; decide)).fr f1 (n _ _ _ (by decide)), e5, e6⟩
    · rw [g4]; simp [sI_1, up_at]
    · rw [g4]; simp [sI_1, up_at]
  have fs : Fr inSk σ σ1 := (fa4.mono (fun L q => Or.inr (Or.inl q))).trans (f1.mono mT)
  refine ex_of (e_X8_readFrom ?_)
  unfold scrP
  refine b_X8_readFrom_0 (c1.up (by omega)) ?_
  have key : ∀ (f k : Nat) (l : LV) (m p : Nat) (σ4 : SG) (u : Option AV), k + f = 601 → 2 * k ≤ p → SK T l m p σ4 → Fr inSk σ σ4 → Wp k_X8_readFrom 8 (16, [some (aR (some (4, 0, 0))), some (aR (some (2, 0, 0))), some (aI (iZ ((k : Int)))), u], [], am_hp σ4, t) (fun r => ∃ σ', r = (.inl (some (aI (iZ (bO (lopS T f l m p))))), am_hp σ', t) ∧ ZQ T (lopS T f l m p) σ' ∧ Fr inSk σ σ') := by
    intro f
    induction f with
    | zero =>
      intro k l m p σ4 u h1 h2 h3
      have := h3.1.2.1
      omega
    | succ f ih =>
      intro k l m p σ4 u hk hkp g4 f4
      have e2 := g4.1.2.2.1
      have hpT := g4.1.2.1
      have hb := tE_bd hpT
      have hb2 := tS_bd hpT
      have hl := g4.2.1
      have hd := g4.2.2.1
      have hkl := tK_le T p
      unfold lopS
      refine b_X8_readFrom_16 (by omega) (fun q => by omega) (fun _ => ?_)
      by_cases h0 : l.length = 1 ∧ tK T p = 0
      · rw [if_pos h0]
        refine b_X8_readFrom_23 (by omega) (fun q => by omega) (fun _ => b_X8_readFrom_30 (by omega) (fun _ => b_X8_readFrom_78 ?_) (fun q => by omega))
        obtain ⟨gT, _, _, g3, g30, gL, gK, g5, g6⟩ := g4
        refine ⟨σ4, rfl, ⟨?_, gT.1, gK, g5, g6⟩, f4⟩
        cases l with
        | nil => exact gL.elim
        | cons y r =>
          cases r with
          | nil =>
            obtain ⟨n, gL⟩ := gL
            exact ⟨n, m, g30, g3, gL⟩
          | cons z r' => exact absurd h0.1 (by simp)
      · rw [if_neg h0]
        have go37 : Wp k_X8_readFrom 8 (37, [some (aR (some (4, 0, 0))), some (aR (some (2, 0, 0))), some (aI (iZ ((k : Int)))), u], [], am_hp σ4, t) (fun r => ∃ σ', r = (.inl (some (aI (iZ (bO (if 1 < l.length ∧ tK T p = 5 then kdP T (tE T p) 3 (lopS T f (clL l) m (tE T (tE T p))) else match comP T (l.length - 1) m p with | .inr e => .inr e | .inl x => if iC x.1 = 9 then lopS T f ((x.1.2.2.2.2.toNat, []) :: l) (m + 1) x.2 else lopS T f (adL x.1 l) (m + 1) x.2))))), am_hp σ', t) ∧ ZQ T (if 1 < l.length ∧ tK T p = 5 then kdP T (tE T p) 3 (lopS T f (clL l) m (tE T (tE T p))) else match comP T (l.length - 1) m p with | .inr e => .inr e | .inl x => if iC x.1 = 9 then lopS T f ((x.1.2.2.2.2.toNat, []) :: l) (m + 1) x.2 else lopS T f (adL x.1 l) (m + 1) x.2) σ' ∧ Fr inSk σ σ') := by
          by_cases h5 : 1 < l.length ∧ tK T p = 5
          · rw [if_pos h5]
            refine b_X8_readFrom_37 (by omega) (fun q => by omega) (fun _ => b_X8_readFrom_44 (by omega) (fun q => by omega) (fun _ => ?_))
            obtain ⟨σ5, c5, g5, f5⟩ := s_X8_closeRepeat (t := t) g4 h5.1
            have hpp := hb.2.2 (by omega)
            have hq := tE_bd hb.2.1
            have hq2 := tS_bd hb.2.1
            by_cases h3 : tK T (tE T p) = 3
            · have ek : kdP T (tE T p) 3 ((.inl (0, 0)) : (Nat × Nat) ⊕ PE) = .inl (0, 0) := if_neg (fun z => z h3)
              have ek2 : kdP T (tE T p) 3 (lopS T f (clL l) m (tE T (tE T p))) = lopS T f (clL l) m (tE T (tE T p)) := if_neg (fun z => z h3)
              rw [ek] at c5 g5
              rw [ek2]
              have hqq := hq.2.2 (by omega)
              refine b_X8_readFrom_52 (c5.up (by omega)) (b_X8_readFrom_65 (by simp [bO]) (fun _ => b_X8_readFrom_72 ?_) (fun q => absurd q (by simp [bO])))
              exact ih (k + 1) _ _ _ σ5 _ (by omega) (by omega) g5 (f4.trans f5)
            · have ek : kdP T (tE T p) 3 ((.inl (0, 0)) : (Nat × Nat) ⊕ PE) = .inr (1, tS T (tE T p)) := if_pos h3
              have ek2 : kdP T (tE T p) 3 (lopS T f (clL l) m (tE T (tE T p))) = .inr (1, tS T (tE T p)) := if_pos h3
              rw [ek] at c5 g5
              rw [ek2]
              exact b_X8_readFrom_52 (c5.up (by omega)) (b_X8_readFrom_65 (by simp [bO]) (fun q => absurd rfl q) (fun _ => b_X8_readFrom_70 ⟨σ5, rfl, g5, f4.trans f5⟩))
          · rw [if_neg h5]
            have go60 : Wp k_X8_readFrom 8 (60, [some (aR (some (4, 0, 0))), some (aR (some (2, 0, 0))), some (aI (iZ ((k : Int)))), u], [], am_hp σ4, t) (fun r => ∃ σ', r = (.inl (some (aI (iZ (bO (match comP T (l.length - 1) m p with | .inr e => .inr e | .inl x => if iC x.1 = 9 then lopS T f ((x.1.2.2.2.2.toNat, []) :: l) (m + 1) x.2 else lopS T f (adL x.1 l) (m + 1) x.2))))), am_hp σ', t) ∧ ZQ T (match comP T (l.length - 1) m p with | .inr e => .inr e | .inl x => if iC x.1 = 9 then lopS T f ((x.1.2.2.2.2.toNat, []) :: l) (m + 1) x.2 else lopS T f (adL x.1 l) (m + 1) x.2) σ' ∧ Fr inSk σ σ') := by
              obtain ⟨σ5, c5, g5, f5⟩ := s_X8_readCommand (t := t) g4
              cases hc : comP T (l.length - 1) m p with
              | inr e =>
                rw [hc] at c5 g5
                exact b_X8_readFrom_60 (c5.up (by omega)) (b_X8_readFrom_65 (by simp [bO]) (fun q => absurd rfl q) (fun _ => b_X8_readFrom_70 ⟨σ5, rfl, g5, f4.trans f5⟩))
              | inl x =>
                rw [hc] at c5 g5
                have hx := comP_ge hpT hc
                dsimp only
                refine b_X8_readFrom_60 (c5.up (by omega)) (b_X8_readFrom_65 (by simp [bO]) (fun _ => b_X8_readFrom_72 ?_) (fun q => absurd q (by simp [bO])))
                have g5 : if iC x.1 = 9 then SK T ((x.1.2.2.2.2.toNat, []) :: l) (m + 1) x.2 σ5 else SK T (adL x.1 l) (m + 1) x.2 σ5 := g5
                by_cases h9 : iC x.1 = 9
                · rw [if_pos h9] at g5 ⊢
                  exact ih (k + 1) _ _ _ σ5 _ (by omega) (by omega) g5 (f4.trans f5)
                · rw [if_neg h9] at g5 ⊢
                  exact ih (k + 1) _ _ _ σ5 _ (by omega) (by omega) g5 (f4.trans f5)
            exact b_X8_readFrom_37 (by omega) (fun _ => go60) (fun _ => b_X8_readFrom_44 (by omega) (fun _ => go60) (fun q => by omega))
        refine b_X8_readFrom_23 (by omega) (fun _ => go37) (fun _ => b_X8_readFrom_30 (by omega) (fun q => by omega) (fun _ => go37))
  exact key 601 0 _ _ _ σ1 _ (by omega) (by omega) y fs
