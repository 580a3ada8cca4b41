/-! THE MODEL: lines of a system -/
set_option maxRecDepth 4000
def in4042 (L : Lc) : Prop := L = (40, 0, 0) ∨ L = (42, 0, 0)
/-- the reading, told prices and rows have changed -/
def LF (σ σ' : SG) : Prop := Fr in4042 σ σ' ∧ ∀ j, (j < 4 ∨ 9 < j) → j ≠ 35 → σ'.1 (40, 0, 0) j = σ.1 (40, 0, 0) j
theorem LF.refl (σ : SG) : LF σ σ := ⟨Fr.refl _ _, fun _ _ _ => rfl⟩
theorem LF.trans {a b c : SG} (h : LF a b) (g : LF b c) : LF a c := ⟨h.1.trans g.1, fun j hj h5 => (g.2 j hj h5).trans (h.2 j hj h5)⟩
theorem TF.l {σ σ' : SG} (h : TF σ σ') : LF σ σ' := ⟨h.1.mono (fun L q => Or.inl q), fun j hj _ => h.2 j hj⟩
theorem TG.l {σ σ' : SG} (h : TG σ σ') : LF σ σ' := h.f.l
theorem n40_42 : ¬ in42 (40, 0, 0) := fun q => absurd (congrArg (fun L : Lc => L.1) q) (by decide)
theorem n41_42 : ¬ in42 (41, 0, 0) := fun q => absurd (congrArg (fun L : Lc => L.1) q) (by decide)
theorem n42_in40 : ¬ in40 (42, 0, 0) := fun q => absurd (congrArg (fun L : Lc => L.1) q) (by decide)
theorem LF.r {σ σ' : SG} (f : Fr in42 σ σ') : LF σ σ' := ⟨f.mono (fun L q => Or.inr q), fun j _ _ => by rw [(f.1 _ n40_42).1]⟩
theorem LF.told {σ : SG} {z : Int} : LF σ (sI σ (40, 0, 0) (up (σ.1 (40, 0, 0)) 35 z)) := ⟨Fr.sI (P := in4042) (Or.inl rfl), fun j _ h => by rw [sI_1, if_pos rfl, up_at, if_neg h]⟩
theorem TQ.r {T : TB} {p : Nat} {σ σ' : SG} (h : TQ T p σ) (f : Fr in42 σ σ') : TQ T p σ' := by
  unfold TQ TY at h ⊢
  rw [(f.1 _ n40_42).1, (f.1 _ n40_42).2.1, (f.1 _ n41_42).1]
  exact h
theorem GN.r {σ σ' : SG} (h : GN σ) (f : Fr in42 σ σ') : GN σ' := by
  unfold GN at h ⊢
  rw [(f.1 _ n40_42).1]
  exact h
/-- a cell of the model's own that the reading does not use -/
theorem TQ.c {T : TB} {p k : Nat} {z : Int} {σ : SG} (h : TQ T p σ) (hk : 9 < k) : TQ T p (sI σ (40, 0, 0) (up (σ.1 (40, 0, 0)) k z)) := by
  have e : ∀ j, j ≤ 9 → (sI σ (40, 0, 0) (up (σ.1 (40, 0, 0)) k z)).1 (40, 0, 0) j = σ.1 (40, 0, 0) j := fun j hj => by rw [sI_1, if_pos rfl, up_at, if_neg (by omega)]
  obtain ⟨⟨a1, a2, a3, a4⟩, b, c, d, e1, e2, e3, e4, e5, e6⟩ := h
  refine ⟨⟨(e 3 (by omega)).trans a1, a2, a3, by rw [sI_1, if_neg (by decide)]; exact a4⟩, b, (e 6 (by omega)).trans c, (e 5 (by omega)).trans d, (e 4 (by omega)).trans e1, fun q => (e 7 (by omega)).trans (e2 q), ?_, fun q => (e 7 (by omega)).trans (e4 q), fun q => (e 7 (by omega)).trans (e5 q), fun q => (e 7 (by omega)).trans (e6 q)⟩
  rw [sI_2]
  exact e3
theorem GN.c {k : Nat} {z : Int} {σ : SG} (h : GN σ) (hk : 9 < k) : GN (sI σ (40, 0, 0) (up (σ.1 (40, 0, 0)) k z)) := by
  have e : ∀ j, j ≤ 9 → (sI σ (40, 0, 0) (up (σ.1 (40, 0, 0)) k z)).1 (40, 0, 0) j = σ.1 (40, 0, 0) j := fun j hj => by rw [sI_1, if_pos rfl, up_at, if_neg (by omega)]
  exact ⟨(e 8 (by omega)).trans h.1, (e 9 (by omega)).trans h.2⟩
/-- rows x.1 are read, prices x.2.1 are told, the reading stands at x.2.2 -/
def LN (T : TB) (A : RA) (m p : Nat) (σ : SG) : Prop := MA A σ ∧ σ.1 (40, 0, 0) 35 = (m : Int) ∧ m < 512 ∧ TQ T p σ ∧ GN σ
def LO (T : TB) : SR ⊕ PE → SG → Prop
  | .inl x, σ => LN T x.1 x.2.1 x.2.2 σ
  | .inr e, σ => FE e σ
theorem MA.t {A : RA} {σ σ' : SG} (h : MA A σ) (f : Fr in40 σ σ') : MA A σ' := h.fr f n42_in40
theorem LN.adv {T : TB} {A : RA} {m p q : Nat} {σ σ' : SG} (h : LN T A m p σ) (k : TQ T q σ') (g : GN σ') (f : TG σ σ') : LN T A m q σ' := ⟨h.1.t f.1, (f.2 35 (by omega)).trans h.2.1, h.2.2.1, k, g⟩
theorem LN.goOn {t : KT} {σ : SG} {T : TB} {A : RA} {m p : Nat} (h : LN T A m p σ) : ∃ σ', Ca 2 186 [aR (some (40, 0, 0))] (am_hp σ) t (.inl none, am_hp σ', t) ∧ LN T A m (tE T p) σ' ∧ TG σ σ' := by
  obtain ⟨σ1, c1, q1, g1, f1⟩ := s_goOn (t := t) h.2.2.2.1 h.2.2.2.2
  exact ⟨σ1, c1, h.adv q1 g1 f1, f1⟩
theorem LN.rows {T : TB} {A B : RA} {m p : Nat} {σ σ' : SG} (h : LN T A m p σ) (w : MA B σ') (f : Fr in42 σ σ') : LN T B m p σ' := ⟨w, by rw [(f.1 _ n40_42).1]; exact h.2.1, h.2.2.1, h.2.2.2.1.r f, h.2.2.2.2.r f⟩
theorem s_X12_addsRow {t : KT} {σ : SG} {A : RA} {nm : List Nat} (hA : MA A σ) (h4 : rN A < 4) (hn : okNm nm) : ∃ σ', Ca 2 222 [aR (some (40, 0, 0)), aL (jZ ((mN nm : Int)))] (am_hp σ) t (.inl (some (aI (iZ ((rN A : Int))))), am_hp σ', t) ∧ MA (addA A nm) σ' ∧ Fr in42 σ σ' := by
  have e0 := hA.n.1
  have hm := mN_8 hn.2.2 hn.2.1
  refine ex_of (e_X12_addsRow ?_)
  refine wq (fun Q hQ => ?_)
  refine b_X12_addsRow_0 ?_
  rw [e0]
  refine w_loopS 63 (fun k c => ∃ σ1, c = (20, [some (aR (some (40, 0, 0))), some (aL (jZ ((mN nm : Int)))), none, some (aI (iZ ((rN A : Int)))), some (aI (iZ ((k : Int))))], [], am_hp σ1, t) ∧ Fr in42 σ σ1 ∧ ∀ p, σ1.1 (42, 0, 0) p = if p = 0 then (rN A : Int) + 1 else if 12 + 63 * rN A ≤ p ∧ p < 12 + 63 * rN A + k then 0 else σ.1 (42, 0, 0) p) ⟨_, rfl, Fr.sI (P := in42) rfl, fun p => ?_⟩ (fun k c hk hI go => ?_) (fun c hI => ?_)
  · rw [sI_1, if_pos rfl, up_at]
    by_cases q : p = 0
    · subst q
      rfl
    · rw [if_neg (by show ¬ p = 0; exact q), if_neg q, if_neg (by omega)]
  · obtain ⟨σ1, rfl, f1, g1⟩ := hI
    refine b_X12_addsRow_20 (by omega) (fun q => by omega) (fun _ => b_X12_addsRow_27 (s_X12_base.up (by omega)) (by omega) (go _ ⟨_, rfl, f1.trans (Fr.sI (P := in42) rfl), fun p => ?_⟩))
    rw [show (((12 + 63 * rN A : Nat) : Int) + (k : Int)).toNat = 12 + 63 * rN A + k by omega, sI_1, if_pos rfl, up_at, g1]
    by_cases q : p = 12 + 63 * rN A + k
    · rw [if_pos q, if_neg (by omega), if_pos (by omega)]
    · rw [if_neg q]
      by_cases q0 : p = 0
      · rw [if_pos q0, if_pos q0]
      · rw [if_neg q0, if_neg q0]
        by_cases q1 : 12 + 63 * rN A ≤ p ∧ p < 12 + 63 * rN A + k
        · rw [if_pos q1, if_pos (by omega)]
        · rw [if_neg q1, if_neg (by omega)]
  · obtain ⟨σ1, rfl, f1, g1⟩ := hI
    have ehi : zl2i (yshr (mN nm : Int) 20) = ((mN nm / 1048576 : Nat) : Int) := by
      have h1 := yshr_n (a := mN nm) (s := 20) (by omega) (by
        have : (2 : Nat) ^ 63 = 9223372036854775808 := by decide
        omega)
      have h2 : yshr (mN nm : Int) 20 = ((mN nm / 1048576 : Nat) : Int) := h1
      rw [h2, zl2i_n (by omega)]
    have elo : zl2i (yand (mN nm : Int) 1048575) = ((mN nm % 1048576 : Nat) : Int) := by
      have h1 := yand_n (m := mN nm) (k := 1048575) (by
        have : (2 : Nat) ^ 62 = 4611686018427387904 := by decide
        omega) (by decide)
      have h2 : yand (mN nm : Int) 1048575 = ((mN nm &&& 1048575 : Nat) : Int) := h1
      have h3 : mN nm &&& 1048575 = mN nm % 1048576 := Nat.and_two_pow_sub_one_eq_mod (mN nm) 20
      rw [h2, h3, zl2i_n (by omega)]
    refine b_X12_addsRow_20 (by omega) (fun _ => ?_) (fun q => by omega)
    refine b_X12_addsRow_46 (s_X12_base.up (by omega)) (by omega) (s_X12_base.up (by omega)) (by omega) (hQ _ ⟨_, rfl, ⟨Av_add hA.1 h4 hn, ?_⟩, (f1.trans (Fr.sI (P := in42) rfl)).trans (Fr.sI (P := in42) rfl)⟩)
    rw [ehi, elo, show (((12 + 63 * rN A : Nat) : Int) + 0).toNat = 12 + 63 * rN A by omega, show (((12 + 63 * rN A : Nat) : Int) + 1).toNat = 13 + 63 * rN A by omega]
    have hG : ∀ p, (sI (sI σ1 (42, 0, 0) (up (σ1.1 (42, 0, 0)) (12 + 63 * rN A) ((mN nm / 1048576 : Nat) : Int))) (42, 0, 0) (up ((sI σ1 (42, 0, 0) (up (σ1.1 (42, 0, 0)) (12 + 63 * rN A) ((mN nm / 1048576 : Nat) : Int))).1 (42, 0, 0)) (13 + 63 * rN A) ((mN nm % 1048576 : Nat) : Int))).1 (42, 0, 0) p = if p = 13 + 63 * rN A then ((mN nm % 1048576 : Nat) : Int) else if p = 12 + 63 * rN A then ((mN nm / 1048576 : Nat) : Int) else if p = 0 then (rN A : Int) + 1 else if 12 + 63 * rN A ≤ p ∧ p < 12 + 63 * rN A + 63 then 0 else σ.1 (42, 0, 0) p := fun p => by
      rw [sI_1, if_pos rfl, up_at, sI_1, if_pos rfl, up_at, g1]
    generalize (sI (sI σ1 (42, 0, 0) (up (σ1.1 (42, 0, 0)) (12 + 63 * rN A) ((mN nm / 1048576 : Nat) : Int))) (42, 0, 0) (up ((sI σ1 (42, 0, 0) (up (σ1.1 (42, 0, 0)) (12 + 63 * rN A) ((mN nm / 1048576 : Nat) : Int))).1 (42, 0, 0)) (13 + 63 * rN A) ((mN nm % 1048576 : Nat) : Int))).1 (42, 0, 0) = g at hG
    have old : ∀ p, p ≠ 0 → p < 12 + 63 * rN A → g p = σ.1 (42, 0, 0) p := fun p h0 h1 => by
      rw [hG, if_neg (by omega), if_neg (by omega), if_neg h0, if_neg (by omega)]
    obtain ⟨m1, m2, m3, m5, m6⟩ := hA.2
    refine ⟨?_, (old 1 (by omega) (by omega)).trans m2, (old 2 (by omega) (by omega)).trans m3, fun w hw => (old _ (by omega) (by omega)).trans (m5 w hw), fun r hr => ?_⟩
    · show g 0 = ((rN A + 1 : Nat) : Int)
      rw [hG, if_neg (by omega), if_neg (by omega), if_pos rfl]
      rfl
    · have hr : r < rN A + 1 := hr
      rw [Nat.zero_add, Nat.zero_add, Nat.zero_add]
      show g (12 + 63 * r) = ((mN (fup (rNm A) (rN A) nm r) / 1048576 : Nat) : Int) ∧ g (13 + 63 * r) = ((mN (fup (rNm A) (rN A) nm r) % 1048576 : Nat) : Int) ∧ g (14 + 63 * r) = ((fup (rLn A) (rN A) 0 r : Nat) : Int) ∧ ∀ j, j < fup (rLn A) (rN A) 0 r → g (0 + (15 + 63 * r + j)) = rNu A r j
      unfold fup
      by_cases e : r = rN A
      · subst e
        rw [if_pos rfl, if_pos rfl]
        refine ⟨?_, ?_, ?_, fun j hj => absurd hj (Nat.not_lt_zero j)⟩
        · rw [hG, if_neg (by omega), if_pos rfl]
        · rw [hG, if_pos rfl]
        · rw [hG, if_neg (by omega), if_neg (by omega), if_neg (by omega), if_pos (by omega)]
          rfl
      · rw [if_neg e, if_neg e]
        have hr' : r < rN A := by omega
        obtain ⟨k1, k2, k3, k4⟩ := m6 r hr'
        have hl := (hA.len hr').2
        rw [Nat.zero_add] at k1 k2 k3
        refine ⟨(old _ (by omega) (by omega)).trans k1, (old _ (by omega) (by omega)).trans k2, (old _ (by omega) (by omega)).trans k3, fun j hj => (old _ (by omega) (by omega)).trans (k4 j hj)⟩
theorem s_X12_rowLine {t : KT} {σ : SG} {T : TB} {A : RA} {m p : Nat} (h : LN T A m p σ) (hp1 : tK T p = 1) : ∃ σ', Ca 4 243 [aR (some (40, 0, 0))] (am_hp σ) t (.inl none, am_hp σ', t) ∧ LO T (rowP T A m p) σ' ∧ LF σ σ' := by
  have h4 := h.1.1.1
  have e0 := h.1.n.1
  refine ex_of (e_X12_rowLine ?_)
  refine wq (fun Q hQ => ?_)
  have bad54 : ∀ (σ1 : SG) (e : PE), rowP T A m p = .inr e → FE e σ1 → LF σ σ1 → Wp k_X12_rowLine 3 (54, [some (aR (some (40, 0, 0))), none, none], [], am_hp σ1, t) Q := fun σ1 e he q1 f1 => b_X12_rowLine_54 ((s_isGood_f q1).up (by omega)) (by omega) (fun q => absurd rfl q) (fun _ => b_X12_rowLine_61 (hQ _ ⟨σ1, rfl, by rw [he]; exact q1, f1⟩))
  by_cases hf : 4 ≤ rN A
  · have er : rowP T A m p = .inr (5, tS T p) := if_pos hf
    obtain ⟨σ1, c1, q1, f1⟩ := s_wrong (t := t) (c := 5) h.2.2.2.1 h.2.2.2.2 (by omega) (fun q => by omega)
    refine b_X12_rowLine_0 (by omega) (fun q => by omega) (fun _ => b_X12_rowLine_10 (c1.up (by omega)) (b_X12_rowLine_15 ((s_isGood_f q1).up (by omega)) (by omega) (fun _ => ?_) (fun q => absurd rfl q)))
    exact b_X12_rowLine_26 ((s_mustName_f q1).up (by omega)) ((s_isGood_f q1).up (by omega)) (by omega) (fun _ => bad54 σ1 _ er q1 f1.l) (fun q => absurd rfl q)
  · have er : rowP T A m p = kdP T (tE T p) 1 (if rwA A (tL T (tE T p)) ≠ -1 then .inr (3, tS T (tE T p)) else numsP T (rN A) m 61 (addA A (tL T (tE T p))) (tE T (tE T p))) := if_neg hf
    obtain ⟨σ1, c1, g1, f1⟩ := LN.goOn (t := t) h
    refine b_X12_rowLine_0 (by omega) (fun _ => ?_) (fun q => by omega)
    refine b_X12_rowLine_15 ((s_isGood_t h.2.2.2.2).up (by omega)) (by omega) (fun q => by omega) (fun _ => b_X12_rowLine_22 (c1.up (by omega)) ?_)
    by_cases hk : tK T (tE T p) = 1
    · have er2 : rowP T A m p = if rwA A (tL T (tE T p)) ≠ -1 then .inr (3, tS T (tE T p)) else numsP T (rN A) m 61 (addA A (tL T (tE T p))) (tE T (tE T p)) := er.trans (if_neg (fun q => q hk))
      have ho := tK_1n hk
      have eJ := g1.2.2.2.1.2.2.2.2.2.2.1 hk
      have eJ : σ1.2.1 (40, 0, 0) 12 = (mN (tL T (tE T p)) : Int) := eJ
      have cr := s_X12_rowNamed (t := t) g1.1 ho.2.2 ho.2.1
      have hb := rwA_bd A (tL T (tE T p))
      rw [← eJ] at cr
      refine b_X12_rowLine_26 ((s_mustName_ok g1.2.2.2.1 g1.2.2.2.2 hk).up (by omega)) ((s_isGood_t g1.2.2.2.2).up (by omega)) (by omega) (fun q => by omega) (fun _ => ?_)
      refine b_X12_rowLine_37 (cr.up (by omega)) (by omega) (fun q => ?_) (fun q => ?_)
      · have er3 := er2.trans (if_neg (fun z => z q))
        obtain ⟨σ2, c2, g2, f2⟩ := s_X12_addsRow (t := t) g1.1 (by omega) ho
        rw [← eJ] at c2
        obtain ⟨σ3, c3, g3, f3⟩ := LN.goOn (t := t) (g1.rows g2 f2)
        refine b_X12_rowLine_54 ((s_isGood_t g1.2.2.2.2).up (by omega)) (by omega) (fun _ => ?_) (fun q => by omega)
        refine b_X12_rowLine_62 (c2.up (by omega)) (c3.up (by omega)) ?_
        have key : ∀ (f k : Nat) (A' : RA) (p' : Nat) (σ4 : SG) (u2 : Option AV), k + f = 61 → LN T A' m p' σ4 → rN A' = rN A + 1 → rLn A' (rN A) = k → LF σ σ4 → rowP T A m p = numsP T (rN A) m f A' p' → Wp k_X12_rowLine 3 (75, [some (aR (some (40, 0, 0))), some (aI (iZ ((rN A : Int)))), u2], [], am_hp σ4, t) Q := by
          intro f
          induction f with
          | zero =>
            intro k A' p' σ4 u2 hkf g4 gn gl ff _
            have := (g4.1.len (r := rN A) (by omega)).2
            omega
          | succ f ih =>
            intro k A' p' σ4 u2 hkf g4 gn gl ff eP
            have hrn : rN A < rN A' := by omega
            have hm6 := mK_i (tK_le T p')
            have e6 : σ4.1 (40, 0, 0) 6 = mK (tK T p') := g4.2.2.2.1.2.2.1
            unfold numsP at eP
            refine b_X12_rowLine_75 ((s_isGood_t g4.2.2.2.2).up (by omega)) (by omega) (fun q => by omega) (fun _ => ?_)
            by_cases h2 : tK T p' = 2
            · rw [if_pos h2] at eP
              have e62 := hm6.2.2.1.mpr h2
              refine b_X12_rowLine_82 (by omega) (fun q => by omega) (fun _ => ?_)
              by_cases hn : tK T p' = 2 ∧ ¬ (tN T p' < 0 ∨ 268435455 < tN T p')
              · rw [numP_ok hn] at eP
                have cl := s_X12_manyIn (t := t) g4.1 hrn
                have lk := s_looks_ok (t := t) (lo := 0) (hi := 268435455) g4.2.2.2.1 g4.2.2.2.2 hn (by omega)
                refine b_X12_rowLine_90 (lk.up (by omega)) ((s_isGood_t g4.2.2.2.2).up (by omega)) (by omega) (fun q => by omega) (fun _ => ?_)
                refine b_X12_rowLine_106 (cl.up (by omega)) (by omega) (fun q => ?_) (fun q => ?_)
                · rw [if_neg (by omega)] at eP
                  obtain ⟨σ5, c5, m5, f5⟩ := s_X12_appends (t := t) (v := (tN T p' : Int)) g4.1 hrn (by have := (g4.1.len hrn).2; show rLn A' (rN A) < 60; omega)
                  have w5 : MA (insA A' (rN A) (rLn A' (rN A)) (tN T p' : Int)) σ5 := ⟨Av_ins g4.1.1 hrn (Nat.le_refl _) (by have := (g4.1.len hrn).2; show rLn A' (rN A) < 60; omega) (by omega), m5⟩
                  obtain ⟨σ6, c6, g6, f6⟩ := LN.goOn (t := t) (g4.rows w5 f5)
                  refine b_X12_rowLine_121 ((s_isGood_t g4.2.2.2.2).up (by omega)) (by omega) (fun _ => ?_) (fun q => by omega)
                  refine b_X12_rowLine_129 (c5.up (by omega)) (c6.up (by omega)) ?_
                  refine ih (k + 1) _ _ σ6 _ (by omega) g6 gn ?_ ((ff.trans (LF.r f5)).trans f6.l) eP
                  show fup (rLn A') (rN A) (rLn A' (rN A) + 1) (rN A) = k + 1
                  unfold fup
                  rw [if_pos rfl, gl]
                · have q60 : rLn A' (rN A) = 60 := by
                    have q : ((rLn A' (rN A) : Nat) : Int) = 60 := q
                    omega
                  rw [if_pos (by omega)] at eP
                  obtain ⟨σ5, c5, q5, f5⟩ := s_wrong (t := t) (c := 5) g4.2.2.2.1 g4.2.2.2.2 (by omega) (fun q => by show (5 : Nat) = 1; exfalso; have q : tK T p' = 6 := q; omega)
                  exact b_X12_rowLine_116 (c5.up (by omega)) (b_X12_rowLine_121 ((s_isGood_f q5).up (by omega)) (by omega) (fun q => absurd rfl q) (fun _ => b_X12_rowLine_128 (hQ _ ⟨σ5, rfl, by rw [eP]; exact q5, ff.trans f5.l⟩)))
              · rw [numP_no hn] at eP
                obtain ⟨z, σ5, c5, q5, f5⟩ := s_looks_no (t := t) (lo := 0) (hi := 268435455) g4.2.2.2.1 g4.2.2.2.2 hn (by omega)
                exact b_X12_rowLine_90 (c5.up (by omega)) ((s_isGood_f q5).up (by omega)) (by omega) (fun _ => b_X12_rowLine_121 ((s_isGood_f q5).up (by omega)) (by omega) (fun q => absurd rfl q) (fun _ => b_X12_rowLine_128 (hQ _ ⟨σ5, rfl, by rw [eP]; exact q5, ff.trans f5.l⟩))) (fun q => absurd rfl q)
            · rw [if_neg h2] at eP
              have e62 : σ4.1 (40, 0, 0) 6 ≠ 2 := fun q => h2 (hm6.2.2.1.mp (by omega))
              exact b_X12_rowLine_82 (by omega) (fun _ => b_X12_rowLine_142 (hQ _ ⟨σ4, rfl, by rw [eP]; exact g4, ff⟩)) (fun q => absurd q e62)
        refine key 61 0 _ _ σ3 _ (by omega) g3 rfl ?_ ((f1.l.trans (LF.r f2)).trans f3.l) er3
        show fup (rLn A) (rN A) 0 (rN A) = 0
        unfold fup
        rw [if_pos rfl]
      · have er3 := er2.trans (if_pos q)
        obtain ⟨σ2, c2, q2, f2⟩ := s_wrong (t := t) (c := 3) g1.2.2.2.1 g1.2.2.2.2 (by omega) (fun q => by exfalso; have q : tK T (tE T p) = 6 := q; omega)
        exact b_X12_rowLine_49 (c2.up (by omega)) (bad54 σ2 _ er3 q2 (f1.l.trans f2.l))
    · have er2 : rowP T A m p = .inr (1, tS T (tE T p)) := er.trans (if_pos hk)
      obtain ⟨σ2, c2, q2, f2⟩ := s_mustName_no (t := t) g1.2.2.2.1 g1.2.2.2.2 hk
      exact b_X12_rowLine_26 (c2.up (by omega)) ((s_isGood_f q2).up (by omega)) (by omega) (fun _ => bad54 σ2 _ er2 q2 (f1.l.trans f2.l)) (fun q => absurd rfl q)
theorem s_X12_has {t : KT} {σ : SG} {m w : Nat} (hm : m < 512) (hw : w < 9) : Ca 1 177 [aI (iZ ((m : Int))), aI (iZ ((w : Int)))] (am_hp σ) t (.inl (some (aI (iZ (bz (m / 2 ^ w % 2 = 1))))), am_hp σ, t) := by
  have hbit := zand_bit w hw m hm
  refine ca_of (e_X12_has ?_)
  refine b_X12_has_0 (by rw [hbit]; omega) (fun q => ?_) (fun q => ?_)
  · rw [hbit] at q
    rw [bz_f (by omega)]
    exact b_X12_has_13 (b_X12_has_14 (by omega) rfl)
  · rw [hbit] at q
    rw [bz_t (by omega)]
    exact b_X12_has_9 (b_X12_has_14 (by omega) rfl)
theorem s_X12_priceLine {t : KT} {σ : SG} {T : TB} {A : RA} {m p : Nat} (h : LN T A m p σ) : ∃ σ', Ca 4 244 [aR (some (40, 0, 0))] (am_hp σ) t (.inl none, am_hp σ', t) ∧ LO T (priP T A m p) σ' ∧ LF σ σ' := by
  refine ex_of (e_X12_priceLine ?_)
  refine wq (fun Q hQ => ?_)
  have bad35 : ∀ (σ1 : SG) (e : PE) (x1 : Int), priP T A m p = .inr e → FE e σ1 → LF σ σ1 → Wp k_X12_priceLine 3 (35, [some (aR (some (40, 0, 0))), some (aI (iZ x1)), none], [], am_hp σ1, t) Q := fun σ1 e x1 he q1 f1 => b_X12_priceLine_35 ((s_isGood_f q1).up (by omega)) (by omega) (fun q => absurd rfl q) (fun _ => b_X12_priceLine_42 (hQ _ ⟨σ1, rfl, by rw [he]; exact q1, f1⟩))
  obtain ⟨σ1, c1, g1, f1⟩ := LN.goOn (t := t) h
  have hm := h.2.2.1
  have e35 : σ1.1 (40, 0, 0) 35 = (m : Int) := g1.2.1
  by_cases hn : tK T (tE T p) = 2 ∧ ¬ (tN T (tE T p) < 0 ∨ 8 < tN T (tE T p))
  · have er : priP T A m p = if m / 2 ^ tN T (tE T p) % 2 = 1 then .inr (3, tS T (tE T p)) else numP T (tE T (tE T p)) 0 99 (.inl (priA A (tN T (tE T p)) (tN T (tE T (tE T p)) : Int), m + 2 ^ tN T (tE T p), tE T (tE T (tE T p)))) := numP_ok hn
    have lk := s_looks_ok (t := t) (lo := 0) (hi := 8) g1.2.2.2.1 g1.2.2.2.2 hn (by omega)
    have ch := s_X12_has (t := t) (σ := σ1) (m := m) (w := tN T (tE T p)) hm (by omega)
    rw [← e35] at ch
    refine b_X12_priceLine_0 (c1.up (by omega)) (lk.up (by omega)) ((s_isGood_t g1.2.2.2.2).up (by omega)) (by omega) (fun q => by omega) (fun _ => ?_)
    by_cases hb : m / 2 ^ tN T (tE T p) % 2 = 1
    · rw [bz_t hb] at ch
      rw [if_pos hb] at er
      obtain ⟨σ2, c2, q2, f2⟩ := s_wrong (t := t) (c := 3) g1.2.2.2.1 g1.2.2.2.2 (by omega) (fun q => by exfalso; have q : tK T (tE T p) = 6 := q; omega)
      exact b_X12_priceLine_19 (ch.up (by omega)) (by omega) (fun q => by omega) (fun _ => b_X12_priceLine_30 (c2.up (by omega)) (bad35 σ2 _ _ er q2 (f1.l.trans f2.l)))
    · rw [bz_f hb] at ch
      rw [if_neg hb] at er
      have ht := told_bit (tN T (tE T p)) (by omega) m hm hb
      refine b_X12_priceLine_19 (ch.up (by omega)) (by omega) (fun _ => ?_) (fun q => absurd rfl q)
      refine b_X12_priceLine_35 ((s_isGood_t g1.2.2.2.2).up (by omega)) (by omega) (fun _ => ?_) (fun q => by omega)
      have ga : LN T A (m + 2 ^ tN T (tE T p)) (tE T p) (sI σ1 (40, 0, 0) (up (σ1.1 (40, 0, 0)) 35 (zor (σ1.1 (40, 0, 0) 35) (zshl 1 (tN T (tE T p) : Int))))) := by
        refine ⟨g1.1.t (Fr.sI (P := in40) rfl), ?_, ht.2, g1.2.2.2.1.c (by omega), g1.2.2.2.2.c (by omega)⟩
        rw [sI_1, if_pos rfl, up_at, if_pos rfl, e35]
        exact ht.1
      have fa := f1.l.trans (LF.told (σ := σ1) (z := zor (σ1.1 (40, 0, 0) 35) (zshl 1 (tN T (tE T p) : Int))))
      obtain ⟨σ2, c2, g2, f2⟩ := LN.goOn (t := t) ga
      by_cases hq : tK T (tE T (tE T p)) = 2 ∧ ¬ (tN T (tE T (tE T p)) < 0 ∨ 99 < tN T (tE T (tE T p)))
      · rw [numP_ok hq] at er
        obtain ⟨σ3, c3, q3, g3, f3⟩ := s_number_ok (t := t) (lo := 0) (hi := 99) g2.2.2.2.1 g2.2.2.2.2 hq (by omega)
        have L3 := g2.adv q3 g3 f3
        refine b_X12_priceLine_43 (c2.up (by omega)) (c3.up (by omega)) ((s_isGood_t g3).up (by omega)) (by omega) (fun q => by omega) (fun _ => ?_)
        have e3 : ((3 : Int) + (tN T (tE T p) : Int)).toNat = 3 + tN T (tE T p) := by omega
        have w4 : MA (priA A (tN T (tE T p)) (tN T (tE T (tE T p)) : Int)) (sI σ3 (42, 0, 0) (up (σ3.1 (42, 0, 0)) ((3 : Int) + (tN T (tE T p) : Int)).toNat (tN T (tE T (tE T p)) : Int))) := by
          refine ⟨Av_pri L3.1.1 (by omega), ?_⟩
          rw [e3, sI_1, if_pos rfl]
          exact L3.1.2.pr (by omega)
        refine b_X12_priceLine_74 (by omega) (b_X12_priceLine_83 (hQ _ ⟨_, rfl, by rw [er]; exact L3.rows w4 (Fr.sI (P := in42) rfl), ((fa.trans f2.l).trans f3.l).trans (LF.r (Fr.sI (P := in42) rfl))⟩))
      · rw [numP_no hq] at er
        obtain ⟨z, σ3, c3, q3, f3⟩ := s_number_no (t := t) (lo := 0) (hi := 99) g2.2.2.2.1 g2.2.2.2.2 hq (by omega)
        exact b_X12_priceLine_43 (c2.up (by omega)) (c3.up (by omega)) ((s_isGood_f q3).up (by omega)) (by omega) (fun _ => b_X12_priceLine_83 (hQ _ ⟨σ3, rfl, by rw [er]; exact q3, (fa.trans f2.l).trans f3.l⟩)) (fun q => absurd rfl q)
  · have er : priP T A m p = .inr (if tK T (tE T p) ≠ 2 then 1 else 2, tS T (tE T p)) := numP_no hn
    obtain ⟨z, σ2, c2, q2, f2⟩ := s_looks_no (t := t) (lo := 0) (hi := 8) g1.2.2.2.1 g1.2.2.2.2 hn (by omega)
    exact b_X12_priceLine_0 (c1.up (by omega)) (c2.up (by omega)) ((s_isGood_f q2).up (by omega)) (by omega) (fun _ => bad35 σ2 _ _ er q2 (f1.l.trans f2.l)) (fun q => absurd rfl q)
theorem s_X12_fillLine {t : KT} {σ : SG} {T : TB} {A : RA} {m p : Nat} (h : LN T A m p σ) : ∃ σ', Ca 4 245 [aR (some (40, 0, 0))] (am_hp σ) t (.inl none, am_hp σ', t) ∧ LO T (fillP T A m p) σ' ∧ LF σ σ' := by
  refine ex_of (e_X12_fillLine ?_)
  refine wq (fun Q hQ => ?_)
  have bad78 : ∀ (σ1 : SG) (e : PE) (x1 x2 : Int), fillP T A m p = .inr e → FE e σ1 → LF σ σ1 → Wp k_X12_fillLine 3 (78, [some (aR (some (40, 0, 0))), some (aI (iZ x1)), some (aI (iZ x2)), none, none], [], am_hp σ1, t) Q := fun σ1 e x1 x2 he q1 f1 => b_X12_fillLine_78 ((s_isGood_f q1).up (by omega)) (by omega) (fun _ => b_X12_fillLine_89 ((s_number_f q1).up (by omega)) ((s_isGood_f q1).up (by omega)) (by omega) (fun q => absurd rfl q) (fun _ => b_X12_fillLine_105 (hQ _ ⟨σ1, rfl, by rw [he]; exact q1, f1⟩))) (fun q => absurd rfl q)
  have bad38 : ∀ (σ1 : SG) (e : PE) (x1 : Int), fillP T A m p = .inr e → FE e σ1 → LF σ σ1 → Wp k_X12_fillLine 3 (38, [some (aR (some (40, 0, 0))), some (aI (iZ x1)), none, none, none], [], am_hp σ1, t) Q := fun σ1 e x1 he q1 f1 => b_X12_fillLine_38 ((s_isGood_f q1).up (by omega)) (by omega) (fun _ => b_X12_fillLine_49 ((s_looks_f q1).up (by omega)) ((s_isGood_f q1).up (by omega)) (by omega) (fun _ => bad78 σ1 e _ _ he q1 f1) (fun q => absurd rfl q)) (fun q => absurd rfl q)
  obtain ⟨σ1, c1, g1, f1⟩ := LN.goOn (t := t) h
  have h4 := h.1.1.1
  by_cases hk : tK T (tE T p) = 1
  · have er : fillP T A m p = if rwA A (tL T (tE T p)) = -1 then .inr (4, tS T (tE T p)) else numP T (tE T (tE T p)) 1 60 (if 60 < rLn A (rwA A (tL T (tE T p))).toNat + tN T (tE T (tE T p)) then .inr (5, tS T (tE T (tE T p))) else numP T (tE T (tE T (tE T p))) 0 268435455 (.inl (filA A (rwA A (tL T (tE T p))).toNat (tN T (tE T (tE T (tE T p))) : Int) (tN T (tE T (tE T p))), m, tE T (tE T (tE T (tE T p)))))) := if_neg (fun q => q hk)
    have ho := tK_1n hk
    have eJ : σ1.2.1 (40, 0, 0) 12 = (mN (tL T (tE T p)) : Int) := g1.2.2.2.1.2.2.2.2.2.2.1 hk
    have cr := s_X12_rowNamed (t := t) g1.1 ho.2.2 ho.2.1
    have hb := rwA_bd A (tL T (tE T p))
    rw [← eJ] at cr
    refine b_X12_fillLine_0 (c1.up (by omega)) ((s_mustName_ok g1.2.2.2.1 g1.2.2.2.2 hk).up (by omega)) ((s_isGood_t g1.2.2.2.2).up (by omega)) (by omega) (fun q => by omega) (fun _ => b_X12_fillLine_15 (cr.up (by omega)) ?_)
    refine b_X12_fillLine_27 (by omega) (fun q => ?_) (fun q => ?_)
    · rw [if_neg q] at er
      obtain ⟨r, hr⟩ := Int.eq_ofNat_of_zero_le (show 0 ≤ rwA A (tL T (tE T p)) by omega)
      rw [hr] at hb er ⊢
      rw [Int.toNat_natCast] at er
      have hrn : r < rN A := by omega
      obtain ⟨σ2, c2, g2, f2⟩ := LN.goOn (t := t) g1
      have f12 := f1.l.trans f2.l
      refine b_X12_fillLine_38 ((s_isGood_t g1.2.2.2.2).up (by omega)) (by omega) (fun q => by omega) (fun _ => b_X12_fillLine_45 (c2.up (by omega)) ?_)
      by_cases hn : tK T (tE T (tE T p)) = 2 ∧ ¬ (tN T (tE T (tE T p)) < 1 ∨ 60 < tN T (tE T (tE T p)))
      · rw [numP_ok hn] at er
        have lk := s_looks_ok (t := t) (lo := 1) (hi := 60) g2.2.2.2.1 g2.2.2.2.2 hn (by omega)
        have cw := s_X12_whyNoMore (t := t) (m := tN T (tE T (tE T p))) g2.1 hrn (by omega)
        refine b_X12_fillLine_49 (lk.up (by omega)) ((s_isGood_t g2.2.2.2.2).up (by omega)) (by omega) (fun q => by omega) (fun _ => ?_)
        by_cases h60 : 60 < rLn A r + tN T (tE T (tE T p))
        · rw [if_pos h60] at er
          have cw' : ((if 60 < rLn A r + tN T (tE T (tE T p)) then 103 else 0 : Nat) : Int) = 103 := by rw [if_pos h60]; rfl
          have cw := cw
          rw [cw'] at cw
          obtain ⟨σ3, c3, q3, f3⟩ := s_wrong (t := t) (c := 5) g2.2.2.2.1 g2.2.2.2.2 (by omega) (fun q => by exfalso; have q : tK T (tE T (tE T p)) = 6 := q; omega)
          exact b_X12_fillLine_64 (cw.up (by omega)) (by omega) (fun q => by omega) (fun _ => b_X12_fillLine_73 (c3.up (by omega)) (bad78 σ3 _ _ _ er q3 (f12.trans f3.l)))
        · rw [if_neg h60] at er
          have cw' : ((if 60 < rLn A r + tN T (tE T (tE T p)) then 103 else 0 : Nat) : Int) = 0 := by rw [if_neg h60]; rfl
          have cw := cw
          rw [cw'] at cw
          obtain ⟨σ3, c3, g3, f3⟩ := LN.goOn (t := t) g2
          have f13 := f12.trans f3.l
          refine b_X12_fillLine_64 (cw.up (by omega)) (by omega) (fun _ => ?_) (fun q => by omega)
          refine b_X12_fillLine_78 ((s_isGood_t g2.2.2.2.2).up (by omega)) (by omega) (fun q => by omega) (fun _ => b_X12_fillLine_85 (c3.up (by omega)) ?_)
          by_cases hq : tK T (tE T (tE T (tE T p))) = 2 ∧ ¬ (tN T (tE T (tE T (tE T p))) < 0 ∨ 268435455 < tN T (tE T (tE T (tE T p))))
          · rw [numP_ok hq] at er
            obtain ⟨σ4, c4, q4, g4, f4⟩ := s_number_ok (t := t) (lo := 0) (hi := 268435455) g3.2.2.2.1 g3.2.2.2.2 hq (by omega)
            have L4 := g3.adv q4 g4 f4
            have f14 := f13.trans f4.l
            refine b_X12_fillLine_89 (c4.up (by omega)) ((s_isGood_t g4).up (by omega)) (by omega) (fun _ => b_X12_fillLine_106 ?_) (fun q => by omega)
            refine w_loopS (tN T (tE T (tE T p))) (fun k c => ∃ σ5, c = (109, [some (aR (some (40, 0, 0))), some (aI (iZ ((r : Int)))), some (aI (iZ ((tN T (tE T (tE T p)) : Int)))), some (aI (iZ ((tN T (tE T (tE T (tE T p))) : Int)))), some (aI (iZ ((k : Int))))], [], am_hp σ5, t) ∧ LN T (filA A r (tN T (tE T (tE T (tE T p))) : Int) k) m (tE T (tE T (tE T (tE T p)))) σ5 ∧ LF σ σ5) ⟨σ4, rfl, L4, f14⟩ (fun k c hk hI go => ?_) (fun c hI => ?_)
            · obtain ⟨σ5, rfl, L5, f5⟩ := hI
              have ok := filA_ok h.1.1 (r := r) (v := (tN T (tE T (tE T (tE T p))) : Int)) hrn (by omega) k (by omega)
              obtain ⟨σ6, c6, m6, f6⟩ := s_X12_appends (t := t) (r := r) (v := (tN T (tE T (tE T (tE T p))) : Int)) L5.1 (by show r < rN (filA A r _ k); rw [ok.2.1]; exact hrn) (by show rLn (filA A r _ k) r < 60; rw [ok.2.2]; omega)
              have ok2 := filA_ok h.1.1 (r := r) (v := (tN T (tE T (tE T (tE T p))) : Int)) hrn (by omega) (k + 1) (by omega)
              exact b_X12_fillLine_109 (by omega) (by omega) (fun q => by omega) (fun _ => b_X12_fillLine_115 (c6.up (by omega)) (go _ ⟨σ6, rfl, L5.rows ⟨ok2.1, m6⟩ f6, f5.trans (LF.r f6)⟩))
            · obtain ⟨σ5, rfl, L5, f5⟩ := hI
              exact b_X12_fillLine_109 (by omega) (by omega) (fun _ => b_X12_fillLine_127 (hQ _ ⟨σ5, rfl, by rw [er]; exact L5, f5⟩)) (fun q => by omega)
          · rw [numP_no hq] at er
            obtain ⟨z, σ4, c4, q4, f4⟩ := s_number_no (t := t) (lo := 0) (hi := 268435455) g3.2.2.2.1 g3.2.2.2.2 hq (by omega)
            exact b_X12_fillLine_89 (c4.up (by omega)) ((s_isGood_f q4).up (by omega)) (by omega) (fun q => absurd rfl q) (fun _ => b_X12_fillLine_105 (hQ _ ⟨σ4, rfl, by rw [er]; exact q4, f13.trans f4.l⟩))
      · rw [numP_no hn] at er
        obtain ⟨z, σ3, c3, q3, f3⟩ := s_looks_no (t := t) (lo := 1) (hi := 60) g2.2.2.2.1 g2.2.2.2.2 hn (by omega)
        exact b_X12_fillLine_49 (c3.up (by omega)) ((s_isGood_f q3).up (by omega)) (by omega) (fun _ => bad78 σ3 _ _ _ er q3 (f12.trans f3.l)) (fun q => absurd rfl q)
    · rw [if_pos q] at er
      obtain ⟨σ2, c2, q2, f2⟩ := s_wrong (t := t) (c := 4) g1.2.2.2.1 g1.2.2.2.2 (by omega) (fun q => by exfalso; have q : tK T (tE T p) = 6 := q; omega)
      exact b_X12_fillLine_33 (c2.up (by omega)) (bad38 σ2 _ _ er q2 (f1.l.trans f2.l))
  · have er : fillP T A m p = .inr (1, tS T (tE T p)) := if_pos hk
    obtain ⟨σ2, c2, q2, f2⟩ := s_mustName_no (t := t) g1.2.2.2.1 g1.2.2.2.2 hk
    refine b_X12_fillLine_0 (c1.up (by omega)) (c2.up (by omega)) ((s_isGood_f q2).up (by omega)) (by omega) (fun _ => b_X12_fillLine_26 ?_) (fun q => absurd rfl q)
    exact b_X12_fillLine_27 (by omega) (fun _ => bad38 σ2 _ _ er q2 (f1.l.trans f2.l)) (fun q => by omega)
theorem kw_eq : mN (kwL 0) = 14519 ∧ mN (kwL 1) = 1156 ∧ mN (kwL 2) = 17076 ∧ mN (kwL 3) = 317298260 ∧ mN (kwL 4) = 609664709 ∧ mN (kwL 5) = 343342 ∧ mN (kwL 6) = 611717 ∧ mN (kwL 7) = 634160 ∧ mN (kwL 8) = 17376357 ∧ mN (kwL 9) = 609752116 ∧ mN (kwL 10) = 525419 ∧ mN (kwL 11) = 18935 ∧ mN (kwL 12) = 17376357 ∧ mN (kwL 13) = 206220 := by decide +kernel
theorem s_isKw {t : KT} {σ : SG} {T : TB} {p k n : Nat} (h : TQ T p σ) (g : GN σ) (hk : k < 14) (e : mN (kwL k) = n) : Ca 1 189 [aR (some (40, 0, 0)), aL (jZ ((n : Int)))] (am_hp σ) t (.inl (some (aI (iZ (bz (isKw T p k))))), am_hp σ, t) := by
  rw [← e]
  exact s_isWord_g h g (kwP_lt hk _ (Nat.le_refl _)) (by rw [kwP_len]; have := (byt_ok k hk).1; omega)
theorem s_X12_statement {t : KT} {σ : SG} {T : TB} {A : RA} {m p : Nat} (h : LN T A m p σ) : ∃ σ', Ca 5 246 [aR (some (40, 0, 0))] (am_hp σ) t (.inl none, am_hp σ', t) ∧ LO T (stmP T A m p) σ' ∧ LF σ σ' := by
  obtain ⟨-, -, -, -, -, -, -, -, -, -, -, k11, k12, k13⟩ := kw_eq
  have w11 := s_isKw (t := t) h.2.2.2.1 h.2.2.2.2 (by omega) k11
  have w12 := s_isKw (t := t) h.2.2.2.1 h.2.2.2.2 (by omega) k12
  have w13 := s_isKw (t := t) h.2.2.2.1 h.2.2.2.2 (by omega) k13
  refine ex_of (e_X12_statement ?_)
  unfold stmP
  by_cases h11 : isKw T p 11
  · rw [if_pos h11]
    rw [bz_t h11] at w11
    obtain ⟨σ1, c1, q1, f1⟩ := s_X12_rowLine (t := t) h h11.1
    exact b_X12_statement_0 (w11.up (by omega)) (by omega) (fun q => by omega) (fun _ => b_X12_statement_10 (c1.up (by omega)) (b_X12_statement_56 ⟨σ1, rfl, q1, f1⟩))
  · rw [if_neg h11]
    rw [bz_f h11] at w11
    refine b_X12_statement_0 (w11.up (by omega)) (by omega) (fun _ => ?_) (fun q => absurd rfl q)
    by_cases h12 : isKw T p 12
    · rw [if_pos h12]
      rw [bz_t h12] at w12
      obtain ⟨σ1, c1, q1, f1⟩ := s_X12_priceLine (t := t) h
      exact b_X12_statement_17 (w12.up (by omega)) (by omega) (fun q => by omega) (fun _ => b_X12_statement_27 (c1.up (by omega)) (b_X12_statement_56 ⟨σ1, rfl, q1, f1⟩))
    · rw [if_neg h12]
      rw [bz_f h12] at w12
      refine b_X12_statement_17 (w12.up (by omega)) (by omega) (fun _ => ?_) (fun q => absurd rfl q)
      by_cases h13 : isKw T p 13
      · rw [if_pos h13]
        rw [bz_t h13] at w13
        obtain ⟨σ1, c1, q1, f1⟩ := s_X12_fillLine (t := t) h
        exact b_X12_statement_34 (w13.up (by omega)) (by omega) (fun q => by omega) (fun _ => b_X12_statement_44 (c1.up (by omega)) (b_X12_statement_56 ⟨σ1, rfl, q1, f1⟩))
      · rw [if_neg h13]
        rw [bz_f h13] at w13
        obtain ⟨σ1, c1, q1, f1⟩ := s_wrong (t := t) (c := 1) h.2.2.2.1 h.2.2.2.2 (by omega) (fun _ => rfl)
        exact b_X12_statement_34 (w13.up (by omega)) (by omega) (fun _ => b_X12_statement_51 (c1.up (by omega)) (b_X12_statement_56 ⟨σ1, rfl, q1, f1.l⟩)) (fun q => absurd rfl q)
