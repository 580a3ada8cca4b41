/-! THE MODEL: steps of reading -/
set_option maxRecDepth 4000
/-- no fault so far -/
def GN (σ : SG) : Prop := σ.1 (40, 0, 0) 8 = 0 ∧ σ.1 (40, 0, 0) 9 = -1
/-- a fault was noted -/
def FE (e : PE) (σ : SG) : Prop := σ.1 (40, 0, 0) 8 = (e.1 : Int) ∧ (1 ≤ e.1 ∧ e.1 ≤ 5) ∧ σ.1 (40, 0, 0) 9 = (e.2 : Int)
theorem GN.g {σ σ' : SG} (h : GN σ) (g : TG σ σ') : GN σ' := ⟨(g.2 8 (by omega)).trans h.1, (g.2 9 (by omega)).trans h.2⟩
theorem s_isGood_t {t : KT} {σ : SG} (h : GN σ) : Ca 1 188 [aR (some (40, 0, 0))] (am_hp σ) t (.inl (some (aI (iZ 1))), am_hp σ, t) := by
  have e8 := h.1
  refine ca_of (e_X12_isGood ?_)
  exact b_X12_isGood_0 (by omega) (fun q => absurd e8 q) (fun _ => b_X12_isGood_7 (b_X12_isGood_12 (by omega) rfl))
theorem s_isGood_f {t : KT} {σ : SG} {e : PE} (h : FE e σ) : Ca 1 188 [aR (some (40, 0, 0))] (am_hp σ) t (.inl (some (aI (iZ 0))), am_hp σ, t) := by
  obtain ⟨e8, h1, -⟩ := h
  refine ca_of (e_X12_isGood ?_)
  exact b_X12_isGood_0 (by omega) (fun _ => b_X12_isGood_11 (b_X12_isGood_12 (by omega) rfl)) (fun q => by omega)
theorem s_wrong {t : KT} {σ : SG} {T : TB} {p c : Nat} (h : TQ T p σ) (g : GN σ) (hc : 1 ≤ c ∧ c ≤ 5) (h6 : tK T p = 6 → c = 1) : ∃ σ', Ca 1 187 [aR (some (40, 0, 0)), aI (iZ ((c : Int)))] (am_hp σ) t (.inl none, am_hp σ', t) ∧ FE (c, tS T p) σ' ∧ TF σ σ' := by
  have hk := mK_i (tK_le T p)
  have e6 := h.2.2.1
  have e5 := h.2.2.2.1
  have e8 := g.1
  refine ex_of (e_X12_wrong ?_)
  refine wq (fun Q hQ => ?_)
  have f22 : Wp k_X12_wrong 0 (22, [some (aR (some (40, 0, 0))), some (aI (iZ ((c : Int))))], [aI (iZ ((c : Int))), aR (some (40, 0, 0))], am_hp σ, t) Q := by
    refine b_X12_wrong_22 (hQ _ ⟨_, rfl, ⟨?_, hc, ?_⟩, (Fr.sI (P := in40) rfl).trans (Fr.sI (P := in40) rfl), fun j hj => ?_⟩)
    · simp [sI_1, up_at]
    · simp [sI_1, up_at, e5]
    · rw [sI_1, if_pos rfl, up_at, if_neg (by omega), sI_1, if_pos rfl, up_at, if_neg (by omega)]
  refine b_X12_wrong_0 (by omega) (fun _ => ?_) (fun q => by omega)
  refine b_X12_wrong_8 (by omega) (fun _ => b_X12_wrong_21 f22) (fun q => b_X12_wrong_17 ?_)
  have c1 : c = 1 := h6 (hk.2.2.2.2.1.mp (by omega))
  subst c1
  exact f22
theorem s_wrong_f {t : KT} {σ : SG} {e : PE} {c : Int} (h : FE e σ) : Ca 1 187 [aR (some (40, 0, 0)), aI (iZ c)] (am_hp σ) t (.inl none, am_hp σ, t) := by
  obtain ⟨e8, h1, -⟩ := h
  refine ca_of (e_X12_wrong ?_)
  exact b_X12_wrong_0 (by omega) (fun q => by omega) (fun _ => b_X12_wrong_7 rfl)
theorem s_isWord_g {t : KT} {σ : SG} {T : TB} {p : Nat} {nm : List Nat} (h : TQ T p σ) (g : GN σ) (hn : ltL nm) (h8 : nm.length ≤ 8) : Ca 1 189 [aR (some (40, 0, 0)), aL (jZ ((mN nm : Int)))] (am_hp σ) t (.inl (some (aI (iZ (bz (tK T p = 1 ∧ tL T p = nm))))), am_hp σ, t) := by
  have hk := mK_i (tK_le T p)
  have e6 := h.2.2.1
  have e8 := g.1
  have no : ¬ (tK T p = 1 ∧ tL T p = nm) → ∀ y1 : Int, y1 = (mN nm : Int) → Wp k_X12_isWord 0 (28, [some (aR (some (40, 0, 0))), some (aL (jZ y1)), none], [], am_hp σ, t) (fun r => r = (.inl (some (aI (iZ (bz (tK T p = 1 ∧ tL T p = nm))))), am_hp σ, t)) := fun q y1 _ => b_X12_isWord_28 (b_X12_isWord_29 (by omega) (by rw [bz_f q]))
  refine ca_of (e_X12_isWord ?_)
  refine b_X12_isWord_0 (by omega) (fun q => absurd e8 q) (fun _ => ?_)
  refine b_X12_isWord_7 (by omega) (fun q => no (fun z => q (e6.trans (hk.2.1.mpr z.1))) _ rfl) (fun q => ?_)
  have k1 : tK T p = 1 := hk.2.1.mp (by omega)
  have eJ := h.2.2.2.2.2.2.1 k1
  have ho := tK_1n k1
  have hm := mN_8 hn h8
  have hm2 := mN_8 ho.2.2 ho.2.1
  have key : ycmp (mN (tL T p) : Int) (mN nm : Int) = 0 ↔ tL T p = nm := by
    rw [ycmp_0 (by omega) (by omega), ← mN_inj ho.2.2 hn]
    omega
  refine b_X12_isWord_15 ycmp_rg (fun q => no (fun z => q (by rw [eJ]; exact key.mpr z.2)) _ rfl) (fun q => ?_)
  rw [eJ] at q
  refine b_X12_isWord_24 (b_X12_isWord_29 (by omega) ?_)
  rw [bz_t ⟨k1, key.mp q⟩]
theorem s_isWord_f {t : KT} {σ : SG} {e : PE} {y : Int} (h : FE e σ) : Ca 1 189 [aR (some (40, 0, 0)), aL (jZ y)] (am_hp σ) t (.inl (some (aI (iZ 0))), am_hp σ, t) := by
  obtain ⟨e8, h1, -⟩ := h
  refine ca_of (e_X12_isWord ?_)
  exact b_X12_isWord_0 (by omega) (fun _ => b_X12_isWord_28 (b_X12_isWord_29 (by omega) rfl)) (fun q => by omega)
/-- the signs -/
abbrev sgC (kd : Nat) (c : Int) : Prop := (kd = 3 ∧ c = 59) ∨ (kd = 4 ∧ c = 40) ∨ (kd = 5 ∧ c = 41)
theorem s_isSign_g {t : KT} {σ : SG} {T : TB} {p kd : Nat} {c : Int} (h : TQ T p σ) (g : GN σ) (hc : sgC kd c) : Ca 1 190 [aR (some (40, 0, 0)), aI (iZ c)] (am_hp σ) t (.inl (some (aI (iZ (bz (tK T p = kd))))), am_hp σ, t) := by
  have hk := mK_i (tK_le T p)
  have hl := tK_le T p
  obtain ⟨-, -, e6, -, -, -, -, e3, e4, e5⟩ := h
  have e8 := g.1
  have no : ¬ tK T p = kd → Wp k_X12_isSign 0 (27, [some (aR (some (40, 0, 0))), some (aI (iZ c))], [], am_hp σ, t) (fun r => r = (.inl (some (aI (iZ (bz (tK T p = kd))))), am_hp σ, t)) := fun q => b_X12_isSign_27 (b_X12_isSign_28 (by omega) (by rw [bz_f q]))
  refine ca_of (e_X12_isSign ?_)
  refine b_X12_isSign_0 (by omega) (fun q => absurd e8 q) (fun _ => ?_)
  refine b_X12_isSign_7 (by omega) (fun q => no (fun z => q (by have := hk.2.2.2.1.mpr (by unfold sgC at hc; omega); omega))) (fun q => ?_)
  have k3 := hk.2.2.2.1.mp (by omega)
  have h7 : (tK T p = 3 ∧ σ.1 (40, 0, 0) 7 = 59) ∨ (tK T p = 4 ∧ σ.1 (40, 0, 0) 7 = 40) ∨ (tK T p = 5 ∧ σ.1 (40, 0, 0) 7 = 41) := by
    by_cases q3 : tK T p = 3
    · exact Or.inl ⟨q3, e3 q3⟩
    · by_cases q4 : tK T p = 4
      · exact Or.inr (Or.inl ⟨q4, e4 q4⟩)
      · exact Or.inr (Or.inr ⟨by omega, e5 (by omega)⟩)
  unfold sgC at hc
  refine b_X12_isSign_15 (by omega) (by omega) (fun q => no (by omega)) (fun q => b_X12_isSign_23 (b_X12_isSign_28 (by omega) ?_))
  rw [bz_t (by omega)]
theorem s_isSign_f {t : KT} {σ : SG} {e : PE} {c : Int} (h : FE e σ) : Ca 1 190 [aR (some (40, 0, 0)), aI (iZ c)] (am_hp σ) t (.inl (some (aI (iZ 0))), am_hp σ, t) := by
  obtain ⟨e8, h1, -⟩ := h
  refine ca_of (e_X12_isSign ?_)
  exact b_X12_isSign_0 (by omega) (fun _ => b_X12_isSign_27 (b_X12_isSign_28 (by omega) rfl)) (fun q => by omega)
theorem s_goOn {t : KT} {σ : SG} {T : TB} {p : Nat} (h : TQ T p σ) (g : GN σ) : ∃ σ', Ca 2 186 [aR (some (40, 0, 0))] (am_hp σ) t (.inl none, am_hp σ', t) ∧ TQ T (tE T p) σ' ∧ GN σ' ∧ TG σ σ' := by
  obtain ⟨σ1, c1, q1, f1⟩ := s_X12_goOnRead (t := t) h.1 (tE_bd h.2.1).2.1 h.2.2.2.2.1
  exact ⟨σ1, c1, q1, g.g f1, f1⟩
theorem s_mustSign_ok {t : KT} {σ : SG} {T : TB} {p kd : Nat} {c : Int} (h : TQ T p σ) (g : GN σ) (hc : sgC kd c) (hk : tK T p = kd) : ∃ σ', Ca 3 191 [aR (some (40, 0, 0)), aI (iZ c)] (am_hp σ) t (.inl none, am_hp σ', t) ∧ TQ T (tE T p) σ' ∧ GN σ' ∧ TG σ σ' := by
  obtain ⟨σ1, c1, q1, g1, f1⟩ := s_goOn (t := t) h g
  have cs := s_isSign_g (t := t) h g hc
  rw [bz_t hk] at cs
  refine ex_of (e_X12_mustSign ?_)
  exact b_X12_mustSign_0 ((s_isGood_t g).up (by omega)) (by omega) (fun q => by omega) (fun _ => b_X12_mustSign_7 (cs.up (by omega)) (by omega) (fun _ => b_X12_mustSign_20 ((s_isGood_t g).up (by omega)) (by omega) (fun q => by omega) (fun _ => b_X12_mustSign_27 (c1.up (by omega)) (b_X12_mustSign_31 ⟨σ1, rfl, q1, g1, f1⟩))) (fun q => by omega))
theorem s_mustSign_no {t : KT} {σ : SG} {T : TB} {p kd : Nat} {c : Int} (h : TQ T p σ) (g : GN σ) (hc : sgC kd c) (hk : tK T p ≠ kd) : ∃ σ', Ca 3 191 [aR (some (40, 0, 0)), aI (iZ c)] (am_hp σ) t (.inl none, am_hp σ', t) ∧ FE (1, tS T p) σ' ∧ TF σ σ' := by
  obtain ⟨σ1, c1, q1, f1⟩ := s_wrong (t := t) (c := 1) h g (by omega) (fun _ => rfl)
  have cs := s_isSign_g (t := t) h g hc
  rw [bz_f hk] at cs
  refine ex_of (e_X12_mustSign ?_)
  exact b_X12_mustSign_0 ((s_isGood_t g).up (by omega)) (by omega) (fun q => by omega) (fun _ => b_X12_mustSign_7 (cs.up (by omega)) (by omega) (fun q => absurd rfl q) (fun _ => b_X12_mustSign_15 (c1.up (by omega)) (b_X12_mustSign_20 ((s_isGood_f q1).up (by omega)) (by omega) (fun _ => b_X12_mustSign_31 ⟨σ1, rfl, q1, f1⟩) (fun q => absurd rfl q))))
theorem s_mustSign_f {t : KT} {σ : SG} {e : PE} {c : Int} (h : FE e σ) : Ca 3 191 [aR (some (40, 0, 0)), aI (iZ c)] (am_hp σ) t (.inl none, am_hp σ, t) := by
  refine ca_of (e_X12_mustSign ?_)
  exact b_X12_mustSign_0 ((s_isGood_f h).up (by omega)) (by omega) (fun _ => b_X12_mustSign_20 ((s_isGood_f h).up (by omega)) (by omega) (fun _ => b_X12_mustSign_31 rfl) (fun q => absurd rfl q)) (fun q => absurd rfl q)
theorem s_mustWord_ok {t : KT} {σ : SG} {T : TB} {p : Nat} {nm : List Nat} (h : TQ T p σ) (g : GN σ) (hn : ltL nm) (h8 : nm.length ≤ 8) (hk : tK T p = 1 ∧ tL T p = nm) : ∃ σ', Ca 3 192 [aR (some (40, 0, 0)), aL (jZ ((mN nm : Int)))] (am_hp σ) t (.inl none, am_hp σ', t) ∧ TQ T (tE T p) σ' ∧ GN σ' ∧ TG σ σ' := by
  obtain ⟨σ1, c1, q1, g1, f1⟩ := s_goOn (t := t) h g
  have cs := s_isWord_g (t := t) h g hn h8
  rw [bz_t hk] at cs
  refine ex_of (e_X12_mustWord ?_)
  exact b_X12_mustWord_0 ((s_isGood_t g).up (by omega)) (by omega) (fun q => by omega) (fun _ => b_X12_mustWord_7 (cs.up (by omega)) (by omega) (fun _ => b_X12_mustWord_20 ((s_isGood_t g).up (by omega)) (by omega) (fun q => by omega) (fun _ => b_X12_mustWord_27 (c1.up (by omega)) (b_X12_mustWord_31 ⟨σ1, rfl, q1, g1, f1⟩))) (fun q => by omega))
theorem s_mustWord_no {t : KT} {σ : SG} {T : TB} {p : Nat} {nm : List Nat} (h : TQ T p σ) (g : GN σ) (hn : ltL nm) (h8 : nm.length ≤ 8) (hk : ¬ (tK T p = 1 ∧ tL T p = nm)) : ∃ σ', Ca 3 192 [aR (some (40, 0, 0)), aL (jZ ((mN nm : Int)))] (am_hp σ) t (.inl none, am_hp σ', t) ∧ FE (1, tS T p) σ' ∧ TF σ σ' := by
  obtain ⟨σ1, c1, q1, f1⟩ := s_wrong (t := t) (c := 1) h g (by omega) (fun _ => rfl)
  have cs := s_isWord_g (t := t) h g hn h8
  rw [bz_f hk] at cs
  refine ex_of (e_X12_mustWord ?_)
  exact b_X12_mustWord_0 ((s_isGood_t g).up (by omega)) (by omega) (fun q => by omega) (fun _ => b_X12_mustWord_7 (cs.up (by omega)) (by omega) (fun q => absurd rfl q) (fun _ => b_X12_mustWord_15 (c1.up (by omega)) (b_X12_mustWord_20 ((s_isGood_f q1).up (by omega)) (by omega) (fun _ => b_X12_mustWord_31 ⟨σ1, rfl, q1, f1⟩) (fun q => absurd rfl q))))
theorem s_looks_ok {t : KT} {σ : SG} {T : TB} {p lo hi : Nat} (h : TQ T p σ) (g : GN σ) (hn : tK T p = 2 ∧ ¬ (tN T p < lo ∨ hi < tN T p)) (hh : lo ≤ 1000000000 ∧ hi ≤ 1000000000) : Ca 2 193 [aR (some (40, 0, 0)), aI (iZ ((lo : Int))), aI (iZ ((hi : Int)))] (am_hp σ) t (.inl (some (aI (iZ ((tN T p : Int))))), am_hp σ, t) := by
  have hk := mK_i (tK_le T p)
  have e6 := h.2.2.1
  have e7 := h.2.2.2.2.2.1 hn.1
  have hb := (tK_2 hn.1).2
  have e62 := hk.2.2.1.mpr hn.1
  have ci := s_X12_isIn (t := t) (σ := σ) (v := σ.1 (40, 0, 0) 7) (a := (lo : Int)) (b := (hi : Int)) (i_rg (by omega)) (i_rg (by omega)) (i_rg (by omega))
  rw [bz_t (by omega)] at ci
  refine ca_of (e_X12_looks ?_)
  refine b_X12_looks_0 ((s_isGood_t g).up (by omega)) (by omega) (fun q => by omega) (fun _ => b_X12_looks_7 (by omega) (fun _ => ?_) (fun q => by omega))
  refine b_X12_looks_20 ((s_isGood_t g).up (by omega)) (by omega) (fun q => by omega) (fun _ => b_X12_looks_27 (by omega) (by omega) (by omega) (ci.up (by omega)) (by omega) (fun _ => b_X12_looks_47 ?_) (fun q => by omega))
  rw [e7]
theorem s_looks_no {t : KT} {σ : SG} {T : TB} {p lo hi : Nat} (h : TQ T p σ) (g : GN σ) (hn : ¬ (tK T p = 2 ∧ ¬ (tN T p < lo ∨ hi < tN T p))) (hh : lo ≤ 1000000000 ∧ hi ≤ 1000000000) : ∃ z : Int, ∃ σ', Ca 2 193 [aR (some (40, 0, 0)), aI (iZ ((lo : Int))), aI (iZ ((hi : Int)))] (am_hp σ) t (.inl (some (aI (iZ z))), am_hp σ', t) ∧ FE (if tK T p ≠ 2 then 1 else 2, tS T p) σ' ∧ TF σ σ' := by
  have hk := mK_i (tK_le T p)
  have e6 := h.2.2.1
  by_cases h2 : tK T p = 2
  · rw [if_neg (fun q => q h2)]
    have e7 := h.2.2.2.2.2.1 h2
    have hb := (tK_2 h2).2
    have e62 := hk.2.2.1.mpr h2
    obtain ⟨σ1, c1, q1, f1⟩ := s_wrong (t := t) (c := 2) h g (by omega) (fun q => by omega)
    have ci := s_X12_isIn (t := t) (σ := σ) (v := σ.1 (40, 0, 0) 7) (a := (lo : Int)) (b := (hi : Int)) (i_rg (by omega)) (i_rg (by omega)) (i_rg (by omega))
    rw [bz_f (by omega)] at ci
    refine ⟨σ1.1 (40, 0, 0) 7, ex_of (e_X12_looks ?_)⟩
    refine b_X12_looks_0 ((s_isGood_t g).up (by omega)) (by omega) (fun q => by omega) (fun _ => b_X12_looks_7 (by omega) (fun _ => ?_) (fun q => by omega))
    exact b_X12_looks_20 ((s_isGood_t g).up (by omega)) (by omega) (fun q => by omega) (fun _ => b_X12_looks_27 (by omega) (by omega) (by omega) (ci.up (by omega)) (by omega) (fun q => absurd rfl q) (fun _ => b_X12_looks_42 (c1.up (by omega)) (b_X12_looks_47 ⟨σ1, rfl, q1, f1⟩)))
  · rw [if_pos h2]
    have e62 : σ.1 (40, 0, 0) 6 ≠ 2 := fun q => h2 (hk.2.2.1.mp (by omega))
    obtain ⟨σ1, c1, q1, f1⟩ := s_wrong (t := t) (c := 1) h g (by omega) (fun _ => rfl)
    refine ⟨σ1.1 (40, 0, 0) 7, ex_of (e_X12_looks ?_)⟩
    refine b_X12_looks_0 ((s_isGood_t g).up (by omega)) (by omega) (fun q => by omega) (fun _ => b_X12_looks_7 (by omega) (fun q => absurd q e62) (fun _ => b_X12_looks_15 (c1.up (by omega)) ?_))
    exact b_X12_looks_20 ((s_isGood_f q1).up (by omega)) (by omega) (fun _ => b_X12_looks_47 ⟨σ1, rfl, q1, f1⟩) (fun q => absurd rfl q)
theorem s_looks_f {t : KT} {σ : SG} {e : PE} {lo hi : Int} (h : FE e σ) : Ca 2 193 [aR (some (40, 0, 0)), aI (iZ lo), aI (iZ hi)] (am_hp σ) t (.inl (some (aI (iZ (σ.1 (40, 0, 0) 7)))), am_hp σ, t) := by
  refine ca_of (e_X12_looks ?_)
  exact b_X12_looks_0 ((s_isGood_f h).up (by omega)) (by omega) (fun _ => b_X12_looks_20 ((s_isGood_f h).up (by omega)) (by omega) (fun _ => b_X12_looks_47 rfl) (fun q => absurd rfl q)) (fun q => absurd rfl q)
theorem s_number_ok {t : KT} {σ : SG} {T : TB} {p lo hi : Nat} (h : TQ T p σ) (g : GN σ) (hn : tK T p = 2 ∧ ¬ (tN T p < lo ∨ hi < tN T p)) (hh : lo ≤ 1000000000 ∧ hi ≤ 1000000000) : ∃ σ', Ca 3 194 [aR (some (40, 0, 0)), aI (iZ ((lo : Int))), aI (iZ ((hi : Int)))] (am_hp σ) t (.inl (some (aI (iZ ((tN T p : Int))))), am_hp σ', t) ∧ TQ T (tE T p) σ' ∧ GN σ' ∧ TG σ σ' := by
  obtain ⟨σ1, c1, q1, g1, f1⟩ := s_goOn (t := t) h g
  refine ex_of (e_X12_number ?_)
  exact b_X12_number_0 ((s_looks_ok h g hn hh).up (by omega)) ((s_isGood_t g).up (by omega)) (by omega) (fun q => by omega) (fun _ => b_X12_number_14 (c1.up (by omega)) (b_X12_number_18 ⟨σ1, rfl, q1, g1, f1⟩))
theorem s_number_no {t : KT} {σ : SG} {T : TB} {p lo hi : Nat} (h : TQ T p σ) (g : GN σ) (hn : ¬ (tK T p = 2 ∧ ¬ (tN T p < lo ∨ hi < tN T p))) (hh : lo ≤ 1000000000 ∧ hi ≤ 1000000000) : ∃ z : Int, ∃ σ', Ca 3 194 [aR (some (40, 0, 0)), aI (iZ ((lo : Int))), aI (iZ ((hi : Int)))] (am_hp σ) t (.inl (some (aI (iZ z))), am_hp σ', t) ∧ FE (if tK T p ≠ 2 then 1 else 2, tS T p) σ' ∧ TF σ σ' := by
  obtain ⟨z, σ1, c1, q1, f1⟩ := s_looks_no (t := t) h g hn hh
  refine ⟨z, ex_of (e_X12_number ?_)⟩
  exact b_X12_number_0 (c1.up (by omega)) ((s_isGood_f q1).up (by omega)) (by omega) (fun _ => b_X12_number_18 ⟨σ1, rfl, q1, f1⟩) (fun q => absurd rfl q)
theorem s_number_f {t : KT} {σ : SG} {e : PE} {lo hi : Int} (h : FE e σ) : Ca 3 194 [aR (some (40, 0, 0)), aI (iZ lo), aI (iZ hi)] (am_hp σ) t (.inl (some (aI (iZ (σ.1 (40, 0, 0) 7)))), am_hp σ, t) := by
  refine ca_of (e_X12_number ?_)
  exact b_X12_number_0 ((s_looks_f h).up (by omega)) ((s_isGood_f h).up (by omega)) (by omega) (fun _ => b_X12_number_18 rfl) (fun q => absurd rfl q)
theorem s_mustName_ok {t : KT} {σ : SG} {T : TB} {p : Nat} (h : TQ T p σ) (g : GN σ) (hk : tK T p = 1) : Ca 2 242 [aR (some (40, 0, 0))] (am_hp σ) t (.inl none, am_hp σ, t) := by
  have hm := mK_i (tK_le T p)
  have e6 := h.2.2.1
  have e61 := hm.2.1.mpr hk
  refine ca_of (e_X12_mustName ?_)
  exact b_X12_mustName_0 ((s_isGood_t g).up (by omega)) (by omega) (fun q => by omega) (fun _ => b_X12_mustName_7 (by omega) (fun _ => b_X12_mustName_20 rfl) (fun q => by omega))
theorem s_mustName_no {t : KT} {σ : SG} {T : TB} {p : Nat} (h : TQ T p σ) (g : GN σ) (hk : tK T p ≠ 1) : ∃ σ', Ca 2 242 [aR (some (40, 0, 0))] (am_hp σ) t (.inl none, am_hp σ', t) ∧ FE (1, tS T p) σ' ∧ TF σ σ' := by
  have hm := mK_i (tK_le T p)
  have e6 := h.2.2.1
  have e61 : σ.1 (40, 0, 0) 6 ≠ 1 := fun q => hk (hm.2.1.mp (by omega))
  obtain ⟨σ1, c1, q1, f1⟩ := s_wrong (t := t) (c := 1) h g (by omega) (fun _ => rfl)
  refine ex_of (e_X12_mustName ?_)
  exact b_X12_mustName_0 ((s_isGood_t g).up (by omega)) (by omega) (fun q => by omega) (fun _ => b_X12_mustName_7 (by omega) (fun q => absurd q e61) (fun _ => b_X12_mustName_15 (c1.up (by omega)) (b_X12_mustName_20 ⟨σ1, rfl, q1, f1⟩)))
theorem s_mustName_f {t : KT} {σ : SG} {e : PE} (h : FE e σ) : Ca 2 242 [aR (some (40, 0, 0))] (am_hp σ) t (.inl none, am_hp σ, t) := by
  refine ca_of (e_X12_mustName ?_)
  exact b_X12_mustName_0 ((s_isGood_f h).up (by omega)) (by omega) (fun _ => b_X12_mustName_20 rfl) (fun q => absurd rfl q)
theorem s_X12_beginsText {t : KT} {σ : SG} {T : TB} (hT : MB T σ) : ∃ σ', Ca 3 195 [aR (some (40, 0, 0))] (am_hp σ) t (.inl none, am_hp σ', t) ∧ TQ T 0 σ' ∧ GN σ' ∧ σ'.1 (40, 0, 0) 2 = 0 ∧ Fr in40 σ σ' ∧ ∀ j, (j < 2 ∨ 9 < j) → σ'.1 (40, 0, 0) j = σ.1 (40, 0, 0) j := by
  obtain ⟨t1, t2, t3, t4⟩ := hT
  refine ex_of (e_X12_beginsText ?_)
  obtain ⟨τ, eτ⟩ : ∃ τ, τ = (sI (sI (sI (sI (sI σ (40, 0, 0) (up (σ.1 (40, 0, 0)) 3 (σ.1 (40, 0, 0) 2))) (40, 0, 0) (up ((sI σ (40, 0, 0) (up (σ.1 (40, 0, 0)) 3 (σ.1 (40, 0, 0) 2))).1 (40, 0, 0)) 2 0)) (40, 0, 0) (up ((sI (sI σ (40, 0, 0) (up (σ.1 (40, 0, 0)) 3 (σ.1 (40, 0, 0) 2))) (40, 0, 0) (up ((sI σ (40, 0, 0) (up (σ.1 (40, 0, 0)) 3 (σ.1 (40, 0, 0) 2))).1 (40, 0, 0)) 2 0)).1 (40, 0, 0)) 4 0)) (40, 0, 0) (up ((sI (sI (sI σ (40, 0, 0) (up (σ.1 (40, 0, 0)) 3 (σ.1 (40, 0, 0) 2))) (40, 0, 0) (up ((sI σ (40, 0, 0) (up (σ.1 (40, 0, 0)) 3 (σ.1 (40, 0, 0) 2))).1 (40, 0, 0)) 2 0)) (40, 0, 0) (up ((sI (sI σ (40, 0, 0) (up (σ.1 (40, 0, 0)) 3 (σ.1 (40, 0, 0) 2))) (40, 0, 0) (up ((sI σ (40, 0, 0) (up (σ.1 (40, 0, 0)) 3 (σ.1 (40, 0, 0) 2))).1 (40, 0, 0)) 2 0)).1 (40, 0, 0)) 4 0)).1 (40, 0, 0)) 8 0)) (40, 0, 0) (up ((sI (sI (sI (sI σ (40, 0, 0) (up (σ.1 (40, 0, 0)) 3 (σ.1 (40, 0, 0) 2))) (40, 0, 0) (up ((sI σ (40, 0, 0) (up (σ.1 (40, 0, 0)) 3 (σ.1 (40, 0, 0) 2))).1 (40, 0, 0)) 2 0)) (40, 0, 0) (up ((sI (sI σ (40, 0, 0) (up (σ.1 (40, 0, 0)) 3 (σ.1 (40, 0, 0) 2))) (40, 0, 0) (up ((sI σ (40, 0, 0) (up (σ.1 (40, 0, 0)) 3 (σ.1 (40, 0, 0) 2))).1 (40, 0, 0)) 2 0)).1 (40, 0, 0)) 4 0)) (40, 0, 0) (up ((sI (sI (sI σ (40, 0, 0) (up (σ.1 (40, 0, 0)) 3 (σ.1 (40, 0, 0) 2))) (40, 0, 0) (up ((sI σ (40, 0, 0) (up (σ.1 (40, 0, 0)) 3 (σ.1 (40, 0, 0) 2))).1 (40, 0, 0)) 2 0)) (40, 0, 0) (up ((sI (sI σ (40, 0, 0) (up (σ.1 (40, 0, 0)) 3 (σ.1 (40, 0, 0) 2))) (40, 0, 0) (up ((sI σ (40, 0, 0) (up (σ.1 (40, 0, 0)) 3 (σ.1 (40, 0, 0) 2))).1 (40, 0, 0)) 2 0)).1 (40, 0, 0)) 4 0)).1 (40, 0, 0)) 8 0)).1 (40, 0, 0)) 9 (-1))) := ⟨_, rfl⟩
  have fτ : Fr in40 σ τ := by
    rw [eτ]
    exact ((((Fr.sI (P := in40) rfl).trans (Fr.sI (P := in40) rfl)).trans (Fr.sI (P := in40) rfl)).trans (Fr.sI (P := in40) rfl)).trans (Fr.sI (P := in40) rfl)
  have o : ∀ j, (j < 2 ∨ 9 < j) → τ.1 (40, 0, 0) j = σ.1 (40, 0, 0) j := fun j hj => by
    rw [eτ, sI_1, if_pos rfl, up_at, if_neg (by omega), sI_1, if_pos rfl, up_at, if_neg (by omega), sI_1, if_pos rfl, up_at, if_neg (by omega), sI_1, if_pos rfl, up_at, if_neg (by omega), sI_1, if_pos rfl, up_at, if_neg (by omega)]
  have o2 : τ.1 (40, 0, 0) 2 = 0 := by rw [eτ]; simp [sI_1, up_at]
  have o3 : τ.1 (40, 0, 0) 3 = σ.1 (40, 0, 0) 2 := by rw [eτ]; simp [sI_1, up_at]
  have o4 : τ.1 (40, 0, 0) 4 = 0 := by rw [eτ]; simp [sI_1, up_at]
  have o8 : τ.1 (40, 0, 0) 8 = 0 := by rw [eτ]; simp [sI_1, up_at]
  have o9 : τ.1 (40, 0, 0) 9 = -1 := by rw [eτ]; simp [sI_1, up_at]
  have hY : TY T τ := ⟨o3.trans t1, t2, t3, by rw [(fτ.1 (41, 0, 0) n41_40).1]; exact t4⟩
  obtain ⟨σ1, c1, q1, f1⟩ := s_X12_goOnRead (t := t) (p := 0) hY (Nat.zero_le _) o4
  have gn : GN τ := ⟨o8, o9⟩
  subst eτ
  refine b_X12_beginsText_0 rfl rfl rfl rfl rfl (c1.up (by omega)) ⟨σ1, rfl, q1, gn.g f1, (f1.2 2 (by omega)).trans o2, fτ.trans f1.1, fun j hj => ?_⟩
  rw [f1.2 j (by omega), o j hj]
theorem s_X12_endsText {t : KT} {σ : SG} {z w : Int} (h8 : σ.1 (40, 0, 0) 8 = z) (h9 : σ.1 (40, 0, 0) 9 = w) (hz : 0 ≤ z ∧ z ≤ 5) : ∃ σ', Ca 3 196 [aR (some (40, 0, 0))] (am_hp σ) t (.inl (some (aI (iZ (bz (z = 0))))), am_hp σ', t) ∧ σ'.1 (40, 0, 0) 0 = bz (¬ z = 0) ∧ σ'.1 (40, 0, 0) 10 = z ∧ σ'.1 (40, 0, 0) 11 = w ∧ Fr in40 σ σ' ∧ ∀ j, j ≠ 0 → j ≠ 10 → j ≠ 11 → σ'.1 (40, 0, 0) j = σ.1 (40, 0, 0) j := by
  refine ex_of (e_X12_endsText ?_)
  refine wq (fun Q hQ => ?_)
  have blk := b_X12_endsText_0 (Q := Q) (d := 2) (σ := σ) (t := t)
  have fτ : Fr in40 σ (sI (sI σ (40, 0, 0) (up (σ.1 (40, 0, 0)) 10 (σ.1 (40, 0, 0) 8))) (40, 0, 0) (up ((sI σ (40, 0, 0) (up (σ.1 (40, 0, 0)) 10 (σ.1 (40, 0, 0) 8))).1 (40, 0, 0)) 11 ((sI σ (40, 0, 0) (up (σ.1 (40, 0, 0)) 10 (σ.1 (40, 0, 0) 8))).1 (40, 0, 0) 9))) := (Fr.sI (P := in40) rfl).trans (Fr.sI (P := in40) rfl)
  have o : ∀ j, j ≠ 10 → j ≠ 11 → (sI (sI σ (40, 0, 0) (up (σ.1 (40, 0, 0)) 10 (σ.1 (40, 0, 0) 8))) (40, 0, 0) (up ((sI σ (40, 0, 0) (up (σ.1 (40, 0, 0)) 10 (σ.1 (40, 0, 0) 8))).1 (40, 0, 0)) 11 ((sI σ (40, 0, 0) (up (σ.1 (40, 0, 0)) 10 (σ.1 (40, 0, 0) 8))).1 (40, 0, 0) 9))).1 (40, 0, 0) j = σ.1 (40, 0, 0) j := fun j h1 h2 => by
    rw [sI_1, if_pos rfl, up_at, if_neg h2, sI_1, if_pos rfl, up_at, if_neg h1]
  have o10 : (sI (sI σ (40, 0, 0) (up (σ.1 (40, 0, 0)) 10 (σ.1 (40, 0, 0) 8))) (40, 0, 0) (up ((sI σ (40, 0, 0) (up (σ.1 (40, 0, 0)) 10 (σ.1 (40, 0, 0) 8))).1 (40, 0, 0)) 11 ((sI σ (40, 0, 0) (up (σ.1 (40, 0, 0)) 10 (σ.1 (40, 0, 0) 8))).1 (40, 0, 0) 9))).1 (40, 0, 0) 10 = z := by simp [sI_1, up_at, h8]
  have o11 : (sI (sI σ (40, 0, 0) (up (σ.1 (40, 0, 0)) 10 (σ.1 (40, 0, 0) 8))) (40, 0, 0) (up ((sI σ (40, 0, 0) (up (σ.1 (40, 0, 0)) 10 (σ.1 (40, 0, 0) 8))).1 (40, 0, 0)) 11 ((sI σ (40, 0, 0) (up (σ.1 (40, 0, 0)) 10 (σ.1 (40, 0, 0) 8))).1 (40, 0, 0) 9))).1 (40, 0, 0) 11 = w := by simp [sI_1, up_at, h9]
  generalize (sI (sI σ (40, 0, 0) (up (σ.1 (40, 0, 0)) 10 (σ.1 (40, 0, 0) 8))) (40, 0, 0) (up ((sI σ (40, 0, 0) (up (σ.1 (40, 0, 0)) 10 (σ.1 (40, 0, 0) 8))).1 (40, 0, 0)) 11 ((sI σ (40, 0, 0) (up (σ.1 (40, 0, 0)) 10 (σ.1 (40, 0, 0) 8))).1 (40, 0, 0) 9))) = τ at blk fτ o o10 o11
  have e8 := o 8 (by omega) (by omega)
  have fin : Wp k_X12_endsText 2 (29, [some (aR (some (40, 0, 0)))], [aI (iZ (bz (z = 0))), aR (some (40, 0, 0))], am_hp τ, t) Q := by
    refine b_X12_endsText_29 (s_X12_goes.up (by omega)) bz_01 (hQ _ ⟨_, rfl, cd_0, (cd_at (by omega)).trans o10, (cd_at (by omega)).trans o11, fτ.trans (Fr.sI (P := in40) rfl), fun j h0 h1 h2 => (cd_at h0).trans (o j h1 h2)⟩)
  refine blk (by omega) (fun q => ?_) (fun q => ?_)
  · rw [bz_f (by omega)] at fin
    exact b_X12_endsText_28 fin
  · rw [bz_t (by omega)] at fin
    exact b_X12_endsText_24 fin
