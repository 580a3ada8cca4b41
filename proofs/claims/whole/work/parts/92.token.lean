/-! THE MODEL: tokens -/
set_option maxRecDepth 4000
/-- the model's kinds of tokens -/
def mK (k : Nat) : Int := if k ≤ 2 then (k : Int) else if k ≤ 5 then 3 else 4
theorem mK_i {k : Nat} (h : k ≤ 6) : (mK k = 0 ↔ k = 0) ∧ (mK k = 1 ↔ k = 1) ∧ (mK k = 2 ↔ k = 2) ∧ (mK k = 3 ↔ (3 ≤ k ∧ k ≤ 5)) ∧ (mK k = 4 ↔ k = 6) ∧ 0 ≤ mK k ∧ mK k ≤ 4 := by
  unfold mK
  split
  · omega
  · split <;> omega
/-- the model's text -/
def TY (T : TB) (σ : SG) : Prop := σ.1 (40, 0, 0) 3 = T.2 ∧ T.2 ≤ 600 ∧ (∀ j, 0 ≤ T.1 j ∧ T.1 j ≤ 255) ∧ ∀ j, j < T.2 → σ.1 (41, 0, 0) j = T.1 j
/-- the model's reading stands behind the token that is read from p on -/
def TQ (T : TB) (p : Nat) (σ : SG) : Prop := TY T σ ∧ p ≤ T.2 ∧ σ.1 (40, 0, 0) 6 = mK (tK T p) ∧ σ.1 (40, 0, 0) 5 = tS T p ∧ σ.1 (40, 0, 0) 4 = tE T p ∧ (tK T p = 2 → σ.1 (40, 0, 0) 7 = tN T p) ∧ (tK T p = 1 → σ.2.1 (40, 0, 0) 12 = mN (tL T p)) ∧ (tK T p = 3 → σ.1 (40, 0, 0) 7 = 59) ∧ (tK T p = 4 → σ.1 (40, 0, 0) 7 = 40) ∧ (tK T p = 5 → σ.1 (40, 0, 0) 7 = 41)
def in40 (L : Lc) : Prop := L = (40, 0, 0)
/-- only the reading has gone on -/
def TG (σ σ' : SG) : Prop := Fr in40 σ σ' ∧ ∀ j, (j < 4 ∨ 7 < j) → σ'.1 (40, 0, 0) j = σ.1 (40, 0, 0) j
/-- only the reading and its fault have changed -/
def TF (σ σ' : SG) : Prop := Fr in40 σ σ' ∧ ∀ j, (j < 4 ∨ 9 < j) → σ'.1 (40, 0, 0) j = σ.1 (40, 0, 0) j
theorem TG.refl (σ : SG) : TG σ σ := ⟨Fr.refl _ _, fun _ _ => rfl⟩
theorem TG.trans {a b c : SG} (h : TG a b) (g : TG b c) : TG a c := ⟨h.1.trans g.1, fun j hj => (g.2 j hj).trans (h.2 j hj)⟩
theorem TG.f {σ σ' : SG} (h : TG σ σ') : TF σ σ' := ⟨h.1, fun j hj => h.2 j (by omega)⟩
theorem TF.refl (σ : SG) : TF σ σ := ⟨Fr.refl _ _, fun _ _ => rfl⟩
theorem TF.trans {a b c : SG} (h : TF a b) (g : TF b c) : TF a c := ⟨h.1.trans g.1, fun j hj => (g.2 j hj).trans (h.2 j hj)⟩
theorem TG.up {σ : SG} {k : Nat} {z : Int} (h : 4 ≤ k ∧ k ≤ 7) : TG σ (sI σ (40, 0, 0) (up (σ.1 (40, 0, 0)) k z)) := ⟨Fr.sI (P := in40) rfl, fun j hj => by rw [sI_1, if_pos rfl, up_at, if_neg (by omega)]⟩
theorem TG.upJ {σ : SG} {f : Nat → Int} : TG σ (sJ σ (40, 0, 0) f) := ⟨Fr.sJ (P := in40) rfl, fun j hj => rfl⟩
theorem n41_40 : ¬ in40 (41, 0, 0) := fun q => absurd (congrArg (fun L : Lc => L.1) q) (by decide)
theorem TY.g {T : TB} {σ σ' : SG} (h : TY T σ) (g : TG σ σ') : TY T σ' := ⟨(g.2 3 (by omega)).trans h.1, h.2.1, h.2.2.1, by rw [(g.1.1 (41, 0, 0) n41_40).1]; exact h.2.2.2⟩
theorem TY.f {T : TB} {σ σ' : SG} (h : TY T σ) (g : TF σ σ') : TY T σ' := ⟨(g.2 3 (by omega)).trans h.1, h.2.1, h.2.2.1, by rw [(g.1.1 (41, 0, 0) n41_40).1]; exact h.2.2.2⟩
/-- the byte that stands k behind the reading -/
theorem s_X12_here {t : KT} {σ : SG} {T : TB} {p k : Nat} (hT : TY T σ) (h4 : σ.1 (40, 0, 0) 4 = p) (hp : p ≤ 600) (hk : k ≤ 600) : Ca 1 183 [aR (some (40, 0, 0)), aI (iZ ((k : Int)))] (am_hp σ) t (.inl (some (aI (iZ (if p + k < T.2 then T.1 (p + k) else -1)))), am_hp σ, t) := by
  obtain ⟨h1, h2, h3, h5⟩ := hT
  refine ca_of (e_X12_here ?_)
  refine b_X12_here_0 (by omega) (by omega) (fun q => ?_) (fun q => ?_)
  · rw [if_neg (by omega)]
    exact b_X12_here_27 (b_X12_here_28 rfl)
  · rw [if_pos (by omega)]
    refine b_X12_here_13 (by omega) (b_X12_here_28 ?_)
    rw [h4, show ((p : Int) + (k : Int)).toNat = p + k by omega, h5 (p + k) (by omega)]
theorem s_here0 {t : KT} {σ : SG} {T : TB} {p : Nat} (hT : TY T σ) (h4 : σ.1 (40, 0, 0) 4 = p) (hp : p ≤ 600) : Ca 1 183 [aR (some (40, 0, 0)), aI (iZ 0)] (am_hp σ) t (.inl (some (aI (iZ (if p < T.2 then T.1 p else -1)))), am_hp σ, t) := s_X12_here (k := 0) hT h4 hp (by omega)
theorem hr_rg {T : TB} {p : Nat} {σ : SG} (hT : TY T σ) : -2147483648 ≤ (if p < T.2 then T.1 p else -1) ∧ (if p < T.2 then T.1 p else -1) < 2147483648 := by
  have := hT.2.2.1 p
  split <;> omega
/-- the letters are read -/
theorem l_word {t : KT} {Q : RS → Prop} {σ : SG} {T : TB} {s : Nat} {c : Int} (hT : TY T σ) (hs : s ≤ T.2) (h4 : σ.1 (40, 0, 0) 4 = s) (h12 : σ.2.1 (40, 0, 0) 12 = 0) (q : ∀ σ', TG σ σ' → σ'.1 (40, 0, 0) 4 = ((s + tWn T s : Nat) : Int) → σ'.1 (40, 0, 0) 5 = σ.1 (40, 0, 0) 5 → σ'.1 (40, 0, 0) 6 = (if tWn T s ≤ 8 then 1 else 4) → (tWn T s ≤ 8 → σ'.2.1 (40, 0, 0) 12 = mN (lw T.1 s (tWn T s))) → Q (.inl none, am_hp σ', t)) : Wp k_X12_goOnRead 1 (76, [some (aR (some (40, 0, 0))), some (aI (iZ c)), some (aI (iZ 0))], [], am_hp σ, t) Q := by
  have h6 := hT.2.1
  have hle := tW_le (T := T) hs
  have he := tW_end (T := T) hs
  refine w_loopS (tWn T s) (fun k c' => ∃ σ1, c' = (76, [some (aR (some (40, 0, 0))), some (aI (iZ c)), some (aI (iZ ((k : Int))))], [], am_hp σ1, t) ∧ TG σ σ1 ∧ σ1.1 (40, 0, 0) = σ.1 (40, 0, 0) ∧ (k ≤ 8 → σ1.2.1 (40, 0, 0) 12 = mN (lw T.1 s k))) ⟨σ, rfl, TG.refl _, rfl, fun _ => h12⟩ (fun k c' hk hI go => ?_) (fun c' hI => ?_)
  · obtain ⟨σ1, rfl, g1, g2, gn⟩ := hI
    have hl := tW_in hk
    have T1 := hT.g g1
    have ch := s_X12_here (t := t) (k := k) T1 (by rw [g2]; exact h4) (by omega) (by omega)
    rw [if_pos hl.1] at ch
    have hb := hT.2.2.1 (s + k)
    have cl := s_X12_isLetter (t := t) (σ := σ1) (x := T.1 (s + k)) (by omega)
    rw [bz_t hl.2] at cl
    have nx : ∀ σ2 : SG, TG σ σ2 → σ2.1 (40, 0, 0) = σ.1 (40, 0, 0) → (k + 1 ≤ 8 → σ2.2.1 (40, 0, 0) 12 = mN (lw T.1 s (k + 1))) → Wp k_X12_goOnRead 1 (115, [some (aR (some (40, 0, 0))), some (aI (iZ c)), some (aI (iZ ((k : Int))))], [], am_hp σ2, t) Q := fun σ2 k1 k2 k3 => b_X12_goOnRead_115 (go _ ⟨σ2, rfl, k1, k2, k3⟩)
    refine b_X12_goOnRead_76 (ch.up (by omega)) (cl.up (by omega)) (by omega) (fun q => by omega) (fun _ => ?_)
    refine b_X12_goOnRead_87 (by omega) (fun q8 => nx σ1 g1 g2 (fun h9 => by omega)) (fun q8 => ?_)
    have hx : T.1 (s + k) - 97 + 1 = (((T.1 (s + k) - 96).toNat : Nat) : Int) := by
      have := hl.2
      omega
    have cw := mN_next (l := lw T.1 s k) (x := (T.1 (s + k) - 96).toNat) (lw_lt k (fun j hj => (tW_in (by omega)).2)) (by rw [lw_len]; omega) (by have := hl.2; omega)
    refine b_X12_goOnRead_93 (ch.up (by omega)) (by omega) (nx _ (g1.trans TG.upJ) (by rw [sJ_1]; exact g2) (fun _ => ?_))
    rw [hx, gn (by omega), cw]
    simp [sJ_21, up_at, lw]
  · obtain ⟨σ1, rfl, g1, g2, gn⟩ := hI
    have T1 := hT.g g1
    have ch := s_X12_here (t := t) (k := tWn T s) T1 (by rw [g2]; exact h4) (by omega) (by omega)
    have cl := s_X12_isLetter (t := t) (σ := σ1) (x := if s + tWn T s < T.2 then T.1 (s + tWn T s) else -1) (hr_rg T1)
    rw [bz_f (fun q => by
      by_cases e : s + tWn T s < T.2
      · rw [if_pos e] at q
        exact he ⟨e, q⟩
      · rw [if_neg e] at q
        omega)] at cl
    have f133 : ∀ z : Int, z = (if tWn T s ≤ 8 then 1 else 4) → Wp k_X12_goOnRead 1 (133, [some (aR (some (40, 0, 0))), some (aI (iZ c)), some (aI (iZ ((tWn T s : Int))))], [aI (iZ z), aR (some (40, 0, 0))], am_hp σ1, t) Q := fun z hz => by
      refine b_X12_goOnRead_133 (b_X12_goOnRead_241 (q _ ((g1.trans (TG.up ⟨by decide, by decide⟩)).trans (TG.up ⟨by decide, by decide⟩)) ?_ ?_ ?_ ?_))
      · simp only [sI_1, up_at, if_true]
        rw [if_neg (by decide), g2, h4]
        omega
      · simp only [sI_1, up_at, if_true]
        rw [if_neg (by decide), if_neg (by decide), g2]
      · simp only [sI_1, up_at, if_true]
        rw [if_neg (by decide)]
        exact hz
      · rw [sI_2, sI_2]
        exact gn
    refine b_X12_goOnRead_76 (ch.up (by omega)) (cl.up (by omega)) (by omega) (fun _ => ?_) (fun q => absurd rfl q)
    refine b_X12_goOnRead_121 (by omega) (fun q8 => b_X12_goOnRead_132 (f133 1 (by rw [if_pos (by omega)]))) (fun q8 => b_X12_goOnRead_128 (f133 4 (by rw [if_neg (by omega)])))
/-- the digits are read -/
theorem l_digits {t : KT} {Q : RS → Prop} {σ : SG} {T : TB} {s : Nat} {c : Int} (hT : TY T σ) (hs : s ≤ T.2) (h4 : σ.1 (40, 0, 0) 4 = s) (h7 : σ.1 (40, 0, 0) 7 = 0) (q : ∀ σ', TG σ σ' → σ'.1 (40, 0, 0) 4 = ((s + tDn T s : Nat) : Int) → σ'.1 (40, 0, 0) 5 = σ.1 (40, 0, 0) 5 → σ'.1 (40, 0, 0) 6 = (if tDn T s ≤ 9 then 2 else 4) → (tDn T s ≤ 9 → σ'.1 (40, 0, 0) 7 = nv T.1 s (tDn T s)) → Q (.inl none, am_hp σ', t)) : Wp k_X12_goOnRead 1 (146, [some (aR (some (40, 0, 0))), some (aI (iZ c)), some (aI (iZ 0))], [], am_hp σ, t) Q := by
  have h6 := hT.2.1
  have hle := tD_le (T := T) hs
  have he := tD_end (T := T) hs
  refine w_loopS (tDn T s) (fun k c' => ∃ σ1, c' = (146, [some (aR (some (40, 0, 0))), some (aI (iZ c)), some (aI (iZ ((k : Int))))], [], am_hp σ1, t) ∧ TG σ σ1 ∧ (∀ j, j ≠ 7 → σ1.1 (40, 0, 0) j = σ.1 (40, 0, 0) j) ∧ (k ≤ 9 → σ1.1 (40, 0, 0) 7 = nv T.1 s k)) ⟨σ, rfl, TG.refl _, fun _ _ => rfl, fun _ => h7⟩ (fun k c' hk hI go => ?_) (fun c' hI => ?_)
  · obtain ⟨σ1, rfl, g1, g2, gn⟩ := hI
    have hl := tD_in hk
    have T1 := hT.g g1
    have ch := s_X12_here (t := t) (k := k) T1 (by rw [g2 4 (by omega)]; exact h4) (by omega) (by omega)
    rw [if_pos hl.1] at ch
    have hb := hT.2.2.1 (s + k)
    have cl := s_X12_isDigit (t := t) (σ := σ1) (x := T.1 (s + k)) (by omega)
    rw [bz_t hl.2] at cl
    have nx : ∀ σ2 : SG, TG σ σ2 → (∀ j, j ≠ 7 → σ2.1 (40, 0, 0) j = σ.1 (40, 0, 0) j) → (k + 1 ≤ 9 → σ2.1 (40, 0, 0) 7 = nv T.1 s (k + 1)) → Wp k_X12_goOnRead 1 (183, [some (aR (some (40, 0, 0))), some (aI (iZ c)), some (aI (iZ ((k : Int))))], [], am_hp σ2, t) Q := fun σ2 k1 k2 k3 => b_X12_goOnRead_183 (go _ ⟨σ2, rfl, k1, k2, k3⟩)
    refine b_X12_goOnRead_146 (ch.up (by omega)) (cl.up (by omega)) (by omega) (fun q => by omega) (fun _ => ?_)
    refine b_X12_goOnRead_157 (by omega) (fun q8 => nx σ1 g1 g2 (fun h9 => by omega)) (fun q8 => ?_)
    refine b_X12_goOnRead_163 (ch.up (by omega)) (nx _ (g1.trans (TG.up ⟨by decide, by decide⟩)) (fun j hj => by rw [sI_1, if_pos rfl, up_at, if_neg hj]; exact g2 j hj) (fun _ => ?_))
    rw [sI_1, if_pos rfl, up_at, if_pos rfl, gn (by omega), nv]
    have := hl.2
    omega
  · obtain ⟨σ1, rfl, g1, g2, gn⟩ := hI
    have T1 := hT.g g1
    have ch := s_X12_here (t := t) (k := tDn T s) T1 (by rw [g2 4 (by omega)]; exact h4) (by omega) (by omega)
    have cl := s_X12_isDigit (t := t) (σ := σ1) (x := if s + tDn T s < T.2 then T.1 (s + tDn T s) else -1) (hr_rg T1)
    rw [bz_f (fun q => by
      by_cases e : s + tDn T s < T.2
      · rw [if_pos e] at q
        exact he ⟨e, q⟩
      · rw [if_neg e] at q
        omega)] at cl
    have f201 : ∀ z : Int, z = (if tDn T s ≤ 9 then 2 else 4) → Wp k_X12_goOnRead 1 (201, [some (aR (some (40, 0, 0))), some (aI (iZ c)), some (aI (iZ ((tDn T s : Int))))], [aI (iZ z), aR (some (40, 0, 0))], am_hp σ1, t) Q := fun z hz => by
      refine b_X12_goOnRead_201 (b_X12_goOnRead_241 (q _ ((g1.trans (TG.up ⟨by decide, by decide⟩)).trans (TG.up ⟨by decide, by decide⟩)) ?_ ?_ ?_ ?_))
      · simp only [sI_1, up_at, if_true]
        rw [if_neg (by decide), g2 4 (by omega), h4]
        omega
      · simp only [sI_1, up_at, if_true]
        rw [if_neg (by decide), if_neg (by decide), g2 5 (by omega)]
      · simp only [sI_1, up_at, if_true]
        rw [if_neg (by decide)]
        exact hz
      · simp only [sI_1, up_at, if_true]
        rw [if_neg (by decide), if_neg (by decide)]
        exact gn
    refine b_X12_goOnRead_146 (ch.up (by omega)) (cl.up (by omega)) (by omega) (fun _ => ?_) (fun q => absurd rfl q)
    refine b_X12_goOnRead_189 (by omega) (fun q8 => b_X12_goOnRead_200 (f201 2 (by rw [if_pos (by omega)]))) (fun q8 => b_X12_goOnRead_196 (f201 4 (by rw [if_neg (by omega)])))
theorem sgK_mK {x : Int} : mK (sgK x) = (if x = 59 ∨ x = 40 ∨ x = 41 then 3 else 4) ∧ (sgK x = 3 → x = 59) ∧ (sgK x = 4 → x = 40) ∧ (sgK x = 5 → x = 41) ∧ 3 ≤ sgK x := by
  unfold sgK
  by_cases h1 : x = 59
  · subst h1; decide
  · rw [if_neg h1]
    by_cases h2 : x = 40
    · subst h2; decide
    · rw [if_neg h2]
      by_cases h3 : x = 41
      · subst h3; decide
      · rw [if_neg h3, if_neg (by omega)]
        exact ⟨rfl, fun q => by omega, fun q => by omega, fun q => by omega, by omega⟩
theorem s_X12_goOnRead {t : KT} {σ : SG} {T : TB} {p : Nat} (hT : TY T σ) (hp : p ≤ T.2) (h4 : σ.1 (40, 0, 0) 4 = p) : ∃ σ', Ca 2 186 [aR (some (40, 0, 0))] (am_hp σ) t (.inl none, am_hp σ', t) ∧ TQ T p σ' ∧ TG σ σ' := by
  have h6 := hT.2.1
  have hsb := tS_bd hp
  refine ex_of (e_X12_goOnRead ?_)
  refine w_loopS (tS T p - p) (fun k c => ∃ σ1, c = (0, [some (aR (some (40, 0, 0))), none, none], [], am_hp σ1, t) ∧ TG σ σ1 ∧ σ1.1 (40, 0, 0) 4 = ((p + k : Nat) : Int)) ⟨σ, rfl, TG.refl _, h4⟩ (fun k c hk hI go => ?_) (fun c hI => ?_)
  · obtain ⟨σ1, rfl, g1, g4⟩ := hI
    have hl := spn_in isB T.1 T.2 (T.2 - p) p (p + k) (by omega) (by have e : tS T p = spn isB T.1 T.2 (T.2 - p) p := rfl; omega)
    have ch := s_here0 (t := t) (hT.g g1) g4 (by omega)
    rw [if_pos hl.1] at ch
    have nx : Wp k_X12_goOnRead 1 (20, [some (aR (some (40, 0, 0))), none, none], [], am_hp σ1, t) _ := b_X12_goOnRead_20 (go _ ⟨_, rfl, g1.trans (TG.up ⟨by decide, by decide⟩), by
      rw [sI_1, if_pos rfl, up_at, if_pos rfl, g4]
      omega⟩)
    have hb := hT.2.2.1 (p + k)
    refine b_X12_goOnRead_0 (ch.up (by omega)) (by omega) (fun _ => nx) (fun q => ?_)
    refine b_X12_goOnRead_10 (ch.up (by omega)) (by omega) (fun q2 => ?_) (fun _ => nx)
    have := hl.2
    omega
  · obtain ⟨σ1, rfl, g1, g4⟩ := hI
    have he := spn_end isB T.1 T.2 (T.2 - p) p (by omega)
    have eS : p + (tS T p - p) = tS T p := by omega
    rw [eS] at g4
    have he : ¬ (tS T p < T.2 ∧ isB (T.1 (tS T p))) := he
    have ch := s_here0 (t := t) (hT.g g1) g4 (by omega)
    have hrg := hr_rg (p := tS T p) (hT.g g1)
    have k1 : TG σ1 (sI (sJ (sI σ1 (40, 0, 0) (up (σ1.1 (40, 0, 0)) 5 (σ1.1 (40, 0, 0) 4))) (40, 0, 0) (up ((sI σ1 (40, 0, 0) (up (σ1.1 (40, 0, 0)) 5 (σ1.1 (40, 0, 0) 4))).2.1 (40, 0, 0)) 12 0)) (40, 0, 0) (up ((sJ (sI σ1 (40, 0, 0) (up (σ1.1 (40, 0, 0)) 5 (σ1.1 (40, 0, 0) 4))) (40, 0, 0) (up ((sI σ1 (40, 0, 0) (up (σ1.1 (40, 0, 0)) 5 (σ1.1 (40, 0, 0) 4))).2.1 (40, 0, 0)) 12 0)).1 (40, 0, 0)) 7 0)) := ((TG.up ⟨by decide, by decide⟩).trans TG.upJ).trans (TG.up ⟨by decide, by decide⟩)
    have k4 : (sI (sJ (sI σ1 (40, 0, 0) (up (σ1.1 (40, 0, 0)) 5 (σ1.1 (40, 0, 0) 4))) (40, 0, 0) (up ((sI σ1 (40, 0, 0) (up (σ1.1 (40, 0, 0)) 5 (σ1.1 (40, 0, 0) 4))).2.1 (40, 0, 0)) 12 0)) (40, 0, 0) (up ((sJ (sI σ1 (40, 0, 0) (up (σ1.1 (40, 0, 0)) 5 (σ1.1 (40, 0, 0) 4))) (40, 0, 0) (up ((sI σ1 (40, 0, 0) (up (σ1.1 (40, 0, 0)) 5 (σ1.1 (40, 0, 0) 4))).2.1 (40, 0, 0)) 12 0)).1 (40, 0, 0)) 7 0)).1 (40, 0, 0) 4 = tS T p := by simp [sI_1, sJ_1, up_at, g4]
    have k5 : (sI (sJ (sI σ1 (40, 0, 0) (up (σ1.1 (40, 0, 0)) 5 (σ1.1 (40, 0, 0) 4))) (40, 0, 0) (up ((sI σ1 (40, 0, 0) (up (σ1.1 (40, 0, 0)) 5 (σ1.1 (40, 0, 0) 4))).2.1 (40, 0, 0)) 12 0)) (40, 0, 0) (up ((sJ (sI σ1 (40, 0, 0) (up (σ1.1 (40, 0, 0)) 5 (σ1.1 (40, 0, 0) 4))) (40, 0, 0) (up ((sI σ1 (40, 0, 0) (up (σ1.1 (40, 0, 0)) 5 (σ1.1 (40, 0, 0) 4))).2.1 (40, 0, 0)) 12 0)).1 (40, 0, 0)) 7 0)).1 (40, 0, 0) 5 = tS T p := by simp [sI_1, sJ_1, up_at, g4]
    have k7 : (sI (sJ (sI σ1 (40, 0, 0) (up (σ1.1 (40, 0, 0)) 5 (σ1.1 (40, 0, 0) 4))) (40, 0, 0) (up ((sI σ1 (40, 0, 0) (up (σ1.1 (40, 0, 0)) 5 (σ1.1 (40, 0, 0) 4))).2.1 (40, 0, 0)) 12 0)) (40, 0, 0) (up ((sJ (sI σ1 (40, 0, 0) (up (σ1.1 (40, 0, 0)) 5 (σ1.1 (40, 0, 0) 4))) (40, 0, 0) (up ((sI σ1 (40, 0, 0) (up (σ1.1 (40, 0, 0)) 5 (σ1.1 (40, 0, 0) 4))).2.1 (40, 0, 0)) 12 0)).1 (40, 0, 0)) 7 0)).1 (40, 0, 0) 7 = 0 := by simp [sI_1, sJ_1, up_at]
    have kJ : (sI (sJ (sI σ1 (40, 0, 0) (up (σ1.1 (40, 0, 0)) 5 (σ1.1 (40, 0, 0) 4))) (40, 0, 0) (up ((sI σ1 (40, 0, 0) (up (σ1.1 (40, 0, 0)) 5 (σ1.1 (40, 0, 0) 4))).2.1 (40, 0, 0)) 12 0)) (40, 0, 0) (up ((sJ (sI σ1 (40, 0, 0) (up (σ1.1 (40, 0, 0)) 5 (σ1.1 (40, 0, 0) 4))) (40, 0, 0) (up ((sI σ1 (40, 0, 0) (up (σ1.1 (40, 0, 0)) 5 (σ1.1 (40, 0, 0) 4))).2.1 (40, 0, 0)) 12 0)).1 (40, 0, 0)) 7 0)).2.1 (40, 0, 0) 12 = 0 := by simp [sI_2, sJ_21, up_at]
    have h33 : Wp k_X12_goOnRead 1 (33, [some (aR (some (40, 0, 0))), none, none], [], am_hp σ1, t) (fun r => ∃ σ', r = (.inl none, am_hp σ', t) ∧ TQ T p σ' ∧ TG σ σ') := by
      refine wq (fun Q hQ => ?_)
      have blk := fun r1 σ2 => b_X12_goOnRead_33 (Q := Q) (d := 1) (σ := σ1) (r1 := r1) (σ1 := σ2) (t := t)
      generalize (sI (sJ (sI σ1 (40, 0, 0) (up (σ1.1 (40, 0, 0)) 5 (σ1.1 (40, 0, 0) 4))) (40, 0, 0) (up ((sI σ1 (40, 0, 0) (up (σ1.1 (40, 0, 0)) 5 (σ1.1 (40, 0, 0) 4))).2.1 (40, 0, 0)) 12 0)) (40, 0, 0) (up ((sJ (sI σ1 (40, 0, 0) (up (σ1.1 (40, 0, 0)) 5 (σ1.1 (40, 0, 0) 4))) (40, 0, 0) (up ((sI σ1 (40, 0, 0) (up (σ1.1 (40, 0, 0)) 5 (σ1.1 (40, 0, 0) 4))).2.1 (40, 0, 0)) 12 0)).1 (40, 0, 0)) 7 0)) = τ at k1 k4 k5 k7 kJ blk
      have gτ := g1.trans k1
      have Tτ := hT.g gτ
      have c0 := s_here0 (t := t) Tτ k4 (by omega)
      have hb := hT.2.2.1 (tS T p)
      by_cases hlt : tS T p < T.2
      · rw [if_pos hlt] at c0
        refine blk _ τ (c0.up (by omega)) (by omega) (fun _ => ?_) (fun q => by omega)
        have cl := s_X12_isLetter (t := t) (σ := τ) (x := T.1 (tS T p)) (by omega)
        by_cases hL : isL (T.1 (tS T p))
        · rw [bz_t hL] at cl
          refine b_X12_goOnRead_69 (cl.up (by omega)) (by omega) (fun q => by omega) (fun _ => ?_)
          have eK : tK T p = if tWn T (tS T p) ≤ 8 then 1 else 6 := by
            unfold tK
            rw [if_neg (by omega), if_pos hL]
          refine l_word Tτ (by omega) k4 kJ (fun σ' f e4 e5 e6 eJ => hQ _ ⟨σ', rfl, ⟨hT.g (gτ.trans f), hp, ?_, ?_, ?_, fun hk => ?_, fun hk => ?_, fun hk => ?_, fun hk => ?_, fun hk => ?_⟩, gτ.trans f⟩)
          · rw [e6, eK]
            by_cases h8 : tWn T (tS T p) ≤ 8
            · rw [if_pos h8, if_pos h8]; rfl
            · rw [if_neg h8, if_neg h8]; rfl
          · rw [e5, k5]
          · rw [e4]
            unfold tE
            rw [if_neg (by omega), if_pos hL]
          · exfalso; rw [eK] at hk; split at hk <;> omega
          · rw [eK] at hk
            exact eJ (by
              by_cases h8 : tWn T (tS T p) ≤ 8
              · exact h8
              · rw [if_neg h8] at hk; omega)
          · exfalso; rw [eK] at hk; split at hk <;> omega
          · exfalso; rw [eK] at hk; split at hk <;> omega
          · exfalso; rw [eK] at hk; split at hk <;> omega
        · rw [bz_f hL] at cl
          have cd' := s_X12_isDigit (t := t) (σ := τ) (x := T.1 (tS T p)) (by omega)
          refine b_X12_goOnRead_69 (cl.up (by omega)) (by omega) (fun _ => ?_) (fun q => absurd rfl q)
          by_cases hD : isD (T.1 (tS T p))
          · rw [bz_t hD] at cd'
            refine b_X12_goOnRead_139 (cd'.up (by omega)) (by omega) (fun q => by omega) (fun _ => ?_)
            have eK : tK T p = if tDn T (tS T p) ≤ 9 then 2 else 6 := by
              unfold tK
              rw [if_neg (by omega), if_neg hL, if_pos hD]
            refine l_digits Tτ (by omega) k4 k7 (fun σ' f e4 e5 e6 eJ => hQ _ ⟨σ', rfl, ⟨hT.g (gτ.trans f), hp, ?_, ?_, ?_, fun hk => ?_, fun hk => ?_, fun hk => ?_, fun hk => ?_, fun hk => ?_⟩, gτ.trans f⟩)
            · rw [e6, eK]
              by_cases h8 : tDn T (tS T p) ≤ 9
              · rw [if_pos h8, if_pos h8]; rfl
              · rw [if_neg h8, if_neg h8]; rfl
            · rw [e5, k5]
            · rw [e4]
              unfold tE
              rw [if_neg (by omega), if_neg hL, if_pos hD]
            · rw [eK] at hk
              exact eJ (by
                by_cases h8 : tDn T (tS T p) ≤ 9
                · exact h8
                · rw [if_neg h8] at hk; omega)
            · exfalso; rw [eK] at hk; split at hk <;> omega
            · exfalso; rw [eK] at hk; split at hk <;> omega
            · exfalso; rw [eK] at hk; split at hk <;> omega
            · exfalso; rw [eK] at hk; split at hk <;> omega
          · rw [bz_f hD] at cd'
            have eK : tK T p = sgK (T.1 (tS T p)) := by
              unfold tK
              rw [if_neg (by omega), if_neg hL, if_neg hD]
            have hsg := sgK_mK (x := T.1 (tS T p))
            refine b_X12_goOnRead_139 (cd'.up (by omega)) (by omega) (fun _ => ?_) (fun q => absurd rfl q)
            have f231 : ∀ z : Int, z = mK (tK T p) → Wp k_X12_goOnRead 1 (231, [some (aR (some (40, 0, 0))), some (aI (iZ (T.1 (tS T p)))), some (aI (iZ 0))], [aI (iZ z), aR (some (40, 0, 0))], am_hp τ, t) Q := fun z hz => by
              have hg : TG τ (sI (sI (sI τ (40, 0, 0) (up (τ.1 (40, 0, 0)) 6 z)) (40, 0, 0) (up ((sI τ (40, 0, 0) (up (τ.1 (40, 0, 0)) 6 z)).1 (40, 0, 0)) 7 (T.1 (tS T p)))) (40, 0, 0) (up ((sI (sI τ (40, 0, 0) (up (τ.1 (40, 0, 0)) 6 z)) (40, 0, 0) (up ((sI τ (40, 0, 0) (up (τ.1 (40, 0, 0)) 6 z)).1 (40, 0, 0)) 7 (T.1 (tS T p)))).1 (40, 0, 0)) 4 ((sI (sI τ (40, 0, 0) (up (τ.1 (40, 0, 0)) 6 z)) (40, 0, 0) (up ((sI τ (40, 0, 0) (up (τ.1 (40, 0, 0)) 6 z)).1 (40, 0, 0)) 7 (T.1 (tS T p)))).1 (40, 0, 0) 4 + 1))) := ((TG.up ⟨by decide, by decide⟩).trans (TG.up ⟨by decide, by decide⟩)).trans (TG.up ⟨by decide, by decide⟩)
              have h7 : (sI (sI (sI τ (40, 0, 0) (up (τ.1 (40, 0, 0)) 6 z)) (40, 0, 0) (up ((sI τ (40, 0, 0) (up (τ.1 (40, 0, 0)) 6 z)).1 (40, 0, 0)) 7 (T.1 (tS T p)))) (40, 0, 0) (up ((sI (sI τ (40, 0, 0) (up (τ.1 (40, 0, 0)) 6 z)) (40, 0, 0) (up ((sI τ (40, 0, 0) (up (τ.1 (40, 0, 0)) 6 z)).1 (40, 0, 0)) 7 (T.1 (tS T p)))).1 (40, 0, 0)) 4 ((sI (sI τ (40, 0, 0) (up (τ.1 (40, 0, 0)) 6 z)) (40, 0, 0) (up ((sI τ (40, 0, 0) (up (τ.1 (40, 0, 0)) 6 z)).1 (40, 0, 0)) 7 (T.1 (tS T p)))).1 (40, 0, 0) 4 + 1))).1 (40, 0, 0) 7 = T.1 (tS T p) := by simp [sI_1, up_at]
              refine b_X12_goOnRead_231 (b_X12_goOnRead_241 (hQ _ ⟨_, rfl, ⟨hT.g (gτ.trans hg), hp, ?_, ?_, ?_, fun hk => ?_, fun hk => ?_, fun hk => ?_, fun hk => ?_, fun hk => ?_⟩, gτ.trans hg⟩))
              · simp [sI_1, up_at, hz]
              · simp [sI_1, up_at, k5]
              · have eE : tE T p = tS T p + 1 := by
                  unfold tE
                  rw [if_neg (by omega), if_neg hL, if_neg hD]
                simp [sI_1, up_at, k4, eE]
              · exfalso; omega
              · exfalso; omega
              · rw [h7]; exact hsg.2.1 (by omega)
              · rw [h7]; exact hsg.2.2.1 (by omega)
              · rw [h7]; exact hsg.2.2.2.1 (by omega)
            have e3 : T.1 (tS T p) = 59 ∨ T.1 (tS T p) = 40 ∨ T.1 (tS T p) = 41 → (3 : Int) = mK (tK T p) := fun q => by rw [eK, hsg.1, if_pos q]
            refine b_X12_goOnRead_207 (by omega) (fun q => b_X12_goOnRead_226 (f231 3 (e3 (by omega)))) (fun q1 => ?_)
            refine b_X12_goOnRead_214 (by omega) (fun q => b_X12_goOnRead_226 (f231 3 (e3 (by omega)))) (fun q2 => ?_)
            refine b_X12_goOnRead_220 (by omega) (fun q => b_X12_goOnRead_230 (f231 4 (by rw [eK, hsg.1, if_neg (by omega)]))) (fun q => b_X12_goOnRead_226 (f231 3 (e3 (by omega))))
      · rw [if_neg hlt] at c0
        refine blk _ τ (c0.up (by omega)) (by omega) (fun q => by omega) (fun _ => ?_)
        have eK : tK T p = 0 := by
          unfold tK
          rw [if_pos (by omega)]
        have eE : tE T p = tS T p := by
          unfold tE
          rw [if_pos (by omega)]
        refine b_X12_goOnRead_63 (hQ _ ⟨_, rfl, ⟨Tτ.g (TG.up ⟨by decide, by decide⟩), hp, ?_, ?_, ?_, fun hk => ?_, fun hk => ?_, fun hk => ?_, fun hk => ?_, fun hk => ?_⟩, gτ.trans (TG.up ⟨by decide, by decide⟩)⟩)
        · rw [eK]; simp [sI_1, up_at, mK]
        · simp [sI_1, up_at, k5]
        · simp [sI_1, up_at, k4, eE]
        all_goals exfalso; omega
    refine b_X12_goOnRead_0 (ch.up (by omega)) hrg (fun q => ?_) (fun _ => b_X12_goOnRead_10 (ch.up (by omega)) hrg (fun _ => h33) (fun q => ?_))
    · exfalso
      by_cases e : tS T p < T.2
      · rw [if_pos e] at q
        exact he ⟨e, Or.inl q⟩
      · rw [if_neg e] at q
        omega
    · exfalso
      by_cases e : tS T p < T.2
      · rw [if_pos e] at q
        exact he ⟨e, Or.inr q⟩
      · rw [if_neg e] at q
        omega
