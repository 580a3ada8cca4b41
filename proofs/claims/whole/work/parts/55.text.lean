/-! THE TEXT: tokens as they are meant, and as the class reads them -/
set_option maxRecDepth 4000
abbrev isL (x : Int) : Prop := 97 ≤ x ∧ x ≤ 122
abbrev isD (x : Int) : Prop := 48 ≤ x ∧ x ≤ 57
abbrev isB (x : Int) : Prop := x = 32 ∨ x = 10
/-- the first place from i on that is not of P, or the end -/
def spn (P : Int → Prop) [DecidablePred P] (b : Nat → Int) (n : Nat) : Nat → Nat → Nat
  | 0, i => i
  | k + 1, i => if i < n ∧ P (b i) then spn P b n k (i + 1) else i
theorem spn_ge (P : Int → Prop) [DecidablePred P] (b : Nat → Int) (n : Nat) : ∀ k i, i ≤ spn P b n k i ∧ spn P b n k i ≤ i + k
  | 0, i => by simp [spn]
  | k + 1, i => by
    have := spn_ge P b n k (i + 1)
    unfold spn
    split <;> omega
theorem spn_in (P : Int → Prop) [DecidablePred P] (b : Nat → Int) (n : Nat) : ∀ k i j, i ≤ j → j < spn P b n k i → j < n ∧ P (b j)
  | 0, i, j, h1, h2 => by simp only [spn] at h2; omega
  | k + 1, i, j, h1, h2 => by
    unfold spn at h2
    split at h2
    · rename_i hc
      by_cases e : j = i
      · subst e; exact hc
      · exact spn_in P b n k (i + 1) j (by omega) h2
    · omega
theorem spn_end (P : Int → Prop) [DecidablePred P] (b : Nat → Int) (n : Nat) : ∀ k i, n ≤ i + k → ¬ (spn P b n k i < n ∧ P (b (spn P b n k i)))
  | 0, i, h => by
    unfold spn
    omega
  | k + 1, i, h => by
    unfold spn
    split
    · exact spn_end P b n k (i + 1) (by omega)
    · assumption
/-- the text: its bytes and how many -/
abbrev TB : Type := (Nat → Int) × Nat
def tS (T : TB) (p : Nat) : Nat := spn isB T.1 T.2 (T.2 - p) p
/-- how many letters, digits from s on -/
def tWn (T : TB) (s : Nat) : Nat := spn isL T.1 T.2 (T.2 - s) s - s
def tDn (T : TB) (s : Nat) : Nat := spn isD T.1 T.2 (T.2 - s) s - s
def sgK (x : Int) : Nat := if x = 59 then 3 else if x = 40 then 4 else if x = 41 then 5 else 6
def tK (T : TB) (p : Nat) : Nat := if T.2 ≤ tS T p then 0 else if isL (T.1 (tS T p)) then (if tWn T (tS T p) ≤ 8 then 1 else 6) else if isD (T.1 (tS T p)) then (if tDn T (tS T p) ≤ 9 then 2 else 6) else sgK (T.1 (tS T p))
def tE (T : TB) (p : Nat) : Nat := if T.2 ≤ tS T p then tS T p else if isL (T.1 (tS T p)) then tS T p + tWn T (tS T p) else if isD (T.1 (tS T p)) then tS T p + tDn T (tS T p) else tS T p + 1
/-- the letters from s on -/
def lw (b : Nat → Int) (s : Nat) : Nat → List Nat
  | 0 => []
  | k + 1 => lw b s k ++ [(b (s + k) - 96).toNat]
/-- the value of the digits from s on -/
def nv (b : Nat → Int) (s : Nat) : Nat → Nat
  | 0 => 0
  | k + 1 => nv b s k * 10 + (b (s + k) - 48).toNat
def tL (T : TB) (p : Nat) : List Nat := lw T.1 (tS T p) (tWn T (tS T p))
def tN (T : TB) (p : Nat) : Nat := nv T.1 (tS T p) (tDn T (tS T p))
theorem lw_len (b : Nat → Int) (s : Nat) : ∀ k, (lw b s k).length = k
  | 0 => rfl
  | k + 1 => by rw [lw, List.length_append, lw_len b s k]; rfl
theorem lw_lt {b : Nat → Int} {s : Nat} : ∀ k, (∀ j, j < k → isL (b (s + j))) → ltL (lw b s k)
  | 0, _ => fun x hx => by simp [lw] at hx
  | k + 1, h => fun x hx => by
    rw [lw, List.mem_append, List.mem_singleton] at hx
    rcases hx with hx | hx
    · exact lw_lt k (fun j hj => h j (by omega)) x hx
    · have := h k (by omega)
      omega
theorem nv_lt {b : Nat → Int} {s : Nat} : ∀ k, (∀ j, j < k → isD (b (s + j))) → nv b s k < 10 ^ k
  | 0, _ => by
    show 0 < 1
    decide
  | k + 1, h => by
    have h1 := nv_lt k (fun j hj => h j (by omega))
    have h2 := h k (by omega)
    rw [nv, Nat.pow_succ]
    omega
theorem tW_in {T : TB} {s j : Nat} (h : j < tWn T s) : s + j < T.2 ∧ isL (T.1 (s + j)) := by
  unfold tWn at h
  exact spn_in isL T.1 T.2 (T.2 - s) s (s + j) (by omega) (by omega)
theorem tD_in {T : TB} {s j : Nat} (h : j < tDn T s) : s + j < T.2 ∧ isD (T.1 (s + j)) := by
  unfold tDn at h
  exact spn_in isD T.1 T.2 (T.2 - s) s (s + j) (by omega) (by omega)
theorem tW_end {T : TB} {s : Nat} (h : s ≤ T.2) : ¬ (s + tWn T s < T.2 ∧ isL (T.1 (s + tWn T s))) := by
  have h1 := spn_ge isL T.1 T.2 (T.2 - s) s
  have h2 := spn_end isL T.1 T.2 (T.2 - s) s (by omega)
  unfold tWn
  rw [show s + (spn isL T.1 T.2 (T.2 - s) s - s) = spn isL T.1 T.2 (T.2 - s) s by omega]
  exact h2
theorem tD_end {T : TB} {s : Nat} (h : s ≤ T.2) : ¬ (s + tDn T s < T.2 ∧ isD (T.1 (s + tDn T s))) := by
  have h1 := spn_ge isD T.1 T.2 (T.2 - s) s
  have h2 := spn_end isD T.1 T.2 (T.2 - s) s (by omega)
  unfold tDn
  rw [show s + (spn isD T.1 T.2 (T.2 - s) s - s) = spn isD T.1 T.2 (T.2 - s) s by omega]
  exact h2
theorem tW_le {T : TB} {s : Nat} (h : s ≤ T.2) : s + tWn T s ≤ T.2 := by
  have h1 := spn_ge isL T.1 T.2 (T.2 - s) s
  unfold tWn
  omega
theorem tD_le {T : TB} {s : Nat} (h : s ≤ T.2) : s + tDn T s ≤ T.2 := by
  have h1 := spn_ge isD T.1 T.2 (T.2 - s) s
  unfold tDn
  omega
theorem tW_pos {T : TB} {s : Nat} (h : s < T.2) (hl : isL (T.1 s)) : 1 ≤ tWn T s := by
  have h1 := tW_end (T := T) (s := s) (by omega)
  apply Decidable.byContradiction
  intro hn
  have e : tWn T s = 0 := by omega
  rw [e] at h1
  exact h1 ⟨h, hl⟩
theorem tD_pos {T : TB} {s : Nat} (h : s < T.2) (hl : isD (T.1 s)) : 1 ≤ tDn T s := by
  have h1 := tD_end (T := T) (s := s) (by omega)
  apply Decidable.byContradiction
  intro hn
  have e : tDn T s = 0 := by omega
  rw [e] at h1
  exact h1 ⟨h, hl⟩
theorem tS_bd {T : TB} {p : Nat} (h : p ≤ T.2) : p ≤ tS T p ∧ tS T p ≤ T.2 := by
  have h1 := spn_ge isB T.1 T.2 (T.2 - p) p
  unfold tS
  omega
theorem tE_bd {T : TB} {p : Nat} (h : p ≤ T.2) : tS T p ≤ tE T p ∧ tE T p ≤ T.2 ∧ (tK T p ≠ 0 → tS T p < T.2 ∧ tS T p + 1 ≤ tE T p) := by
  have h1 := tS_bd h
  unfold tE tK
  by_cases h0 : T.2 ≤ tS T p
  · rw [if_pos h0, if_pos h0]
    omega
  · rw [if_neg h0, if_neg h0]
    by_cases hl : isL (T.1 (tS T p))
    · rw [if_pos hl]
      have h2 := tW_pos (T := T) (s := tS T p) (by omega) hl
      have h3 := tW_le (T := T) (s := tS T p) (by omega)
      omega
    · rw [if_neg hl]
      by_cases hd : isD (T.1 (tS T p))
      · rw [if_pos hd]
        have h2 := tD_pos (T := T) (s := tS T p) (by omega) hd
        have h3 := tD_le (T := T) (s := tS T p) (by omega)
        omega
      · rw [if_neg hd]
        omega
theorem sgK_bd (x : Int) : 3 ≤ sgK x ∧ sgK x ≤ 6 := by
  unfold sgK
  split
  · omega
  · split
    · omega
    · split <;> omega
theorem tK_le (T : TB) (p : Nat) : tK T p ≤ 6 := by
  have h := sgK_bd (T.1 (tS T p))
  unfold tK
  split
  · omega
  · split
    · split <;> omega
    · split
      · split <;> omega
      · omega
theorem tK_1 {T : TB} {p : Nat} (h : tK T p = 1) : tS T p < T.2 ∧ isL (T.1 (tS T p)) ∧ tWn T (tS T p) ≤ 8 ∧ ltL (tL T p) ∧ (tL T p).length = tWn T (tS T p) ∧ 1 ≤ tWn T (tS T p) := by
  have hb := sgK_bd (T.1 (tS T p))
  unfold tK at h
  split at h
  · omega
  · split at h
    · rename_i h0 hl
      split at h
      · rename_i h8
        exact ⟨by omega, hl, h8, lw_lt _ (fun j hj => (tW_in hj).2), lw_len _ _ _, tW_pos (by omega) hl⟩
      · omega
    · split at h
      · split at h <;> omega
      · omega
theorem tK_1n {T : TB} {p : Nat} (h : tK T p = 1) : okNm (tL T p) := by
  have h1 := tK_1 h
  exact ⟨by omega, by omega, h1.2.2.2.1⟩
theorem tK_2 {T : TB} {p : Nat} (h : tK T p = 2) : tS T p < T.2 ∧ tN T p < 1000000000 := by
  have hb := sgK_bd (T.1 (tS T p))
  unfold tK at h
  split at h
  · omega
  · split at h
    · split at h <;> omega
    · split at h
      · rename_i h0 hl hd
        split at h
        · rename_i h9
          have h1 := nv_lt (b := T.1) (s := tS T p) (tDn T (tS T p)) (fun j hj => (tD_in hj).2)
          have h2 : ∀ k : Nat, k ≤ 9 → 10 ^ k ≤ 1000000000 := by decide
          have h3 := h2 _ h9
          refine ⟨by omega, ?_⟩
          show nv T.1 (tS T p) (tDn T (tS T p)) < 1000000000
          omega
        · omega
      · omega
-- the class's text
def sg (x : Int) : Int := if x < 128 then x else x - 256
theorem sg_c {x : Int} (h : 0 ≤ x ∧ x ≤ 255) : -128 ≤ sg x ∧ sg x ≤ 127 ∧ (isL (sg x) ↔ isL x) ∧ (isD (sg x) ↔ isD x) ∧ (isB (sg x) ↔ isB x) ∧ (isL x → sg x = x) ∧ (isD x → sg x = x) ∧ sgK (sg x) = sgK x := by
  have e : x < 128 ∧ sg x = x ∨ (128 ≤ x ∧ sg x = x - 256) := by unfold sg; split <;> omega
  have h8 : sgK (sg x) = sgK x := by
    rcases e with ⟨-, e⟩ | ⟨h1, e⟩
    · rw [e]
    · unfold sgK
      rw [if_neg (by omega), if_neg (by omega), if_neg (by omega), if_neg (by omega), if_neg (by omega), if_neg (by omega)]
  refine ⟨by omega, by omega, by omega, by omega, by omega, by omega, by omega, h8⟩
def TX (T : TB) (σ : SG) : Prop := σ.1 (2, 0, 0) 1 = T.2 ∧ T.2 ≤ 600 ∧ (∀ j, 0 ≤ T.1 j ∧ T.1 j ≤ 255) ∧ ∀ j, j < T.2 → σ.1 (3, 0, 0) j = sg (T.1 j)
def inTx (L : Lc) : Prop := L = (2, 0, 0)
/-- nothing but the text's fields has changed, and its fault has not -/
def FT (σ σ' : SG) : Prop := Fr inTx σ σ' ∧ σ'.1 (2, 0, 0) 5 = σ.1 (2, 0, 0) 5 ∧ σ'.1 (2, 0, 0) 6 = σ.1 (2, 0, 0) 6
theorem FT.refl (σ : SG) : FT σ σ := ⟨Fr.refl _ _, rfl, rfl⟩
theorem FT.trans {a b c : SG} (h : FT a b) (k : FT b c) : FT a c := ⟨h.1.trans k.1, k.2.1.trans h.2.1, k.2.2.trans h.2.2⟩
theorem FT.up {σ : SG} {k : Nat} {z : Int} (h : 5 ≠ k ∧ 6 ≠ k) : FT σ (sI σ (2, 0, 0) (up (σ.1 (2, 0, 0)) k z)) := ⟨Fr.sI rfl, by simp [sI_1, up_at, h.1], by simp [sI_1, up_at, h.2]⟩
theorem FT.upJ {σ : SG} {f : Nat → Int} : FT σ (sJ σ (2, 0, 0) f) := ⟨Fr.sJ rfl, rfl, rfl⟩
theorem TX.up {T : TB} {σ : SG} {f : Nat → Int} (h : TX T σ) (hf : f 1 = σ.1 (2, 0, 0) 1) : TX T (sI σ (2, 0, 0) f) := by
  refine ⟨?_, h.2.1, h.2.2.1, fun j hj => ?_⟩
  · simp [sI_1, hf, h.1]
  · have := h.2.2.2 j hj
    simp [sI_1, this]
theorem TX.upJ {T : TB} {σ : SG} {f : Nat → Int} (h : TX T σ) : TX T (sJ σ (2, 0, 0) f) := h
theorem TX.fr {T : TB} {σ σ' : SG} {P : Lc → Prop} (h : TX T σ) (f : Fr P σ σ') (h2 : ¬ P (2, 0, 0)) (h3 : ¬ P (3, 0, 0)) : TX T σ' := by
  unfold TX
  rw [(f.1 _ h2).1, (f.1 _ h3).1]
  exact h
/-- the byte at i, as the class sees it -/
theorem s_X10_byteAt {t : KT} {σ : SG} {T : TB} {i : Nat} (hT : TX T σ) (hi : i ≤ 600) : Ca 1 73 [aR (some (2, 0, 0)), aI (iZ ((i : Int)))] (am_hp σ) t (.inl (some (aI (iZ (if i < T.2 then sg (T.1 i) else 0)))), am_hp σ, t) := by
  obtain ⟨h1, h2, h3, h4⟩ := hT
  refine ca_of (e_X10_byteAt ?_)
  refine b_X10_byteAt_0 (by omega) (fun h => by omega) (fun _ => ?_)
  refine b_X10_byteAt_4 (by omega) (by omega) (fun h => ?_) (fun h => ?_)
  · refine b_X10_byteAt_19 (b_X10_byteAt_29 ?_)
    rw [if_neg (by omega)]
  · refine b_X10_byteAt_12 (by omega) (fun _ => ?_) (fun h => by omega)
    refine b_X10_byteAt_23 (by omega) (b_X10_byteAt_29 ?_)
    rw [if_pos (by omega), Int.toNat_natCast, h4 i (by omega)]
theorem s_X10_isLetter {t : KT} {σ : SG} {x : Int} (hx : -2147483648 ≤ x ∧ x < 2147483648) : Ca 1 74 [aI (iZ x)] (am_hp σ) t (.inl (some (aI (iZ (bz (isL x))))), am_hp σ, t) := by
  refine ca_of (e_X10_isLetter ?_)
  refine b_X10_isLetter_0 hx (fun h => b_X10_isLetter_16 (b_X10_isLetter_17 (by omega) ?_)) (fun h => b_X10_isLetter_6 hx (fun h => b_X10_isLetter_16 (b_X10_isLetter_17 (by omega) ?_)) (fun h => b_X10_isLetter_12 (b_X10_isLetter_17 (by omega) ?_)))
  · rw [bz_f (by omega)]
  · rw [bz_f (by omega)]
  · rw [bz_t (by omega)]
theorem s_X10_isDigit {t : KT} {σ : SG} {x : Int} (hx : -2147483648 ≤ x ∧ x < 2147483648) : Ca 1 75 [aI (iZ x)] (am_hp σ) t (.inl (some (aI (iZ (bz (isD x))))), am_hp σ, t) := by
  refine ca_of (e_X10_isDigit ?_)
  refine b_X10_isDigit_0 hx (fun h => b_X10_isDigit_16 (b_X10_isDigit_17 (by omega) ?_)) (fun h => b_X10_isDigit_6 hx (fun h => b_X10_isDigit_16 (b_X10_isDigit_17 (by omega) ?_)) (fun h => b_X10_isDigit_12 (b_X10_isDigit_17 (by omega) ?_)))
  · rw [bz_f (by omega)]
  · rw [bz_f (by omega)]
  · rw [bz_t (by omega)]
theorem s_X10_isBlank {t : KT} {σ : SG} {x : Int} (hx : -2147483648 ≤ x ∧ x < 2147483648) : Ca 1 76 [aI (iZ x)] (am_hp σ) t (.inl (some (aI (iZ (bz (isB x))))), am_hp σ, t) := by
  refine ca_of (e_X10_isBlank ?_)
  refine b_X10_isBlank_0 hx (fun h => b_X10_isBlank_12 (b_X10_isBlank_17 (by omega) ?_)) (fun h => b_X10_isBlank_6 hx (fun h => b_X10_isBlank_16 (b_X10_isBlank_17 (by omega) ?_)) (fun h => b_X10_isBlank_12 (b_X10_isBlank_17 (by omega) ?_)))
  · rw [bz_t (by omega)]
  · rw [bz_f (by omega)]
  · rw [bz_t (by omega)]
theorem s_X10_kindOfSign {t : KT} {σ : SG} {x : Int} (hx : -2147483648 ≤ x ∧ x < 2147483648) : Ca 1 80 [aI (iZ x)] (am_hp σ) t (.inl (some (aI (iZ ((sgK x : Int))))), am_hp σ, t) := by
  refine ca_of (e_X10_kindOfSign ?_)
  refine b_X10_kindOfSign_0 hx (fun h => b_X10_kindOfSign_38 ?_) (fun h => b_X10_kindOfSign_40 ?_) (fun h => b_X10_kindOfSign_36 ?_) (fun h => b_X10_kindOfSign_42 ?_)
  · subst h; rfl
  · subst h; rfl
  · subst h; rfl
  · unfold sgK
    rw [if_neg (by omega), if_neg (by omega), if_neg (by omega)]
    rfl
/-- a word is taken from s on -/
theorem s_X10_takeWord {t : KT} {σ : SG} {T : TB} {s : Nat} (hT : TX T σ) (hs : s ≤ T.2) (h7 : σ.1 (2, 0, 0) 7 = s) (h8 : σ.1 (2, 0, 0) 8 = s) : ∃ σ', Ca 2 81 [aR (some (2, 0, 0))] (am_hp σ) t (.inl none, am_hp σ', t) ∧ TX T σ' ∧ FT σ σ' ∧ σ'.1 (2, 0, 0) 2 = (if tWn T s = 0 ∨ 8 < tWn T s then 6 else 1) ∧ σ'.1 (2, 0, 0) 7 = s ∧ σ'.1 (2, 0, 0) 8 = ((s + tWn T s : Nat) : Int) ∧ (tWn T s ≤ 8 → σ'.2.1 (2, 0, 0) 4 = cNm (lw T.1 s (tWn T s))) := by
  have h6 := hT.2.1
  refine ex_of (e_X10_takeWord ?_)
  refine b_X10_takeWord_0 ?_
  refine w_loopS (tWn T s) (fun k c => ∃ σ1, c = (5, [some (aR (some (2, 0, 0)))], [], am_hp σ1, t) ∧ TX T σ1 ∧ FT σ σ1 ∧ σ1.1 (2, 0, 0) 7 = s ∧ σ1.1 (2, 0, 0) 8 = ((s + k : Nat) : Int) ∧ (k ≤ 8 → σ1.2.1 (2, 0, 0) 4 = cNm (lw T.1 s k))) ⟨_, rfl, hT.upJ, FT.upJ, by rw [sJ_1, h7], by rw [sJ_1, h8]; rfl, fun _ => by simp [sJ_21, up_at, lw, cNm]⟩ (fun k c hk hI go => ?_) (fun c hI => ?_)
  · obtain ⟨σ1, rfl, g1, g2, g7, g8, gn⟩ := hI
    have hl := tW_in hk
    have hsg := sg_c (g1.2.2.1 (s + k))
    have e1 := g1.1
    have cb := s_X10_byteAt (t := t) (i := s + k) g1 (by omega)
    rw [if_pos hl.1] at cb
    have cl := s_X10_isLetter (t := t) (σ := σ1) (x := sg (T.1 (s + k))) (by omega)
    have h77 := fun (σ2 : SG) (k1 : TX T σ2) (k2 : FT σ σ2) (k7 : σ2.1 (2, 0, 0) 7 = s) (k8 : σ2.1 (2, 0, 0) 8 = ((s + k : Nat) : Int)) (kn : k + 1 ≤ 8 → σ2.2.1 (2, 0, 0) 4 = cNm (lw T.1 s (k + 1))) => b_X10_takeWord_77 (d := 1) (σ := σ2) (t := t) (go _ ⟨_, rfl, k1.up (by simp [up_at]), k2.trans (FT.up ⟨by decide, by decide⟩), by simp [sI_1, up_at, k7], by
      simp only [sI_1, up_at, if_true, k8]
      omega, by rw [sI_2]; exact kn⟩)
    refine b_X10_takeWord_5 (by omega) (by omega) (fun h => by omega) (fun _ => ?_)
    rw [← g8] at cb
    refine b_X10_takeWord_16 (cb.up (by omega)) (cl.up (by omega)) bz_rg (fun h => absurd (hsg.2.2.1.mpr hl.2) (bz_0.mp h)) (fun _ => ?_)
    refine b_X10_takeWord_30 (by omega) (fun h => ?_) (fun h => ?_)
    · exact h77 σ1 g1 g2 g7 g8 (fun h9 => by omega)
    · have hk8 : k < 8 := by omega
      have hx : sg (T.1 (s + k)) - 97 + 1 = (((T.1 (s + k) - 96).toNat : Nat) : Int) := by
        rw [hsg.2.2.2.2.2.1 hl.2]
        have := hl.2
        omega
      have cw := s_X11_withLetter (t := t) (σ := σ1) (l := lw T.1 s k) (x := (T.1 (s + k) - 96).toNat) (lw_lt k (fun j hj => (tW_in (by omega)).2)) (by rw [lw_len]; exact hk8) (by have := hl.2; omega)
      rw [lw_len] at cw
      refine b_X10_takeWord_44 (r1 := sg (T.1 (s + k))) (σ1 := σ1) (r2 := cNm (lw T.1 s (k + 1))) (σ2 := σ1) (cb.up (by omega)) ?_ ?_
      · rw [gn (by omega), g8, g7, hx, show ((s + k : Nat) : Int) - (s : Int) = (k : Int) by omega]
        exact cw.up (by omega)
      · exact h77 _ g1.upJ (g2.trans (FT.upJ)) (by rw [sJ_1, g7]) (by rw [sJ_1, g8]) (fun _ => by simp [sJ_21, up_at])
  · obtain ⟨σ1, rfl, g1, g2, g7, g8, gn⟩ := hI
    have e1 := g1.1
    have hle := tW_le (T := T) hs
    have he := tW_end (T := T) hs
    have h122 : ∀ z : Int, z = (if tWn T s = 0 ∨ 8 < tWn T s then 6 else 1) → Wp k_X10_takeWord 1 (122, [some (aR (some (2, 0, 0)))], [aI (iZ z), aR (some (2, 0, 0))], am_hp σ1, t) (fun r => ∃ σ', r = (.inl none, am_hp σ', t) ∧ TX T σ' ∧ FT σ σ' ∧ σ'.1 (2, 0, 0) 2 = (if tWn T s = 0 ∨ 8 < tWn T s then 6 else 1) ∧ σ'.1 (2, 0, 0) 7 = s ∧ σ'.1 (2, 0, 0) 8 = ((s + tWn T s : Nat) : Int) ∧ (tWn T s ≤ 8 → σ'.2.1 (2, 0, 0) 4 = cNm (lw T.1 s (tWn T s)))) := by
      intro z hz
      subst hz
      exact b_X10_takeWord_122 ⟨_, rfl, g1.up (by simp [up_at]), g2.trans (FT.up ⟨by decide, by decide⟩), by simp [sI_1, up_at], by simp [sI_1, up_at, g7], by simp [sI_1, up_at, g8], by rw [sI_2]; exact gn⟩
    have h90 : Wp k_X10_takeWord 1 (90, [some (aR (some (2, 0, 0)))], [], am_hp σ1, t) (fun r => ∃ σ', r = (.inl none, am_hp σ', t) ∧ TX T σ' ∧ FT σ σ' ∧ σ'.1 (2, 0, 0) 2 = (if tWn T s = 0 ∨ 8 < tWn T s then 6 else 1) ∧ σ'.1 (2, 0, 0) 7 = s ∧ σ'.1 (2, 0, 0) 8 = ((s + tWn T s : Nat) : Int) ∧ (tWn T s ≤ 8 → σ'.2.1 (2, 0, 0) 4 = cNm (lw T.1 s (tWn T s)))) := by
      refine b_X10_takeWord_90 (by omega) (by omega) (fun h => ?_) (fun h => ?_)
      · exact b_X10_takeWord_116 (h122 _ (by rw [if_pos (by omega)]))
      · refine b_X10_takeWord_102 (by omega) (fun h2 => ?_) (fun h2 => ?_)
        · exact b_X10_takeWord_121 (h122 _ (by rw [if_neg (by omega)]))
        · exact b_X10_takeWord_116 (h122 _ (by rw [if_pos (by omega)]))
    refine b_X10_takeWord_5 (by omega) (by omega) (fun _ => h90) (fun h => ?_)
    have hlt : s + tWn T s < T.2 := by omega
    have hsg := sg_c (g1.2.2.1 (s + tWn T s))
    have cb := s_X10_byteAt (t := t) (i := s + tWn T s) g1 (by omega)
    rw [if_pos hlt, ← g8] at cb
    have cl := s_X10_isLetter (t := t) (σ := σ1) (x := sg (T.1 (s + tWn T s))) (by omega)
    exact b_X10_takeWord_16 (cb.up (by omega)) (cl.up (by omega)) bz_rg (fun _ => h90) (fun h => absurd ⟨hlt, hsg.2.2.1.mp (bz_n.mp h)⟩ he)
/-- a number is taken from s on -/
theorem s_X10_takeNumber {t : KT} {σ : SG} {T : TB} {s : Nat} (hT : TX T σ) (hs : s ≤ T.2) (h7 : σ.1 (2, 0, 0) 7 = s) (h8 : σ.1 (2, 0, 0) 8 = s) : ∃ σ', Ca 2 82 [aR (some (2, 0, 0))] (am_hp σ) t (.inl none, am_hp σ', t) ∧ TX T σ' ∧ FT σ σ' ∧ σ'.1 (2, 0, 0) 2 = (if tDn T s ≤ 9 then 2 else 6) ∧ σ'.1 (2, 0, 0) 7 = s ∧ σ'.1 (2, 0, 0) 8 = ((s + tDn T s : Nat) : Int) ∧ (tDn T s ≤ 9 → σ'.1 (2, 0, 0) 3 = nv T.1 s (tDn T s)) := by
  have h6 := hT.2.1
  refine ex_of (e_X10_takeNumber ?_)
  refine b_X10_takeNumber_0 ?_
  refine w_loopS (tDn T s) (fun k c => ∃ σ1, c = (5, [some (aR (some (2, 0, 0)))], [], am_hp σ1, t) ∧ TX T σ1 ∧ FT σ σ1 ∧ σ1.1 (2, 0, 0) 7 = s ∧ σ1.1 (2, 0, 0) 8 = ((s + k : Nat) : Int) ∧ (k ≤ 9 → σ1.1 (2, 0, 0) 3 = nv T.1 s k)) ⟨_, rfl, hT.up (by simp [up_at]), FT.up ⟨by decide, by decide⟩, by simp [sI_1, up_at, h7], by simp [sI_1, up_at, h8], fun _ => by simp [sI_1, up_at, nv]⟩ (fun k c hk hI go => ?_) (fun c hI => ?_)
  · obtain ⟨σ1, rfl, g1, g2, g7, g8, gn⟩ := hI
    have hl := tD_in hk
    have hsg := sg_c (g1.2.2.1 (s + k))
    have e1 := g1.1
    have cb := s_X10_byteAt (t := t) (i := s + k) g1 (by omega)
    rw [if_pos hl.1, ← g8] at cb
    have cl := s_X10_isDigit (t := t) (σ := σ1) (x := sg (T.1 (s + k))) (by omega)
    have h67 := fun (σ2 : SG) (k1 : TX T σ2) (k2 : FT σ σ2) (k7 : σ2.1 (2, 0, 0) 7 = s) (k8 : σ2.1 (2, 0, 0) 8 = ((s + k : Nat) : Int)) (kn : k + 1 ≤ 9 → σ2.1 (2, 0, 0) 3 = nv T.1 s (k + 1)) => b_X10_takeNumber_67 (d := 1) (σ := σ2) (t := t) (go _ ⟨_, rfl, k1.up (by simp [up_at]), k2.trans (FT.up ⟨by decide, by decide⟩), by simp [sI_1, up_at, k7], by
      simp only [sI_1, up_at, if_true, k8]
      omega, fun h9 => by simp [sI_1, up_at, kn h9]⟩)
    refine b_X10_takeNumber_5 (by omega) (by omega) (fun h => by omega) (fun _ => ?_)
    refine b_X10_takeNumber_16 (cb.up (by omega)) (cl.up (by omega)) bz_rg (fun h => absurd (hsg.2.2.2.1.mpr hl.2) (bz_0.mp h)) (fun _ => ?_)
    refine b_X10_takeNumber_30 (by omega) (fun h => ?_) (fun h => ?_)
    · exact h67 σ1 g1 g2 g7 g8 (fun h9 => by omega)
    · refine b_X10_takeNumber_44 (cb.up (by omega)) ?_
      refine h67 _ (g1.up (by simp [up_at])) (g2.trans (FT.up ⟨by decide, by decide⟩)) (by simp [sI_1, up_at, g7]) (by simp [sI_1, up_at, g8]) (fun _ => ?_)
      have hd := hl.2
      have hs2 := hsg.2.2.2.2.2.2.1 hl.2
      have hn := gn (by omega)
      simp only [sI_1, up_at, if_true, hn, hs2, nv]
      omega
  · obtain ⟨σ1, rfl, g1, g2, g7, g8, gn⟩ := hI
    have e1 := g1.1
    have hle := tD_le (T := T) hs
    have he := tD_end (T := T) hs
    have h101 : ∀ z : Int, z = (if tDn T s ≤ 9 then 2 else 6) → Wp k_X10_takeNumber 1 (101, [some (aR (some (2, 0, 0)))], [aI (iZ z), aR (some (2, 0, 0))], am_hp σ1, t) (fun r => ∃ σ', r = (.inl none, am_hp σ', t) ∧ TX T σ' ∧ FT σ σ' ∧ σ'.1 (2, 0, 0) 2 = (if tDn T s ≤ 9 then 2 else 6) ∧ σ'.1 (2, 0, 0) 7 = s ∧ σ'.1 (2, 0, 0) 8 = ((s + tDn T s : Nat) : Int) ∧ (tDn T s ≤ 9 → σ'.1 (2, 0, 0) 3 = nv T.1 s (tDn T s))) := by
      intro z hz
      subst hz
      exact b_X10_takeNumber_101 ⟨_, rfl, g1.up (by simp [up_at]), g2.trans (FT.up ⟨by decide, by decide⟩), by simp [sI_1, up_at], by simp [sI_1, up_at, g7], by simp [sI_1, up_at, g8], fun h9 => by simp [sI_1, up_at, gn h9]⟩
    have h80 : Wp k_X10_takeNumber 1 (80, [some (aR (some (2, 0, 0)))], [], am_hp σ1, t) (fun r => ∃ σ', r = (.inl none, am_hp σ', t) ∧ TX T σ' ∧ FT σ σ' ∧ σ'.1 (2, 0, 0) 2 = (if tDn T s ≤ 9 then 2 else 6) ∧ σ'.1 (2, 0, 0) 7 = s ∧ σ'.1 (2, 0, 0) 8 = ((s + tDn T s : Nat) : Int) ∧ (tDn T s ≤ 9 → σ'.1 (2, 0, 0) 3 = nv T.1 s (tDn T s))) := by
      refine b_X10_takeNumber_80 (by omega) (fun h => ?_) (fun h => ?_)
      · exact b_X10_takeNumber_100 (h101 _ (by rw [if_pos (by omega)]))
      · exact b_X10_takeNumber_95 (h101 _ (by rw [if_neg (by omega)]))
    refine b_X10_takeNumber_5 (by omega) (by omega) (fun _ => h80) (fun h => ?_)
    have hlt : s + tDn T s < T.2 := by omega
    have hsg := sg_c (g1.2.2.1 (s + tDn T s))
    have cb := s_X10_byteAt (t := t) (i := s + tDn T s) g1 (by omega)
    rw [if_pos hlt, ← g8] at cb
    have cl := s_X10_isDigit (t := t) (σ := σ1) (x := sg (T.1 (s + tDn T s))) (by omega)
    exact b_X10_takeNumber_16 (cb.up (by omega)) (cl.up (by omega)) bz_rg (fun _ => h80) (fun h => absurd ⟨hlt, hsg.2.2.2.1.mp (bz_n.mp h)⟩ he)
/-- the reading stands behind the token that is read from p on -/
def TT (T : TB) (p : Nat) (σ : SG) : Prop := TX T σ ∧ p ≤ T.2 ∧ σ.1 (2, 0, 0) 2 = tK T p ∧ σ.1 (2, 0, 0) 7 = tS T p ∧ σ.1 (2, 0, 0) 8 = tE T p ∧ (tK T p = 2 → σ.1 (2, 0, 0) 3 = tN T p) ∧ (tK T p = 1 → σ.2.1 (2, 0, 0) 4 = cNm (tL T p))
theorem TT.fr {T : TB} {p : Nat} {σ σ' : SG} {P : Lc → Prop} (h : TT T p σ) (f : Fr P σ σ') (h2 : ¬ P (2, 0, 0)) (h3 : ¬ P (3, 0, 0)) : TT T p σ' := by
  refine ⟨h.1.fr f h2 h3, h.2.1, ?_⟩
  rw [(f.1 _ h2).1, (f.1 _ h2).2.1]
  exact h.2.2
theorem s_X10_advance {t : KT} {σ : SG} {T : TB} {p : Nat} (hT : TX T σ) (hp : p ≤ T.2) (h8 : σ.1 (2, 0, 0) 8 = p) : ∃ σ', Ca 3 79 [aR (some (2, 0, 0))] (am_hp σ) t (.inl none, am_hp σ', t) ∧ TT T p σ' ∧ FT σ σ' := by
  have h6 := hT.2.1
  have hsb := tS_bd hp
  refine ex_of (e_X10_advance ?_)
  refine w_loopS (tS T p - p) (fun k c => ∃ σ1, c = (0, [some (aR (some (2, 0, 0)))], [], am_hp σ1, t) ∧ TX T σ1 ∧ FT σ σ1 ∧ σ1.1 (2, 0, 0) 8 = ((p + k : Nat) : Int)) ⟨σ, rfl, hT, FT.refl _, h8⟩ (fun k c hk hI go => ?_) (fun c hI => ?_)
  · obtain ⟨σ1, rfl, g1, g2, g8⟩ := hI
    have hl := spn_in isB T.1 T.2 (T.2 - p) p (p + k) (by omega) (by have e : tS T p = spn isB T.1 T.2 (T.2 - p) p := rfl; omega)
    have hsg := sg_c (g1.2.2.1 (p + k))
    have e1 := g1.1
    have cb := s_X10_byteAt (t := t) (i := p + k) g1 (by omega)
    rw [if_pos hl.1, ← g8] at cb
    have cl := s_X10_isBlank (t := t) (σ := σ1) (x := sg (T.1 (p + k))) (by omega)
    refine b_X10_advance_0 (by omega) (by omega) (fun h => by omega) (fun _ => ?_)
    refine b_X10_advance_11 (cb.up (by omega)) (cl.up (by omega)) bz_rg (fun h => absurd (hsg.2.2.2.2.1.mpr hl.2) (bz_0.mp h)) (fun _ => ?_)
    refine b_X10_advance_25 (go _ ⟨_, rfl, g1.up (by simp [up_at]), g2.trans (FT.up ⟨by decide, by decide⟩), ?_⟩)
    simp only [sI_1, up_at, if_true, g8]
    omega
  · obtain ⟨σ1, rfl, g1, g2, g8⟩ := hI
    have e1 := g1.1
    have he := spn_end isB T.1 T.2 (T.2 - p) p (by omega)
    have eS : p + (tS T p - p) = tS T p := by omega
    rw [eS] at g8
    have h38 : Wp k_X10_advance 2 (38, [some (aR (some (2, 0, 0)))], [], am_hp σ1, t) (fun r => ∃ σ', r = (.inl none, am_hp σ', t) ∧ TT T p σ' ∧ FT σ σ') := by
      have k1 : TX T (sI σ1 (2, 0, 0) (up (σ1.1 (2, 0, 0)) 7 (σ1.1 (2, 0, 0) 8))) := g1.up (by simp [up_at])
      have k2 : FT σ (sI σ1 (2, 0, 0) (up (σ1.1 (2, 0, 0)) 7 (σ1.1 (2, 0, 0) 8))) := g2.trans (FT.up ⟨by decide, by decide⟩)
      have k7 : (sI σ1 (2, 0, 0) (up (σ1.1 (2, 0, 0)) 7 (σ1.1 (2, 0, 0) 8))).1 (2, 0, 0) 7 = tS T p := by simp [sI_1, up_at, g8]
      have k8 : (sI σ1 (2, 0, 0) (up (σ1.1 (2, 0, 0)) 7 (σ1.1 (2, 0, 0) 8))).1 (2, 0, 0) 8 = tS T p := by simp [sI_1, up_at, g8]
      have k9 := k1.1
      refine b_X10_advance_38 (by omega) (by omega) ?_ ?_
      all_goals generalize sI σ1 (2, 0, 0) (up (σ1.1 (2, 0, 0)) 7 (σ1.1 (2, 0, 0) 8)) = σ2 at k1 k2 k7 k8 k9 ⊢
      · intro h
        have hlt : tS T p < T.2 := by omega
        have hsg := sg_c (k1.2.2.1 (tS T p))
        have cb := s_X10_byteAt (t := t) (i := tS T p) k1 (by omega)
        rw [if_pos hlt, ← k8] at cb
        have cl := s_X10_isLetter (t := t) (σ := σ2) (x := sg (T.1 (tS T p))) (by omega)
        have cd := s_X10_isDigit (t := t) (σ := σ2) (x := sg (T.1 (tS T p))) (by omega)
        refine b_X10_advance_65 (cb.up (by omega)) (cl.up (by omega)) bz_rg (fun h => ?_) (fun h => ?_)
        · have hnl : ¬ isL (T.1 (tS T p)) := fun q => bz_0.mp h (hsg.2.2.1.mpr q)
          refine b_X10_advance_86 (cb.up (by omega)) (cd.up (by omega)) bz_rg (fun h => ?_) (fun h => ?_)
          · have hnd : ¬ isD (T.1 (tS T p)) := fun q => bz_0.mp h (hsg.2.2.2.1.mpr q)
            have ck := s_X10_kindOfSign (t := t) (σ := σ2) (x := sg (T.1 (tS T p))) (by omega)
            rw [hsg.2.2.2.2.2.2.2] at ck
            have eK : tK T p = sgK (T.1 (tS T p)) := by
              unfold tK
              rw [if_neg (by omega), if_neg hnl, if_neg hnd]
            have hkb := sgK_bd (T.1 (tS T p))
            have eE : tE T p = tS T p + 1 := by
              unfold tE
              rw [if_neg (by omega), if_neg hnl, if_neg hnd]
            refine b_X10_advance_107 (cb.up (by omega)) (ck.up (by omega)) (b_X10_advance_132 ⟨_, rfl, ⟨(k1.up (by simp [up_at])).up (by simp [up_at]), hp, ?_, ?_, ?_, fun h2 => by omega, fun h2 => by omega⟩, (k2.trans (FT.up ⟨by decide, by decide⟩)).trans (FT.up ⟨by decide, by decide⟩)⟩)
            · simp [sI_1, up_at, eK]
            · simp [sI_1, up_at, k7]
            · simp [sI_1, up_at, k8, eE]
          · have hd : isD (T.1 (tS T p)) := hsg.2.2.2.1.mp (bz_n.mp h)
            obtain ⟨σ3, c3, q1, q2, q3, q7, q8, qn⟩ := s_X10_takeNumber (t := t) k1 (by omega) k7 k8
            have eK : tK T p = if tDn T (tS T p) ≤ 9 then 2 else 6 := by
              unfold tK
              rw [if_neg (by omega), if_neg hnl, if_pos hd]
            have eE : tE T p = tS T p + tDn T (tS T p) := by
              unfold tE
              rw [if_neg (by omega), if_neg hnl, if_pos hd]
            refine b_X10_advance_100 (c3.up (by omega)) (b_X10_advance_132 ⟨σ3, rfl, ⟨q1, hp, ?_, q7, by rw [q8, eE], fun h2 => ?_, fun h2 => ?_⟩, k2.trans q2⟩)
            · rw [q3, eK]
              split <;> rfl
            · rw [eK] at h2
              exact qn (by
                apply Decidable.byContradiction
                intro q
                rw [if_neg q] at h2
                omega)
            · rw [eK] at h2
              split at h2 <;> omega
        · have hl : isL (T.1 (tS T p)) := hsg.2.2.1.mp (bz_n.mp h)
          obtain ⟨σ3, c3, q1, q2, q3, q7, q8, qn⟩ := s_X10_takeWord (t := t) k1 (by omega) k7 k8
          have hpos := tW_pos (T := T) (s := tS T p) hlt hl
          have eK : tK T p = if tWn T (tS T p) ≤ 8 then 1 else 6 := by
            unfold tK
            rw [if_neg (by omega), if_pos hl]
          have eE : tE T p = tS T p + tWn T (tS T p) := by
            unfold tE
            rw [if_neg (by omega), if_pos hl]
          refine b_X10_advance_79 (c3.up (by omega)) (b_X10_advance_132 ⟨σ3, rfl, ⟨q1, hp, ?_, q7, by rw [q8, eE], fun h2 => ?_, fun h2 => ?_⟩, k2.trans q2⟩)
          · rw [q3, eK]
            by_cases h9 : tWn T (tS T p) ≤ 8
            · rw [if_pos h9, if_neg (by omega)]
              rfl
            · rw [if_neg h9, if_pos (by omega)]
              rfl
          · rw [eK] at h2
            split at h2 <;> omega
          · rw [eK] at h2
            exact qn (by
              apply Decidable.byContradiction
              intro q
              rw [if_neg q] at h2
              omega)
      · intro h
        have hge : T.2 ≤ tS T p := by omega
        have eK : tK T p = 0 := if_pos hge
        have eE : tE T p = tS T p := if_pos hge
        refine b_X10_advance_57 (b_X10_advance_132 ⟨_, rfl, ⟨k1.up (by simp [up_at]), hp, by simp [sI_1, up_at, eK], by simp [sI_1, up_at, k7], by simp [sI_1, up_at, k8, eE], fun h2 => by omega, fun h2 => by omega⟩, k2.trans (FT.up ⟨by decide, by decide⟩)⟩)
    refine b_X10_advance_0 (by omega) (by omega) (fun _ => h38) (fun h => ?_)
    have hlt : tS T p < T.2 := by omega
    have hsg := sg_c (g1.2.2.1 (tS T p))
    have cb := s_X10_byteAt (t := t) (i := tS T p) g1 (by omega)
    rw [if_pos hlt, ← g8] at cb
    have cl := s_X10_isBlank (t := t) (σ := σ1) (x := sg (T.1 (tS T p))) (by omega)
    exact b_X10_advance_11 (cb.up (by omega)) (cl.up (by omega)) bz_rg (fun _ => h38) (fun h => absurd ⟨hlt, hsg.2.2.2.2.1.mp (bz_n.mp h)⟩ he)
