/-! THE MODEL: numbers are laid, words are weighed and made -/
set_option maxRecDepth 4000
def inQ (L : Lc) : Prop := L.1 = 40 ∨ (48 ≤ L.1 ∧ L.1 ≤ 54)
/-- nothing changes but what packing works with -/
def QF (σ σ' : SG) : Prop := Fr inQ σ σ' ∧ (∀ j, j ≠ 33 → j ≠ 34 → σ'.1 (40, 0, 0) j = σ.1 (40, 0, 0) j) ∧ σ'.2.1 (40, 0, 0) = σ.2.1 (40, 0, 0)
theorem QF.refl (σ : SG) : QF σ σ := ⟨Fr.refl _ _, fun _ _ _ => rfl, rfl⟩
theorem QF.trans {a b c : SG} (h : QF a b) (g : QF b c) : QF a c := ⟨h.1.trans g.1, fun j h1 h2 => by rw [g.2.1 j h1 h2]; exact h.2.1 j h1 h2, by rw [g.2.2]; exact h.2.2⟩
theorem QF.arr {σ : SG} {a : Nat} {f : Nat → Int} (h : 48 ≤ a ∧ a ≤ 54) : QF σ (sI σ (a, 0, 0) f) := ⟨Fr.sI (P := inQ) (Or.inr h), fun j _ _ => by rw [sI_1, if_neg (fun z => absurd (show (40 : Nat) = a from congrArg (fun L : Lc => L.1) z) (by omega))], rfl⟩
theorem QF.obj {σ : SG} {j : Nat} {z : Int} (h : j = 33 ∨ j = 34) : QF σ (sI σ (40, 0, 0) (up (σ.1 (40, 0, 0)) j z)) := ⟨Fr.sI (P := inQ) (Or.inl rfl), fun k h1 h2 => by rw [sI_1, if_pos rfl, up_at, if_neg (by omega)], rfl⟩
theorem MA.q {A : RA} {σ σ' : SG} (h : MA A σ) (f : QF σ σ') : MA A σ' := h.fr f.1 (by unfold inQ; omega)
theorem MC.q {σ σ' : SG} (h : MC σ) (f : QF σ σ') : MC σ' := h.fr f.1 (by unfold inQ; omega) (by unfold inQ; omega)
/-- the first n numbers of f are laid -/
def VL (f : Nat → Int) (n : Nat) (σ : SG) : Prop := σ.1 (40, 0, 0) 33 = n ∧ n ≤ 120 ∧ ∀ i, i < n → σ.1 (48, 0, 0) i = f i ∧ σ.1 (49, 0, 0) i = bts (f i) ∧ (0 ≤ f i ∧ f i < 268435456)
def VP (pr : Nat → Int) (σ : SG) : Prop := ∀ w, w < 9 → σ.1 (50, 0, 0) w = pr w ∧ (0 ≤ pr w ∧ pr w ≤ 99)
theorem VL.fr {f : Nat → Int} {n : Nat} {σ σ' : SG} (h : VL f n σ) (e : σ'.1 (40, 0, 0) 33 = σ.1 (40, 0, 0) 33) (e8 : σ'.1 (48, 0, 0) = σ.1 (48, 0, 0)) (e9 : σ'.1 (49, 0, 0) = σ.1 (49, 0, 0)) : VL f n σ' := by
  unfold VL at h ⊢
  rw [e, e8, e9]
  exact h
theorem VP.fr {pr : Nat → Int} {σ σ' : SG} (h : VP pr σ) (e : σ'.1 (50, 0, 0) = σ.1 (50, 0, 0)) : VP pr σ' := by
  unfold VP at h ⊢
  rw [e]
  exact h
theorem s_X12_laysNumber {t : KT} {σ : SG} {f : Nat → Int} {n : Nat} {x : Int} (h : VL f n σ) (hn : n < 120) (hx : 0 ≤ x ∧ x < 268435456) : ∃ σ', Ca 2 225 [aR (some (40, 0, 0)), aI (iZ x)] (am_hp σ) t (.inl none, am_hp σ', t) ∧ VL (fup f n x) (n + 1) σ' ∧ QF σ σ' ∧ σ'.1 (50, 0, 0) = σ.1 (50, 0, 0) := by
  obtain ⟨h1, h2, h3⟩ := h
  have e3 : (sI σ (48, 0, 0) (up (σ.1 (48, 0, 0)) (σ.1 (40, 0, 0) 33).toNat x)).1 (40, 0, 0) 33 = n := by simp [sI_1, h1]
  refine ex_of (e_X12_laysNumber ?_)
  have c := s_X12_bitsOf (t := t) (σ := (sI σ (48, 0, 0) (up (σ.1 (48, 0, 0)) (σ.1 (40, 0, 0) 33).toNat x))) hx
  refine b_X12_laysNumber_0 (by omega) (c.up (by omega)) (by rw [e3]; omega) ⟨_, rfl, ⟨?_, by omega, fun i hi => ?_⟩, ?_, ?_⟩
  · simp [sI_1, up_at, h1]
  · have hh := h3 i
    have en : (σ.1 (40, 0, 0) 33).toNat = n := by rw [h1]; rfl
    rw [en]
    unfold fup
    by_cases e : i = n
    · subst e
      simp [sI_1, up_at, en, hx, h1]
    · have hh := hh (by omega)
      simp [sI_1, up_at, e, h1, hh.1, hh.2.1, hh.2.2]
  · exact ((QF.arr (by omega)).trans (QF.arr (by omega))).trans (QF.obj (Or.inl rfl))
  · simp [sI_1]
theorem s_X12_laysMore {t : KT} {σ : SG} {f : Nat → Int} {n r : Nat} {A : RA} (hA : MA A σ) (hr : r < rN A) (h : VL f n σ) (hn : n ≤ 60) : ∃ σ', Ca 3 226 [aR (some (40, 0, 0)), aI (iZ ((r : Int)))] (am_hp σ) t (.inl none, am_hp σ', t) ∧ VL (fun i => if i < n then f i else rNu A r (i - n)) (n + rLn A r) σ' ∧ QF σ σ' ∧ σ'.1 (50, 0, 0) = σ.1 (50, 0, 0) := by
  have hl := hA.len hr
  refine ex_of (e_X12_laysMore ?_)
  refine b_X12_laysMore_0 ?_
  refine w_loopS (rLn A r) (fun i c => ∃ σ1, c = (2, [some (aR (some (40, 0, 0))), some (aI (iZ ((r : Int)))), some (aI (iZ ((i : Int))))], [], am_hp σ1, t) ∧ VL (fun i => if i < n then f i else rNu A r (i - n)) (n + i) σ1 ∧ QF σ σ1 ∧ σ1.1 (50, 0, 0) = σ.1 (50, 0, 0)) ⟨σ, rfl, ?_, QF.refl σ, rfl⟩ (fun i c hi hI go => ?_) (fun c hI => ?_)
  · obtain ⟨h1, h2, h3⟩ := h
    refine ⟨h1, h2, fun i hi => ?_⟩
    dsimp only
    rw [if_pos (show i < n by omega)]
    exact h3 i (by omega)
  · obtain ⟨σ1, rfl, g1, g2, g3⟩ := hI
    have A1 := hA.q g2
    have hv := A1.num hr hi
    refine b_X12_laysMore_2 ((s_X12_manyIn A1 hr).up (by omega)) (by omega) (by omega) (fun q => by omega) (fun _ => ?_)
    obtain ⟨σ2, c2, k1, k2, k3⟩ := s_X12_laysNumber (t := t) g1 (by omega) hv.2
    refine b_X12_laysMore_11 ((s_X12_valueAt A1 hr hi).up (by omega)) (c2.up (by omega)) (go _ ⟨σ2, rfl, ?_, g2.trans k2, by rw [k3, g3]⟩)
    have e : fup (fun i => if i < n then f i else rNu A r (i - n)) (n + i) (rNu A r i) = (fun i => if i < n then f i else rNu A r (i - n)) := by
      funext j
      unfold fup
      by_cases e : j = n + i
      · subst e
        rw [if_pos rfl, if_neg (by omega), Nat.add_sub_cancel_left]
      · rw [if_neg e]
    rw [e] at k1
    exact k1
  · obtain ⟨σ1, rfl, g1, g2, g3⟩ := hI
    have A1 := hA.q g2
    exact b_X12_laysMore_2 ((s_X12_manyIn A1 hr).up (by omega)) (by omega) (by omega) (fun _ => b_X12_laysMore_27 ⟨σ1, rfl, g1, g2, g3⟩) (fun q => by omega)
theorem s_X12_lays {t : KT} {σ : SG} {r : Nat} {A : RA} (hA : MA A σ) (hr : r < rN A) : ∃ σ', Ca 4 227 [aR (some (40, 0, 0)), aI (iZ ((r : Int)))] (am_hp σ) t (.inl none, am_hp σ', t) ∧ VL (rNu A r) (rLn A r) σ' ∧ VP (rPr A) σ' ∧ QF σ σ' := by
  have q0 : QF σ (sI σ (40, 0, 0) (up (σ.1 (40, 0, 0)) 33 0)) := QF.obj (Or.inl rfl)
  have v0 : VL (rNu A r) 0 (sI σ (40, 0, 0) (up (σ.1 (40, 0, 0)) 33 0)) := ⟨by simp [sI_1, up_at], by omega, fun i hi => absurd hi (Nat.not_lt_zero i)⟩
  obtain ⟨σ1, c1, g1, g2, g3⟩ := s_X12_laysMore (t := t) (hA.q q0) hr v0 (by omega)
  refine ex_of (e_X12_lays ?_)
  refine b_X12_lays_0 (c1.up (by omega)) ?_
  have q1 := q0.trans g2
  have v1 : VL (rNu A r) (rLn A r) σ1 := by
    have e : (fun i => if i < 0 then rNu A r i else rNu A r (i - 0)) = rNu A r := by
      funext i
      rw [if_neg (Nat.not_lt_zero i), Nat.sub_zero]
    rw [e, Nat.zero_add] at g1
    exact g1
  refine w_loopS 9 (fun i c => ∃ σ2, c = (12, [some (aR (some (40, 0, 0))), some (aI (iZ ((r : Int)))), some (aI (iZ ((i : Int))))], [], am_hp σ2, t) ∧ VL (rNu A r) (rLn A r) σ2 ∧ QF σ σ2 ∧ ∀ w, w < i → σ2.1 (50, 0, 0) w = rPr A w) ⟨σ1, rfl, v1, q1, fun w hw => absurd hw (Nat.not_lt_zero w)⟩ (fun i c hi hI go => ?_) (fun c hI => ?_)
  · obtain ⟨σ2, rfl, k1, k2, k3⟩ := hI
    have A2 := hA.q k2
    have hp : σ2.1 (42, 0, 0) (3 + (i : Int)).toNat = rPr A i := by
      have := A2.2.2.2.2.1 i hi
      rw [Nat.zero_add] at this
      rw [show (3 + (i : Int)).toNat = 3 + i by omega]
      exact this
    refine b_X12_lays_12 (by omega) (fun q => by omega) (fun _ => b_X12_lays_18 (by omega) (by omega) (go _ ⟨_, rfl, k1.fr (by simp [sI_1]) (by simp [sI_1]) (by simp [sI_1]), k2.trans (QF.arr (by omega)), fun w hw => ?_⟩))
    rw [sI_1, if_pos rfl, up_at, hp, Int.toNat_natCast]
    by_cases e : w = i
    · subst e; rw [if_pos rfl]
    · rw [if_neg e]; exact k3 w (by omega)
  · obtain ⟨σ2, rfl, k1, k2, k3⟩ := hI
    exact b_X12_lays_12 (by omega) (fun _ => b_X12_lays_38 ⟨σ2, rfl, k1, fun w hw => ⟨k3 w hw, hA.1.2.2.2.1 w hw⟩, k2⟩) (fun q => by omega)
theorem runF_ge {f : Nat → Int} {w : Nat} : ∀ k i c, c ≤ k → (∀ m, m < c → 0 ≤ f (i + m) ∧ f (i + m) < 2 ^ wid w) → c ≤ runF f w k i
  | 0, i, c, h, _ => by omega
  | k + 1, i, c, h, hm => by
    cases c with
    | zero => exact Nat.zero_le _
    | succ c =>
      unfold runF
      have h0 := hm 0 (by omega)
      rw [Nat.add_zero] at h0
      rw [if_pos h0]
      have := runF_ge k (i + 1) c (by omega) (fun m h2 => by
        have := hm (m + 1) (by omega)
        rw [show i + (m + 1) = i + 1 + m by omega] at this
        exact this)
      omega
theorem tk_iff {f : Nat → Int} {n i w : Nat} (hw : w < 9) (hv : ∀ j, j < n → 0 ≤ f j ∧ f j < 268435456) : tk f n i w ↔ ∀ m, m < min (cnt w) (n - i) → bts (f (i + m)) ≤ wid w := by
  have hwd := wid_bd w hw
  constructor
  · intro h m hm
    rw [bts_le (hv (i + m) (by omega)) (by omega)]
    exact (tk_in h (by omega) (by omega)).2
  · intro h
    refine runF_ge _ _ _ (by omega) (fun m hm => ?_)
    have := h m hm
    rw [bts_le (hv (i + m) (by omega)) (by omega)] at this
    exact ⟨(hv (i + m) (by omega)).1, this⟩
theorem VL.v {f : Nat → Int} {n : Nat} {σ : SG} (h : VL f n σ) : ∀ j, j < n → 0 ≤ f j ∧ f j < 268435456 := fun j hj => (h.2.2 j hj).2.2
theorem s_X12_canTake {t : KT} {σ : SG} {f : Nat → Int} {n i w : Nat} (hC : MC σ) (h : VL f n σ) (hi : i ≤ n) (hw : w < 9) : Ca 1 228 [aR (some (40, 0, 0)), aI (iZ ((i : Int))), aI (iZ ((w : Int)))] (am_hp σ) t (.inl (some (aI (iZ (bz (tk f n i w))))), am_hp σ, t) := by
  have hcb := cnt_bd w hw
  have hwb := wid_bd w hw
  have hc := hC w hw
  have h1 := h.1
  have h2 := h.2.1
  have hv := h.v
  refine ca_of (e_X12_canTake ?_)
  refine b_X12_canTake_0 ?_
  refine w_loop (min (cnt w) (n - i)) (fun k => (2, [some (aR (some (40, 0, 0))), some (aI (iZ ((i : Int)))), some (aI (iZ ((w : Int)))), some (aI (iZ (((i + k : Nat) : Int))))], [], am_hp σ, t)) (fun k => ∀ m, m < k → bts (f (i + m)) ≤ wid w) rfl (fun m hm => absurd hm (Nat.not_lt_zero m)) (fun k hk hI go => ?_) (fun hI => ?_)
  · refine b_X12_canTake_2 (by omega) (by omega) (fun q => by omega) (fun _ => ?_)
    refine b_X12_canTake_10 (by omega) (by omega) (by rw [Int.toNat_natCast, hc.1]; omega) (fun q => by rw [Int.toNat_natCast, hc.1] at q; omega) (fun _ => ?_)
    have hk2 := h.2.2 (i + k) (by omega)
    have hbb := bts_bd (f (i + k))
    refine b_X12_canTake_22 (by omega) (by omega) (by rw [Int.toNat_natCast, hk2.2.1]; omega) (by rw [Int.toNat_natCast, hc.2]; omega) (fun q => ?_) (fun q => ?_)
    · rw [Int.toNat_natCast, Int.toNat_natCast, hk2.2.1, hc.2] at q
      refine b_X12_canTake_39 (go (fun m hm => ?_))
      by_cases e : m = k
      · subst e; omega
      · exact hI m (by omega)
    · rw [Int.toNat_natCast, Int.toNat_natCast, hk2.2.1, hc.2] at q
      refine b_X12_canTake_37 ?_
      rw [bz_f (fun z => by have := (tk_iff hw hv).mp z k hk; omega)]
  · have ht : tk f n i w := (tk_iff hw hv).mpr hI
    rw [bz_t ht]
    refine b_X12_canTake_2 (by omega) (by omega) (fun _ => b_X12_canTake_45 rfl) (fun q => ?_)
    exact b_X12_canTake_10 (by omega) (by omega) (by rw [Int.toNat_natCast, hc.1]; omega) (fun _ => b_X12_canTake_45 rfl) (fun q2 => by rw [Int.toNat_natCast, hc.1] at q2; omega)
theorem s_X12_behind {t : KT} {σ : SG} {f : Nat → Int} {n i w : Nat} (hC : MC σ) (h : VL f n σ) (hi : i ≤ n) (hw : w < 9) : Ca 1 229 [aR (some (40, 0, 0)), aI (iZ ((i : Int))), aI (iZ ((w : Int)))] (am_hp σ) t (.inl (some (aI (iZ (((min (i + cnt w) n : Nat) : Int))))), am_hp σ, t) := by
  have hcb := cnt_bd w hw
  have hc := hC w hw
  have h1 := h.1
  have h2 := h.2.1
  refine ca_of (e_X12_behind ?_)
  refine b_X12_behind_0 (by omega) (by rw [Int.toNat_natCast, hc.1]; omega) (by omega) (fun q => ?_) (fun q => ?_)
  · rw [Int.toNat_natCast, hc.1] at q
    refine b_X12_behind_26 (b_X12_behind_30 ?_)
    rw [h1, show min (i + cnt w) n = n by omega]
  · rw [Int.toNat_natCast, hc.1] at q
    refine b_X12_behind_15 (by omega) (b_X12_behind_30 ?_)
    rw [Int.toNat_natCast, hc.1, show min (i + cnt w) n = i + cnt w by omega]
    rfl
