/-! THE MODEL: rows change -/
set_option maxRecDepth 4000
def in42 (L : Lc) : Prop := L = (42, 0, 0)
theorem MR.row {A : RA} {f g : Nat → Int} {r n : Nat} {h : Nat → Int} (hf : MR A f 0) (hr : r < rN A) (h4 : rN A ≤ 4) (hl : ∀ i, i < rN A → rLn A i ≤ 60) (hn : g (14 + 63 * r) = n) (hv : ∀ j, j < n → g (15 + 63 * r + j) = h j) (ho : ∀ p, (p < 14 + 63 * r ∨ 75 + 63 * r ≤ p) → g p = f p) : MR (A.1, rPr A, rNm A, fup (rLn A) r n, fup (rNu A) r h) g 0 := by
  obtain ⟨h1, h2, h3, h5, h6⟩ := hf
  refine ⟨by rw [ho _ (by omega)]; exact h1, by rw [ho _ (by omega)]; exact h2, by rw [ho _ (by omega)]; exact h3, fun w hw => by rw [ho _ (by omega)]; exact h5 w hw, fun i hi => ?_⟩
  have hi : i < rN A := hi
  obtain ⟨k1, k2, k3, k4⟩ := h6 i hi
  have hli := hl i hi
  by_cases e : i = r
  · subst e
    refine ⟨by rw [ho _ (by omega)]; exact k1, by rw [ho _ (by omega)]; exact k2, ?_, fun j hj => ?_⟩
    · show _ = ((fup (rLn A) i n i : Nat) : Int)
      rw [Nat.zero_add, hn]
      unfold fup
      rw [if_pos rfl]
    · have hj : j < fup (rLn A) i n i := hj
      unfold fup at hj
      rw [if_pos rfl] at hj
      show _ = fup (rNu A) i h i j
      unfold fup
      rw [Nat.zero_add, hv j hj, if_pos rfl]
  · have hne : i < r ∨ r < i := by omega
    refine ⟨by rw [ho _ (by omega)]; exact k1, by rw [ho _ (by omega)]; exact k2, ?_, fun j hj => ?_⟩
    · show _ = ((fup (rLn A) r n i : Nat) : Int)
      unfold fup
      rw [if_neg e, ho _ (by omega)]
      exact k3
    · have hj : j < fup (rLn A) r n i := hj
      unfold fup at hj
      rw [if_neg e] at hj
      show _ = fup (rNu A) r h i j
      unfold fup
      rw [if_neg e, ho _ (by omega)]
      exact k4 j hj
theorem raw_many {t : KT} {σ : SG} {r : Nat} (hr : r < 4) : Ca 2 214 [aR (some (40, 0, 0)), aI (iZ ((r : Int)))] (am_hp σ) t (.inl (some (aI (iZ (σ.1 (42, 0, 0) (14 + 63 * r))))), am_hp σ, t) := by
  refine ca_of (e_X12_manyIn ?_)
  refine b_X12_manyIn_0 (s_X12_base.up (by omega)) (by omega) ?_
  rw [show (((12 + 63 * r : Nat) : Int) + 2).toNat = 14 + 63 * r by omega]
theorem raw_val {t : KT} {σ : SG} {r j : Nat} (hr : r < 4) (hj : j < 60) : Ca 2 215 [aR (some (40, 0, 0)), aI (iZ ((r : Int))), aI (iZ ((j : Int)))] (am_hp σ) t (.inl (some (aI (iZ (σ.1 (42, 0, 0) (15 + 63 * r + j))))), am_hp σ, t) := by
  refine ca_of (e_X12_valueAt ?_)
  refine b_X12_valueAt_0 (s_X12_base.up (by omega)) (by omega) ?_
  rw [show (((12 + 63 * r : Nat) : Int) + 3 + (j : Int)).toNat = 15 + 63 * r + j by omega]
theorem raw_put {t : KT} {σ : SG} {r j : Nat} {v : Int} (hr : r < 4) (hj : j < 60) : Ca 2 216 [aR (some (40, 0, 0)), aI (iZ ((r : Int))), aI (iZ ((j : Int))), aI (iZ v)] (am_hp σ) t (.inl none, am_hp (sI σ (42, 0, 0) (up (σ.1 (42, 0, 0)) (15 + 63 * r + j) v)), t) := by
  refine ca_of (e_X12_putsValue ?_)
  refine b_X12_putsValue_0 (s_X12_base.up (by omega)) (by omega) ?_
  rw [show (((12 + 63 * r : Nat) : Int) + 3 + (j : Int)).toNat = 15 + 63 * r + j by omega]
theorem raw_app {t : KT} {σ : SG} {r n : Nat} {v : Int} (hr : r < 4) (hn : σ.1 (42, 0, 0) (14 + 63 * r) = n) (h6 : n < 60) : ∃ σ', Ca 3 303 [aR (some (40, 0, 0)), aI (iZ ((r : Int))), aI (iZ v)] (am_hp σ) t (.inl none, am_hp σ', t) ∧ Fr in42 σ σ' ∧ ∀ p, σ'.1 (42, 0, 0) p = if p = 14 + 63 * r then (n : Int) + 1 else if p = 15 + 63 * r + n then v else σ.1 (42, 0, 0) p := by
  have cm := raw_many (t := t) (σ := σ) hr
  rw [hn] at cm
  have e2 : (((12 + 63 * r : Nat) : Int) + 2).toNat = 14 + 63 * r := by omega
  have e3 : (sI σ (42, 0, 0) (up (σ.1 (42, 0, 0)) (15 + 63 * r + n) v)).1 (42, 0, 0) (14 + 63 * r) = n := by
    rw [sI_1, if_pos rfl, up_at, if_neg (by omega), hn]
  refine ex_of (e_X12_appends ?_)
  refine b_X12_appends_0 (cm.up (by omega)) ((raw_put hr h6).up (by omega)) (s_X12_base.up (by omega)) (by omega) ⟨_, rfl, (Fr.sI (P := in42) rfl).trans (Fr.sI (P := in42) rfl), fun p => ?_⟩
  rw [e2, e3, sI_1, if_pos rfl, up_at, sI_1, if_pos rfl, up_at]
theorem s_X12_appends {t : KT} {σ : SG} {A : RA} {r : Nat} {v : Int} (hA : MA A σ) (hr : r < rN A) (hl : rLn A r < 60) : ∃ σ', Ca 3 303 [aR (some (40, 0, 0)), aI (iZ ((r : Int))), aI (iZ v)] (am_hp σ) t (.inl none, am_hp σ', t) ∧ MR (insA A r (rLn A r) v) (σ'.1 (42, 0, 0)) 0 ∧ Fr in42 σ σ' := by
  have h4 := hA.1.1
  obtain ⟨σ1, c1, f1, g1⟩ := raw_app (t := t) (v := v) (by omega : r < 4) (hA.len hr).1 hl
  refine ⟨σ1, c1, ?_, f1⟩
  refine MR.row hA.2 hr h4 (fun i hi => hA.1.l hi) (by rw [g1, if_pos rfl]; omega) (fun j hj => ?_) (fun p hp => ?_)
  · rw [g1, if_neg (by omega)]
    by_cases e : j = rLn A r
    · subst e
      rw [if_pos rfl, if_neg (by omega), if_pos rfl]
    · rw [if_neg (by omega), if_pos (by omega)]
      exact (hA.num hr (by omega)).1
  · rw [g1, if_neg (by omega), if_neg (by omega)]
theorem s_X12_putsValue {t : KT} {σ : SG} {A : RA} {r i : Nat} {v : Int} (hA : MA A σ) (hr : r < rN A) (hi : i < rLn A r) : ∃ σ', Ca 2 216 [aR (some (40, 0, 0)), aI (iZ ((r : Int))), aI (iZ ((i : Int))), aI (iZ v)] (am_hp σ) t (.inl none, am_hp σ', t) ∧ MR (putA A r i v) (σ'.1 (42, 0, 0)) 0 ∧ Fr in42 σ σ' := by
  have h4 := hA.1.1
  have hl := hA.len hr
  refine ⟨_, raw_put (by omega) (by omega), ?_, Fr.sI (P := in42) rfl⟩
  have h := MR.row (n := rLn A r) (h := fup (rNu A r) i v) (g := (sI σ (42, 0, 0) (up (σ.1 (42, 0, 0)) (15 + 63 * r + i) v)).1 (42, 0, 0)) hA.2 hr h4 (fun i hi => hA.1.l hi) (by rw [sI_1, if_pos rfl, up_at, if_neg (by omega)]; exact hl.1) (fun j hj => by
    rw [sI_1, if_pos rfl, up_at]
    unfold fup
    by_cases e : j = i
    · subst e; rw [if_pos rfl, if_pos rfl]
    · rw [if_neg (by omega), if_neg e]; exact (hA.num hr hj).1) (fun p hp => by rw [sI_1, if_pos rfl, up_at, if_neg (by omega)])
  have e : fup (rLn A) r (rLn A r) = rLn A := by
    funext j
    unfold fup
    by_cases e : j = r
    · rw [if_pos e, e]
    · rw [if_neg e]
  rw [e] at h
  exact h
theorem s_X12_insertsAt {t : KT} {σ : SG} {A : RA} {r i : Nat} {v : Int} (hA : MA A σ) (hr : r < rN A) (hl : rLn A r < 60) (hi : i ≤ rLn A r) : ∃ σ', Ca 3 304 [aR (some (40, 0, 0)), aI (iZ ((r : Int))), aI (iZ ((i : Int))), aI (iZ v)] (am_hp σ) t (.inl none, am_hp σ', t) ∧ MR (insA A r i v) (σ'.1 (42, 0, 0)) 0 ∧ Fr in42 σ σ' := by
  have h4 := hA.1.1
  have hr4 : r < 4 := by omega
  have hn := (hA.len hr).1
  have cm := raw_many (t := t) (σ := σ) hr4
  rw [hn] at cm
  refine ex_of (e_X12_insertsAt ?_)
  refine b_X12_insertsAt_0 (cm.up (by omega)) ?_
  refine w_loopS (rLn A r - i) (fun m c => ∃ σ1, c = (7, [some (aR (some (40, 0, 0))), some (aI (iZ ((r : Int)))), some (aI (iZ ((i : Int)))), some (aI (iZ v)), some (aI (iZ (((rLn A r - m : Nat) : Int))))], [], am_hp σ1, t) ∧ Fr in42 σ σ1 ∧ ∀ p, σ1.1 (42, 0, 0) p = if 15 + 63 * r + (rLn A r - m) < p ∧ p ≤ 15 + 63 * r + rLn A r then σ.1 (42, 0, 0) (p - 1) else σ.1 (42, 0, 0) p) ⟨σ, rfl, Fr.refl _ _, fun p => by rw [if_neg (by omega)]⟩ (fun m c hm hI go => ?_) (fun c hI => ?_)
  · obtain ⟨σ1, rfl, f1, g1⟩ := hI
    have cv := raw_val (t := t) (σ := σ1) (r := r) (j := rLn A r - m - 1) hr4 (by omega)
    have cp := raw_put (t := t) (σ := σ1) (r := r) (j := rLn A r - m) (v := σ1.1 (42, 0, 0) (15 + 63 * r + (rLn A r - m - 1))) hr4 (by omega)
    refine b_X12_insertsAt_7 (by omega) (by omega) (fun q => by omega) (fun _ => ?_)
    refine b_X12_insertsAt_13 (by rw [show ((rLn A r - m : Nat) : Int) - 1 = ((rLn A r - m - 1 : Nat) : Int) by omega]; exact cv.up (by omega)) (cp.up (by omega)) ?_
    rw [show ((rLn A r - m : Nat) : Int) + -1 = ((rLn A r - (m + 1) : Nat) : Int) by omega]
    refine go _ ⟨_, rfl, f1.trans (Fr.sI (P := in42) rfl), fun p => ?_⟩
    rw [sI_1, if_pos rfl, up_at]
    by_cases e : p = 15 + 63 * r + (rLn A r - m)
    · subst e
      rw [if_pos rfl, if_pos (by omega), g1, if_neg (by omega), show 15 + 63 * r + (rLn A r - m) - 1 = 15 + 63 * r + (rLn A r - m - 1) by omega]
    · rw [if_neg e, g1]
      by_cases q : 15 + 63 * r + (rLn A r - m) < p ∧ p ≤ 15 + 63 * r + rLn A r
      · rw [if_pos q, if_pos (by omega)]
      · rw [if_neg q, if_neg (by omega)]
  · obtain ⟨σ1, rfl, f1, g1⟩ := hI
    have e2 : (((12 + 63 * r : Nat) : Int) + 2).toNat = 14 + 63 * r := by omega
    have cp := raw_put (t := t) (σ := σ1) (r := r) (j := i) (v := v) hr4 (by omega)
    have g14 := g1 (14 + 63 * r)
    rw [if_neg (by omega), hn] at g14
    refine b_X12_insertsAt_7 (by omega) (by omega) (fun _ => ?_) (fun q => by omega)
    refine b_X12_insertsAt_35 (cp.up (by omega)) (s_X12_base.up (by omega)) (by omega) ⟨_, rfl, ?_, (f1.trans (Fr.sI (P := in42) rfl)).trans (Fr.sI (P := in42) rfl)⟩
    have hG : ∀ p, (sI (sI σ1 (42, 0, 0) (up (σ1.1 (42, 0, 0)) (15 + 63 * r + i) v)) (42, 0, 0) (up ((sI σ1 (42, 0, 0) (up (σ1.1 (42, 0, 0)) (15 + 63 * r + i) v)).1 (42, 0, 0)) (((12 + 63 * r : Nat) : Int) + 2).toNat ((sI σ1 (42, 0, 0) (up (σ1.1 (42, 0, 0)) (15 + 63 * r + i) v)).1 (42, 0, 0) (((12 + 63 * r : Nat) : Int) + 2).toNat + 1))).1 (42, 0, 0) p = if p = 14 + 63 * r then (rLn A r : Int) + 1 else if p = 15 + 63 * r + i then v else if 15 + 63 * r + i < p ∧ p ≤ 15 + 63 * r + rLn A r then σ.1 (42, 0, 0) (p - 1) else σ.1 (42, 0, 0) p := fun p => by
      rw [e2, sI_1, if_pos rfl, up_at, sI_1, if_pos rfl, up_at, up_at, if_neg (show 14 + 63 * r ≠ 15 + 63 * r + i by omega), g14, g1 p, show rLn A r - (rLn A r - i) = i by omega]
    refine MR.row hA.2 hr h4 (fun i hi => hA.1.l hi) (by rw [hG, if_pos rfl]; omega) (fun j hj => ?_) (fun p hp => ?_)
    · rw [hG, if_neg (by omega)]
      by_cases e : j = i
      · subst e
        rw [if_pos rfl, if_neg (by omega), if_pos rfl]
      · rw [if_neg (by omega), if_neg e]
        by_cases q : j < i
        · rw [if_neg (by omega), if_pos q]
          exact (hA.num hr (by omega)).1
        · rw [if_pos (by omega), if_neg q, show 15 + 63 * r + j - 1 = 15 + 63 * r + (j - 1) by omega]
          exact (hA.num hr (by omega)).1
    · rw [hG, if_neg (by omega), if_neg (by omega), if_neg (by omega)]
theorem s_X12_removesAt {t : KT} {σ : SG} {A : RA} {r i : Nat} (hA : MA A σ) (hr : r < rN A) (hi : i < rLn A r) : ∃ σ', Ca 3 305 [aR (some (40, 0, 0)), aI (iZ ((r : Int))), aI (iZ ((i : Int)))] (am_hp σ) t (.inl none, am_hp σ', t) ∧ MR (remA A r i) (σ'.1 (42, 0, 0)) 0 ∧ Fr in42 σ σ' := by
  have h4 := hA.1.1
  have hr4 : r < 4 := by omega
  have hn := hA.len hr
  refine ex_of (e_X12_removesAt ?_)
  refine b_X12_removesAt_0 ?_
  refine w_loopS (rLn A r - i - 1) (fun m c => ∃ σ1, c = (4, [some (aR (some (40, 0, 0))), some (aI (iZ ((r : Int)))), some (aI (iZ ((i : Int)))), some (aI (iZ (((i + m : Nat) : Int) + 1)))], [], am_hp σ1, t) ∧ Fr in42 σ σ1 ∧ ∀ p, σ1.1 (42, 0, 0) p = if 15 + 63 * r + i ≤ p ∧ p < 15 + 63 * r + i + m then σ.1 (42, 0, 0) (p + 1) else σ.1 (42, 0, 0) p) ⟨σ, rfl, Fr.refl _ _, fun p => by rw [if_neg (by omega)]⟩ (fun m c hm hI go => ?_) (fun c hI => ?_)
  · obtain ⟨σ1, rfl, f1, g1⟩ := hI
    have cm := raw_many (t := t) (σ := σ1) hr4
    rw [g1 (14 + 63 * r), if_neg (by omega), hn.1] at cm
    have cv := raw_val (t := t) (σ := σ1) (r := r) (j := i + m + 1) hr4 (by omega)
    have cp := raw_put (t := t) (σ := σ1) (r := r) (j := i + m) (v := σ1.1 (42, 0, 0) (15 + 63 * r + (i + m + 1))) hr4 (by omega)
    have e1 : ((i + m : Nat) : Int) + 1 = ((i + m + 1 : Nat) : Int) := by omega
    refine b_X12_removesAt_4 (cm.up (by omega)) (by omega) (by omega) (fun q => by omega) (fun _ => ?_)
    refine b_X12_removesAt_13 (by rw [e1]; exact cv.up (by omega)) (by rw [show ((i + m : Nat) : Int) + 1 - 1 = ((i + m : Nat) : Int) by omega]; exact cp.up (by omega)) ?_
    rw [show ((i + m : Nat) : Int) + 1 + 1 = ((i + (m + 1) : Nat) : Int) + 1 by omega]
    refine go _ ⟨_, rfl, f1.trans (Fr.sI (P := in42) rfl), fun p => ?_⟩
    rw [sI_1, if_pos rfl, up_at]
    by_cases e : p = 15 + 63 * r + (i + m)
    · subst e
      rw [if_pos rfl, if_pos (by omega), g1, if_neg (by omega)]
      rfl
    · rw [if_neg e, g1]
      by_cases q : 15 + 63 * r + i ≤ p ∧ p < 15 + 63 * r + i + m
      · rw [if_pos q, if_pos (by omega)]
      · rw [if_neg q, if_neg (by omega)]
  · obtain ⟨σ1, rfl, f1, g1⟩ := hI
    have cm := raw_many (t := t) (σ := σ1) hr4
    have g14 := g1 (14 + 63 * r)
    rw [if_neg (by omega), hn.1] at g14
    rw [g14] at cm
    have e2 : (((12 + 63 * r : Nat) : Int) + 2).toNat = 14 + 63 * r := by omega
    refine b_X12_removesAt_4 (cm.up (by omega)) (by omega) (by omega) (fun _ => ?_) (fun q => by omega)
    refine b_X12_removesAt_33 (s_X12_base.up (by omega)) (by omega) ⟨_, rfl, ?_, f1.trans (Fr.sI (P := in42) rfl)⟩
    have hG : ∀ p, (sI σ1 (42, 0, 0) (up (σ1.1 (42, 0, 0)) (((12 + 63 * r : Nat) : Int) + 2).toNat (σ1.1 (42, 0, 0) (((12 + 63 * r : Nat) : Int) + 2).toNat - 1))).1 (42, 0, 0) p = if p = 14 + 63 * r then (rLn A r : Int) - 1 else if 15 + 63 * r + i ≤ p ∧ p < 14 + 63 * r + rLn A r then σ.1 (42, 0, 0) (p + 1) else σ.1 (42, 0, 0) p := fun p => by
      rw [e2, sI_1, if_pos rfl, up_at, g14, g1 p, show 15 + 63 * r + i + (rLn A r - i - 1) = 14 + 63 * r + rLn A r by omega]
    refine MR.row hA.2 hr h4 (fun i hi => hA.1.l hi) (by rw [hG, if_pos rfl]; omega) (fun j hj => ?_) (fun p hp => ?_)
    · rw [hG, if_neg (by omega)]
      by_cases q : j < i
      · rw [if_neg (by omega), if_pos q]
        exact (hA.num hr (by omega)).1
      · rw [if_pos (by omega), if_neg q, show 15 + 63 * r + j + 1 = 15 + 63 * r + (j + 1) by omega]
        exact (hA.num hr (by omega)).1
    · rw [hG, if_neg (by omega), if_neg (by omega)]
theorem s_X12_joins {t : KT} {σ : SG} {A : RA} {r s : Nat} (hA : MA A σ) (hr : r < rN A) (hs : s < rN A) (hl : rLn A r + rLn A s ≤ 60) : ∃ σ', Ca 4 306 [aR (some (40, 0, 0)), aI (iZ ((r : Int))), aI (iZ ((s : Int)))] (am_hp σ) t (.inl none, am_hp σ', t) ∧ MR (joiA A r s) (σ'.1 (42, 0, 0)) 0 ∧ Fr in42 σ σ' := by
  have h4 := hA.1.1
  have hr4 : r < 4 := by omega
  have hs4 : s < 4 := by omega
  have hn := hA.len hr
  have hm := hA.len hs
  have cm := raw_many (t := t) (σ := σ) hs4
  rw [hm.1] at cm
  refine ex_of (e_X12_joins ?_)
  refine b_X12_joins_0 (cm.up (by omega)) ?_
  refine w_loopS (rLn A s) (fun k c => ∃ σ1, c = (9, [some (aR (some (40, 0, 0))), some (aI (iZ ((r : Int)))), some (aI (iZ ((s : Int)))), some (aI (iZ ((rLn A s : Int)))), some (aI (iZ ((k : Int))))], [], am_hp σ1, t) ∧ Fr in42 σ σ1 ∧ ∀ p, σ1.1 (42, 0, 0) p = if p = 14 + 63 * r then ((rLn A r + k : Nat) : Int) else if 15 + 63 * r + rLn A r ≤ p ∧ p < 15 + 63 * r + rLn A r + k then σ.1 (42, 0, 0) (15 + 63 * s + (p - (15 + 63 * r + rLn A r))) else σ.1 (42, 0, 0) p) ⟨σ, rfl, Fr.refl _ _, fun p => ?_⟩ (fun k c hk hI go => ?_) (fun c hI => ?_)
  · by_cases e : p = 14 + 63 * r
    · rw [if_pos e, e, hn.1]; rfl
    · rw [if_neg e, if_neg (by omega)]
  · obtain ⟨σ1, rfl, f1, g1⟩ := hI
    have cv := raw_val (t := t) (σ := σ1) (r := s) (j := k) hs4 (by omega)
    have ev : σ1.1 (42, 0, 0) (15 + 63 * s + k) = σ.1 (42, 0, 0) (15 + 63 * s + k) := by
      rw [g1, if_neg (by omega)]
      by_cases e : s = r
      · subst e
        rw [if_neg (by omega)]
      · rw [if_neg (by omega)]
    rw [ev] at cv
    obtain ⟨σ2, c2, f2, g2⟩ := raw_app (t := t) (σ := σ1) (r := r) (n := rLn A r + k) (v := σ.1 (42, 0, 0) (15 + 63 * s + k)) hr4 (by rw [g1, if_pos rfl]) (by omega)
    refine b_X12_joins_9 (by omega) (by omega) (fun q => by omega) (fun _ => b_X12_joins_15 (cv.up (by omega)) (c2.up (by omega)) (go _ ⟨σ2, rfl, f1.trans f2, fun p => ?_⟩))
    rw [g2, g1]
    by_cases e : p = 14 + 63 * r
    · rw [if_pos e, if_pos e]
      omega
    · rw [if_neg e, if_neg e, if_neg e]
      by_cases e2 : p = 15 + 63 * r + (rLn A r + k)
      · rw [if_pos e2, if_pos (by omega), show p - (15 + 63 * r + rLn A r) = k by omega]
      · rw [if_neg e2]
        by_cases q : 15 + 63 * r + rLn A r ≤ p ∧ p < 15 + 63 * r + rLn A r + k
        · rw [if_pos q, if_pos (by omega)]
        · rw [if_neg q, if_neg (by omega)]
  · obtain ⟨σ1, rfl, f1, g1⟩ := hI
    refine b_X12_joins_9 (by omega) (by omega) (fun _ => b_X12_joins_33 ⟨σ1, rfl, ?_, f1⟩) (fun q => by omega)
    refine MR.row hA.2 hr h4 (fun i hi => hA.1.l hi) (by rw [g1, if_pos rfl]) (fun j hj => ?_) (fun p hp => ?_)
    · rw [g1, if_neg (by omega)]
      by_cases q : j < rLn A r
      · rw [if_neg (by omega), if_pos q]
        exact (hA.num hr q).1
      · rw [if_pos (by omega), if_neg q, show 15 + 63 * r + j - (15 + 63 * r + rLn A r) = j - rLn A r by omega]
        exact (hA.num hs (by omega)).1
    · rw [g1, if_neg (by omega), if_neg (by omega)]
