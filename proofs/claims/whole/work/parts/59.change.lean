/-! CHANGES: what stands against them, what they do -/
set_option maxRecDepth 4000
/-- against putting v at i in row x -/
def inV (A : RA) (x i v : Int) : Nat := if ¬ (isR A x ∧ 0 ≤ i ∧ i ≤ rLn A x.toNat) then 1 else if ¬ (0 ≤ v ∧ v ≤ 268435455) then 2 else if 60 ≤ rLn A x.toNat then 103 else 0
/-- what stands against command c: 0 nothing, 1 and 2 exceptions, else a refusal -/
def vdA (A : RA) (c : Nat) (nm : List Nat) (x y i v : Int) : Nat :=
  if c = 0 then (if 4 ≤ rN A then 101 else if nm = [] ∨ rwA A nm ≠ -1 then 102 else 0)
  else if c = 1 then inV A x (if isR A x then (rLn A x.toNat : Int) else 0) v
  else if c = 2 then (if isN A x i then (if 0 ≤ v ∧ v ≤ 268435455 then 0 else 2) else 1)
  else if c = 3 then inV A x i v
  else if c = 4 then (if isN A x i then 0 else 1)
  else if c = 5 then (if ¬ (isR A x ∧ isR A y) then 1 else if 60 < rLn A x.toNat + rLn A y.toNat then 103 else 0)
  else if c = 6 then (if 0 ≤ v ∧ v ≤ 2 then 0 else 2)
  else if c = 7 then (if 1 ≤ v ∧ v ≤ 9 then 0 else 2)
  else if c = 8 then (if ¬ (0 ≤ i ∧ i < 9) then 1 else if 0 ≤ v ∧ v ≤ 99 then 0 else 2)
  else 2
def doA (A : RA) (c : Nat) (nm : List Nat) (x y i v : Int) : RA :=
  if c = 0 then addA A nm else if c = 1 then insA A x.toNat (rLn A x.toNat) v else if c = 2 then putA A x.toNat i.toNat v else if c = 3 then insA A x.toNat i.toNat v else if c = 4 then remA A x.toNat i.toNat else if c = 5 then joiA A x.toNat y.toNat else if c = 6 then ruA A v.toNat else if c = 7 then skA A v.toNat else priA A i.toNat v
theorem inV_0 {A : RA} {x i v : Int} (h : inV A x i v = 0) : isR A x ∧ (0 ≤ i ∧ i ≤ rLn A x.toNat) ∧ (0 ≤ v ∧ v ≤ 268435455) ∧ rLn A x.toNat < 60 := by
  unfold inV at h
  split at h
  · omega
  · rename_i h1
    split at h
    · omega
    · rename_i h2
      split at h
      · omega
      · rename_i h3
        exact ⟨(Decidable.not_not.mp h1).1, (Decidable.not_not.mp h1).2, Decidable.not_not.mp h2, by omega⟩
theorem Av_put {A : RA} (h : Av A) {r i : Nat} {v : Int} (hv : 0 ≤ v ∧ v < 268435456) : Av (putA A r i v) := by
  obtain ⟨⟨n, ru, sk⟩, pr, nm, ln, nu⟩ := A
  obtain ⟨h1, h2, h3, h4, h5⟩ := h
  refine ⟨h1, h2, h3, h4, fun j hj => ⟨(h5 j hj).1, (h5 j hj).2.1, fun m hm => ?_⟩⟩
  have b : 0 ≤ nu j m ∧ nu j m < 268435456 := (h5 j hj).2.2 m hm
  show 0 ≤ fup nu r (fup (nu r) i v) j m ∧ fup nu r (fup (nu r) i v) j m < 268435456
  unfold fup
  split
  · rename_i e
    subst e
    show 0 ≤ (if m = i then v else nu j m) ∧ (if m = i then v else nu j m) < 268435456
    split
    · exact hv
    · exact b
  · exact b
theorem Av_rem {A : RA} (h : Av A) {r i : Nat} (hi : i < rLn A r) : Av (remA A r i) := by
  obtain ⟨⟨n, ru, sk⟩, pr, nm, ln, nu⟩ := A
  obtain ⟨h1, h2, h3, h4, h5⟩ := h
  refine ⟨h1, h2, h3, h4, fun j hj => ?_⟩
  have b := h5 j hj
  have b2 : ln j ≤ 60 := b.2.1
  have hi : i < ln r := hi
  refine ⟨b.1, ?_, fun m hm => ?_⟩
  · show fup ln r (ln r - 1) j ≤ 60
    unfold fup
    split
    · rename_i e
      subst e
      omega
    · exact b2
  · have hm : m < fup ln r (ln r - 1) j := hm
    show 0 ≤ fup nu r (fun q => if q < i then nu r q else nu r (q + 1)) j m ∧ fup nu r (fun q => if q < i then nu r q else nu r (q + 1)) j m < 268435456
    unfold fup at hm ⊢
    have b3 : ∀ q, q < ln j → 0 ≤ nu j q ∧ nu j q < 268435456 := b.2.2
    by_cases e : j = r
    · subst e
      rw [if_pos rfl] at hm ⊢
      try dsimp only
      split
      · exact b3 m (by omega)
      · exact b3 (m + 1) (by omega)
    · rw [if_neg e] at hm ⊢
      exact b3 m hm
theorem Av_joi {A : RA} (h : Av A) {r s : Nat} (hs : s < rN A) (hl : rLn A r + rLn A s ≤ 60) : Av (joiA A r s) := by
  obtain ⟨⟨n, ru, sk⟩, pr, nm, ln, nu⟩ := A
  obtain ⟨h1, h2, h3, h4, h5⟩ := h
  refine ⟨h1, h2, h3, h4, fun j hj => ?_⟩
  have b := h5 j hj
  have hl : ln r + ln s ≤ 60 := hl
  have b2 : ln j ≤ 60 := b.2.1
  refine ⟨b.1, ?_, fun m hm => ?_⟩
  · show fup ln r (ln r + ln s) j ≤ 60
    unfold fup
    split
    · exact hl
    · exact b2
  · have hm : m < fup ln r (ln r + ln s) j := hm
    show 0 ≤ fup nu r (fun q => if q < ln r then nu r q else nu s (q - ln r)) j m ∧ fup nu r (fun q => if q < ln r then nu r q else nu s (q - ln r)) j m < 268435456
    unfold fup at hm ⊢
    have b3 : ∀ q, q < ln j → 0 ≤ nu j q ∧ nu j q < 268435456 := b.2.2
    have b4 : ∀ q, q < ln s → 0 ≤ nu s q ∧ nu s q < 268435456 := (h5 s hs).2.2
    by_cases e : j = r
    · subst e
      rw [if_pos rfl] at hm ⊢
      try dsimp only
      split
      · exact b3 m (by omega)
      · exact b4 _ (by omega)
    · rw [if_neg e] at hm ⊢
      exact b3 m hm
theorem Av_do {A : RA} (h : Av A) {c : Nat} {nm : List Nat} {x y i v : Int} (hv : vdA A c nm x y i v = 0) (hn : c = 0 → ltL nm ∧ nm.length ≤ 8) : Av (doA A c nm x y i v) := by
  unfold vdA at hv
  unfold doA
  by_cases e0 : c = 0
  · rw [if_pos e0] at hv ⊢
    split at hv
    · omega
    · split at hv
      · omega
      · rename_i h1 h2
        have hne : nm ≠ [] := fun q => h2 (Or.inl q)
        refine Av_add h (by omega) ⟨?_, (hn e0).2, (hn e0).1⟩
        cases nm with
        | nil => exact absurd rfl hne
        | cons a l => simp
  · rw [if_neg e0] at hv ⊢
    by_cases e1 : c = 1
    · rw [if_pos e1] at hv ⊢
      have hi := inV_0 hv
      exact Av_ins h (by omega) (Nat.le_refl _) hi.2.2.2 (by omega)
    · rw [if_neg e1] at hv ⊢
      by_cases e2 : c = 2
      · rw [if_pos e2] at hv ⊢
        split at hv
        · split at hv
          · exact Av_put h (by omega)
          · omega
        · omega
      · rw [if_neg e2] at hv ⊢
        by_cases e3 : c = 3
        · rw [if_pos e3] at hv ⊢
          have hi := inV_0 hv
          exact Av_ins h (by omega) (by omega) hi.2.2.2 (by omega)
        · rw [if_neg e3] at hv ⊢
          by_cases e4 : c = 4
          · rw [if_pos e4] at hv ⊢
            split at hv
            · exact Av_rem h (by omega)
            · omega
          · rw [if_neg e4] at hv ⊢
            by_cases e5 : c = 5
            · rw [if_pos e5] at hv ⊢
              split at hv
              · omega
              · split at hv
                · omega
                · rename_i h1 h2
                  have h1 := Decidable.not_not.mp h1
                  exact Av_joi h (by omega) (by omega)
            · rw [if_neg e5] at hv ⊢
              by_cases e6 : c = 6
              · rw [if_pos e6] at hv ⊢
                split at hv
                · exact Av_ru h (by omega)
                · omega
              · rw [if_neg e6] at hv ⊢
                by_cases e7 : c = 7
                · rw [if_pos e7] at hv ⊢
                  split at hv
                  · exact Av_sk h (by omega)
                  · omega
                · rw [if_neg e7] at hv ⊢
                  by_cases e8 : c = 8
                  · rw [if_pos e8] at hv
                    split at hv
                    · omega
                    · split at hv
                      · exact Av_pri h (by omega)
                      · omega
                  · rw [if_neg e8] at hv
                    omega
-- the class's verdicts
theorem s_X11_verdictOnRange {t : KT} {σ : SG} {v a b : Int} (hv : -2147483648 ≤ v ∧ v < 2147483648) (ha : -2147483648 ≤ a ∧ a < 2147483648) (hb : -2147483648 ≤ b ∧ b < 2147483648) : Ca 1 171 [aI (iZ v), aI (iZ a), aI (iZ b)] (am_hp σ) t (.inl (some (aI (iZ (((if a ≤ v ∧ v ≤ b then 0 else 2 : Nat) : Int))))), am_hp σ, t) := by
  refine ca_of (e_X11_verdictOnRange ?_)
  refine b_X11_verdictOnRange_0 hv ha (fun h => ?_) (fun h => ?_)
  · rw [if_neg (by omega)]
    exact b_X11_verdictOnRange_10 (b_X11_verdictOnRange_15 rfl)
  · refine b_X11_verdictOnRange_5 hv hb (fun h => ?_) (fun h => ?_)
    · rw [if_pos (by omega)]
      exact b_X11_verdictOnRange_14 (b_X11_verdictOnRange_15 rfl)
    · rw [if_neg (by omega)]
      exact b_X11_verdictOnRange_10 (b_X11_verdictOnRange_15 rfl)
theorem s_X11_verdictOnNew {t : KT} {σ : SG} {A : RA} {nm : List Nat} (hA : Av A) (hR : Rep A σ 0) (hn : ltL nm) (h8 : nm.length ≤ 8) : Ca 2 168 [aR (some (1, 0, 0)), aL (jZ (cNm nm))] (am_hp σ) t (.inl (some (aI (iZ (((if 4 ≤ rN A then 101 else if nm = [] ∨ rwA A nm ≠ -1 then 102 else 0 : Nat) : Int))))), am_hp σ, t) := by
  have e4 := hR.1
  have h4 := hA.1
  have hc := cN_8 hn h8
  have hb := rwA_bd A nm
  have key : ycmp (cNm nm) 0 = 0 ↔ nm = [] := by
    rw [ycmp_0 (by rw [cNm_eq]; omega) (by omega)]
    have e : (0 : Int) = cNm [] := rfl
    rw [e, cNm_inj hn (fun x hx => by simp at hx)]
  refine ca_of (e_X11_verdictOnNew ?_)
  refine b_X11_verdictOnNew_0 (by omega) (fun h => ?_) (fun h => ?_)
  · rw [if_neg (by omega)]
    refine b_X11_verdictOnNew_14 ycmp_rg (fun h => ?_) (fun h => ?_)
    · rw [if_pos (Or.inl (key.mp h))]
      exact b_X11_verdictOnNew_32 (b_X11_verdictOnNew_38 rfl)
    · refine b_X11_verdictOnNew_20 ((s_X7_rowNm hA hR hn h8).up (by omega)) (by omega) (fun h2 => ?_) (fun h2 => ?_)
      · rw [if_neg (fun q => q.elim (fun z => h (key.mpr z)) (fun z => z h2))]
        exact b_X11_verdictOnNew_37 (b_X11_verdictOnNew_38 rfl)
      · rw [if_pos (Or.inr h2)]
        exact b_X11_verdictOnNew_32 (b_X11_verdictOnNew_38 rfl)
  · rw [if_pos (by omega)]
    exact b_X11_verdictOnNew_11 rfl
theorem s_X7_hasR {t : KT} {σ : SG} {A : RA} {p : Nat} {x : Int} (hA : Av A) (hR : Rep A σ p) (hx : -2147483648 ≤ x ∧ x < 2147483648) : Ca 1 43 [aR (some (8, p, 0)), aI (iZ x)] (am_hp σ) t (.inl (some (aI (iZ (bz (isR A x))))), am_hp σ, t) := by
  have h4 := hA.1
  have e4 := hR.1
  have h := s_X7_has (d := 0) (t := t) (σ := σ) (p := p) (x := x) hx (by omega)
  rw [e4] at h
  exact h
theorem s_X7_lenR {t : KT} {σ : SG} {A : RA} {p : Nat} {x : Int} (hA : Av A) (hR : Rep A σ p) (hx : -2147483648 ≤ x ∧ x < 2147483648) : Ca 2 44 [aR (some (8, p, 0)), aI (iZ x)] (am_hp σ) t (.inl (some (aI (iZ (if isR A x then (rLn A x.toNat : Int) else 0)))), am_hp σ, t) := by
  have h4 := hA.1
  have e4 := hR.1
  have h := s_X7_lengthOf (d := 0) (t := t) (σ := σ) (p := p) (x := x) hx (by omega)
  by_cases hc : isR A x
  · rw [if_pos hc]
    rw [if_pos (by omega), (hR.2.2.2.2 x.toNat (by omega)).2.1] at h
    exact h
  · rw [if_neg hc]
    rw [if_neg (by omega)] at h
    exact h
theorem s_X11_verdictOnInsert {t : KT} {σ : SG} {A : RA} {x i v : Int} (hA : Av A) (hR : Rep A σ 0) (hx : -2147483648 ≤ x ∧ x < 2147483648) (hi : -2147483648 ≤ i ∧ i < 2147483648) (hv : -2147483648 ≤ v ∧ v < 2147483648) : Ca 3 169 [aR (some (1, 0, 0)), aI (iZ x), aI (iZ i), aI (iZ v)] (am_hp σ) t (.inl (some (aI (iZ ((inV A x i v : Int))))), am_hp σ, t) := by
  have cl := s_X7_lenR (t := t) hA hR hx
  refine ca_of (e_X11_verdictOnInsert ?_)
  unfold inV
  refine b_X11_verdictOnInsert_0 ((s_X7_hasR hA hR hx).up (by omega)) bz_rg (fun h => ?_) (fun h => ?_)
  · rw [if_pos (fun q => bz_0.mp h q.1)]
    exact b_X11_verdictOnInsert_27 rfl
  · have hc := bz_n.mp h
    have hl := hA.l (r := x.toNat) (by omega)
    rw [if_pos hc] at cl
    refine b_X11_verdictOnInsert_11 hi (fun h => ?_) (fun h => ?_)
    · rw [if_pos (by omega)]
      exact b_X11_verdictOnInsert_27 rfl
    · refine b_X11_verdictOnInsert_15 (cl.up (by omega)) hi (by omega) (fun h => ?_) (fun h => ?_)
      · rw [if_neg (fun q => q ⟨hc, by omega, h⟩)]
        refine b_X11_verdictOnInsert_29 hv (fun h => ?_) (fun h => ?_)
        · rw [if_pos (by omega)]
          exact b_X11_verdictOnInsert_40 rfl
        · refine b_X11_verdictOnInsert_33 hv (fun h => ?_) (fun h => ?_)
          · rw [if_neg (by omega)]
            refine b_X11_verdictOnInsert_42 (cl.up (by omega)) (by omega) (fun h => ?_) (fun h => ?_)
            · rw [if_neg (by omega)]
              exact b_X11_verdictOnInsert_60 (b_X11_verdictOnInsert_61 rfl)
            · rw [if_pos (by omega)]
              exact b_X11_verdictOnInsert_55 (b_X11_verdictOnInsert_61 rfl)
          · rw [if_pos (by omega)]
            exact b_X11_verdictOnInsert_40 rfl
      · rw [if_pos (by omega)]
        exact b_X11_verdictOnInsert_27 rfl
theorem s_X11_verdictOnJoin {t : KT} {σ : SG} {A : RA} {x y : Int} (hA : Av A) (hR : Rep A σ 0) (hx : -2147483648 ≤ x ∧ x < 2147483648) (hy : -2147483648 ≤ y ∧ y < 2147483648) : Ca 3 170 [aR (some (1, 0, 0)), aI (iZ x), aI (iZ y)] (am_hp σ) t (.inl (some (aI (iZ (((if ¬ (isR A x ∧ isR A y) then 1 else if 60 < rLn A x.toNat + rLn A y.toNat then 103 else 0 : Nat) : Int))))), am_hp σ, t) := by
  have cl := s_X7_lenR (t := t) hA hR hx
  have cl2 := s_X7_lenR (t := t) hA hR hy
  refine ca_of (e_X11_verdictOnJoin ?_)
  refine b_X11_verdictOnJoin_0 ((s_X7_hasR hA hR hx).up (by omega)) bz_rg (fun h => ?_) (fun h => ?_)
  · rw [if_pos (fun q => bz_0.mp h q.1)]
    exact b_X11_verdictOnJoin_22 rfl
  · have hc := bz_n.mp h
    have hl := hA.l (r := x.toNat) (by omega)
    rw [if_pos hc] at cl
    refine b_X11_verdictOnJoin_11 ((s_X7_hasR hA hR hy).up (by omega)) bz_rg (fun h => ?_) (fun h => ?_)
    · have hc2 := bz_n.mp h
      have hl2 := hA.l (r := y.toNat) (by omega)
      rw [if_pos hc2] at cl2
      rw [if_neg (fun q => q ⟨hc, hc2⟩)]
      refine b_X11_verdictOnJoin_24 (cl.up (by omega)) (cl2.up (by omega)) (by omega) (fun h => ?_) (fun h => ?_)
      · rw [if_neg (by omega)]
        exact b_X11_verdictOnJoin_51 (b_X11_verdictOnJoin_52 rfl)
      · rw [if_pos (by omega)]
        exact b_X11_verdictOnJoin_46 (b_X11_verdictOnJoin_52 rfl)
    · rw [if_pos (fun q => bz_0.mp h q.2)]
      exact b_X11_verdictOnJoin_22 rfl
theorem swm_eq : swmZ 0 = 1 ∧ swmZ 1 = 2 ∧ swmZ 2 = 4 ∧ swmZ 3 = 3 ∧ swmZ 4 = 5 ∧ swmZ 5 = 6 ∧ swmZ 6 = 7 ∧ swmZ 7 = 8 ∧ swmZ 8 = 9 ∧ swmZ 9 = 0 := by decide
/-- the fields of a change are ints -/
def KI (σ : SG) (k : Nat) : Prop := ∀ j, 3 ≤ j → j ≤ 7 → -2147483648 ≤ σ.1 (7, k, 0) j ∧ σ.1 (7, k, 0) j < 2147483648
theorem s_X11_verdictOn {t : KT} {σ : SG} {A : RA} {k c : Nat} {nm : List Nat} (hA : Av A) (hR : Rep A σ 0) (hK : KI σ k) (hc : σ.2.2.2.1 (7, k, 0) = c) (hc9 : c < 10) (hn : c = 0 → σ.2.1 (7, k, 0) 1 = cNm nm ∧ ltL nm ∧ nm.length ≤ 8) : Ca 4 167 [aR (some (1, 0, 0)), aR (some (7, k, 0))] (am_hp σ) t (.inl (some (aI (iZ ((vdA A c nm (σ.1 (7, k, 0) 3) (σ.1 (7, k, 0) 4) (σ.1 (7, k, 0) 5) (σ.1 (7, k, 0) 6) : Int))))), am_hp σ, t) := by
  have k3 := hK 3 (by omega) (by omega)
  have k4 := hK 4 (by omega) (by omega)
  have k5 := hK 5 (by omega) (by omega)
  have k6 := hK 6 (by omega) (by omega)
  obtain ⟨w0, w1, w2, w3, w4, w5, w6, w7, w8, w9⟩ := swm_eq
  have co := s_ordinal (t := t) (σ := σ) (k := c) hc9
  rw [← hc] at co
  refine ca_of (e_X11_verdictOn ?_)
  have hcc : (c : Int).toNat = c := Int.toNat_natCast c
  have hsw : swmZ (σ.2.2.2.1 (7, k, 0) : Int).toNat = swmZ c := by rw [hc, hcc]
  refine b_X11_verdictOn_0 (co.up (by omega)) (by omega) (by rw [hsw]; rcases (by omega : c = 0 ∨ c = 1 ∨ c = 2 ∨ c = 3 ∨ c = 4 ∨ c = 5 ∨ c = 6 ∨ c = 7 ∨ c = 8 ∨ c = 9) with rfl | rfl | rfl | rfl | rfl | rfl | rfl | rfl | rfl | rfl <;> omega) ?_ ?_ ?_ ?_ ?_ ?_ ?_ ?_ ?_ ?_
  all_goals intro h
  all_goals rw [hsw] at h
  · have e : c = 0 := by
      rcases (by omega : c = 0 ∨ c = 1 ∨ c = 2 ∨ c = 3 ∨ c = 4 ∨ c = 5 ∨ c = 6 ∨ c = 7 ∨ c = 8 ∨ c = 9) with rfl | rfl | rfl | rfl | rfl | rfl | rfl | rfl | rfl | rfl <;> omega
    have h1 := hn e
    have cv := s_X11_verdictOnNew (t := t) hA hR h1.2.1 h1.2.2
    rw [← h1.1] at cv
    unfold vdA
    rw [if_pos e]
    exact b_X11_verdictOn_60 (cv.up (by omega)) rfl
  · have e : c = 1 := by
      rcases (by omega : c = 0 ∨ c = 1 ∨ c = 2 ∨ c = 3 ∨ c = 4 ∨ c = 5 ∨ c = 6 ∨ c = 7 ∨ c = 8 ∨ c = 9) with rfl | rfl | rfl | rfl | rfl | rfl | rfl | rfl | rfl | rfl <;> omega
    have hli : -2147483648 ≤ (if isR A (σ.1 (7, k, 0) 3) then (rLn A (σ.1 (7, k, 0) 3).toNat : Int) else 0) ∧ (if isR A (σ.1 (7, k, 0) 3) then (rLn A (σ.1 (7, k, 0) 3).toNat : Int) else 0) < 2147483648 := by
      split
      · have hl := hA.l (r := (σ.1 (7, k, 0) 3).toNat) (by omega)
        omega
      · omega
    unfold vdA
    rw [if_neg (by omega), if_pos e]
    exact b_X11_verdictOn_69 ((s_X7_lenR hA hR k3).up (by omega)) ((s_X11_verdictOnInsert hA hR k3 hli k6).up (by omega)) rfl
  · have e : c = 3 := by
      rcases (by omega : c = 0 ∨ c = 1 ∨ c = 2 ∨ c = 3 ∨ c = 4 ∨ c = 5 ∨ c = 6 ∨ c = 7 ∨ c = 8 ∨ c = 9) with rfl | rfl | rfl | rfl | rfl | rfl | rfl | rfl | rfl | rfl <;> omega
    unfold vdA
    rw [if_neg (by omega), if_neg (by omega), if_neg (by omega), if_pos e]
    exact b_X11_verdictOn_93 ((s_X11_verdictOnInsert hA hR k3 k5 k6).up (by omega)) rfl
  · have e : c = 2 := by
      rcases (by omega : c = 0 ∨ c = 1 ∨ c = 2 ∨ c = 3 ∨ c = 4 ∨ c = 5 ∨ c = 6 ∨ c = 7 ∨ c = 8 ∨ c = 9) with rfl | rfl | rfl | rfl | rfl | rfl | rfl | rfl | rfl | rfl <;> omega
    unfold vdA
    rw [if_neg (by omega), if_neg (by omega), if_pos e]
    refine b_X11_verdictOn_110 ((s_X7_hasNum (d := 0) hA hR k3 k5).up (by omega)) bz_rg (fun q => ?_) (fun q => ?_)
    · rw [if_neg (bz_0.mp q)]
      exact b_X11_verdictOn_142 (b_X11_verdictOn_143 rfl)
    · rw [if_pos (bz_n.mp q)]
      exact b_X11_verdictOn_128 ((s_X11_verdictOnRange k6 (by omega) (by omega)).up (by omega)) (b_X11_verdictOn_143 rfl)
  · have e : c = 4 := by
      rcases (by omega : c = 0 ∨ c = 1 ∨ c = 2 ∨ c = 3 ∨ c = 4 ∨ c = 5 ∨ c = 6 ∨ c = 7 ∨ c = 8 ∨ c = 9) with rfl | rfl | rfl | rfl | rfl | rfl | rfl | rfl | rfl | rfl <;> omega
    unfold vdA
    rw [if_neg (by omega), if_neg (by omega), if_neg (by omega), if_neg (by omega), if_pos e]
    refine b_X11_verdictOn_144 ((s_X7_hasNum (d := 0) hA hR k3 k5).up (by omega)) bz_rg (fun q => ?_) (fun q => ?_)
    · rw [if_neg (bz_0.mp q)]
      exact b_X11_verdictOn_166 (b_X11_verdictOn_167 rfl)
    · rw [if_pos (bz_n.mp q)]
      exact b_X11_verdictOn_162 (b_X11_verdictOn_167 rfl)
  · have e : c = 5 := by
      rcases (by omega : c = 0 ∨ c = 1 ∨ c = 2 ∨ c = 3 ∨ c = 4 ∨ c = 5 ∨ c = 6 ∨ c = 7 ∨ c = 8 ∨ c = 9) with rfl | rfl | rfl | rfl | rfl | rfl | rfl | rfl | rfl | rfl <;> omega
    unfold vdA
    rw [if_neg (by omega), if_neg (by omega), if_neg (by omega), if_neg (by omega), if_neg (by omega), if_pos e]
    exact b_X11_verdictOn_168 ((s_X11_verdictOnJoin hA hR k3 k4).up (by omega)) rfl
  · have e : c = 6 := by
      rcases (by omega : c = 0 ∨ c = 1 ∨ c = 2 ∨ c = 3 ∨ c = 4 ∨ c = 5 ∨ c = 6 ∨ c = 7 ∨ c = 8 ∨ c = 9) with rfl | rfl | rfl | rfl | rfl | rfl | rfl | rfl | rfl | rfl <;> omega
    unfold vdA
    rw [if_neg (by omega), if_neg (by omega), if_neg (by omega), if_neg (by omega), if_neg (by omega), if_neg (by omega), if_pos e]
    exact b_X11_verdictOn_181 ((s_X11_verdictOnRange k6 (by omega) (by omega)).up (by omega)) rfl
  · have e : c = 7 := by
      rcases (by omega : c = 0 ∨ c = 1 ∨ c = 2 ∨ c = 3 ∨ c = 4 ∨ c = 5 ∨ c = 6 ∨ c = 7 ∨ c = 8 ∨ c = 9) with rfl | rfl | rfl | rfl | rfl | rfl | rfl | rfl | rfl | rfl <;> omega
    unfold vdA
    rw [if_neg (by omega), if_neg (by omega), if_neg (by omega), if_neg (by omega), if_neg (by omega), if_neg (by omega), if_neg (by omega), if_pos e]
    exact b_X11_verdictOn_191 ((s_X11_verdictOnRange k6 (by omega) (by omega)).up (by omega)) rfl
  · have e : c = 8 := by
      rcases (by omega : c = 0 ∨ c = 1 ∨ c = 2 ∨ c = 3 ∨ c = 4 ∨ c = 5 ∨ c = 6 ∨ c = 7 ∨ c = 8 ∨ c = 9) with rfl | rfl | rfl | rfl | rfl | rfl | rfl | rfl | rfl | rfl <;> omega
    unfold vdA
    rw [if_neg (by omega), if_neg (by omega), if_neg (by omega), if_neg (by omega), if_neg (by omega), if_neg (by omega), if_neg (by omega), if_neg (by omega), if_pos e]
    refine b_X11_verdictOn_202 k5 (fun q => ?_) (fun q => ?_)
    · rw [if_pos (by omega)]
      exact b_X11_verdictOn_218 (b_X11_verdictOn_232 rfl)
    · refine b_X11_verdictOn_209 k5 (fun q => ?_) (fun q => ?_)
      · rw [if_neg (by omega)]
        exact b_X11_verdictOn_222 ((s_X11_verdictOnRange k6 (by omega) (by omega)).up (by omega)) (b_X11_verdictOn_232 rfl)
      · rw [if_pos (by omega)]
        exact b_X11_verdictOn_218 (b_X11_verdictOn_232 rfl)
  · have e : c = 9 := by
      rcases (by omega : c = 0 ∨ c = 1 ∨ c = 2 ∨ c = 3 ∨ c = 4 ∨ c = 5 ∨ c = 6 ∨ c = 7 ∨ c = 8 ∨ c = 9) with rfl | rfl | rfl | rfl | rfl | rfl | rfl | rfl | rfl | rfl <;> omega
    unfold vdA
    rw [if_neg (by omega), if_neg (by omega), if_neg (by omega), if_neg (by omega), if_neg (by omega), if_neg (by omega), if_neg (by omega), if_neg (by omega), if_neg (by omega)]
    exact b_X11_verdictOn_233 rfl
/-- the first row changes, one act more -/
def inD (L : Lc) : Prop := inR 0 L ∨ L.1 = 27
theorem s_X11_doChange {t : KT} {σ : SG} {A : RA} {k c : Nat} {nm : List Nat} (hA : Av A) (hR : Rep A σ 0) (hK : KI σ k) (hc : σ.2.2.2.1 (7, k, 0) = c) (hn : c = 0 → σ.2.1 (7, k, 0) 1 = cNm nm) (hv : vdA A c nm (σ.1 (7, k, 0) 3) (σ.1 (7, k, 0) 4) (σ.1 (7, k, 0) 5) (σ.1 (7, k, 0) 6) = 0) : ∃ σ', Ca 4 172 [aR (some (1, 0, 0)), aR (some (7, k, 0))] (am_hp σ) t (.inl none, am_hp σ', t) ∧ Rep (doA A c nm (σ.1 (7, k, 0) 3) (σ.1 (7, k, 0) 4) (σ.1 (7, k, 0) 5) (σ.1 (7, k, 0) 6)) σ' 0 ∧ Fr inD σ σ' ∧ σ'.1 (27, 0, 0) = up (σ.1 (27, 0, 0)) 0 (σ.1 (27, 0, 0) 0 + 1) := by
  have hc9 : c < 9 := by
    apply Decidable.byContradiction
    intro h
    unfold vdA at hv
    rw [if_neg (by omega), if_neg (by omega), if_neg (by omega), if_neg (by omega), if_neg (by omega), if_neg (by omega), if_neg (by omega), if_neg (by omega), if_neg (by omega)] at hv
    omega
  obtain ⟨w0, w1, w2, w3, w4, w5, w6, w7, w8, w9⟩ := swm_eq
  have fa : Fr (fun L => L.1 = 27) σ (sI σ (27, 0, 0) (up (σ.1 (27, 0, 0)) (0 : Int).toNat (σ.1 (27, 0, 0) 0 + 1))) := Fr.sI rfl
  have e27 : (sI σ (27, 0, 0) (up (σ.1 (27, 0, 0)) (0 : Int).toNat (σ.1 (27, 0, 0) 0 + 1))).1 (27, 0, 0) = up (σ.1 (27, 0, 0)) 0 (σ.1 (27, 0, 0) 0 + 1) := by simp [sI_1]
  have R1 := hR.fr fa (fun L hL h => by unfold inR at hL; omega)
  have ef : ∀ j, (sI σ (27, 0, 0) (up (σ.1 (27, 0, 0)) (0 : Int).toNat (σ.1 (27, 0, 0) 0 + 1))).1 (7, k, 0) j = σ.1 (7, k, 0) j := fun j => by simp [sI_1]
  have hc1 : (sI σ (27, 0, 0) (up (σ.1 (27, 0, 0)) (0 : Int).toNat (σ.1 (27, 0, 0) 0 + 1))).2.2.2.1 (7, k, 0) = c := hc
  have hn1 : c = 0 → (sI σ (27, 0, 0) (up (σ.1 (27, 0, 0)) (0 : Int).toNat (σ.1 (27, 0, 0) 0 + 1))).2.1 (7, k, 0) 1 = cNm nm := hn
  have co := s_ordinal (t := t) (σ := sI σ (27, 0, 0) (up (σ.1 (27, 0, 0)) (0 : Int).toNat (σ.1 (27, 0, 0) 0 + 1))) (k := c) (by omega)
  rw [← hc1] at co
  have hsw : swmZ ((sI σ (27, 0, 0) (up (σ.1 (27, 0, 0)) (0 : Int).toNat (σ.1 (27, 0, 0) 0 + 1))).2.2.2.1 (7, k, 0) : Int).toNat = swmZ c := by rw [hc1, Int.toNat_natCast]
  have mA : ∀ L : Lc, L.1 = 27 → inD L := fun L h => Or.inr h
  have mR : ∀ L, inR 0 L → inD L := fun L h => Or.inl h
  have n27 : ¬ inR 0 (27, 0, 0) := by unfold inR; omega
  refine ex_of (e_X11_doChange ?_)
  have fin : ∀ σ1, Rep (doA A c nm (σ.1 (7, k, 0) 3) (σ.1 (7, k, 0) 4) (σ.1 (7, k, 0) 5) (σ.1 (7, k, 0) 6)) σ1 0 → Fr (inR 0) (sI σ (27, 0, 0) (up (σ.1 (27, 0, 0)) (0 : Int).toNat (σ.1 (27, 0, 0) 0 + 1))) σ1 → Wp k_X11_doChange 3 (241, [some (aR (some (1, 0, 0))), some (aR (some (7, k, 0)))], [], am_hp σ1, t) (fun r => ∃ σ', r = (.inl none, am_hp σ', t) ∧ Rep (doA A c nm (σ.1 (7, k, 0) 3) (σ.1 (7, k, 0) 4) (σ.1 (7, k, 0) 5) (σ.1 (7, k, 0) 6)) σ' 0 ∧ Fr inD σ σ' ∧ σ'.1 (27, 0, 0) = up (σ.1 (27, 0, 0)) 0 (σ.1 (27, 0, 0) 0 + 1)) := by
    intro σ1 g1 f1
    exact b_X11_doChange_241 ⟨σ1, rfl, g1, (fa.mono mA).trans (f1.mono mR), by rw [(f1.1 _ n27).1, e27]⟩
  refine b_X11_doChange_0 (co.up (by omega)) (by rw [hc1]; omega) (by rw [hsw]; rcases (by omega : c = 0 ∨ c = 1 ∨ c = 2 ∨ c = 3 ∨ c = 4 ∨ c = 5 ∨ c = 6 ∨ c = 7 ∨ c = 8) with rfl | rfl | rfl | rfl | rfl | rfl | rfl | rfl | rfl <;> omega) ?_ ?_ ?_ ?_ ?_ ?_ ?_ ?_ ?_ ?_
  all_goals intro h
  all_goals rw [hsw] at h
  all_goals unfold vdA at hv
  all_goals unfold doA at fin
  all_goals unfold doA
  all_goals generalize sI σ (27, 0, 0) (up (σ.1 (27, 0, 0)) (0 : Int).toNat (σ.1 (27, 0, 0) 0 + 1)) = σa at fa e27 R1 ef hc1 hn1 co hsw fin
  · have e : c = 0 := by
      rcases (by omega : c = 0 ∨ c = 1 ∨ c = 2 ∨ c = 3 ∨ c = 4 ∨ c = 5 ∨ c = 6 ∨ c = 7 ∨ c = 8) with rfl | rfl | rfl | rfl | rfl | rfl | rfl | rfl | rfl <;> omega
    subst e
    simp only [if_true] at hv fin ⊢
    split at hv
    · omega
    · obtain ⟨σ1, c1, g1, f1⟩ := s_X7_addRow (d := 0) (t := t) (nm := nm) R1 (by omega)
      rw [← hn1 rfl] at c1
      exact b_X11_doChange_72 (c1.up (by omega)) (fin σ1 g1 f1)
  · have e : c = 1 := by
      rcases (by omega : c = 0 ∨ c = 1 ∨ c = 2 ∨ c = 3 ∨ c = 4 ∨ c = 5 ∨ c = 6 ∨ c = 7 ∨ c = 8) with rfl | rfl | rfl | rfl | rfl | rfl | rfl | rfl | rfl <;> omega
    subst e
    rw [if_neg (by omega), if_pos rfl] at hv fin ⊢
    have hi := inV_0 hv
    have cl := s_X7_lenR (t := t) (x := σ.1 (7, k, 0) 3) hA R1 (hK 3 (by omega) (by omega))
    rw [if_pos hi.1] at cl
    obtain ⟨σ1, c1, g1, f1⟩ := s_X7_insertNumber (d := 0) (t := t) (r := (σ.1 (7, k, 0) 3).toNat) (v := σ.1 (7, k, 0) 6) hA R1 (by omega) (Nat.le_refl _) hi.2.2.2
    rw [show (((σ.1 (7, k, 0) 3).toNat : Nat) : Int) = σ.1 (7, k, 0) 3 by omega] at c1
    rw [← ef 3] at cl
    rw [← ef 6] at c1
    refine b_X11_doChange_86 (σ1 := σa) (σ2 := σ1) (r1 := (rLn A (σ.1 (7, k, 0) 3).toNat : Int)) ?_ ?_ (fin σ1 g1 f1)
    · rw [ef 3] at cl ⊢
      exact cl.up (by omega)
    · rw [ef 3]
      exact c1.up (by omega)
  · have e : c = 3 := by
      rcases (by omega : c = 0 ∨ c = 1 ∨ c = 2 ∨ c = 3 ∨ c = 4 ∨ c = 5 ∨ c = 6 ∨ c = 7 ∨ c = 8) with rfl | rfl | rfl | rfl | rfl | rfl | rfl | rfl | rfl <;> omega
    subst e
    rw [if_neg (by omega), if_neg (by omega), if_neg (by omega), if_pos rfl] at hv fin ⊢
    have hi := inV_0 hv
    obtain ⟨σ1, c1, g1, f1⟩ := s_X7_insertNumber (d := 0) (t := t) (r := (σ.1 (7, k, 0) 3).toNat) (i := (σ.1 (7, k, 0) 5).toNat) (v := σ.1 (7, k, 0) 6) hA R1 (by omega) (by omega) hi.2.2.2
    rw [show (((σ.1 (7, k, 0) 3).toNat : Nat) : Int) = σ.1 (7, k, 0) 3 by omega, show (((σ.1 (7, k, 0) 5).toNat : Nat) : Int) = σ.1 (7, k, 0) 5 by omega] at c1
    refine b_X11_doChange_115 (σ1 := σ1) ?_ (fin σ1 g1 f1)
    rw [ef 3, ef 5, ef 6]
    exact c1.up (by omega)
  · have e : c = 2 := by
      rcases (by omega : c = 0 ∨ c = 1 ∨ c = 2 ∨ c = 3 ∨ c = 4 ∨ c = 5 ∨ c = 6 ∨ c = 7 ∨ c = 8) with rfl | rfl | rfl | rfl | rfl | rfl | rfl | rfl | rfl <;> omega
    subst e
    rw [if_neg (by omega), if_neg (by omega), if_pos rfl] at hv fin ⊢
    split at hv
    · rename_i hN
      have hl := hA.l (r := (σ.1 (7, k, 0) 3).toNat) (by omega)
      obtain ⟨σ1, c1, g1, f1⟩ := s_X7_putNumber (d := 0) (t := t) (r := (σ.1 (7, k, 0) 3).toNat) (i := (σ.1 (7, k, 0) 5).toNat) (v := σ.1 (7, k, 0) 6) hA R1 (by omega) (by omega) hl
      rw [show (((σ.1 (7, k, 0) 3).toNat : Nat) : Int) = σ.1 (7, k, 0) 3 by omega, show (((σ.1 (7, k, 0) 5).toNat : Nat) : Int) = σ.1 (7, k, 0) 5 by omega] at c1
      refine b_X11_doChange_137 (σ1 := σ1) ?_ (fin σ1 g1 f1)
      rw [ef 3, ef 5, ef 6]
      exact c1.up (by omega)
    · omega
  · have e : c = 4 := by
      rcases (by omega : c = 0 ∨ c = 1 ∨ c = 2 ∨ c = 3 ∨ c = 4 ∨ c = 5 ∨ c = 6 ∨ c = 7 ∨ c = 8) with rfl | rfl | rfl | rfl | rfl | rfl | rfl | rfl | rfl <;> omega
    subst e
    rw [if_neg (by omega), if_neg (by omega), if_neg (by omega), if_neg (by omega), if_pos rfl] at hv fin ⊢
    split at hv
    · rename_i hN
      have hl := hA.l (r := (σ.1 (7, k, 0) 3).toNat) (by omega)
      obtain ⟨σ1, c1, g1, f1⟩ := s_X7_removeNumber (d := 0) (t := t) (r := (σ.1 (7, k, 0) 3).toNat) (i := (σ.1 (7, k, 0) 5).toNat) hA R1 (by omega) (by omega) hl
      rw [show (((σ.1 (7, k, 0) 3).toNat : Nat) : Int) = σ.1 (7, k, 0) 3 by omega, show (((σ.1 (7, k, 0) 5).toNat : Nat) : Int) = σ.1 (7, k, 0) 5 by omega] at c1
      refine b_X11_doChange_159 (σ1 := σ1) ?_ (fin σ1 g1 f1)
      rw [ef 3, ef 5]
      exact c1.up (by omega)
    · omega
  · have e : c = 5 := by
      rcases (by omega : c = 0 ∨ c = 1 ∨ c = 2 ∨ c = 3 ∨ c = 4 ∨ c = 5 ∨ c = 6 ∨ c = 7 ∨ c = 8) with rfl | rfl | rfl | rfl | rfl | rfl | rfl | rfl | rfl <;> omega
    subst e
    rw [if_neg (by omega), if_neg (by omega), if_neg (by omega), if_neg (by omega), if_neg (by omega), if_pos rfl] at hv fin ⊢
    split at hv
    · omega
    · split at hv
      · omega
      · rename_i h1 h2
        have h1 := Decidable.not_not.mp h1
        obtain ⟨σ1, c1, g1, f1⟩ := s_X7_joinRows (d := 0) (t := t) (r := (σ.1 (7, k, 0) 3).toNat) (s := (σ.1 (7, k, 0) 4).toNat) hA R1 (by omega) (by omega) (by omega)
        rw [show (((σ.1 (7, k, 0) 3).toNat : Nat) : Int) = σ.1 (7, k, 0) 3 by omega, show (((σ.1 (7, k, 0) 4).toNat : Nat) : Int) = σ.1 (7, k, 0) 4 by omega] at c1
        refine b_X11_doChange_177 (σ1 := σ1) ?_ (fin σ1 g1 f1)
        rw [ef 3, ef 4]
        exact c1.up (by omega)
  · have e : c = 6 := by
      rcases (by omega : c = 0 ∨ c = 1 ∨ c = 2 ∨ c = 3 ∨ c = 4 ∨ c = 5 ∨ c = 6 ∨ c = 7 ∨ c = 8) with rfl | rfl | rfl | rfl | rfl | rfl | rfl | rfl | rfl <;> omega
    subst e
    rw [if_neg (by omega), if_neg (by omega), if_neg (by omega), if_neg (by omega), if_neg (by omega), if_neg (by omega), if_pos rfl] at hv fin ⊢
    split at hv
    · rename_i hN
      obtain ⟨a1, a2, a3, a4, a5⟩ := R1
      have e6 := ef 6
      have hz : σa.1 (7, k, 0) 6 = ((σ.1 (7, k, 0) 6).toNat : Int) := by rw [e6]; omega
      refine b_X11_doChange_195 (fin _ ⟨by simpa [sI_1, up_at, ruA] using a1, by simp only [sI_1, up_at, if_true]; exact hz, by simpa [sI_1, up_at, ruA] using a3, fun w hw => by simpa [sI_1, ruA] using a4 w hw, fun i hi => ?_⟩ (Fr.sI (inRk rfl)))
      have b := a5 i hi
      exact ⟨by simpa [sI_2, ruA] using b.1, by simpa [sI_1, ruA] using b.2.1, fun m hm => by simpa [sI_1, ruA] using b.2.2 m hm⟩
    · omega
  · have e : c = 7 := by
      rcases (by omega : c = 0 ∨ c = 1 ∨ c = 2 ∨ c = 3 ∨ c = 4 ∨ c = 5 ∨ c = 6 ∨ c = 7 ∨ c = 8) with rfl | rfl | rfl | rfl | rfl | rfl | rfl | rfl | rfl <;> omega
    subst e
    rw [if_neg (by omega), if_neg (by omega), if_neg (by omega), if_neg (by omega), if_neg (by omega), if_neg (by omega), if_neg (by omega), if_pos rfl] at hv fin ⊢
    split at hv
    · rename_i hN
      obtain ⟨a1, a2, a3, a4, a5⟩ := R1
      have e6 := ef 6
      have hz : σa.1 (7, k, 0) 6 = ((σ.1 (7, k, 0) 6).toNat : Int) := by rw [e6]; omega
      refine b_X11_doChange_209 (fin _ ⟨by simpa [sI_1, up_at, skA] using a1, by simpa [sI_1, up_at, skA] using a2, by simp only [sI_1, up_at, if_true]; exact hz, fun w hw => by simpa [sI_1, skA] using a4 w hw, fun i hi => ?_⟩ (Fr.sI (inRk rfl)))
      have b := a5 i hi
      exact ⟨by simpa [sI_2, skA] using b.1, by simpa [sI_1, skA] using b.2.1, fun m hm => by simpa [sI_1, skA] using b.2.2 m hm⟩
    · omega
  · have e : c = 8 := by
      rcases (by omega : c = 0 ∨ c = 1 ∨ c = 2 ∨ c = 3 ∨ c = 4 ∨ c = 5 ∨ c = 6 ∨ c = 7 ∨ c = 8) with rfl | rfl | rfl | rfl | rfl | rfl | rfl | rfl | rfl <;> omega
    subst e
    rw [if_neg (by omega), if_neg (by omega), if_neg (by omega), if_neg (by omega), if_neg (by omega), if_neg (by omega), if_neg (by omega), if_neg (by omega)] at fin ⊢
    rw [if_neg (by omega), if_neg (by omega), if_neg (by omega), if_neg (by omega), if_neg (by omega), if_neg (by omega), if_neg (by omega), if_neg (by omega), if_pos rfl] at hv
    split at hv
    · omega
    · rename_i hN
      have hN := Decidable.not_not.mp hN
      obtain ⟨σ1, c1, g1, f1⟩ := s_X7_putPrice (d := 0) (t := t) (w := (σ.1 (7, k, 0) 5).toNat) (z := σ.1 (7, k, 0) 6) R1 (by omega)
      rw [show (((σ.1 (7, k, 0) 5).toNat : Nat) : Int) = σ.1 (7, k, 0) 5 by omega] at c1
      refine b_X11_doChange_223 (σ1 := σ1) ?_ (fin σ1 g1 f1)
      rw [ef 5, ef 6]
      exact c1.up (by omega)
  · exfalso
    rcases (by omega : c = 0 ∨ c = 1 ∨ c = 2 ∨ c = 3 ∨ c = 4 ∨ c = 5 ∨ c = 6 ∨ c = 7 ∨ c = 8) with rfl | rfl | rfl | rfl | rfl | rfl | rfl | rfl | rfl <;> omega
