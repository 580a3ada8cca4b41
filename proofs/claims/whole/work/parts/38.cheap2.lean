/-! SPECIFICATIONS: the cheapest ways are chosen -/
set_option maxRecDepth 4000
def inB (L : Lc) : Prop := L.1 = 21 ∨ L.1 = 22
theorem inB_1 {a b c : Nat} (h : (Nat.beq a 21 || Nat.beq a 22) = false) : ¬ inB (a, b, c) := by
  rw [Bool.or_eq_false_iff] at h
  rintro (e | e)
  · have e : a = 21 := e
    rw [e] at h; exact absurd h.1 (by decide)
  · have e : a = 22 := e
    rw [e] at h; exact absurd h.2 (by decide)
/-- 'costs' holds c -/
def PK (c : Nat → Int) (σ : SG) : Prop := ∀ w, w < 9 → σ.1 (23, 0, 0) w = c w
theorem PK.fr {c : Nat → Int} {σ σ' : SG} {P : Lc → Prop} (h : PK c σ) (k : Fr P σ σ') (h23 : ¬ P (23, 0, 0)) : PK c σ' := by
  unfold PK at h ⊢
  rw [(k.1 _ h23).1]
  exact h
def accB (g : Nat → Int) : Option Nat → Int
  | none => 1073741824
  | some v => g v
theorem l_X5_cc2 {d : Nat} {t : KT} {Q : RS → Prop} {f c : Nat → Int} {n i : Nat} (hi : i < n) (hv : ∀ j, j < n → 0 ≤ f j ∧ f j < 268435456) (hc : ∀ w, w < 9 → 0 ≤ c w ∧ c w ≤ 101377) : ∀ (k w : Nat) (acc : Option Nat) (u : Option AV) (σ : SG), w + k = 9 → PL f n σ → PT f n σ → PK c σ → (∀ j, i < j → j ≤ n → σ.1 (22, 0, 0) j = Bc f n c j) →
    σ.1 (22, 0, 0) i = accB (gW f n c i) acc → (∀ v, acc = some v → v < 9 ∧ σ.1 (21, 0, 0) i = v) →
    (∀ σ' u', Fr inB σ σ' → (∀ v, amF (tk f n i) (gW f n c i) k w acc = some v → σ'.1 (22, 0, 0) i = gW f n c i v ∧ σ'.1 (21, 0, 0) i = v) → (∀ j, j ≠ i → σ'.1 (22, 0, 0) j = σ.1 (22, 0, 0) j ∧ σ'.1 (21, 0, 0) j = σ.1 (21, 0, 0) j) → Wp k_X5_chooseCheapest (d + 1) (102, [some (aR (some (18, 0, 0))), some (aI (iZ (i : Int))), some (aI (iZ ((9 : Nat) : Int))), u'], [], am_hp σ', t) Q) →
    Wp k_X5_chooseCheapest (d + 1) (31, [some (aR (some (18, 0, 0))), some (aI (iZ (i : Int))), some (aI (iZ (w : Int))), u], [], am_hp σ, t) Q
  | 0, w, acc, u, σ, hk, hP, hT, hK, hb, h22, h21, q => by
    have e : w = 9 := by omega
    subst e
    refine b_X5_chooseCheapest_31 (by omega) (fun _ => ?_) (fun h => by omega)
    refine q σ u (Fr.refl _ _) (fun v hv => ?_) (fun j hj => ⟨rfl, rfl⟩)
    have hv : acc = some v := hv
    subst hv
    exact ⟨h22, (h21 v rfl).2⟩
  | k + 1, w, acc, u, σ, hk, hP, hT, hK, hb, h22, h21, q => by
    have hw : w < 9 := by omega
    have hp2 := hP.2.1
    have e6 := hP.1
    have hcb := cnt_bd w hw
    have hcw := hc w hw
    unfold amF at q
    refine b_X5_chooseCheapest_31 (by omega) (fun h => by omega) (fun _ => ?_)
    refine b_X5_chooseCheapest_37 (s_X5_canTake hP hT hi hw) bz_rg (fun h => ?_) (fun h => ?_)
    · rw [if_neg (bz_0.mp h)] at q
      exact b_X5_chooseCheapest_96 (l_X5_cc2 hi hv hc k (w + 1) acc u σ (by omega) hP hT hK hb h22 h21 q)
    · rw [if_pos (bz_n.mp h)] at q
      have hm : min ((i : Int) + (cnt w : Int)) (σ.1 (18, 0, 0) 6) = ((min (i + cnt w) n : Nat) : Int) := by rw [e6]; omega
      have hbd := Bc_bd hv hc (n - min (i + cnt w) n) (min (i + cnt w) n) rfl (by omega)
      have eg : gW f n c i w = c w + Bc f n c (min (i + cnt w) n) := rfl
      have ec : σ.1 (23, 0, 0) (w : Int).toNat + σ.1 (22, 0, 0) (min ((i : Int) + (cnt w : Int)) (σ.1 (18, 0, 0) 6)).toNat = gW f n c i w := by
        rw [hm, Int.toNat_natCast, Int.toNat_natCast, hK w hw, hb _ (by omega) (by omega)]
      have hgb : 0 ≤ gW f n c i w ∧ gW f n c i w < 20000000 := by
        rw [eg]
        generalize min (i + cnt w) n = m at hbd ⊢
        omega
      have hab : 0 ≤ accB (gW f n c i) acc ∧ accB (gW f n c i) acc ≤ 1073741824 := by
        cases acc with
        | none => show (0 : Int) ≤ 1073741824 ∧ (1073741824 : Int) ≤ 1073741824; decide
        | some v =>
          have hv9 := (h21 v rfl).1
          have hcv := hc v hv9
          have hcb2 := cnt_bd v hv9
          have hbd2 := Bc_bd hv hc (n - min (i + cnt v) n) (min (i + cnt v) n) rfl (by omega)
          show 0 ≤ c v + Bc f n c (min (i + cnt v) n) ∧ c v + Bc f n c (min (i + cnt v) n) ≤ 1073741824
          generalize min (i + cnt v) n = m at hbd2 ⊢
          omega
      have h22i : σ.1 (22, 0, 0) (i : Int).toNat = accB (gW f n c i) acc := h22
      refine b_X5_chooseCheapest_46 (by omega) (s_X11_countOf (d := d) hw) (by omega) (by rw [e6]; omega) (by rw [hm]; omega) (by omega) (by rw [ec]; omega) (by rw [h22i]; omega) (fun h => ?_) (fun h => ?_)
      · rw [ec, h22i] at h
        cases acc with
        | none => have h : (1073741824 : Int) ≤ gW f n c i w := h; omega
        | some v =>
          have h : gW f n c i v ≤ gW f n c i w := h
          dsimp only at q
          rw [if_neg (by omega)] at q
          exact b_X5_chooseCheapest_96 (l_X5_cc2 hi hv hc k (w + 1) (some v) _ σ (by omega) hP hT hK hb h22 h21 q)
      · rw [h22i, ec] at h
        refine b_X5_chooseCheapest_82 (by omega) (by omega) ?_
        rw [ec]
        have fa : Fr inB σ (sI σ (22, 0, 0) (up (σ.1 (22, 0, 0)) (i : Int).toNat (gW f n c i w))) := Fr.sI (Or.inr rfl)
        have fb : Fr inB (sI σ (22, 0, 0) (up (σ.1 (22, 0, 0)) (i : Int).toNat (gW f n c i w))) (sI (sI σ (22, 0, 0) (up (σ.1 (22, 0, 0)) (i : Int).toNat (gW f n c i w))) (21, 0, 0) (up ((sI σ (22, 0, 0) (up (σ.1 (22, 0, 0)) (i : Int).toNat (gW f n c i w))).1 (21, 0, 0)) (i : Int).toNat (w : Int))) := Fr.sI (Or.inl rfl)
        have fc := fa.trans fb
        have g22 : ∀ j, (sI (sI σ (22, 0, 0) (up (σ.1 (22, 0, 0)) (i : Int).toNat (gW f n c i w))) (21, 0, 0) (up ((sI σ (22, 0, 0) (up (σ.1 (22, 0, 0)) (i : Int).toNat (gW f n c i w))).1 (21, 0, 0)) (i : Int).toNat (w : Int))).1 (22, 0, 0) j = if j = i then gW f n c i w else σ.1 (22, 0, 0) j := fun j => by simp [sI_1, up_at]
        have g21 : ∀ j, (sI (sI σ (22, 0, 0) (up (σ.1 (22, 0, 0)) (i : Int).toNat (gW f n c i w))) (21, 0, 0) (up ((sI σ (22, 0, 0) (up (σ.1 (22, 0, 0)) (i : Int).toNat (gW f n c i w))).1 (21, 0, 0)) (i : Int).toNat (w : Int))).1 (21, 0, 0) j = if j = i then (w : Int) else σ.1 (21, 0, 0) j := fun j => by simp [sI_1, up_at]
        generalize sI (sI σ (22, 0, 0) (up (σ.1 (22, 0, 0)) (i : Int).toNat (gW f n c i w))) (21, 0, 0) (up ((sI σ (22, 0, 0) (up (σ.1 (22, 0, 0)) (i : Int).toNat (gW f n c i w))).1 (21, 0, 0)) (i : Int).toNat (w : Int)) = σb at fc g22 g21 ⊢
        refine b_X5_chooseCheapest_96 (l_X5_cc2 hi hv hc k (w + 1) (some w) _ σb (by omega) (hP.fr fc (inB_1 rfl) (inB_1 rfl)) (hT.fr fc (inB_1 rfl)) (hK.fr fc (inB_1 rfl)) (fun j h1 h2 => by rw [g22, if_neg (by omega)]; exact hb j h1 h2) (by rw [g22, if_pos rfl]; rfl) (fun v hv => ?_) (fun σ' u' f1 h1 h2 => q σ' u' (fc.trans f1) (fun v hv => h1 v ?_) (fun j hj => ?_)))
        · cases hv
          exact ⟨hw, by rw [g21, if_pos rfl]⟩
        · cases acc with
          | none => exact hv
          | some v0 =>
            have h : gW f n c i w < gW f n c i v0 := h
            dsimp only at hv
            rw [if_pos h] at hv
            exact hv
        · have := h2 j hj
          rw [g22, g21, if_neg hj, if_neg hj] at this
          exact this
