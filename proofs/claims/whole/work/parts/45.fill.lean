/-! SPECIFICATIONS: words are laid down -/
set_option maxRecDepth 4000
/-- where word k starts -/
def stU (ch : Nat → Nat) : Nat → Nat
  | 0 => 0
  | k + 1 => stU ch k + cnt (ch (stU ch k))
theorem stU_ge (ch : Nat → Nat) : ∀ k, k ≤ stU ch k
  | 0 => Nat.le_refl _
  | k + 1 => by
    have := stU_ge ch k
    have := cnt_1 (ch (stU ch k))
    unfold stU
    omega
theorem stU_mono (ch : Nat → Nat) : ∀ k m, stU ch k + m ≤ stU ch (k + m)
  | k, 0 => Nat.le_refl _
  | k, m + 1 => by
    have h1 := stU_mono ch k m
    have h2 := cnt_1 (ch (stU ch (k + m)))
    show stU ch k + (m + 1) ≤ stU ch (k + m) + cnt (ch (stU ch (k + m)))
    omega
theorem cw_lt (ch : Nat → Nat) (n : Nat) : ∀ (fuel k0 k : Nat), n ≤ stU ch k0 + fuel → k0 ≤ k → (k < k0 + cwF ch n fuel (stU ch k0) ↔ stU ch k < n)
  | 0, k0, k, h, hk => by
    have := stU_mono ch k0 (k - k0)
    rw [show k0 + (k - k0) = k by omega] at this
    simp only [cwF]
    omega
  | fuel + 1, k0, k, h, hk => by
    unfold cwF
    have h1 := cnt_1 (ch (stU ch k0))
    by_cases e : stU ch k0 < n
    · rw [if_pos e]
      by_cases ek : k = k0
      · subst ek
        exact ⟨fun _ => e, fun _ => by omega⟩
      · have ih := cw_lt ch n fuel (k0 + 1) k (by show n ≤ stU ch k0 + cnt (ch (stU ch k0)) + fuel; omega) (by omega)
        have e2 : stU ch (k0 + 1) = stU ch k0 + cnt (ch (stU ch k0)) := rfl
        rw [e2] at ih
        rw [← ih]
        omega
    · rw [if_neg e]
      have := stU_mono ch k0 (k - k0)
      rw [show k0 + (k - k0) = k by omega] at this
      omega
/-- how many words -/
abbrev nW (ch : Nat → Nat) (n : Nat) : Nat := cwF ch n n 0
theorem nW_lt (ch : Nat → Nat) (n k : Nat) : k < nW ch n ↔ stU ch k < n := by
  have := cw_lt ch n n 0 k (by rw [stU]; omega) (Nat.zero_le _)
  rw [Nat.zero_add] at this
  exact this
theorem nW_le (ch : Nat → Nat) (n : Nat) : nW ch n ≤ n := by
  apply Decidable.byContradiction
  intro h
  have h1 := (nW_lt ch n n).mp (by omega)
  have := stU_ge ch n
  omega
/-- the words of row p as they must be -/
def PW (ch : Nat → Nat) (f : Nat → Int) (n k p : Nat) (σ : SG) : Prop := σ.1 (28, p, 0) 2 = k ∧ σ.1 (28, p, 0) 3 = n ∧ ∀ m, m < k → σ.1 (30, p, 0) m = stU ch m ∧ σ.1 (29, p, 0) m = wrd f n (ch (stU ch m)) (stU ch m)
def inW (p : Nat) (L : Lc) : Prop := (28 ≤ L.1 ∧ L.1 ≤ 30) ∧ L.2.1 = p
theorem inWk {p a b : Nat} (h : (Nat.ble 28 a && Nat.ble a 30) = true) : inW p (a, p, b) := by
  rw [Bool.and_eq_true] at h
  exact ⟨⟨Nat.ble_eq.mp h.1, Nat.ble_eq.mp h.2⟩, rfl⟩
theorem inW_1 {p a b c : Nat} (h : Nat.blt a 28 = true) : ¬ inW p (a, b, c) := by
  intro e
  have e1 : 28 ≤ a := e.1.1
  have := Nat.ble_eq.mp h
  omega
theorem l_X4_fill {d : Nat} {t : KT} {Q : RS → Prop} {f : Nat → Int} {n p : Nat} {ch : Nat → Nat} (hn : n ≤ 60) : ∀ (fuel k : Nat) (σ : SG), n ≤ stU ch k + fuel → stU ch k ≤ 200 → PL f n σ → PC ch n σ → PW ch f n k p σ →
    (∀ σ', Fr (inW p) σ σ' → PW ch f n (k + cwF ch n fuel (stU ch k)) p σ' → Q (.inl none, am_hp σ', t)) →
    Wp k_X4_fillFrom (d + 2) (15, [some (aR (some (28, p, 0))), some (aR (some (18, 0, 0))), some (aI (iZ (stU ch k : Int)))], [], am_hp σ, t) Q
  | 0, k, σ, hk, h2, hP, hC, hW, q => by
    obtain ⟨w1, w2, w3⟩ := hW
    refine b_X4_fillFrom_15 (by omega) (by rw [w2]; omega) (fun _ => ?_) (fun h => by rw [w2] at h; omega)
    exact b_X4_fillFrom_81 (q σ (Fr.refl _ _) ⟨w1, w2, w3⟩)
  | fuel + 1, k, σ, hk, h2, hP, hC, hW, q => by
    obtain ⟨w1, w2, w3⟩ := hW
    have hge := stU_ge ch k
    refine b_X4_fillFrom_15 (by omega) (by rw [w2]; omega) (fun h => ?_) (fun h => ?_)
    · rw [w2] at h
      unfold cwF at q
      rw [if_neg (by omega)] at q
      exact b_X4_fillFrom_81 (q σ (Fr.refl _ _) ⟨w1, w2, w3⟩)
    · rw [w2] at h
      have hi : stU ch k < n := by omega
      have c := hC _ hi
      have hcb := cnt_bd _ c.2
      unfold cwF at q
      rw [if_pos hi] at q
      refine b_X4_fillFrom_23 (by rw [w1]; omega) (fun h => by rw [w1] at h; omega) (fun _ => ?_)
      have fa : Fr (inW p) σ (sI σ (30, p, 0) (up (σ.1 (30, p, 0)) (σ.1 (28, p, 0) 2).toNat (stU ch k : Int))) := Fr.sI (inWk rfl)
      have ga : (sI σ (30, p, 0) (up (σ.1 (30, p, 0)) (σ.1 (28, p, 0) 2).toNat (stU ch k : Int))).1 (28, p, 0) = σ.1 (28, p, 0) := by simp [sI_1]
      have ga29 : (sI σ (30, p, 0) (up (σ.1 (30, p, 0)) (σ.1 (28, p, 0) 2).toNat (stU ch k : Int))).1 (29, p, 0) = σ.1 (29, p, 0) := by simp [sI_1]
      have ga30 : ∀ m, (sI σ (30, p, 0) (up (σ.1 (30, p, 0)) (σ.1 (28, p, 0) 2).toNat (stU ch k : Int))).1 (30, p, 0) m = if m = k then (stU ch k : Int) else σ.1 (30, p, 0) m := fun m => by simp [sI_1, up_at, w1]
      generalize hσa : sI σ (30, p, 0) (up (σ.1 (30, p, 0)) (σ.1 (28, p, 0) 2).toNat (stU ch k : Int)) = σa at fa ga ga29 ga30
      have hPa := hP.fr fa (inW_1 rfl) (inW_1 rfl)
      have hCa := hC.fr fa (inW_1 rfl)
      have hc2 := s_X5_wordFrom (d := d) (t := t) hPa hCa hi
      have fb : Fr (inW p) σa (sI σa (29, p, 0) (up (σa.1 (29, p, 0)) (σa.1 (28, p, 0) 2).toNat (wrd f n (ch (stU ch k)) (stU ch k)))) := Fr.sI (inWk rfl)
      have gb : (sI σa (29, p, 0) (up (σa.1 (29, p, 0)) (σa.1 (28, p, 0) 2).toNat (wrd f n (ch (stU ch k)) (stU ch k)))).1 (28, p, 0) = σ.1 (28, p, 0) := by simp [sI_1, ga]
      have gb30 : (sI σa (29, p, 0) (up (σa.1 (29, p, 0)) (σa.1 (28, p, 0) 2).toNat (wrd f n (ch (stU ch k)) (stU ch k)))).1 (30, p, 0) = σa.1 (30, p, 0) := by simp [sI_1]
      have gb29 : ∀ m, (sI σa (29, p, 0) (up (σa.1 (29, p, 0)) (σa.1 (28, p, 0) 2).toNat (wrd f n (ch (stU ch k)) (stU ch k)))).1 (29, p, 0) m = if m = k then wrd f n (ch (stU ch k)) (stU ch k) else σ.1 (29, p, 0) m := fun m => by simp [sI_1, up_at, w1, ga, ga29]
      generalize hσb : sI σa (29, p, 0) (up (σa.1 (29, p, 0)) (σa.1 (28, p, 0) 2).toNat (wrd f n (ch (stU ch k)) (stU ch k))) = σb at fb gb gb30 gb29
      have fc : Fr (inW p) σb (sI σb (28, p, 0) (up (σb.1 (28, p, 0)) 2 (σb.1 (28, p, 0) 2 + 1))) := Fr.sI (inWk rfl)
      have gc2 : (sI σb (28, p, 0) (up (σb.1 (28, p, 0)) 2 (σb.1 (28, p, 0) 2 + 1))).1 (28, p, 0) 2 = (k + 1 : Nat) := by simp [sI_1, up_at, gb, w1]
      have gc3 : (sI σb (28, p, 0) (up (σb.1 (28, p, 0)) 2 (σb.1 (28, p, 0) 2 + 1))).1 (28, p, 0) 3 = n := by simp [sI_1, up_at, gb, w2]
      have gc29 : (sI σb (28, p, 0) (up (σb.1 (28, p, 0)) 2 (σb.1 (28, p, 0) 2 + 1))).1 (29, p, 0) = σb.1 (29, p, 0) := by simp [sI_1]
      have gc30 : (sI σb (28, p, 0) (up (σb.1 (28, p, 0)) 2 (σb.1 (28, p, 0) 2 + 1))).1 (30, p, 0) = σb.1 (30, p, 0) := by simp [sI_1]
      generalize hσc : sI σb (28, p, 0) (up (σb.1 (28, p, 0)) 2 (σb.1 (28, p, 0) 2 + 1)) = σc at fc gc2 gc3 gc29 gc30
      have ff := (fa.trans fb).trans fc
      have hPc := hP.fr ff (inW_1 rfl) (inW_1 rfl)
      have hCc := hC.fr ff (inW_1 rfl)
      have e21 : σc.1 (21, 0, 0) (stU ch k : Int).toNat = ch (stU ch k) := (hCc _ hi).1
      refine b_X4_fillFrom_32 (σ1 := σa) (σ2 := σc) (r1 := wrd f n (ch (stU ch k)) (stU ch k)) (r2 := (cnt (ch (stU ch k)) : Int)) (by rw [w1]; omega) (by rw [hσa]; exact hc2) (by rw [hσa, ga, w1]; omega) (by omega) ?_ ?_
      · rw [hσa, hσb, hσc, e21]
        exact (s_X11_countOf (d := d + 1) c.2)
      · refine l_X4_fill hn fuel (k + 1) σc (by show n ≤ stU ch k + cnt (ch (stU ch k)) + fuel; omega) (by show stU ch k + cnt (ch (stU ch k)) ≤ 200; omega) hPc hCc ⟨gc2, gc3, fun m hm => ?_⟩ (fun σ' f1 h1 => q σ' (ff.trans f1) ?_)
        · rw [gc30, gb30, ga30, gc29, gb29]
          by_cases e : m = k
          · subst e
            exact ⟨if_pos rfl, if_pos rfl⟩
          · rw [if_neg e, if_neg e]
            exact w3 m (by omega)
        · have e : k + 1 + cwF ch n fuel (stU ch (k + 1)) = k + (cwF ch n fuel (stU ch k + cnt (ch (stU ch k))) + 1) := by
            show k + 1 + cwF ch n fuel (stU ch k + cnt (ch (stU ch k))) = _
            omega
          rw [e] at h1
          exact h1
theorem s_X4_fillFrom {d : Nat} {t : KT} {σ : SG} {f : Nat → Int} {n p : Nat} {ch : Nat → Nat} (hn : n ≤ 60) (hP : PL f n σ) (hC : PC ch n σ) : ∃ σ', Ca (d + 3) 6 [aR (some (28, p, 0)), aR (some (18, 0, 0))] (am_hp σ) t (.inl none, am_hp σ', t) ∧ PW ch f n (nW ch n) p σ' ∧ Fr (inW p) σ σ' := by
  refine ex_of (e_X4_fillFrom ?_)
  refine b_X4_fillFrom_0 ?_
  have fa : Fr (inW p) σ (sI (sI σ (28, p, 0) (up (σ.1 (28, p, 0)) 2 0)) (28, p, 0) (up ((sI σ (28, p, 0) (up (σ.1 (28, p, 0)) 2 0)).1 (28, p, 0)) 3 ((sI σ (28, p, 0) (up (σ.1 (28, p, 0)) 2 0)).1 (18, 0, 0) 6))) := (Fr.sI (inWk rfl)).trans (Fr.sI (inWk rfl))
  have g2 : (sI (sI σ (28, p, 0) (up (σ.1 (28, p, 0)) 2 0)) (28, p, 0) (up ((sI σ (28, p, 0) (up (σ.1 (28, p, 0)) 2 0)).1 (28, p, 0)) 3 ((sI σ (28, p, 0) (up (σ.1 (28, p, 0)) 2 0)).1 (18, 0, 0) 6))).1 (28, p, 0) 2 = 0 := by simp [sI_1, up_at]
  have g3 : (sI (sI σ (28, p, 0) (up (σ.1 (28, p, 0)) 2 0)) (28, p, 0) (up ((sI σ (28, p, 0) (up (σ.1 (28, p, 0)) 2 0)).1 (28, p, 0)) 3 ((sI σ (28, p, 0) (up (σ.1 (28, p, 0)) 2 0)).1 (18, 0, 0) 6))).1 (28, p, 0) 3 = n := by simp [sI_1, up_at, hP.1]
  generalize sI (sI σ (28, p, 0) (up (σ.1 (28, p, 0)) 2 0)) (28, p, 0) (up ((sI σ (28, p, 0) (up (σ.1 (28, p, 0)) 2 0)).1 (28, p, 0)) 3 ((sI σ (28, p, 0) (up (σ.1 (28, p, 0)) 2 0)).1 (18, 0, 0) 6)) = σa at fa g2 g3 ⊢
  refine l_X4_fill hn n 0 σa (by rw [stU]; omega) (by rw [stU]; omega) (hP.fr fa (inW_1 rfl) (inW_1 rfl)) (hC.fr fa (inW_1 rfl)) ⟨g2, g3, fun m hm => absurd hm (Nat.not_lt_zero m)⟩ (fun σ' f1 h1 => ⟨σ', rfl, ?_, fa.trans f1⟩)
  rw [Nat.zero_add] at h1
  exact h1
