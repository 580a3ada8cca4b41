/-! SPECIFICATIONS: the cheapest ways are chosen, II -/
set_option maxRecDepth 4000
theorem l_X5_cc1 {d : Nat} {t : KT} {Q : RS → Prop} {f c : Nat → Int} {n : Nat} (hv : ∀ j, j < n → 0 ≤ f j ∧ f j < 268435456) (hc : ∀ w, w < 9 → 0 ≤ c w ∧ c w ≤ 101377) : ∀ (k : Nat) (u u3 : Option AV) (σ : SG), k ≤ n → PL f n σ → PT f n σ → PK c σ → (∀ j, k ≤ j → j ≤ n → σ.1 (22, 0, 0) j = Bc f n c j) → (∀ j, k ≤ j → j < n → σ.1 (21, 0, 0) j = cheW f n c j) →
    (∀ σ', Fr inB σ σ' → PC (cheW f n c) n σ' → Q (.inl none, am_hp σ', t)) →
    Wp k_X5_chooseCheapest (d + 1) (17, [some (aR (some (18, 0, 0))), some (aI (iZ ((k : Int) - 1))), u, u3], [], am_hp σ, t) Q
  | 0, u, u3, σ, hk, hP, hT, hK, hb, hch, q => by
    refine b_X5_chooseCheapest_17 (by omega) (fun _ => ?_) (fun h => by omega)
    refine b_X5_chooseCheapest_108 (q σ (Fr.refl _ _) (fun j hj => ⟨hch j (Nat.zero_le _) hj, ?_⟩))
    exact (pick_ok (tk f n j) (gW f n c j) (tk_8 hj hv)).2.1
  | k + 1, u, u3, σ, hk, hP, hT, hK, hb, hch, q => by
    have hp2 := hP.2.1
    have hi : k < n := by omega
    rw [show (((k + 1 : Nat) : Int) - 1) = (k : Int) by omega]
    refine b_X5_chooseCheapest_17 (by omega) (fun h => by omega) (fun _ => ?_)
    refine b_X5_chooseCheapest_21 (by omega) ?_
    have fa : Fr inB σ (sI σ (22, 0, 0) (up (σ.1 (22, 0, 0)) (k : Int).toNat 1073741824)) := Fr.sI (Or.inr rfl)
    have g22 : ∀ j, (sI σ (22, 0, 0) (up (σ.1 (22, 0, 0)) (k : Int).toNat 1073741824)).1 (22, 0, 0) j = if j = k then 1073741824 else σ.1 (22, 0, 0) j := fun j => by simp [sI_1, up_at]
    have g21 : (sI σ (22, 0, 0) (up (σ.1 (22, 0, 0)) (k : Int).toNat 1073741824)).1 (21, 0, 0) = σ.1 (21, 0, 0) := by simp [sI_1]
    generalize sI σ (22, 0, 0) (up (σ.1 (22, 0, 0)) (k : Int).toNat 1073741824) = σa at fa g22 g21 ⊢
    refine l_X5_cc2 (i := k) hi hv hc 9 0 none u3 σa (by omega) (hP.fr fa (inB_1 rfl) (inB_1 rfl)) (hT.fr fa (inB_1 rfl)) (hK.fr fa (inB_1 rfl)) (fun j h1 h2 => by rw [g22, if_neg (by omega)]; exact hb j (by omega) h2) (by rw [g22, if_pos rfl]; rfl) (fun v hv => by cases hv) (fun σ' u' f1 h1 h2 => ?_)
    have hp := pick_ok (tk f n k) (gW f n c k) (tk_8 hi hv)
    have h1 := h1 _ hp.1
    have fc := fa.trans f1
    refine b_X5_chooseCheapest_102 ?_
    refine l_X5_cc1 hv hc k _ _ σ' (by omega) (hP.fr fc (inB_1 rfl) (inB_1 rfl)) (hT.fr fc (inB_1 rfl)) (hK.fr fc (inB_1 rfl)) (fun j a b => ?_) (fun j a b => ?_) (fun σ'' f2 hc2 => q σ'' (fc.trans f2) hc2)
    · by_cases e : j = k
      · subst e
        rw [h1.1, Bc_step hi]
      · rw [(h2 j e).1, g22, if_neg e]
        exact hb j (by omega) b
    · by_cases e : j = k
      · subst e
        exact h1.2
      · rw [(h2 j e).2, g21]
        exact hch j (by omega) b
theorem s_X5_chooseCheapest {d : Nat} {t : KT} {σ : SG} {f c : Nat → Int} {n : Nat} (hv : ∀ j, j < n → 0 ≤ f j ∧ f j < 268435456) (hc : ∀ w, w < 9 → 0 ≤ c w ∧ c w ≤ 101377) (hP : PL f n σ) (hT : PT f n σ) (hK : PK c σ) : ∃ σ', Ca (d + 2) 30 [aR (some (18, 0, 0))] (am_hp σ) t (.inl none, am_hp σ', t) ∧ PC (cheW f n c) n σ' ∧ Fr inB σ σ' := by
  have hp2 := hP.2.1
  have e6 := hP.1
  refine ex_of (e_X5_chooseCheapest ?_)
  refine b_X5_chooseCheapest_0 (by rw [e6]; omega) ?_
  have fa : Fr inB σ (sI σ (22, 0, 0) (up (σ.1 (22, 0, 0)) (σ.1 (18, 0, 0) 6).toNat 0)) := Fr.sI (Or.inr rfl)
  have g6 : (sI σ (22, 0, 0) (up (σ.1 (22, 0, 0)) (σ.1 (18, 0, 0) 6).toNat 0)).1 (18, 0, 0) 6 = n := by simp [sI_1, e6]
  have g22 : (sI σ (22, 0, 0) (up (σ.1 (22, 0, 0)) (σ.1 (18, 0, 0) 6).toNat 0)).1 (22, 0, 0) n = 0 := by simp [sI_1, up_at, e6]
  rw [g6]
  generalize sI σ (22, 0, 0) (up (σ.1 (22, 0, 0)) (σ.1 (18, 0, 0) 6).toNat 0) = σa at fa g22 ⊢
  refine l_X5_cc1 hv hc n none none σa (Nat.le_refl _) (hP.fr fa (inB_1 rfl) (inB_1 rfl)) (hT.fr fa (inB_1 rfl)) (hK.fr fa (inB_1 rfl)) (fun j a b => ?_) (fun j a b => by omega) (fun σ' f1 h1 => ⟨σ', rfl, h1, fa.trans f1⟩)
  have e : j = n := by omega
  subst e
  rw [g22, Bc_end]
