/-! THE MODEL: values are looked for -/
set_option maxRecDepth 4000
theorem smU_z {g : Nat → Int} : ∀ n, (∀ j, j < n → g j = 0) → smU g n = 0
  | 0, _ => rfl
  | n + 1, h => by rw [smU_s, smU_z n (fun j hj => h j (by omega)), h n (by omega)]; rfl
theorem smU_g {g : Nat → Int} : ∀ n, (∀ j, 0 ≤ g j) → 0 ≤ smU g n ∧ ∀ m, m < n → g m ≤ smU g n
  | 0, _ => ⟨Int.le_refl _, fun m hm => absurd hm (Nat.not_lt_zero m)⟩
  | n + 1, h => by
    have ih := smU_g n h
    have hn := h n
    refine ⟨by rw [smU_s]; omega, fun m hm => ?_⟩
    rw [smU_s]
    by_cases e : m = n
    · subst e; omega
    · have := ih.2 m (by omega); omega
theorem bz_ge {p : Prop} [Decidable p] : 0 ≤ bz p := by have := bz_01 (p := p); omega
theorem tm_fd {ch : Nat → Nat} {f : Nat → Int} {n k : Nat} {v : Int} : (fdW ch f n v k = -1 → tmW ch f n v k = 0) ∧ (fdW ch f n v k ≠ -1 → 0 < tmW ch f n v k) := by
  constructor
  · intro h
    exact smU_z (g := fun j => bz (f (stU ch k + j) = v)) _ (fun j hj => bz_f (fndF_none (P := fun i => f i = v) (hB ch n k) (stU ch k) h j hj))
  · intro h
    rcases fndF_ex (P := fun i => f i = v) (hB ch n k) (stU ch k) with g | ⟨m, h1, -, h3, -⟩
    · exact absurd g h
    · have := (smU_g (g := fun j => bz (f (stU ch k + j) = v)) (hB ch n k) (fun j => bz_ge)).2 m h1
      rw [bz_t h3] at this
      show 0 < smU (fun j => bz (f (stU ch k + j) = v)) (hB ch n k)
      omega
theorem tm_bd {ch : Nat → Nat} {f : Nat → Int} {n k : Nat} {v : Int} (hk : k < nW ch n) (hn : n ≤ 120) : 0 ≤ tmW ch f n v k ∧ tmW ch f n v k ≤ 120 := by
  have hb := hB_bd hk
  have h := smU_bd (g := fun j => bz (f (stU ch k + j) = v)) (B := 1) (hB ch n k) (fun j _ => by
    have := bz_01 (p := f (stU ch k + j) = v)
    omega)
  show 0 ≤ smU (fun j => bz (f (stU ch k + j) = v)) (hB ch n k) ∧ smU (fun j => bz (f (stU ch k + j) = v)) (hB ch n k) ≤ 120
  omega
theorem ft_no {v : Int} {w : Nat} (hv : ¬ (0 ≤ v ∧ v ≤ 268435455)) (hw : w < 9) : ¬ ftW v w := fun h => by
  have hb := wid_bd w hw
  have h2 : (2 : Int) ^ wid w ≤ 268435456 := by
    have : (2 : Nat) ^ wid w ≤ 2 ^ 28 := Nat.pow_le_pow_right (by decide) hb.2.1
    have h3 : ((2 ^ wid w : Nat) : Int) ≤ ((2 ^ 28 : Nat) : Int) := Int.ofNat_le.mpr this
    rw [Int.natCast_pow] at h3
    exact h3
  obtain ⟨h0, h1⟩ := h
  omega
theorem m_first {t : KT} {σ : SG} {A : RA} {r v : Int} (hA : MA A σ) (hC : MC σ) (hr : -2147483648 ≤ r ∧ r < 2147483648) (hv : -2147483648 ≤ v ∧ v < 2147483648) : ∃ σ', Ca 7 283 [aR (some (40, 0, 0)), aI (iZ r), aI (iZ v)] (am_hp σ) t (.inl (some (aI (iZ (moI (A_first A r v).1)))), am_hp σ', t) ∧ σ'.1 (40, 0, 0) 0 = moC (A_first A r v).1 ∧ MG (A_first A r v).2 σ σ' := by
  have cr := s_X12_isRow (t := t) hA hr
  refine ex_of (e_X12_first ?_)
  refine wq (fun Q hQ => ?_)
  unfold A_first at hQ
  by_cases hR : isR A r
  · rw [if_pos hR] at hQ
    have hn := isR_n hR
    have A1 := hA.m (MF.ck (σ := σ) (z := 0))
    have C1 := hC.m (MF.ck (σ := σ) (z := 0))
    have cv := s_X12_isValue (t := t) (σ := cd σ 0) hv
    refine b_X12_first_0 (cr.up (by omega)) ((goes_t hR).up (by omega)) (by omega) (fun _ => ?_) (fun q => by omega)
    by_cases hV : 0 ≤ v ∧ v ≤ 268435455
    · obtain ⟨σ2, c2, w2, p2, q2⟩ := s_X12_packsRow (t := t) A1 C1 hn.1
      rw [hn.2] at c2
      have w2n := w2.n
      have ok := okM q2
      refine b_X12_first_14 (cv.up (by omega)) bz_rg (fun q => absurd hV (bz_0.mp q)) (fun _ => b_X12_first_21 (c2.up (by omega)) (b_X12_first_30 ?_))
      generalize chA A r.toNat = ch at w2 w2n c2 hQ
      generalize rNu A r.toNat = f at w2 hQ
      generalize rLn A r.toNat = n at w2 w2n c2 hQ
      refine w_loopS (nW ch n) (fun k c => ∃ σ3, c = (34, [some (aR (some (40, 0, 0))), some (aI (iZ r)), some (aI (iZ v)), some (aI (iZ ((nW ch n : Int)))), some (aI (iZ ((k : Int))))], [], am_hp σ3, t) ∧ WD ch f n σ3 ∧ σ3.1 (40, 0, 0) 0 = 0 ∧ MG (smU (fun k => bz (ftW v ((ch (stU ch k))))) k) σ σ3 ∧ ∀ j, j < k → ¬ htW ch f n v j) ⟨σ2, rfl, w2, ok.1, ok.2.g, fun j hj => absurd hj (Nat.not_lt_zero j)⟩ (fun k c hk hI go => ?_) (fun c hI => ?_)
      · obtain ⟨σ3, rfl, w3, z3, g3, h3⟩ := hI
        have hh : ∀ j, j < k + 1 → j ≠ k → ¬ htW ch f n v j := fun j hj hne => h3 j (by omega)
        refine b_X12_first_34 (by omega) (by omega) (fun q => by omega) (fun _ => ?_)
        refine b_X12_first_40 ((s_X12_mayHold w3 hk (by omega)).up (by omega)) bz_rg (fun q => ?_) (fun q => ?_)
        · have hft := bz_n.mp q
          have wt := w3.g (z := σ3.1 (40, 0, 0) 22 + 1)
          have g4 := g3.trans (MG.up (σ := σ3) (c := 1) rfl)
          rw [show smU (fun k => bz (ftW v ((ch (stU ch k))))) k + 1 = smU (fun k => bz (ftW v ((ch (stU ch k))))) (k + 1) by rw [smU_s, bz_t (p := ftW v ((ch (stU ch k)))) hft]] at g4
          have z4 : (sI σ3 (40, 0, 0) (up (σ3.1 (40, 0, 0)) 22 (σ3.1 (40, 0, 0) 22 + 1))).1 (40, 0, 0) 0 = 0 := by rw [sI_1, if_pos rfl, up_at, if_neg (by omega)]; exact z3
          have tb := tm_bd (f := f) (v := v) hk w2n.1
          have tf := tm_fd (ch := ch) (f := f) (n := n) (k := k) (v := v)
          refine b_X12_first_53 ((s_X12_inWord wt hk hv).up (by omega)) (by omega) (fun q2 => ?_) (fun q2 => ?_)
          · have hno : fdW ch f n v k = -1 := by
              apply Decidable.byContradiction
              intro z
              have := tf.2 z
              omega
            refine b_X12_first_81 (go _ ⟨_, rfl, wt, z4, g4, fun j hj => ?_⟩)
            by_cases e : j = k
            · subst e
              exact fun z => z.2 hno
            · exact hh j hj e
          · have hyes : fdW ch f n v k ≠ -1 := fun z => by
              have := tf.1 z
              omega
            have ef : fndF (htW ch f n v) 0 (nW ch n) = (k : Int) := by
              have := fndF_at (P := htW ch f n v) (nW ch n) 0 k hk (fun j hj => by rw [Nat.zero_add]; exact h3 j hj) (by rw [Nat.zero_add]; exact ⟨hft, hyes⟩)
              rw [Nat.zero_add] at this
              exact this
            rw [ef, if_neg (by omega), Int.toNat_natCast] at hQ
            exact b_X12_first_73 ((s_X12_firstIn wt hk hv hyes).up (by omega)) (hQ _ ⟨_, rfl, z4, g4⟩)
        · have hft := bz_0.mp q
          refine b_X12_first_50 (b_X12_first_81 (go _ ⟨σ3, rfl, w3, z3, ?_, fun j hj => ?_⟩))
          · rw [smU_s, bz_f (p := ftW v ((ch (stU ch k)))) hft, Int.add_zero]
            exact g3
          · by_cases e : j = k
            · subst e
              exact fun z => hft z.1
            · exact hh j hj e
      · obtain ⟨σ3, rfl, w3, z3, g3, h3⟩ := hI
        have ef : fndF (htW ch f n v) 0 (nW ch n) = -1 := fndF_no (P := htW ch f n v) (nW ch n) 0 (fun j hj => by rw [Nat.zero_add]; exact h3 j hj)
        rw [if_pos ef] at hQ
        exact b_X12_first_34 (by omega) (by omega) (fun _ => b_X12_first_87 (hQ _ ⟨σ3, rfl, z3, g3⟩)) (fun q => by omega)
    · have hno : ∀ k, k < (nW (chA A r.toNat) (rLn A r.toNat)) → ¬ ftW v ((chA A r.toNat (stU (chA A r.toNat) k))) := fun k hk => ft_no hV (wayF_GW (ru := rRu A) (pr := rPr A) (hA.1.v hn.1) _ (sT_in hk).2).1
      have ef : fndF (htW (chA A r.toNat) (rNu A r.toNat) (rLn A r.toNat) v) 0 ((nW (chA A r.toNat) (rLn A r.toNat))) = -1 := fndF_no (P := htW (chA A r.toNat) (rNu A r.toNat) (rLn A r.toNat) v) _ 0 (fun j hj => by rw [Nat.zero_add]; exact fun z => hno j hj z.1)
      rw [if_pos ef, smU_z (g := fun k => bz (ftW v ((chA A r.toNat (stU (chA A r.toNat) k))))) _ (fun k hk => bz_f (hno k hk))] at hQ
      refine b_X12_first_14 (cv.up (by omega)) bz_rg (fun _ => b_X12_first_29 (b_X12_first_30 ?_)) (fun q => absurd (bz_n.mp q) hV)
      exact b_X12_first_34 (by omega) (by omega) (fun _ => b_X12_first_87 (hQ _ ⟨_, rfl, (noM 0).1, (noM 0).2.g⟩)) (fun q => by omega)
  · rw [if_neg hR] at hQ
    exact b_X12_first_0 (cr.up (by omega)) ((goes_f hR).up (by omega)) (by omega) (fun q => absurd rfl q) (fun _ => b_X12_first_12 (hQ _ ⟨_, rfl, (noM 1).1, (noM 1).2.g⟩))
theorem m_many {t : KT} {σ : SG} {A : RA} {r v : Int} (hA : MA A σ) (hC : MC σ) (hr : -2147483648 ≤ r ∧ r < 2147483648) (hv : -2147483648 ≤ v ∧ v < 2147483648) : ∃ σ', Ca 7 284 [aR (some (40, 0, 0)), aI (iZ r), aI (iZ v)] (am_hp σ) t (.inl (some (aI (iZ (moI (A_many A r v).1)))), am_hp σ', t) ∧ σ'.1 (40, 0, 0) 0 = moC (A_many A r v).1 ∧ MG (A_many A r v).2 σ σ' := by
  have cr := s_X12_isRow (t := t) hA hr
  refine ex_of (e_X12_many ?_)
  refine wq (fun Q hQ => ?_)
  unfold A_many at hQ
  by_cases hR : isR A r
  · rw [if_pos hR] at hQ
    have hn := isR_n hR
    have A1 := hA.m (MF.ck (σ := σ) (z := 0))
    have C1 := hC.m (MF.ck (σ := σ) (z := 0))
    have cv := s_X12_isValue (t := t) (σ := cd σ 0) hv
    refine b_X12_many_0 (cr.up (by omega)) ((goes_t hR).up (by omega)) (by omega) (fun _ => ?_) (fun q => by omega)
    by_cases hV : 0 ≤ v ∧ v ≤ 268435455
    · obtain ⟨σ2, c2, w2, p2, q2⟩ := s_X12_packsRow (t := t) A1 C1 hn.1
      rw [hn.2] at c2
      have w2n := w2.n
      have ok := okM q2
      refine b_X12_many_14 (cv.up (by omega)) bz_rg (fun q => absurd hV (bz_0.mp q)) (fun _ => b_X12_many_21 (c2.up (by omega)) (b_X12_many_30 ?_))
      generalize chA A r.toNat = ch at w2 w2n c2 hQ
      generalize rNu A r.toNat = f at w2 hQ
      generalize rLn A r.toNat = n at w2 w2n c2 hQ
      refine w_loopS (nW ch n) (fun k c => ∃ σ3, c = (37, [some (aR (some (40, 0, 0))), some (aI (iZ r)), some (aI (iZ v)), some (aI (iZ ((nW ch n : Int)))), some (aI (iZ (smU (fun k => if ftW v ((ch (stU ch k))) then tmW ch f n v k else 0) k))), some (aI (iZ ((k : Int))))], [], am_hp σ3, t) ∧ WD ch f n σ3 ∧ σ3.1 (40, 0, 0) 0 = 0 ∧ MG (smU (fun k => bz (ftW v ((ch (stU ch k))))) k) σ σ3) ⟨σ2, rfl, w2, ok.1, ok.2.g⟩ (fun k c hk hI go => ?_) (fun c hI => ?_)
      · obtain ⟨σ3, rfl, w3, z3, g3⟩ := hI
        refine b_X12_many_37 (by omega) (by omega) (fun q => by omega) (fun _ => ?_)
        refine b_X12_many_43 ((s_X12_mayHold w3 hk (by omega)).up (by omega)) bz_rg (fun q => ?_) (fun q => ?_)
        · have hft := bz_n.mp q
          have wt := w3.g (z := σ3.1 (40, 0, 0) 22 + 1)
          have g4 := g3.trans (MG.up (σ := σ3) (c := 1) rfl)
          rw [show smU (fun k => bz (ftW v ((ch (stU ch k))))) k + 1 = smU (fun k => bz (ftW v ((ch (stU ch k))))) (k + 1) by rw [smU_s, bz_t (p := ftW v ((ch (stU ch k)))) hft]] at g4
          have z4 : (sI σ3 (40, 0, 0) (up (σ3.1 (40, 0, 0)) 22 (σ3.1 (40, 0, 0) 22 + 1))).1 (40, 0, 0) 0 = 0 := by rw [sI_1, if_pos rfl, up_at, if_neg (by omega)]; exact z3
          refine b_X12_many_56 ((s_X12_inWord wt hk hv).up (by omega)) (b_X12_many_78 (go _ ⟨_, ?_, wt, z4, g4⟩))
          rw [smU_s, if_pos hft]
          rfl
        · have hft := bz_0.mp q
          refine b_X12_many_53 (b_X12_many_78 (go _ ⟨σ3, ?_, w3, z3, ?_⟩))
          · rw [smU_s, if_neg hft, Int.add_zero]
            rfl
          · rw [smU_s, bz_f (p := ftW v ((ch (stU ch k)))) hft, Int.add_zero]
            exact g3
      · obtain ⟨σ3, rfl, w3, z3, g3⟩ := hI
        exact b_X12_many_37 (by omega) (by omega) (fun _ => b_X12_many_84 (hQ _ ⟨σ3, rfl, z3, g3⟩)) (fun q => by omega)
    · have hno : ∀ k, k < (nW (chA A r.toNat) (rLn A r.toNat)) → ¬ ftW v ((chA A r.toNat (stU (chA A r.toNat) k))) := fun k hk => ft_no hV (wayF_GW (ru := rRu A) (pr := rPr A) (hA.1.v hn.1) _ (sT_in hk).2).1
      rw [smU_z (g := fun k => bz (ftW v ((chA A r.toNat (stU (chA A r.toNat) k))))) _ (fun k hk => bz_f (hno k hk)), smU_z (g := fun k => if ftW v ((chA A r.toNat (stU (chA A r.toNat) k))) then tmW (chA A r.toNat) (rNu A r.toNat) (rLn A r.toNat) v k else 0) _ (fun k hk => if_neg (hno k hk))] at hQ
      refine b_X12_many_14 (cv.up (by omega)) bz_rg (fun _ => b_X12_many_29 (b_X12_many_30 ?_)) (fun q => absurd (bz_n.mp q) hV)
      exact b_X12_many_37 (by omega) (by omega) (fun _ => b_X12_many_84 (hQ _ ⟨_, rfl, (noM 0).1, (noM 0).2.g⟩)) (fun q => by omega)
  · rw [if_neg hR] at hQ
    exact b_X12_many_0 (cr.up (by omega)) ((goes_f hR).up (by omega)) (by omega) (fun q => absurd rfl q) (fun _ => b_X12_many_12 (hQ _ ⟨_, rfl, (noM 1).1, (noM 1).2.g⟩))
