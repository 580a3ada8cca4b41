/-! THE MODEL: its state; reads that are counted -/
set_option maxRecDepth 4000
def MV (v : Option RA) (σ : SG) : Prop := match v with
  | none => σ.1 (40, 0, 0) 23 = 0
  | some B => σ.1 (40, 0, 0) 23 = 1 ∧ Av B ∧ MR B (σ.1 (43, 0, 0)) 0
def MH (l : List RA) (σ : SG) : Prop := l.length ≤ 6 ∧ σ.1 (40, 0, 0) 17 = l.length ∧ ∀ j B, l[j]? = some B → Av B ∧ MR B (σ.1 (45, 0, 0)) (264 * (l.length - 1 - j))
def MB (T : TB) (σ : SG) : Prop := σ.1 (40, 0, 0) 2 = T.2 ∧ T.2 ≤ 600 ∧ (∀ j, 0 ≤ T.1 j ∧ T.1 j ≤ 255) ∧ ∀ j, j < T.2 → σ.1 (41, 0, 0) j = T.1 j
def MP (l : List Int) (σ : SG) : Prop := l.length ≤ 730 ∧ σ.1 (40, 0, 0) 47 = l.length ∧ (σ.1 (40, 0, 0) 48 = 0 ∨ σ.1 (40, 0, 0) 48 = 1) ∧ (l ≠ [] → σ.1 (40, 0, 0) 48 = 1) ∧ ∀ j, j < l.length → σ.1 (62, 0, 0) j = l.getD j 0
def MN (c : Nat → Int) (σ : SG) : Prop := σ.1 (40, 0, 0) 18 = c 0 ∧ σ.1 (40, 0, 0) 19 = c 1 ∧ σ.1 (40, 0, 0) 20 = c 2 ∧ σ.1 (40, 0, 0) 22 = c 3
/-- the model holds the system S -/
def MS (S : SS) (σ : SG) : Prop := MA (xA S) σ ∧ MC σ ∧ MV (xV S) σ ∧ MH (xP S) σ ∧ MN (xC S) σ ∧ σ.1 (40, 0, 0) 21 = xL S ∧ MB (xT S) σ ∧ (σ.1 (40, 0, 0) 10 = (xE S).1 ∧ σ.1 (40, 0, 0) 11 = (xE S).2) ∧ MP (xR S) σ
/-- only c words more were read -/
def MG (c : Int) (σ σ' : SG) : Prop := Fr inQ σ σ' ∧ (∀ j, j ≠ 0 → j ≠ 22 → j ≠ 33 → j ≠ 34 → σ'.1 (40, 0, 0) j = σ.1 (40, 0, 0) j) ∧ σ'.2.1 (40, 0, 0) = σ.2.1 (40, 0, 0) ∧ σ'.1 (40, 0, 0) 22 = σ.1 (40, 0, 0) 22 + c
theorem MF.g {σ σ' : SG} (h : MF σ σ') : MG 0 σ σ' := ⟨h.1, fun j h0 _ h1 h2 => h.2.1 j h0 h1 h2, h.2.2, by rw [h.2.1 22 (by omega) (by omega) (by omega)]; omega⟩
theorem MG.trans {c d : Int} {σ σ' σ2 : SG} (h : MG c σ σ') (g : MG d σ' σ2) : MG (c + d) σ σ2 := ⟨h.1.trans g.1, fun j h0 h1 h2 h3 => by rw [g.2.1 j h0 h1 h2 h3]; exact h.2.1 j h0 h1 h2 h3, by rw [g.2.2.1]; exact h.2.2.1, by rw [g.2.2.2, h.2.2.2]; omega⟩
theorem MG.up {σ : SG} {z c : Int} (e : z = σ.1 (40, 0, 0) 22 + c) : MG c σ (sI σ (40, 0, 0) (up (σ.1 (40, 0, 0)) 22 z)) := ⟨Fr.sI (P := inQ) (Or.inl rfl), fun j _ h1 _ _ => by rw [sI_1, if_pos rfl, up_at, if_neg h1], rfl, by simp [sI_1, up_at, e]⟩
theorem MA.g {A : RA} {σ σ' : SG} {c : Int} (h : MA A σ) (f : MG c σ σ') : MA A σ' := h.fr f.1 (by unfold inQ; omega)
theorem MC.g {σ σ' : SG} {c : Int} (h : MC σ) (f : MG c σ σ') : MC σ' := h.fr f.1 (by unfold inQ; omega) (by unfold inQ; omega)
theorem MS.g {S : SS} {σ σ' : SG} {c : Int} (h : MS S σ) (f : MG c σ σ') : MS (upC S 3 c) σ' := by
  obtain ⟨h1, h2, h3, h4, h5, h6, h7, h8, h9⟩ := h
  have o : ∀ a : Nat, ¬ inQ (a, 0, 0) → σ'.1 (a, 0, 0) = σ.1 (a, 0, 0) := fun a ha => (f.1.1 _ ha).1
  have e : ∀ j, j ≠ 0 → j ≠ 22 → j ≠ 33 → j ≠ 34 → σ'.1 (40, 0, 0) j = σ.1 (40, 0, 0) j := f.2.1
  refine ⟨h1.g f, h2.g f, ?_, ?_, ⟨?_, ?_, ?_, ?_⟩, ?_, ⟨?_, h7.2.1, h7.2.2.1, ?_⟩, ⟨?_, ?_⟩, ⟨h9.1, ?_, ?_, ?_, ?_⟩⟩
  · show MV (xV S) σ'
    unfold MV at h3 ⊢
    rw [e 23 (by omega) (by omega) (by omega) (by omega), o 43 (by unfold inQ; omega)]
    exact h3
  · show MH (xP S) σ'
    unfold MH at h4 ⊢
    rw [e 17 (by omega) (by omega) (by omega) (by omega), o 45 (by unfold inQ; omega)]
    exact h4
  · rw [e 18 (by omega) (by omega) (by omega) (by omega)]; exact h5.1
  · rw [e 19 (by omega) (by omega) (by omega) (by omega)]; exact h5.2.1
  · rw [e 20 (by omega) (by omega) (by omega) (by omega)]; exact h5.2.2.1
  · show σ'.1 (40, 0, 0) 22 = fup (xC S) 3 (xC S 3 + c) 3
    rw [f.2.2.2, h5.2.2.2]
    rfl
  · rw [e 21 (by omega) (by omega) (by omega) (by omega)]; exact h6
  · rw [e 2 (by omega) (by omega) (by omega) (by omega)]; exact h7.1
  · rw [o 41 (by unfold inQ; omega)]; exact h7.2.2.2
  · rw [e 10 (by omega) (by omega) (by omega) (by omega)]; exact h8.1
  · rw [e 11 (by omega) (by omega) (by omega) (by omega)]; exact h8.2
  · rw [e 47 (by omega) (by omega) (by omega) (by omega)]; exact h9.2.1
  · rw [e 48 (by omega) (by omega) (by omega) (by omega)]; exact h9.2.2.1
  · rw [e 48 (by omega) (by omega) (by omega) (by omega)]; exact h9.2.2.2.1
  · rw [o 62 (by unfold inQ; omega)]; exact h9.2.2.2.2
theorem upC_0 (S : SS) : upC S 3 0 = S := by
  obtain ⟨a, b, c, d, e⟩ := S
  unfold upC
  have : fup d 3 (d 3 + 0) = d := by
    funext j
    unfold fup
    by_cases h : j = 3
    · rw [if_pos h, h, Int.add_zero]
    · rw [if_neg h]
  show (a, b, c, fup d 3 (d 3 + 0), e) = _
  rw [this]
theorem MS.m {S : SS} {σ σ' : SG} (h : MS S σ) (f : MF σ σ') : MS S σ' := by
  have := h.g f.g
  rw [upC_0] at this
  exact this
theorem WD.g {ch : Nat → Nat} {f : Nat → Int} {n : Nat} {σ : SG} {z : Int} (h : WD ch f n σ) : WD ch f n (sI σ (40, 0, 0) (up (σ.1 (40, 0, 0)) 22 z)) := by
  obtain ⟨⟨a1, a2, a3⟩, ⟨b1, b2, b3⟩, c, d⟩ := h
  have o : ∀ a : Nat, a ≠ 40 → (sI σ (40, 0, 0) (up (σ.1 (40, 0, 0)) 22 z)).1 (a, 0, 0) = σ.1 (a, 0, 0) := fun a ha => by simp [sI_1, ha]
  have c4 : ∀ j, j ≠ 22 → (sI σ (40, 0, 0) (up (σ.1 (40, 0, 0)) 22 z)).1 (40, 0, 0) j = σ.1 (40, 0, 0) j := fun j hj => by simp [sI_1, up_at, hj]
  exact ⟨⟨by rw [c4 34 (by omega)]; exact a1, by rw [o 51 (by omega)]; exact a2, by rw [o 52 (by omega)]; exact a3⟩, ⟨by rw [c4 33 (by omega)]; exact b1, b2, by rw [o 48 (by omega), o 49 (by omega)]; exact b3⟩, c, d.fr (Fr.sI (P := fun L : Lc => L.1 = 40) rfl) (by decide) (by decide)⟩
theorem m_read {t : KT} {σ : SG} {A : RA} {r i : Int} (hA : MA A σ) (hC : MC σ) (hr : -2147483648 ≤ r ∧ r < 2147483648) (hi : -2147483648 ≤ i ∧ i < 2147483648) : ∃ σ', Ca 7 277 [aR (some (40, 0, 0)), aI (iZ r), aI (iZ i)] (am_hp σ) t (.inl (some (aI (iZ (moI (A_read A r i).1)))), am_hp σ', t) ∧ σ'.1 (40, 0, 0) 0 = moC (A_read A r i).1 ∧ MG (A_read A r i).2 σ σ' := by
  have cr := s_X12_isNumber (t := t) hA hr hi
  refine ex_of (e_X12_read ?_)
  unfold A_read
  by_cases hN : isN A r i
  · rw [if_pos hN]
    have hn := isR_n hN.1
    have A1 := hA.m (MF.ck (σ := σ) (z := 0))
    obtain ⟨σ2, c2, w2, p2, q2⟩ := s_X12_packsRow (t := t) A1 (hC.m (MF.ck (σ := σ) (z := 0))) hn.1
    rw [hn.2] at c2
    have hi2 : i.toNat < rLn A r.toNat := by have := hN.2; omega
    have w2n := w2.n
    have hpos := wd_of (ch := chA A r.toNat) hi2
    have co := s_X12_readsOf (t := t) (A1.q q2) w2 hi2
    rw [show ((i.toNat : Nat) : Int) = i by have := hN.2; omega] at co
    have hv := w2.2.1.2.2 i.toNat hi2
    have ok := okM q2
    refine b_X12_read_0 (cr.up (by omega)) ((goes_t hN).up (by omega)) (by omega) (fun _ => ?_) (fun q => by omega)
    refine b_X12_read_15 (c2.up (by omega)) (by omega) (fun q => by omega) (fun _ => b_X12_read_30 (co.up (by omega)) (b_X12_read_39 (by have := hN.2; omega) ⟨(sI σ2 (40, 0, 0) (up (σ2.1 (40, 0, 0)) 22 (σ2.1 (40, 0, 0) 22 + (rdN (chA A r.toNat) (rLn A r.toNat) (rSk A) i.toNat : Int)))), ?_, ?_, ?_⟩))
    · rw [show (sI σ2 (40, 0, 0) (up (σ2.1 (40, 0, 0)) 22 (σ2.1 (40, 0, 0) 22 + (rdN (chA A r.toNat) (rLn A r.toNat) (rSk A) i.toNat : Int)))).1 (48, 0, 0) i.toNat = rNu A r.toNat i.toNat by simp [sI_1, hv.1]]
      rfl
    · rw [sI_1, if_pos rfl, up_at, if_neg (by omega)]
      exact ok.1
    · have := ok.2.g.trans (MG.up (σ := σ2) (c := (rdN (chA A r.toNat) (rLn A r.toNat) (rSk A) i.toNat : Int)) rfl)
      rw [Int.zero_add] at this
      exact this
  · rw [if_neg hN]
    exact b_X12_read_0 (cr.up (by omega)) ((goes_f hN).up (by omega)) (by omega) (fun q => absurd rfl q) (fun _ => b_X12_read_13 ⟨_, rfl, (noM 1).1, (noM 1).2.g⟩)
theorem m_sum {t : KT} {σ : SG} {A : RA} {r a b : Int} (hA : MA A σ) (hC : MC σ) (hr : -2147483648 ≤ r ∧ r < 2147483648) (ha : -2147483648 ≤ a ∧ a < 2147483648) (hb : -2147483648 ≤ b ∧ b < 2147483648) : ∃ σ', Ca 7 279 [aR (some (40, 0, 0)), aI (iZ r), aI (iZ a), aI (iZ b)] (am_hp σ) t (.inl (some (aL (jZ (moI (A_sum A r a b).1)))), am_hp σ', t) ∧ σ'.1 (40, 0, 0) 0 = moC (A_sum A r a b).1 ∧ MG (A_sum A r a b).2 σ σ' := by
  have cr := s_X12_isRow (t := t) hA hr
  refine ex_of (e_X12_sum ?_)
  unfold A_sum
  by_cases hR : isR A r
  · rw [if_pos hR]
    have hn := isR_n hR
    have cm := s_X12_manyIn (t := t) hA hn.1
    have hl := hA.len hn.1
    rw [hn.2] at cm
    rw [bz_t hR] at cr
    have go : ∀ z : Prop, [Decidable z] → (z ↔ (0 ≤ a ∧ a ≤ b ∧ b ≤ rLn A r.toNat)) → True := fun _ _ _ => trivial
    by_cases hW : 0 ≤ a ∧ a ≤ b ∧ b ≤ rLn A r.toNat
    · rw [if_pos hW]
      have A1 := hA.m (MF.ck (σ := σ) (z := 0))
      have C1 := hC.m (MF.ck (σ := σ) (z := 0))
      obtain ⟨σ2, c2, w2, p2, q2⟩ := s_X12_packsRow (t := t) A1 C1 hn.1
      rw [hn.2] at c2
      have w2n := w2.n
      have A2 := A1.q q2
      have ok := okM q2
      have cg := gB_t (t := t) (σ := σ) (P := True) (R := True) trivial trivial
      rw [bz_t (p := True) trivial] at cg
      have en : ((a.toNat : Nat) : Int) = a ∧ ((b.toNat : Nat) : Int) = b := by omega
      have cs := fun z => s_X12_sumOf (t := t) (a := a.toNat) (b := b.toNat) (w2.g (z := z)).2.1 (by omega) (by omega)
      have es : smF (rNu A r.toNat) a.toNat (b.toNat - a.toNat) = smF (rNu A r.toNat) 0 b.toNat - smF (rNu A r.toNat) 0 a.toNat := by
        have := smF_add (rNu A r.toNat) a.toNat 0 (b.toNat - a.toNat)
        rw [Nat.zero_add, show a.toNat + (b.toNat - a.toNat) = b.toNat by omega] at this
        omega
      rw [es, en.1, en.2] at cs
      refine b_X12_sum_0 (cr.up (by omega)) (by omega) (fun q => by omega) (fun _ => ?_)
      refine b_X12_sum_15 ha (fun q => by omega) (fun _ => b_X12_sum_19 ha hb (fun q => by omega) (fun _ => b_X12_sum_24 (cm.up (by omega)) hb (by omega) (fun q => by omega) (fun _ => b_X12_sum_33 ?_)))
      refine b_X12_sum_38 (cg.up (by omega)) (by omega) (fun _ => ?_) (fun q => by omega)
      have fin : ∀ c : Int, c = (raN (chA A r.toNat) (rLn A r.toNat) (rSk A) a.toNat : Int) + (raN (chA A r.toNat) (rLn A r.toNat) (rSk A) b.toNat : Int) → (sI σ2 (40, 0, 0) (up (σ2.1 (40, 0, 0)) 22 (σ2.1 (40, 0, 0) 22 + c))).1 (40, 0, 0) 0 = 0 ∧ MG ((raN (chA A r.toNat) (rLn A r.toNat) (rSk A) a.toNat : Int) + (raN (chA A r.toNat) (rLn A r.toNat) (rSk A) b.toNat : Int)) σ (sI σ2 (40, 0, 0) (up (σ2.1 (40, 0, 0)) 22 (σ2.1 (40, 0, 0) 22 + c))) := fun c hc => by
        subst hc
        refine ⟨?_, ?_⟩
        · rw [sI_1, if_pos rfl, up_at, if_neg (by omega)]
          exact ok.1
        · have := ok.2.g.trans (MG.up (σ := σ2) (c := (raN (chA A r.toNat) (rLn A r.toNat) (rSk A) a.toNat : Int) + (raN (chA A r.toNat) (rLn A r.toNat) (rSk A) b.toNat : Int)) rfl)
          rw [Int.zero_add] at this
          exact this
      refine b_X12_sum_46 (c2.up (by omega)) (by omega) (fun q => ?_) (fun q => ?_)
      · have ca := s_X12_readsAhead (t := t) (i := a.toNat) A2 w2 (by omega) (by omega)
        have cb := s_X12_readsAhead (t := t) (i := b.toNat) A2 w2 (by omega) (by omega)
        rw [en.1] at ca
        rw [en.2] at cb
        exact b_X12_sum_67 (ca.up (by omega)) (cb.up (by omega)) (b_X12_sum_78 ((cs _).up (by omega)) ⟨_, rfl, fin _ rfl⟩)
      · have hz : ∀ x : Nat, raN (chA A r.toNat) (rLn A r.toNat) (rSk A) x = 0 := fun x => by
          have : cLt (chA A r.toNat) (rLn A r.toNat) x ≤ nW (chA A r.toNat) (rLn A r.toNat) := cnU_le _ _
          unfold raN
          omega
        exact b_X12_sum_63 (b_X12_sum_78 ((cs _).up (by omega)) ⟨_, rfl, fin 0 (by rw [hz, hz]; rfl)⟩)
    · rw [if_neg hW]
      have cg := gB_2 (t := t) (σ := σ) (P := True) (R := False) trivial (fun z => z)
      rw [bz_t (p := True) trivial, bz_f (p := False) (fun z => z)] at cg
      have no : Wp k_X12_sum 6 (37, [some (aR (some (40, 0, 0))), some (aI (iZ r)), some (aI (iZ a)), some (aI (iZ b)), some (aI (iZ 1)), none], [aI (iZ 1), aR (some (40, 0, 0))], am_hp σ, t) (fun r' => ∃ σ', r' = (.inl (some (aL (jZ 0))), am_hp σ', t) ∧ σ'.1 (40, 0, 0) 0 = 2 ∧ MG 0 σ σ') := b_X12_sum_37 (b_X12_sum_38 (cg.up (by omega)) (by omega) (fun q => absurd rfl q) (fun _ => b_X12_sum_44 ⟨_, rfl, (noM 2).1, (noM 2).2.g⟩))
      refine b_X12_sum_0 (cr.up (by omega)) (by omega) (fun q => by omega) (fun _ => ?_)
      refine b_X12_sum_15 ha (fun _ => no) (fun _ => b_X12_sum_19 ha hb (fun _ => no) (fun _ => b_X12_sum_24 (cm.up (by omega)) hb (by omega) (fun _ => no) (fun q => absurd ⟨by omega, by omega, by omega⟩ hW)))
  · rw [if_neg hR]
    rw [bz_f hR] at cr
    have cg := gB_1 (t := t) (σ := σ) (P := False) (R := False) (fun z => z)
    rw [bz_f (p := False) (fun z => z)] at cg
    exact b_X12_sum_0 (cr.up (by omega)) (by omega) (fun _ => b_X12_sum_37 (b_X12_sum_38 (cg.up (by omega)) (by omega) (fun q => absurd rfl q) (fun _ => b_X12_sum_44 ⟨_, rfl, (noM 1).1, (noM 1).2.g⟩))) (fun q => absurd rfl q)
