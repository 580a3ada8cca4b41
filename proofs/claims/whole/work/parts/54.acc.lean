/-! SPECIFICATIONS: what is read and counted -/
set_option maxRecDepth 4000
def inA (L : Lc) : Prop := L.1 = 27
/-- c words more were read, and nothing else has changed -/
def AQ (σ σ' : SG) (c : Int) : Prop := Fr inA σ σ' ∧ σ'.1 (27, 0, 0) 3 = σ.1 (27, 0, 0) 3 + c ∧ ∀ j, j ≠ 3 → σ'.1 (27, 0, 0) j = σ.1 (27, 0, 0) j
theorem AQ.refl (σ : SG) : AQ σ σ 0 := ⟨Fr.refl _ _, by rw [Int.add_zero], fun _ _ => rfl⟩
theorem AQ.up {σ : SG} {c : Int} : AQ σ (sI σ (27, 0, 0) (up (σ.1 (27, 0, 0)) (3 : Int).toNat (σ.1 (27, 0, 0) 3 + c))) c := ⟨Fr.sI rfl, by simp [sI_1, up_at], fun j hj => by simp [sI_1, up_at, hj]⟩
theorem AQ.trans {a b c : SG} {x y : Int} (h : AQ a b x) (k : AQ b c y) : AQ a c (x + y) := ⟨h.1.trans k.1, by rw [k.2.1, h.2.1, Int.add_assoc], fun j hj => by rw [k.2.2 j hj, h.2.2 j hj]⟩
theorem CW.A {A : RA} {σ σ' : SG} (h : CW A σ) (k : Fr inA σ σ') : CW A σ' := h.fr k (fun L hL hP => by
  have hP : L.1 = 27 := hP
  rcases hL with hL | hL
  · unfold inR at hL; omega
  · omega)
theorem s_X11_read {t : KT} {σ : SG} {A : RA} {r i : Int} (hW : CW A σ) (hr : -2147483648 ≤ r ∧ r < 2147483648) (hi : -2147483648 ≤ i ∧ i < 2147483648) : ∃ σ', Ca 4 107 [aR (some (1, 0, 0)), aI (iZ r), aI (iZ i)] (am_hp σ) t (reI 2 2 σ' t ((A_read A r i).1)) ∧ AQ σ σ' (A_read A r i).2 := by
  refine rx_of (R := fun σ' => reI 2 2 σ' t (A_read A r i).1) (e_X11_read ?_)
  by_cases hc : isN A r i
  · have hl := hW.len hc.1
    rw [A_read, if_pos hc]
    have c := s_X11_readsOf (t := t) (r := r.toNat) (i := i.toNat) hW hl.2.2.1 (by omega) hW.1.2.2.1
    rw [hl.2.2.2.2, show ((i.toNat : Nat) : Int) = i by omega, ← hW.2.1.2.2.1] at c
    have hW2 := hW.A (AQ.up (σ := σ) (c := (rdN (chA A r.toNat) (rLn A r.toNat) (rSk A) i.toNat : Int))).1
    have c4 := s_X4_numberAt (t := t) (i := i.toNat) (hW2.px hc.1) (by omega)
    rw [show ((i.toNat : Nat) : Int) = i by omega] at c4
    exact b_X11_read_0 ((s_X11_checkNumber hW hc).up (by omega)) (c.up (by omega)) (by omega) (c4.up (by omega)) ⟨_, rfl, AQ.up⟩
  · rw [A_read, if_neg hc]
    exact bx_X11_read_0_1 (σ2 := σ) (σ3 := σ) ((t_X11_checkNumber hW hr hi hc).up (by omega)) ⟨σ, rfl, AQ.refl _⟩
theorem s_X11_sum {t : KT} {σ : SG} {A : RA} {r a b : Int} (hW : CW A σ) (hr : -2147483648 ≤ r ∧ r < 2147483648) (ha : -2147483648 ≤ a ∧ a < 2147483648) (hb : -2147483648 ≤ b ∧ b < 2147483648) : ∃ σ', Ca 4 108 [aR (some (1, 0, 0)), aI (iZ r), aI (iZ a), aI (iZ b)] (am_hp σ) t (reJ 2 1 σ' t ((A_sum A r a b).1)) ∧ AQ σ σ' (A_sum A r a b).2 := by
  refine rx_of (R := fun σ' => reJ 2 1 σ' t (A_sum A r a b).1) (e_X11_sum ?_)
  by_cases hc : isR A r
  · have hl := hW.len hc
    rw [A_sum, if_pos hc]
    by_cases hy : 0 ≤ a ∧ a ≤ b ∧ b ≤ rLn A r.toNat
    · rw [if_pos hy]
      have c1 := s_X11_readsAhead (t := t) (r := r.toNat) (i := a.toNat) hW hl.2.2.1 (by omega)
      have c2 := s_X11_readsAhead (t := t) (r := r.toNat) (i := b.toNat) hW hl.2.2.1 (by omega)
      rw [hl.2.2.2.2, show ((a.toNat : Nat) : Int) = a by omega] at c1
      rw [hl.2.2.2.2, show ((b.toNat : Nat) : Int) = b by omega] at c2
      have hW2 := hW.A (AQ.up (σ := σ) (c := (raN (chA A r.toNat) (rLn A r.toNat) (rSk A) a.toNat : Int) + (raN (chA A r.toNat) (rLn A r.toNat) (rSk A) b.toNat : Int))).1
      have c3 := s_X7_sum (t := t) (r := r.toNat) (a := 0) (b := b.toNat) hW2.1 hW2.2.1 hl.2.2.1 (by omega) (by omega)
      have c4 := s_X7_sum (t := t) (r := r.toNat) (a := 0) (b := a.toNat) hW2.1 hW2.2.1 hl.2.2.1 (by omega) (by omega)
      rw [hl.2.2.2.2, show ((b.toNat : Nat) : Int) = b by omega, Nat.sub_zero] at c3
      rw [hl.2.2.2.2, show ((a.toNat : Nat) : Int) = a by omega, Nat.sub_zero] at c4
      refine b_X11_sum_0 ((s_X11_checkRow hW hc).up (by omega)) ha (fun h => by omega) (fun _ => ?_)
      refine b_X11_sum_9 ha hb (fun h => by omega) (fun _ => ?_)
      refine b_X11_sum_14 (by omega) hb (by omega) (fun _ => ?_) (fun h => by omega)
      exact b_X11_sum_35 (c1.up (by omega)) (c2.up (by omega)) (c3.up (by omega)) (c4.up (by omega)) ⟨_, rfl, AQ.up⟩
    · rw [if_neg hy]
      have hfin : Wp k_X11_sum 3 (27, [some (aR (some (1, 0, 0))), some (aI (iZ r)), some (aI (iZ a)), some (aI (iZ b))], [], am_hp σ, t) (fun r' => ∃ σ', r' = reJ 2 1 σ' t (.inr 2) ∧ AQ σ σ' 0) := b_X11_sum_27 ⟨σ, rfl, AQ.refl _⟩
      refine b_X11_sum_0 ((s_X11_checkRow hW hc).up (by omega)) ha (fun _ => hfin) (fun _ => ?_)
      refine b_X11_sum_9 ha hb (fun _ => hfin) (fun _ => ?_)
      exact b_X11_sum_14 (by omega) hb (by omega) (fun h => by omega) (fun _ => hfin)
  · rw [A_sum, if_neg hc]
    exact bx_X11_sum_0_1 ((t_X11_checkRow hW hr hc).up (by omega)) ⟨σ, rfl, AQ.refl _⟩
theorem fdW_bd {ch : Nat → Nat} {f : Nat → Int} {n k : Nat} {v : Int} (hk : k < nW ch n) (hn : n ≤ 60) : -1 ≤ fdW ch f n v k ∧ fdW ch f n v k < 60 := by
  have h := fndF_bd (P := fun i => f i = v) (hB ch n k) (stU ch k)
  have h2 := hB_bd hk
  unfold fdW
  omega
theorem s_X11_first {t : KT} {σ : SG} {A : RA} {r v : Int} (hW : CW A σ) (hr : -2147483648 ≤ r ∧ r < 2147483648) (hv : -2147483648 ≤ v ∧ v < 2147483648) : ∃ σ', Ca 4 109 [aR (some (1, 0, 0)), aI (iZ r), aI (iZ v)] (am_hp σ) t (reI 2 2 σ' t ((A_first A r v).1)) ∧ AQ σ σ' (A_first A r v).2 := by
  refine rx_of (R := fun σ' => reI 2 2 σ' t (A_first A r v).1) (e_X11_first ?_)
  by_cases hc : isR A r
  · have hl := hW.len hc
    have hn := hW.nw hc
    rw [A_first, if_pos hc]
    refine b_X11_first_0 ((s_X11_checkRow hW hc).up (by omega)) (by omega) ?_
    refine w_loopS ((nW (chA A r.toNat) (rLn A r.toNat))) (fun i c => ∃ σ' u, c = (15, [some (aR (some (1, 0, 0))), some (aI (iZ r)), some (aI (iZ v)), some (aR (some (28, r.toNat, 0))), some (aI (iZ ((i : Int)))), u], [], am_hp σ', t) ∧ AQ σ σ' (smU (fun k => bz (ftW v ((chA A r.toNat (stU (chA A r.toNat) k))))) i) ∧ ∀ j, j < i → ¬ htW (chA A r.toNat) (rNu A r.toNat) (rLn A r.toNat) v (0 + j)) ⟨σ, none, rfl, AQ.refl _, fun j hj => absurd hj (Nat.not_lt_zero j)⟩ (fun i c hi hI go => ?_) (fun c hI => ?_)
    · obtain ⟨σ', u, rfl, ga, gn⟩ := hI
      have hW' := hW.A ga.1
      have hX := hW'.px hc
      have hn' := hW'.nw hc
      have hw9 := hX.way hi
      have hfb := fdW_bd (f := rNu A r.toNat) (v := v) hi hX.2.1
      refine b_X11_first_15 (by omega) (by omega) (fun h => by omega) (fun _ => ?_)
      refine b_X11_first_24 ((s_X4_wayOf hX hi).up (by omega)) ((s_X11_fits (d := 0) hv hw9).up (by omega)) bz_rg (fun h => ?_) (fun h => ?_)
      · have hnf : ¬ ftW v ((chA A r.toNat (stU (chA A r.toNat) i))) := bz_0.mp h
        refine b_X11_first_65 (go _ ⟨σ', _, rfl, ?_, fun j hj => ?_⟩)
        · rw [smU_f (P := fun k => ftW v ((chA A r.toNat (stU (chA A r.toNat) k)))) hnf]
          exact ga
        · by_cases e : j = i
          · subst e
            rw [Nat.zero_add]
            exact fun q => hnf q.1
          · exact gn j (by omega)
      · have hf : ftW v ((chA A r.toNat (stU (chA A r.toNat) i))) := bz_n.mp h
        have gb := ga.trans (AQ.up (σ := σ') (c := 1))
        have e1 := smU_t (P := fun k => ftW v ((chA A r.toNat (stU (chA A r.toNat) k)))) (k := i) hf
        rw [← e1] at gb
        have hX2 := (hW.A gb.1).px hc
        refine b_X11_first_37 ((s_X4_indexIn hX2 hi hv).up (by omega)) (by omega) (fun h2 => ?_) (fun h2 => ?_)
        · refine b_X11_first_65 (go _ ⟨_, _, rfl, gb, fun j hj => ?_⟩)
          by_cases e : j = i
          · subst e
            rw [Nat.zero_add]
            exact fun q => q.2 h2
          · exact gn j (by omega)
        · have e2 := fndF_at (P := htW (chA A r.toNat) (rNu A r.toNat) (rLn A r.toNat) v) ((nW (chA A r.toNat) (rLn A r.toNat))) 0 i hi gn (by rw [Nat.zero_add]; exact ⟨hf, h2⟩)
          rw [Nat.zero_add] at e2
          rw [e2, if_neg (by omega), Int.toNat_natCast]
          exact b_X11_first_62 ⟨_, rfl, gb⟩
    · obtain ⟨σ', u, rfl, ga, gn⟩ := hI
      have hn' := (hW.A ga.1).nw hc
      have e2 := fndF_no (P := htW (chA A r.toNat) (rNu A r.toNat) (rLn A r.toNat) v) ((nW (chA A r.toNat) (rLn A r.toNat))) 0 gn
      rw [e2, if_pos rfl]
      exact b_X11_first_15 (by omega) (by omega) (fun _ => b_X11_first_71 ⟨σ', rfl, ga⟩) (fun h => by omega)
  · rw [A_first, if_neg hc]
    exact bx_X11_first_0_1 ((t_X11_checkRow hW hr hc).up (by omega)) ⟨σ, rfl, AQ.refl _⟩
theorem s_X11_many {t : KT} {σ : SG} {A : RA} {r v : Int} (hW : CW A σ) (hr : -2147483648 ≤ r ∧ r < 2147483648) (hv : -2147483648 ≤ v ∧ v < 2147483648) : ∃ σ', Ca 4 110 [aR (some (1, 0, 0)), aI (iZ r), aI (iZ v)] (am_hp σ) t (reI 2 2 σ' t ((A_many A r v).1)) ∧ AQ σ σ' (A_many A r v).2 := by
  refine rx_of (R := fun σ' => reI 2 2 σ' t (A_many A r v).1) (e_X11_many ?_)
  by_cases hc : isR A r
  · have hl := hW.len hc
    have hn := hW.nw hc
    rw [A_many, if_pos hc]
    refine b_X11_many_0 ((s_X11_checkRow hW hc).up (by omega)) (by omega) ?_
    refine w_loopS ((nW (chA A r.toNat) (rLn A r.toNat))) (fun i c => ∃ σ', c = (18, [some (aR (some (1, 0, 0))), some (aI (iZ r)), some (aI (iZ v)), some (aR (some (28, r.toNat, 0))), some (aI (iZ (smU (fun k => if ftW v ((chA A r.toNat (stU (chA A r.toNat) k))) then tmW (chA A r.toNat) (rNu A r.toNat) (rLn A r.toNat) v k else 0) i))), some (aI (iZ ((i : Int))))], [], am_hp σ', t) ∧ AQ σ σ' (smU (fun k => bz (ftW v ((chA A r.toNat (stU (chA A r.toNat) k))))) i)) ⟨σ, rfl, AQ.refl _⟩ (fun i c hi hI go => ?_) (fun c hI => ?_)
    · obtain ⟨σ', rfl, ga⟩ := hI
      have hW' := hW.A ga.1
      have hX := hW'.px hc
      have hn' := hW'.nw hc
      have hw9 := hX.way hi
      have e5 : smU (fun k => if ftW v ((chA A r.toNat (stU (chA A r.toNat) k))) then tmW (chA A r.toNat) (rNu A r.toNat) (rLn A r.toNat) v k else 0) (i + 1) = smU (fun k => if ftW v ((chA A r.toNat (stU (chA A r.toNat) k))) then tmW (chA A r.toNat) (rNu A r.toNat) (rLn A r.toNat) v k else 0) i + (if ftW v ((chA A r.toNat (stU (chA A r.toNat) i))) then tmW (chA A r.toNat) (rNu A r.toNat) (rLn A r.toNat) v i else 0) := rfl
      refine b_X11_many_18 (by omega) (by omega) (fun h => by omega) (fun _ => ?_)
      refine b_X11_many_27 ((s_X4_wayOf hX hi).up (by omega)) ((s_X11_fits (d := 0) hv hw9).up (by omega)) bz_rg (fun h => ?_) (fun h => ?_)
      · have hnf : ¬ ftW v ((chA A r.toNat (stU (chA A r.toNat) i))) := bz_0.mp h
        refine b_X11_many_62 (go _ ⟨σ', ?_, ?_⟩)
        · rw [e5, if_neg hnf, Int.add_zero]
          rfl
        · rw [smU_f (P := fun k => ftW v ((chA A r.toNat (stU (chA A r.toNat) k)))) hnf]
          exact ga
      · have hf : ftW v ((chA A r.toNat (stU (chA A r.toNat) i))) := bz_n.mp h
        have gb := ga.trans (AQ.up (σ := σ') (c := 1))
        have e1 := smU_t (P := fun k => ftW v ((chA A r.toNat (stU (chA A r.toNat) k)))) (k := i) hf
        rw [← e1] at gb
        have hX2 := (hW.A gb.1).px hc
        refine b_X11_many_40 ((s_X4_timesIn hX2 hi hv).up (by omega)) (b_X11_many_62 (go _ ⟨_, ?_, gb⟩))
        rw [e5, if_pos hf]
        rfl
    · obtain ⟨σ', rfl, ga⟩ := hI
      have hn' := (hW.A ga.1).nw hc
      exact b_X11_many_18 (by omega) (by omega) (fun _ => b_X11_many_68 ⟨σ', rfl, ga⟩) (fun h => by omega)
  · rw [A_many, if_neg hc]
    exact bx_X11_many_0_1 ((t_X11_checkRow hW hr hc).up (by omega)) ⟨σ, rfl, AQ.refl _⟩
