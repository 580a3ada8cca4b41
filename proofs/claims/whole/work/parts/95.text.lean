/-! THE MODEL: texts are read; rows are added -/
set_option maxRecDepth 4000
theorem MS.all {S : SS} {σ σ' : SG} {P : Lc → Prop} {A : RA} {l : List RA} {cn : Nat → Int} {V : Int} {T : TB} {e : Int × Int} (h : MS S σ) (f : Fr P σ σ') (hP : ∀ L, P L → L.1 = 40 ∨ L.1 = 41 ∨ L.1 = 42 ∨ L.1 = 44 ∨ L.1 = 45 ∨ (48 ≤ L.1 ∧ L.1 ≤ 61)) (g : ∀ j, (j = 23 ∨ j = 47 ∨ j = 48) → σ'.1 (40, 0, 0) j = σ.1 (40, 0, 0) j) (w : MA A σ') (H : MH l σ') (n : MN cn σ') (v : σ'.1 (40, 0, 0) 21 = V) (hT : MB T σ') (e10 : σ'.1 (40, 0, 0) 10 = e.1) (e11 : σ'.1 (40, 0, 0) 11 = e.2) : MS (A, xV S, l, cn, V, T, e, xR S) σ' := by
  obtain ⟨h1, h2, h3, h4, h5, h6, h7, h8, h9⟩ := h
  have o : ∀ a : Nat, (a = 43 ∨ a = 46 ∨ a = 47 ∨ a = 62) → ¬ P (a, 0, 0) := fun a ha q => by
    have := hP _ q
    dsimp only at this
    omega
  exact ⟨w, h2.fr f (o 46 (by omega)) (o 47 (by omega)), h3.ce (g 23 (by omega)) (f.1 _ (o 43 (by omega))).1, H, n, v, hT, ⟨e10, e11⟩, h9.ce (g 47 (by omega)) (g 48 (by omega)) (f.1 _ (o 62 (by omega))).1⟩
theorem s_X12_clears {t : KT} {σ : SG} : ∃ σ', Ca 1 201 [aR (some (40, 0, 0))] (am_hp σ) t (.inl none, am_hp σ', t) ∧ MA clrA σ' ∧ Fr in42 σ σ' := by
  refine ex_of (e_X12_clears ?_)
  refine wq (fun Q hQ => ?_)
  refine b_X12_clears_0 ?_
  refine w_loopS 264 (fun k c => ∃ σ1, c = (2, [some (aR (some (40, 0, 0))), some (aI (iZ ((k : Int))))], [], am_hp σ1, t) ∧ Fr in42 σ σ1 ∧ ∀ p, p < k → σ1.1 (42, 0, 0) p = 0) ⟨σ, rfl, Fr.refl _ _, fun p hp => absurd hp (Nat.not_lt_zero p)⟩ (fun k c hk hI go => ?_) (fun c hI => ?_)
  · obtain ⟨σ1, rfl, f1, g1⟩ := hI
    refine b_X12_clears_2 (by omega) (fun q => by omega) (fun _ => b_X12_clears_9 (by omega) (go _ ⟨_, rfl, f1.trans (Fr.sI (P := in42) rfl), fun p hp => ?_⟩))
    rw [sI_1, if_pos rfl, up_at, Int.toNat_natCast]
    by_cases q : p = k
    · rw [if_pos q]
    · rw [if_neg q]
      exact g1 p (by omega)
  · obtain ⟨σ1, rfl, f1, g1⟩ := hI
    refine b_X12_clears_2 (by omega) (fun _ => b_X12_clears_22 ?_) (fun q => by omega)
    refine w_loopS 9 (fun k c => ∃ σ2, c = (31, [some (aR (some (40, 0, 0))), some (aI (iZ ((k : Int))))], [], am_hp σ2, t) ∧ Fr in42 σ σ2 ∧ ∀ p, p < 264 → σ2.1 (42, 0, 0) p = if p = 2 then 4 else if 3 ≤ p ∧ p < 3 + k then 1 else 0) ⟨_, rfl, f1.trans (Fr.sI (P := in42) rfl), fun p hp => ?_⟩ (fun k c hk hI go => ?_) (fun c hI => ?_)
    · rw [sI_1, if_pos rfl, up_at, if_neg (show ¬ (3 ≤ p ∧ p < 3 + 0) by omega), g1 p hp]
      rfl
    · obtain ⟨σ2, rfl, f2, g2⟩ := hI
      refine b_X12_clears_31 (by omega) (fun q => by omega) (fun _ => b_X12_clears_37 (by omega) (go _ ⟨_, rfl, f2.trans (Fr.sI (P := in42) rfl), fun p hp => ?_⟩))
      rw [sI_1, if_pos rfl, up_at, show ((3 : Int) + (k : Int)).toNat = 3 + k by omega]
      by_cases q : p = 3 + k
      · rw [if_pos q, if_neg (by omega), if_pos (by omega)]
      · rw [if_neg q, g2 p hp]
        by_cases q2 : p = 2
        · rw [if_pos q2, if_pos q2]
        · rw [if_neg q2, if_neg q2]
          by_cases q3 : 3 ≤ p ∧ p < 3 + k
          · rw [if_pos q3, if_pos (by omega)]
          · rw [if_neg q3, if_neg (by omega)]
    · obtain ⟨σ2, rfl, f2, g2⟩ := hI
      refine b_X12_clears_31 (by omega) (fun _ => b_X12_clears_52 (hQ _ ⟨σ2, rfl, ⟨Av_clr, ?_⟩, f2⟩)) (fun q => by omega)
      refine ⟨?_, ?_, ?_, fun w hw => ?_, fun r hr => absurd hr (Nat.not_lt_zero r)⟩
      · rw [g2 0 (by omega)]; rfl
      · rw [g2 1 (by omega)]; rfl
      · rw [g2 2 (by omega)]; rfl
      · rw [g2 (0 + (3 + w)) (by omega), if_neg (by omega), if_pos (by omega)]
        rfl
theorem MD.t {B : RA} {σ σ' : SG} {P : Lc → Prop} (h : MD B σ) (f : Fr P σ σ') (n : ¬ P (44, 0, 0)) : MD B σ' := ⟨h.1, by rw [(f.1 _ n).1]; exact h.2⟩
theorem kw_ok {k : Nat} (hk : k < 14) : ltL (kwL k) ∧ (kwL k).length ≤ 8 := ⟨kwP_lt hk _ (Nat.le_refl _), by rw [kwP_len]; have := (byt_ok k hk).1; omega⟩
/-- cells that a text touches -/
def inTc (L : Lc) : Prop := L.1 = 40 ∨ L.1 = 42 ∨ L.1 = 44
theorem mTc1 : ∀ L, in40 L → inTc L := fun L q => by
  have q : L = (40, 0, 0) := q
  subst q; exact Or.inl rfl
theorem mTc2 : ∀ L, in42 L → inTc L := fun L q => by
  have q : L = (42, 0, 0) := q
  subst q; exact Or.inr (Or.inl rfl)
theorem mTc3 : ∀ L, in4042 L → inTc L := fun L q => by
  rcases q with q | q
  · exact mTc1 L q
  · exact mTc2 L q
theorem m_readText {t : KT} {σ : SG} {S : SS} (h : MS S σ) : ∃ σ', Ca 6 247 [aR (some (40, 0, 0))] (am_hp σ) t (.inl (some (aI (iZ (moI (A_readText S).1)))), am_hp σ', t) ∧ σ'.1 (40, 0, 0) 0 = moC (A_readText S).1 ∧ MS (A_readText S).2 σ' ∧ Fr inMo σ σ' := by
  obtain ⟨T, eT⟩ : ∃ T, T = xT S := ⟨_, rfl⟩
  have hB := h.2.2.2.2.2.2.1
  obtain ⟨n1, n2, n3, n4⟩ := h.2.2.2.2.1
  refine ex_of (e_X12_readText ?_)
  refine wq (fun Q hQ => ?_)
  obtain ⟨σ1, c1, d1, f1⟩ := s_X12_laysAside (t := t) h.1
  have x40 : ¬ (fun L : Lc => L = (44, 0, 0)) (40, 0, 0) := fun z => absurd (congrArg (fun L : Lc => L.1) z) (by decide)
  have x41 : ¬ (fun L : Lc => L = (44, 0, 0)) (41, 0, 0) := fun z => absurd (congrArg (fun L : Lc => L.1) z) (by decide)
  have o1 : σ1.1 (40, 0, 0) = σ.1 (40, 0, 0) := (f1.1 _ x40).1
  have hB1 : MB (xT S) σ1 := hB.ce (by rw [o1]) (f1.1 _ x41).1
  have hTr := hB1.2.1
  obtain ⟨σ2, c2, q2, g2, e2, f2, o2⟩ := s_X12_beginsText (t := t) hB1
  obtain ⟨σ3, c3, w3, f3⟩ := s_X12_clears (t := t) (σ := σ2)
  rw [← eT] at q2
  have L3 : LN T clrA 0 0 (sI σ3 (40, 0, 0) (up (σ3.1 (40, 0, 0)) 35 0)) := by
    refine ⟨w3.t (Fr.sI (P := in40) rfl), ?_, by show (0 : Nat) < 512; omega, (q2.r f3).c (by omega), (g2.r f3).c (by omega)⟩
    rw [sI_1, if_pos rfl, up_at, if_pos rfl]
    rfl
  have F3 : Fr inTc σ (sI σ3 (40, 0, 0) (up (σ3.1 (40, 0, 0)) 35 0)) := (((f1.mono (fun L (q : L = (44, 0, 0)) => by subst q; exact Or.inr (Or.inr rfl))).trans (f2.mono mTc1)).trans (f3.mono mTc2)).trans (Fr.sI (P := inTc) (Or.inl rfl))
  have D3 : MD (xA S) (sI σ3 (40, 0, 0) (up (σ3.1 (40, 0, 0)) 35 0)) := ((d1.t f2 (fun q => absurd (congrArg (fun L : Lc => L.1) q) (by decide))).t f3 (fun q => absurd (congrArg (fun L : Lc => L.1) q) (by decide))).t (Fr.sI (P := in40) rfl) (fun q => absurd (congrArg (fun L : Lc => L.1) q) (by decide))
  have O3 : ∀ j, 9 < j → j ≠ 35 → (sI σ3 (40, 0, 0) (up (σ3.1 (40, 0, 0)) 35 0)).1 (40, 0, 0) j = σ.1 (40, 0, 0) j := fun j hj h5 => by rw [sI_1, if_pos rfl, up_at, if_neg h5, (f3.1 _ n40_42).1, o2 j (by omega), o1]
  have E3 : (sI σ3 (40, 0, 0) (up (σ3.1 (40, 0, 0)) 35 0)).1 (40, 0, 0) 2 = 0 := by rw [sI_1, if_pos rfl, up_at, if_neg (by omega), (f3.1 _ n40_42).1, e2]
  have blk := fun r5 r6 r7 σ4 σ5 σ6 σ7 => b_X12_readText_0 (Q := Q) (d := 5) (σ := σ) (σ1 := σ1) (σ2 := σ2) (σ3 := σ3) (σ4 := σ4) (r5 := r5) (σ5 := σ5) (r6 := r6) (σ6 := σ6) (r7 := r7) (σ7 := σ7) (t := t) (c1.up (by omega)) (c2.up (by omega)) (c3.up (by omega))
  generalize (sI σ3 (40, 0, 0) (up (σ3.1 (40, 0, 0)) 35 0)) = τ at L3 F3 D3 O3 E3 blk
  have kit : ∀ {σ5 : SG}, LF τ σ5 → Fr inTc σ σ5 ∧ MD (xA S) σ5 ∧ (∀ j, 9 < j → j ≠ 35 → σ5.1 (40, 0, 0) j = σ.1 (40, 0, 0) j) ∧ σ5.1 (40, 0, 0) 2 = 0 := fun {σ5} l => ⟨F3.trans (l.1.mono mTc3), D3.t l.1 (fun q => by
    rcases q with q | q <;> exact absurd (congrArg (fun L : Lc => L.1) q) (by decide)), fun j hj h5 => (l.2 j (by omega) h5).trans (O3 j hj h5), (l.2 2 (by omega) (by omega)).trans E3⟩
  have bad : ∀ (σ5 : SG) (e : PE) (x1 x2 : Int), sysP T = .inr e → FE e σ5 → LF τ σ5 → Wp k_X12_readText 5 (93, [some (aR (some (40, 0, 0))), some (aI (iZ x1)), some (aI (iZ x2))], [], am_hp σ5, t) Q := fun σ5 e x1 x2 he q5 l5 => by
    obtain ⟨F5, D5, O5, E5⟩ := kit l5
    obtain ⟨z8, zb, z9⟩ := q5
    obtain ⟨σ6, c6, r0, r10, r11, f6, o6⟩ := s_X12_endsText (t := t) z8 z9 (by omega)
    rw [bz_f (by omega)] at c6
    rw [bz_t (by omega)] at r0
    obtain ⟨σ7, c7, w7, f7⟩ := s_X12_goesBack (t := t) (D5.t f6 (fun q => absurd (congrArg (fun L : Lc => L.1) q) (by decide)))
    have f7 : Fr in42 σ6 σ7 := f7
    have oo : ∀ j, σ7.1 (40, 0, 0) j = σ6.1 (40, 0, 0) j := fun j => by rw [(f7.1 _ n40_42).1]
    have FF := (F5.trans (f6.mono mTc1)).trans (f7.mono mTc2)
    have keep : ∀ j, 9 < j → j ≠ 10 → j ≠ 11 → j ≠ 35 → σ7.1 (40, 0, 0) j = σ.1 (40, 0, 0) j := fun j h9 h10 h11 h35 => by rw [oo, o6 j (by omega) h10 h11, O5 j h9 h35]
    have eA : A_readText S = (.inr 1, (S.1, S.2.1, S.2.2.1, S.2.2.2.1, S.2.2.2.2.1, ((xT S).1, 0), ((e.1 : Int), (e.2 : Int)), xR S)) := by
      unfold A_readText
      rw [← eT, he]
    rw [eA] at hQ
    refine b_X12_readText_93 (c6.up (by omega)) (by omega) (fun q => absurd rfl q) (fun _ => b_X12_readText_100 (c7.up (by omega)) (hQ _ ⟨σ7, rfl, ?_, ?_, FF.mono (fun L q => by unfold inTc at q; unfold inMo; omega)⟩))
    · rw [oo, r0]; rfl
    · refine h.all (A := xA S) (l := xP S) (cn := xC S) (V := xL S) (T := ((xT S).1, 0)) (e := ((e.1 : Int), (e.2 : Int))) FF (fun L q => by unfold inTc at q; omega) (fun j hj => keep j (by omega) (by omega) (by omega) (by omega)) w7 (h.2.2.2.1.ce (keep 17 (by omega) (by omega) (by omega) (by omega)) (FF.1 (45, 0, 0) (by unfold inTc; omega)).1) ⟨(keep 18 (by omega) (by omega) (by omega) (by omega)).trans n1, (keep 19 (by omega) (by omega) (by omega) (by omega)).trans n2, (keep 20 (by omega) (by omega) (by omega) (by omega)).trans n3, (keep 22 (by omega) (by omega) (by omega) (by omega)).trans n4⟩ ((keep 21 (by omega) (by omega) (by omega) (by omega)).trans h.2.2.2.2.2.1) ⟨?_, by show 0 ≤ 600; omega, hB.2.2.1, fun j hj => absurd hj (Nat.not_lt_zero j)⟩ ?_ ?_
      · rw [oo, o6 2 (by omega) (by omega) (by omega), E5]; rfl
      · rw [oo, r10]
      · rw [oo, r11]
  have good : ∀ (σ5 : SG) (A : RA) (m p : Nat) (x1 x2 : Int), sysP T = .inl A → LN T A m p σ5 → LF τ σ5 → Wp k_X12_readText 5 (93, [some (aR (some (40, 0, 0))), some (aI (iZ x1)), some (aI (iZ x2))], [], am_hp σ5, t) Q := fun σ5 A m p x1 x2 he L5 l5 => by
    obtain ⟨F5, D5, O5, E5⟩ := kit l5
    obtain ⟨z8, z9⟩ := L5.2.2.2.2
    obtain ⟨σ6, c6, r0, r10, r11, f6, o6⟩ := s_X12_endsText (t := t) z8 z9 (by omega)
    rw [bz_t rfl] at c6
    rw [bz_f (fun q => q rfl)] at r0
    have w6 : MA A σ6 := L5.1.t f6
    have FF := (F5.trans (f6.mono mTc1)).trans (Fr.sI (σ := σ6) (L := (40, 0, 0)) (f := up (σ6.1 (40, 0, 0)) 17 0) (P := inTc) (Or.inl rfl))
    have oo : ∀ j, j ≠ 17 → (sI σ6 (40, 0, 0) (up (σ6.1 (40, 0, 0)) 17 0)).1 (40, 0, 0) j = σ6.1 (40, 0, 0) j := fun j hj => by rw [sI_1, if_pos rfl, up_at, if_neg hj]
    have keep : ∀ j, 9 < j → j ≠ 10 → j ≠ 11 → j ≠ 17 → j ≠ 35 → (sI σ6 (40, 0, 0) (up (σ6.1 (40, 0, 0)) 17 0)).1 (40, 0, 0) j = σ.1 (40, 0, 0) j := fun j h9 h10 h11 h17 h35 => by rw [oo j h17, o6 j (by omega) h10 h11, O5 j h9 h35]
    have e42 : (sI σ6 (40, 0, 0) (up (σ6.1 (40, 0, 0)) 17 0)).1 (42, 0, 0) = σ6.1 (42, 0, 0) := by rw [sI_1, if_neg (by decide)]
    have eA : A_readText S = (.inl (rN A), (A, S.2.1, [], S.2.2.2.1, S.2.2.2.2.1, ((xT S).1, 0), (0, -1), xR S)) := by
      unfold A_readText
      rw [← eT, he]
    rw [eA] at hQ
    refine b_X12_readText_93 (c6.up (by omega)) (by omega) (fun _ => b_X12_readText_106 (hQ _ ⟨_, ?_, ?_, ?_, FF.mono (fun L q => by unfold inTc at q; unfold inMo; omega)⟩)) (fun q => absurd q (by decide))
    · rw [e42, w6.n.1]
      rfl
    · rw [oo 0 (by omega), r0]; rfl
    · refine h.all (A := A) (l := []) (cn := xC S) (V := xL S) (T := ((xT S).1, 0)) (e := (0, -1)) FF (fun L q => by unfold inTc at q; omega) (fun j hj => keep j (by omega) (by omega) (by omega) (by omega) (by omega)) (w6.t (Fr.sI (P := in40) rfl)) ⟨by show 0 ≤ 6; omega, ?_, fun j A hj => by cases hj⟩ ⟨(keep 18 (by omega) (by omega) (by omega) (by omega) (by omega)).trans n1, (keep 19 (by omega) (by omega) (by omega) (by omega) (by omega)).trans n2, (keep 20 (by omega) (by omega) (by omega) (by omega) (by omega)).trans n3, (keep 22 (by omega) (by omega) (by omega) (by omega) (by omega)).trans n4⟩ ((keep 21 (by omega) (by omega) (by omega) (by omega) (by omega)).trans h.2.2.2.2.2.1) ⟨?_, by show 0 ≤ 600; omega, hB.2.2.1, fun j hj => absurd hj (Nat.not_lt_zero j)⟩ ?_ ?_
      · rw [sI_1, if_pos rfl, up_at, if_pos rfl]
        rfl
      · rw [oo 2 (by omega), o6 2 (by omega) (by omega) (by omega), E5]; rfl
      · rw [oo 10 (by omega), r10]
      · rw [oo 11 (by omega), r11]
  have bad60 : ∀ (σ5 : SG) (e : PE) (x1 x2 : Int), sysP T = .inr e → FE e σ5 → LF τ σ5 → Wp k_X12_readText 5 (60, [some (aR (some (40, 0, 0))), some (aI (iZ x1)), some (aI (iZ x2))], [], am_hp σ5, t) Q := fun σ5 e x1 x2 he q5 l5 => b_X12_readText_60 ((s_mustSign_f q5).up (by omega)) (b_X12_readText_66 ((s_isGood_f q5).up (by omega)) (by omega) (fun _ => bad σ5 e x1 x2 he q5 l5) (fun q => absurd rfl q))
  have key : ∀ (f : Nat) (A : RA) (m p : Nat) (σ5 : SG) (x1 x2 : Int), 601 ≤ f + p → LN T A m p σ5 → LF τ σ5 → sysP T = lopP T f A m p → Wp k_X12_readText 5 (66, [some (aR (some (40, 0, 0))), some (aI (iZ x1)), some (aI (iZ x2))], [], am_hp σ5, t) Q := by
    intro f
    induction f with
    | zero =>
      intro A m p σ5 x1 x2 hf L5 l5 _
      have h1 := L5.2.2.2.1.2.1
      have h2 := L5.2.2.2.1.1.2.1
      omega
    | succ f ih =>
      intro A m p σ5 x1 x2 hf L5 l5 eP
      have hpT : p ≤ T.2 := L5.2.2.2.1.2.1
      have hm6 := mK_i (tK_le T p)
      have e6 : σ5.1 (40, 0, 0) 6 = mK (tK T p) := L5.2.2.2.1.2.2.1
      have hb := tE_bd hpT
      unfold lopP at eP
      refine b_X12_readText_66 ((s_isGood_t L5.2.2.2.2).up (by omega)) (by omega) (fun q => by omega) (fun _ => ?_)
      by_cases h0 : tK T p = 0
      · rw [if_pos h0] at eP
        have e60 := hm6.1.mpr h0
        exact b_X12_readText_73 (by omega) (fun _ => good σ5 A m p x1 x2 eP L5 l5) (fun q => by omega)
      · rw [if_neg h0] at eP
        have e60 : σ5.1 (40, 0, 0) 6 ≠ 0 := fun q => h0 (hm6.1.mp (by omega))
        obtain ⟨σ6, c6, q6, f6⟩ := s_X12_statement (t := t) L5
        refine b_X12_readText_73 (by omega) (fun q => absurd q e60) (fun _ => ?_)
        have hpos := hb.2.2 h0
        have hsb := tS_bd hpT
        cases hs : stmP T A m p with
        | inr e =>
          rw [hs] at q6 eP
          have q6 : FE e σ6 := q6
          exact b_X12_readText_80 (c6.up (by omega)) ((s_mustSign_f q6).up (by omega)) (b_X12_readText_66 ((s_isGood_f q6).up (by omega)) (by omega) (fun _ => bad σ6 e x1 x2 eP q6 (l5.trans f6)) (fun q => absurd rfl q))
        | inl z =>
          rw [hs] at q6 eP
          have q6 : LN T z.1 z.2.1 z.2.2 σ6 := q6
          have eP : sysP T = kdP T z.2.2 3 (lopP T f z.1 z.2.1 (tE T z.2.2)) := eP
          have hz := stmP_ge hpT hs
          have hz2 := tE_ge hz.2
          by_cases h3 : tK T z.2.2 = 3
          · have ek : kdP T z.2.2 3 (lopP T f z.1 z.2.1 (tE T z.2.2)) = lopP T f z.1 z.2.1 (tE T z.2.2) := if_neg (by omega)
            obtain ⟨σ7, c7, q7, g7, f7⟩ := s_mustSign_ok (t := t) (kd := 3) (c := 59) q6.2.2.2.1 q6.2.2.2.2 (Or.inl ⟨rfl, rfl⟩) h3
            exact b_X12_readText_80 (c6.up (by omega)) (c7.up (by omega)) (ih z.1 z.2.1 _ σ7 x1 x2 (by omega) (q6.adv q7 g7 f7) ((l5.trans f6).trans f7.l) (eP.trans ek))
          · have ek : kdP T z.2.2 3 (lopP T f z.1 z.2.1 (tE T z.2.2)) = .inr (1, tS T z.2.2) := if_pos h3
            obtain ⟨σ7, c7, q7, f7⟩ := s_mustSign_no (t := t) (kd := 3) (c := 59) q6.2.2.2.1 q6.2.2.2.2 (Or.inl ⟨rfl, rfl⟩) h3
            exact b_X12_readText_80 (c6.up (by omega)) (c7.up (by omega)) (b_X12_readText_66 ((s_isGood_f q7).up (by omega)) (by omega) (fun _ => bad σ7 _ x1 x2 (eP.trans ek) q7 ((l5.trans f6).trans f7.l)) (fun q => absurd rfl q))
  have k10 := kw_eq.2.2.2.2.2.2.2.2.2.2.1
  have ok10 := kw_ok (k := 10) (by omega)
  have cw : ((mN (kwL 10) : Nat) : Int) = 525419 := by rw [k10]; rfl
  by_cases hk : isKw T 0 10
  · have eP : pckP T clrA 0 = numP T (tE T 0) 0 2 (numP T (tE T (tE T 0)) 1 9 (.inl (skA (ruA clrA (tN T (tE T 0))) (tN T (tE T (tE T 0))), tE T (tE T (tE T 0))))) := if_pos hk
    obtain ⟨σ4, c4, q4, g4, f4⟩ := s_mustWord_ok (t := t) L3.2.2.2.1 L3.2.2.2.2 ok10.1 ok10.2 hk
    rw [cw] at c4
    have L4 := L3.adv q4 g4 f4
    by_cases hn : tK T (tE T 0) = 2 ∧ ¬ (tN T (tE T 0) < 0 ∨ 2 < tN T (tE T 0))
    · rw [numP_ok hn] at eP
      obtain ⟨σ5, c5, q5, g5, f5⟩ := s_number_ok (t := t) (lo := 0) (hi := 2) L4.2.2.2.1 L4.2.2.2.2 hn (by omega)
      have L5 := L4.adv q5 g5 f5
      by_cases hm : tK T (tE T (tE T 0)) = 2 ∧ ¬ (tN T (tE T (tE T 0)) < 1 ∨ 9 < tN T (tE T (tE T 0)))
      · rw [numP_ok hm] at eP
        obtain ⟨σ6, c6, q6, g6, f6⟩ := s_number_ok (t := t) (lo := 1) (hi := 9) L5.2.2.2.1 L5.2.2.2.2 hm (by omega)
        have L6 := L5.adv q6 g6 f6
        refine blk _ _ _ σ4 σ5 σ6 σ6 (c4.up (by omega)) (c5.up (by omega)) (c6.up (by omega)) ((s_isGood_t g6).up (by omega)) (by omega) (fun q => by omega) (fun _ => b_X12_readText_46 ?_)
        have w7 : MA (skA (ruA clrA (tN T (tE T 0))) (tN T (tE T (tE T 0)))) (sI (sI σ6 (42, 0, 0) (up (σ6.1 (42, 0, 0)) (1 : Int).toNat (tN T (tE T 0) : Int))) (42, 0, 0) (up ((sI σ6 (42, 0, 0) (up (σ6.1 (42, 0, 0)) (1 : Int).toNat (tN T (tE T 0) : Int))).1 (42, 0, 0)) (2 : Int).toNat (tN T (tE T (tE T 0)) : Int))) := by
          refine ⟨Av_sk (Av_ru L6.1.1 (by omega)) (by omega), ?_⟩
          have h1 := L6.1.2.ru (z := (tN T (tE T 0) : Int)) (by omega)
          have h2 := h1.sk (z := (tN T (tE T (tE T 0)) : Int)) (by omega)
          rw [Int.toNat_natCast, Int.toNat_natCast] at h2
          rw [sI_1, if_pos rfl, sI_1, if_pos rfl]
          exact h2
        have f7 : Fr in42 σ6 (sI (sI σ6 (42, 0, 0) (up (σ6.1 (42, 0, 0)) (1 : Int).toNat (tN T (tE T 0) : Int))) (42, 0, 0) (up ((sI σ6 (42, 0, 0) (up (σ6.1 (42, 0, 0)) (1 : Int).toNat (tN T (tE T 0) : Int))).1 (42, 0, 0)) (2 : Int).toNat (tN T (tE T (tE T 0)) : Int))) := (Fr.sI (P := in42) rfl).trans (Fr.sI (P := in42) rfl)
        generalize (sI (sI σ6 (42, 0, 0) (up (σ6.1 (42, 0, 0)) (1 : Int).toNat (tN T (tE T 0) : Int))) (42, 0, 0) (up ((sI σ6 (42, 0, 0) (up (σ6.1 (42, 0, 0)) (1 : Int).toNat (tN T (tE T 0) : Int))).1 (42, 0, 0)) (2 : Int).toNat (tN T (tE T (tE T 0)) : Int))) = σ7 at w7 f7 ⊢
        have L7 := L6.rows w7 f7
        have l7 : LF τ σ7 := ((f4.l.trans f5.l).trans f6.l).trans (LF.r f7)
        have eS : sysP T = kdP T (tE T (tE T (tE T 0))) 3 (lopP T 601 (skA (ruA clrA (tN T (tE T 0))) (tN T (tE T (tE T 0)))) 0 (tE T (tE T (tE T (tE T 0))))) := by
          unfold sysP
          rw [eP]
        by_cases h3 : tK T (tE T (tE T (tE T 0))) = 3
        · obtain ⟨σ8, c8, q8, g8, f8⟩ := s_mustSign_ok (t := t) (kd := 3) (c := 59) L7.2.2.2.1 L7.2.2.2.2 (Or.inl ⟨rfl, rfl⟩) h3
          exact b_X12_readText_60 (c8.up (by omega)) (key 601 _ 0 _ σ8 _ _ (by omega) (L7.adv q8 g8 f8) (l7.trans f8.l) (eS.trans (if_neg (by omega))))
        · obtain ⟨σ8, c8, q8, f8⟩ := s_mustSign_no (t := t) (kd := 3) (c := 59) L7.2.2.2.1 L7.2.2.2.2 (Or.inl ⟨rfl, rfl⟩) h3
          exact b_X12_readText_60 (c8.up (by omega)) (b_X12_readText_66 ((s_isGood_f q8).up (by omega)) (by omega) (fun _ => bad σ8 _ _ _ (eS.trans (if_pos h3)) q8 (l7.trans f8.l)) (fun q => absurd rfl q))
      · rw [numP_no hm] at eP
        obtain ⟨z, σ6, c6, q6, f6⟩ := s_number_no (t := t) (lo := 1) (hi := 9) L5.2.2.2.1 L5.2.2.2.2 hm (by omega)
        have eS : sysP T = .inr (if tK T (tE T (tE T 0)) ≠ 2 then 1 else 2, tS T (tE T (tE T 0))) := by
          unfold sysP
          rw [eP]
        exact blk _ _ _ σ4 σ5 σ6 σ6 (c4.up (by omega)) (c5.up (by omega)) (c6.up (by omega)) ((s_isGood_f q6).up (by omega)) (by omega) (fun _ => bad60 σ6 _ _ _ eS q6 ((f4.l.trans f5.l).trans f6.l)) (fun q => absurd rfl q)
    · rw [numP_no hn] at eP
      obtain ⟨z, σ5, c5, q5, f5⟩ := s_number_no (t := t) (lo := 0) (hi := 2) L4.2.2.2.1 L4.2.2.2.2 hn (by omega)
      have eS : sysP T = .inr (if tK T (tE T 0) ≠ 2 then 1 else 2, tS T (tE T 0)) := by
        unfold sysP
        rw [eP]
      exact blk _ _ _ σ4 σ5 σ5 σ5 (c4.up (by omega)) (c5.up (by omega)) ((s_number_f q5).up (by omega)) ((s_isGood_f q5).up (by omega)) (by omega) (fun _ => bad60 σ5 _ _ _ eS q5 (f4.l.trans f5.l)) (fun q => absurd rfl q)
  · have eS : sysP T = .inr (1, tS T 0) := by
      have eP : pckP T clrA 0 = .inr (1, tS T 0) := if_neg hk
      unfold sysP
      rw [eP]
    obtain ⟨σ4, c4, q4, f4⟩ := s_mustWord_no (t := t) L3.2.2.2.1 L3.2.2.2.2 ok10.1 ok10.2 hk
    rw [cw] at c4
    exact blk _ _ _ σ4 σ4 σ4 σ4 (c4.up (by omega)) ((s_number_f q4).up (by omega)) ((s_number_f q4).up (by omega)) ((s_isGood_f q4).up (by omega)) (by omega) (fun _ => bad60 σ4 _ _ _ eS q4 f4.l) (fun q => absurd rfl q)
theorem s_X12_whyNoAdd {t : KT} {σ : SG} {A : RA} {nm : List Nat} (hA : MA A σ) (hn : ltL nm) (h8 : nm.length ≤ 8) : Ca 4 240 [aR (some (40, 0, 0)), aL (jZ ((mN nm : Int)))] (am_hp σ) t (.inl (some (aI (iZ (((if 4 ≤ rN A then 101 else if nm = [] ∨ rwA A nm ≠ -1 then 102 else 0 : Nat) : Int))))), am_hp σ, t) := by
  have e0 := hA.n
  have hm := mN_8 hn h8
  have hb := rwA_bd A nm
  have hz : mN nm = 0 ↔ nm = [] := by
    have := cN_0 (ltL_rev hn)
    unfold mN
    rw [this]
    exact List.reverse_eq_nil_iff
  refine ca_of (e_X12_whyNoAdd ?_)
  refine b_X12_whyNoAdd_0 (by omega) (fun q => ?_) (fun q => ?_)
  · rw [if_neg (by omega)]
    refine b_X12_whyNoAdd_13 ycmp_rg (fun q0 => ?_) (fun q0 => ?_)
    · rw [if_pos (Or.inl (hz.mp (by rw [ycmp_0 (by omega) (by omega)] at q0; omega)))]
      exact b_X12_whyNoAdd_28 (b_X12_whyNoAdd_34 rfl)
    · have hne : nm ≠ [] := fun z => q0 (by rw [ycmp_0 (by omega) (by omega), hz.mpr z]; rfl)
      refine b_X12_whyNoAdd_19 ((s_X12_rowNamed hA hn h8).up (by omega)) (by omega) (fun q1 => ?_) (fun q1 => ?_)
      · rw [if_neg (fun z => z.elim hne (fun y => y q1))]
        exact b_X12_whyNoAdd_33 (b_X12_whyNoAdd_34 rfl)
      · rw [if_pos (Or.inr q1)]
        exact b_X12_whyNoAdd_28 (b_X12_whyNoAdd_34 rfl)
  · rw [if_pos (by omega)]
    exact b_X12_whyNoAdd_10 rfl
theorem m_add {t : KT} {σ : SG} {S : SS} (h : MS S σ) : ∃ σ', Ca 5 302 [aR (some (40, 0, 0))] (am_hp σ) t (.inl (some (aI (iZ (A_add S)))), am_hp σ', t) ∧ σ'.1 (40, 0, 0) 0 = 0 ∧ MS (N_add S) σ' ∧ Fr inMo σ σ' := by
  have hB := h.2.2.2.2.2.2.1
  have hw := wnm_ok (xT S)
  have A1 := h.1.m (MF.ck (σ := σ) (z := 0))
  have cb := s_X12_bufferName (t := t) (hB.m (MF.ck (σ := σ) (z := 0)))
  have cy := s_X12_whyNoAdd (t := t) A1 hw.1 hw.2
  have hv := vd0 (xA S) (wnm (xT S)) 0 0 0 0
  rw [← hv] at cy
  have h103 := vdA_bd (xA S) 0 (wnm (xT S)) 0 0 0 0
  have hv3 : vdA (xA S) 0 (wnm (xT S)) 0 0 0 0 = 0 ∨ 2 < vdA (xA S) 0 (wnm (xT S)) 0 0 0 0 := by
    rw [hv]
    split
    · omega
    · split <;> omega
  refine ex_of (e_X12_add ?_)
  unfold A_add N_add
  by_cases h0 : vdA (xA S) 0 (wnm (xT S)) 0 0 0 0 = 0
  · rw [if_pos h0, if_pos h0, (R0 h0).2]
    rw [h0] at cy
    have h4 : ¬ 4 ≤ rN (xA S) ∧ ¬ (wnm (xT S) = [] ∨ rwA (xA S) (wnm (xT S)) ≠ -1) := by
      rw [h0] at hv
      constructor
      · intro z
        rw [if_pos z] at hv
        omega
      · intro z
        by_cases y : 4 ≤ rN (xA S)
        · rw [if_pos y] at hv
          omega
        · rw [if_neg y, if_pos z] at hv
          omega
    have ho : okNm (wnm (xT S)) := ⟨by
      cases e : wnm (xT S) with
      | nil => exact absurd (Or.inl e) h4.2
      | cons a l => simp, hw.2, hw.1⟩
    obtain ⟨σ1, c1, d1, f1⟩ := s_X12_laysAside (t := t) A1
    have x40 : ¬ (fun L : Lc => L = (44, 0, 0)) (40, 0, 0) := fun z => absurd (congrArg (fun L : Lc => L.1) z) (by decide)
    have o1 : σ1.1 (40, 0, 0) = (cd σ 0).1 (40, 0, 0) := (f1.1 _ x40).1
    have F2 : Fr in40 σ1 (sI σ1 (40, 0, 0) (up (σ1.1 (40, 0, 0)) 2 0)) := Fr.sI (P := in40) rfl
    have A2 : MA (xA S) (sI σ1 (40, 0, 0) (up (σ1.1 (40, 0, 0)) 2 0)) := (A1.fr f1 (fun z => absurd (congrArg (fun L : Lc => L.1) z) (by decide))).t F2
    obtain ⟨σ3, c3, w3, f3⟩ := s_X12_addsRow (t := t) A2 (by omega) ho
    have D3 : MD (xA S) σ3 := (d1.t F2 (fun q => absurd (congrArg (fun L : Lc => L.1) q) (by decide))).t f3 (fun q => absurd (congrArg (fun L : Lc => L.1) q) (by decide))
    have F13 : Fr inTc σ σ3 := (((cd_fr.mono (fun L q => Or.inl q)).trans (f1.mono (fun L (q : L = (44, 0, 0)) => by subst q; exact Or.inr (Or.inr rfl)))).trans (F2.mono mTc1)).trans (f3.mono mTc2)
    have O3 : ∀ j, j ≠ 0 → j ≠ 2 → σ3.1 (40, 0, 0) j = σ.1 (40, 0, 0) j := fun j hj h2 => by rw [(f3.1 _ n40_42).1, sI_1, if_pos rfl, up_at, if_neg h2, o1, cd_at hj]
    have o31 : ∀ a : Nat, a ≠ 40 → a ≠ 42 → a ≠ 44 → σ3.1 (a, 0, 0) = σ.1 (a, 0, 0) := fun a h1 h2 h3 => (F13.1 (a, 0, 0) (fun q => by unfold inTc at q; dsimp only at q; omega)).1
    have e02 : σ3.1 (40, 0, 0) 0 = 0 ∧ σ3.1 (40, 0, 0) 2 = 0 := by
      rw [(f3.1 _ n40_42).1]
      refine ⟨?_, ?_⟩
      · rw [sI_1, if_pos rfl, up_at, if_neg (by omega), o1, cd_0]
      · rw [sI_1, if_pos rfl, up_at, if_pos rfl]
    -- the state with the text cut
    have h' : MS (cutT S 0) (sI (cd σ 0) (40, 0, 0) (up ((cd σ 0).1 (40, 0, 0)) 2 0)) := by
      have FX : Fr in40 (cd σ 0) (sI (cd σ 0) (40, 0, 0) (up ((cd σ 0).1 (40, 0, 0)) 2 0)) := Fr.sI (P := in40) rfl
      have hc := h.m (MF.ck (σ := σ) (z := 0))
      have e : ∀ j, j ≠ 2 → (sI (cd σ 0) (40, 0, 0) (up ((cd σ 0).1 (40, 0, 0)) 2 0)).1 (40, 0, 0) j = (cd σ 0).1 (40, 0, 0) j := fun j hj => by rw [sI_1, if_pos rfl, up_at, if_neg hj]
      refine hc.txt (T := ((xT S).1, 0)) (e := xE S) FX (fun L q => Or.inl (by have q : L = (40, 0, 0) := q; rw [q])) (fun j hj => e j (by omega)) ⟨?_, by show 0 ≤ 600; omega, hB.2.2.1, fun j hj => absurd hj (Nat.not_lt_zero j)⟩ ((e 10 (by omega)).trans hc.2.2.2.2.2.2.2.1.1) ((e 11 (by omega)).trans hc.2.2.2.2.2.2.2.1.2)
      rw [sI_1, if_pos rfl, up_at, if_pos rfl]
      rfl
    have rc : RC (sI (cd σ 0) (40, 0, 0) (up ((cd σ 0).1 (40, 0, 0)) 2 0)) σ3 := by
      refine ⟨?_, fun j h0 h1 h2 => ?_⟩
      · refine ⟨fun L hL => ?_, ?_⟩
        · have hne : ¬ inTc L := fun q => hL (by unfold inTc at q; unfold inC4; omega)
          have n40 : L ≠ (40, 0, 0) := fun z => hL (by rw [z]; exact Or.inl rfl)
          have a1 := F13.1 L hne
          have a2 := (cd_fr (σ := σ) (z := 0)).1 L (fun q => hL (Or.inl q))
          refine ⟨?_, a1.2.1, a1.2.2⟩
          rw [sI_1, if_neg n40, a1.1]
          exact a2.1.symm
        · exact F13.2
      · by_cases q : j = 2
        · subst q
          rw [e02.2, sI_1, if_pos rfl, up_at, if_pos rfl]
        · rw [O3 j h0 q, sI_1, if_pos rfl, up_at, if_neg q, cd_at h0]
    obtain ⟨σ4, c4, z4, g4, f4⟩ := s_X12_kept (t := t) (z := (rN (xA S) : Int)) h' rc w3 D3
    refine b_X12_add_0 (cb.up (by omega)) (cy.up (by omega)) (by omega) (fun _ => b_X12_add_26 (c1.up (by omega)) (c3.up (by omega)) (c4.up (by omega)) ⟨σ4, rfl, by rw [z4, e02.1], g4, ?_⟩) (fun q => by omega)
    exact ((MF.ck (σ := σ) (z := 0)).mo.trans (Fr.sI (P := inMo) (by unfold inMo; omega))).trans (f4.mono mM4)
  · rw [if_neg h0, if_neg h0, (R3 rfl (by omega)).2]
    obtain ⟨σ2, c2, z2, g2, f2⟩ := s_X12_refuses (t := t) (V := (vdA (xA S) 0 (wnm (xT S)) 0 0 0 0 : Int)) h (MF.ck (σ := σ) (z := 0))
    exact b_X12_add_0 (cb.up (by omega)) (cy.up (by omega)) (by omega) (fun q => by omega) (fun _ => b_X12_add_20 (c2.up (by omega)) ⟨σ2, rfl, by rw [z2, cd_0], g2, f2.mono mM4⟩)
