/-! THE MODEL: text is fed and cut -/
set_option maxRecDepth 4000
theorem MS.txt {S : SS} {σ σ' : SG} {P : Lc → Prop} {T : TB} {e : Int × Int} (h : MS S σ) (f : Fr P σ σ') (hP : ∀ L, P L → L.1 = 40 ∨ L.1 = 41 ∨ L.1 = 44 ∨ (48 ≤ L.1 ∧ L.1 ≤ 61)) (g : ∀ j, (j = 17 ∨ j = 18 ∨ j = 19 ∨ j = 20 ∨ j = 21 ∨ j = 22 ∨ j = 23 ∨ j = 47 ∨ j = 48) → σ'.1 (40, 0, 0) j = σ.1 (40, 0, 0) j) (hT : MB T σ') (e10 : σ'.1 (40, 0, 0) 10 = e.1) (e11 : σ'.1 (40, 0, 0) 11 = e.2) : MS (S.1, S.2.1, S.2.2.1, S.2.2.2.1, S.2.2.2.2.1, T, e, xR S) σ' := by
  obtain ⟨h1, h2, h3, h4, h5, h6, h7, h8, h9⟩ := h
  have o : ∀ a : Nat, (a = 42 ∨ a = 43 ∨ a = 45 ∨ a = 46 ∨ a = 47 ∨ a = 62) → ¬ P (a, 0, 0) := fun a ha q => by
    have := hP _ q
    dsimp only at this
    omega
  obtain ⟨n1, n2, n3, n4⟩ := h5
  exact ⟨h1.fr f (o 42 (by omega)), h2.fr f (o 46 (by omega)) (o 47 (by omega)), h3.ce (g 23 (by omega)) (f.1 _ (o 43 (by omega))).1, h4.ce (g 17 (by omega)) (f.1 _ (o 45 (by omega))).1, ⟨(g 18 (by omega)).trans n1, (g 19 (by omega)).trans n2, (g 20 (by omega)).trans n3, (g 22 (by omega)).trans n4⟩, (g 21 (by omega)).trans h6, hT, ⟨e10, e11⟩, h9.ce (g 47 (by omega)) (g 48 (by omega)) (f.1 _ (o 62 (by omega))).1⟩
theorem m_truncate {t : KT} {σ : SG} {S : SS} {n : Int} (h : MS S σ) (hn : -2147483648 ≤ n ∧ n < 2147483648) : ∃ σ', Ca 3 182 [aR (some (40, 0, 0)), aI (iZ n)] (am_hp σ) t (.inl (some (aI (iZ (moI (A_truncate S n).1)))), am_hp σ', t) ∧ σ'.1 (40, 0, 0) 0 = moC (A_truncate S n).1 ∧ MS (A_truncate S n).2 σ' ∧ Fr inMo σ σ' := by
  obtain ⟨t1, t2, t3, t4⟩ := h.2.2.2.2.2.2.1
  refine ex_of (e_X12_truncate ?_)
  unfold A_truncate
  have ci := s_X12_isIn (t := t) (σ := σ) (v := n) (a := 0) (b := σ.1 (40, 0, 0) 2) (i_rg hn) (i_rg (by omega)) (i_rg (by omega))
  have F1 : Fr (fun L : Lc => L.1 = 40) σ (sI (cd σ 0) (40, 0, 0) (up ((cd σ 0).1 (40, 0, 0)) 2 n)) := cd_fr.trans (Fr.sI (P := fun L : Lc => L.1 = 40) rfl)
  by_cases hc : 0 ≤ n ∧ n ≤ (xT S).2
  · rw [if_pos hc]
    have hc' : 0 ≤ n ∧ n ≤ σ.1 (40, 0, 0) 2 := by omega
    have e40 : ∀ j, j ≠ 0 → j ≠ 2 → (sI (cd σ 0) (40, 0, 0) (up ((cd σ 0).1 (40, 0, 0)) 2 n)).1 (40, 0, 0) j = σ.1 (40, 0, 0) j := fun j h0 h1 => by rw [sI_1, if_pos rfl, up_at, if_neg h1, cd_at h0]
    refine b_X12_truncate_0 hn (by omega) (ci.up (by omega)) ((goes_t hc').up (by omega)) (by omega) (fun _ => ?_) (fun q => by omega)
    refine b_X12_truncate_20 ⟨_, rfl, ?_, ?_, F1.mono (fun L q => by unfold inMo; omega)⟩
    · rw [sI_1, if_pos rfl, up_at, if_neg (by omega), cd_0]; rfl
    · refine h.txt (T := ((xT S).1, n.toNat)) (e := xE S) F1 (fun L q => Or.inl q) (fun j hj => e40 j (by omega) (by omega)) ⟨?_, ?_, t3, fun j hj => ?_⟩ ((e40 10 (by omega) (by omega)).trans h.2.2.2.2.2.2.2.1.1) ((e40 11 (by omega) (by omega)).trans h.2.2.2.2.2.2.2.1.2)
      · rw [sI_1, if_pos rfl, up_at, if_pos rfl]
        show n = ((n.toNat : Nat) : Int)
        omega
      · show n.toNat ≤ 600
        omega
      · have hj : j < n.toNat := hj
        rw [(F1.1 (41, 0, 0) (by decide)).1]
        exact t4 j (by omega)
  · rw [if_neg hc]
    have hc' : ¬ (0 ≤ n ∧ n ≤ σ.1 (40, 0, 0) 2) := by omega
    exact b_X12_truncate_0 hn (by omega) (ci.up (by omega)) ((goes_f hc').up (by omega)) (by omega) (fun q => absurd rfl q) (fun _ => b_X12_truncate_18 ⟨_, rfl, cd_0, h.m MF.ck, (MF.ck (σ := σ) (z := 1)).mo⟩)
theorem zand_255 {a : Int} (h : -2147483648 ≤ a ∧ a < 2147483648) : zand a 255 = a % 256 := by
  have hu : u32 a ((a % 4294967296).toNat) := by
    unfold u32 iZ
    show BitVec.ofInt 32 a = _
    apply BitVec.eq_of_toNat_eq
    rw [BitVec.toNat_ofInt, BitVec.toNat_ofNat]
    show (a % 4294967296).toNat = (a % 4294967296).toNat % 4294967296
    omega
  have q := zand_mask (k := 8) hu (by omega)
  have e : ((2 ^ 8 - 1 : Nat) : Int) = 255 := rfl
  rw [e] at q
  rw [q]
  omega
/-- the buffer, and how much of it is filled -/
def inBu (L : Lc) : Prop := L = (40, 0, 0) ∨ L = (41, 0, 0)
theorem inBu_41 {σ : SG} {f : Nat → Int} : (sI σ (40, 0, 0) f).1 (41, 0, 0) = σ.1 (41, 0, 0) := by rw [sI_1, if_neg (by decide)]
theorem s_X12_four {t : KT} {σ : SG} {T : TB} {v : Int} (hT : MB T σ) (hv : -2147483648 ≤ v ∧ v < 2147483648) (hn : T.2 + 4 ≤ 600) : ∃ σ', Ca 1 181 [aR (some (40, 0, 0)), aI (iZ v)] (am_hp σ) t (.inl none, am_hp σ', t) ∧ MB (addk T v 4) σ' ∧ Fr inBu σ σ' ∧ ∀ j, j ≠ 2 → σ'.1 (40, 0, 0) j = σ.1 (40, 0, 0) j := by
  refine ex_of (e_X12_four ?_)
  refine b_X12_four_0 ?_
  refine w_loopS 4 (fun k c => ∃ σ1, c = (3, [some (aR (some (40, 0, 0))), some (aI (iZ v)), some (aI (iZ (24 - 8 * (k : Int))))], [], am_hp σ1, t) ∧ MB (addk T v k) σ1 ∧ Fr inBu σ σ1 ∧ ∀ j, j ≠ 2 → σ1.1 (40, 0, 0) j = σ.1 (40, 0, 0) j) ⟨σ, rfl, ⟨by rw [hT.1]; rfl, by show T.2 + 0 ≤ 600; omega, fun j => ?_, fun j hj => ?_⟩, Fr.refl _ _, fun _ _ => rfl⟩ (fun k c hk hI go => ?_) (fun c hI => ?_)
  · show 0 ≤ (if T.2 ≤ j ∧ j < T.2 + 0 then (v / 2 ^ (24 - 8 * (j - T.2))) % 256 else T.1 j) ∧ (if T.2 ≤ j ∧ j < T.2 + 0 then (v / 2 ^ (24 - 8 * (j - T.2))) % 256 else T.1 j) ≤ 255
    rw [if_neg (by omega)]
    exact hT.2.2.1 j
  · show _ = (if T.2 ≤ j ∧ j < T.2 + 0 then (v / 2 ^ (24 - 8 * (j - T.2))) % 256 else T.1 j)
    rw [if_neg (by omega)]
    exact hT.2.2.2 j (by have hj : j < T.2 + 0 := hj; omega)
  · obtain ⟨σ1, rfl, g1, f1, o1⟩ := hI
    have e1 : σ1.1 (40, 0, 0) 2 = ((T.2 + k : Nat) : Int) := g1.1
    have hs := shr_bd hv (s := 24 - 8 * k) (by omega)
    rw [show ((24 - 8 * k : Nat) : Int) = 24 - 8 * (k : Int) by omega] at hs
    refine b_X12_four_3 (by omega) (fun q => by omega) (fun _ => ?_)
    refine b_X12_four_7 (by omega) ?_
    rw [show (24 : Int) - 8 * (k : Int) + -8 = 24 - 8 * ((k + 1 : Nat) : Int) by omega]
    refine go _ ⟨_, rfl, ⟨?_, by show T.2 + (k + 1) ≤ 600; omega, fun j => ?_, fun j hj => ?_⟩, (f1.trans (Fr.sI (P := inBu) (Or.inr rfl))).trans (Fr.sI (P := inBu) (Or.inl rfl)), fun j hj => ?_⟩
    · show _ = ((T.2 + (k + 1) : Nat) : Int)
      simp only [sI_1, up_at, if_true]
      rw [if_neg (by decide), e1]
      omega
    · show 0 ≤ (if T.2 ≤ j ∧ j < T.2 + (k + 1) then (v / 2 ^ (24 - 8 * (j - T.2))) % 256 else T.1 j) ∧ (if T.2 ≤ j ∧ j < T.2 + (k + 1) then (v / 2 ^ (24 - 8 * (j - T.2))) % 256 else T.1 j) ≤ 255
      split
      · omega
      · exact hT.2.2.1 j
    · have hj : j < T.2 + (k + 1) := hj
      show _ = (if T.2 ≤ j ∧ j < T.2 + (k + 1) then (v / 2 ^ (24 - 8 * (j - T.2))) % 256 else T.1 j)
      rw [inBu_41, sI_1, if_pos rfl, up_at, e1, Int.toNat_natCast]
      by_cases e : j = T.2 + k
      · rw [if_pos e, if_pos (by omega), hs.1, zand_255 hs.2]
        subst e
        rw [Nat.add_sub_cancel_left]
      · rw [if_neg e]
        have := g1.2.2.2 j (by show j < T.2 + k; omega)
        have this : σ1.1 (41, 0, 0) j = (if T.2 ≤ j ∧ j < T.2 + k then (v / 2 ^ (24 - 8 * (j - T.2))) % 256 else T.1 j) := this
        rw [this]
        by_cases e2 : T.2 ≤ j
        · rw [if_pos (by omega), if_pos (by omega)]
        · rw [if_neg (by omega), if_neg (by omega)]
    · rw [sI_1, if_pos rfl, up_at, if_neg hj, sI_1, if_neg (by decide)]
      exact o1 j hj
  · obtain ⟨σ1, rfl, g1, f1, o1⟩ := hI
    exact b_X12_four_3 (by omega) (fun _ => b_X12_four_39 ⟨σ1, rfl, g1, f1, o1⟩) (fun q => by omega)
theorem m_feed {t : KT} {σ : SG} {S : SS} {a b c d e : Int} (h : MS S σ) (ha : -2147483648 ≤ a ∧ a < 2147483648) (hb : -2147483648 ≤ b ∧ b < 2147483648) (hc : -2147483648 ≤ c ∧ c < 2147483648) (hd : -2147483648 ≤ d ∧ d < 2147483648) (he : -2147483648 ≤ e ∧ e < 2147483648) : ∃ σ', Ca 3 180 [aR (some (40, 0, 0)), aI (iZ a), aI (iZ b), aI (iZ c), aI (iZ d), aI (iZ e)] (am_hp σ) t (.inl (some (aI (iZ (moI (A_feed S a b c d e).1)))), am_hp σ', t) ∧ σ'.1 (40, 0, 0) 0 = moC (A_feed S a b c d e).1 ∧ MS (A_feed S a b c d e).2 σ' ∧ Fr inMo σ σ' := by
  have hT := h.2.2.2.2.2.2.1
  have e1 := hT.1
  have h6 := hT.2.1
  refine ex_of (e_X12_feed ?_)
  unfold A_feed
  by_cases hn : (xT S).2 + 20 ≤ 600
  · have hT0 : MB (xT S) (cd σ 0) := hT.m MF.ck
    obtain ⟨σ1, c1, g1, f1, o1⟩ := s_X12_four (t := t) hT0 ha (by omega)
    obtain ⟨σ2, c2, g2, f2, o2⟩ := s_X12_four (t := t) g1 hb (by show (xT S).2 + 4 + 4 ≤ 600; omega)
    obtain ⟨σ3, c3, g3, f3, o3⟩ := s_X12_four (t := t) g2 hc (by show (xT S).2 + 4 + 4 + 4 ≤ 600; omega)
    obtain ⟨σ4, c4, g4, f4, o4⟩ := s_X12_four (t := t) g3 hd (by show (xT S).2 + 4 + 4 + 4 + 4 ≤ 600; omega)
    obtain ⟨σ5, c5, g5, f5, o5⟩ := s_X12_four (t := t) g4 he (by show (xT S).2 + 4 + 4 + 4 + 4 + 4 ≤ 600; omega)
    have f0 : Fr (fun L : Lc => L.1 = 40 ∨ L.1 = 41) σ (cd σ 0) := cd_fr.mono (fun L q => Or.inl q)
    have m2 : ∀ L, inBu L → (L.1 = 40 ∨ L.1 = 41) := fun L q => by
      rcases q with q | q
      · subst q; exact Or.inl rfl
      · subst q; exact Or.inr rfl
    have ff := ((((f0.trans (f1.mono m2)).trans (f2.mono m2)).trans (f3.mono m2)).trans (f4.mono m2)).trans (f5.mono m2)
    have oo : ∀ j, j ≠ 0 → j ≠ 2 → σ5.1 (40, 0, 0) j = σ.1 (40, 0, 0) j := fun j h0 h2 => by rw [o5 j h2, o4 j h2, o3 j h2, o2 j h2, o1 j h2, cd_at h0]
    have cg := goes_t (t := t) (σ := σ) (P := True) trivial
    rw [bz_t (p := True) trivial] at cg
    rw [if_pos hn]
    refine b_X12_feed_0 (by omega) (fun q => by omega) (fun _ => b_X12_feed_14 (b_X12_feed_19 (cg.up (by omega)) (by omega) (fun _ => ?_) (fun q => by omega)))
    refine b_X12_feed_27 (c1.up (by omega)) (c2.up (by omega)) (c3.up (by omega)) (c4.up (by omega)) (c5.up (by omega)) ⟨σ5, ?_, ?_, ?_, ff.mono (fun L q => by unfold inMo; omega)⟩
    · have e5 : σ5.1 (40, 0, 0) 2 = (((xT S).2 + 20 : Nat) : Int) := g5.1
      rw [e5]
      rfl
    · rw [o5 0 (by omega), o4 0 (by omega), o3 0 (by omega), o2 0 (by omega), o1 0 (by omega), cd_0]
      rfl
    · exact h.txt (e := xE S) ff (fun L q => by omega) (fun j hj => oo j (by omega) (by omega)) g5 ((oo 10 (by omega) (by omega)).trans h.2.2.2.2.2.2.2.1.1) ((oo 11 (by omega) (by omega)).trans h.2.2.2.2.2.2.2.1.2)
  · have cg := goes_f (t := t) (σ := σ) (P := False) (fun z => z)
    rw [bz_f (p := False) (fun z => z)] at cg
    rw [if_neg hn]
    exact b_X12_feed_0 (by omega) (fun _ => b_X12_feed_18 (b_X12_feed_19 (cg.up (by omega)) (by omega) (fun q => absurd rfl q) (fun _ => b_X12_feed_25 ⟨_, rfl, cd_0, h.m MF.ck, (MF.ck (σ := σ) (z := 1)).mo⟩))) (fun q => by omega)
