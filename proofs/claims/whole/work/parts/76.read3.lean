/-! THE MODEL: entries, ways, the gap -/
set_option maxRecDepth 4000
theorem s_X12_isEntry {t : KT} {σ : SG} {A : RA} {r : Nat} {e : Int} (hA : MA A σ) (hC : MC σ) (hr : r < rN A) (he : -2147483648 ≤ e ∧ e < 2147483648) : ∃ σ', Ca 7 268 [aR (some (40, 0, 0)), aI (iZ ((r : Int))), aI (iZ e)] (am_hp σ) t (.inl (some (aI (iZ (bz (0 ≤ e ∧ e < enN (rSk A) ((nW (chA A r) (rLn A r)))))))), am_hp σ', t) ∧ WD (chA A r) (rNu A r) (rLn A r) σ' ∧ QF σ σ' := by
  obtain ⟨σ2, c2, w2, p2, q2⟩ := s_X12_packsRow (t := t) hA hC hr
  have A2 := hA.q q2
  have h9 := hA.1.2.2.1
  have w2n := w2.n
  have hle : enN (rSk A) ((nW (chA A r) (rLn A r))) ≤ (nW (chA A r) (rLn A r)) := en_le h9.1
  have ci := s_X12_isIn (t := t) (σ := σ2) (i_rg he) (i_rg (z := 0) (by omega)) (i_rg (z := (enN (rSk A) ((nW (chA A r) (rLn A r))) : Int) - 1) (by omega))
  refine ex_of (e_X12_isEntry ?_)
  refine b_X12_isEntry_0 (c2.up (by omega)) he ((s_X12_entriesNow A2 w2).up (by omega)) (by omega) (ci.up (by omega)) bz_rg (fun q => ?_) (fun q => ?_)
  · have q := bz_0.mp q
    rw [bz_f (p := 0 ≤ e ∧ e < enN (rSk A) ((nW (chA A r) (rLn A r)))) (by omega)]
    exact b_X12_isEntry_30 (b_X12_isEntry_31 (by omega) ⟨σ2, rfl, w2, q2⟩)
  · have q := bz_n.mp q
    rw [bz_t (p := 0 ≤ e ∧ e < enN (rSk A) ((nW (chA A r) (rLn A r)))) (by omega)]
    exact b_X12_isEntry_22 (by omega) (fun z => by omega) (fun _ => b_X12_isEntry_26 (b_X12_isEntry_31 (by omega) ⟨σ2, rfl, w2, q2⟩))
theorem m_entryStart {t : KT} {σ : SG} {A : RA} {r e : Int} (hA : MA A σ) (hC : MC σ) (hr : -2147483648 ≤ r ∧ r < 2147483648) (he : -2147483648 ≤ e ∧ e < 2147483648) : ∃ σ', Ca 8 269 [aR (some (40, 0, 0)), aI (iZ r), aI (iZ e)] (am_hp σ) t (.inl (some (aI (iZ (moI (A_entryStart A r e))))), am_hp σ', t) ∧ σ'.1 (40, 0, 0) 0 = moC (A_entryStart A r e) ∧ MF σ σ' := by
  have cr := s_X12_isRow (t := t) hA hr
  refine ex_of (e_X12_entryStart ?_)
  unfold A_entryStart
  by_cases hR : isR A r
  · rw [if_pos hR]
    have hn := isR_n hR
    have A1 := hA.m (MF.ck (σ := σ) (z := 0))
    obtain ⟨σ2, c2, w2, q2⟩ := s_X12_isEntry (t := t) A1 (hC.m (MF.ck (σ := σ) (z := 0))) hn.1 he
    rw [hn.2] at c2
    have A2 := A1.q q2
    have hk : σ2.1 (42, 0, 0) 2 = rSk A := A2.2.2.2.1
    have h9 := hA.1.2.2.1
    have w2n := w2.n
    refine b_X12_entryStart_0 (cr.up (by omega)) ((goes_t hR).up (by omega)) (by omega) (fun _ => ?_) (fun q => by omega)
    refine b_X12_entryStart_14 (c2.up (by omega)) bz_rg (fun q => ?_) (fun q => ?_)
    · rw [if_neg (bz_0.mp q)]
      exact b_X12_entryStart_39 (b_X12_entryStart_40 ⟨σ2, rfl, okM q2⟩)
    · have hE := bz_n.mp q
      rw [if_pos hE]
      have hlt := (en_lt (sk := rSk A) (n := (nW (chA A r.toNat) (rLn A r.toNat))) (e := e.toNat) h9.1).mp (by omega)
      have hs := w2.st hlt
      have ee : e * (rSk A : Int) = ((e.toNat * rSk A : Nat) : Int) := by rw [Int.natCast_mul, show ((e.toNat : Nat) : Int) = e by omega]
      refine b_X12_entryStart_23 (by rw [hk, ee]; omega) (b_X12_entryStart_40 ⟨σ2, ?_, okM q2⟩)
      rw [hk, ee, Int.toNat_natCast, hs.1]
      rfl
  · rw [if_neg hR]
    exact b_X12_entryStart_0 (cr.up (by omega)) ((goes_f hR).up (by omega)) (by omega) (fun q => absurd rfl q) (fun _ => b_X12_entryStart_12 ⟨_, rfl, noM 1⟩)
theorem m_entrySum {t : KT} {σ : SG} {A : RA} {r e : Int} (hA : MA A σ) (hC : MC σ) (hr : -2147483648 ≤ r ∧ r < 2147483648) (he : -2147483648 ≤ e ∧ e < 2147483648) : ∃ σ', Ca 8 270 [aR (some (40, 0, 0)), aI (iZ r), aI (iZ e)] (am_hp σ) t (.inl (some (aL (jZ (moI (A_entrySum A r e))))), am_hp σ', t) ∧ σ'.1 (40, 0, 0) 0 = moC (A_entrySum A r e) ∧ MF σ σ' := by
  have cr := s_X12_isRow (t := t) hA hr
  refine ex_of (e_X12_entrySum ?_)
  unfold A_entrySum
  by_cases hR : isR A r
  · rw [if_pos hR]
    have hn := isR_n hR
    have A1 := hA.m (MF.ck (σ := σ) (z := 0))
    obtain ⟨σ2, c2, w2, q2⟩ := s_X12_isEntry (t := t) A1 (hC.m (MF.ck (σ := σ) (z := 0))) hn.1 he
    rw [hn.2] at c2
    have A2 := A1.q q2
    have hk : σ2.1 (42, 0, 0) 2 = rSk A := A2.2.2.2.1
    have h9 := hA.1.2.2.1
    have w2n := w2.n
    refine b_X12_entrySum_0 (cr.up (by omega)) ((goes_t hR).up (by omega)) (by omega) (fun _ => ?_) (fun q => by omega)
    refine b_X12_entrySum_14 (c2.up (by omega)) bz_rg (fun q => ?_) (fun q => ?_)
    · rw [if_neg (bz_0.mp q)]
      exact b_X12_entrySum_44 (b_X12_entrySum_47 ⟨σ2, rfl, okM q2⟩)
    · have hE := bz_n.mp q
      rw [if_pos hE]
      have hlt := (en_lt (sk := rSk A) (n := (nW (chA A r.toNat) (rLn A r.toNat))) (e := e.toNat) h9.1).mp (by omega)
      have hs := w2.st hlt
      have ee : e * (rSk A : Int) = ((e.toNat * rSk A : Nat) : Int) := by rw [Int.natCast_mul, show ((e.toNat : Nat) : Int) = e by omega]
      have cs := s_X12_sumOf (t := t) (a := 0) (b := (stU (chA A r.toNat) (e.toNat * rSk A))) w2.2.1 (Nat.zero_le _) (by omega)
      rw [Nat.sub_zero] at cs
      refine b_X12_entrySum_23 (by rw [hk, ee]; omega) (by rw [hk, ee, Int.toNat_natCast, hs.1]; exact cs.up (by omega)) (b_X12_entrySum_47 ⟨σ2, rfl, okM q2⟩)
  · rw [if_neg hR]
    exact b_X12_entrySum_0 (cr.up (by omega)) ((goes_f hR).up (by omega)) (by omega) (fun q => absurd rfl q) (fun _ => b_X12_entrySum_12 ⟨_, rfl, noM 1⟩)
theorem m_why {t : KT} {σ : SG} {A : RA} {r k w : Int} (hA : MA A σ) (hC : MC σ) (hr : -2147483648 ≤ r ∧ r < 2147483648) (hk : -2147483648 ≤ k ∧ k < 2147483648) (hw : -2147483648 ≤ w ∧ w < 2147483648) : ∃ σ', Ca 8 271 [aR (some (40, 0, 0)), aI (iZ r), aI (iZ k), aI (iZ w)] (am_hp σ) t (.inl (some (aI (iZ (moI (A_why A r k w))))), am_hp σ', t) ∧ σ'.1 (40, 0, 0) 0 = moC (A_why A r k w) ∧ MF σ σ' := by
  obtain ⟨σ1, c1, w1, q1⟩ := s_X12_isWordOf (t := t) hA hC hr hk
  refine ex_of (e_X12_why ?_)
  unfold A_why
  have no : ¬ (isW A r k ∧ 0 ≤ w ∧ w < 9) → Wp k_X12_why 7 (21, [some (aR (some (40, 0, 0))), some (aI (iZ r)), some (aI (iZ k)), some (aI (iZ w))], [aR (some (40, 0, 0))], am_hp σ1, t) (fun r' => ∃ σ', r' = (.inl (some (aI (iZ 0))), am_hp σ', t) ∧ σ'.1 (40, 0, 0) 0 = 1 ∧ MF σ σ') := fun hn => by
    have c := goes_f (t := t) (σ := σ1) (P := False) (fun z => z)
    rw [bz_f (p := False) (fun z => z)] at c
    exact b_X12_why_21 (b_X12_why_22 (c.up (by omega)) (by omega) (fun q => absurd rfl q) (fun _ => b_X12_why_28 ⟨_, rfl, q1.okc 1⟩))
  by_cases hW : isW A r k
  · have w2 := ((w1 hW.1).1).ck (z := 0)
    have hn := isW_n hW
    have w2n := w2.n
    have hs := w2.st hn.1
    refine b_X12_why_0 (c1.up (by omega)) bz_rg (fun q => absurd hW (bz_0.mp q)) (fun _ => ?_)
    refine b_X12_why_10 ((s_X12_isWay hw).up (by omega)) bz_rg (fun q => ?_) (fun q => ?_)
    · have q := bz_0.mp q
      rw [if_neg (by omega)]
      exact no (by omega)
    · have q := bz_n.mp q
      have c := goes_t (t := t) (σ := σ1) (P := True) trivial
      rw [bz_t (p := True) trivial] at c
      rw [if_pos (by omega)]
      refine b_X12_why_17 (b_X12_why_22 (c.up (by omega)) (by omega) (fun _ => ?_) (fun q => by omega))
      refine b_X12_why_30 (by omega) (by rw [hs.2.2.1]; omega) hw (fun q2 => ?_) (fun q2 => ?_)
      · rw [hs.2.2.1] at q2
        rw [if_neg q2]
        have ct := s_X12_canTake (t := t) (w := w.toNat) w2.2.2.2 w2.2.1 (by omega : (stU (chA A r.toNat) k.toNat) ≤ _) (by omega)
        rw [show ((w.toNat : Nat) : Int) = w by omega] at ct
        refine b_X12_why_44 (by omega) (by rw [hs.1]; exact ct.up (by omega)) bz_rg (fun q3 => ?_) (fun q3 => ?_)
        · rw [if_neg (bz_0.mp q3)]
          exact b_X12_why_62 (b_X12_why_63 ⟨_, rfl, q1.okc 0⟩)
        · rw [if_pos (bz_n.mp q3)]
          exact b_X12_why_58 (b_X12_why_63 ⟨_, rfl, q1.okc 0⟩)
      · rw [hs.2.2.1] at q2
        rw [if_pos q2]
        exact b_X12_why_40 (b_X12_why_63 ⟨_, rfl, q1.okc 0⟩)
  · rw [if_neg (fun z => hW z.1)]
    exact b_X12_why_0 (c1.up (by omega)) bz_rg (fun _ => no (fun z => hW z.1)) (fun q => absurd (bz_n.mp q) hW)
theorem s_X12_wordsBySetWay {t : KT} {σ : SG} {A : RA} {w : Nat} (hA : MA A σ) (hC : MC σ) (hw : w < 9) : ∃ σ', Ca 7 255 [aR (some (40, 0, 0)), aI (iZ ((w : Int)))] (am_hp σ) t (.inl (some (aI (iZ (smU (fun r => smU (fun k => bz ((chA A r (stU (chA A r) k)) = w)) ((nW (chA A r) (rLn A r)))) (rN A))))), am_hp σ', t) ∧ QF σ σ' := by
  have e0 := hA.n
  refine ex_of (e_X12_wordsBySetWay ?_)
  refine b_X12_wordsBySetWay_0 ?_
  refine w_loopS (rN A) (fun r c => ∃ (σ1 : SG) (u v : Option AV), c = (4, [some (aR (some (40, 0, 0))), some (aI (iZ ((w : Int)))), some (aI (iZ (smU (fun r => smU (fun k => bz ((chA A r (stU (chA A r) k)) = w)) ((nW (chA A r) (rLn A r)))) r))), some (aI (iZ ((r : Int)))), u, v], [], am_hp σ1, t) ∧ QF σ σ1) ⟨σ, none, none, rfl, QF.refl σ⟩ (fun r c hr hI go => ?_) (fun c hI => ?_)
  · obtain ⟨σ1, u, v, rfl, q1⟩ := hI
    have A1 := hA.q q1
    have e1 := A1.n
    obtain ⟨σ2, c2, w2, -, q2⟩ := s_X12_packsRow (t := t) A1 (hC.q q1) hr
    have w2n := w2.n
    refine b_X12_wordsBySetWay_4 (by omega) (by omega) (fun q => by omega) (fun _ => b_X12_wordsBySetWay_14 (c2.up (by omega)) ?_)
    refine w_loopU ((nW (chA A r) (rLn A r))) (fun k => (24, [some (aR (some (40, 0, 0))), some (aI (iZ ((w : Int)))), some (aI (iZ (smU (fun r => smU (fun k => bz ((chA A r (stU (chA A r) k)) = w)) ((nW (chA A r) (rLn A r)))) r + smU (fun k => bz ((chA A r (stU (chA A r) k)) = w)) k))), some (aI (iZ ((r : Int)))), some (aI (iZ (((nW (chA A r) (rLn A r)) : Int)))), some (aI (iZ ((k : Int))))], [], am_hp σ2, t)) ?_ (fun k hk w' => ?_) ?_
    · show (24, _, _, _, _) = _
      rw [show smU (fun k => bz ((chA A r (stU (chA A r) k)) = w)) 0 = 0 from rfl, Int.add_zero]
      rfl
    · have hs := w2.st hk
      refine b_X12_wordsBySetWay_24 (by omega) (by omega) (fun q => by omega) (fun _ => ?_)
      have c := s_X12_truth (t := t) (σ := σ2) (P := (chA A r (stU (chA A r) k)) = w)
      rw [smU_s, ← Int.add_assoc] at w'
      refine b_X12_wordsBySetWay_31 (by omega) (by rw [Int.toNat_natCast, hs.2.2.1]; omega) (by omega) (fun q => ?_) (fun q => ?_)
      · rw [Int.toNat_natCast, hs.2.2.1] at q
        have hne : ¬ (chA A r (stU (chA A r) k)) = w := by omega
        rw [bz_f (p := (chA A r (stU (chA A r) k)) = w) hne] at c w'
        exact b_X12_wordsBySetWay_47 (b_X12_wordsBySetWay_48 (c.up (by omega)) w')
      · rw [Int.toNat_natCast, hs.2.2.1] at q
        have hne : (chA A r (stU (chA A r) k)) = w := by omega
        rw [bz_t (p := (chA A r (stU (chA A r) k)) = w) hne] at c w'
        exact b_X12_wordsBySetWay_43 (b_X12_wordsBySetWay_48 (c.up (by omega)) w')
    · exact b_X12_wordsBySetWay_24 (by omega) (by omega) (fun _ => b_X12_wordsBySetWay_59 (go _ ⟨σ2, _, _, rfl, q1.trans q2⟩)) (fun q => by omega)
  · obtain ⟨σ1, u, v, rfl, q1⟩ := hI
    have e1 := (hA.q q1).n
    exact b_X12_wordsBySetWay_4 (by omega) (by omega) (fun _ => b_X12_wordsBySetWay_65 ⟨σ1, rfl, q1⟩) (fun q => by omega)
theorem m_way {t : KT} {σ : SG} {A : RA} {w x : Int} (hA : MA A σ) (hC : MC σ) (hw : -2147483648 ≤ w ∧ w < 2147483648) (hx : -2147483648 ≤ x ∧ x < 2147483648) : ∃ σ', Ca 8 256 [aR (some (40, 0, 0)), aI (iZ w), aI (iZ x)] (am_hp σ) t (.inl (some (aI (iZ (moI (A_way A w x))))), am_hp σ', t) ∧ σ'.1 (40, 0, 0) 0 = moC (A_way A w x) ∧ MF σ σ' := by
  have cw := s_X12_isWay (t := t) (σ := σ) hw
  have ci := s_X12_isIn (t := t) (σ := σ) (i_rg hx) (i_rg (z := 0) (by omega)) (i_rg (z := 3) (by omega))
  refine ex_of (e_X12_way ?_)
  unfold A_way
  by_cases hW : 0 ≤ w ∧ w ≤ 8
  · rw [if_pos (by omega)]
    by_cases hx3 : 0 ≤ x ∧ x ≤ 3
    · have A1 := hA.m (MF.ck (σ := σ) (z := 0))
      have C1 := hC.m (MF.ck (σ := σ) (z := 0))
      have ht := C1 w.toNat (by omega)
      refine b_X12_way_0 (cw.up (by omega)) hx (ci.up (by omega)) ((gB_t hW hx3).up (by omega)) (by omega) (fun _ => ?_) (fun q => by omega)
      refine b_X12_way_22 hx (fun e => ?_) (fun e => ?_) (fun e => ?_) (fun e => ?_)
      · subst e
        exact b_X12_way_48 (by omega) ⟨_, by rw [ht.1]; rfl, okM (QF.refl _)⟩
      · subst e
        exact b_X12_way_55 (by omega) ⟨_, by rw [ht.2]; rfl, okM (QF.refl _)⟩
      · subst e
        have hp := A1.2.2.2.2.1 w.toNat (by omega)
        rw [Nat.zero_add] at hp
        refine b_X12_way_62 (by omega) ⟨_, ?_, okM (QF.refl _)⟩
        rw [show (3 + w).toNat = 3 + w.toNat by omega, hp]
        rfl
      · have e : x = 3 := by omega
        subst e
        obtain ⟨σ2, c2, q2⟩ := s_X12_wordsBySetWay (t := t) (w := w.toNat) A1 C1 (by omega)
        rw [show ((w.toNat : Nat) : Int) = w by omega] at c2
        exact b_X12_way_71 (c2.up (by omega)) ⟨σ2, rfl, okM q2⟩
    · rw [if_neg (by omega), if_neg (by omega), if_neg (by omega), if_neg (by omega)]
      exact b_X12_way_0 (cw.up (by omega)) hx (ci.up (by omega)) ((gB_2 hW hx3).up (by omega)) (by omega) (fun q => absurd rfl q) (fun _ => b_X12_way_20 ⟨_, rfl, noM 2⟩)
  · rw [if_neg (by omega)]
    exact b_X12_way_0 (cw.up (by omega)) hx (ci.up (by omega)) ((gB_1 hW).up (by omega)) (by omega) (fun q => absurd rfl q) (fun _ => b_X12_way_20 ⟨_, rfl, noM 1⟩)
theorem m_readsFor {t : KT} {σ : SG} {A : RA} {r i : Int} (hA : MA A σ) (hC : MC σ) (hr : -2147483648 ≤ r ∧ r < 2147483648) (hi : -2147483648 ≤ i ∧ i < 2147483648) : ∃ σ', Ca 7 285 [aR (some (40, 0, 0)), aI (iZ r), aI (iZ i)] (am_hp σ) t (.inl (some (aI (iZ (moI (A_readsFor A r i))))), am_hp σ', t) ∧ σ'.1 (40, 0, 0) 0 = moC (A_readsFor A r i) ∧ MF σ σ' := by
  have cr := s_X12_isNumber (t := t) hA hr hi
  refine ex_of (e_X12_readsFor ?_)
  unfold A_readsFor
  by_cases hN : isN A r i
  · rw [if_pos hN]
    have hn := isR_n hN.1
    have A1 := hA.m (MF.ck (σ := σ) (z := 0))
    obtain ⟨σ2, c2, w2, p2, q2⟩ := s_X12_packsRow (t := t) A1 (hC.m (MF.ck (σ := σ) (z := 0))) hn.1
    rw [hn.2] at c2
    have hi2 : i.toNat < rLn A r.toNat := by have := hN.2; omega
    have w2n := w2.n
    have hpos := wd_of (ch := chA A r.toNat) hi2
    have co := s_X12_readsOf (t := t) (A1.q q2) w2 hi2
    rw [show ((i.toNat : Nat) : Int) = i by have := hN.2; omega] at co
    refine b_X12_readsFor_0 (cr.up (by omega)) ((goes_t hN).up (by omega)) (by omega) (fun _ => ?_) (fun q => by omega)
    exact b_X12_readsFor_15 (c2.up (by omega)) (by omega) (fun _ => b_X12_readsFor_29 (co.up (by omega)) (b_X12_readsFor_34 ⟨σ2, rfl, okM q2⟩)) (fun q => by omega)
  · rw [if_neg hN]
    exact b_X12_readsFor_0 (cr.up (by omega)) ((goes_f hN).up (by omega)) (by omega) (fun q => absurd rfl q) (fun _ => b_X12_readsFor_13 ⟨_, rfl, noM 1⟩)
