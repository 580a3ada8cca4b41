/-! SPECIFICATIONS: what is read -/
set_option maxRecDepth 4000
theorem s_X11_setting {t : KT} {σ : SG} {A : RA} {x : Int} (hW : CW A σ) (hx : -2147483648 ≤ x ∧ x < 2147483648) : Ca 4 95 [aR (some (1, 0, 0)), aI (iZ x)] (am_hp σ) t (reI 1 1 σ t (A_setting A x)) := by
  have hR := hW.2.1
  refine ca_of (e_X11_setting ?_)
  refine b_X11_setting_0 hx (fun h => b_X11_setting_40 ?_) (fun h => b_X11_setting_48 ?_) (fun h => b_X11_setting_56 ?_) (fun h => b_X11_setting_64 ((s_X7_allNum hW.1 hR).up (by omega)) ?_) (fun h => b_X11_setting_72 ((s_X11_allWords hW).up (by omega)) ?_) (fun h => b_X11_setting_77 ((s_X11_allPrices hW).up (by omega)) ?_) (fun h => b_X11_setting_82 ?_)
  · subst h; rw [hR.1]; rfl
  · subst h; rw [hR.2.1]; rfl
  · subst h; rw [hR.2.2.1]; rfl
  · subst h; rfl
  · subst h; rfl
  · subst h; rfl
  · rw [A_setting, if_neg (by omega), if_neg (by omega), if_neg (by omega), if_neg (by omega), if_neg (by omega), if_neg (by omega)]
    rfl
theorem s_X11_way {t : KT} {σ : SG} {A : RA} {w x : Int} (hW : CW A σ) (hw : -2147483648 ≤ w ∧ w < 2147483648) (hx : -2147483648 ≤ x ∧ x < 2147483648) : Ca 4 97 [aR (some (1, 0, 0)), aI (iZ w), aI (iZ x)] (am_hp σ) t (reI 2 1 σ t (A_way A w x)) := by
  have hR := hW.2.1
  refine ca_of (e_X11_way ?_)
  by_cases hc : 0 ≤ w ∧ w < 9
  · obtain ⟨w, rfl⟩ := Int.eq_ofNat_of_zero_le hc.1
    have h9 : w < 9 := by omega
    rw [A_way, if_pos hc]
    refine b_X11_way_0 ((s_X11_checkWay hc).up (by omega)) hx (fun h => b_X11_way_36 hc ?_) (fun h => b_X11_way_42 hc ?_) (fun h => b_X11_way_48 hc ?_) (fun h => b_X11_way_58 ((s_X11_allWordsOf hW h9).up (by omega)) ?_) (fun h => b_X11_way_64 ?_)
    · subst h; rw [Int.toNat_natCast, cntZ_eq w h9]; rfl
    · subst h; rw [Int.toNat_natCast, widZ_eq w h9]; rfl
    · subst h; rw [Int.toNat_natCast, hR.2.2.2.1 w h9]; rfl
    · subst h; rfl
    · rw [if_neg (by omega), if_neg (by omega), if_neg (by omega), if_neg (by omega)]
      rfl
  · rw [A_way, if_neg hc]
    exact bx_X11_way_0_1 ((t_X11_checkWay hw hc).up (by omega)) rfl
theorem s_X11_row {t : KT} {σ : SG} {A : RA} {r x : Int} (hW : CW A σ) (hr : -2147483648 ≤ r ∧ r < 2147483648) (hx : -2147483648 ≤ x ∧ x < 2147483648) : Ca 5 98 [aR (some (1, 0, 0)), aI (iZ r), aI (iZ x)] (am_hp σ) t (reI 2 1 σ t (A_row A r x)) := by
  have hR := hW.2.1
  refine ca_of (e_X11_row ?_)
  by_cases hc : isR A r
  · have hl := hW.len hc
    have hX := hW.px hc
    have hn := s_X7_bitsNeeded (t := t) hW.1 hR hl.2.2.1
    rw [hl.2.2.2.2] at hn
    rw [A_row, if_pos hc]
    refine b_X11_row_0 ((s_X11_checkRow hW hc).up (by omega)) (by omega) hx (fun h => b_X11_row_56 ?_) (fun h => b_X11_row_61 ?_) (fun h => b_X11_row_66 ((s_X4_sumPrices hX hR.2.2.2.1).up (by omega)) ?_) (fun h => b_X11_row_78 ((s_X11_entriesOf hW hl.2.2.1).up (by omega)) ?_) (fun h => b_X11_row_84 ((s_X4_emptyBits hX).up (by omega)) ?_) (fun h => b_X11_row_89 ((s_X4_usedBits hX).up (by omega)) (hn.up (by omega)) ?_) (fun h => b_X11_row_103 ((s_X4_setOfWays hX).up (by omega)) ?_) (fun h => b_X11_row_108 ?_)
    · subst h; rw [hX.1.2.1]; rfl
    · subst h; rw [hX.1.1]; rfl
    · subst h; rfl
    · subst h; rfl
    · subst h; rfl
    · subst h; rfl
    · subst h; rfl
    · rw [if_neg (by omega), if_neg (by omega), if_neg (by omega), if_neg (by omega), if_neg (by omega), if_neg (by omega), if_neg (by omega)]
      rfl
  · rw [A_row, if_neg hc]
    exact bx_X11_row_0_1 ((t_X11_checkRow hW hr hc).up (by omega)) rfl
theorem CW.wrd {A : RA} {σ : SG} {r k : Int} (hW : CW A σ) (h : isW A r k) : k.toNat < (nW (chA A r.toNat) (rLn A r.toNat)) ∧ ((k.toNat : Nat) : Int) = k ∧ k < 60 ∧ (stU (chA A r.toNat) k.toNat) < rLn A r.toNat ∧ ((hB (chA A r.toNat) (rLn A r.toNat) k.toNat) ≤ 60 ∧ (stU (chA A r.toNat) k.toNat) + (hB (chA A r.toNat) (rLn A r.toNat) k.toNat) ≤ rLn A r.toNat) ∧ (chA A r.toNat (stU (chA A r.toNat) k.toNat)) < 9 := by
  have hX := hW.px h.1
  have hn := hW.nw h.1
  have hk : k.toNat < (nW (chA A r.toNat) (rLn A r.toNat)) := by omega
  have h1 := sT_in hk
  have h2 := hB_bd hk
  have h3 := hX.2.1
  refine ⟨hk, by omega, by omega, h1.2, ⟨?_, h2.2.2⟩, hX.way hk⟩
  show hB _ _ _ ≤ 60
  omega
theorem s_X11_word {t : KT} {σ : SG} {A : RA} {r k : Int} (hW : CW A σ) (hr : -2147483648 ≤ r ∧ r < 2147483648) (hx : -2147483648 ≤ k ∧ k < 2147483648) : Ca 4 99 [aR (some (1, 0, 0)), aI (iZ r), aI (iZ k)] (am_hp σ) t (reI 2 2 σ t (A_word A r k)) := by
  refine ca_of (e_X11_word ?_)
  by_cases hc : isW A r k
  · have hl := hW.len hc.1
    have hk := hW.wrd hc
    rw [A_word, if_pos hc]
    refine b_X11_word_0 ((s_X11_checkWord hW hc).up (by omega)) (by omega) (by omega) ?_
    rw [((hW.px hc.1).at hk.1).2]
    rfl
  · rw [A_word, if_neg hc]
    exact bx_X11_word_0_1 ((t_X11_checkWord hW hr hx hc).up (by omega)) rfl
theorem s_X11_wordPart {t : KT} {σ : SG} {A : RA} {r k x : Int} (hW : CW A σ) (hr : -2147483648 ≤ r ∧ r < 2147483648) (hk : -2147483648 ≤ k ∧ k < 2147483648) (hx : -2147483648 ≤ x ∧ x < 2147483648) : Ca 4 100 [aR (some (1, 0, 0)), aI (iZ r), aI (iZ k), aI (iZ x)] (am_hp σ) t (reI 2 1 σ t (A_wordPart A r k x)) := by
  refine ca_of (e_X11_wordPart ?_)
  by_cases hc : isW A r k
  · have hl := hW.len hc.1
    have hq := hW.wrd hc
    have hX := hW.px hc.1
    have c1 := s_X4_wayOf (t := t) hX hq.1
    have c2 := s_X4_heldBy (t := t) hX hq.1
    have c3 := s_X4_emptyBitsOf (t := t) hX hq.1
    rw [hq.2.1] at c1 c2 c3
    rw [A_wordPart, if_pos hc]
    refine b_X11_wordPart_0 ((s_X11_checkWord hW hc).up (by omega)) (by omega) hx (fun h => b_X11_wordPart_44 (c1.up (by omega)) ?_) (fun h => b_X11_wordPart_51 (c2.up (by omega)) ?_) (fun h => b_X11_wordPart_58 (by omega) ?_) (fun h => b_X11_wordPart_66 (c3.up (by omega)) ?_) (fun h => b_X11_wordPart_73 ?_)
    · subst h; rfl
    · subst h; rfl
    · subst h; rw [(hX.at hq.1).1]; rfl
    · subst h; rfl
    · rw [if_neg (by omega), if_neg (by omega), if_neg (by omega), if_neg (by omega)]
      rfl
  · rw [A_wordPart, if_neg hc]
    exact bx_X11_wordPart_0_1 ((t_X11_checkWord hW hr hk hc).up (by omega)) rfl
theorem s_X11_wordSum {t : KT} {σ : SG} {A : RA} {r k : Int} (hW : CW A σ) (hr : -2147483648 ≤ r ∧ r < 2147483648) (hk : -2147483648 ≤ k ∧ k < 2147483648) : Ca 4 101 [aR (some (1, 0, 0)), aI (iZ r), aI (iZ k)] (am_hp σ) t (reJ 2 2 σ t (A_wordSum A r k)) := by
  refine ca_of (e_X11_wordSum ?_)
  by_cases hc : isW A r k
  · have hl := hW.len hc.1
    have hq := hW.wrd hc
    have hX := hW.px hc.1
    have c2 := s_X4_heldBy (t := t) hX hq.1
    rw [hq.2.1] at c2
    have c3 := s_X7_sum (t := t) (a := (stU (chA A r.toNat) k.toNat)) (b := (stU (chA A r.toNat) k.toNat) + (hB (chA A r.toNat) (rLn A r.toNat) k.toNat)) hW.1 hW.2.1 hl.2.2.1 (by omega) hq.2.2.2.2.1.2
    rw [hl.2.2.2.2, Nat.add_sub_cancel_left] at c3
    rw [A_wordSum, if_pos hc]
    refine b_X11_wordSum_0 (r2 := ((hB (chA A r.toNat) (rLn A r.toNat) k.toNat) : Int)) (r3 := smF (rNu A r.toNat) ((stU (chA A r.toNat) k.toNat)) ((hB (chA A r.toNat) (rLn A r.toNat) k.toNat))) (σ1 := σ) (σ2 := σ) (σ3 := σ) ((s_X11_checkWord hW hc).up (by omega)) (by omega) (by omega) (c2.up (by omega)) ?_ rfl
    rw [(hX.at hq.1).1, show (stU (chA A r.toNat) k.toNat : Int) + ((hB (chA A r.toNat) (rLn A r.toNat) k.toNat) : Int) = (((stU (chA A r.toNat) k.toNat) + (hB (chA A r.toNat) (rLn A r.toNat) k.toNat) : Nat) : Int) by omega]
    exact c3.up (by omega)
  · rw [A_wordSum, if_neg hc]
    exact bx_X11_wordSum_0_1 (σ2 := σ) (σ3 := σ) ((t_X11_checkWord hW hr hk hc).up (by omega)) rfl
theorem CW.ent {A : RA} {σ : SG} {r e : Int} (hW : CW A σ) (hr : isR A r) (he : 0 ≤ e ∧ e < enN (rSk A) ((nW (chA A r.toNat) (rLn A r.toNat)))) : e * σ.1 (8, 0, 0) 6 = ((e.toNat * rSk A : Nat) : Int) ∧ e.toNat * rSk A < (nW (chA A r.toNat) (rLn A r.toNat)) ∧ e.toNat * rSk A < 60 := by
  have hn := hW.nw hr
  have h1 := (en_lt (n := (nW (chA A r.toNat) (rLn A r.toNat))) (e := e.toNat) hW.1.2.2.1.1).mp (by omega)
  refine ⟨?_, h1, by omega⟩
  rw [hW.2.1.2.2.1, Int.natCast_mul]
  congr 1
  omega
theorem s_X11_entryStart {t : KT} {σ : SG} {A : RA} {r e : Int} (hW : CW A σ) (hr : -2147483648 ≤ r ∧ r < 2147483648) (he : -2147483648 ≤ e ∧ e < 2147483648) : Ca 3 102 [aR (some (1, 0, 0)), aI (iZ r), aI (iZ e)] (am_hp σ) t (reI 2 2 σ t (A_entryStart A r e)) := by
  refine ca_of (e_X11_entryStart ?_)
  by_cases hc : isR A r
  · have hl := hW.len hc
    have hX := hW.px hc
    rw [A_entryStart, if_pos hc]
    refine b_X11_entryStart_0 ((s_X11_checkRow hW hc).up (by omega)) ((s_X11_hasEntry hW hc he).up (by omega)) bz_rg (fun h => ?_) (fun h => ?_)
    · replace h := bz_n.mp h
      have hq := hW.ent hc h
      have hs := sT_in hq.2.1
      rw [if_pos h]
      refine b_X11_entryStart_16 (r1 := ((stU (chA A r.toNat) (e.toNat * rSk A)) : Int)) (σ1 := σ) (by omega) ?_ rfl
      rw [hq.1, ← hs.1]
      exact (s_X4_startOf hX (by omega)).up (by omega)
    · rw [if_neg (bz_0.mp h)]
      exact b_X11_entryStart_14 rfl
  · rw [A_entryStart, if_neg hc]
    exact bx_X11_entryStart_0_1 (σ2 := σ) ((t_X11_checkRow hW hr hc).up (by omega)) rfl
theorem s_X11_entrySum {t : KT} {σ : SG} {A : RA} {r e : Int} (hW : CW A σ) (hr : -2147483648 ≤ r ∧ r < 2147483648) (he : -2147483648 ≤ e ∧ e < 2147483648) : Ca 4 103 [aR (some (1, 0, 0)), aI (iZ r), aI (iZ e)] (am_hp σ) t (reJ 2 2 σ t (A_entrySum A r e)) := by
  refine ca_of (e_X11_entrySum ?_)
  by_cases hc : isR A r
  · have hl := hW.len hc
    have hX := hW.px hc
    rw [A_entrySum, if_pos hc]
    refine b_X11_entrySum_0 ((s_X11_checkRow hW hc).up (by omega)) ((s_X11_hasEntry hW hc he).up (by omega)) bz_rg (fun h => ?_) (fun h => ?_)
    · replace h := bz_n.mp h
      have hq := hW.ent hc h
      have hs := sT_in hq.2.1
      rw [if_pos h]
      have c3 := s_X7_sum (t := t) (a := 0) (b := (stU (chA A r.toNat) (e.toNat * rSk A))) hW.1 hW.2.1 hl.2.2.1 (by omega) (by omega)
      rw [hl.2.2.2.2, Nat.sub_zero] at c3
      refine b_X11_entrySum_18 (r1 := ((stU (chA A r.toNat) (e.toNat * rSk A)) : Int)) (σ1 := σ) (by omega) ?_ (c3.up (by omega)) rfl
      rw [hq.1, ← hs.1]
      exact (s_X4_startOf hX (by omega)).up (by omega)
    · rw [if_neg (bz_0.mp h)]
      exact b_X11_entrySum_14 rfl
  · rw [A_entrySum, if_neg hc]
    exact bx_X11_entrySum_0_1 (σ2 := σ) ((t_X11_checkRow hW hr hc).up (by omega)) rfl
theorem rx_of {n y : Nat} {as : List AV} {h : AH} {t : KT} {R : SG → RS} {P : SG → Prop} (w : ∃ r, Ca n y as h t r ∧ ∃ σ', r = R σ' ∧ P σ') : ∃ σ', Ca n y as h t (R σ') ∧ P σ' := by
  obtain ⟨r, c, σ', rfl, p⟩ := w
  exact ⟨σ', c, p⟩
theorem s_X11_why {t : KT} {σ : SG} {A : RA} {r k w : Int} (hW : CW A σ) (hr : -2147483648 ≤ r ∧ r < 2147483648) (hk : -2147483648 ≤ k ∧ k < 2147483648) (hw : -2147483648 ≤ w ∧ w < 2147483648) : ∃ σ', Ca 5 104 [aR (some (1, 0, 0)), aI (iZ r), aI (iZ k), aI (iZ w)] (am_hp σ) t (reI 2 2 σ' t (A_why A r k w)) ∧ Fr inP σ σ' := by
  refine rx_of (R := fun σ' => reI 2 2 σ' t (A_why A r k w)) (e_X11_why ?_)
  by_cases hc : isW A r k
  · have hl := hW.len hc.1
    have hq := hW.wrd hc
    have hX := hW.px hc.1
    by_cases hy : 0 ≤ w ∧ w < 9
    · have c1 := s_X4_wayOf (t := t) hX hq.1
      rw [hq.2.1] at c1
      rw [A_why, if_pos ⟨hc, hy⟩]
      refine b_X11_why_0 ((s_X11_checkWord hW hc).up (by omega)) ((s_X11_checkWay hy).up (by omega)) (by omega) (c1.up (by omega)) (by omega) hw (fun h => ?_) (fun h => ?_)
      · rw [if_neg h]
        obtain ⟨σ1, d1, p1, f1⟩ := s_X5_load (d := 0) (t := t) (r := r.toNat) hW.1 hW.2.1 hl.2.2.1
        rw [hl.2.2.2.2] at d1
        obtain ⟨σ2, d2, p2, f2⟩ := s_X5_findTakeable (d := 0) (t := t) p1 (hW.1.v hl.2.2.1)
        have p2 : PT (rNu A r.toNat) (rLn A r.toNat) σ2 := p2
        have f3 : Fr inP σ σ2 := f1.trans (f2.mono (fun L h => by unfold inT at h; unfold inP; omega))
        have hW2 := hW.P f3
        have e30 := ((hW2.px hc.1).at hq.1).1
        have c5 := s_X5_canTake (d := 0) (t := t) (i := (stU (chA A r.toNat) k.toNat)) (w := w.toNat) (p1.fr f2 (inT_1 rfl) (inT_1 rfl)) p2 hq.2.2.2.1 (by omega)
        rw [show ((w.toNat : Nat) : Int) = w by omega] at c5
        refine b_X11_why_26 (σ1 := σ1) (σ2 := σ2) (σ3 := σ2) (r3 := bz (tk (rNu A r.toNat) (rLn A r.toNat) ((stU (chA A r.toNat) k.toNat)) w.toNat)) (d1.up (by omega)) (d2.up (by omega)) (by omega) (by omega) ?_ bz_rg (fun h => ?_) (fun h => ?_)
        · rw [e30]
          exact c5.up (by omega)
        · rw [if_neg (bz_0.mp h)]
          exact b_X11_why_71 (b_X11_why_72 ⟨σ2, rfl, f3⟩)
        · rw [if_pos (bz_n.mp h)]
          exact b_X11_why_67 (b_X11_why_72 ⟨σ2, rfl, f3⟩)
      · rw [if_pos h]
        exact b_X11_why_24 ⟨σ, rfl, Fr.refl _ _⟩
    · rw [A_why, if_neg (fun h => hy h.2)]
      exact bx_X11_why_0_2 (σ3 := σ) ((s_X11_checkWord hW hc).up (by omega)) ((t_X11_checkWay hw hy).up (by omega)) ⟨σ, rfl, Fr.refl _ _⟩
  · rw [A_why, if_neg (fun h => hc h.1)]
    exact bx_X11_why_0_1 (σ2 := σ) (σ3 := σ) ((t_X11_checkWord hW hr hk hc).up (by omega)) ⟨σ, rfl, Fr.refl _ _⟩
theorem s_X11_gap {t : KT} {σ : SG} {A : RA} (hW : CW A σ) : Ca 4 105 [aR (some (1, 0, 0))] (am_hp σ) t (.inl (some (aI (iZ 0))), am_hp σ, t) := by
  have h4 := hW.1.1
  have e4 := hW.2.1.1
  refine ca_of (e_X11_gap ?_)
  refine b_X11_gap_0 ?_
  refine w_loopS (rN A) (fun i c => ∃ u, c = (4, [some (aR (some (1, 0, 0))), some (aI (iZ 0)), some (aI (iZ ((i : Int)))), u], [], am_hp σ, t)) ⟨_, rfl⟩ (fun i c hi hI go => ?_) (fun c hI => ?_)
  · obtain ⟨u, rfl⟩ := hI
    have hl := hW.1.l hi
    have e10 : σ.1 (10, 0, 0) (i : Int).toNat = rLn A i := (hW.2.1.2.2.2.2 i hi).2.1
    refine b_X11_gap_4 (by omega) (by omega) (fun h => by omega) (fun _ => ?_)
    refine b_X11_gap_15 ?_
    refine w_loopU (rLn A i) (fun j => (17, [some (aR (some (1, 0, 0))), some (aI (iZ 0)), some (aI (iZ ((i : Int)))), some (aI (iZ ((j : Int))))], [], am_hp σ, t)) rfl (fun j hj w => ?_) ?_
    · have hv := hW.1.v hi j hj
      have e12 : σ.1 (12, 0, (i : Int).toNat) (j : Int).toNat = rNu A i j := (hW.2.1.2.2.2.2 i hi).2.2 j hj
      refine b_X11_gap_17 (by omega) (by omega) (by omega) (fun h => by omega) (fun _ => ?_)
      exact b_X11_gap_30 (by omega) ((s_X4_numberAt (hW.2.2 i hi) hj).up (by omega)) (by omega) (by omega) (by omega) (fun _ => b_X11_gap_57 w) (fun h => absurd e12.symm h)
    · exact b_X11_gap_17 (by omega) (by omega) (by omega) (fun _ => b_X11_gap_63 (go _ ⟨_, rfl⟩)) (fun h => by omega)
  · obtain ⟨u, rfl⟩ := hI
    exact b_X11_gap_4 (by omega) (by omega) (fun _ => b_X11_gap_69 rfl) (fun h => by omega)
theorem s_X11_readsFor {t : KT} {σ : SG} {A : RA} {r i : Int} (hW : CW A σ) (hr : -2147483648 ≤ r ∧ r < 2147483648) (hi : -2147483648 ≤ i ∧ i < 2147483648) : Ca 4 111 [aR (some (1, 0, 0)), aI (iZ r), aI (iZ i)] (am_hp σ) t (reI 2 2 σ t (A_readsFor A r i)) := by
  refine ca_of (e_X11_readsFor ?_)
  by_cases hc : isN A r i
  · have hl := hW.len hc.1
    rw [A_readsFor, if_pos hc]
    have c := s_X11_readsOf (t := t) (r := r.toNat) (i := i.toNat) hW hl.2.2.1 (by omega) hW.1.2.2.1
    rw [hl.2.2.2.2, show ((i.toNat : Nat) : Int) = i by omega, ← hW.2.1.2.2.1] at c
    exact b_X11_readsFor_0 ((s_X11_checkNumber hW hc).up (by omega)) (c.up (by omega)) rfl
  · rw [A_readsFor, if_neg hc]
    exact bx_X11_readsFor_0_1 (σ2 := σ) ((t_X11_checkNumber hW hr hi hc).up (by omega)) rfl
theorem mxU_bd {f : Nat → Int} : ∀ k, (∀ j, j < k → 0 ≤ f j ∧ f j < 268435456) → -1 ≤ mxU f k ∧ mxU f k < 268435456
  | 0, _ => by
    show (-1 : Int) ≤ -1 ∧ (-1 : Int) < 268435456
    decide
  | k + 1, h => by
    have h1 := mxU_bd k (fun j hj => h j (by omega))
    have h2 := h k (by omega)
    unfold mxU
    omega
theorem s_X11_greatest {t : KT} {σ : SG} {A : RA} {r : Int} (hW : CW A σ) (hr : -2147483648 ≤ r ∧ r < 2147483648) : Ca 3 112 [aR (some (1, 0, 0)), aI (iZ r)] (am_hp σ) t (reI 2 2 σ t (A_greatest A r)) := by
  refine ca_of (e_X11_greatest ?_)
  by_cases hc : isR A r
  · have hl := hW.len hc
    rw [A_greatest, if_pos hc]
    refine b_X11_greatest_0 ((s_X11_checkRow hW hc).up (by omega)) ?_
    refine w_loopU (rLn A r.toNat) (fun j => (9, [some (aR (some (1, 0, 0))), some (aI (iZ r)), some (aI (iZ (mxU (rNu A r.toNat) j))), some (aI (iZ ((j : Int))))], [], am_hp σ, t)) rfl (fun j hj w => ?_) ?_
    · have hv := hW.1.v hl.2.2.1 j hj
      have hm := mxU_bd j (fun m hm => hW.1.v hl.2.2.1 m (by omega))
      have e12 : σ.1 (12, 0, r.toNat) (j : Int).toNat = rNu A r.toNat j := (hW.2.1.2.2.2.2 r.toNat hl.2.2.1).2.2 j hj
      refine b_X11_greatest_9 (by omega) (by omega) (by omega) (fun h => by omega) (fun _ => ?_)
      refine b_X11_greatest_22 (by omega) (by omega) (by omega) (by omega) ?_
      rw [e12]
      exact w
    · exact b_X11_greatest_9 (by omega) (by omega) (by omega) (fun _ => b_X11_greatest_44 rfl) (fun h => by omega)
  · rw [A_greatest, if_neg hc]
    exact bx_X11_greatest_0_1 ((t_X11_checkRow hW hr hc).up (by omega)) rfl
