/-! SPECIFICATIONS: numbers in words; fewer words by another price -/
set_option maxRecDepth 4000
theorem s_X5_nW {t : KT} {σ : SG} {f : Nat → Int} {n : Nat} {ch : Nat → Nat} (hP : PL f n σ) (hC : PC ch n σ) : Ca 2 32 [aR (some (18, 0, 0))] (am_hp σ) t (.inl (some (aI (iZ ((nW ch n : Int))))), am_hp σ, t) := s_X5_countWords (d := 0) hP hC
theorem s_X4_indexIn {t : KT} {σ : SG} {ch : Nat → Nat} {f : Nat → Int} {n p k : Nat} {v : Int} (hX : PX ch f n p σ) (hk : k < nW ch n) (hv : -2147483648 ≤ v ∧ v < 2147483648) : Ca 3 19 [aR (some (28, p, 0)), aI (iZ ((k : Int))), aI (iZ v)] (am_hp σ) t (.inl (some (aI (iZ (fdW ch f n v k)))), am_hp σ, t) := by
  have hb := hB_bd hk
  have hs := (sT_in hk)
  have h60 := hX.2.1
  have hk60 := hX.k hk
  refine ca_of (e_X4_indexIn ?_)
  refine b_X4_indexIn_0 ?_
  refine w_loop (hB ch n k) (fun j => (2, [some (aR (some (28, p, 0))), some (aI (iZ ((k : Int)))), some (aI (iZ v)), some (aI (iZ ((j : Int))))], [], am_hp σ, t)) (fun j => ∀ m, m < j → ¬ f (stU ch k + m) = v) rfl (fun m hm => absurd hm (Nat.not_lt_zero m)) (fun j hj hI w => ?_) (fun hI => ?_)
  · have hg := hX.v hk hj
    refine b_X4_indexIn_2 ((s_X4_heldBy hX hk).up (by omega)) (by omega) (by omega) (fun h => by omega) (fun _ => ?_)
    refine b_X4_indexIn_11 ((s_X4_numberIn hX hk hj).up (by omega)) (by omega) hv (fun h => ?_) (fun h => ?_)
    · refine b_X4_indexIn_29 (w (fun m hm => ?_))
      by_cases e : m = j
      · subst e; exact h
      · exact hI m (by omega)
    · refine b_X4_indexIn_21 ((s_X4_startOf hX (by omega)).up (by omega)) ?_
      rw [fdW, fndF_at (hB ch n k) (stU ch k) j hj hI h, hs.1]
      rfl
  · refine b_X4_indexIn_2 ((s_X4_heldBy hX hk).up (by omega)) (by omega) (by omega) (fun _ => ?_) (fun h => by omega)
    refine b_X4_indexIn_35 ?_
    rw [fdW, fndF_no (hB ch n k) (stU ch k) hI]
theorem s_X4_timesIn {t : KT} {σ : SG} {ch : Nat → Nat} {f : Nat → Int} {n p k : Nat} {v : Int} (hX : PX ch f n p σ) (hk : k < nW ch n) (hv : -2147483648 ≤ v ∧ v < 2147483648) : Ca 3 20 [aR (some (28, p, 0)), aI (iZ ((k : Int))), aI (iZ v)] (am_hp σ) t (.inl (some (aI (iZ (tmW ch f n v k)))), am_hp σ, t) := by
  have hb := hB_bd hk
  have hs := (sT_in hk)
  have h60 := hX.2.1
  have hk60 := hX.k hk
  refine ca_of (e_X4_timesIn ?_)
  refine b_X4_timesIn_0 ?_
  refine w_loopU (hB ch n k) (fun j => (5, [some (aR (some (28, p, 0))), some (aI (iZ ((k : Int)))), some (aI (iZ v)), some (aI (iZ (smU (fun j => bz (f (stU ch k + j) = v)) j))), some (aI (iZ ((j : Int))))], [], am_hp σ, t)) rfl (fun j hj w => ?_) ?_
  · have hg := hX.v hk hj
    refine b_X4_timesIn_5 ((s_X4_heldBy hX hk).up (by omega)) (by omega) (by omega) (fun h => by omega) (fun _ => ?_)
    refine b_X4_timesIn_15 ((s_X4_numberIn hX hk hj).up (by omega)) (by omega) hv (fun h => ?_) (fun h => ?_)
    · rw [smU_f (P := fun j => f (stU ch k + j) = v) h] at w
      exact b_X4_timesIn_29 w
    · rw [smU_t (P := fun j => f (stU ch k + j) = v) h] at w
      exact b_X4_timesIn_26 (b_X4_timesIn_29 w)
  · exact b_X4_timesIn_5 ((s_X4_heldBy hX hk).up (by omega)) (by omega) (by omega) (fun _ => b_X4_timesIn_35 rfl) (fun h => by omega)
theorem s_X7_bitsNeeded {t : KT} {σ : SG} {p r : Nat} {A : RA} (hA : Av A) (hR : Rep A σ p) (hr : r < rN A) : Ca 3 49 [aR (some (8, p, 0)), aI (iZ ((r : Int)))] (am_hp σ) t (.inl (some (aI (iZ (neA A r)))), am_hp σ, t) := by
  have hl := hA.l hr
  have h4 := hA.1
  have hb := hR.2.2.2.2 r hr
  refine ca_of (e_X7_bitsNeeded ?_)
  refine b_X7_bitsNeeded_0 ?_
  refine w_loopU (rLn A r) (fun i => (4, [some (aR (some (8, p, 0))), some (aI (iZ ((r : Int)))), some (aI (iZ (smU (fun i => (bts (rNu A r i) : Int)) i))), some (aI (iZ ((i : Int))))], [], am_hp σ, t)) rfl (fun i hi w => ?_) ?_
  · refine b_X7_bitsNeeded_4 ((s_X7_lenOf (d := 0) hA hR hr).up (by omega)) (by omega) (by omega) (fun h => by omega) (fun _ => ?_)
    have hc := s_X11_bitsOf (d := 0) (t := t) (σ := σ) (hA.v hr i hi)
    rw [← hb.2.2 i hi] at hc
    refine b_X7_bitsNeeded_13 (r1 := (bts (σ.1 (12, p, r) i) : Int)) (by omega) (by omega) (hc.up (by omega)) ?_
    rw [hb.2.2 i hi]
    exact w
  · exact b_X7_bitsNeeded_4 ((s_X7_lenOf (d := 0) hA hR hr).up (by omega)) (by omega) (by omega) (fun _ => b_X7_bitsNeeded_33 rfl) (fun h => by omega)
-- what the fewest words are
theorem amF_le (ok : Nat → Prop) [DecidablePred ok] (g : Nat → Int) : ∀ (k w : Nat) (b : Option Nat) (v : Nat), amF ok g k w b = some v → (∀ u, w ≤ u → u < w + k → ok u → g v ≤ g u) ∧ (∀ x, b = some x → g v ≤ g x)
  | 0, w, b, v, h => ⟨fun u a c => by omega, fun x hx => by
      have h : b = some v := h
      rw [h] at hx
      cases hx
      exact Int.le_refl _⟩
  | k + 1, w, b, v, h => by
    unfold amF at h
    have ih := amF_le ok g k (w + 1) _ v h
    by_cases e : ok w
    · rw [if_pos e] at ih
      cases b with
      | none =>
        refine ⟨fun u a c hu => ?_, fun x hx => by cases hx⟩
        by_cases e2 : u = w
        · subst e2; exact ih.2 _ rfl
        · exact ih.1 u (by omega) (by omega) hu
      | some x =>
        dsimp only at ih
        by_cases e3 : g w < g x
        · rw [if_pos e3] at ih
          have h2 := ih.2 w rfl
          refine ⟨fun u a c hu => ?_, fun y hy => by cases hy; omega⟩
          by_cases e2 : u = w
          · subst e2; exact h2
          · exact ih.1 u (by omega) (by omega) hu
        · rw [if_neg e3] at ih
          have h2 := ih.2 x rfl
          refine ⟨fun u a c hu => ?_, fun y hy => by cases hy; exact h2⟩
          by_cases e2 : u = w
          · subst e2; omega
          · exact ih.1 u (by omega) (by omega) hu
    · rw [if_neg e] at ih
      refine ⟨fun u a c hu => ?_, ih.2⟩
      by_cases e2 : u = w
      · subst e2; exact absurd hu e
      · exact ih.1 u (by omega) (by omega) hu
theorem pick_le {ok : Nat → Prop} [DecidablePred ok] {g : Nat → Int} (h8 : ok 8) {u : Nat} (hu : u < 9) (ho : ok u) : g (pick ok g) ≤ g u := (amF_le ok g 9 0 none _ (pick_ok ok g h8).1).1 u (Nat.zero_le _) (by omega) ho
theorem bc_cw {f : Nat → Int} {n : Nat} {ch : Nat → Nat} (hv : ∀ j, j < n → 0 ≤ f j ∧ f j < 268435456) (hch : ∀ i, i < n → ch i < 9 ∧ tk f n i (ch i)) : ∀ k i, n - i ≤ k → Bc f n (fun _ => 1) (min i n) ≤ cwF ch n k i
  | 0, i, h => by
    rw [show min i n = n by omega, Bc_end]
    exact Int.le_refl _
  | k + 1, i, h => by
    unfold cwF
    by_cases hi : i < n
    · rw [if_pos hi, show min i n = i by omega, Bc_step hi]
      have h1 := pick_le (g := gW f n (fun _ => 1) i) (tk_8 hi hv) (hch i hi).1 (hch i hi).2
      have h2 := cnt_1 (ch i)
      have ih := bc_cw hv hch k (i + cnt (ch i)) (by omega)
      have e : gW f n (fun _ => 1) i (ch i) = 1 + Bc f n (fun _ => 1) (min (i + cnt (ch i)) n) := rfl
      rw [e] at h1
      show gW f n (fun _ => 1) i (pick (tk f n i) (gW f n (fun _ => 1) i)) ≤ ((cwF ch n k (i + cnt (ch i)) + 1 : Nat) : Int)
      omega
    · rw [if_neg hi, show min i n = n by omega, Bc_end]
      exact Int.le_refl _
theorem bc_cwe {f : Nat → Int} {n : Nat} : ∀ k i, n - i ≤ k → Bc f n (fun _ => 1) (min i n) = cwF (cheW f n (fun _ => 1)) n k i
  | 0, i, h => by
    rw [show min i n = n by omega, Bc_end]
    rfl
  | k + 1, i, h => by
    unfold cwF
    by_cases hi : i < n
    · rw [if_pos hi, show min i n = i by omega, Bc_step hi]
      have h2 := cnt_1 (cheW f n (fun _ => 1) i)
      have ih := bc_cwe (f := f) (n := n) k (i + cnt (cheW f n (fun _ => 1) i)) (by omega)
      have e : gW f n (fun _ => 1) i (cheW f n (fun _ => 1) i) = 1 + Bc f n (fun _ => 1) (min (i + cnt (cheW f n (fun _ => 1) i)) n) := rfl
      rw [e, ih]
      omega
    · rw [if_neg hi, show min i n = n by omega, Bc_end]
      rfl
theorem fewest {f : Nat → Int} {n : Nat} {ch : Nat → Nat} (hv : ∀ j, j < n → 0 ≤ f j ∧ f j < 268435456) (hch : ∀ i, i < n → ch i < 9 ∧ tk f n i (ch i)) : nW (cheW f n (fun _ => 1)) n ≤ nW ch n := by
  have h1 := bc_cw hv hch n 0 (by omega)
  have h2 := bc_cwe (f := f) (n := n) n 0 (by omega)
  rw [h2] at h1
  show cwF _ n n 0 ≤ cwF ch n n 0
  omega
theorem cst_1 (pr : Nat → Int) : cst 1 pr = fun _ => 1 := by
  funext w
  exact if_neg (by decide)
theorem cst_up (pr : Nat → Int) (w : Nat) (z : Int) : cst 2 (fup pr w z) = fup (cst 2 pr) w (z * 1024 + 1) := by
  funext v
  unfold cst fup
  by_cases e : v = w
  · simp [e]
  · simp [e]
theorem spF_smU {pr : Nat → Int} {ch : Nat → Nat} {n : Nat} : ∀ fuel j, n ≤ stU ch j + fuel → smU (fun k => pr ((ch (stU ch k)))) j + spF pr ch n fuel (stU ch j) = smU (fun k => pr ((ch (stU ch k)))) (j + cwF ch n fuel (stU ch j))
  | 0, j, h => by
    rw [spF, cwF, Int.add_zero, Nat.add_zero]
  | fuel + 1, j, h => by
    unfold spF cwF
    by_cases e : stU ch j < n
    · rw [if_pos e, if_pos e]
      have h1 := cnt_1 (ch (stU ch j))
      have ih := spF_smU (pr := pr) (ch := ch) (n := n) fuel (j + 1) (by show n ≤ stU ch j + cnt (ch (stU ch j)) + fuel; omega)
      have e2 : stU ch (j + 1) = stU ch j + cnt (ch (stU ch j)) := rfl
      have e3 : smU (fun k => pr ((ch (stU ch k)))) (j + 1) = smU (fun k => pr ((ch (stU ch k)))) j + pr (ch (stU ch j)) := rfl
      rw [e2, e3] at ih
      rw [show j + (cwF ch n fuel (stU ch j + cnt (ch (stU ch j))) + 1) = j + 1 + cwF ch n fuel (stU ch j + cnt (ch (stU ch j))) by omega, ← ih]
      omega
    · rw [if_neg e, if_neg e, Int.add_zero, Nat.add_zero]
theorem spF_eq {pr : Nat → Int} {ch : Nat → Nat} {n : Nat} : spF pr ch n n 0 = smU (fun k => pr ((ch (stU ch k)))) (nW ch n) := by
  have h := spF_smU (pr := pr) (ch := ch) (n := n) n 0 (by rw [stU]; omega)
  have e : smU (fun k => pr ((ch (stU ch k)))) 0 = 0 := rfl
  rw [e, Int.zero_add, Nat.zero_add] at h
  exact h
theorem s_X5_canGetBelow {t : KT} {σ : SG} {f pr : Nat → Int} {n w had : Nat} (hv : ∀ j, j < n → 0 ≤ f j ∧ f j < 268435456) (hpr : ∀ w, w < 9 → 0 ≤ pr w ∧ pr w ≤ 99) (hP : PL f n σ) (hT : PT f n σ) (hK : PK (cst 2 pr) σ) (hw : w < 9) (hh : had ≤ 1000) : ∃ σ', Ca 3 31 [aR (some (18, 0, 0)), aI (iZ ((had : Int))), aI (iZ ((w : Int)))] (am_hp σ) t (.inl (some (aI (iZ (bz (fndF (fun p => nW (cheW f n (cst 2 (fup pr w p))) n < had) 0 100 ≠ -1))))), am_hp σ', t) ∧ PL f n σ' ∧ PT f n σ' ∧ PK (cst 2 pr) σ' ∧ Fr inP σ σ' := by
  have mB : ∀ L, inB L → inP L := fun L h => by unfold inB at h; unfold inP; omega
  have mK : ∀ L, inK L → inP L := fun L h => by unfold inK at h; unfold inP; omega
  have hp2 := hP.2.1
  refine ex_of (e_X5_canGetBelow ?_)
  refine b_X5_canGetBelow_0 (by omega) (fun h => by omega) (fun _ => ?_)
  refine b_X5_canGetBelow_4 (by omega) (fun _ => ?_) (fun h => by omega)
  refine b_X5_canGetBelow_12 (by omega) ?_
  rw [Int.toNat_natCast, hK w hw]
  have h76 : ∀ (σ1 : SG) (b x5 : Int), PL f n σ1 → PT f n σ1 → (∀ v, v < 9 → v ≠ w → σ1.1 (23, 0, 0) v = cst 2 pr v) → Fr inP σ σ1 → b = bz (fndF (fun p => nW (cheW f n (cst 2 (fup pr w p))) n < had) 0 100 ≠ -1) → Wp k_X5_canGetBelow 2 (76, [some (aR (some (18, 0, 0))), some (aI (iZ ((had : Int)))), some (aI (iZ ((w : Int)))), some (aI (iZ (cst 2 pr w))), some (aI (iZ b)), some (aI (iZ x5))], [], am_hp σ1, t) (fun r => ∃ σ', r = (.inl (some (aI (iZ (bz (fndF (fun p => nW (cheW f n (cst 2 (fup pr w p))) n < had) 0 100 ≠ -1))))), am_hp σ', t) ∧ PL f n σ' ∧ PT f n σ' ∧ PK (cst 2 pr) σ' ∧ Fr inP σ σ') := by
    intro σ1 b x5 g1 g2 g3 g4 hb
    subst hb
    refine b_X5_canGetBelow_76 (by omega) bz_01 ⟨_, rfl, ?_, ?_, fun v hv9 => ?_, g4.trans ((Fr.sI (P := inK) (L := (23, 0, 0)) rfl).mono mK)⟩
    · exact g1.fr (Fr.sI (P := inK) (L := (23, 0, 0)) rfl) (inK_1 rfl) (inK_1 rfl)
    · exact g2.fr (Fr.sI (P := inK) (L := (23, 0, 0)) rfl) (inK_1 rfl)
    · by_cases e : v = w
      · subst e; simp [sI_1, up_at]
      · simp [sI_1, up_at, e, g3 v hv9 e]
  refine w_loopS 100 (fun i c => ∃ σ1, c = (25, [some (aR (some (18, 0, 0))), some (aI (iZ ((had : Int)))), some (aI (iZ ((w : Int)))), some (aI (iZ (cst 2 pr w))), some (aI (iZ 0)), some (aI (iZ ((i : Int))))], [], am_hp σ1, t) ∧ PL f n σ1 ∧ PT f n σ1 ∧ (∀ v, v < 9 → v ≠ w → σ1.1 (23, 0, 0) v = cst 2 pr v) ∧ Fr inP σ σ1 ∧ ∀ p, p < i → ¬ nW (cheW f n (cst 2 (fup pr w (p : Nat)))) n < had) ⟨σ, rfl, hP, hT, fun v hv9 _ => hK v hv9, Fr.refl _ _, fun p hp => absurd hp (Nat.not_lt_zero p)⟩ (fun i c hi hI go => ?_) (fun c hI => ?_)
  · obtain ⟨σ1, rfl, g1, g2, g3, g4, g5⟩ := hI
    refine b_X5_canGetBelow_25 (by omega) (fun h => by omega) (fun _ => ?_)
    refine b_X5_canGetBelow_32 (by omega) (fun h => by omega) (fun _ => ?_)
    have fa : Fr inK σ1 (sI σ1 (23, 0, 0) (up (σ1.1 (23, 0, 0)) (w : Int).toNat ((i : Int) * 1024 + 1))) := Fr.sI rfl
    have ka : PK (cst 2 (fup pr w (i : Int))) (sI σ1 (23, 0, 0) (up (σ1.1 (23, 0, 0)) (w : Int).toNat ((i : Int) * 1024 + 1))) := by
      intro v hv9
      rw [cst_up]
      by_cases e : v = w
      · subst e; simp [sI_1, up_at, fup]
      · simp [sI_1, up_at, fup, e, g3 v hv9 e]
    have hpr' : ∀ v, v < 9 → 0 ≤ cst 2 (fup pr w (i : Int)) v ∧ cst 2 (fup pr w (i : Int)) v ≤ 101377 := by
      intro v hv9
      have := hpr v hv9
      rw [cst_up]
      unfold fup
      by_cases e : v = w
      · rw [if_pos e]; omega
      · rw [if_neg e]
        unfold cst
        rw [if_pos rfl]
        omega
    have ga := g1.fr fa (inK_1 rfl) (inK_1 rfl)
    have gt := g2.fr fa (inK_1 rfl)
    obtain ⟨σ2, c2, p2, f2⟩ := s_X5_chooseCheapest (d := 0) (t := t) hv hpr' ga gt ka
    have gb := ga.fr f2 (inB_1 rfl) (inB_1 rfl)
    have gt2 := gt.fr f2 (inB_1 rfl)
    have c3 := s_X5_nW (t := t) gb p2
    have hle := nW_le (cheW f n (cst 2 (fup pr w (i : Int)))) n
    have g3' : ∀ v, v < 9 → v ≠ w → σ2.1 (23, 0, 0) v = cst 2 pr v := by
      intro v hv9 e
      rw [(f2.1 (23, 0, 0) (inB_1 rfl)).1]
      simp [sI_1, up_at, e, g3 v hv9 e]
    have g4' := g4.trans ((fa.mono mK).trans (f2.mono mB))
    refine b_X5_canGetBelow_37 (by omega) (c2.up (by omega)) (c3.up (by omega)) (by omega) (by omega) (fun h => ?_) (fun h => ?_)
    · refine b_X5_canGetBelow_67 (b_X5_canGetBelow_68 (go _ ⟨σ2, rfl, gb, gt2, g3', g4', fun p hp => ?_⟩))
      by_cases e : p = i
      · subst e
        have h : (had : Int) ≤ (nW (cheW f n (cst 2 (fup pr w (p : Int)))) n : Int) := h
        omega
      · exact g5 p (by omega)
    · have h : (nW (cheW f n (cst 2 (fup pr w (i : Int)))) n : Int) < (had : Int) := h
      have hf := fndF_at (P := fun p => nW (cheW f n (cst 2 (fup pr w (p : Nat)))) n < had) 100 0 i hi (fun j hj => by rw [Nat.zero_add]; exact g5 j hj) (by rw [Nat.zero_add]; omega)
      have hfin := h76 σ2 1 ((i : Int) + 1) gb gt2 g3' g4' (by rw [bz_t]; rw [hf]; omega)
      refine b_X5_canGetBelow_63 (b_X5_canGetBelow_68 ?_)
      refine b_X5_canGetBelow_25 (by omega) (fun _ => hfin) (fun _ => ?_)
      exact b_X5_canGetBelow_32 (by omega) (fun _ => hfin) (fun h => by omega)
  · obtain ⟨σ1, rfl, g1, g2, g3, g4, g5⟩ := hI
    have hf := fndF_no (P := fun p => nW (cheW f n (cst 2 (fup pr w (p : Nat)))) n < had) 100 0 (fun j hj => by rw [Nat.zero_add]; exact g5 j hj)
    exact b_X5_canGetBelow_25 (by omega) (fun _ => h76 σ1 0 _ g1 g2 g3 g4 (by rw [bz_f]; rw [hf]; omega)) (fun h => by omega)
