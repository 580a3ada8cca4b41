/-! THE MODEL: words are made -/
set_option maxRecDepth 4000
/-- the words of n numbers by the ways ch -/
def VW (ch : Nat → Nat) (n : Nat) (σ : SG) : Prop := σ.1 (40, 0, 0) 34 = (nW ch n : Int) ∧ (∀ k, k < nW ch n → σ.1 (51, 0, 0) k = (ch (stU ch k) : Int)) ∧ ∀ k, k ≤ nW ch n → σ.1 (52, 0, 0) k = (sT ch n k : Int)
theorem s_X12_packs {t : KT} {σ : SG} {ru : Nat} {pr f : Nat → Int} {n : Nat} (hC : MC σ) (h : VL f n σ) (hP : VP pr σ) (hru : ru ≤ 2) : ∃ σ', Ca 5 234 [aR (some (40, 0, 0)), aI (iZ ((ru : Int)))] (am_hp σ) t (.inl (some (aI (iZ ((nW (wayF ru pr f n) n : Int))))), am_hp σ', t) ∧ VW (wayF ru pr f n) n σ' ∧ VL f n σ' ∧ VP pr σ' ∧ QF σ σ' := by
  have h2 := h.2.1
  have hv := h.v
  refine ex_of (e_X12_packs ?_)
  have q0 : QF σ (sI σ (40, 0, 0) (up (σ.1 (40, 0, 0)) 34 0)) := QF.obj (Or.inr rfl)
  have v0 : VL f n (sI σ (40, 0, 0) (up (σ.1 (40, 0, 0)) 34 0)) := h.fr (by simp [sI_1, up_at]) (by simp [sI_1]) (by simp [sI_1])
  have p0 : VP pr (sI σ (40, 0, 0) (up (σ.1 (40, 0, 0)) 34 0)) := hP.fr (by simp [sI_1])
  have z0 : (sI σ (40, 0, 0) (up (σ.1 (40, 0, 0)) 34 0)).1 (40, 0, 0) 34 = 0 := by simp [sI_1, up_at]
  have blk := b_X12_packs_0 (d := 4) (x1 := (ru : Int)) (σ := σ) (t := t) (Q := fun r => ∃ σ', r = (.inl (some (aI (iZ ((nW (wayF ru pr f n) n : Int))))), am_hp σ', t) ∧ VW (wayF ru pr f n) n σ' ∧ VL f n σ' ∧ VP pr σ' ∧ QF σ σ') (by omega)
  generalize (sI σ (40, 0, 0) (up (σ.1 (40, 0, 0)) 34 0)) = σ0 at q0 v0 p0 z0 blk
  have hnl := nW_le (wayF ru pr f n) n
  have key : ∀ σ1 : SG, σ1.1 (40, 0, 0) 34 = 0 → VL f n σ1 → VP pr σ1 → QF σ σ1 → (ru ≠ 0 → WI ru pr f n 0 σ1) → Wp k_X12_packs 4 (23, [some (aR (some (40, 0, 0))), some (aI (iZ ((ru : Int)))), none, none], [], am_hp σ1, t) (fun r => ∃ σ', r = (.inl (some (aI (iZ ((nW (wayF ru pr f n) n : Int))))), am_hp σ', t) ∧ VW (wayF ru pr f n) n σ' ∧ VL f n σ' ∧ VP pr σ' ∧ QF σ σ') := by
    intro σ1 a1 a2 a3 a4 a5
    refine b_X12_packs_23 ?_
    refine w_loopS (nW (wayF ru pr f n) n) (fun k c => ∃ (σ2 : SG) (u : Option AV), c = (25, [some (aR (some (40, 0, 0))), some (aI (iZ ((ru : Int)))), some (aI (iZ ((sT (wayF ru pr f n) n k : Int)))), u], [], am_hp σ2, t) ∧ σ2.1 (40, 0, 0) 34 = (k : Int) ∧ VL f n σ2 ∧ VP pr σ2 ∧ QF σ σ2 ∧ (ru ≠ 0 → WI ru pr f n 0 σ2) ∧ ∀ m, m < k → σ2.1 (51, 0, 0) m = (wayF ru pr f n (stU (wayF ru pr f n) m) : Int) ∧ σ2.1 (52, 0, 0) m = (sT (wayF ru pr f n) n m : Int)) ⟨σ1, none, ?_, a1, a2, a3, a4, a5, fun m hm => absurd hm (Nat.not_lt_zero m)⟩ (fun k c hk hI go => ?_) (fun c hI => ?_)
    · have e : sT (wayF ru pr f n) n 0 = 0 := by
        show min 0 n = 0
        omega
      rw [e]
      rfl
    · obtain ⟨σ2, u, rfl, b1, b2, b3, b4, b5, b6⟩ := hI
      have hs := sT_in hk
      have C2 := hC.q b4
      have hw := wayF_tk (ru := ru) (pr := pr) hv hs.2
      have eS : sT (wayF ru pr f n) n (k + 1) = min (stU (wayF ru pr f n) k + cnt (wayF ru pr f n (stU (wayF ru pr f n) k))) n := rfl
      have b21 := b2.1
      rw [hs.1]
      refine b_X12_packs_25 (by omega) (by omega) (fun q => by omega) (fun _ => ?_)
      have go60 : Wp k_X12_packs 4 (60, [some (aR (some (40, 0, 0))), some (aI (iZ ((ru : Int)))), some (aI (iZ ((stU (wayF ru pr f n) k : Int)))), u], [aI (iZ ((wayF ru pr f n (stU (wayF ru pr f n) k) : Int)))], am_hp σ2, t) (fun r => ∃ σ', r = (.inl (some (aI (iZ ((nW (wayF ru pr f n) n : Int))))), am_hp σ', t) ∧ VW (wayF ru pr f n) n σ' ∧ VL f n σ' ∧ VP pr σ' ∧ QF σ σ') := by
        generalize hwd : wayF ru pr f n (stU (wayF ru pr f n) k) = w at hw eS
        generalize hid : stU (wayF ru pr f n) k = i at hs hw eS hwd
        have ek : (σ2.1 (40, 0, 0) 34).toNat = k := by rw [b1]; rfl
        have e51 : (sI σ2 (51, 0, 0) (up (σ2.1 (51, 0, 0)) (σ2.1 (40, 0, 0) 34).toNat (w : Int))).1 (40, 0, 0) 34 = (k : Int) := by simp [sI_1, b1]
        have blk := fun τ => b_X12_packs_60 (σ1 := τ) (d := 4) (x1 := (ru : Int)) (x2 := (i : Int)) (u3 := u) (xs0 := (w : Int)) (σ := σ2) (t := t) (r1 := ((min (i + cnt w) n : Nat) : Int)) (Q := fun r => ∃ σ', r = (.inl (some (aI (iZ ((nW (wayF ru pr f n) n : Int))))), am_hp σ', t) ∧ VW (wayF ru pr f n) n σ' ∧ VL f n σ' ∧ VP pr σ' ∧ QF σ σ') (by omega) (by omega)
        rw [e51, ek, Int.toNat_natCast] at blk
        have qa : QF σ2 (sI (sI σ2 (51, 0, 0) (up (σ2.1 (51, 0, 0)) k (w : Int))) (52, 0, 0) (up ((sI σ2 (51, 0, 0) (up (σ2.1 (51, 0, 0)) k (w : Int))).1 (52, 0, 0)) k (i : Int))) := (QF.arr (by omega)).trans (QF.arr (by omega))
        have w51 : ∀ m, (sI (sI σ2 (51, 0, 0) (up (σ2.1 (51, 0, 0)) k (w : Int))) (52, 0, 0) (up ((sI σ2 (51, 0, 0) (up (σ2.1 (51, 0, 0)) k (w : Int))).1 (52, 0, 0)) k (i : Int))).1 (51, 0, 0) m = if m = k then (w : Int) else σ2.1 (51, 0, 0) m := fun m => by simp [sI_1, up_at]
        have w52 : ∀ m, (sI (sI σ2 (51, 0, 0) (up (σ2.1 (51, 0, 0)) k (w : Int))) (52, 0, 0) (up ((sI σ2 (51, 0, 0) (up (σ2.1 (51, 0, 0)) k (w : Int))).1 (52, 0, 0)) k (i : Int))).1 (52, 0, 0) m = if m = k then (i : Int) else σ2.1 (52, 0, 0) m := fun m => by simp [sI_1, up_at]
        have w40 : (sI (sI σ2 (51, 0, 0) (up (σ2.1 (51, 0, 0)) k (w : Int))) (52, 0, 0) (up ((sI σ2 (51, 0, 0) (up (σ2.1 (51, 0, 0)) k (w : Int))).1 (52, 0, 0)) k (i : Int))).1 (40, 0, 0) = σ2.1 (40, 0, 0) := by simp [sI_1]
        have wo : ∀ a : Nat, a ≠ 51 → a ≠ 52 → (sI (sI σ2 (51, 0, 0) (up (σ2.1 (51, 0, 0)) k (w : Int))) (52, 0, 0) (up ((sI σ2 (51, 0, 0) (up (σ2.1 (51, 0, 0)) k (w : Int))).1 (52, 0, 0)) k (i : Int))).1 (a, 0, 0) = σ2.1 (a, 0, 0) := fun a h1 h2 => by simp [sI_1, h1, h2]
        generalize (sI (sI σ2 (51, 0, 0) (up (σ2.1 (51, 0, 0)) k (w : Int))) (52, 0, 0) (up ((sI σ2 (51, 0, 0) (up (σ2.1 (51, 0, 0)) k (w : Int))).1 (52, 0, 0)) k (i : Int))) = σ3 at qa w51 w52 w40 wo blk
        have qb : QF σ3 (sI σ3 (40, 0, 0) (up (σ3.1 (40, 0, 0)) 34 (σ3.1 (40, 0, 0) 34 + 1))) := QF.obj (Or.inr rfl)
        have x34 : (sI σ3 (40, 0, 0) (up (σ3.1 (40, 0, 0)) 34 (σ3.1 (40, 0, 0) 34 + 1))).1 (40, 0, 0) 34 = ((k + 1 : Nat) : Int) := by
          rw [sI_1, if_pos rfl, up_at, if_pos rfl, w40, b1]
          omega
        have x33 : (sI σ3 (40, 0, 0) (up (σ3.1 (40, 0, 0)) 34 (σ3.1 (40, 0, 0) 34 + 1))).1 (40, 0, 0) 33 = σ2.1 (40, 0, 0) 33 := by
          rw [sI_1, if_pos rfl, up_at, if_neg (by omega), w40]
        have xo : ∀ a : Nat, a ≠ 40 → (sI σ3 (40, 0, 0) (up (σ3.1 (40, 0, 0)) 34 (σ3.1 (40, 0, 0) 34 + 1))).1 (a, 0, 0) = σ3.1 (a, 0, 0) := fun a h1 => by simp [sI_1, h1]
        generalize (sI σ3 (40, 0, 0) (up (σ3.1 (40, 0, 0)) 34 (σ3.1 (40, 0, 0) 34 + 1))) = σ4 at qb x34 x33 xo blk
        have q4 := b4.trans (qa.trans qb)
        have v4 : VL f n σ4 := b2.fr x33 (by rw [xo 48 (by omega), wo 48 (by omega) (by omega)]) (by rw [xo 49 (by omega), wo 49 (by omega) (by omega)])
        refine blk σ4 ((s_X12_behind (t := t) (hC.q q4) v4 (Nat.le_of_lt hs.2) hw.1).up (by omega)) ?_
        rw [← eS]
        refine go _ ⟨σ4, _, rfl, x34, v4, b3.fr (by rw [xo 50 (by omega), wo 50 (by omega) (by omega)]), q4, fun hr => (b5 hr).fr (by rw [xo 53 (by omega), wo 53 (by omega) (by omega)]) (by rw [xo 54 (by omega), wo 54 (by omega) (by omega)]), fun m hm => ?_⟩
        rw [xo 51 (by omega), xo 52 (by omega), w51, w52]
        by_cases e : m = k
        · subst e
          rw [if_pos rfl, if_pos rfl, hid, hwd, hs.1]
          exact ⟨rfl, rfl⟩
        · rw [if_neg e, if_neg e]
          exact b6 m (by omega)
      by_cases e0 : ru = 0
      · refine b_X12_packs_33 (by omega) (fun q => by omega) (fun _ => ?_)
        have cl := s_X12_lowestWay (t := t) C2 b2 hs.2
        have el : lowW f n (stU (wayF ru pr f n) k) = wayF ru pr f n (stU (wayF ru pr f n) k) := by
          exact (if_pos e0 : wayF ru pr f n (stU (wayF ru pr f n) k) = lowW f n (stU (wayF ru pr f n) k)).symm
        rw [el] at cl
        exact b_X12_packs_37 (cl.up (by omega)) go60
      · refine b_X12_packs_33 (by omega) (fun _ => ?_) (fun q => by omega)
        have wi : WI ru pr f n (stU (wayF ru pr f n) k + 1) σ2 := fun j h1 h2 => b5 e0 j (Nat.zero_le _) h2
        have cl := s_X12_bestWay (t := t) C2 b2 b3 wi hs.2
        have el : cheW f n (cst ru pr) (stU (wayF ru pr f n) k) = wayF ru pr f n (stU (wayF ru pr f n) k) := by
          exact (if_neg e0 : wayF ru pr f n (stU (wayF ru pr f n) k) = cheW f n (cst ru pr) (stU (wayF ru pr f n) k)).symm
        rw [el] at cl
        refine b_X12_packs_45 (by omega) (fun q => ?_) (fun q => ?_)
        · rw [bz_f (p := ru = 2) (by omega)] at cl
          exact b_X12_packs_56 (b_X12_packs_57 (cl.up (by omega)) go60)
        · rw [bz_t (p := ru = 2) (by omega)] at cl
          exact b_X12_packs_52 (b_X12_packs_57 (cl.up (by omega)) go60)
    · obtain ⟨σ2, u, rfl, b1, b2, b3, b4, b5, b6⟩ := hI
      have hs : sT (wayF ru pr f n) n (nW (wayF ru pr f n) n) = n := sT_out (Nat.le_refl _)
      have b21 := b2.1
      rw [hs]
      refine b_X12_packs_25 (by omega) (by omega) (fun _ => ?_) (fun q => by omega)
      have ek : (σ2.1 (40, 0, 0) 34).toNat = nW (wayF ru pr f n) n := by rw [b1]; rfl
      refine b_X12_packs_101 (by omega) ⟨(sI σ2 (52, 0, 0) (up (σ2.1 (52, 0, 0)) (σ2.1 (40, 0, 0) 34).toNat (σ2.1 (40, 0, 0) 33))), ?_, ⟨?_, fun k hk => ?_, fun k hk => ?_⟩, b2.fr (by simp [sI_1]) (by simp [sI_1]) (by simp [sI_1]), b3.fr (by simp [sI_1]), b4.trans (QF.arr (by omega))⟩
      · have : (sI σ2 (52, 0, 0) (up (σ2.1 (52, 0, 0)) (σ2.1 (40, 0, 0) 34).toNat (σ2.1 (40, 0, 0) 33))).1 (40, 0, 0) 34 = (nW (wayF ru pr f n) n : Int) := by simp [sI_1, b1]
        rw [this]
      · simp [sI_1, b1]
      · have := (b6 k hk).1
        simp [sI_1, this]
      · rw [sI_1, if_pos rfl, up_at, ek, b21]
        by_cases e : k = nW (wayF ru pr f n) n
        · rw [if_pos e, e, hs]
        · rw [if_neg e]
          exact (b6 k (by omega)).2
  by_cases e0 : ru = 0
  · exact blk (fun _ => key σ0 z0 v0 p0 q0 (fun q => absurd e0 q)) (fun q => by omega)
  · refine blk (fun q => by omega) (fun _ => ?_)
    obtain ⟨σ1, c1, g1, g2, g3, g4, g5⟩ := s_X12_weighs (t := t) (ru := ru) (hC.q q0) v0 p0
    have gq := q0.trans g4
    have z1 : σ1.1 (40, 0, 0) 34 = 0 := by rw [g5]; exact z0
    refine b_X12_packs_9 (by omega) (fun q => ?_) (fun q => ?_)
    · rw [bz_f (p := ru = 2) (by omega)] at c1
      exact b_X12_packs_19 (b_X12_packs_20 (c1.up (by omega)) (key σ1 z1 g2 g3 gq (fun _ => g1)))
    · rw [bz_t (p := ru = 2) (by omega)] at c1
      exact b_X12_packs_15 (b_X12_packs_20 (c1.up (by omega)) (key σ1 z1 g2 g3 gq (fun _ => g1)))
