/-! THE MODEL: scripts are run -/
set_option maxRecDepth 4000
theorem RX.e {S : SS} {X : XS} {σ σ' : SG} (h : RX S X σ) (e1 : σ'.1 (40, 0, 0) = σ.1 (40, 0, 0)) (e2 : σ'.1 (42, 0, 0) = σ.1 (42, 0, 0)) : RX S X σ' := by
  unfold RX MA at h ⊢
  rw [e1, e2]
  exact h
theorem KMr.l {dp : Nat} {σ : SG} {a i : Nat} {z : Int} (ha : a = 58 ∨ a = 59) (hi : dp ≤ i) : KMr dp σ (sI σ (a, 0, 0) (up (σ.1 (a, 0, 0)) i z)) := by
  refine ⟨Fr.sI (P := inDo) (by show a = 40 ∨ a = 42 ∨ a = 58 ∨ a = 59; omega), fun j _ _ => by rw [sI_1, if_neg (lc_ne (by omega))], fun j hj => ⟨?_, ?_⟩⟩
  · rw [sI_1]
    by_cases q : ((58, 0, 0) : Lc) = (a, 0, 0)
    · rw [if_pos q, ← q, up_at, if_neg (by omega)]
    · rw [if_neg q]
  · rw [sI_1]
    by_cases q : ((59, 0, 0) : Lc) = (a, 0, 0)
    · rw [if_pos q, ← q, up_at, if_neg (by omega)]
    · rw [if_neg q]
theorem KMr.zero {dp : Nat} {a b : SG} (h : KMr dp a b) : KMr 0 a b := ⟨h.1, h.2.1, fun i hi => absurd hi (Nat.not_lt_zero i)⟩
theorem stX_dn {X : XS} {x : IT} (h : VX X.1 x ≠ 0) : (stX X x).2.2.2.1 = X.2.2.2.1 ∧ (stX X x).2.2.2.2 = false := by
  have est : stX X x = if VX X.1 x = 0 then (DX X.1 x, fup X.2.1 0 (X.2.1 0 + 1), X.2.2.1, X.2.2.2.1 + 1, decide (X.2.2.2.1 + 1 < 40)) else if VX X.1 x ≤ 2 then (X.1, X.2.1, X.2.2.1, X.2.2.2.1, false) else (X.1, fup X.2.1 1 (X.2.1 1 + 1), (VX X.1 x : Int), X.2.2.2.1, false) := rfl
  rw [est, if_neg h]
  split <;> exact ⟨rfl, rfl⟩
theorem stX_do {X : XS} {x : IT} (h : VX X.1 x = 0) : stX X x = (DX X.1 x, fup X.2.1 0 (X.2.1 0 + 1), X.2.2.1, X.2.2.2.1 + 1, decide (X.2.2.2.1 + 1 < 40)) := by
  have est : stX X x = if VX X.1 x = 0 then (DX X.1 x, fup X.2.1 0 (X.2.1 0 + 1), X.2.2.1, X.2.2.2.1 + 1, decide (X.2.2.2.1 + 1 < 40)) else if VX X.1 x ≤ 2 then (X.1, X.2.1, X.2.2.1, X.2.2.2.1, false) else (X.1, fup X.2.1 1 (X.2.1 1 + 1), (VX X.1 x : Int), X.2.2.2.1, false) := rfl
  rw [est, if_pos h]
theorem Wp_all {t : KT} {S : SS} {sz : Nat} (hsz : sz ≤ 60) : ∀ (n dp a b : Nat) (s : List IT) (σ : SG) (X : XS) (u5 : Option AV) (Q : RS → Prop), JQ σ n dp a b s → b ≤ sz → σ.1 (40, 0, 0) 43 = (sz : Int) → dp ≤ 2 → RX S X σ → X.2.2.2.2 = true →
    (∀ (σ' : SG) (u5' : Option AV), RX S (ruX s X) σ' → (ruX s X).2.2.2.2 = true → KMr dp σ σ' → Wp k_X12_doesAll 6 (9, [some (aR (some (40, 0, 0))), some (aI (iZ (((ruX s X).2.2.2.1 : Int)))), some (aI (iZ ((dp : Int)))), some (aI (iZ ((b : Int)))), some (aI (iZ 1)), u5'], [], am_hp σ', t) Q) →
    (∀ σ' : SG, RX S (ruX s X) σ' → (ruX s X).2.2.2.2 ≠ true → KMr 0 σ σ' → Q (.inl (some (aI (iZ (((ruX s X).2.2.2.1 : Int))))), am_hp σ', t)) →
    Wp k_X12_doesAll 6 (9, [some (aR (some (40, 0, 0))), some (aI (iZ ((X.2.2.2.1 : Int)))), some (aI (iZ ((dp : Int)))), some (aI (iZ ((a : Int)))), some (aI (iZ 1)), u5], [], am_hp σ, t) Q
  | 0, dp, a, b, s, σ, X, u5, Q, hq, hb, h43, hdp, hX, hg, hgo, hstop => by
    obtain ⟨rfl, rfl⟩ := hq
    exact hgo σ u5 hX hg (KMr.refl _ _)
  | n + 1, dp, a, b, s, σ, X, u5, Q, hq, hb, h43, hdp, hX, hg, hgo, hstop => by
    have hd := hX.2.2.2.2.2.1 hg
    have ea : ((a : Int)).toNat = a := Int.toNat_natCast a
    rcases hq with hq | ⟨hab, hq | hq⟩
    · obtain ⟨rfl, rfl⟩ := hq
      exact hgo σ u5 hX hg (KMr.refl _ _)
    · obtain ⟨x, s', hJ, rfl, hq'⟩ := hq
      have er : ruX (x :: s') X = ruX s' (stX X x) := if_pos hg
      rw [er] at hgo hstop
      have h55 := hJ.1
      have h9 := hJ.2.1
      refine b_X12_doesAll_9 (by omega) (fun q => by omega) (fun _ => b_X12_doesAll_14 (by omega) (by omega) (fun q => by omega) (fun _ => b_X12_doesAll_22 (by omega) (fun q => by omega) (fun _ => b_X12_doesAll_28 (by omega) (by rw [ea]; omega) (fun _ => ?_) (fun q => by rw [ea] at q; omega))))
      refine b_X12_doesAll_67 (by omega) (by rw [ea]; omega) (fun _ => ?_) (fun q => by rw [ea] at q; omega)
      obtain ⟨σ1, c1, z1, z2, k1⟩ := s_X12_mayDo (t := t) hX hJ (by omega)
      by_cases hV : VX X.1 x = 0
      · have e1 := z1 hV
        subst e1
        rw [bz_t hV] at c1
        obtain ⟨σ2, c2, w2, f2⟩ := s_X12_does (t := t) hX.1 hJ (by omega) hV
        have ct := s_X12_truth (t := t) (σ := σ2) (P := True)
        rw [bz_t (p := True) trivial] at ct
        have est := stX_do hV
        have K2 : ∀ dp, KMr dp σ1 σ2 := fun dp => KMr.r f2
        have R2 : RX S (stX X x) σ2 := by
          rw [est]
          obtain ⟨-, e18, e19, e21, hC, -, h40⟩ := hX
          refine ⟨w2, by rw [(f2.1 _ n40_42).1]; exact e18, by rw [(f2.1 _ n40_42).1]; exact e19, by rw [(f2.1 _ n40_42).1]; exact e21, ⟨?_, hC.2.1, hC.2.2⟩, fun z => by rw [decide_eq_true_eq] at z; exact z, by show X.2.2.2.1 + 1 ≤ 40; omega⟩
          show X.2.1 0 + 1 = xC S 0 + ((X.2.2.2.1 + 1 : Nat) : Int)
          rw [hC.1]
          omega
        have edn : (stX X x).2.2.2.1 = X.2.2.2.1 + 1 := by rw [est]
        have ego : (stX X x).2.2.2.2 = decide (X.2.2.2.1 + 1 < 40) := by rw [est]
        refine b_X12_doesAll_149 (c1.up (by omega)) (by omega) (fun q => by omega) (fun _ => b_X12_doesAll_161 (c2.up (by omega)) (b_X12_doesAll_166 (ct.up (by omega)) ?_))
        rw [show ((X.2.2.2.1 : Nat) : Int) + 1 = (((stX X x).2.2.2.1 : Nat) : Int) by rw [edn]; rfl, show ((a : Nat) : Int) + 1 = ((a + 1 : Nat) : Int) from rfl]
        by_cases h4 : X.2.2.2.1 + 1 < 40
        · refine Wp_all hsz n dp (a + 1) b s' σ2 (stX X x) _ Q (hq'.cong (fun k _ _ => (K2 0).ag k)) hb (by rw [(K2 0).2.1 43 (by omega) (by omega)]; exact h43) hdp R2 (by rw [ego, decide_eq_true_eq]; exact h4) (fun σ' u' r g k => hgo σ' u' r g ((K2 dp).trans k)) (fun σ' r g k => hstop σ' r g ((K2 0).trans k))
        · have eno : (stX X x).2.2.2.2 ≠ true := by rw [ego]; exact fun z => h4 (of_decide_eq_true z)
          have e2 := ruX_no s' eno
          rw [e2] at hstop
          have fin : Wp k_X12_doesAll 6 (180, [some (aR (some (40, 0, 0))), some (aI (iZ (((stX X x).2.2.2.1 : Int)))), some (aI (iZ ((dp : Int)))), some (aI (iZ (((a + 1 : Nat) : Int)))), some (aI (iZ 1)), u5], [], am_hp σ2, t) Q := b_X12_doesAll_180 (hstop σ2 R2 eno (K2 0))
          have e43 : σ2.1 (40, 0, 0) 43 = (sz : Int) := by rw [(K2 0).2.1 43 (by omega) (by omega)]; exact h43
          exact b_X12_doesAll_9 (by omega) (fun q => by omega) (fun _ => b_X12_doesAll_14 (by omega) (by omega) (fun _ => fin) (fun _ => b_X12_doesAll_22 (by omega) (fun _ => fin) (fun q => by omega)))
      · rw [bz_f hV] at c1
        have R2 := z2 hV
        have sd := stX_dn hV
        have eno : (stX X x).2.2.2.2 ≠ true := by rw [sd.2]; decide
        have e2 := ruX_no s' eno
        rw [e2, sd.1] at hstop
        have ct := s_X12_truth (t := t) (σ := σ1) (P := False)
        rw [bz_f (p := False) (fun z => z)] at ct
        refine b_X12_doesAll_149 (c1.up (by omega)) (by omega) (fun _ => b_X12_doesAll_166 (ct.up (by omega)) ?_) (fun q => absurd rfl q)
        rw [Int.add_zero]
        exact b_X12_doesAll_9 (by omega) (fun _ => b_X12_doesAll_180 (hstop σ1 R2 eno (k1 0))) (fun q => absurd rfl q)
    · obtain ⟨r0, e, s1, s2, hdp2, h9, h56, hr20, hae, heb, h10, hq1, hq2, rfl⟩ := hq
      have er : ruX (rpL s1 r0 ++ s2) X = ruX s2 (ruX (rpL s1 r0) X) := ruX_app _ _ _
      rw [er] at hgo hstop
      have edp : ((dp : Int)).toNat = dp := Int.toNat_natCast dp
      refine b_X12_doesAll_9 (by omega) (fun q => by omega) (fun _ => b_X12_doesAll_14 (by omega) (by omega) (fun q => by omega) (fun _ => b_X12_doesAll_22 (by omega) (fun q => by omega) (fun _ => b_X12_doesAll_28 (by omega) (by rw [ea]; omega) (fun q => absurd (by rw [ea]; exact h9) q) (fun _ => ?_))))
      refine b_X12_doesAll_39 (by omega) (by omega) ?_
      rw [edp, ea]
      have inner : ∀ (r : Nat) (X1 : XS) (σ1 : SG) (u' : Option AV), 1 ≤ r → RX S X1 σ1 → X1.2.2.2.2 = true → σ1.1 (58, 0, 0) dp = (a : Int) → σ1.1 (59, 0, 0) dp = (r : Int) → r ≤ 20 → KMr dp σ σ1 → ruX (rpL s1 r) X1 = ruX (rpL s1 r0) X → Wp k_X12_doesAll 6 (9, [some (aR (some (40, 0, 0))), some (aI (iZ ((X1.2.2.2.1 : Int)))), some (aI (iZ (((dp + 1 : Nat) : Int)))), some (aI (iZ (((a + 1 : Nat) : Int)))), some (aI (iZ 1)), u'], [], am_hp σ1, t) Q := by
        intro r
        induction r with
        | zero => intro X1 σ1 u' h1; omega
        | succ r ih =>
          intro X1 σ1 u' _ hX1 hg1 h58 h59 hr K1 eY
          have eY : ruX (s1 ++ rpL s1 r) X1 = ruX (rpL s1 r0) X := eY
          rw [ruX_app] at eY
          refine Wp_all hsz n (dp + 1) (a + 1) e s1 σ1 X1 u' Q (hq1.cong (fun k _ _ => K1.ag k)) (by omega) (by rw [K1.2.1 43 (by omega) (by omega)]; exact h43) (by omega) hX1 hg1 (fun σ2 u2 R2 g2 K2 => ?_) (fun σ2 R2 g2 K2 => ?_)
          · have hd2 := R2.2.2.2.2.2.1 g2
            have K12 := K1.trans K2.low
            have f43 : σ2.1 (40, 0, 0) 43 = (sz : Int) := by rw [K12.2.1 43 (by omega) (by omega)]; exact h43
            have f55 : σ2.1 (55, 0, 0) e = 10 := by rw [(K12.ag e).1]; exact h10
            have f58 : σ2.1 (58, 0, 0) dp = (a : Int) := by rw [(K2.2.2 dp (by omega)).1]; exact h58
            have f59 : σ2.1 (59, 0, 0) dp = ((r + 1 : Nat) : Int) := by rw [(K2.2.2 dp (by omega)).2]; exact h59
            have ee : ((e : Int)).toNat = e := Int.toNat_natCast e
            have ed1 : (((dp + 1 : Nat) : Int) - 1).toNat = dp := by omega
            have g59 : (sI σ2 (59, 0, 0) (up (σ2.1 (59, 0, 0)) dp (σ2.1 (59, 0, 0) dp - 1))).1 (59, 0, 0) dp = (r : Int) := by
              rw [sI_1, if_pos rfl, up_at, if_pos rfl, f59]
              omega
            have g58 : (sI σ2 (59, 0, 0) (up (σ2.1 (59, 0, 0)) dp (σ2.1 (59, 0, 0) dp - 1))).1 (58, 0, 0) dp = (a : Int) := by
              rw [sI_1, if_neg (lc_ne (by omega))]
              exact f58
            have g43 : (sI σ2 (59, 0, 0) (up (σ2.1 (59, 0, 0)) dp (σ2.1 (59, 0, 0) dp - 1))).1 (40, 0, 0) 43 = (sz : Int) := by
              rw [sI_1, if_neg (lc_ne (by omega))]
              exact f43
            have R3 : RX S (ruX s1 X1) (sI σ2 (59, 0, 0) (up (σ2.1 (59, 0, 0)) dp (σ2.1 (59, 0, 0) dp - 1))) := R2.e (by rw [sI_1, if_neg (lc_ne (by omega))]) (by rw [sI_1, if_neg (lc_ne (by omega))])
            have K3 : KMr dp σ (sI σ2 (59, 0, 0) (up (σ2.1 (59, 0, 0)) dp (σ2.1 (59, 0, 0) dp - 1))) := K12.trans (KMr.l (Or.inr rfl) (Nat.le_refl _))
            refine b_X12_doesAll_9 (by omega) (fun q => by omega) (fun _ => b_X12_doesAll_14 (by omega) (by omega) (fun q => by omega) (fun _ => b_X12_doesAll_22 (by omega) (fun q => by omega) (fun _ => b_X12_doesAll_28 (by omega) (by rw [ee]; omega) (fun _ => ?_) (fun q => by rw [ee] at q; omega))))
            refine b_X12_doesAll_67 (by omega) (by rw [ee]; omega) (fun q => absurd (by rw [ee]; exact f55) q) (fun _ => ?_)
            have blk := b_X12_doesAll_78 (Q := Q) (d := 6) (σ := σ2) (x1 := (((ruX s1 X1).2.2.2.1 : Nat) : Int)) (x2 := ((dp + 1 : Nat) : Int)) (x3 := (e : Int)) (x4 := 1) (u5 := u2) (t := t)
            rw [ed1] at blk
            generalize (sI σ2 (59, 0, 0) (up (σ2.1 (59, 0, 0)) dp (σ2.1 (59, 0, 0) dp - 1))) = τ at g59 g58 g43 R3 K3 blk
            refine blk (by omega) (by rw [g59]; omega) (fun q => ?_) (fun q => ?_)
            · rw [g59] at q
              have r00 : r = 0 := by omega
              subst r00
              have ct := s_X12_truth (t := t) (σ := τ) (P := True)
              rw [bz_t (p := True) trivial] at ct
              refine b_X12_doesAll_105 (b_X12_doesAll_106 (by omega) (fun _ => b_X12_doesAll_126 (b_X12_doesAll_129 (by omega) (fun q => absurd rfl q) (fun _ => b_X12_doesAll_136 (b_X12_doesAll_141 (ct.up (by omega)) ?_)))) (fun q => absurd rfl q))
              rw [show ((dp + 1 : Nat) : Int) - 1 = (dp : Int) by omega, show (e : Int) + 1 = ((e + 1 : Nat) : Int) from rfl]
              have eY : ruX s1 X1 = ruX (rpL s1 r0) X := eY
              rw [← eY] at hgo hstop
              exact Wp_all hsz n dp (e + 1) b s2 τ (ruX s1 X1) _ Q (hq2.cong (fun k _ _ => K3.ag k)) hb g43 hdp R3 g2 (fun σ' u' r g k => hgo σ' u' r g (K3.trans k)) (fun σ' r g k => hstop σ' r g (K3.zero.trans k))
            · rw [g59] at q
              have ct := s_X12_truth (t := t) (σ := τ) (P := False)
              rw [bz_f (p := False) (fun z => z)] at ct
              refine b_X12_doesAll_101 (b_X12_doesAll_106 (by omega) (fun q => absurd q (by decide)) (fun _ => b_X12_doesAll_113 (by omega) ?_))
              rw [ed1, g58]
              refine b_X12_doesAll_129 (by omega) (fun _ => b_X12_doesAll_140 (b_X12_doesAll_141 (ct.up (by omega)) ?_)) (fun q => absurd q (by decide))
              rw [Int.sub_zero, show (a : Int) + 1 = ((a + 1 : Nat) : Int) from rfl]
              exact ih (ruX s1 X1) τ _ (by omega) R3 g2 g58 g59 (by omega) K3 eY
          · have e2 := ruX_no (rpL s1 r) g2
            rw [e2] at eY
            rw [← eY, ruX_no s2 g2] at hstop
            exact hstop σ2 R2 g2 (K1.zero.trans K2)
      have K0 : KMr dp σ (sI (sI σ (58, 0, 0) (up (σ.1 (58, 0, 0)) dp (a : Int))) (59, 0, 0) (up ((sI σ (58, 0, 0) (up (σ.1 (58, 0, 0)) dp (a : Int))).1 (59, 0, 0)) dp ((sI σ (58, 0, 0) (up (σ.1 (58, 0, 0)) dp (a : Int))).1 (56, 0, 0) a))) := (KMr.l (Or.inl rfl) (Nat.le_refl _)).trans (KMr.l (Or.inr rfl) (Nat.le_refl _))
      refine inner r0 X _ _ hr20.1 (hX.e (by rw [sI_1, if_neg (lc_ne (by omega)), sI_1, if_neg (lc_ne (by omega))]) (by rw [sI_1, if_neg (lc_ne (by omega)), sI_1, if_neg (lc_ne (by omega))])) hg ?_ ?_ hr20.2 K0 rfl
      · rw [sI_1, if_neg (lc_ne (by omega)), sI_1, if_pos rfl, up_at, if_pos rfl]
      · rw [sI_1, if_pos rfl, up_at, if_pos rfl, sI_1, if_neg (lc_ne (by omega))]
        exact h56
theorem s_X12_doesAll {t : KT} {σ : SG} {S : SS} {X : XS} {n sz : Nat} {s : List IT} (hsz : sz ≤ 60) (hq : JQ σ n 0 0 sz s) (h43 : σ.1 (40, 0, 0) 43 = (sz : Int)) (hX : RX S X σ) (hg : X.2.2.2.2 = true) (h0 : X.2.2.2.1 = 0) : ∃ σ', Ca 7 330 [aR (some (40, 0, 0))] (am_hp σ) t (.inl (some (aI (iZ (((ruX s X).2.2.2.1 : Int))))), am_hp σ', t) ∧ RX S (ruX s X) σ' ∧ KMr 0 σ σ' := by
  refine ex_of (e_X12_doesAll ?_)
  refine b_X12_doesAll_0 ?_
  have := Wp_all (t := t) hsz n 0 0 sz s σ X none (fun r => ∃ σ', r = (.inl (some (aI (iZ (((ruX s X).2.2.2.1 : Int))))), am_hp σ', t) ∧ RX S (ruX s X) σ' ∧ KMr 0 σ σ') hq (Nat.le_refl _) h43 (by omega) hX hg (fun σ' u' R g K => by
    have e43 : σ'.1 (40, 0, 0) 43 = (sz : Int) := by rw [K.2.1 43 (by omega) (by omega)]; exact h43
    exact b_X12_doesAll_9 (by omega) (fun q => by omega) (fun _ => b_X12_doesAll_14 (by omega) (by omega) (fun _ => b_X12_doesAll_180 ⟨σ', rfl, R, K⟩) (fun q => by omega))) (fun σ' R g K => ⟨σ', rfl, R, K⟩)
  rw [h0] at this
  exact this
theorem comR_0 {T : TB} {dp w p : Nat} (h : tK T p ≠ 1) : cmK T p = -1 := fndF_no (P := fun k => isKw T p k) 10 0 (fun j _ z => h z.1)
/-- cells that a script touches -/
def inRm (L : Lc) : Prop := L.1 = 40 ∨ L.1 = 42 ∨ L.1 = 44 ∨ L.1 = 45 ∨ (55 ≤ L.1 ∧ L.1 ≤ 61)
theorem m_runScript {t : KT} {σ : SG} {S : SS} (h : MS S σ) : ∃ σ', Ca 8 329 [aR (some (40, 0, 0))] (am_hp σ) t (.inl (some (aI (iZ (moI (A_runScript S).1)))), am_hp σ', t) ∧ σ'.1 (40, 0, 0) 0 = moC (A_runScript S).1 ∧ MS (A_runScript S).2 σ' ∧ Fr inMo σ σ' := by
  obtain ⟨T, eT⟩ : ∃ T, T = xT S := ⟨_, rfl⟩
  have hB := h.2.2.2.2.2.2.1
  obtain ⟨n1, n2, n3, n4⟩ := h.2.2.2.2.1
  refine ex_of (e_X12_runScript ?_)
  refine wq (fun Q hQ => ?_)
  obtain ⟨σ2, c2, q2, g2, e2, f2, o2⟩ := s_X12_beginsText (t := t) hB
  rw [← eT] at q2
  refine b_X12_runScript_0 (c2.up (by omega)) ?_
  have F3 : Fr in40 σ (sI (sI (sI σ2 (40, 0, 0) (up (σ2.1 (40, 0, 0)) 43 0)) (40, 0, 0) (up ((sI σ2 (40, 0, 0) (up (σ2.1 (40, 0, 0)) 43 0)).1 (40, 0, 0)) 44 0)) (40, 0, 0) (up ((sI (sI σ2 (40, 0, 0) (up (σ2.1 (40, 0, 0)) 43 0)) (40, 0, 0) (up ((sI σ2 (40, 0, 0) (up (σ2.1 (40, 0, 0)) 43 0)).1 (40, 0, 0)) 44 0)).1 (40, 0, 0)) 45 0)) := ((f2.trans (Fr.sI (P := in40) rfl)).trans (Fr.sI (P := in40) rfl)).trans (Fr.sI (P := in40) rfl)
  have Q3 : TQ T 0 (sI (sI (sI σ2 (40, 0, 0) (up (σ2.1 (40, 0, 0)) 43 0)) (40, 0, 0) (up ((sI σ2 (40, 0, 0) (up (σ2.1 (40, 0, 0)) 43 0)).1 (40, 0, 0)) 44 0)) (40, 0, 0) (up ((sI (sI σ2 (40, 0, 0) (up (σ2.1 (40, 0, 0)) 43 0)) (40, 0, 0) (up ((sI σ2 (40, 0, 0) (up (σ2.1 (40, 0, 0)) 43 0)).1 (40, 0, 0)) 44 0)).1 (40, 0, 0)) 45 0)) ∧ GN (sI (sI (sI σ2 (40, 0, 0) (up (σ2.1 (40, 0, 0)) 43 0)) (40, 0, 0) (up ((sI σ2 (40, 0, 0) (up (σ2.1 (40, 0, 0)) 43 0)).1 (40, 0, 0)) 44 0)) (40, 0, 0) (up ((sI (sI σ2 (40, 0, 0) (up (σ2.1 (40, 0, 0)) 43 0)) (40, 0, 0) (up ((sI σ2 (40, 0, 0) (up (σ2.1 (40, 0, 0)) 43 0)).1 (40, 0, 0)) 44 0)).1 (40, 0, 0)) 45 0)) := ⟨((q2.c (by omega)).c (by omega)).c (by omega), ((g2.c (by omega)).c (by omega)).c (by omega)⟩
  have O3 : ∀ j, 9 < j → j ≠ 43 → j ≠ 44 → j ≠ 45 → (sI (sI (sI σ2 (40, 0, 0) (up (σ2.1 (40, 0, 0)) 43 0)) (40, 0, 0) (up ((sI σ2 (40, 0, 0) (up (σ2.1 (40, 0, 0)) 43 0)).1 (40, 0, 0)) 44 0)) (40, 0, 0) (up ((sI (sI σ2 (40, 0, 0) (up (σ2.1 (40, 0, 0)) 43 0)) (40, 0, 0) (up ((sI σ2 (40, 0, 0) (up (σ2.1 (40, 0, 0)) 43 0)).1 (40, 0, 0)) 44 0)).1 (40, 0, 0)) 45 0)).1 (40, 0, 0) j = σ.1 (40, 0, 0) j := fun j hj h1 h2 h3 => by rw [sI_1, if_pos rfl, up_at, if_neg h3, sI_1, if_pos rfl, up_at, if_neg h2, sI_1, if_pos rfl, up_at, if_neg h1, o2 j (by omega)]
  have E3 : (sI (sI (sI σ2 (40, 0, 0) (up (σ2.1 (40, 0, 0)) 43 0)) (40, 0, 0) (up ((sI σ2 (40, 0, 0) (up (σ2.1 (40, 0, 0)) 43 0)).1 (40, 0, 0)) 44 0)) (40, 0, 0) (up ((sI (sI σ2 (40, 0, 0) (up (σ2.1 (40, 0, 0)) 43 0)) (40, 0, 0) (up ((sI σ2 (40, 0, 0) (up (σ2.1 (40, 0, 0)) 43 0)).1 (40, 0, 0)) 44 0)).1 (40, 0, 0)) 45 0)).1 (40, 0, 0) 2 = 0 ∧ (sI (sI (sI σ2 (40, 0, 0) (up (σ2.1 (40, 0, 0)) 43 0)) (40, 0, 0) (up ((sI σ2 (40, 0, 0) (up (σ2.1 (40, 0, 0)) 43 0)).1 (40, 0, 0)) 44 0)) (40, 0, 0) (up ((sI (sI σ2 (40, 0, 0) (up (σ2.1 (40, 0, 0)) 43 0)) (40, 0, 0) (up ((sI σ2 (40, 0, 0) (up (σ2.1 (40, 0, 0)) 43 0)).1 (40, 0, 0)) 44 0)).1 (40, 0, 0)) 45 0)).1 (40, 0, 0) 43 = 0 ∧ (sI (sI (sI σ2 (40, 0, 0) (up (σ2.1 (40, 0, 0)) 43 0)) (40, 0, 0) (up ((sI σ2 (40, 0, 0) (up (σ2.1 (40, 0, 0)) 43 0)).1 (40, 0, 0)) 44 0)) (40, 0, 0) (up ((sI (sI σ2 (40, 0, 0) (up (σ2.1 (40, 0, 0)) 43 0)) (40, 0, 0) (up ((sI σ2 (40, 0, 0) (up (σ2.1 (40, 0, 0)) 43 0)).1 (40, 0, 0)) 44 0)).1 (40, 0, 0)) 45 0)).1 (40, 0, 0) 44 = 0 ∧ (sI (sI (sI σ2 (40, 0, 0) (up (σ2.1 (40, 0, 0)) 43 0)) (40, 0, 0) (up ((sI σ2 (40, 0, 0) (up (σ2.1 (40, 0, 0)) 43 0)).1 (40, 0, 0)) 44 0)) (40, 0, 0) (up ((sI (sI σ2 (40, 0, 0) (up (σ2.1 (40, 0, 0)) 43 0)) (40, 0, 0) (up ((sI σ2 (40, 0, 0) (up (σ2.1 (40, 0, 0)) 43 0)).1 (40, 0, 0)) 44 0)).1 (40, 0, 0)) 45 0)).1 (40, 0, 0) 45 = 0 := by
    refine ⟨?_, ?_, ?_, ?_⟩
    · rw [sI_1, if_pos rfl, up_at, if_neg (by omega), sI_1, if_pos rfl, up_at, if_neg (by omega), sI_1, if_pos rfl, up_at, if_neg (by omega)]; exact e2
    · simp [sI_1, up_at]
    · simp [sI_1, up_at]
    · simp [sI_1, up_at]
  generalize (sI (sI (sI σ2 (40, 0, 0) (up (σ2.1 (40, 0, 0)) 43 0)) (40, 0, 0) (up ((sI σ2 (40, 0, 0) (up (σ2.1 (40, 0, 0)) 43 0)).1 (40, 0, 0)) 44 0)) (40, 0, 0) (up ((sI (sI σ2 (40, 0, 0) (up (σ2.1 (40, 0, 0)) 43 0)) (40, 0, 0) (up ((sI σ2 (40, 0, 0) (up (σ2.1 (40, 0, 0)) 43 0)).1 (40, 0, 0)) 44 0)).1 (40, 0, 0)) 45 0)) = τ at F3 Q3 O3 E3 ⊢
  have mRm1 : ∀ L, in40 L → inRm L := fun L q => by
    have q : L = (40, 0, 0) := q
    subst q; exact Or.inl rfl
  have mRm2 : ∀ L, inSm L → inRm L := fun L q => by unfold inSm at q; unfold inRm; omega
  have kit : ∀ {σ5 : SG}, SF τ σ5 → Fr inRm σ σ5 ∧ (∀ j, 9 < j → j ≠ 43 → j ≠ 44 → j ≠ 45 → σ5.1 (40, 0, 0) j = σ.1 (40, 0, 0) j) ∧ σ5.1 (40, 0, 0) 2 = 0 := fun {σ5} l => ⟨(F3.mono mRm1).trans (l.1.mono mRm2), fun j hj h1 h2 h3 => (l.2 j (by omega) h1 h2 h3).trans (O3 j hj h1 h2 h3), (l.2 2 (by omega) (by omega) (by omega) (by omega)).trans E3.1⟩
  have Sm : ∀ {σ5 : SG}, SF τ σ5 → σ5.1 (42, 0, 0) = σ.1 (42, 0, 0) ∧ σ5.1 (45, 0, 0) = σ.1 (45, 0, 0) := fun {σ5} l => ⟨by rw [(l.1.1 (42, 0, 0) (by unfold inSm; omega)).1, (F3.1 (42, 0, 0) (n_in40 (by omega))).1], by rw [(l.1.1 (45, 0, 0) (by unfold inSm; omega)).1, (F3.1 (45, 0, 0) (n_in40 (by omega))).1]⟩
  have bad : ∀ (σ5 : SG) (e : PE) (u1 : Option AV), scrP T = .inr e → FE e σ5 → SF τ σ5 → Wp k_X12_runScript 7 (82, [some (aR (some (40, 0, 0))), u1], [], am_hp σ5, t) Q := fun σ5 e u1 he q5 l5 => by
    obtain ⟨F5, O5, E5⟩ := kit l5
    obtain ⟨z8, zb, z9⟩ := q5
    obtain ⟨σ6, c6, r0, r10, r11, f6, o6⟩ := s_X12_endsText (t := t) z8 z9 (by omega)
    rw [bz_f (by omega)] at c6
    rw [bz_t (by omega)] at r0
    have FF := F5.trans (f6.mono mRm1)
    have keep : ∀ j, 9 < j → j ≠ 10 → j ≠ 11 → j ≠ 43 → j ≠ 44 → j ≠ 45 → σ6.1 (40, 0, 0) j = σ.1 (40, 0, 0) j := fun j h9 h10 h11 h1 h2 h3 => by rw [o6 j (by omega) h10 h11, O5 j h9 h1 h2 h3]
    have e42 : σ6.1 (42, 0, 0) = σ.1 (42, 0, 0) := by rw [(f6.1 (42, 0, 0) (n_in40 (by omega))).1]; exact (Sm l5).1
    have e45 : σ6.1 (45, 0, 0) = σ.1 (45, 0, 0) := by rw [(f6.1 (45, 0, 0) (n_in40 (by omega))).1]; exact (Sm l5).2
    have eA : A_runScript S = (.inr 1, (S.1, S.2.1, S.2.2.1, S.2.2.2.1, S.2.2.2.2.1, ((xT S).1, 0), ((e.1 : Int), (e.2 : Int)), xR S)) := by
      unfold A_runScript
      rw [← eT, he]
    rw [eA] at hQ
    refine b_X12_runScript_82 (c6.up (by omega)) (by omega) (fun q => absurd rfl q) (fun _ => b_X12_runScript_89 (hQ _ ⟨σ6, rfl, r0, ?_, FF.mono (fun L q => by unfold inRm at q; unfold inMo; omega)⟩))
    refine h.all (A := xA S) (l := xP S) (cn := xC S) (V := xL S) (T := ((xT S).1, 0)) (e := ((e.1 : Int), (e.2 : Int))) FF (fun L q => by unfold inRm at q; omega) (fun j hj => keep j (by omega) (by omega) (by omega) (by omega) (by omega) (by omega)) ⟨h.1.1, by rw [e42]; exact h.1.2⟩ (h.2.2.2.1.ce (keep 17 (by omega) (by omega) (by omega) (by omega) (by omega) (by omega)) e45) ⟨(keep 18 (by omega) (by omega) (by omega) (by omega) (by omega) (by omega)).trans n1, (keep 19 (by omega) (by omega) (by omega) (by omega) (by omega) (by omega)).trans n2, (keep 20 (by omega) (by omega) (by omega) (by omega) (by omega) (by omega)).trans n3, (keep 22 (by omega) (by omega) (by omega) (by omega) (by omega) (by omega)).trans n4⟩ ((keep 21 (by omega) (by omega) (by omega) (by omega) (by omega) (by omega)).trans h.2.2.2.2.2.1) ⟨?_, by show 0 ≤ 600; omega, hB.2.2.1, fun j hj => absurd hj (Nat.not_lt_zero j)⟩ r10 r11
    rw [o6 2 (by omega) (by omega) (by omega), E5]; rfl
  have good : ∀ (σ5 : SG) (l : LV) (m w p : Nat) (u1 : Option AV), l.length = 1 → scrP T = .inl (tpL l) → SMr T l m w p σ5 → SF τ σ5 → Wp k_X12_runScript 7 (82, [some (aR (some (40, 0, 0))), u1], [], am_hp σ5, t) Q := fun σ5 l m w p u1 hl1 he M5 l5 => by
    obtain ⟨F5, O5, E5⟩ := kit l5
    obtain ⟨z8, z9⟩ := M5.2.1
    obtain ⟨σ6, c6, r0, r10, r11, f6, o6⟩ := s_X12_endsText (t := t) z8 z9 (by omega)
    rw [bz_t rfl] at c6
    rw [bz_f (fun q => q rfl)] at r0
    have A6 : MA (xA S) σ6 := ⟨h.1.1, by rw [(f6.1 (42, 0, 0) (n_in40 (by omega))).1, (Sm l5).1]; exact h.1.2⟩
    obtain ⟨σ7, c7, d7, f7⟩ := s_X12_laysAside (t := t) A6
    have f7 : Fr (fun L => L = (44, 0, 0)) σ6 σ7 := f7
    have o7 : ∀ a : Nat, a ≠ 44 → σ7.1 (a, 0, 0) = σ6.1 (a, 0, 0) ∧ σ7.2.1 (a, 0, 0) = σ6.2.1 (a, 0, 0) := fun a ha => ⟨(f7.1 (a, 0, 0) (lc_ne ha)).1, (f7.1 (a, 0, 0) (lc_ne ha)).2.1⟩
    have keep : ∀ j, 9 < j → j ≠ 10 → j ≠ 11 → j ≠ 43 → j ≠ 44 → j ≠ 45 → σ7.1 (40, 0, 0) j = σ.1 (40, 0, 0) j := fun j h9 h10 h11 h1 h2 h3 => by rw [(o7 40 (by omega)).1, o6 j (by omega) h10 h11, O5 j h9 h1 h2 h3]
    have A7 : ∀ k, AGs σ5 σ7 k := fun k => (AGs.f f6).trans (by
      unfold AGs
      rw [(o7 55 (by omega)).1, (o7 56 (by omega)).1, (o7 57 (by omega)).1, (o7 60 (by omega)).2, (o7 61 (by omega)).2]
      exact ⟨rfl, rfl, rfl, rfl, rfl⟩)
    obtain ⟨-, -, -, -, m43, -, hw30, hmw, hL⟩ := M5
    have hq : ∃ n, JQ σ7 n 0 0 m (tpL l) := by
      match l, hl1, hL with
      | [(t0, s0)], _, hL =>
        obtain ⟨n, g⟩ := hL
        exact ⟨n, g.cong (fun k _ _ => A7 k)⟩
    obtain ⟨n, hq⟩ := hq
    have X7 : RX S (xA S, xC S, xL S, 0, true) σ7 := ⟨⟨A6.1, by rw [(o7 42 (by omega)).1]; exact A6.2⟩, (keep 18 (by omega) (by omega) (by omega) (by omega) (by omega) (by omega)).trans n1, (keep 19 (by omega) (by omega) (by omega) (by omega) (by omega) (by omega)).trans n2, (keep 21 (by omega) (by omega) (by omega) (by omega) (by omega) (by omega)).trans h.2.2.2.2.2.1, ⟨by show xC S 0 = xC S 0 + ((0 : Nat) : Int); omega, rfl, rfl⟩, fun _ => by show (0 : Nat) < 40; omega, by show (0 : Nat) ≤ 40; omega⟩
    have m437 : σ7.1 (40, 0, 0) 43 = (m : Int) := by rw [(o7 40 (by omega)).1, o6 43 (by omega) (by omega) (by omega)]; exact m43
    obtain ⟨σ8, c8, R8, K8⟩ := s_X12_doesAll (t := t) (sz := m) (by omega) hq m437 X7 rfl rfl
    have d8 : MD (xA S) σ8 := d7.t K8.1 (by unfold inDo; omega)
    have H8 : MH (xP S) σ8 := h.2.2.2.1.ce (by rw [K8.2.1 17 (by omega) (by omega)]; exact keep 17 (by omega) (by omega) (by omega) (by omega) (by omega) (by omega)) (by rw [(K8.1.1 (45, 0, 0) (by unfold inDo; omega)).1, (o7 45 (by omega)).1, (f6.1 (45, 0, 0) (n_in40 (by omega))).1]; exact (Sm l5).2)
    obtain ⟨σ9, c9, g9, f9, o9, -⟩ := s_X12_keeps (t := t) d8 H8
    have eA : A_runScript S = (.inl ((ruX (tpL l) (xA S, xC S, xL S, 0, true)).2.2.2.1 : Int), ((ruX (tpL l) (xA S, xC S, xL S, 0, true)).1, S.2.1, (xA S :: xP S).take 6, (ruX (tpL l) (xA S, xC S, xL S, 0, true)).2.1, (ruX (tpL l) (xA S, xC S, xL S, 0, true)).2.2.1, ((xT S).1, 0), (0, -1), xR S)) := by
      unfold A_runScript
      rw [← eT, he]
    rw [eA] at hQ
    generalize ruX (tpL l) (xA S, xC S, xL S, 0, true) = Y at hQ R8 c8
    obtain ⟨y1, y2, y3, y4, y5, y6, y7⟩ := R8
    have mKp : ∀ L, inKp L → inRm L := fun L q => by
      rcases q with q | q
      · subst q; exact Or.inl rfl
      · subst q; exact Or.inr (Or.inr (Or.inr (Or.inl rfl)))
    have FF : Fr inRm σ (sI σ9 (40, 0, 0) (up (σ9.1 (40, 0, 0)) 18 (σ9.1 (40, 0, 0) 18 + (Y.2.2.2.1 : Int)))) := ((((F5.trans (f6.mono mRm1)).trans (f7.mono (fun L (q : L = (44, 0, 0)) => by subst q; exact Or.inr (Or.inr (Or.inl rfl))))).trans (K8.1.mono (fun L q => by unfold inDo at q; unfold inRm; omega))).trans (f9.mono mKp)).trans (Fr.sI (P := inRm) (Or.inl rfl))
    have s10 : ∀ j, j ≠ 18 → (sI σ9 (40, 0, 0) (up (σ9.1 (40, 0, 0)) 18 (σ9.1 (40, 0, 0) 18 + (Y.2.2.2.1 : Int)))).1 (40, 0, 0) j = σ9.1 (40, 0, 0) j := fun j hj => by rw [sI_1, if_pos rfl, up_at, if_neg hj]
    have back : ∀ j, j ≠ 17 → j ≠ 18 → j ≠ 19 → j ≠ 21 → (sI σ9 (40, 0, 0) (up (σ9.1 (40, 0, 0)) 18 (σ9.1 (40, 0, 0) 18 + (Y.2.2.2.1 : Int)))).1 (40, 0, 0) j = σ7.1 (40, 0, 0) j := fun j h1 h2 h3 h4 => by rw [s10 j h2, o9 j h1, K8.2.1 j h3 h4]
    have n42k : ¬ inKp (42, 0, 0) := by
      intro q
      rcases q with q | q <;> exact absurd (congrArg (fun L : Lc => L.1) q) (by decide)
    refine b_X12_runScript_82 (c6.up (by omega)) (by omega) (fun _ => b_X12_runScript_91 (c7.up (by omega)) (c8.up (by omega)) (c9.up (by omega)) (hQ _ ⟨_, rfl, ?_, ?_, FF.mono (fun L q => by unfold inRm at q; unfold inMo; omega)⟩)) (fun q => absurd q (by decide))
    · rw [back 0 (by omega) (by omega) (by omega) (by omega), (o7 40 (by omega)).1, r0]; rfl
    · refine h.all (A := Y.1) (l := (xA S :: xP S).take 6) (cn := Y.2.1) (V := Y.2.2.1) (T := ((xT S).1, 0)) (e := (0, -1)) FF (fun L q => by unfold inRm at q; omega) (fun j hj => by rw [back j (by omega) (by omega) (by omega) (by omega)]; exact keep j (by omega) (by omega) (by omega) (by omega) (by omega) (by omega)) ?_ ?_ ⟨?_, ?_, ?_, ?_⟩ ?_ ⟨?_, by show 0 ≤ 600; omega, hB.2.2.1, fun j hj => absurd hj (Nat.not_lt_zero j)⟩ ?_ ?_
      · exact (y1.fr f9 n42k).t (Fr.sI (P := in40) rfl)
      · exact g9.ce (s10 17 (by omega)) (by rw [sI_1, if_neg (by decide)])
      · rw [sI_1, if_pos rfl, up_at, if_pos rfl, o9 18 (by omega), y2, y5.1]
      · rw [s10 19 (by omega), o9 19 (by omega), y3]
      · rw [back 20 (by omega) (by omega) (by omega) (by omega), keep 20 (by omega) (by omega) (by omega) (by omega) (by omega) (by omega), n3, y5.2.1]
      · rw [back 22 (by omega) (by omega) (by omega) (by omega), keep 22 (by omega) (by omega) (by omega) (by omega) (by omega) (by omega), n4, y5.2.2]
      · rw [s10 21 (by omega), o9 21 (by omega), y4]
      · rw [back 2 (by omega) (by omega) (by omega) (by omega), (o7 40 (by omega)).1, o6 2 (by omega) (by omega) (by omega), E5]; rfl
      · rw [back 10 (by omega) (by omega) (by omega) (by omega), (o7 40 (by omega)).1, r10]
      · rw [back 11 (by omega) (by omega) (by omega) (by omega), (o7 40 (by omega)).1, r11]
  have bad19 : ∀ (σ5 : SG) (e : PE) (u1 : Option AV), scrP T = .inr e → FE e σ5 → SF τ σ5 → Wp k_X12_runScript 7 (19, [some (aR (some (40, 0, 0))), u1], [], am_hp σ5, t) Q := fun σ5 e u1 he q5 l5 => b_X12_runScript_19 ((s_isGood_f q5).up (by omega)) (by omega) (fun _ => b_X12_runScript_63 ((s_isGood_f q5).up (by omega)) (by omega) (fun _ => bad σ5 e u1 he q5 l5) (fun q => absurd rfl q)) (fun q => absurd rfl q)
  have key : ∀ (N f : Nat) (l : LV) (m w p : Nat) (σ5 : SG) (u1 : Option AV), f ≤ N → SMr T l m w p σ5 → ¬ (1 < l.length ∧ tK T p = 5) → 601 ≤ f + p → SF τ σ5 → scrP T = lopS T f l w p → Wp k_X12_runScript 7 (19, [some (aR (some (40, 0, 0))), u1], [], am_hp σ5, t) Q := by
    intro N
    induction N with
    | zero =>
      intro f l m w p σ5 u1 hf M5 _ hfp _ _
      have h1 := M5.1.2.1
      have h2 := M5.1.1.2.1
      omega
    | succ N ih =>
      intro f l m w p σ5 u1 hf M5 h5 hfp l5 eS
      have hpT := M5.1.2.1
      have h600 := M5.1.1.2.1
      cases f with
      | zero => omega
      | succ f =>
        have e6 := M5.1.2.2.1
        have hm6 := mK_i (tK_le T p)
        have e45 := M5.2.2.2.1
        have hl3 := M5.2.2.1
        have eL : lopS T (f + 1) l w p = if l.length = 1 ∧ tK T p = 0 then .inl (tpL l) else match comP T (l.length - 1) w p with
            | .inr e => .inr e
            | .inl x => if iC x.1 = 9 then lopS T f ((x.1.2.2.2.2.toNat, []) :: l) (w + 1) x.2 else lopS T f (adL x.1 l) (w + 1) x.2 := by
          show (if l.length = 1 ∧ tK T p = 0 then _ else if 1 < l.length ∧ tK T p = 5 then _ else _) = _
          rw [if_neg h5]
          rfl
        rw [eL] at eS
        refine b_X12_runScript_19 ((s_isGood_t M5.2.1).up (by omega)) (by omega) (fun q => by omega) (fun _ => ?_)
        by_cases h0 : tK T p = 0
        · have e60 := hm6.1.mpr h0
          refine b_X12_runScript_26 (by omega) (fun _ => b_X12_runScript_63 ((s_isGood_t M5.2.1).up (by omega)) (by omega) (fun q => by omega) (fun _ => ?_)) (fun q => by omega)
          by_cases hl : l.length = 1
          · rw [if_pos ⟨hl, h0⟩] at eS
            exact b_X12_runScript_70 (by omega) (fun _ => good σ5 l m w p u1 hl eS M5 l5) (fun q => by omega)
          · rw [if_neg (fun z => hl z.1)] at eS
            have ec : comP T (l.length - 1) w p = .inr (1, tS T p) := by
              unfold comP
              rw [if_pos (comR_0 (dp := 0) (w := 0) (by omega))]
            rw [ec] at eS
            obtain ⟨σ6, c6, q6, f6⟩ := s_wrong (t := t) (c := 1) M5.1 M5.2.1 (by omega) (fun _ => rfl)
            exact b_X12_runScript_70 (by omega) (fun q => by omega) (fun _ => b_X12_runScript_77 (c6.up (by omega)) (bad σ6 _ u1 eS q6 (l5.trans f6.sf)))
        · have e60 : σ5.1 (40, 0, 0) 6 ≠ 0 := fun q => h0 (hm6.1.mp (by omega))
          rw [if_neg (fun z => h0 z.2)] at eS
          obtain ⟨σ6, c6, q6, f6⟩ := s_X12_command (t := t) M5
          have ecR := comP_R T (l.length - 1) w p
          have hb := tE_bd hpT
          refine b_X12_runScript_26 (by omega) (fun q => absurd q e60) (fun _ => ?_)
          cases hc : comR T (l.length - 1) w p with
          | inr e =>
            rw [hc] at q6 ecR
            have ecR : comP T (l.length - 1) w p = .inr e := ecR
            rw [ecR] at eS
            have eS : scrP T = .inr e := eS
            obtain ⟨q6, q45⟩ := (q6 : FE e σ6 ∧ σ6.1 (40, 0, 0) 45 = ((l.length - 1 : Nat) : Int))
            refine b_X12_runScript_33 (c6.up (by omega)) (by omega) (by omega) (fun q => by omega) (fun _ => b_X12_runScript_50 ((s_mustSign_f q6).up (by omega)) (b_X12_runScript_56 ((s_closes_f q6 (by omega)).up (by omega)) (bad19 σ6 e _ eS q6 (l5.trans f6))))
          | inl x =>
            rw [hc] at q6 ecR
            obtain ⟨qa, qb⟩ := (q6 : (iC x.1 = 9 → SMr T ((x.1.2.2.2.2.toNat, []) :: l) (m + 1) (w + 1) x.2 σ6 ∧ σ6.1 (40, 0, 0) 45 = (l.length : Int)) ∧ (iC x.1 ≠ 9 → SMr T (adL x.1 l) (m + 1) (w + 1) x.2 σ6 ∧ σ6.1 (40, 0, 0) 45 = ((l.length - 1 : Nat) : Int)))
            by_cases h9 : iC x.1 = 9
            · obtain ⟨M6, q45⟩ := qa h9
              have ec : comP T (l.length - 1) w p = .inl x := ecR.trans (if_pos h9)
              have hge := comP_ge hpT ec
              rw [ec] at eS
              have eS : scrP T = lopS T f ((x.1.2.2.2.2.toNat, []) :: l) (w + 1) x.2 := eS.trans (if_pos h9)
              obtain ⟨σ7, c7, k7, f7⟩ := s_X12_closes (t := t) (f := f) M6 (by omega)
              refine b_X12_runScript_33 (c6.up (by omega)) (by omega) (by omega) (fun _ => b_X12_runScript_56 (c7.up (by omega)) ?_) (fun q => by omega)
              rcases k7 with ⟨f', l', m', p', M7, n7, e7, h7, g7⟩ | ⟨e, e7, q7, -, -⟩
              · exact ih f' l' m' (w + 1) p' σ7 _ (by omega) M7 n7 g7 ((l5.trans f6).trans f7) (eS.trans e7)
              · exact bad19 σ7 e _ (eS.trans e7) q7 ((l5.trans f6).trans f7)
            · obtain ⟨M6, q45⟩ := qb h9
              have ec : comP T (l.length - 1) w p = kdP T x.2 3 (.inl (x.1, tE T x.2)) := ecR.trans (if_neg h9)
              by_cases h3 : tK T x.2 = 3
              · have ec := ec.trans (if_neg (fun z => z h3))
                have hge := comP_ge hpT ec
                rw [ec] at eS
                have eS : scrP T = lopS T f (adL x.1 l) (w + 1) (tE T x.2) := eS.trans (if_neg h9)
                obtain ⟨σ7, c7, t7, g7, f7⟩ := s_mustSign_ok (t := t) (kd := 3) (c := 59) M6.1 M6.2.1 (Or.inl ⟨rfl, rfl⟩) h3
                have M7 := M6.g t7 g7 f7
                have hge2 : p + 2 ≤ tE T x.2 := hge.1
                obtain ⟨σ8, c8, k8, f8⟩ := s_X12_closes (t := t) (f := f) M7 (by omega)
                refine b_X12_runScript_33 (c6.up (by omega)) (by omega) (by omega) (fun q => by omega) (fun _ => b_X12_runScript_50 (c7.up (by omega)) (b_X12_runScript_56 (c8.up (by omega)) ?_))
                rcases k8 with ⟨f', l', m', p', M8, n8, e8, h8, g8⟩ | ⟨e, e8, q8, -, -⟩
                · exact ih f' l' m' (w + 1) p' σ8 _ (by omega) M8 n8 g8 (((l5.trans f6).trans f7.f.sf).trans f8) (eS.trans e8)
                · exact bad19 σ8 e _ (eS.trans e8) q8 (((l5.trans f6).trans f7.f.sf).trans f8)
              · have ec := ec.trans (if_pos h3)
                rw [ec] at eS
                have eS : scrP T = .inr (1, tS T x.2) := eS
                obtain ⟨σ7, c7, q7, f7⟩ := s_mustSign_no (t := t) (kd := 3) (c := 59) M6.1 M6.2.1 (Or.inl ⟨rfl, rfl⟩) h3
                have z45 := (f7.2 45 (by omega)).trans q45
                exact b_X12_runScript_33 (c6.up (by omega)) (by omega) (by omega) (fun q => by omega) (fun _ => b_X12_runScript_50 (c7.up (by omega)) (b_X12_runScript_56 ((s_closes_f q7 (by omega)).up (by omega)) (bad19 σ7 _ _ eS q7 ((l5.trans f6).trans f7.sf))))
  refine key 601 601 [(0, [])] 0 0 0 τ none (Nat.le_refl _) ⟨Q3.1, Q3.2, ⟨by decide, by decide⟩, E3.2.2.2, E3.2.1, E3.2.2.1, by omega, by decide, ⟨0, rfl, rfl⟩⟩ (fun z => absurd z.1 (by decide)) (by omega) (SF.refl _) rfl
