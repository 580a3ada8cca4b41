/-! SCRIPTS: run from beginning to end -/
set_option maxRecDepth 4000
theorem Wp_steps {t : KT} {sz : Nat} (hsz : sz ≤ 30) : ∀ (n : Nat) (dp a b : Nat) (s : List IT) (σ : SG) (X : XS) (x1 : Int) (u5 : Option AV) (Q : RS → Prop), SQ σ n dp a b s → b ≤ sz → σ.1 (4, 0, 0) 3 = (sz : Int) → dp ≤ 2 → RN X σ → (∀ k, k < 31 → KI σ k) → (∀ σ', RN (ruX s X) σ' → KR σ σ' → Q (.inl none, am_hp σ', t)) → Wp k_X11_doSteps (9 - 2 * dp) (3, [some (aR (some (1, 0, 0))), some (aI (iZ x1)), some (aI (iZ ((b : Int)))), some (aI (iZ ((dp : Int)))), some (aI (iZ ((a : Int)))), u5], [], am_hp σ, t) Q
  | 0, dp, a, b, s, σ, X, x1, u5, Q, hq, hb, h3, hdp, hX, hK, hQ => by
    obtain ⟨rfl, rfl⟩ := hq
    exact b_X11_doSteps_3 (by omega) (by omega) (fun _ => b_X11_doSteps_99 (hQ σ hX (KR.refl σ))) (fun q => by omega)
  | n + 1, dp, a, b, s, σ, X, x1, u5, Q, hq, hb, h3, hdp, hX, hK, hQ => by
    rcases hq with ⟨rfl, rfl⟩ | ⟨hab, hq⟩
    · exact b_X11_doSteps_3 (by omega) (by omega) (fun _ => b_X11_doSteps_99 (hQ σ hX (KR.refl σ))) (fun q => by omega)
    refine b_X11_doSteps_3 (by omega) (by omega) (fun q => by omega) (fun _ => ?_)
    refine b_X11_doSteps_9 (by omega) (by omega) (fun q => by omega) (fun _ => ?_)
    have h5 := hX.2.2.2.2.2.1
    by_cases hg : X.2.2.2.2 = true
    · rw [if_pos hg] at h5
      refine b_X11_doSteps_21 (by omega) (fun q => by omega) (fun _ => ?_)
      have hz : ((a : Nat) : Int).toNat = a := Int.toNat_natCast a
      rcases hq with ⟨x, s', i1, i2, i3, rfl, i5⟩ | ⟨tm, e, s1, s2, j1, j2, j3, j4, j5, j6, j7, j8, j9, rfl⟩
      · have en : ¬ (some (91, σ.2.2.2.1 (7, a, 0), 0) : Option Lc) = some (91, 9, 0) := fun z => by
          have z : σ.2.2.2.1 (7, a, 0) = 9 := congrArg (fun o : Option Lc => (o.getD (0, 0, 0)).2.1) z
          have := i1.1
          omega
        refine b_X11_doSteps_31 (by omega) (fun _ => ?_) (fun q => absurd (by rw [hz] at q; exact q) en)
        rw [hz]
        obtain ⟨σ1, c1, g1, k1⟩ := s_X11_doStep (t := t) hX hg i1 i2 (hK a (by omega))
        refine b_X11_doSteps_68 (c1.up (by omega)) ?_
        have e7 : σ1.1 (7, a, 0) 7 = ((a + 1 : Nat) : Int) := by rw [k1.2.1 a 7 (by omega)]; exact i3
        refine b_X11_doSteps_74 (by omega) (by omega) (by rw [hz, e7]; omega) ?_
        rw [hz, e7, show max ((a : Int) + 1) ((a + 1 : Nat) : Int) = ((a + 1 : Nat) : Int) by omega]
        refine Wp_steps hsz n dp (a + 1) b s' σ1 (stX X x) _ _ Q (i5.kr k1) hb (by rw [k1.2.2.2.2.1]; exact h3) hdp g1 (fun k hk => k1.2.2.2.2.2 k (hK k hk)) (fun σ' r k => hQ σ' ?_ (k1.trans k))
        show RN (if X.2.2.2.2 = true then ruX s' (stX X x) else X) σ'
        rw [if_pos hg]
        exact r
      · have en : (some (91, σ.2.2.2.1 (7, a, 0), 0) : Option Lc) = some (91, 9, 0) := by rw [j2]
        refine b_X11_doSteps_31 (by omega) (fun q => absurd (by rw [hz]; exact en) q) (fun _ => ?_)
        rw [hz]
        -- the repeat, on its own
        have lp : ∀ (j i : Nat) (σi : SG), i + j = tm → RN (ruX (rpL s1 i) X) σi → KR σ σi → Wp k_X11_doRepeat (8 - 2 * dp) (9, [some (aR (some (1, 0, 0))), some (aR (some (7, a, 0))), some (aI (iZ (((a + 1 : Nat) : Int)))), some (aI (iZ ((dp : Int)))), some (aI (iZ ((i : Int))))], [], am_hp σi, t) (fun r => ∃ σ2, r = (.inl none, am_hp σ2, t) ∧ RN (ruX (rpL s1 tm) X) σ2 ∧ KR σ σ2) := by
          intro j
          induction j with
          | zero =>
            intro i σi hij hi ki
            have e6 : σi.1 (7, a, 0) 6 = ((tm : Nat) : Int) := by rw [ki.2.1 a 6 (by omega)]; exact j3
            have hi : RN (ruX (rpL s1 tm) X) σi := by
              have : i = tm := by omega
              rw [← this]
              exact hi
            exact b_X11_doRepeat_9 (by omega) (by omega) (fun _ => b_X11_doRepeat_46 ⟨σi, rfl, hi, ki⟩) (fun q => by omega)
          | succ j ih =>
            intro i σi hij hi ki
            have e6 : σi.1 (7, a, 0) 6 = ((tm : Nat) : Int) := by rw [ki.2.1 a 6 (by omega)]; exact j3
            refine b_X11_doRepeat_9 (by omega) (by omega) (fun q => by omega) (fun _ => ?_)
            have h5i := hi.2.2.2.2.2.1
            by_cases hgi : (ruX (rpL s1 i) X).2.2.2.2 = true
            · rw [if_pos hgi] at h5i
              refine b_X11_doRepeat_18 (by omega) (fun q => by omega) (fun _ => ?_)
              have e7 : σi.1 (7, a, 0) 7 = ((e : Nat) : Int) := by rw [ki.2.1 a 7 (by omega)]; exact j5
              have hc : ∃ σ2, Ca (8 - 2 * dp) 163 [aR (some (1, 0, 0)), aI (iZ (((a + 1 : Nat) : Int))), aI (iZ (((e : Nat) : Int))), aI (iZ (((dp + 1 : Nat) : Int)))] (am_hp σi) t (.inl none, am_hp σ2, t) ∧ RN (ruX s1 (ruX (rpL s1 i) X)) σ2 ∧ KR σi σ2 := by
                have w := Wp_steps (t := t) hsz n (dp + 1) (a + 1) e s1 σi (ruX (rpL s1 i) X) ((a + 1 : Nat) : Int) none (fun r => ∃ σ2, r = (.inl none, am_hp σ2, t) ∧ RN (ruX s1 (ruX (rpL s1 i) X)) σ2 ∧ KR σi σ2) (j8.kr ki) (by omega) (by rw [ki.2.2.2.2.1]; exact h3) (by omega) hi (fun k hk => ki.2.2.2.2.2 k (hK k hk)) (fun σ' r k => ⟨σ', rfl, r, k⟩)
                have w0 := e_X11_doSteps (b_X11_doSteps_0 w)
                rw [show 9 - 2 * (dp + 1) + 1 = 8 - 2 * dp by omega] at w0
                exact ex_of w0
              obtain ⟨σ2, c2, g2, k2⟩ := hc
              refine b_X11_doRepeat_28 (σ1 := σ2) (by rw [e7]; exact c2) ?_
              have k02 := ki.trans k2
              have g3 : RN (ruX (rpL s1 (i + 1)) X) σ2 := by
                rw [rpL_add, ruX_app, rpL_1]
                exact g2
              exact ih (i + 1) σ2 (by omega) g3 k02
            · rw [if_neg hgi] at h5i
              refine b_X11_doRepeat_18 (by omega) (fun _ => b_X11_doRepeat_46 ⟨σi, rfl, ?_, ki⟩) (fun q => by omega)
              rw [show tm = i + (j + 1) by omega, rpL_add, ruX_app, ruX_no _ hgi]
              exact hi
        have hr : ∃ σ2, Ca (9 - 2 * dp) 164 [aR (some (1, 0, 0)), aR (some (7, a, 0)), aI (iZ (((a + 1 : Nat) : Int))), aI (iZ ((dp : Int)))] (am_hp σ) t (.inl none, am_hp σ2, t) ∧ RN (ruX (rpL s1 tm) X) σ2 ∧ KR σ σ2 := by
          have w0 := e_X11_doRepeat (b_X11_doRepeat_0 (by omega) (fun _ => b_X11_doRepeat_6 (lp tm 0 σ (by omega) hX (KR.refl σ))) (fun q => by omega))
          rw [show 8 - 2 * dp + 1 = 9 - 2 * dp by omega] at w0
          exact ex_of w0
        obtain ⟨σi, ci, hi, ki⟩ := hr
        refine b_X11_doSteps_54 (σ1 := σi) ci ?_
        -- behind the repeat
        have e7 : σi.1 (7, a, 0) 7 = ((e : Nat) : Int) := by rw [ki.2.1 a 7 (by omega)]; exact j5
        refine b_X11_doSteps_74 (by omega) (by omega) (by rw [hz, e7]; omega) ?_
        rw [hz, e7, show max ((a : Int) + 1) ((e : Nat) : Int) = ((e : Nat) : Int) by omega]
        refine Wp_steps hsz n dp e b s2 σi _ _ _ Q (j9.kr ki) hb (by rw [ki.2.2.2.2.1]; exact h3) hdp hi (fun k hk => ki.2.2.2.2.2 k (hK k hk)) (fun σ' r k => hQ σ' ?_ (ki.trans k))
        rw [ruX_app]
        exact r
    · rw [if_neg hg] at h5
      refine b_X11_doSteps_21 (by omega) (fun _ => b_X11_doSteps_99 (hQ σ ?_ (KR.refl σ))) (fun q => by omega)
      rw [ruX_no s hg]
      exact hX
theorem s_X11_doSteps {t : KT} {σ : SG} {X : XS} {n b : Nat} {s : List IT} (hq : SQ σ n 0 0 b s) (hb : b ≤ 30) (h3 : σ.1 (4, 0, 0) 3 = (b : Int)) (hX : RN X σ) (hK : ∀ k, k < 31 → KI σ k) : ∃ σ', Ca 10 163 [aR (some (1, 0, 0)), aI (iZ 0), aI (iZ ((b : Int))), aI (iZ 0)] (am_hp σ) t (.inl none, am_hp σ', t) ∧ RN (ruX s X) σ' ∧ KR σ σ' := by
  have w := Wp_steps (t := t) hb n 0 0 b s σ X 0 none (fun r => ∃ σ2, r = (.inl none, am_hp σ2, t) ∧ RN (ruX s X) σ2 ∧ KR σ σ2) hq (Nat.le_refl _) h3 (by omega) hX hK (fun σ' r k => ⟨σ', rfl, r, k⟩)
  exact ex_of (e_X11_doSteps (b_X11_doSteps_0 w))
def A_runScript (S : SS) : RZ × SS := match scrP (xT S) with
  | .inr e => (.inr 1, (S.1, S.2.1, S.2.2.1, S.2.2.2.1, S.2.2.2.2.1, ((xT S).1, 0), ((e.1 : Int), (e.2 : Int)), xR S))
  | .inl s => (.inl ((ruX s (xA S, xC S, xL S, 0, true)).2.2.2.1 : Int), ((ruX s (xA S, xC S, xL S, 0, true)).1, S.2.1, (xA S :: xP S).take 6, (ruX s (xA S, xC S, xL S, 0, true)).2.1, (ruX s (xA S, xC S, xL S, 0, true)).2.2.1, ((xT S).1, 0), (0, -1), xR S))
/-- what a run of a script changes -/
def inRu (L : Lc) : Prop := L.1 = 15 ∨ (8 ≤ L.1 ∧ L.1 ≤ 13 ∧ L.2.1 ≠ 2) ∨ (18 ≤ L.1 ∧ L.1 ≤ 24) ∨ (27 ≤ L.1 ∧ L.1 ≤ 30) ∨ L.1 = 1 ∨ L.1 = 4 ∨ L.1 = 7 ∨ L.1 = 2 ∨ L.1 = 6
theorem CS.run {S : SS} {σ σ' : SG} {A : RA} {l : List RA} {cn : Nat → Int} {V : Int} {T : TB} {e : Int × Int} (h : CS S σ) (f : Fr inRu σ σ') (w : CW A σ') (hs : HS l σ') (hc : ∀ j, j < 4 → σ'.1 (27, 0, 0) j = cn j) (hL : σ'.1 (1, 0, 0) 11 = V) (h13 : σ'.1 (1, 0, 0) 12 = σ.1 (1, 0, 0) 12) (hT : TX T σ') (e5 : σ'.1 (2, 0, 0) 5 = e.1) (e6 : σ'.1 (2, 0, 0) 6 = e.2) (hK : ∀ k, k < 31 → KI σ' k) : CS (A, xV S, l, cn, V, T, e, xR S) σ' := by
  obtain ⟨h1, h2, h3, h4, h5, h6, h7, h8⟩ := h
  refine ⟨w, ?_, hs, hc, hL, ⟨hT, e5, e6⟩, h7.fr f (by unfold inRu; omega) (by unfold inRu; omega), hK⟩
  show SV (xV S) σ'
  cases hv : xV S with
  | none =>
    rw [hv] at h2
    have h2 : σ.1 (1, 0, 0) 12 = 0 := h2
    show σ'.1 (1, 0, 0) 12 = 0
    rw [h13, h2]
  | some B =>
    rw [hv] at h2
    obtain ⟨a, b, c⟩ := h2
    exact ⟨by rw [h13]; exact a, b, c.fr f (fun L hL q => by unfold inR at hL; unfold inRu at q; omega)⟩
theorem s_X11_runScript {t : KT} {σ : SG} {S : SS} (h : CS S σ) : ∃ σ', Ca 11 92 [aR (some (1, 0, 0))] (am_hp σ) t (reI 1 1 σ' t ((A_runScript S).1)) ∧ CS (A_runScript S).2 σ' ∧ Fr inCl σ σ' := by
  refine rx_of (R := fun σ' => reI 1 1 σ' t (A_runScript S).1) (e_X11_runScript ?_)
  refine wq (fun Q hQ => ?_)
  obtain ⟨σ1, c1, g1, f1⟩ := s_X8_readFrom (t := t) h.2.2.2.2.2.1.1 h.2.2.2.2.2.2.2
  have fb : Fr inTx σ1 (sI σ1 (2, 0, 0) (up (σ1.1 (2, 0, 0)) 1 0)) := Fr.sI rfl
  have mSk : ∀ L, inSk L → inRu L := fun L q => by unfold inSk at q; unfold inRu; omega
  have mTx : ∀ L, inTx L → inRu L := fun L q => by
    have : L = (2, 0, 0) := q
    subst this
    unfold inRu
    omega
  have fS : Fr inRu σ (sI σ1 (2, 0, 0) (up (σ1.1 (2, 0, 0)) 1 0)) := (f1.mono mSk).trans (fb.mono mTx)
  have mCl : ∀ L, inRu L → inCl L := fun L q => by unfold inRu at q; unfold inCl; omega
  have n7 : ∀ k : Nat, ¬ inTx (7, k, 0) := fun k q => absurd (show (7 : Nat) = 2 from congrArg (fun L : Lc => L.1) q) (by decide)
  have fSk : Fr (fun L => L.1 = 2 ∨ L.1 = 4 ∨ L.1 = 6 ∨ L.1 = 7) σ (sI σ1 (2, 0, 0) (up (σ1.1 (2, 0, 0)) 1 0)) := (f1.mono (fun L q => by unfold inSk at q; omega)).trans (fb.mono (fun L q => by
    have : L = (2, 0, 0) := q
    subst this
    omega))
  have W0 : CW (xA S) (sI σ1 (2, 0, 0) (up (σ1.1 (2, 0, 0)) 1 0)) := h.1.fr fSk (fun L hL q => by unfold inR at hL; omega)
  have H0 : HS (xP S) (sI σ1 (2, 0, 0) (up (σ1.1 (2, 0, 0)) 1 0)) := h.2.2.1.fr2 fSk (fun L hL q => by omega)
  have C0 : ∀ j, j < 4 → (sI σ1 (2, 0, 0) (up (σ1.1 (2, 0, 0)) 1 0)).1 (27, 0, 0) j = xC S j := fun j hj => by rw [(fSk.1 (27, 0, 0) (by omega)).1]; exact h.2.2.2.1 j hj
  have L0 := (fSk.1 (1, 0, 0) (by omega)).1
  unfold A_runScript at hQ
  cases hs : scrP (xT S) with
  | inr e =>
    rw [hs] at c1 g1 hQ
    obtain ⟨⟨T1, e5, e6⟩, K1⟩ := g1
    have hC := h.run (e := ((e.1 : Int), (e.2 : Int))) (V := xL S) fS W0 H0 C0 (by rw [L0]; exact h.2.2.2.2.1) (by rw [L0]) (txcut T1) (by simp [sI_1, up_at, e5]) (by simp [sI_1, up_at, e6]) (fun k hk => (K1 k hk).fr fb (n7 k))
    exact b_X11_runScript_0 (c1.up (by omega)) (by simp [bO]) (fun q => absurd rfl q) (fun _ => b_X11_runScript_24 (hQ _ ⟨_, rfl, hC, fS.mono mCl⟩))
  | inl s =>
    rw [hs] at c1 g1 hQ
    obtain ⟨⟨n, m, hm30, hm, hq⟩, T1, K1, e5, e6⟩ := g1
    refine b_X11_runScript_0 (c1.up (by omega)) (by simp [bO]) (fun _ => ?_) (fun q => absurd q (by simp [bO]))
    have Tc := txcut T1
    have hq1 : SQ (sI σ1 (2, 0, 0) (up (σ1.1 (2, 0, 0)) 1 0)) n 0 0 m s := hq.cong (fun k _ _ => by
      have := fb.1 (7, k, 0) (n7 k)
      exact ⟨this.1, this.2.1, this.2.2⟩)
    have K1' : ∀ k, k < 31 → KI (sI σ1 (2, 0, 0) (up (σ1.1 (2, 0, 0)) 1 0)) k := fun k hk => (K1 k hk).fr fb (n7 k)
    have m3 : (sI σ1 (2, 0, 0) (up (σ1.1 (2, 0, 0)) 1 0)).1 (4, 0, 0) 3 = (m : Int) := by simp [sI_1, hm]
    have e5' : (sI σ1 (2, 0, 0) (up (σ1.1 (2, 0, 0)) 1 0)).1 (2, 0, 0) 5 = 0 := by simp [sI_1, up_at, e5]
    have e6' : (sI σ1 (2, 0, 0) (up (σ1.1 (2, 0, 0)) 1 0)).1 (2, 0, 0) 6 = -1 := by simp [sI_1, up_at, e6]
    generalize hS1 : (sI σ1 (2, 0, 0) (up (σ1.1 (2, 0, 0)) 1 0)) = τ at fS W0 H0 C0 L0 Tc hq1 K1' m3 e5' e6' ⊢
    obtain ⟨σ2, c2, g2, f2⟩ := s_X3_keep (t := t) H0 W0.1 W0.2.1
    have nH : ∀ L : Lc, ¬ (L.1 = 15 ∨ (8 ≤ L.1 ∧ L.1 ≤ 13 ∧ 3 ≤ L.2.1)) → ¬ inH L := fun L a q => a (inH_c q)
    have f4 : Fr (fun L : Lc => L.1 = 4) σ2 (sI (sI σ2 (4, 0, 0) (up (σ2.1 (4, 0, 0)) 4 0)) (4, 0, 0) (up ((sI σ2 (4, 0, 0) (up (σ2.1 (4, 0, 0)) 4 0)).1 (4, 0, 0)) 5 1)) := (Fr.sI (P := fun L : Lc => L.1 = 4) rfl).trans (Fr.sI (P := fun L : Lc => L.1 = 4) rfl)
    have k4 : KR σ2 (sI (sI σ2 (4, 0, 0) (up (σ2.1 (4, 0, 0)) 4 0)) (4, 0, 0) (up ((sI σ2 (4, 0, 0) (up (σ2.1 (4, 0, 0)) 4 0)).1 (4, 0, 0)) 5 1)) := (KR.s4 (by omega)).trans (KR.s4 (by omega))
    have R2 := W0.2.1.fr f2 (fun L hL => nH L (by unfold inR at hL; omega))
    have X2 : RN (xA S, xC S, xL S, 0, true) (sI (sI σ2 (4, 0, 0) (up (σ2.1 (4, 0, 0)) 4 0)) (4, 0, 0) (up ((sI σ2 (4, 0, 0) (up (σ2.1 (4, 0, 0)) 4 0)).1 (4, 0, 0)) 5 1)) := by
      refine ⟨W0.1, R2.fr f4 (fun L hL q => by unfold inR at hL; omega), fun j hj => ?_, ?_, ?_, ?_, fun _ => by show 0 < 40; omega, by show 0 ≤ 40; omega⟩
      · rw [(f4.1 (27, 0, 0) (by omega)).1, (f2.1 (27, 0, 0) (nH _ (by omega))).1]; exact C0 j hj
      · rw [(f4.1 (1, 0, 0) (by omega)).1, (f2.1 (1, 0, 0) (nH _ (by omega))).1, L0]; exact h.2.2.2.2.1
      · simp [sI_1, up_at]
      · simp [sI_1, up_at]
    have h3 : (sI (sI σ2 (4, 0, 0) (up (σ2.1 (4, 0, 0)) 4 0)) (4, 0, 0) (up ((sI σ2 (4, 0, 0) (up (σ2.1 (4, 0, 0)) 4 0)).1 (4, 0, 0)) 5 1)).1 (4, 0, 0) 3 = (m : Int) := by
      rw [k4.2.2.2.2.1, (f2.1 (4, 0, 0) (nH _ (by omega))).1, m3]
    have K2 : ∀ k, k < 31 → KI σ2 k := fun k hk => (K1' k hk).fr f2 (nH _ (by omega))
    have q2 : SQ σ2 n 0 0 m s := hq1.cong (fun k _ _ => by
      have := f2.1 (7, k, 0) (nH _ (by omega))
      exact ⟨this.1, this.2.1, this.2.2⟩)
    have blk := fun y σ3 σ4 => b_X11_runScript_32 (x1 := y) (Q := Q) (t := t) (d := 10) (σ := τ) (σ1 := σ2) (σ2 := σ3) (σ3 := σ4)
    generalize hS2 : (sI (sI σ2 (4, 0, 0) (up (σ2.1 (4, 0, 0)) 4 0)) (4, 0, 0) (up ((sI σ2 (4, 0, 0) (up (σ2.1 (4, 0, 0)) 4 0)).1 (4, 0, 0)) 5 1)) = σb at f4 k4 X2 h3 blk
    obtain ⟨σ3, c3, g3, k3⟩ := s_X11_doSteps (t := t) (q2.kr k4) hm30 h3 X2 (fun k hk => k4.2.2.2.2.2 k (K2 k hk))
    obtain ⟨σ4, c4, g4, f5⟩ := s_X11_packRows (t := t) g3.1 g3.2.1
    have npk : ∀ L : Lc, ¬ ((18 ≤ L.1 ∧ L.1 ≤ 24) ∨ (28 ≤ L.1 ∧ L.1 ≤ 30)) → ¬ inPkw L := fun L a q => a (by unfold inPkw inP at q; omega)
    have fR : Fr inRu τ σ4 := (((f2.mono (fun L q => by have := inH_c q; unfold inRu; omega)).trans (k4.1.mono (fun L q => by unfold inRn inR at q; unfold inRu; omega))).trans (k3.1.mono (fun L q => by unfold inRn inR at q; unfold inRu; omega))).trans (f5.mono (fun L q => by unfold inPkw inP at q; unfold inRu; omega))
    have k43 := k4.trans k3
    have n3 : ∀ L : Lc, ¬ (inR 0 L ∨ L.1 = 27 ∨ L.1 = 1 ∨ L.1 = 4 ∨ L.1 = 7) → ¬ inRn L := fun L a q => a q
    have H4 := (g2.fr2 k43.1 (fun L hL => n3 L (by unfold inR; omega))).fr2 f5 (fun L hL => npk L (by omega))
    have T2 := ((Tc.fr f2 (nH _ (by omega)) (nH _ (by omega))).fr k43.1 (n3 _ (by unfold inR; omega)) (n3 _ (by unfold inR; omega))).fr f5 (npk _ (by omega)) (npk _ (by omega))
    have e2 : σ4.1 (2, 0, 0) = τ.1 (2, 0, 0) := by rw [(f5.1 (2, 0, 0) (npk _ (by omega))).1, (k43.1.1 (2, 0, 0) (n3 _ (by unfold inR; omega))).1, (f2.1 (2, 0, 0) (nH _ (by omega))).1]
    have e1 : σ4.1 (1, 0, 0) = σ3.1 (1, 0, 0) := (f5.1 (1, 0, 0) (npk _ (by omega))).1
    have hC := h.run (e := (0, -1)) (V := (ruX s (xA S, xC S, xL S, 0, true)).2.2.1) (cn := (ruX s (xA S, xC S, xL S, 0, true)).2.1) (fS.trans fR) g4 H4 (fun j hj => by rw [(f5.1 (27, 0, 0) (npk _ (by omega))).1]; exact g3.2.2.1 j hj) (by rw [e1]; exact g3.2.2.2.1) (by rw [e1, k43.2.2.2.1, (f2.1 (1, 0, 0) (nH _ (by omega))).1, L0]) T2 (by rw [e2]; exact e5') (by rw [e2]; exact e6') (fun k hk => (k43.2.2.2.2.2 k (K2 k hk)).fr f5 (npk _ (by omega)))
    refine blk _ σ3 σ4 (c2.up (by omega)) (by rw [h3]; exact c3.up (by omega)) (c4.up (by omega)) (hQ _ ⟨σ4, ?_, hC, (fS.trans fR).mono mCl⟩)
    rw [(f5.1 (4, 0, 0) (npk _ (by omega))).1, g3.2.2.2.2.1]
    rfl
