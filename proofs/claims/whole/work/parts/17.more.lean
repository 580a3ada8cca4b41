/-! COUNTS GROW; HANDLERS; new int[4][60] -/
theorem mo_ldi (i len : Nat) : am_mon (o_ldi i len) := by
  intro c c' h
  unfold o_ldi at h
  repeat' split at h
  all_goals first | (cases h; exact ⟨Nat.le_refl _, Nat.le_refl _⟩) | (cases h; done)
theorem mo_ldl (i len : Nat) : am_mon (o_ldl i len) := by
  intro c c' h
  unfold o_ldl at h
  repeat' split at h
  all_goals first | (cases h; exact ⟨Nat.le_refl _, Nat.le_refl _⟩) | (cases h; done)
theorem mo_ldd (i len : Nat) : am_mon (o_ldd i len) := by
  intro c c' h
  unfold o_ldd at h
  repeat' split at h
  all_goals first | (cases h; exact ⟨Nat.le_refl _, Nat.le_refl _⟩) | (cases h; done)
theorem mo_lda (i len : Nat) : am_mon (o_lda i len) := by
  intro c c' h
  unfold o_lda at h
  repeat' split at h
  all_goals first | (cases h; exact ⟨Nat.le_refl _, Nat.le_refl _⟩) | (cases h; done)
theorem mo_sti (i len : Nat) : am_mon (o_sti i len) := by
  intro c c' h
  unfold o_sti at h
  repeat' split at h
  all_goals first | (cases h; exact ⟨Nat.le_refl _, Nat.le_refl _⟩) | (cases h; done)
theorem mo_stl (i len : Nat) : am_mon (o_stl i len) := by
  intro c c' h
  unfold o_stl at h
  repeat' split at h
  all_goals first | (cases h; exact ⟨Nat.le_refl _, Nat.le_refl _⟩) | (cases h; done)
theorem mo_std (i len : Nat) : am_mon (o_std i len) := by
  intro c c' h
  unfold o_std at h
  repeat' split at h
  all_goals first | (cases h; exact ⟨Nat.le_refl _, Nat.le_refl _⟩) | (cases h; done)
theorem mo_sta (i len : Nat) : am_mon (o_sta i len) := by
  intro c c' h
  unfold o_sta at h
  repeat' split at h
  all_goals first | (cases h; exact ⟨Nat.le_refl _, Nat.le_refl _⟩) | (cases h; done)
theorem mo_inc (i : Nat) (n : Int32) : am_mon (o_inc i n) := by
  intro c c' h
  unfold o_inc at h
  repeat' split at h
  all_goals first | (cases h; exact ⟨Nat.le_refl _, Nat.le_refl _⟩) | (cases h; done)
theorem mo_ial  : am_mon (o_ial ) := by
  intro c c' h
  unfold o_ial at h
  repeat' split at h
  all_goals first | (cases h; exact ⟨Nat.le_refl _, Nat.le_refl _⟩) | (cases h; done)
theorem mo_bal  : am_mon (o_bal ) := by
  intro c c' h
  unfold o_bal at h
  repeat' split at h
  all_goals first | (cases h; exact ⟨Nat.le_refl _, Nat.le_refl _⟩) | (cases h; done)
theorem mo_lal  : am_mon (o_lal ) := by
  intro c c' h
  unfold o_lal at h
  repeat' split at h
  all_goals first | (cases h; exact ⟨Nat.le_refl _, Nat.le_refl _⟩) | (cases h; done)
theorem mo_dal  : am_mon (o_dal ) := by
  intro c c' h
  unfold o_dal at h
  repeat' split at h
  all_goals first | (cases h; exact ⟨Nat.le_refl _, Nat.le_refl _⟩) | (cases h; done)
theorem mo_aal (ty : Nat) : am_mon (o_aal ty) := by
  intro c c' h
  unfold o_aal at h
  repeat' split at h
  all_goals first | (cases h; exact ⟨Nat.le_refl _, Nat.le_refl _⟩) | (cases h; done)
theorem mo_aa8  : am_mon (o_aa8 ) := by
  intro c c' h
  unfold o_aa8 at h
  repeat' split at h
  all_goals first | (cases h; exact ⟨Nat.le_refl _, Nat.le_refl _⟩) | (cases h; done)
theorem mo_alen  : am_mon (o_alen ) := by
  intro c c' h
  unfold o_alen at h
  repeat' split at h
  all_goals first | (cases h; exact ⟨Nat.le_refl _, Nat.le_refl _⟩) | (cases h; done)
theorem mo_get (ci k : Nat) : am_mon (o_get ci k) := by
  intro c c' h
  unfold o_get at h
  repeat' split at h
  all_goals first | (cases h; exact ⟨Nat.le_refl _, Nat.le_refl _⟩) | (cases h; done)
theorem mo_fmt  : am_mon (o_fmt ) := by
  intro c c' h
  unfold o_fmt at h
  repeat' split at h
  all_goals first | (cases h; exact ⟨Nat.le_refl _, Nat.le_refl _⟩) | (cases h; done)
theorem mo_put (ci k : Nat) (ty : FieldType) : am_mon (o_put ci k ty) := by
  intro c c' h
  unfold o_put at h
  repeat' split at h
  all_goals first | (cases h; exact ⟨Nat.le_refl _, Nat.le_refl _⟩) | (cases h; done)
theorem mo_ias  : am_mon (o_ias ) := by
  intro c c' h
  unfold o_ias at h
  repeat' split at h
  all_goals first | (cases h; exact ⟨Nat.le_refl _, Nat.le_refl _⟩) | (cases h; done)
theorem mo_bas  : am_mon (o_bas ) := by
  intro c c' h
  unfold o_bas at h
  repeat' split at h
  all_goals first | (cases h; exact ⟨Nat.le_refl _, Nat.le_refl _⟩) | (cases h; done)
theorem mo_las  : am_mon (o_las ) := by
  intro c c' h
  unfold o_las at h
  repeat' split at h
  all_goals first | (cases h; exact ⟨Nat.le_refl _, Nat.le_refl _⟩) | (cases h; done)
theorem mo_das  : am_mon (o_das ) := by
  intro c c' h
  unfold o_das at h
  repeat' split at h
  all_goals first | (cases h; exact ⟨Nat.le_refl _, Nat.le_refl _⟩) | (cases h; done)
theorem mo_aas (ty ci : Nat) : am_mon (o_aas ty ci) := by
  intro c c' h
  unfold o_aas at h
  repeat' split at h
  all_goals first | (cases h; exact ⟨Nat.le_refl _, Nat.le_refl _⟩) | (cases h; done)
theorem mo_cpi  : am_mon (o_cpi ) := by
  intro c c' h
  unfold o_cpi at h
  repeat' split at h
  all_goals first | (cases h; exact ⟨Nat.le_refl _, Nat.le_refl _⟩) | (cases h; done)
theorem mo_cpl  : am_mon (o_cpl ) := by
  intro c c' h
  unfold o_cpl at h
  repeat' split at h
  all_goals first | (cases h; exact ⟨Nat.le_refl _, Nat.le_refl _⟩) | (cases h; done)
theorem mo_max  : am_mon (o_max ) := by
  intro c c' h
  unfold o_max at h
  repeat' split at h
  all_goals first | (cases h; exact ⟨Nat.le_refl _, Nat.le_refl _⟩) | (cases h; done)
theorem mo_min  : am_mon (o_min ) := by
  intro c c' h
  unfold o_min at h
  repeat' split at h
  all_goals first | (cases h; exact ⟨Nat.le_refl _, Nat.le_refl _⟩) | (cases h; done)
theorem mo_acq (t : Nat) : am_mon (o_acq t) := by
  intro c c' h
  unfold o_acq at h
  repeat' split at h
  all_goals first | (cases h; exact ⟨Nat.le_refl _, Nat.le_refl _⟩) | (cases h; done)
theorem mo_acn (t : Nat) : am_mon (o_acn t) := by
  intro c c' h
  unfold o_acn at h
  repeat' split at h
  all_goals first | (cases h; exact ⟨Nat.le_refl _, Nat.le_refl _⟩) | (cases h; done)
theorem mo_nnl (t : Nat) : am_mon (o_nnl t) := by
  intro c c' h
  unfold o_nnl at h
  repeat' split at h
  all_goals first | (cases h; exact ⟨Nat.le_refl _, Nat.le_refl _⟩) | (cases h; done)
theorem mo_obi  : am_mon (o_obi ) := by
  intro c c' h
  unfold o_obi at h
  repeat' split at h
  all_goals first | (cases h; exact ⟨Nat.le_refl _, Nat.le_refl _⟩) | (cases h; done)
theorem mo_stk (f : Nat → List AV → Option (Nat × List AV)) : am_mon (o_stk f) := by
  intro c c' h
  unfold o_stk at h
  repeat' split at h
  all_goals first | (cases h; exact ⟨Nat.le_refl _, Nat.le_refl _⟩) | (cases h; done)
theorem mo_new (ci N : Nat) (fs : List AV) : am_mon (o_new ci N fs) := by
  intro c c' h
  cases h
  exact ⟨Nat.le_succ _, Nat.le_add_right _ _⟩
theorem mo_nea (ty len : Nat) : am_mon (o_nea ty len) := by
  intro c c' h
  unfold o_nea at h
  repeat' split at h
  all_goals first | (cases h; exact ⟨Nat.le_succ _, Nat.le_add_right _ _⟩) | (cases h; done)
theorem mo_ret (ty : FieldType) : am_monF (o_ret ty) := by
  intro c c' h
  unfold o_ret at h
  repeat' split at h
  all_goals first | (cases h; exact ⟨Nat.le_refl _, Nat.le_refl _⟩) | (cases h; done)
theorem mo_retv : am_monF o_retv := by
  intro c c' h
  unfold o_retv at h
  repeat' split at h
  all_goals first | (cases h; exact ⟨Nat.le_refl _, Nat.le_refl _⟩) | (cases h; done)
theorem mo_thr (E : Nat) : am_monF (o_thr E) := by
  intro c c' h
  unfold o_thr at h
  repeat' split at h
  all_goals first | (cases h; exact ⟨Nat.le_succ _, Nat.le_add_right _ _⟩) | (cases h; done)
/-- an exception that the caller's first fitting entry catches: 'pre' are the entries ahead of it -/
theorem ok_catch {own mn : String} {cc : ByteArray} {pc i E ip2 : Nat} {hh : List (Nat × Nat × Nat × Nat)} (pre suf : List (Nat × Nat × Nat × Nat)) (x : Nat × Nat × Nat × Nat) (hs : hh = pre ++ x :: suf)
    (hpre : ∀ z ∈ pre, z.2.2.2 ≠ 0 ∧ ∃ b, b < 3 ∧ b ≠ E ∧ Cond.classLink own z.2.2.2 (am_exn b) ∈ am_G) (hE : E < 3) (hx : covers ⟨x.1, x.2.1, x.2.2.1, x.2.2.2⟩ pc = true) (h0 : x.2.2.2 ≠ 0) (w1 : Cond.classLink own x.2.2.2 (am_exn E) ∈ am_G) (w2 : Cond.castable (am_exn E) (am_exn E) ∈ am_NW)
    (hst : (∃ k : Fin 4, (k : Nat) = i ∧ decode cc x.2.2.1 = .ok (.astore_n k, 1) ∧ ip2 = x.2.2.1 + 1) ∨ (decode cc x.2.2.1 = .ok (.astore i, 2) ∧ ip2 = x.2.2.1 + 2)) : am_hk own mn cc pc hh E (some (some (ip2, i))) := by
  intro p l e R s m args below meth c nL A D dA cad xl Q X htb ls h n0 tn ad0 ad H locs ls' k n rest q ce hi I hce hcv hcl kk
  have hL := I.2.2.2.1
  have e1 : c.exceptionTable.toList = tableOf pre ++ ⟨x.1, x.2.1, x.2.2.1, x.2.2.2⟩ :: tableOf suf := by
    rw [htb, hs]
    simp [tableOf]
  refine vx_catch X.2.2.2.1 (tableOf pre) ⟨x.1, x.2.1, x.2.2.1, x.2.2.2⟩ (tableOf suf) e1 (fun z hz => ?_) hx h0 (X.2.2.2.2.1 _ w1) (va_Nw.use rfl (X.2.2.2.2.2.2.2.2.2.2.2.1.1 _ w2)) hce hcv hcl ?_
  · unfold tableOf at hz
    rw [List.mem_map] at hz
    obtain ⟨z', hz', rfl⟩ := hz
    obtain ⟨a1, b, hb, hbE, a2⟩ := hpre z' hz'
    exact Or.inr ⟨a1, am_exn b, X.2.2.2.2.1 _ a2, X.2.2.2.2.2.2.2.2.2.2.2.1.2 E b hE hb (Ne.symm hbE)⟩
  · rcases hst with ⟨f, hf, hd, hp⟩ | ⟨hd, hp⟩
    · rw [hp] at kk
      exact lv_astore_n X.1 X.2.1 hd hf (am_prs_has hL) (by rw [← hL.2.1]; exact hi) rfl (fun ls'' h2 => kk ls'' (by
        obtain ⟨i1, i2, i3, i4, i5, i6, i9⟩ := I
        exact ⟨i1, i2, i3, am_cleared hL h2, i5, fun j w hw => i6 j w (am_clr_at hw).2.1, i9⟩))
    · rw [hp] at kk
      exact lv_astore X.1 X.2.1 hd (am_prs_has hL) (by rw [← hL.2.1]; exact hi) rfl (fun ls'' h2 => kk ls'' (by
        obtain ⟨i1, i2, i3, i4, i5, i6, i9⟩ := I
        exact ⟨i1, i2, i3, am_cleared hL h2, i5, fun j w hw => i6 j w (am_clr_at hw).2.1, i9⟩))
theorem am_al_iff {i j : Nat} : am_al i = am_al j ↔ i = j := ⟨am_al_inj, fun e => by rw [e]⟩
theorem am_not90 {L : Lc} {i : Nat} (h : 90 ≤ L.1) : ¬ L = am_al i := fun e => by
  have := am_al_lt i
  rw [← e] at this
  omega
def am_ad5 (ad : Lc → Nat) (n q : Nat) (rr : Nat → Nat) : Lc → Nat := fun L => if L = am_al n then q else if L = am_al (n + 1) then rr 0 else if L = am_al (n + 2) then rr 1 else if L = am_al (n + 3) then rr 2 else if L = am_al (n + 4) then rr 3 else ad L
def am_row4 (n : Nat) : Nat → Option Lc := fun j => if j < 4 then some (am_al (n + 1 + j)) else none
def o_mna : CF → Option CF := fun c => match c.2.2.1 with
  | .inl k :: .inl n :: r => if n = 4 ∧ k = 60 then some (c.1 + 4, c.2.1, aR (some (am_al c.2.2.2.2.1)) :: r, am_uh (am_uh (am_uh (am_uh (am_uh c.2.2.2.1 (am_al c.2.2.2.2.1) (.inl (7, 4, .inr (.inr (.inr (am_row4 c.2.2.2.2.1)))))) (am_al (c.2.2.2.2.1 + 1)) (.inl (0, 60, .inl (fun _ => 0)))) (am_al (c.2.2.2.2.1 + 2)) (.inl (0, 60, .inl (fun _ => 0)))) (am_al (c.2.2.2.2.1 + 3)) (.inl (0, 60, .inl (fun _ => 0)))) (am_al (c.2.2.2.2.1 + 4)) (.inl (0, 60, .inl (fun _ => 0))), (c.2.2.2.2.1 + 5, c.2.2.2.2.2.1 + 5, c.2.2.2.2.2.2 + 244)) else none
  | _ => none
theorem mo_mna : am_mon o_mna := by
  intro c c' h
  unfold o_mna at h
  repeat' split at h
  all_goals first | (cases h; exact ⟨Nat.le_add_right _ _, Nat.le_add_right _ _⟩) | (cases h; done)
theorem ok_mna {own mn : String} {cc : ByteArray} {pc idx : Nat} (d : decode cc pc = .ok (.multianewarray idx 2, 4)) (w1 : Cond.classLink own idx ("[" ++ (FieldType.array .int).toString) ∈ am_G) (w2 : Cond.arrayOver (.array .int) ∈ am_NW) (w3 : Cond.arrayClass .int ∈ am_G) : am_ok own mn cc pc o_mna := by
  intro p l e R s m args below meth c nL A D dA cad xl Q X ls st h t c' hg hRf hRl n0 ad0 ad H locs ls' k' n c0 s0 I hk' hn hc hs kk
  unfold o_mna at hg
  split at hg
  · rename_i k0 n1 r hst
    dsimp only at hst hg
    subst hst
    split at hg
    · rename_i hq
      obtain ⟨rfl, rfl⟩ := hq
      cases hg
      dsimp only at hc hs kk
      have hcy : s.vm.findClass (FieldType.array .int).toString = some (dA 0) := (X.2.2.2.2.2.2.2.2.1.2 0 _ (am_tys_at dA (by decide))).2
      have hP0 : va_P D vwCl (am_W dA ad t.1 h ++ va_pl [] (fun _ => .inr (0, []))) H := by
        show va_P D vwCl (am_W dA ad t.1 h ++ []) H
        rw [List.append_nil]
        exact I.1
      have hD0 : va_D A (am_W dA ad t.1 h ++ va_pl [] (fun _ => .inr (0, []))) := by
        show va_D A (am_W dA ad t.1 h ++ [])
        rw [List.append_nil]
        exact I.2.1
      refine va_mna (N' := 4) (K' := 60) (z := (60, .inl (fun _ => 0))) X.1 X.2.1 X.2.2.2.1 (X.2.2.2.2.1 _ w1) (X.2.2.2.2.2.2.2.2.2.2.2.1.1 _ w2) (X.2.2.2.2.1 _ w3) hcy X.2.2.2.2.2.2.2.2.1 hP0 hD0 I.2.2.1 X.2.2.2.2.2.2.1 (by decide) (by decide) (by decide) (by decide) (by decide) (by decide) (by decide) (by rfl) (by rfl) (by omega) (by omega) (fun c => rfl) d (fun q rr cA H1 hinj hnew hK hP hD hS => ?_)
      have ec : cA = dA 7 := am_dA_new (k := 7) (by decide) X.2.2.2.2.2.2.2.2.1 hK
      subst ec
      have ho : ∀ i, i < t.1 → am_ad5 ad t.1 q rr (am_al i) = ad (am_al i) := fun i hi => by
        simp only [am_ad5, am_al_iff]
        rw [if_neg (by omega), if_neg (by omega), if_neg (by omega), if_neg (by omega), if_neg (by omega)]
      have hk : ∀ L : Lc, 90 ≤ L.1 → am_ad5 ad t.1 q rr L = ad L := fun L hL => by
        unfold am_ad5
        rw [if_neg (am_not90 hL), if_neg (am_not90 hL), if_neg (am_not90 hL), if_neg (am_not90 hL), if_neg (am_not90 hL)]
      have b0 : am_ad5 ad t.1 q rr (am_al t.1) = q := by simp [am_ad5]
      have b1 : am_ad5 ad t.1 q rr (am_al (t.1 + 1)) = rr 0 := by simp [am_ad5, am_al_iff]
      have b2 : am_ad5 ad t.1 q rr (am_al (t.1 + 2)) = rr 1 := by simp [am_ad5, am_al_iff]
      have b3 : am_ad5 ad t.1 q rr (am_al (t.1 + 3)) = rr 2 := by simp [am_ad5, am_al_iff]
      have b4 : am_ad5 ad t.1 q rr (am_al (t.1 + 4)) = rr 3 := by simp [am_ad5, am_al_iff]
      obtain ⟨i1, i2, i3, i4, i5, i6, i7, i8, i9, i10, i11⟩ := am_I_pop (am_I_pop I)
      obtain ⟨h5, hh5⟩ : ∃ h5, h5 = am_uh (am_uh (am_uh (am_uh (am_uh h (am_al t.1) (.inl (7, 4, .inr (.inr (.inr (am_row4 t.1)))))) (am_al (t.1 + 1)) (.inl (0, 60, .inl (fun _ => 0)))) (am_al (t.1 + 2)) (.inl (0, 60, .inl (fun _ => 0)))) (am_al (t.1 + 3)) (.inl (0, 60, .inl (fun _ => 0)))) (am_al (t.1 + 4)) (.inl (0, 60, .inl (fun _ => 0))) := ⟨_, rfl⟩
      have g0 : h5 (am_al t.1) = .inl (7, 4, .inr (.inr (.inr (am_row4 t.1)))) := by rw [hh5]; simp [am_uh, am_al_iff]
      have g1 : h5 (am_al (t.1 + 1)) = .inl (0, 60, .inl (fun _ => 0)) := by rw [hh5]; simp [am_uh, am_al_iff]
      have g2 : h5 (am_al (t.1 + 2)) = .inl (0, 60, .inl (fun _ => 0)) := by rw [hh5]; simp [am_uh, am_al_iff]
      have g3 : h5 (am_al (t.1 + 3)) = .inl (0, 60, .inl (fun _ => 0)) := by rw [hh5]; simp [am_uh, am_al_iff]
      have g4 : h5 (am_al (t.1 + 4)) = .inl (0, 60, .inl (fun _ => 0)) := by rw [hh5]; simp [am_uh, am_al_iff]
      have gi : ∀ i, i < t.1 → h5 (am_al i) = h (am_al i) := fun i hi => by
        rw [hh5]
        simp only [am_uh, am_al_iff]
        rw [if_neg (by omega), if_neg (by omega), if_neg (by omega), if_neg (by omega), if_neg (by omega)]
      have gk : ∀ L : Lc, 90 ≤ L.1 → h5 L = h L := fun L hL => by
        rw [hh5]
        unfold am_uh
        rw [if_neg (am_not90 hL), if_neg (am_not90 hL), if_neg (am_not90 hL), if_neg (am_not90 hL), if_neg (am_not90 hL)]
      rw [← hh5] at kk
      have er : (fun j => (am_row4 t.1 j).map (am_ad5 ad t.1 q rr)) = fun i => if i < 4 then some (rr i) else none := by
        funext j
        unfold am_row4
        by_cases hj : j < 4
        · rw [if_pos hj, if_pos hj]
          rcases (show j = 0 ∨ j = 1 ∨ j = 2 ∨ j = 3 by omega) with rfl | rfl | rfl | rfl
          · exact congrArg some b1
          · exact congrArg some b2
          · exact congrArg some b3
          · exact congrArg some b4
        · rw [if_neg hj, if_neg hj]
          rfl
      have eW : (am_W dA ad t.1 h ++ [(q, .inl (dA 7, 4, .inr (.inr (.inr (.inr (fun i => if i < 4 then some (rr i) else none))))))]) ++ va_pl ([] ++ (List.range 4).map rr) (vr_up (fun _ => .inr (0, [])) ((List.range 4).map rr) (.inl (dA 0, 60, .inl (fun _ => 0)))) = am_W dA (am_ad5 ad t.1 q rr) (t.1 + 5) h5 := by
        have e1 : am_W dA ad t.1 h = (List.range t.1).map (fun i => (am_ad5 ad t.1 q rr (am_al i), am_ce dA (am_ad5 ad t.1 q rr) (h5 (am_al i)))) := by
          unfold am_W
          refine List.map_congr_left fun i hi => ?_
          have hi2 := List.mem_range.mp hi
          rw [ho i hi2, gi i hi2, am_ce_ad ho hk (i7 i hi2)]
        have e2 : ∀ a ∈ (List.range 4).map rr, vr_up (fun _ => (.inr (0, []) : va_E)) ((List.range 4).map rr) (.inl (dA 0, 60, .inl (fun _ => 0))) a = .inl (dA 0, 60, .inl (fun _ => 0)) := fun a ha => vr_up_in ha
        have e3 : va_pl ([] ++ (List.range 4).map rr) (vr_up (fun _ => .inr (0, [])) ((List.range 4).map rr) (.inl (dA 0, 60, .inl (fun _ => 0)))) = [(rr 0, .inl (dA 0, 60, .inl (fun _ => 0))), (rr 1, .inl (dA 0, 60, .inl (fun _ => 0))), (rr 2, .inl (dA 0, 60, .inl (fun _ => 0))), (rr 3, .inl (dA 0, 60, .inl (fun _ => 0)))] := by
          unfold va_pl
          rw [List.nil_append]
          have := List.map_congr_left (fun a ha => congrArg (fun z => (a, z)) (e2 a ha))
          rw [this]
          rfl
        rw [e3, e1]
        unfold am_W
        rw [show t.1 + 5 = t.1 + 1 + 1 + 1 + 1 + 1 from rfl]
        simp only [List.range_succ, List.map_append, List.map_cons, List.map_nil, b0, b1, b2, b3, b4, g0, g1, g2, g3, g4, List.append_assoc, List.cons_append, List.nil_append]
        refine congrArg (fun z => List.map _ (List.range t.1) ++ z) ?_
        simp only [am_ce, am_ab, er]
      rw [eW] at hP hD
      have em : r.map (am_cv (am_ad5 ad t.1 q rr)) = r.map (am_cv ad) := List.map_congr_left fun v hv => am_cv_ad ho hk (i5 v hv)
      have I2 : am_I D dA cad xl A s.heap nL n0 ad0 (am_ad5 ad t.1 q rr) (t.1 + 5) ls (aR (some (am_al t.1)) :: r) h5 H1 locs ls' := by
        refine ⟨hP, hD, hS, ⟨i4.1, i4.2.1, i4.2.2.1, fun i v hv => ?_⟩, fun v hv => ?_, fun i v hv => am_rv_mono (by omega) (i6 i v hv), fun i hi => ?_, fun L hL => ⟨(gk L hL).trans (i8 L hL).1, (hk L hL).trans (i8 L hL).2⟩, by omega, fun i hi => (ho i (by omega)).trans (i10 i hi), i11⟩
        · rw [am_cv_ad ho hk (i6 i v hv)]
          exact i4.2.2.2 i v hv
        · rcases List.mem_cons.mp hv with rfl | hv
          · exact Or.inl ⟨t.1, by omega, rfl⟩
          · exact am_rv_mono (by omega) (i5 v hv)
        · by_cases hi2 : i < t.1
          · rw [gi i hi2]
            exact am_rc_mono (by omega) (i7 i hi2)
          · rcases (show i = t.1 ∨ i = t.1 + 1 ∨ i = t.1 + 2 ∨ i = t.1 + 3 ∨ i = t.1 + 4 by omega) with rfl | rfl | rfl | rfl | rfl
            · rw [g0]
              intro j
              show am_rv _ (aR (am_row4 t.1 j))
              unfold am_row4
              split
              · exact Or.inl ⟨t.1 + 1 + j, by omega, rfl⟩
              · trivial
            · rw [g1]; trivial
            · rw [g2]; trivial
            · rw [g3]; trivial
            · rw [g4]; trivial
      have K := kk (am_ad5 ad t.1 q rr) H1 locs ls' (k' + 5) (n + 244) I2 (by omega) (by omega)
      rw [List.map_cons, em] at K
      simp only [am_cv, Option.map_some, b0] at K
      exact K
    · cases hg
  · cases hg
