/-! OPERATIONS, IV: statics, writing cells, small calls of the JDK -/
section AMW
variable {own mn : String} {cc : ByteArray} {pc : Nat}
theorem ok_getstatic {idx : Nat} {o nm ds : String} {v : AV} (d : decode cc pc = .ok (.getstatic idx, 3)) (hm : ∀ xl : XL, (o, nm, ds, v) ∈ am_sts xl) (hv : am_rv 0 v) (hl : Cond.fieldLink own idx o nm ds ∈ am_G) : am_ok own mn cc pc (o_stk (f_push 3 v)) := by
  intro p l e R s m args below meth c nL A D dA cad xl Q X ls st h t c' hg hRf hRl n0 ad0 ad H locs ls' k' n c0 s0 I hk' hn hc hs kk
  cases hg
  have K := kk ad H locs ls' k' n (am_I_push I (am_rv_mono (Nat.zero_le _) hv)) hk' hn
  have e := am_cv_ad (n := 0) (ad := cad) (ad' := ad) (fun i hi => absurd hi (Nat.not_lt_zero _)) (fun L hL => (I.2.2.2.2.2.2.2.1 L hL).2) hv
  have hZ := X.2.2.2.2.2.2.2.2.2.1.2.2.1 _ (hm xl)
  dsimp only at hZ
  rw [← e] at hZ
  exact va_gets X.1 X.2.1 hZ I.2.2.1 X.2.2.2.1 (X.2.2.2.2.1 _ hl) (fun x hx => hx) d K
theorem ok_getstaticN {idx : Nat} {o nm ds host : String} {v : AV} (d : decode cc pc = .ok (.getstatic idx, 3)) (hm : ∀ xl : XL, (o, nm, ds, v) ∈ am_sts xl) (hv : am_rv 0 v) (hl : Cond.fieldLinkNest own idx o nm ds host ∈ am_NW) : am_ok own mn cc pc (o_stk (f_push 3 v)) := by
  intro p l e R s m args below meth c nL A D dA cad xl Q X ls st h t c' hg hRf hRl n0 ad0 ad H locs ls' k' n c0 s0 I hk' hn hc hs kk
  cases hg
  have K := kk ad H locs ls' k' n (am_I_push I (am_rv_mono (Nat.zero_le _) hv)) hk' hn
  have e := am_cv_ad (n := 0) (ad := cad) (ad' := ad) (fun i hi => absurd hi (Nat.not_lt_zero _)) (fun L hL => (I.2.2.2.2.2.2.2.1 L hL).2) hv
  have hZ := X.2.2.2.2.2.2.2.2.2.1.2.2.1 _ (hm xl)
  dsimp only at hZ
  rw [← e] at hZ
  exact va_getsN X.1 X.2.1 hZ I.2.2.1 X.2.2.2.1 (va_Nw.use rfl (X.2.2.2.2.2.2.2.2.2.2.2.1.1 _ hl)) (fun x hx => hx) d K
/-- a text that is written in the class -/
theorem ok_ldcS {k idx : Nat} (d : decode cc pc = .ok (.ldc idx, 2)) (hk : k < 14) (ho : (am_strs.getD k ("", 0, [])).1 = own) (hi : (am_strs.getD k ("", 0, [])).2.1 = idx) : am_ok own mn cc pc (o_stk (f_push 2 (aR (some (94, k, 0))))) := by
  intro p l e R s m args below meth c nL A D dA cad xl Q X ls st h t c' hg hRf hRl n0 ad0 ad H locs ls' k' n c0 s0 I hk' hn hc hs kk
  cases hg
  have hv : am_rv 0 (aR (some (94, k, 0))) := Or.inr (by simp only [am_kL, List.mem_append, List.mem_map, List.mem_range]; exact Or.inl (Or.inr ⟨k, hk, rfl⟩))
  have K := kk ad H locs ls' k' n (am_I_push I (am_rv_mono (Nat.zero_le _) hv)) hk' hn
  have hZ := X.2.2.2.2.2.2.2.2.2.2.2.2 k hk
  rw [ho, hi, ← (I.2.2.2.2.2.2.2.1 (94, k, 0) (by show 90 ≤ 94; decide)).2] at hZ
  exact va_ldcS X.1 X.2.1 X.2.2.2.1 hZ d K
/-- the JDK's formatter: a cell or null -/
def o_fmt : CF → Option CF := fun c => match c.2.2.2.1 (97, 0, 0) with
  | .inr (98, [v]) => some (c.1 + 3, c.2.1, v :: c.2.2.1, c.2.2.2)
  | _ => none
theorem ok_fmt {idx : Nat} (d : decode cc pc = .ok (.getstatic idx, 3)) (hl : Cond.fieldLink own idx "jdk/internal/util/Preconditions" "SIOOBE_FORMATTER" "Ljava/util/function/BiFunction;" ∈ am_G) : am_ok own mn cc pc o_fmt := by
  intro p l e R s m args below meth c nL A D dA cad xl Q X ls st h t c' hg hRf hRl n0 ad0 ad H locs ls' k' n c0 s0 I hk' hn hc hs kk
  unfold o_fmt at hg
  have h9 : h (97, 0, 0) = .inr (98, [aR xl.2.2]) := (I.2.2.2.2.2.2.2.1 (97, 0, 0) (by decide)).1
  dsimp only at hg
  rw [h9] at hg
  cases hg
  have hv : am_rv 0 (aR xl.2.2) := by
    rcases X.2.2.2.2.2.2.2.2.2.1.2.2.2.2.2.1 with q | q
    · rw [q]; trivial
    · rw [q]; exact Or.inr (by simp [am_kL])
  have K := kk ad H locs ls' k' n (am_I_push I (am_rv_mono (Nat.zero_le _) hv)) hk' hn
  have e := am_cv_ad (n := 0) (ad := cad) (ad' := ad) (fun i hi => absurd hi (Nat.not_lt_zero _)) (fun L hL => (I.2.2.2.2.2.2.2.1 L hL).2) hv
  have hZ := X.2.2.2.2.2.2.2.2.2.1.2.2.1 ("jdk/internal/util/Preconditions", "SIOOBE_FORMATTER", "Ljava/util/function/BiFunction;", aR xl.2.2) (by simp [am_sts])
  dsimp only at hZ
  rw [← e] at hZ
  exact va_gets X.1 X.2.1 hZ I.2.2.1 X.2.2.2.1 (X.2.2.2.2.1 _ hl) (fun x hx => hx) d K
/-- a cell has changed -/
theorem am_I_set {D : va_G} {dA : Nat → ClassId} {cad : Lc → Nat} {xl : XL} {A : Nat → Prop} {H0 : Heap} {nL n0 n i : Nat} {ad0 ad : Lc → Nat} {ls : AS} {st : List AV} {h : AH} {H H1 : Heap} {locs locs1 : List Loc} {ls' : Array Slot} {x : AC} {y : va_E} (I : am_I D dA cad xl A H0 nL n0 ad0 ad n ls st h H locs ls') (hi : i < n) (hy : y = am_ce dA ad x) (hx : am_rc n x)
    (hP : va_P D vwCl ((am_W dA ad n h).set i (ad (am_al i), y)) H1) (hD : va_D A ((am_W dA ad n h).set i (ad (am_al i), y))) (hS : va_S A H0 H1 locs1) : am_I D dA cad xl A H0 nL n0 ad0 ad n ls st (am_uh h (am_al i) x) H1 locs1 ls' := by
  obtain ⟨i1, i2, i3, i4, i5, i6, i7, i8, i9⟩ := I
  rw [am_W_set hi hy] at hP hD
  refine ⟨hP, hD, hS, i4, i5, i6, fun j hj => ?_, fun L hL => ⟨?_, (i8 L hL).2⟩, i9⟩
  · unfold am_uh
    split
    · exact hx
    · exact i7 j hj
  · unfold am_uh
    rw [if_neg]
    · exact (i8 L hL).1
    · intro e
      have := am_al_lt i
      rw [← e] at this
      omega
/-- kinds of what a field may hold -/
def am_fk : FieldType → AV → Bool
  | .int, .inl _ => true
  | .boolean, .inl x => decide (x = 0 ∨ x = 1)
  | .long, .inr (.inl _) => true
  | .object _, .inr (.inr (.inr (.inr _))) => true
  | .array _, .inr (.inr (.inr (.inr _))) => true
  | _, _ => false
theorem am_fk_ok {ty : FieldType} {v : AV} (h : am_fk ty v = true) (ad : Lc → Nat) : narrow ty (am_cv ad v) = am_cv ad v ∧ fits ty (am_cv ad v) = true := by
  unfold am_fk at h
  split at h
  · exact ⟨rfl, rfl⟩
  · rename_i x
    rcases of_decide_eq_true h with rfl | rfl
    · show narrow .boolean (.int 0) = .int 0 ∧ fits .boolean (.int 0) = true
      decide +kernel
    · show narrow .boolean (.int 1) = .int 1 ∧ fits .boolean (.int 1) = true
      decide +kernel
  · exact ⟨rfl, rfl⟩
  · rename_i r
    cases r <;> exact ⟨rfl, rfl⟩
  · rename_i r
    cases r <;> exact ⟨rfl, rfl⟩
  · cases h
def o_put (ci k : Nat) (ty : FieldType) : CF → Option CF := fun c => match c.2.2.1 with
  | v :: .inr (.inr (.inr (.inr (some L)))) :: r => (match c.2.2.2.1 L with
    | .inr (ci', fs) => if ci' = ci ∧ am_fk ty v = true ∧ k < fs.length then some (c.1 + 3, c.2.1, r, am_uh c.2.2.2.1 L (.inr (ci', fs.set k v)), c.2.2.2.2) else none
    | _ => none)
  | _ => none
theorem am_rc_set {n ci k : Nat} {fs : List AV} {v : AV} (h : am_rc n (.inr (ci, fs))) (hv : am_rv n v) : am_rc n (.inr (ci, fs.set k v)) := by
  intro w hw
  rcases List.mem_or_eq_of_mem_set hw with q | rfl
  · exact h w q
  · exact hv
theorem ok_putfield {ci k idx N : Nat} {C : String} {T : u_T} {ty0 : Nat → FieldType} (d : decode cc pc = .ok (.putfield idx, 3)) (hci : ci < 20) (hcl : vwCl[ci]? = some (C, T, N)) (hk : k < N) (hw : ∀ w ∈ u_ws C T N, w ∈ am_G) (hty : ∀ k, k < N → parseFieldDescriptor (T k).2.2.1 = some (ty0 k)) (hnm : ∀ a, a < N → ∀ b, b < N → a ≠ b → (T a).2.1 ≠ (T b).2.1)
    (hff : (T k).2.2.2 = false) (hl : Cond.fieldLink own idx (T k).1 (T k).2.1 (T k).2.2.1 ∈ am_G) : am_ok own mn cc pc (o_put ci k (ty0 k)) := by
  intro p l e R s m args below meth c nL A D dA cad xl Q X ls st h t c' hg hRf hRl n0 ad0 ad H locs ls' k' n c0 s0 I hk' hn hc hs kk
  unfold o_put at hg
  split at hg
  · rename_i v L r hst
    dsimp only at hst hg
    subst hst
    split at hg
    · rename_i ci' fs hL
      split at hg
      · rename_i hq
        obtain ⟨rfl, hq2, hq3⟩ := hq
        cases hg
        rcases am_ref I (I.2.2.2.2.1 _ (List.mem_cons_of_mem _ List.mem_cons_self)) with ⟨j, hj, rfl, hW, hrc⟩ | ⟨hkL, h1, h2⟩
        · rw [hL] at hW hrc
          obtain ⟨f1, f2⟩ := am_fk_ok hq2 ad
          refine va_put X.1 X.2.1 X.2.2.2.2.1 hw ty0 hty hnm X.2.2.2.1 X.2.2.2.2.2.2.2.2.1 I.1 I.2.1 I.2.2.1 j hW hcl k hk (X.2.2.2.2.1 _ hl) (fun x hx => hx) hff (hty k hk) f1 f2 (by rw [List.length_map]; exact hq3) d (fun H1 locs1 hP hD hS => ?_)
          refine kk ad H1 locs1 ls' k' n ?_ hk' hn
          exact am_I_set (am_I_pop (am_I_pop I)) hj (by simp [am_ce, List.map_set]) (am_rc_set hrc (I.2.2.2.2.1 v List.mem_cons_self)) hP hD hS
        · rw [h1] at hL
          have := am_cas_o L hkL _ _ hL
          omega
      · cases hg
    · cases hg
  · cases hg
end AMW
