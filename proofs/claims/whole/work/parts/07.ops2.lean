/-! OPERATIONS, II: locals -/
def o_ldi (i len : Nat) : CF → Option CF := fun c => match c.2.1[i]? with
  | some (some (.inl x)) => some (c.1 + len, c.2.1, aI x :: c.2.2.1, c.2.2.2)
  | _ => none
def o_ldl (i len : Nat) : CF → Option CF := fun c => match c.2.1[i]? with
  | some (some (.inr (.inl x))) => some (c.1 + len, c.2.1, aL x :: c.2.2.1, c.2.2.2)
  | _ => none
def o_ldd (i len : Nat) : CF → Option CF := fun c => match c.2.1[i]? with
  | some (some (.inr (.inr (.inr (.inl x))))) => some (c.1 + len, c.2.1, aD x :: c.2.2.1, c.2.2.2)
  | _ => none
def o_lda (i len : Nat) : CF → Option CF := fun c => match c.2.1[i]? with
  | some (some (.inr (.inr (.inr (.inr x))))) => some (c.1 + len, c.2.1, aR x :: c.2.2.1, c.2.2.2)
  | _ => none
def o_sti (i len : Nat) : CF → Option CF := fun c => match c.2.2.1 with
  | .inl x :: r => if i < c.2.1.length then some (c.1 + len, am_put c.2.1 i (aI x), r, c.2.2.2) else none
  | _ => none
def o_stl (i len : Nat) : CF → Option CF := fun c => match c.2.2.1 with
  | .inr (.inl x) :: r => if i + 1 < c.2.1.length then some (c.1 + len, am_put c.2.1 i (aL x), r, c.2.2.2) else none
  | _ => none
def o_std (i len : Nat) : CF → Option CF := fun c => match c.2.2.1 with
  | .inr (.inr (.inr (.inl x))) :: r => if i + 1 < c.2.1.length then some (c.1 + len, am_put c.2.1 i (aD x), r, c.2.2.2) else none
  | _ => none
def o_sta (i len : Nat) : CF → Option CF := fun c => match c.2.2.1 with
  | .inr (.inr (.inr (.inr x))) :: r => if i < c.2.1.length then some (c.1 + len, am_put c.2.1 i (aR x), r, c.2.2.2) else none
  | _ => none
def o_inc (i : Nat) (n : Int32) : CF → Option CF := fun c => match c.2.1[i]? with
  | some (some (.inl x)) => if i < c.2.1.length then some (c.1 + 3, am_put c.2.1 i (aI (x + n)), c.2.2.1, c.2.2.2) else none
  | _ => none
section AML
variable {own mn : String} {cc : ByteArray} {pc : Nat}
theorem am_I_push {D : va_G} {dA : Nat → ClassId} {cad : Lc → Nat} {xl : XL} {A : Nat → Prop} {H0 : Heap} {nL n0 n : Nat} {ad0 ad : Lc → Nat} {ls : AS} {st : List AV} {h : AH} {H : Heap} {locs : List Loc} {ls' : Array Slot} {v : AV} (I : am_I D dA cad xl A H0 nL n0 ad0 ad n ls st h H locs ls') (hv : am_rv n v) : am_I D dA cad xl A H0 nL n0 ad0 ad n ls (v :: st) h H locs ls' := by
  obtain ⟨i1, i2, i3, i4, i5, i6, i7, i8, i9⟩ := I
  refine ⟨i1, i2, i3, i4, fun w hw => ?_, i6, i7, i8, i9⟩
  rcases List.mem_cons.mp hw with rfl | hw
  · exact hv
  · exact i5 w hw
theorem am_I_pop {D : va_G} {dA : Nat → ClassId} {cad : Lc → Nat} {xl : XL} {A : Nat → Prop} {H0 : Heap} {nL n0 n : Nat} {ad0 ad : Lc → Nat} {ls : AS} {st : List AV} {h : AH} {H : Heap} {locs : List Loc} {ls' : Array Slot} {v : AV} (I : am_I D dA cad xl A H0 nL n0 ad0 ad n ls (v :: st) h H locs ls') : am_I D dA cad xl A H0 nL n0 ad0 ad n ls st h H locs ls' := by
  obtain ⟨i1, i2, i3, i4, i5, i9⟩ := I
  exact ⟨i1, i2, i3, i4, fun w hw => i5 w (List.mem_cons_of_mem _ hw), i9⟩
theorem am_I_put {D : va_G} {dA : Nat → ClassId} {cad : Lc → Nat} {xl : XL} {A : Nat → Prop} {H0 : Heap} {nL n0 n i : Nat} {ad0 ad : Lc → Nat} {ls : AS} {st : List AV} {h : AH} {H : Heap} {locs : List Loc} {ls' ls'' : Array Slot} {v : AV} (I : am_I D dA cad xl A H0 nL n0 ad0 ad n ls st h H locs ls') (hv : am_rv n v) (hl : am_L ad (am_put ls i v) ls'' nL) : am_I D dA cad xl A H0 nL n0 ad0 ad n (am_put ls i v) st h H locs ls'' := by
  obtain ⟨i1, i2, i3, i4, i5, i6, i9⟩ := I
  refine ⟨i1, i2, i3, hl, i5, fun j w hw => ?_, i9⟩
  rcases am_put_at hw with ⟨-, rfl⟩ | ⟨-, h2, -⟩
  · exact hv
  · exact i6 j w h2
theorem ok_iload_n {k : Fin 4} {i : Nat} (d : decode cc pc = .ok (.iload_n k, 1)) (hi : (k : Nat) = i) : am_ok own mn cc pc (o_ldi i 1) := by
  intro p l e R s m args below meth c nL A D dA cad xl Q X ls st h t c' hg hRf hRl n0 ad0 ad H locs ls' k n c0 s0 I hk hn hc hs kk
  unfold o_ldi at hg
  split at hg
  · rename_i x hx
    cases hg
    exact lv_iload_n X.1 X.2.1 d hi (I.2.2.2.1.2.2.2 i _ hx) (kk ad H locs ls' k n (am_I_push I trivial) hk hn)
  · cases hg
theorem ok_iload {i : Nat} (d : decode cc pc = .ok (.iload i, 2)) : am_ok own mn cc pc (o_ldi i 2) := by
  intro p l e R s m args below meth c nL A D dA cad xl Q X ls st h t c' hg hRf hRl n0 ad0 ad H locs ls' k n c0 s0 I hk hn hc hs kk
  unfold o_ldi at hg
  split at hg
  · rename_i x hx
    cases hg
    exact lv_iload X.1 X.2.1 d (I.2.2.2.1.2.2.2 i _ hx) (kk ad H locs ls' k n (am_I_push I trivial) hk hn)
  · cases hg
theorem ok_lload_n {k : Fin 4} {i : Nat} (d : decode cc pc = .ok (.lload_n k, 1)) (hi : (k : Nat) = i) : am_ok own mn cc pc (o_ldl i 1) := by
  intro p l e R s m args below meth c nL A D dA cad xl Q X ls st h t c' hg hRf hRl n0 ad0 ad H locs ls' k n c0 s0 I hk hn hc hs kk
  unfold o_ldl at hg
  split at hg
  · rename_i x hx
    cases hg
    exact lv_lload_n X.1 X.2.1 d hi (I.2.2.2.1.2.2.2 i _ hx) (kk ad H locs ls' k n (am_I_push I trivial) hk hn)
  · cases hg
theorem ok_lload {i : Nat} (d : decode cc pc = .ok (.lload i, 2)) : am_ok own mn cc pc (o_ldl i 2) := by
  intro p l e R s m args below meth c nL A D dA cad xl Q X ls st h t c' hg hRf hRl n0 ad0 ad H locs ls' k n c0 s0 I hk hn hc hs kk
  unfold o_ldl at hg
  split at hg
  · rename_i x hx
    cases hg
    exact lv_lload X.1 X.2.1 d (I.2.2.2.1.2.2.2 i _ hx) (kk ad H locs ls' k n (am_I_push I trivial) hk hn)
  · cases hg
theorem ok_dload_n {k : Fin 4} {i : Nat} (d : decode cc pc = .ok (.dload_n k, 1)) (hi : (k : Nat) = i) : am_ok own mn cc pc (o_ldd i 1) := by
  intro p l e R s m args below meth c nL A D dA cad xl Q X ls st h t c' hg hRf hRl n0 ad0 ad H locs ls' k n c0 s0 I hk hn hc hs kk
  unfold o_ldd at hg
  split at hg
  · rename_i x hx
    cases hg
    exact lv_dload_n X.1 X.2.1 d hi (I.2.2.2.1.2.2.2 i _ hx) (kk ad H locs ls' k n (am_I_push I trivial) hk hn)
  · cases hg
theorem ok_dload {i : Nat} (d : decode cc pc = .ok (.dload i, 2)) : am_ok own mn cc pc (o_ldd i 2) := by
  intro p l e R s m args below meth c nL A D dA cad xl Q X ls st h t c' hg hRf hRl n0 ad0 ad H locs ls' k n c0 s0 I hk hn hc hs kk
  unfold o_ldd at hg
  split at hg
  · rename_i x hx
    cases hg
    exact lv_dload X.1 X.2.1 d (I.2.2.2.1.2.2.2 i _ hx) (kk ad H locs ls' k n (am_I_push I trivial) hk hn)
  · cases hg
theorem ok_aload_n {k : Fin 4} {i : Nat} (d : decode cc pc = .ok (.aload_n k, 1)) (hi : (k : Nat) = i) : am_ok own mn cc pc (o_lda i 1) := by
  intro p l e R s m args below meth c nL A D dA cad xl Q X ls st h t c' hg hRf hRl n0 ad0 ad H locs ls' k n c0 s0 I hk hn hc hs kk
  unfold o_lda at hg
  split at hg
  · rename_i x hx
    cases hg
    have hl := I.2.2.2.1.2.2.2 i _ hx
    have K := kk ad H locs ls' k n (am_I_push I (I.2.2.2.2.2.1 i _ hx)) hk hn
    cases x with
    | none => exact lv_aload_nN X.1 X.2.1 d hi hl K
    | some L => exact lv_aload_n X.1 X.2.1 d hi hl K
  · cases hg
theorem ok_aload {i : Nat} (d : decode cc pc = .ok (.aload i, 2)) : am_ok own mn cc pc (o_lda i 2) := by
  intro p l e R s m args below meth c nL A D dA cad xl Q X ls st h t c' hg hRf hRl n0 ad0 ad H locs ls' k n c0 s0 I hk hn hc hs kk
  unfold o_lda at hg
  split at hg
  · rename_i x hx
    cases hg
    have hl := I.2.2.2.1.2.2.2 i _ hx
    have K := kk ad H locs ls' k n (am_I_push I (I.2.2.2.2.2.1 i _ hx)) hk hn
    cases x with
    | none => exact lv_aloadN X.1 X.2.1 d hl K
    | some L => exact lv_aload X.1 X.2.1 d hl K
  · cases hg
theorem ok_istore_n {k : Fin 4} {i : Nat} (d : decode cc pc = .ok (.istore_n k, 1)) (hi : (k : Nat) = i) : am_ok own mn cc pc (o_sti i 1) := by
  intro p l e R s m args below meth c nL A D dA cad xl Q X ls st h t c' hg hRf hRl n0 ad0 ad H locs ls' k n c0 s0 I hk hn hc hs kk
  unfold o_sti at hg
  split at hg
  · rename_i x r hx
    split at hg
    · rename_i hlt
      cases hg
      dsimp only at hx hlt
      subst hx
      have hL := I.2.2.2.1
      exact lv_istore_n X.1 X.2.1 d hi (am_prs_has hL) (by rw [← hL.2.1]; exact hlt) rfl (fun ls'' h2 => kk ad H locs ls'' k n (am_I_put (am_I_pop I) (am_rvI _ x) (am_stored1 hL rfl h2)) hk hn)
    · cases hg
  · cases hg
theorem ok_istore {i : Nat} (d : decode cc pc = .ok (.istore i, 2)) : am_ok own mn cc pc (o_sti i 2) := by
  intro p l e R s m args below meth c nL A D dA cad xl Q X ls st h t c' hg hRf hRl n0 ad0 ad H locs ls' k n c0 s0 I hk hn hc hs kk
  unfold o_sti at hg
  split at hg
  · rename_i x r hx
    split at hg
    · rename_i hlt
      cases hg
      dsimp only at hx hlt
      subst hx
      have hL := I.2.2.2.1
      exact lv_istore X.1 X.2.1 d (am_prs_has hL) (by rw [← hL.2.1]; exact hlt) rfl (fun ls'' h2 => kk ad H locs ls'' k n (am_I_put (am_I_pop I) (am_rvI _ x) (am_stored1 hL rfl h2)) hk hn)
    · cases hg
  · cases hg
theorem ok_lstore_n {k : Fin 4} {i : Nat} (d : decode cc pc = .ok (.lstore_n k, 1)) (hi : (k : Nat) = i) : am_ok own mn cc pc (o_stl i 1) := by
  intro p l e R s m args below meth c nL A D dA cad xl Q X ls st h t c' hg hRf hRl n0 ad0 ad H locs ls' k n c0 s0 I hk hn hc hs kk
  unfold o_stl at hg
  split at hg
  · rename_i x r hx
    split at hg
    · rename_i hlt
      cases hg
      dsimp only at hx hlt
      subst hx
      have hL := I.2.2.2.1
      exact lv_lstore_n X.1 X.2.1 d hi (am_prs_has hL) (by rw [← hL.2.1]; exact hlt) rfl (fun ls'' h2 => kk ad H locs ls'' k n (am_I_put (am_I_pop I) (am_rvL _ x) (am_stored2 hL rfl h2)) hk hn)
    · cases hg
  · cases hg
theorem ok_lstore {i : Nat} (d : decode cc pc = .ok (.lstore i, 2)) : am_ok own mn cc pc (o_stl i 2) := by
  intro p l e R s m args below meth c nL A D dA cad xl Q X ls st h t c' hg hRf hRl n0 ad0 ad H locs ls' k n c0 s0 I hk hn hc hs kk
  unfold o_stl at hg
  split at hg
  · rename_i x r hx
    split at hg
    · rename_i hlt
      cases hg
      dsimp only at hx hlt
      subst hx
      have hL := I.2.2.2.1
      exact lv_lstore X.1 X.2.1 d (am_prs_has hL) (by rw [← hL.2.1]; exact hlt) rfl (fun ls'' h2 => kk ad H locs ls'' k n (am_I_put (am_I_pop I) (am_rvL _ x) (am_stored2 hL rfl h2)) hk hn)
    · cases hg
  · cases hg
theorem ok_dstore_n {k : Fin 4} {i : Nat} (d : decode cc pc = .ok (.dstore_n k, 1)) (hi : (k : Nat) = i) : am_ok own mn cc pc (o_std i 1) := by
  intro p l e R s m args below meth c nL A D dA cad xl Q X ls st h t c' hg hRf hRl n0 ad0 ad H locs ls' k n c0 s0 I hk hn hc hs kk
  unfold o_std at hg
  split at hg
  · rename_i x r hx
    split at hg
    · rename_i hlt
      cases hg
      dsimp only at hx hlt
      subst hx
      have hL := I.2.2.2.1
      exact lv_dstore_n X.1 X.2.1 d hi (am_prs_has hL) (by rw [← hL.2.1]; exact hlt) rfl (fun ls'' h2 => kk ad H locs ls'' k n (am_I_put (am_I_pop I) (show am_rv _ (aD x) from trivial) (am_stored2 hL rfl h2)) hk hn)
    · cases hg
  · cases hg
theorem ok_dstore {i : Nat} (d : decode cc pc = .ok (.dstore i, 2)) : am_ok own mn cc pc (o_std i 2) := by
  intro p l e R s m args below meth c nL A D dA cad xl Q X ls st h t c' hg hRf hRl n0 ad0 ad H locs ls' k n c0 s0 I hk hn hc hs kk
  unfold o_std at hg
  split at hg
  · rename_i x r hx
    split at hg
    · rename_i hlt
      cases hg
      dsimp only at hx hlt
      subst hx
      have hL := I.2.2.2.1
      exact lv_dstore X.1 X.2.1 d (am_prs_has hL) (by rw [← hL.2.1]; exact hlt) rfl (fun ls'' h2 => kk ad H locs ls'' k n (am_I_put (am_I_pop I) (show am_rv _ (aD x) from trivial) (am_stored2 hL rfl h2)) hk hn)
    · cases hg
  · cases hg
theorem ok_astore_n {k : Fin 4} {i : Nat} (d : decode cc pc = .ok (.astore_n k, 1)) (hi : (k : Nat) = i) : am_ok own mn cc pc (o_sta i 1) := by
  intro p l e R s m args below meth c nL A D dA cad xl Q X ls st h t c' hg hRf hRl n0 ad0 ad H locs ls' k n c0 s0 I hk hn hc hs kk
  unfold o_sta at hg
  split at hg
  · rename_i x r hx
    split at hg
    · rename_i hlt
      cases hg
      dsimp only at hx hlt
      subst hx
      have hL := I.2.2.2.1
      have hv := I.2.2.2.2.1 _ List.mem_cons_self
      cases x with
      | none => exact lv_astore_nN X.1 X.2.1 d hi (am_prs_has hL) (by rw [← hL.2.1]; exact hlt) rfl (fun ls'' h2 => kk ad H locs ls'' k n (am_I_put (am_I_pop I) hv (am_stored1 hL rfl h2)) hk hn)
      | some L => exact lv_astore_n X.1 X.2.1 d hi (am_prs_has hL) (by rw [← hL.2.1]; exact hlt) rfl (fun ls'' h2 => kk ad H locs ls'' k n (am_I_put (am_I_pop I) hv (am_stored1 hL rfl h2)) hk hn)
    · cases hg
  · cases hg
theorem ok_astore {i : Nat} (d : decode cc pc = .ok (.astore i, 2)) : am_ok own mn cc pc (o_sta i 2) := by
  intro p l e R s m args below meth c nL A D dA cad xl Q X ls st h t c' hg hRf hRl n0 ad0 ad H locs ls' k n c0 s0 I hk hn hc hs kk
  unfold o_sta at hg
  split at hg
  · rename_i x r hx
    split at hg
    · rename_i hlt
      cases hg
      dsimp only at hx hlt
      subst hx
      have hL := I.2.2.2.1
      have hv := I.2.2.2.2.1 _ List.mem_cons_self
      cases x with
      | none => exact lv_astoreN X.1 X.2.1 d (am_prs_has hL) (by rw [← hL.2.1]; exact hlt) rfl (fun ls'' h2 => kk ad H locs ls'' k n (am_I_put (am_I_pop I) hv (am_stored1 hL rfl h2)) hk hn)
      | some L => exact lv_astore X.1 X.2.1 d (am_prs_has hL) (by rw [← hL.2.1]; exact hlt) rfl (fun ls'' h2 => kk ad H locs ls'' k n (am_I_put (am_I_pop I) hv (am_stored1 hL rfl h2)) hk hn)
    · cases hg
  · cases hg
theorem ok_iinc {i : Nat} {q : Int} {v : Int32} (d : decode cc pc = .ok (.iinc i q, 3)) (hq : Int32.ofInt q = v) : am_ok own mn cc pc (o_inc i v) := by
  intro p l e R s m args below meth c nL A D dA cad xl Q X ls st h t c' hg hRf hRl n0 ad0 ad H locs ls' k n c0 s0 I hk hn hc hs kk
  unfold o_inc at hg
  split at hg
  · rename_i x hx
    split at hg
    · rename_i hlt
      cases hg
      dsimp only at hx hlt
      have hL := I.2.2.2.1
      obtain ⟨j, hj⟩ := List.getElem?_of_mem (am_prs_in (ad := ad) hx)
      exact lv_iinc (v := x + v) X.1 X.2.1 d (am_prs_has hL) hj (by rw [hq]) (by rw [← hL.2.1]; exact hlt) rfl (fun ls'' h2 => kk ad H locs ls'' k n (am_I_put I (am_rvI _ (x + v)) (am_stored1 hL rfl h2)) hk hn)
    · cases hg
  · cases hg
end AML
