/-! OPERATIONS, VI: references compared, new cells -/
section AMN
variable {own mn : String} {cc : ByteArray} {pc : Nat}
def am_c91 : Option Lc → Bool
  | none => true
  | some L => L.1 == 91
def o_acq (tgt : Nat) : CF → Option CF := fun c => match c.2.2.1 with
  | .inr (.inr (.inr (.inr y))) :: .inr (.inr (.inr (.inr x))) :: r => if am_c91 x = true ∧ am_c91 y = true then some (if x = y then tgt else c.1 + 3, c.2.1, r, c.2.2.2) else none
  | _ => none
def o_acn (tgt : Nat) : CF → Option CF := fun c => match c.2.2.1 with
  | .inr (.inr (.inr (.inr y))) :: .inr (.inr (.inr (.inr x))) :: r => if am_c91 x = true ∧ am_c91 y = true then some (if x = y then c.1 + 3 else tgt, c.2.1, r, c.2.2.2) else none
  | _ => none
def o_nnl (tgt : Nat) : CF → Option CF := fun c => match c.2.2.1 with
  | .inr (.inr (.inr (.inr (some _)))) :: r => some (tgt, c.2.1, r, c.2.2.2)
  | .inr (.inr (.inr (.inr none))) :: r => some (c.1 + 3, c.2.1, r, c.2.2.2)
  | _ => none
theorem am_91 {L : Lc} (h : L ∈ am_kL) (h2 : L.1 = 91) : ∃ k, k < 10 ∧ L = (91, k, 0) := by
  simp only [am_kL, List.mem_append, List.mem_cons, List.not_mem_nil, or_false, List.mem_map, List.mem_range] at h
  rcases h with ((((rfl | rfl | rfl | rfl | rfl | rfl) | ⟨k, hk, rfl⟩) | ⟨k, hk, rfl⟩) | ⟨k, hk, rfl⟩) <;> first | exact ⟨k, hk, rfl⟩ | (exact absurd h2 (by decide)) | (exact absurd (show (94 : Nat) = 91 from h2) (by decide)) | (exact absurd (show (95 : Nat) = 91 from h2) (by decide))
theorem am_acmp {D : va_G} {dA : Nat → ClassId} {cad : Lc → Nat} {xl : XL} {A : Nat → Prop} {H0 : Heap} {nL n0 n : Nat} {ad0 ad : Lc → Nat} {ls : AS} {st : List AV} {h : AH} {H : Heap} {locs : List Loc} {ls' : Array Slot} (I : am_I D dA cad xl A H0 nL n0 ad0 ad n ls st h H locs ls')
    (hc : ∀ i j : Nat, i < 10 → j < 10 → cad (91, i, 0) = cad (91, j, 0) → i = j) {x y : Option Lc} (hx : am_rv n (aR x)) (hy : am_rv n (aR y)) (cx : am_c91 x = true) (cy : am_c91 y = true) : x.map ad = y.map ad ↔ x = y := by
  have key : ∀ {L : Lc}, am_rv n (aR (some L)) → am_c91 (some L) = true → ∃ k, k < 10 ∧ L = (91, k, 0) := by
    intro L hL cL
    have e : L.1 = 91 := by simpa [am_c91] using cL
    rcases hL with ⟨i, hi, rfl⟩ | hL
    · have := am_al_lt i; omega
    · exact am_91 hL e
  cases x with
  | none => cases y <;> simp
  | some L => cases y with
    | none => simp
    | some M =>
      obtain ⟨i, hi, rfl⟩ := key hx cx
      obtain ⟨j, hj, rfl⟩ := key hy cy
      have e1 := (I.2.2.2.2.2.2.2.1 (91, i, 0) (by show 90 ≤ 91; decide)).2
      have e2 := (I.2.2.2.2.2.2.2.1 (91, j, 0) (by show 90 ≤ 91; decide)).2
      simp only [Option.map_some, Option.some.injEq, e1, e2]
      exact ⟨fun q => by rw [hc i j hi hj q], fun q => by rw [q]⟩
theorem ok_acmpeq {tgt : Nat} {off : Int} (d : decode cc pc = .ok (.if_acmp .eq off, 3)) (ht : (pc : Int) + off = (tgt : Int)) : am_ok own mn cc pc (o_acq tgt) := by
  intro p l e R s m args below meth c nL A D dA cad xl Q X ls st h t c' hg hRf hRl n0 ad0 ad H locs ls' k' n c0 s0 I hk' hn hc hs kk
  unfold o_acq at hg
  split at hg
  · rename_i y x r hst
    dsimp only at hst hg
    subst hst
    split at hg
    · rename_i hq
      cases hg
      have E := am_acmp I X.2.2.2.2.2.2.2.2.2.1.2.2.2.2.1 (x := x) (y := y) (I.2.2.2.2.1 _ (List.mem_cons_of_mem _ List.mem_cons_self)) (I.2.2.2.2.1 _ List.mem_cons_self) hq.1 hq.2
      have K := kk ad H locs ls' k' n (am_I_pop (am_I_pop I)) hk' hn
      dsimp only at K
      exact lv_acmp_eq (rx := x.map ad) (ry := y.map ad) X.1 X.2.1 d ht (fun q => by rw [if_pos (E.mp q)] at K; exact K) (fun q => by rw [if_neg (fun z => q (E.mpr z))] at K; exact K)
    · cases hg
  · cases hg
theorem ok_acmpne {tgt : Nat} {off : Int} (d : decode cc pc = .ok (.if_acmp .ne off, 3)) (ht : (pc : Int) + off = (tgt : Int)) : am_ok own mn cc pc (o_acn tgt) := by
  intro p l e R s m args below meth c nL A D dA cad xl Q X ls st h t c' hg hRf hRl n0 ad0 ad H locs ls' k' n c0 s0 I hk' hn hc hs kk
  unfold o_acn at hg
  split at hg
  · rename_i y x r hst
    dsimp only at hst hg
    subst hst
    split at hg
    · rename_i hq
      cases hg
      have E := am_acmp I X.2.2.2.2.2.2.2.2.2.1.2.2.2.2.1 (x := x) (y := y) (I.2.2.2.2.1 _ (List.mem_cons_of_mem _ List.mem_cons_self)) (I.2.2.2.2.1 _ List.mem_cons_self) hq.1 hq.2
      have K := kk ad H locs ls' k' n (am_I_pop (am_I_pop I)) hk' hn
      dsimp only at K
      exact lv_acmp_ne (rx := x.map ad) (ry := y.map ad) X.1 X.2.1 d ht (fun q => by rw [if_neg (fun z => q (E.mpr z))] at K; exact K) (fun q => by rw [if_pos (E.mp q)] at K; exact K)
    · cases hg
  · cases hg
theorem ok_ifnonnull {tgt : Nat} {off : Int} (d : decode cc pc = .ok (.ifnonnull off, 3)) (ht : (pc : Int) + off = (tgt : Int)) : am_ok own mn cc pc (o_nnl tgt) := by
  intro p l e R s m args below meth c nL A D dA cad xl Q X ls st h t c' hg hRf hRl n0 ad0 ad H locs ls' k' n c0 s0 I hk' hn hc hs kk
  unfold o_nnl at hg
  split at hg
  · rename_i L r hst
    dsimp only at hst hg
    subst hst
    cases hg
    exact lv_ifnonnull X.1 X.2.1 d ht (kk ad H locs ls' k' n (am_I_pop I) hk' hn)
  · rename_i r hst
    dsimp only at hst hg
    subst hst
    cases hg
    exact lv_ifnonnullN X.1 X.2.1 d (kk ad H locs ls' k' n (am_I_pop I) hk' hn)
  · cases hg
def o_obi : CF → Option CF := fun c => match c.2.2.1 with
  | .inr (.inr (.inr (.inr (some _)))) :: r => if 8 < am_w r then none else some (c.1 + 3, c.2.1, r, c.2.2.2)
  | _ => none
theorem ok_objInit {idx : Nat} (d : decode cc pc = .ok (.invokespecial idx, 3)) (w1 : Cond.methodLink own idx Lib.objectInit ∈ am_G) (w2 : Cond.instanceMethod Lib.objectInit ∈ am_G) (w3 : Cond.code Lib.objectInit ⟨#[0xb1]⟩ 1 none ∈ am_G) : am_ok own mn cc pc o_obi := by
  intro p l e R s m args below meth c nL A D dA cad xl Q X ls st h t c' hg hRf hRl n0 ad0 ad H locs ls' k' n c0 s0 I hk' hn hc hs kk
  unfold o_obi at hg
  split at hg
  · rename_i L r hst
    dsimp only at hst hg
    subst hst
    split at hg
    · cases hg
    · rename_i hq
      cases hg
      exact W.objInit X.1 X.2.1 X.2.2.2.1 (X.2.2.2.2.1 _ w1) (X.2.2.2.2.1 _ w2) (X.2.2.2.2.1 _ w3) rfl (by show ls'.size = _; rw [X.2.2.1, I.2.2.2.1.1]) rfl d (by omega) (by show 2 * 0 + _ + 12 ≤ _; rw [am_w_sum]; omega) (kk ad H locs ls' k' n (am_I_pop I) hk' hn)
  · cases hg
/-- the places with one more -/
def am_ad1 (ad : Lc → Nat) (n q : Nat) : Lc → Nat := fun L => if L = am_al n then q else ad L
theorem am_ad1_old {ad : Lc → Nat} {n q i : Nat} (h : i < n) : am_ad1 ad n q (am_al i) = ad (am_al i) := if_neg (fun e => by have := am_al_inj e; omega)
theorem am_ad1_k {ad : Lc → Nat} {n q : Nat} {L : Lc} (h : 90 ≤ L.1) : am_ad1 ad n q L = ad L := if_neg (fun e => by have := am_al_lt n; rw [← e] at this; omega)
theorem am_I_new {D : va_G} {dA : Nat → ClassId} {cad : Lc → Nat} {xl : XL} {A : Nat → Prop} {H0 : Heap} {nL n0 n q : Nat} {ad0 ad : Lc → Nat} {ls : AS} {st : List AV} {h : AH} {H H1 : Heap} {locs : List Loc} {ls' : Array Slot} {x : AC} {y : va_E} (I : am_I D dA cad xl A H0 nL n0 ad0 ad n ls st h H locs ls') (hy : y = am_ce dA (am_ad1 ad n q) x) (hx : am_rc (n + 1) x)
    (hP : va_P D vwCl (am_W dA ad n h ++ [(q, y)]) H1) (hD : va_D A (am_W dA ad n h ++ [(q, y)])) (hS : va_S A H0 H1 locs) : am_I D dA cad xl A H0 nL n0 ad0 (am_ad1 ad n q) (n + 1) ls (aR (some (am_al n)) :: st) (am_uh h (am_al n) x) H1 locs ls' ∧ st.map (am_cv (am_ad1 ad n q)) = st.map (am_cv ad) ∧ am_ad1 ad n q (am_al n) = q := by
  obtain ⟨i1, i2, i3, i4, i5, i6, i7, i8, i9, i10, i11⟩ := I
  have hne : am_ad1 ad n q (am_al n) = q := if_pos rfl
  have ho : ∀ i, i < n → am_ad1 ad n q (am_al i) = ad (am_al i) := fun i hi => am_ad1_old hi
  have hk : ∀ L : Lc, 90 ≤ L.1 → am_ad1 ad n q L = ad L := fun L hL => am_ad1_k hL
  have e := am_W_push (dA := dA) (h := h) (am_ad1 ad n q) ho hne (fun i hi => am_ce_ad ho hk (i7 i hi)) hy
  rw [e] at hP hD
  refine ⟨⟨hP, hD, hS, ⟨i4.1, i4.2.1, i4.2.2.1, fun i v hv => ?_⟩, fun v hv => ?_, fun i v hv => am_rv_mono (Nat.le_succ n) (i6 i v hv), fun i hi => ?_, fun L hL => ⟨?_, (hk L hL).trans (i8 L hL).2⟩, Nat.le_succ_of_le i9, fun i hi => (ho i (by omega)).trans (i10 i hi), i11⟩, List.map_congr_left fun v hv => am_cv_ad ho hk (i5 v hv), hne⟩
  · rw [am_cv_ad ho hk (i6 i v hv)]
    exact i4.2.2.2 i v hv
  · rcases List.mem_cons.mp hv with rfl | hv
    · exact Or.inl ⟨n, Nat.lt_succ_self n, rfl⟩
    · exact am_rv_mono (Nat.le_succ n) (i5 v hv)
  · unfold am_uh
    split
    · exact hx
    · rename_i hne
      have : i ≠ n := fun z => hne (by rw [z])
      exact am_rc_mono (Nat.le_succ n) (i7 i (by omega))
  · unfold am_uh
    rw [if_neg]
    · exact (i8 L hL).1
    · intro z
      have := am_al_lt n
      rw [← z] at this
      omega
def o_new (ci N : Nat) (fs : List AV) : CF → Option CF := fun c => some (c.1 + 3, c.2.1, aR (some (am_al c.2.2.2.2.1)) :: c.2.2.1, am_uh c.2.2.2.1 (am_al c.2.2.2.2.1) (.inr (ci, fs)), (c.2.2.2.2.1 + 1, c.2.2.2.2.2.1 + 1, c.2.2.2.2.2.2 + N))
theorem am_pl_cv {v : AV} (h : am_pl v = true) (ad ad' : Lc → Nat) : am_cv ad v = am_cv ad' v := by
  rcases v with x | x | x | x | r <;> try rfl
  cases r
  · rfl
  · cases h
theorem ok_new {ci N idx : Nat} {C : String} {T : u_T} {ty0 : Nat → FieldType} {fs : List AV} (d : decode cc pc = .ok (.new idx, 3)) (hcl : vwCl[ci]? = some (C, T, N)) (hw : ∀ w ∈ u_ws C T N, w ∈ am_G) (hty : ∀ k, k < N → parseFieldDescriptor (T k).2.2.1 = some (ty0 k)) (w1 : Cond.classLink own idx C ∈ am_G) (w2 : Cond.instantiable C N ∈ am_G) (w3 : Cond.initialized C ∈ am_G)
    (hfs : ∀ j, j < N → defaultValue (ty0 j) = vp_V (fs.map (am_cv (fun _ => 0))) j) (hpl : ∀ v ∈ fs, am_pl v = true) : am_ok own mn cc pc (o_new ci N fs) := by
  intro p l e R s m args below meth c nL A D dA cad xl Q X ls st h t c' hg hRf hRl n0 ad0 ad H locs ls' k' n c0 s0 I hk' hn hc hs kk
  cases hg
  dsimp only at hc hs kk
  have hfs2 : ∀ ad : Lc → Nat, fs.map (am_cv ad) = fs.map (am_cv (fun _ => 0)) := fun ad => List.map_congr_left fun v hv => am_pl_cv (hpl v hv) _ _
  refine va_new X.1 X.2.1 X.2.2.2.2.1 hw ty0 hty X.2.2.2.1 (X.2.2.2.2.1 _ w1) (X.2.2.2.2.1 _ w2) (X.2.2.2.2.1 _ w3) X.2.2.2.2.2.2.2.2.1 I.1 I.2.1 I.2.2.1 X.2.2.2.2.2.2.1 hcl (fs := fs.map (am_cv ad)) (fun j hj => by rw [hfs2]; exact hfs j hj) (by omega) (by omega) d (fun q H1 hP hD hS => ?_)
  obtain ⟨I2, e1, e2⟩ := am_I_new (x := .inr (ci, fs)) I (by simp only [am_ce]; rw [hfs2, ← hfs2 (am_ad1 ad t.1 q)]) (fun v hv => am_pl_rv (hpl v hv) _) hP hD hS
  have K := kk (am_ad1 ad t.1 q) H1 locs ls' (k' + 1) (n + N) I2 (by omega) (by omega)
  rw [List.map_cons, e1] at K
  simp only [am_cv, Option.map_some, e2] at K
  exact K
theorem am_RA_eq {U : State} {c1 c2 : ClassId} {ty : FieldType} (h1 : va_RA U c1 ty) (h2 : va_RA U c2 ty) : c1 = c2 := by
  cases ty with
  | object C =>
    obtain ⟨_, _, _, _, _, a⟩ := h1
    obtain ⟨_, _, _, _, _, b⟩ := h2
    exact Option.some.inj (a.symm.trans b)
  | _ => exact Option.some.inj (Eq.trans (Eq.symm h1) h2)
theorem am_dA_new {D : va_G} {dA : Nat → ClassId} {U : State} {cA : ClassId} {k : Nat} (hk : k < 8) (h : va_K D vwCl (am_tys dA) U) (h2 : va_K D vwCl (am_tys dA ++ [(cA, am_tyT k)]) U) : cA = dA k := by
  have h3 := (h2.2 8 (cA, am_tyT k) (by simp [am_tys])).2
  have h4 := (h.2 k _ (am_tys_at dA hk)).2
  exact am_RA_eq h3 h4
/-- what a new array holds -/
def am_zero : Nat → AB
  | 1 => .inr (.inl (fun _ => 0))
  | 3 => .inr (.inr (.inl (fun _ => 0)))
  | 0 => .inl (fun _ => 0)
  | 2 => .inl (fun _ => 0)
  | _ => .inr (.inr (.inr (fun _ => none)))
def o_nea (ty len : Nat) : CF → Option CF := fun c => match c.2.2.1 with
  | .inl n :: r => if n < 0 ∨ 2000 < n.toNatClampNeg then none else some (c.1 + len, c.2.1, aR (some (am_al c.2.2.2.2.1)) :: r, am_uh c.2.2.2.1 (am_al c.2.2.2.2.1) (.inl (ty, n.toNatClampNeg, am_zero ty)), (c.2.2.2.2.1 + 1, c.2.2.2.2.2.1 + 1, c.2.2.2.2.2.2 + n.toNatClampNeg))
  | _ => none
theorem ok_newarray {ty : Nat} {at9 : ArrayType} (d : decode cc pc = .ok (.newarray at9, 2)) (hty : ty < 4) (ht : newarray.typeOf at9 = am_tyT ty) (w1 : Cond.arrayClass (newarray.typeOf at9) ∈ am_G) : am_ok own mn cc pc (o_nea ty 2) := by
  intro p l e R s m args below meth c nL A D dA cad xl Q X ls st h t c' hg hRf hRl n0 ad0 ad H locs ls' k' n c0 s0 I hk' hn hc hs kk
  unfold o_nea at hg
  split at hg
  · rename_i z r hst
    dsimp only at hst hg
    subst hst
    split at hg
    · cases hg
    · rename_i hq
      simp only [not_or] at hq
      cases hg
      dsimp only at hc hs kk
      have hcell : ∀ cA : ClassId, vp_cell cA (z.toNatClampNeg, am_ab ad (am_zero ty)) = arrV cA z.toNatClampNeg (fun _ => defaultValue (am_tyT ty)) := by
        intro cA
        rcases (show ty = 0 ∨ ty = 1 ∨ ty = 2 ∨ ty = 3 by omega) with rfl | rfl | rfl | rfl <;> rfl
      have hb : z.toNatClampNeg * componentBytes (am_tyT ty) ≤ 536870912 := by
        have hq2 : z.toNatClampNeg ≤ 2000 := by omega
        rcases (show ty = 0 ∨ ty = 1 ∨ ty = 2 ∨ ty = 3 by omega) with rfl | rfl | rfl | rfl <;> (show z.toNatClampNeg * _ ≤ _) <;> simp only [am_tyT, componentBytes] <;> omega
      refine va_newa X.1 X.2.1 (X.2.2.2.2.1 _ w1) ht X.2.2.2.2.2.2.2.2.1 I.1 I.2.1 I.2.2.1 X.2.2.2.2.2.2.1 hcell hq.1 rfl hb (by omega) (by omega) d (fun q cA H1 hK hP hD hS => ?_)
      have ec := am_dA_new (by omega) X.2.2.2.2.2.2.2.2.1 hK
      subst ec
      have hrc : am_rc (t.1 + 1) (.inl (ty, z.toNatClampNeg, am_zero ty)) := by
        rcases (show ty = 0 ∨ ty = 1 ∨ ty = 2 ∨ ty = 3 by omega) with rfl | rfl | rfl | rfl <;> trivial
      obtain ⟨I2, e1, e2⟩ := am_I_new (x := .inl (ty, z.toNatClampNeg, am_zero ty)) (am_I_pop I) (by
        rcases (show ty = 0 ∨ ty = 1 ∨ ty = 2 ∨ ty = 3 by omega) with rfl | rfl | rfl | rfl <;> rfl) hrc hP hD hS
      have K := kk (am_ad1 ad t.1 q) H1 locs ls' (k' + 1) (n + z.toNatClampNeg) I2 (by omega) (by omega)
      rw [List.map_cons, e1] at K
      simp only [am_cv, Option.map_some, e2] at K
      exact K
  · cases hg
theorem ok_anewarray {ty idx : Nat} {C : String} (d : decode cc pc = .ok (.anewarray idx, 3)) (hty : 4 ≤ ty ∧ ty < 7) (ht : am_tyT ty = .object C) (w1 : Cond.classLink own idx C ∈ am_G) (w2 : Cond.arrayOver (.object C) ∈ am_NW) : am_ok own mn cc pc (o_nea ty 3) := by
  intro p l e R s m args below meth c nL A D dA cad xl Q X ls st h t c' hg hRf hRl n0 ad0 ad H locs ls' k' n c0 s0 I hk' hn hc hs kk
  unfold o_nea at hg
  split at hg
  · rename_i z r hst
    dsimp only at hst hg
    subst hst
    split at hg
    · cases hg
    · rename_i hq
      simp only [not_or] at hq
      cases hg
      dsimp only at hc hs kk
      refine va_newq X.1 X.2.1 X.2.2.2.1 (X.2.2.2.2.1 _ w1) (X.2.2.2.2.2.2.2.2.2.2.2.1.1 _ w2) X.2.2.2.2.2.2.2.2.1 I.1 I.2.1 I.2.2.1 X.2.2.2.2.2.2.1 hq.1 rfl (by omega) (by omega) (by omega) d (fun q cA H1 hK hP hD hS => ?_)
      rw [← ht] at hK
      have ec := am_dA_new (by omega) X.2.2.2.2.2.2.2.2.1 hK
      subst ec
      obtain ⟨I2, e1, e2⟩ := am_I_new (x := .inl (ty, z.toNatClampNeg, am_zero ty)) (am_I_pop I) (by
        rcases (show ty = 4 ∨ ty = 5 ∨ ty = 6 by omega) with rfl | rfl | rfl <;> rfl) (by
        rcases (show ty = 4 ∨ ty = 5 ∨ ty = 6 by omega) with rfl | rfl | rfl <;> exact fun _ => trivial) hP hD hS
      have K := kk (am_ad1 ad t.1 q) H1 locs ls' (k' + 1) (n + z.toNatClampNeg) I2 (by omega) (by omega)
      rw [List.map_cons, e1] at K
      simp only [am_cv, Option.map_some, e2] at K
      exact K
  · cases hg
end AMN
