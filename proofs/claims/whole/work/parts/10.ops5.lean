/-! OPERATIONS, V: arrays that are written, small calls of the JDK, new cells -/
section AMY
variable {own mn : String} {cc : ByteArray} {pc : Nat}
theorem ok_putfieldF {ci k idx N : Nat} {C : String} {T : u_T} {ty0 : Nat → FieldType} (d : decode cc pc = .ok (.putfield idx, 3)) (hci : ci < 20) (hcl : vwCl[ci]? = some (C, T, N)) (hk : k < N) (hw : ∀ w ∈ u_ws C T N, w ∈ am_G) (hty : ∀ k, k < N → parseFieldDescriptor (T k).2.2.1 = some (ty0 k)) (hnm : ∀ a, a < N → ∀ b, b < N → a ≠ b → (T a).2.1 ≠ (T b).2.1)
    (hff : (T k).2.2.2 = true) (hmn : mn = "<init>") (hown : (T k).1 = own) (hl : Cond.fieldLink own idx (T k).1 (T k).2.1 (T k).2.2.1 ∈ am_G) : am_ok own mn cc pc (o_put ci k (ty0 k)) := by
  intro p l e R s m args below meth c nL A D dA cad xl Q X ls st h t c' hg hRf hRl n0 ad0 ad H locs ls' k' n c0 s0 I hk' hn hc hs kk
  unfold o_put at hg
  split at hg
  · rename_i v L r hst
    dsimp only at hst hg
    subst hst
    split at hg
    · rename_i ci' fs hL
      split at hg
      · rename_i hq
        obtain ⟨rfl, hq2, hq3⟩ := hq
        cases hg
        rcases am_ref I (I.2.2.2.2.1 _ (List.mem_cons_of_mem _ List.mem_cons_self)) with ⟨j, hj, rfl, hW, hrc⟩ | ⟨hkL, h1, h2⟩
        · rw [hL] at hW hrc
          obtain ⟨f1, f2⟩ := am_fk_ok hq2 ad
          refine va_putF X.1 X.2.1 X.2.2.2.2.1 hw ty0 hty hnm X.2.2.2.1 X.2.2.2.2.2.2.2.2.1 I.1 I.2.1 I.2.2.1 j hW hcl k hk (X.2.2.2.2.1 _ hl) (fun x hx => hx) hff (by rw [X.2.2.2.2.2.2.2.2.2.2.1]; exact hmn) hown (hty k hk) f1 f2 (by rw [List.length_map]; exact hq3) d (fun H1 locs1 hP hD hS => ?_)
          refine kk ad H1 locs1 ls' k' n ?_ hk' hn
          exact am_I_set (am_I_pop (am_I_pop I)) hj (by simp [am_ce, List.map_set]) (am_rc_set hrc (I.2.2.2.2.1 v List.mem_cons_self)) hP hD hS
        · rw [h1] at hL
          have := am_cas_o L hkL _ _ hL
          omega
      · cases hg
    · cases hg
  · cases hg
def o_ias : CF → Option CF := fun c => match c.2.2.1 with
  | .inl x :: .inl i :: .inr (.inr (.inr (.inr (some L)))) :: r => (match c.2.2.2.1 L with
    | .inl (0, n, .inl f) => if i < 0 ∨ n ≤ i.toNatClampNeg ∨ 90 ≤ L.1 then none else some (c.1 + 1, c.2.1, r, am_uh c.2.2.2.1 L (.inl (0, n, .inl (upd f i.toNatClampNeg x))), c.2.2.2.2)
    | _ => none)
  | _ => none
def o_bas : CF → Option CF := fun c => match c.2.2.1 with
  | .inl x :: .inl i :: .inr (.inr (.inr (.inr (some L)))) :: r => (match c.2.2.2.1 L with
    | .inl (2, n, .inl f) => if i < 0 ∨ n ≤ i.toNatClampNeg ∨ 90 ≤ L.1 then none else some (c.1 + 1, c.2.1, r, am_uh c.2.2.2.1 L (.inl (2, n, .inl (upd f i.toNatClampNeg x.toInt8.toInt32))), c.2.2.2.2)
    | _ => none)
  | _ => none
def o_las : CF → Option CF := fun c => match c.2.2.1 with
  | .inr (.inl x) :: .inl i :: .inr (.inr (.inr (.inr (some L)))) :: r => (match c.2.2.2.1 L with
    | .inl (1, n, .inr (.inl f)) => if i < 0 ∨ n ≤ i.toNatClampNeg ∨ 90 ≤ L.1 then none else some (c.1 + 1, c.2.1, r, am_uh c.2.2.2.1 L (.inl (1, n, .inr (.inl (vp_updL f i.toNatClampNeg x)))), c.2.2.2.2)
    | _ => none)
  | _ => none
def o_das : CF → Option CF := fun c => match c.2.2.1 with
  | .inr (.inr (.inr (.inl x))) :: .inl i :: .inr (.inr (.inr (.inr (some L)))) :: r => (match c.2.2.2.1 L with
    | .inl (3, n, .inr (.inr (.inl f))) => if i < 0 ∨ n ≤ i.toNatClampNeg ∨ 90 ≤ L.1 then none else some (c.1 + 1, c.2.1, r, am_uh c.2.2.2.1 L (.inl (3, n, .inr (.inr (.inl (vf_upd f i.toNatClampNeg x))))), c.2.2.2.2)
    | _ => none)
  | _ => none
/-- a row of objects of one class takes one more -/
def o_aas (ty ci : Nat) : CF → Option CF := fun c => match c.2.2.1 with
  | .inr (.inr (.inr (.inr (some V)))) :: .inl i :: .inr (.inr (.inr (.inr (some L)))) :: r => (match c.2.2.2.1 L, c.2.2.2.1 V with
    | .inl (ty', n, .inr (.inr (.inr f))), .inr (ci', _) => if ty' ≠ ty ∨ ci' ≠ ci ∨ i < 0 ∨ n ≤ i.toNatClampNeg ∨ 90 ≤ L.1 ∨ 90 ≤ V.1 then none else some (c.1 + 1, c.2.1, r, am_uh c.2.2.2.1 L (.inl (ty', n, .inr (.inr (.inr (va_up f i.toNatClampNeg (some V)))))), c.2.2.2.2)
    | _, _ => none)
  | _ => none
theorem ok_iastore (d : decode cc pc = .ok (.iastore, 1)) : am_ok own mn cc pc o_ias := by
  intro p l e R s m args below meth c nL A D dA cad xl Q X ls st h t c' hg hRf hRl n0 ad0 ad H locs ls' k' n c0 s0 I hk' hn hc hs kk
  unfold o_ias at hg
  split at hg
  · rename_i x i L r hst
    dsimp only at hst hg
    subst hst
    split at hg
    · rename_i N f hL
      split at hg
      · cases hg
      · rename_i hq
        cases hg
        rcases am_ref I (I.2.2.2.2.1 _ (List.mem_cons_of_mem _ (List.mem_cons_of_mem _ List.mem_cons_self))) with ⟨j, hj, rfl, hW, hrc⟩ | ⟨hkL, h1, h2⟩
        · rw [hL] at hW
          refine va_iast X.1 X.2.1 X.2.2.2.2.2.2.2.2.1 I.1 I.2.1 I.2.2.1 j 0 hW (am_tys_at dA (by decide)) (fun z => hq (z.elim Or.inl (fun z => Or.inr (Or.inl z)))) d (fun H1 locs1 hP hD hS => ?_)
          exact kk ad H1 locs1 ls' k' n (am_I_set (am_I_pop (am_I_pop (am_I_pop I))) hj rfl trivial hP hD hS) hk' hn
        · exact absurd (am_kL_ge L hkL) (fun q => hq (Or.inr (Or.inr q)))
    · cases hg
  · cases hg
theorem ok_bastore (d : decode cc pc = .ok (.bastore, 1)) : am_ok own mn cc pc o_bas := by
  intro p l e R s m args below meth c nL A D dA cad xl Q X ls st h t c' hg hRf hRl n0 ad0 ad H locs ls' k' n c0 s0 I hk' hn hc hs kk
  unfold o_bas at hg
  split at hg
  · rename_i x i L r hst
    dsimp only at hst hg
    subst hst
    split at hg
    · rename_i N f hL
      split at hg
      · cases hg
      · rename_i hq
        cases hg
        rcases am_ref I (I.2.2.2.2.1 _ (List.mem_cons_of_mem _ (List.mem_cons_of_mem _ List.mem_cons_self))) with ⟨j, hj, rfl, hW, hrc⟩ | ⟨hkL, h1, h2⟩
        · rw [hL] at hW
          refine va_bast X.1 X.2.1 X.2.2.2.2.2.2.2.2.1 I.1 I.2.1 I.2.2.1 j 2 hW (am_tys_at dA (by decide)) (fun z => hq (z.elim Or.inl (fun z => Or.inr (Or.inl z)))) d (fun H1 locs1 hP hD hS => ?_)
          exact kk ad H1 locs1 ls' k' n (am_I_set (am_I_pop (am_I_pop (am_I_pop I))) hj (by rw [vp_nar_byte]; rfl) trivial hP hD hS) hk' hn
        · exact absurd (am_kL_ge L hkL) (fun q => hq (Or.inr (Or.inr q)))
    · cases hg
  · cases hg
theorem ok_lastore (d : decode cc pc = .ok (.lastore, 1)) : am_ok own mn cc pc o_las := by
  intro p l e R s m args below meth c nL A D dA cad xl Q X ls st h t c' hg hRf hRl n0 ad0 ad H locs ls' k' n c0 s0 I hk' hn hc hs kk
  unfold o_las at hg
  split at hg
  · rename_i x i L r hst
    dsimp only at hst hg
    subst hst
    split at hg
    · rename_i N f hL
      split at hg
      · cases hg
      · rename_i hq
        cases hg
        rcases am_ref I (I.2.2.2.2.1 _ (List.mem_cons_of_mem _ (List.mem_cons_of_mem _ List.mem_cons_self))) with ⟨j, hj, rfl, hW, hrc⟩ | ⟨hkL, h1, h2⟩
        · rw [hL] at hW
          refine va_last X.1 X.2.1 X.2.2.2.2.2.2.2.2.1 I.1 I.2.1 I.2.2.1 j 1 hW (am_tys_at dA (by decide)) (fun z => hq (z.elim Or.inl (fun z => Or.inr (Or.inl z)))) d (fun H1 locs1 hP hD hS => ?_)
          exact kk ad H1 locs1 ls' k' n (am_I_set (am_I_pop (am_I_pop (am_I_pop I))) hj rfl trivial hP hD hS) hk' hn
        · exact absurd (am_kL_ge L hkL) (fun q => hq (Or.inr (Or.inr q)))
    · cases hg
  · cases hg
theorem ok_dastore (d : decode cc pc = .ok (.dastore, 1)) : am_ok own mn cc pc o_das := by
  intro p l e R s m args below meth c nL A D dA cad xl Q X ls st h t c' hg hRf hRl n0 ad0 ad H locs ls' k' n c0 s0 I hk' hn hc hs kk
  unfold o_das at hg
  split at hg
  · rename_i x i L r hst
    dsimp only at hst hg
    subst hst
    split at hg
    · rename_i N f hL
      split at hg
      · cases hg
      · rename_i hq
        cases hg
        rcases am_ref I (I.2.2.2.2.1 _ (List.mem_cons_of_mem _ (List.mem_cons_of_mem _ List.mem_cons_self))) with ⟨j, hj, rfl, hW, hrc⟩ | ⟨hkL, h1, h2⟩
        · rw [hL] at hW
          refine va_dast X.1 X.2.1 X.2.2.2.2.2.2.2.2.1 I.1 I.2.1 I.2.2.1 j 3 hW (am_tys_at dA (by decide)) (fun z => hq (z.elim Or.inl (fun z => Or.inr (Or.inl z)))) d (fun H1 locs1 hP hD hS => ?_)
          exact kk ad H1 locs1 ls' k' n (am_I_set (am_I_pop (am_I_pop (am_I_pop I))) hj rfl trivial hP hD hS) hk' hn
        · exact absurd (am_kL_ge L hkL) (fun q => hq (Or.inr (Or.inr q)))
    · cases hg
  · cases hg
theorem ok_aastore {ty ci N : Nat} {C : String} {T : u_T} (hty : ty < 8) (htC : am_tyT ty = .object C) (hcl : vwCl[ci]? = some (C, T, N)) (d : decode cc pc = .ok (.aastore, 1)) : am_ok own mn cc pc (o_aas ty ci) := by
  intro p l e R s m args below meth c nL A D dA cad xl Q X ls st h t c' hg hRf hRl n0 ad0 ad H locs ls' k' n c0 s0 I hk' hn hc hs kk
  unfold o_aas at hg
  split at hg
  · rename_i V i L r hst
    dsimp only at hst hg
    subst hst
    split at hg
    · rename_i ty' N' f ci' fs hL hV
      split at hg
      · cases hg
      · rename_i hq
        simp only [not_or, ne_eq, Decidable.not_not] at hq
        obtain ⟨rfl, rfl, q1, q2, q3, q4⟩ := hq
        cases hg
        have hvV := I.2.2.2.2.1 _ List.mem_cons_self
        rcases am_ref I (I.2.2.2.2.1 _ (List.mem_cons_of_mem _ (List.mem_cons_of_mem _ List.mem_cons_self))) with ⟨j, hj, rfl, hW, hrc⟩ | ⟨hkL, h1, h2⟩
        · rcases am_ref I hvV with ⟨jv, hjv, rfl, hWv, -⟩ | ⟨hkL, -, -⟩
          · rw [hL] at hW hrc
            rw [hV] at hWv
            have ht := am_tys_at dA hty
            rw [htC] at ht
            refine va_astq (r := (C, T, N)) X.1 X.2.1 X.2.2.2.2.2.2.2.2.1 I.1 I.2.1 I.2.2.1 j ty' jv ci' hW ht hWv hcl (fun z => z.elim q1 q2) d (fun H1 locs1 hP hD hS => ?_)
            refine kk ad H1 locs1 ls' k' n (am_I_set (am_I_pop (am_I_pop (am_I_pop I))) hj ?_ ?_ hP hD hS) hk' hn
            · simp only [am_ce, am_ab]
              refine congrArg (fun g => (Sum.inl (dA ty', N', Sum.inr (Sum.inr (Sum.inr (Sum.inr g)))) : va_E)) (funext fun z => ?_)
              unfold va_up
              split <;> rfl
            · intro z
              show am_rv _ (aR (va_up f i.toNatClampNeg (some (am_al jv)) z))
              unfold va_up
              split
              · exact hvV
              · exact hrc z
          · exact absurd (am_kL_ge V hkL) q4
        · exact absurd (am_kL_ge L hkL) q3
    · cases hg
  · cases hg
def o_cpi : CF → Option CF := fun c => match c.2.2.1 with
  | .inl n :: .inl dp :: .inr (.inr (.inr (.inr (some L1)))) :: .inl sp :: .inr (.inr (.inr (.inr (some L0)))) :: r => (match c.2.2.2.1 L0, c.2.2.2.1 L1 with
    | .inl (0, n0, .inl f), .inl (0, n1, .inl g) => if sp < 0 ∨ dp < 0 ∨ n < 0 ∨ n0 < sp.toNatClampNeg + n.toNatClampNeg ∨ n1 < dp.toNatClampNeg + n.toNatClampNeg ∨ 90 ≤ L0.1 ∨ 90 ≤ L1.1 ∨ 8 < am_w r then none else some (c.1 + 3, c.2.1, r, am_uh c.2.2.2.1 L1 (.inl (0, n1, .inl (va_cpy f g sp.toNatClampNeg dp.toNatClampNeg n.toNatClampNeg))), c.2.2.2.2)
    | _, _ => none)
  | _ => none
def o_cpl : CF → Option CF := fun c => match c.2.2.1 with
  | .inl n :: .inl dp :: .inr (.inr (.inr (.inr (some L1)))) :: .inl sp :: .inr (.inr (.inr (.inr (some L0)))) :: r => (match c.2.2.2.1 L0, c.2.2.2.1 L1 with
    | .inl (1, n0, .inr (.inl f)), .inl (1, n1, .inr (.inl g)) => if sp < 0 ∨ dp < 0 ∨ n < 0 ∨ n0 < sp.toNatClampNeg + n.toNatClampNeg ∨ n1 < dp.toNatClampNeg + n.toNatClampNeg ∨ 90 ≤ L0.1 ∨ 90 ≤ L1.1 ∨ 8 < am_w r then none else some (c.1 + 3, c.2.1, r, am_uh c.2.2.2.1 L1 (.inl (1, n1, .inr (.inl (va_cpy f g sp.toNatClampNeg dp.toNatClampNeg n.toNatClampNeg)))), c.2.2.2.2)
    | _, _ => none)
  | _ => none
theorem am_nfw : nativeFrameWords "java/lang/System" "arraycopy" 5 + 11 + 8 ≤ 200 := by decide +kernel
theorem ok_copyI {idx : Nat} (d : decode cc pc = .ok (.invokestatic idx, 3)) (w1 : Cond.methodLink own idx arraycopyName ∈ am_G) (w2 : Cond.native arraycopyName ∈ am_G) (w3 : Cond.static arraycopyName ∈ am_G) (w4 : Cond.initialized "java/lang/System" ∈ am_G) : am_ok own mn cc pc o_cpi := by
  intro p l e R s m args below meth c nL A D dA cad xl Q X ls st h t c' hg hRf hRl n0 ad0 ad H locs ls' k' n c0 s0 I hk' hn hc hs kk
  unfold o_cpi at hg
  split at hg
  · rename_i n' dp L1 sp L0 r hst
    dsimp only at hst hg
    subst hst
    split at hg
    · rename_i N0 f N1 g hL0 hL1
      split at hg
      · cases hg
      · rename_i hq
        simp only [not_or] at hq
        obtain ⟨q1, q2, q3, q4, q5, q6, q7, q8⟩ := hq
        cases hg
        rcases am_ref I (L := L0) (I.2.2.2.2.1 _ (by simp)) with ⟨j0, hj0, rfl, hW0, -⟩ | ⟨hkL, -, -⟩
        · rcases am_ref I (L := L1) (I.2.2.2.2.1 _ (by simp)) with ⟨j1, hj1, rfl, hW1, -⟩ | ⟨hkL, -, -⟩
          · rw [hL0] at hW0
            rw [hL1] at hW1
            refine va_copyi X.1 X.2.1 (by rw [X.2.2.1, I.2.2.2.1.1]) X.2.2.2.1 (X.2.2.2.2.1 _ w1) (X.2.2.2.2.1 _ w2) (X.2.2.2.2.1 _ w3) (X.2.2.2.2.1 _ w4) X.2.2.2.2.2.2.2.2.1 I.1 I.2.1 I.2.2.1 j0 j1 0 0 hW0 hW1 (am_tys_at dA (by decide)) (am_tys_at dA (by decide)) rfl q1 q2 q3 (Nat.not_lt.mp q4) (Nat.not_lt.mp q5) (fun _ _ => rfl) (by omega) (by rw [am_w_sum]; have := am_nfw; omega) d (fun H1 locs1 hP hD hS => ?_)
            exact kk ad H1 locs1 ls' k' n (am_I_set (am_I_pop (am_I_pop (am_I_pop (am_I_pop (am_I_pop I))))) hj1 rfl trivial hP hD hS) hk' hn
          · exact absurd (am_kL_ge L1 hkL) q7
        · exact absurd (am_kL_ge L0 hkL) q6
    · cases hg
  · cases hg
theorem ok_copyL {idx : Nat} (d : decode cc pc = .ok (.invokestatic idx, 3)) (w1 : Cond.methodLink own idx arraycopyName ∈ am_G) (w2 : Cond.native arraycopyName ∈ am_G) (w3 : Cond.static arraycopyName ∈ am_G) (w4 : Cond.initialized "java/lang/System" ∈ am_G) : am_ok own mn cc pc o_cpl := by
  intro p l e R s m args below meth c nL A D dA cad xl Q X ls st h t c' hg hRf hRl n0 ad0 ad H locs ls' k' n c0 s0 I hk' hn hc hs kk
  unfold o_cpl at hg
  split at hg
  · rename_i n' dp L1 sp L0 r hst
    dsimp only at hst hg
    subst hst
    split at hg
    · rename_i N0 f N1 g hL0 hL1
      split at hg
      · cases hg
      · rename_i hq
        simp only [not_or] at hq
        obtain ⟨q1, q2, q3, q4, q5, q6, q7, q8⟩ := hq
        cases hg
        rcases am_ref I (L := L0) (I.2.2.2.2.1 _ (by simp)) with ⟨j0, hj0, rfl, hW0, -⟩ | ⟨hkL, -, -⟩
        · rcases am_ref I (L := L1) (I.2.2.2.2.1 _ (by simp)) with ⟨j1, hj1, rfl, hW1, -⟩ | ⟨hkL, -, -⟩
          · rw [hL0] at hW0
            rw [hL1] at hW1
            refine va_copyl X.1 X.2.1 (by rw [X.2.2.1, I.2.2.2.1.1]) X.2.2.2.1 (X.2.2.2.2.1 _ w1) (X.2.2.2.2.1 _ w2) (X.2.2.2.2.1 _ w3) (X.2.2.2.2.1 _ w4) X.2.2.2.2.2.2.2.2.1 I.1 I.2.1 I.2.2.1 j0 j1 1 1 hW0 hW1 (am_tys_at dA (by decide)) (am_tys_at dA (by decide)) rfl q1 q2 q3 (Nat.not_lt.mp q4) (Nat.not_lt.mp q5) (fun _ _ => rfl) (by omega) (by rw [am_w_sum]; have := am_nfw; omega) d (fun H1 locs1 hP hD hS => ?_)
            exact kk ad H1 locs1 ls' k' n (am_I_set (am_I_pop (am_I_pop (am_I_pop (am_I_pop (am_I_pop I))))) hj1 rfl trivial hP hD hS) hk' hn
          · exact absurd (am_kL_ge L1 hkL) q7
        · exact absurd (am_kL_ge L0 hkL) q6
    · cases hg
  · cases hg
def o_max : CF → Option CF := fun c => match c.2.2.1 with
  | .inl y :: .inl x :: r => if 8 < am_w r then none else some (c.1 + 3, c.2.1, aI (if x < y then y else x) :: r, c.2.2.2)
  | _ => none
def o_min : CF → Option CF := fun c => match c.2.2.1 with
  | .inl y :: .inl x :: r => if 8 < am_w r then none else some (c.1 + 3, c.2.1, aI (if y < x then y else x) :: r, c.2.2.2)
  | _ => none
theorem am_room {k c0 x R : Nat} (h1 : k + c0 = x) (h2 : x ≤ c0 + R) : k ≤ R := by omega
theorem ok_max {idx : Nat} (d : decode cc pc = .ok (.invokestatic idx, 3)) (w1 : Cond.methodLink own idx Lib.Math.max.name ∈ am_G) (w2 : Cond.static Lib.Math.max.name ∈ am_G) (w3 : Cond.initialized "java/lang/Math" ∈ am_G) (w4 : Cond.code Lib.Math.max.name Lib.Math.max.code 2 (some .int) ∈ am_G) : am_ok own mn cc pc o_max := by
  intro p l e R s m args below meth c nL A D dA cad xl Q X ls st h t c' hg hRf hRl n0 ad0 ad H locs ls' k' n c0 s0 I hk' hn hc hs kk
  unfold o_max at hg
  split at hg
  · rename_i y x r hst
    dsimp only at hst hg
    subst hst
    split at hg
    · cases hg
    · rename_i hq
      cases hg
      exact va_mmax X.1 X.2.1 (by rw [X.2.2.1, I.2.2.2.1.1]) X.2.2.2.1 (X.2.2.2.2.1 _ w1) (X.2.2.2.2.1 _ w2) (X.2.2.2.2.1 _ w3) (X.2.2.2.2.1 _ w4) (by omega) (by rw [am_w_sum]; omega) (am_room hk' hc) (am_room hn hs) d (kk ad H locs ls' k' n (am_I_push (am_I_pop (am_I_pop I)) (am_rvI _ _)) hk' hn)
  · cases hg
theorem ok_min {idx : Nat} (d : decode cc pc = .ok (.invokestatic idx, 3)) (w1 : Cond.methodLink own idx Lib.Math.min.name ∈ am_G) (w2 : Cond.static Lib.Math.min.name ∈ am_G) (w3 : Cond.initialized "java/lang/Math" ∈ am_G) (w4 : Cond.code Lib.Math.min.name Lib.Math.min.code 2 (some .int) ∈ am_G) : am_ok own mn cc pc o_min := by
  intro p l e R s m args below meth c nL A D dA cad xl Q X ls st h t c' hg hRf hRl n0 ad0 ad H locs ls' k' n c0 s0 I hk' hn hc hs kk
  unfold o_min at hg
  split at hg
  · rename_i y x r hst
    dsimp only at hst hg
    subst hst
    split at hg
    · cases hg
    · rename_i hq
      cases hg
      exact va_mmin X.1 X.2.1 (by rw [X.2.2.1, I.2.2.2.1.1]) X.2.2.2.1 (X.2.2.2.2.1 _ w1) (X.2.2.2.2.1 _ w2) (X.2.2.2.2.1 _ w3) (X.2.2.2.2.1 _ w4) (by omega) (by rw [am_w_sum]; omega) (am_room hk' hc) (am_room hn hs) d (kk ad H locs ls' k' n (am_I_push (am_I_pop (am_I_pop I)) (am_rvI _ _)) hk' hn)
  · cases hg
end AMY
