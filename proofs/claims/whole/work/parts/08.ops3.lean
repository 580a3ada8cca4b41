/-! OPERATIONS, III: reading cells -/
section AMR
variable {own mn : String} {cc : ByteArray} {pc : Nat}
/-- a reference of a place -/
theorem am_ref {D : va_G} {dA : Nat → ClassId} {cad : Lc → Nat} {xl : XL} {A : Nat → Prop} {H0 : Heap} {nL n0 n : Nat} {ad0 ad : Lc → Nat} {ls : AS} {st : List AV} {h : AH} {H : Heap} {locs : List Loc} {ls' : Array Slot} {L : Lc} (I : am_I D dA cad xl A H0 nL n0 ad0 ad n ls st h H locs ls') (hv : am_rv n (aR (some L))) :
    (∃ i, i < n ∧ L = am_al i ∧ (am_W dA ad n h)[i]? = some (ad L, am_ce dA ad (h L)) ∧ am_rc n (h L)) ∨ (L ∈ am_kL ∧ h L = am_k xl L ∧ ad L = cad L) := by
  rcases hv with ⟨i, hi, rfl⟩ | hL
  · exact Or.inl ⟨i, hi, rfl, am_W_at hi, I.2.2.2.2.2.2.1 i hi⟩
  · exact Or.inr ⟨hL, I.2.2.2.2.2.2.2.1 L (am_kL_ge L hL)⟩
def o_ial : CF → Option CF := fun c => match c.2.2.1 with
  | .inl i :: .inr (.inr (.inr (.inr (some L)))) :: r => (match c.2.2.2.1 L with
    | .inl (0, n, .inl f) => if i < 0 ∨ n ≤ i.toNatClampNeg then none else some (c.1 + 1, c.2.1, aI (f i.toNatClampNeg) :: r, c.2.2.2)
    | _ => none)
  | _ => none
def o_bal : CF → Option CF := fun c => match c.2.2.1 with
  | .inl i :: .inr (.inr (.inr (.inr (some L)))) :: r => (match c.2.2.2.1 L with
    | .inl (2, n, .inl f) => if i < 0 ∨ n ≤ i.toNatClampNeg then none else some (c.1 + 1, c.2.1, aI (f i.toNatClampNeg) :: r, c.2.2.2)
    | _ => none)
  | _ => none
def o_lal : CF → Option CF := fun c => match c.2.2.1 with
  | .inl i :: .inr (.inr (.inr (.inr (some L)))) :: r => (match c.2.2.2.1 L with
    | .inl (1, n, .inr (.inl f)) => if i < 0 ∨ n ≤ i.toNatClampNeg then none else some (c.1 + 1, c.2.1, aL (f i.toNatClampNeg) :: r, c.2.2.2)
    | _ => none)
  | _ => none
def o_dal : CF → Option CF := fun c => match c.2.2.1 with
  | .inl i :: .inr (.inr (.inr (.inr (some L)))) :: r => (match c.2.2.2.1 L with
    | .inl (3, n, .inr (.inr (.inl f))) => if i < 0 ∨ n ≤ i.toNatClampNeg then none else some (c.1 + 1, c.2.1, aD (f i.toNatClampNeg) :: r, c.2.2.2)
    | _ => none)
  | _ => none
def o_aal (ty : Nat) : CF → Option CF := fun c => match c.2.2.1 with
  | .inl i :: .inr (.inr (.inr (.inr (some L)))) :: r => (match c.2.2.2.1 L with
    | .inl (ty', n, .inr (.inr (.inr f))) => if ty' = ty then (if i < 0 ∨ n ≤ i.toNatClampNeg then none else some (c.1 + 1, c.2.1, aR (f i.toNatClampNeg) :: r, c.2.2.2)) else none
    | _ => none)
  | _ => none
def o_aa8 : CF → Option CF := fun c => match c.2.2.1 with
  | .inl i :: .inr (.inr (.inr (.inr (some L)))) :: r => (match c.2.2.2.1 L with
    | .inl (8, n, .inr (.inr (.inr f))) => if i < 0 ∨ n ≤ i.toNatClampNeg ∨ L.1 < 90 then none else some (c.1 + 1, c.2.1, aR (f i.toNatClampNeg) :: r, c.2.2.2)
    | _ => none)
  | _ => none
def o_alen : CF → Option CF := fun c => match c.2.2.1 with
  | .inr (.inr (.inr (.inr (some L)))) :: r => (match c.2.2.2.1 L with
    | .inl (ty, n, _) => if ty < 8 ∨ 90 ≤ L.1 then some (c.1 + 1, c.2.1, aI (Int32.ofNat n) :: r, c.2.2.2) else none
    | _ => none)
  | _ => none
def o_get (ci k : Nat) : CF → Option CF := fun c => match c.2.2.1 with
  | .inr (.inr (.inr (.inr (some L)))) :: r => (match c.2.2.2.1 L with
    | .inr (ci', fs) => if ci' = ci then (match fs[k]? with
      | some v => some (c.1 + 3, c.2.1, v :: r, c.2.2.2)
      | none => none) else none
    | _ => none)
  | _ => none
theorem am_cas_i {xl : XL} : ∀ L ∈ am_kL, ∀ (n : Nat) (f : Nat → Int32), am_k xl L = .inl (0, n, .inl f) → (L, 0, n, fun j => aI (f j)) ∈ am_cas xl := by
  intro L hL n f h
  simp only [am_kL, List.mem_append, List.mem_cons, List.not_mem_nil, or_false, List.mem_map, List.mem_range] at hL
  rcases hL with ((((rfl | rfl | rfl | rfl | rfl | rfl) | ⟨k, hk, rfl⟩) | ⟨k, hk, rfl⟩) | ⟨k, hk, rfl⟩) <;> cases h <;> simp [am_cas]
theorem am_cas_b {xl : XL} : ∀ L ∈ am_kL, ∀ (n : Nat) (f : Nat → Int32), am_k xl L = .inl (2, n, .inl f) → (L, 2, n, fun j => aI (f j)) ∈ am_cas xl := by
  intro L hL n f h
  simp only [am_kL, List.mem_append, List.mem_cons, List.not_mem_nil, or_false, List.mem_map, List.mem_range] at hL
  rcases hL with ((((rfl | rfl | rfl | rfl | rfl | rfl) | ⟨k, hk, rfl⟩) | ⟨k, hk, rfl⟩) | ⟨k, hk, rfl⟩) <;> cases h
  refine List.mem_append_right _ (List.mem_map.mpr ⟨k, List.mem_range.mpr hk, rfl⟩)
theorem am_cas_a {xl : XL} : ∀ L ∈ am_kL, ∀ (ty n : Nat) (f : Nat → Option Lc), am_k xl L = .inl (ty, n, .inr (.inr (.inr f))) → ty = 8 ∧ (∀ j, j < n → am_rv 0 (aR (f j))) ∧ (L, 8, n, fun j => aR (f j)) ∈ am_cas xl := by
  intro L hL ty n f h
  simp only [am_kL, List.mem_append, List.mem_cons, List.not_mem_nil, or_false, List.mem_map, List.mem_range] at hL
  rcases hL with ((((rfl | rfl | rfl | rfl | rfl | rfl) | ⟨k, hk, rfl⟩) | ⟨k, hk, rfl⟩) | ⟨k, hk, rfl⟩) <;> cases h
  refine ⟨rfl, fun j hj => Or.inr ?_, by simp [am_cas]⟩
  simp [am_kL]
  exact hj
theorem am_cas_l {xl : XL} : ∀ L ∈ am_kL, ∀ (n : Nat) (f : Nat → Int64), am_k xl L ≠ .inl (1, n, .inr (.inl f)) := by
  intro L hL n f h
  simp only [am_kL, List.mem_append, List.mem_cons, List.not_mem_nil, or_false, List.mem_map, List.mem_range] at hL
  rcases hL with ((((rfl | rfl | rfl | rfl | rfl | rfl) | ⟨k, hk, rfl⟩) | ⟨k, hk, rfl⟩) | ⟨k, hk, rfl⟩) <;> cases h
theorem am_cas_d {xl : XL} : ∀ L ∈ am_kL, ∀ (n : Nat) (f : Nat → UInt64), am_k xl L ≠ .inl (3, n, .inr (.inr (.inl f))) := by
  intro L hL n f h
  simp only [am_kL, List.mem_append, List.mem_cons, List.not_mem_nil, or_false, List.mem_map, List.mem_range] at hL
  rcases hL with ((((rfl | rfl | rfl | rfl | rfl | rfl) | ⟨k, hk, rfl⟩) | ⟨k, hk, rfl⟩) | ⟨k, hk, rfl⟩) <;> cases h
theorem am_cas_o {xl : XL} : ∀ L ∈ am_kL, ∀ (ci : Nat) (fs : List AV), am_k xl L = .inr (ci, fs) → 20 ≤ ci := by
  intro L hL ci fs h
  simp only [am_kL, List.mem_append, List.mem_cons, List.not_mem_nil, or_false, List.mem_map, List.mem_range] at hL
  rcases hL with ((((rfl | rfl | rfl | rfl | rfl | rfl) | ⟨k, hk, rfl⟩) | ⟨k, hk, rfl⟩) | ⟨k, hk, rfl⟩) <;> cases h <;> decide
theorem ok_iaload (d : decode cc pc = .ok (.iaload, 1)) : am_ok own mn cc pc o_ial := by
  intro p l e R s m args below meth c nL A D dA cad xl Q X ls st h t c' hg hRf hRl n0 ad0 ad H locs ls' k n c0 s0 I hk hn hc hs kk
  unfold o_ial at hg
  split at hg
  · rename_i i L r hst
    dsimp only at hst hg
    subst hst
    split at hg
    · rename_i N f hL
      split at hg
      · cases hg
      · rename_i hin
        cases hg
        have K := kk ad H locs ls' k n (am_I_push (am_I_pop (am_I_pop I)) (am_rvI _ _)) hk hn
        rcases am_ref I (I.2.2.2.2.1 _ (List.mem_cons_of_mem _ List.mem_cons_self)) with ⟨j, hj, rfl, hW, -⟩ | ⟨hkL, h1, h2⟩
        · rw [hL] at hW
          exact va_iald X.1 X.2.1 X.2.2.2.2.2.2.2.2.1 I.1 j 0 hW (am_tys_at dA (by decide)) hin d K
        · rw [h1] at hL
          have hT := X.2.2.2.2.2.2.2.2.2.1.2.2.2.1 _ (am_cas_i L hkL N f hL)
          have K2 := va_ti (Q := Q) X.1 X.2.1 hT I.2.2.1 hin rfl d K
          rw [← h2] at K2
          exact K2
    · cases hg
  · cases hg
theorem ok_baload (d : decode cc pc = .ok (.baload, 1)) : am_ok own mn cc pc o_bal := by
  intro p l e R s m args below meth c nL A D dA cad xl Q X ls st h t c' hg hRf hRl n0 ad0 ad H locs ls' k n c0 s0 I hk hn hc hs kk
  unfold o_bal at hg
  split at hg
  · rename_i i L r hst
    dsimp only at hst hg
    subst hst
    split at hg
    · rename_i N f hL
      split at hg
      · cases hg
      · rename_i hin
        cases hg
        have K := kk ad H locs ls' k n (am_I_push (am_I_pop (am_I_pop I)) (am_rvI _ _)) hk hn
        rcases am_ref I (I.2.2.2.2.1 _ (List.mem_cons_of_mem _ List.mem_cons_self)) with ⟨j, hj, rfl, hW, -⟩ | ⟨hkL, h1, h2⟩
        · rw [hL] at hW
          exact va_bald X.1 X.2.1 X.2.2.2.2.2.2.2.2.1 I.1 j 2 hW (am_tys_at dA (by decide)) hin d K
        · rw [h1] at hL
          have hT := X.2.2.2.2.2.2.2.2.2.1.2.2.2.1 _ (am_cas_b L hkL N f hL)
          have K2 := va_tb (Q := Q) X.1 X.2.1 hT I.2.2.1 hin rfl d K
          rw [← h2] at K2
          exact K2
    · cases hg
  · cases hg
theorem ok_laload (d : decode cc pc = .ok (.laload, 1)) : am_ok own mn cc pc o_lal := by
  intro p l e R s m args below meth c nL A D dA cad xl Q X ls st h t c' hg hRf hRl n0 ad0 ad H locs ls' k n c0 s0 I hk hn hc hs kk
  unfold o_lal at hg
  split at hg
  · rename_i i L r hst
    dsimp only at hst hg
    subst hst
    split at hg
    · rename_i N f hL
      split at hg
      · cases hg
      · rename_i hin
        cases hg
        have K := kk ad H locs ls' k n (am_I_push (am_I_pop (am_I_pop I)) (am_rvL _ _)) hk hn
        rcases am_ref I (I.2.2.2.2.1 _ (List.mem_cons_of_mem _ List.mem_cons_self)) with ⟨j, hj, rfl, hW, -⟩ | ⟨hkL, h1, h2⟩
        · rw [hL] at hW
          exact va_lald X.1 X.2.1 X.2.2.2.2.2.2.2.2.1 I.1 j 1 hW (am_tys_at dA (by decide)) hin d K
        · rw [h1] at hL
          exact absurd hL (am_cas_l L hkL N f)
    · cases hg
  · cases hg
theorem ok_daload (d : decode cc pc = .ok (.daload, 1)) : am_ok own mn cc pc o_dal := by
  intro p l e R s m args below meth c nL A D dA cad xl Q X ls st h t c' hg hRf hRl n0 ad0 ad H locs ls' k n c0 s0 I hk hn hc hs kk
  unfold o_dal at hg
  split at hg
  · rename_i i L r hst
    dsimp only at hst hg
    subst hst
    split at hg
    · rename_i N f hL
      split at hg
      · cases hg
      · rename_i hin
        cases hg
        have K := kk ad H locs ls' k n (am_I_push (v := aD (f i.toNatClampNeg)) (am_I_pop (am_I_pop I)) trivial) hk hn
        rcases am_ref I (I.2.2.2.2.1 _ (List.mem_cons_of_mem _ List.mem_cons_self)) with ⟨j, hj, rfl, hW, -⟩ | ⟨hkL, h1, h2⟩
        · rw [hL] at hW
          exact va_dald X.1 X.2.1 X.2.2.2.2.2.2.2.2.1 I.1 j 3 hW (am_tys_at dA (by decide)) hin d K
        · rw [h1] at hL
          exact absurd hL (am_cas_d L hkL N f)
    · cases hg
  · cases hg
theorem am_tyR : ∀ k, 4 ≤ k → (am_tyT k).isReference = true
  | 0, h => absurd h (by decide)
  | 1, h => absurd h (by decide)
  | 2, h => absurd h (by decide)
  | 3, h => absurd h (by decide)
  | 4, _ => rfl
  | 5, _ => rfl
  | 6, _ => rfl
  | 7, _ => rfl
  | n + 8, _ => rfl
theorem ok_aaload {ty : Nat} (hty : 4 ≤ ty ∧ ty < 8) (d : decode cc pc = .ok (.aaload, 1)) : am_ok own mn cc pc (o_aal ty) := by
  intro p l e R s m args below meth c nL A D dA cad xl Q X ls st h t c' hg hRf hRl n0 ad0 ad H locs ls' k n c0 s0 I hk hn hc hs kk
  unfold o_aal at hg
  split at hg
  · rename_i i L r hst
    dsimp only at hst hg
    subst hst
    split at hg
    · rename_i ty' N f hL
      split at hg
      · rename_i hq
        subst hq
        split at hg
        · cases hg
        · rename_i hin
          cases hg
          have hlt : i.toNatClampNeg < N := Nat.not_le.mp fun q => hin (Or.inr q)
          rcases am_ref I (I.2.2.2.2.1 _ (List.mem_cons_of_mem _ List.mem_cons_self)) with ⟨j, hj, rfl, hW, hrc⟩ | ⟨hkL, h1, h2⟩
          · rw [hL] at hW hrc
            have K := kk ad H locs ls' k n (am_I_push (v := aR (f i.toNatClampNeg)) (am_I_pop (am_I_pop I)) (hrc _)) hk hn
            have hAr := (X.2.2.2.2.2.2.2.2.1.2 _ _ (am_tys_at dA hty.2)).1
            exact W.aald (v := va_rf ((f i.toNatClampNeg).map ad)) (ty := am_tyT ty') X.1 X.2.1 (I.1 j _ hW) (hAr N (fun j => va_rf ((f j).map ad))) (am_tyR ty' hty.1) (fun q => by cases q) (by show ¬ (i < 0 ∨ (arrV _ _ _).slots.size ≤ _); rw [arrV_size]; exact hin) (by show (arrV _ _ _).slots[_]? = _; rw [arrV_read _ _ hlt]) rfl rfl d K
          · rw [h1] at hL
            have := (am_cas_a L hkL ty' N f hL).1
            omega
      · cases hg
    · cases hg
  · cases hg
/-- the array of all commands -/
theorem ok_aaload8 (d : decode cc pc = .ok (.aaload, 1)) : am_ok own mn cc pc o_aa8 := by
  intro p l e R s m args below meth c nL A D dA cad xl Q X ls st h t c' hg hRf hRl n0 ad0 ad H locs ls' k n c0 s0 I hk hn hc hs kk
  unfold o_aa8 at hg
  split at hg
  · rename_i i L r hst
    dsimp only at hst hg
    subst hst
    split at hg
    · rename_i N f hL
      split at hg
      · cases hg
      · rename_i hin
        cases hg
        have hlt : i.toNatClampNeg < N := Nat.not_le.mp fun q => hin (Or.inr (Or.inl q))
        rcases am_ref I (I.2.2.2.2.1 _ (List.mem_cons_of_mem _ List.mem_cons_self)) with ⟨j, hj, rfl, hW, hrc⟩ | ⟨hkL, h1, h2⟩
        · exact absurd (am_al_lt j) (fun q => hin (Or.inr (Or.inr q)))
        · rw [h1] at hL
          obtain ⟨-, hr, hm⟩ := am_cas_a L hkL 8 N f hL
          have K := kk ad H locs ls' k n (am_I_push (v := aR (f i.toNatClampNeg)) (am_I_pop (am_I_pop I)) (am_rv_mono (Nat.zero_le _) (hr _ hlt))) hk hn
          have hT := X.2.2.2.2.2.2.2.2.2.1.2.2.2.1 _ hm
          obtain ⟨cell, q1, q2, q3, q4, q5, q6, q7⟩ := hT
          have hcell : H[cad L]? = some cell := by rw [I.2.2.1.2.1 _ (Array.getElem?_eq_some_iff.mp q1).1 q7]; exact q1
          have hval : cell.slots[i.toNatClampNeg]? = some (va_rf ((f i.toNatClampNeg).map ad)) := by
            rw [q6 _ hlt]
            have e := am_cv_ad (n := 0) (ad := cad) (ad' := ad) (fun i hi => absurd hi (Nat.not_lt_zero _)) (fun L hL => (I.2.2.2.2.2.2.2.1 L hL).2) (hr _ hlt)
            exact congrArg some e.symm
          have K2 := W.aald (Q := Q) (v := va_rf ((f i.toNatClampNeg).map ad)) (ty := am_tyT 8) (g := F0 m pc ls' (.int i :: .ref (cad L) :: r.map (am_cv ad))) X.1 X.2.1 hcell q2 rfl q3 (fun z => by
            rcases z with z | z
            · exact hin (Or.inl z)
            · exact hin (Or.inr (Or.inl (Nat.le_trans q4 z)))) hval rfl rfl d K
          rw [← h2] at K2
          exact K2
    · cases hg
  · cases hg
theorem am_C_T {p : Program} {l : Launch} {s : State} {m : MethodId} {args : Array Value} {meth : Method} {c : Code} {nL : Nat} {A : Nat → Prop} {D : va_G} {dA : Nat → ClassId} {cad : Lc → Nat} {xl : XL} (X : am_X p l s m args meth c own mn cc nL A D dA cad xl) : ∀ q ∈ am_cas xl, va_T (am_tyT q.2.1) (cad q.1) q.2.2.1 (fun j => am_cv cad (q.2.2.2 j)) A s s.heap := X.2.2.2.2.2.2.2.2.2.1.2.2.2.1
theorem am_kAny {xl : XL} : ∀ L ∈ am_kL, ∀ (ty n : Nat) (b : AB), am_k xl L = .inl (ty, n, b) → ∃ f : Nat → AV, (L, ty, n, f) ∈ am_cas xl := by
  intro L hL ty n b h
  simp only [am_kL, List.mem_append, List.mem_cons, List.not_mem_nil, or_false, List.mem_map, List.mem_range] at hL
  rcases hL with ((((rfl | rfl | rfl | rfl | rfl | rfl) | ⟨k, hk, rfl⟩) | ⟨k, hk, rfl⟩) | ⟨k, hk, rfl⟩) <;> cases h
  · exact ⟨_, by simp only [am_cas, List.cons_append, List.nil_append]; exact List.mem_cons_self⟩
  · exact ⟨_, by simp only [am_cas, List.cons_append, List.nil_append]; exact List.mem_cons_of_mem _ List.mem_cons_self⟩
  · exact ⟨_, by simp only [am_cas, List.cons_append, List.nil_append]; exact List.mem_cons_of_mem _ (List.mem_cons_of_mem _ List.mem_cons_self)⟩
  · exact ⟨_, by simp only [am_cas, List.cons_append, List.nil_append]; exact List.mem_cons_of_mem _ (List.mem_cons_of_mem _ (List.mem_cons_of_mem _ List.mem_cons_self))⟩
  · exact ⟨_, by simp only [am_cas, List.cons_append, List.nil_append]; exact List.mem_cons_of_mem _ (List.mem_cons_of_mem _ (List.mem_cons_of_mem _ (List.mem_cons_of_mem _ List.mem_cons_self)))⟩
  · exact ⟨_, List.mem_append_right _ (List.mem_map.mpr ⟨k, List.mem_range.mpr hk, rfl⟩)⟩
theorem ok_arraylength (d : decode cc pc = .ok (.arraylength, 1)) : am_ok own mn cc pc o_alen := by
  intro p l e R s m args below meth c nL A D dA cad xl Q X ls st h t c' hg hRf hRl n0 ad0 ad H locs ls' k n c0 s0 I hk hn hc hs kk
  unfold o_alen at hg
  split at hg
  · rename_i L r hst
    dsimp only at hst hg
    subst hst
    split at hg
    · rename_i ty N b hL
      split at hg
      · rename_i hq
        cases hg
        have K := kk ad H locs ls' k n (am_I_push (am_I_pop I) (am_rvI _ _)) hk hn
        rcases am_ref I (I.2.2.2.2.1 _ List.mem_cons_self) with ⟨j, hj, rfl, hW, -⟩ | ⟨hkL, h1, h2⟩
        · rw [hL] at hW
          have hty : ty < 8 := by
            rcases hq with q | q
            · exact q
            · exact absurd (am_al_lt j) (by omega)
          exact va_alen X.1 X.2.1 X.2.2.2.2.2.2.2.2.1 I.1 j ty hW (am_tys_at dA hty) rfl d K
        · rw [h1] at hL
          obtain ⟨f, hm⟩ := am_kAny L hkL ty N b hL
          have K2 := va_tlen (Q := Q) X.1 X.2.1 (am_C_T X _ hm) I.2.2.1 rfl d K
          rw [← h2] at K2
          exact K2
      · cases hg
    · cases hg
  · cases hg
theorem ok_getfield {ci k idx N : Nat} {C : String} {T : u_T} (d : decode cc pc = .ok (.getfield idx, 3)) (hci : ci < 20) (hcl : vwCl[ci]? = some (C, T, N)) (hk : k < N) (hw : ∀ w ∈ u_ws C T N, w ∈ am_G) (hl : Cond.fieldLink own idx (T k).1 (T k).2.1 (T k).2.2.1 ∈ am_G) : am_ok own mn cc pc (o_get ci k) := by
  intro p l e R s m args below meth c nL A D dA cad xl Q X ls st h t c' hg hRf hRl n0 ad0 ad H locs ls' k' n c0 s0 I hk' hn hc hs kk
  unfold o_get at hg
  split at hg
  · rename_i L r hst
    dsimp only at hst hg
    subst hst
    split at hg
    · rename_i ci' fs hL
      split at hg
      · rename_i hq
        subst hq
        split at hg
        · rename_i v hv
          cases hg
          rcases am_ref I (I.2.2.2.2.1 _ List.mem_cons_self) with ⟨j, hj, rfl, hW, hrc⟩ | ⟨hkL, h1, h2⟩
          · rw [hL] at hW hrc
            have K := kk ad H locs ls' k' n (am_I_push (am_I_pop I) (hrc v (List.mem_of_getElem? hv))) hk' hn
            exact va_get X.1 X.2.1 X.2.2.2.2.1 hw X.2.2.2.1 X.2.2.2.2.2.2.2.2.1 I.1 j hW hcl k hk (X.2.2.2.2.1 _ hl) (fun x hx => hx) (v := am_cv ad v) (by rw [List.getElem?_map, hv]; rfl) d K
          · rw [h1] at hL
            have := am_cas_o L hkL _ _ hL
            omega
        · cases hg
      · cases hg
    · cases hg
  · cases hg
theorem ok_getfieldN {ci k idx N : Nat} {C host : String} {T : u_T} (d : decode cc pc = .ok (.getfield idx, 3)) (hci : ci < 20) (hcl : vwCl[ci]? = some (C, T, N)) (hk : k < N) (hw : ∀ w ∈ u_ws C T N, w ∈ am_G) (hl : Cond.fieldLinkNest own idx (T k).1 (T k).2.1 (T k).2.2.1 host ∈ am_NW) : am_ok own mn cc pc (o_get ci k) := by
  intro p l e R s m args below meth c nL A D dA cad xl Q X ls st h t c' hg hRf hRl n0 ad0 ad H locs ls' k' n c0 s0 I hk' hn hc hs kk
  unfold o_get at hg
  split at hg
  · rename_i L r hst
    dsimp only at hst hg
    subst hst
    split at hg
    · rename_i ci' fs hL
      split at hg
      · rename_i hq
        subst hq
        split at hg
        · rename_i v hv
          cases hg
          rcases am_ref I (I.2.2.2.2.1 _ List.mem_cons_self) with ⟨j, hj, rfl, hW, hrc⟩ | ⟨hkL, h1, h2⟩
          · rw [hL] at hW hrc
            have K := kk ad H locs ls' k' n (am_I_push (am_I_pop I) (hrc v (List.mem_of_getElem? hv))) hk' hn
            exact va_getN X.1 X.2.1 X.2.2.2.2.1 hw X.2.2.2.1 X.2.2.2.2.2.2.2.2.1 I.1 j hW hcl k hk (va_Nw.use rfl (X.2.2.2.2.2.2.2.2.2.2.2.1.1 _ hl)) (fun x hx => hx) (v := am_cv ad v) (by rw [List.getElem?_map, hv]; rfl) d K
          · rw [h1] at hL
            have := am_cas_o L hkL _ _ hL
            omega
        · cases hg
      · cases hg
    · cases hg
  · cases hg
/-- a field of a constant object -/
theorem ok_getfieldK {ci k idx : Nat} {o nm ds : String} (d : decode cc pc = .ok (.getfield idx, 3)) (hci : 11 ≤ ci) (hcf : ∀ (xl : XL), ∀ L ∈ am_kL, ∀ (fs : List AV) (v : AV), am_k xl L = .inr (ci, fs) → fs[k]? = some v → (o, nm, ds, L, v) ∈ am_cfs ∧ am_rv 0 v) (hl : Cond.fieldLink own idx o nm ds ∈ am_G) : am_ok own mn cc pc (o_get ci k) := by
  intro p l e R s m args below meth c nL A D dA cad xl Q X ls st h t c' hg hRf hRl n0 ad0 ad H locs ls' k' n c0 s0 I hk' hn hc hs kk
  unfold o_get at hg
  split at hg
  · rename_i L r hst
    dsimp only at hst hg
    subst hst
    split at hg
    · rename_i ci' fs hL
      split at hg
      · rename_i hq
        subst hq
        split at hg
        · rename_i v hv
          cases hg
          rcases am_ref I (I.2.2.2.2.1 _ List.mem_cons_self) with ⟨j, hj, rfl, hW, hrc⟩ | ⟨hkL, h1, h2⟩
          · rw [hL] at hW
            obtain ⟨r', h1, -⟩ := I.1 j _ hW
            have := (List.getElem?_eq_some_iff.mp h1).1
            have : ci' < 11 := this
            omega
          · rw [h1] at hL
            obtain ⟨hm, hr⟩ := hcf xl L hkL fs v hL hv
            have K := kk ad H locs ls' k' n (am_I_push (am_I_pop I) (am_rv_mono (Nat.zero_le _) hr)) hk' hn
            have e := am_cv_ad (n := 0) (ad := cad) (ad' := ad) (fun i hi => absurd hi (Nat.not_lt_zero _)) (fun L hL => (I.2.2.2.2.2.2.2.1 L hL).2) hr
            have hE := X.2.2.2.2.2.2.2.2.2.1.1 _ hm
            dsimp only at hE
            rw [← e, ← h2] at hE
            exact vk_getf X.1 X.2.1 hE I.2.2.1 X.2.2.2.1 (X.2.2.2.2.1 _ hl) (fun x hx => hx) d K
        · cases hg
      · cases hg
    · cases hg
  · cases hg
def o_gst (f : XL → AV) (xl : XL) : CF → Option CF := fun c => some (c.1 + 3, c.2.1, f xl :: c.2.2.1, c.2.2.2)
end AMR
