/-! OPERATIONS, I: stack and locals -/
def am_G : List Cond := lw_tbl.filter goodWord
theorem am_G_good {w : Cond} (h : w ∈ am_G) : goodWord w = true := (List.mem_filter.mp h).2
theorem am_G_in {w : Cond} {i : Nat} (h : lw_tbl[i]? = some w) (g : goodWord w = true) : w ∈ am_G := List.mem_filter.mpr ⟨List.mem_of_getElem? h, g⟩
/-- words that only warm tables keep -/
def am_nw : Cond → Bool
  | .fieldLinkNest _ _ _ _ _ _ => true
  | .methodLinkNest _ _ _ _ => true
  | .declares _ => true
  | .castable _ _ => true
  | .arrayOver (.object _) => true
  | .arrayOver (.array _) => true
  | _ => false
def am_NW : List Cond := lw_tbl.filter am_nw
theorem am_NW_in {w : Cond} {i : Nat} (h : lw_tbl[i]? = some w) (g : am_nw w = true) : w ∈ am_NW := List.mem_filter.mpr ⟨List.mem_of_getElem? h, g⟩
theorem am_nw_warm {w : Cond} {s U : State} (hW : s.WarmedH U.vm) (hn : am_nw w = true) (h : va_Nw w s) : va_Nw w U := by
  unfold am_nw at hn
  split at hn
  · exact va_Nw.warmF hW h
  · exact va_Nw.warmM hW h
  · exact va_Nw.warmD hW h
  · exact va_Nw.warmC hW h
  · exact va_AO.moved hW.alike h
  · exact over_moved hW.alike h
  · cases hn
def am_txt (k : Nat) : String := ["new", "add", "put", "insert", "remove", "join", "rule", "skip", "price", "repeat", "pack", "row", "price", "fill"].getD k ""
def am_exn : Nat → String
  | 0 => "java/lang/IllegalStateException"
  | 1 => "java/lang/IllegalArgumentException"
  | _ => "java/lang/IndexOutOfBoundsException"
def am_V (cad : Lc → Nat) (s : State) : Prop := ((∀ w ∈ am_NW, va_Nw w s) ∧ ∀ a b : Nat, a < 3 → b < 3 → a ≠ b → va_Nc (am_exn a) (am_exn b) s) ∧ ∀ k, k < 14 → vk_R (am_strs.getD k ("", 0, [])).1 (am_strs.getD k ("", 0, [])).2.1 (am_txt k) (cad (94, k, 0)) s
theorem am_V.warm {cad : Lc → Nat} {s U : State} (hW : s.WarmedH U.vm) (h : am_V cad s) : am_V cad U := ⟨⟨fun w hw => am_nw_warm hW (List.mem_filter.mp hw).2 (h.1.1 w hw), fun a b ha hb hab => (h.1.2 a b ha hb hab).moved hW.alike⟩, fun k hk => (h.2 k hk).warm hW⟩
theorem am_V.same {cad : Lc → Nat} {s U : State} (hv : U.vm = s.vm) (h : am_V cad s) : am_V cad U := h.warm (by rw [hv]; exact State.WarmedH.refl s)
/-- what holds of a method's run as long as it stands -/
def am_X (p : Program) (l : Launch) (s : State) (m : MethodId) (args : Array Value) (meth : Method) (c : Code) (own mn : String) (cc : ByteArray) (nL : Nat) (A : Nat → Prop) (D : va_G) (dA : Nat → ClassId) (cad : Lc → Nat) (xl : XL) : Prop :=
  p.tables.exec = Jvm.exec ∧ c.code = cc ∧ c.maxLocals = nL ∧ s.vm.findClass own = some m.cls ∧ (∀ w ∈ am_G, w.before args s = true) ∧ meth.locks = false ∧ (∀ q, s.heap.size ≤ q → A q) ∧ l.stackTraces = false ∧ va_K D vwCl (am_tys dA) s ∧ am_C xl cad A s s.heap ∧ meth.name = mn ∧ am_V cad s
/-- what holds at a place of it -/
def am_I (D : va_G) (dA : Nat → ClassId) (cad : Lc → Nat) (xl : XL) (A : Nat → Prop) (H0 : Heap) (nL n0 : Nat) (ad0 ad : Lc → Nat) (n : Nat) (ls : AS) (st : List AV) (h : AH) (H : Heap) (locs : List Loc) (ls' : Array Slot) : Prop :=
  va_P D vwCl (am_W dA ad n h) H ∧ va_D A (am_W dA ad n h) ∧ va_S A H0 H locs ∧ am_L ad ls ls' nL ∧ (∀ v ∈ st, am_rv n v) ∧ (∀ (i : Nat) (v : AV), ls[i]? = some (some v) → am_rv n v) ∧ (∀ i, i < n → am_rc n (h (am_al i))) ∧
  (∀ L : Lc, 90 ≤ L.1 → h L = am_k xl L ∧ ad L = cad L) ∧ n0 ≤ n ∧ (∀ i, i < n0 → ad (am_al i) = ad0 (am_al i)) ∧ ∀ L : Lc, 90 ≤ L.1 → ad0 L = cad L
/-- an operation that goes on within the method: the machine does the same -/
def am_ok (own mn : String) (cc : ByteArray) (pc : Nat) (g : CF → Option CF) : Prop :=
  ∀ (p : Program) (l : Launch) (e : Env) (R : Room) (s : State) (m : MethodId) (args : Array Value) (below : List Frame) (meth : Method) (c : Code) (nL : Nat) (A : Nat → Prop) (D : va_G) (dA : Nat → ClassId) (cad : Lc → Nat) (xl : XL) (Q : State → Prop), am_X p l s m args meth c own mn cc nL A D dA cad xl →
  ∀ (ls : AS) (st : List AV) (h : AH) (t : KT) (c' : CF), g (pc, ls, st, h, t) = some c' →
  8 ≤ R.frames → 200 ≤ R.locals → ∀ (n0 : Nat) (ad0 ad : Lc → Nat) (H : Heap) (locs : List Loc) (ls' : Array Slot) (k n c0 s0 : Nat), am_I D dA cad xl A s.heap nL n0 ad0 ad t.1 ls st h H locs ls' → k + c0 = t.2.1 → n + s0 = t.2.2 → c'.2.2.2.2.2.1 ≤ c0 + R.cells → c'.2.2.2.2.2.2 ≤ s0 + R.slots →
  (∀ (ad' : Lc → Nat) (H' : Heap) (locs' : List Loc) (ls'' : Array Slot) (k' n' : Nat), am_I D dA cad xl A s.heap nL n0 ad0 ad' c'.2.2.2.2.1 c'.2.1 c'.2.2.1 c'.2.2.2.1 H' locs' ls'' → k' + c0 = c'.2.2.2.2.2.1 → n' + s0 = c'.2.2.2.2.2.2 → W p l e R s m args below meth c H' locs' k' n' Q (F0 m c'.1 ls'' (c'.2.2.1.map (am_cv ad')))) →
  W p l e R s m args below meth c H locs k n Q (F0 m pc ls' (st.map (am_cv ad)))
/-- one instruction of the stack alone -/
def am_row (own mn : String) (cc : ByteArray) (pc pc' : Nat) (sv sv' : List Value) : Prop :=
  ∀ (p : Program) (l : Launch) (e : Env) (R : Room) (s : State) (m : MethodId) (args : Array Value) (below : List Frame) (meth : Method) (c : Code) (nL : Nat) (A : Nat → Prop) (D : va_G) (dA : Nat → ClassId) (cad : Lc → Nat) (xl : XL) (Q : State → Prop), am_X p l s m args meth c own mn cc nL A D dA cad xl →
  ∀ (H : Heap) (locs : List Loc) (ls : Array Slot) (k n : Nat) (rest : List Value), ls.size = nL → va_S A s.heap H locs → W p l e R s m args below meth c H locs k n Q (F0 m pc' ls (sv' ++ rest)) → W p l e R s m args below meth c H locs k n Q (F0 m pc ls (sv ++ rest))
def o_stk (f : Nat → List AV → Option (Nat × List AV)) : CF → Option CF := fun c => match f c.1 c.2.2.1 with
  | none => none
  | some r => some (r.1, c.2.1, r.2, c.2.2.2)
theorem am_stk {own mn : String} {cc : ByteArray} {pc : Nat} {f : Nat → List AV → Option (Nat × List AV)} (hf : ∀ (st : List AV) (r : Nat × List AV), f pc st = some r → (∀ n, (∀ v ∈ st, am_rv n v) → ∀ v ∈ r.2, am_rv n v) ∧ ∀ (cad ad : Lc → Nat) (hk : ∀ L : Lc, 90 ≤ L.1 → ad L = cad L), am_row own mn cc pc r.1 (st.map (am_cv ad)) (r.2.map (am_cv ad))) : am_ok own mn cc pc (o_stk f) := by
  intro p l e R s m args below meth c nL A D dA cad xl Q X ls st h t c' hg hRf hRl n0 ad0 ad H locs ls' k n c0 s0 I hk hn hc hs kk
  unfold o_stk at hg
  split at hg
  · cases hg
  · rename_i r hr
    cases hg
    obtain ⟨h1, h2⟩ := hf st r hr
    obtain ⟨i1, i2, i3, i4, i5, i6, i7, i8, i9⟩ := id I
    have := h2 cad ad (fun L hL => (i8 L hL).2) p l e R s m args below meth c nL A D dA cad xl Q X H locs ls' k n [] i4.1 i3
    rw [List.append_nil, List.append_nil] at this
    exact this (kk ad H locs ls' k n ⟨i1, i2, i3, i4, h1 _ i5, i6, i7, i8, i9⟩ hk hn)
/-- a row at a place of the stack -/
theorem am_row.at {own mn : String} {cc : ByteArray} {pc pc' : Nat} {sv sv' : List Value} (h : am_row own mn cc pc pc' sv sv') (r : List Value) : am_row own mn cc pc pc' (sv ++ r) (sv' ++ r) := by
  intro p l e R s m args below meth c nL A D dA cad xl Q X H locs ls k n rest hz hS kk
  rw [List.append_assoc] at kk ⊢
  exact h p l e R s m args below meth c nL A D dA cad xl Q X H locs ls k n (r ++ rest) hz hS kk
theorem am_rvI (n : Nat) (x : Int32) : am_rv n (aI x) := trivial
theorem am_rvL (n : Nat) (x : Int64) : am_rv n (aL x) := trivial
def am_pl : AV → Bool
  | .inr (.inr (.inr (.inr (some _)))) => false
  | _ => true
theorem am_pl_rv {v : AV} (h : am_pl v = true) (n : Nat) : am_rv n v := by
  rcases v with x | x | x | x | r <;> try trivial
  cases r
  · trivial
  · cases h

def f_push (len : Nat) (v : AV) : Nat → List AV → Option (Nat × List AV) := fun pc st => some (pc + len, v :: st)
theorem am_push {own mn : String} {cc : ByteArray} {pc len : Nat} {v : AV} (hv : am_pl v = true) (hr : ∀ ad : Lc → Nat, am_row own mn cc pc (pc + len) [] [am_cv ad v]) : am_ok own mn cc pc (o_stk (f_push len v)) := by
  refine am_stk fun st r h => ?_
  cases h
  refine ⟨fun n h w hw => ?_, fun cad ad _ => (hr ad).at _⟩
  rcases List.mem_cons.mp hw with rfl | hw
  · exact am_pl_rv hv n
  · exact h w hw

theorem ok_iconst {own mn : String} {cc : ByteArray} {pc : Nat} {n : Int} {v : Int32} (d : decode cc pc = .ok (.iconst n, 1)) (hv : Int32.ofInt n = v) : am_ok own mn cc pc (o_stk (f_push 1 (aI v))) :=
  am_push rfl fun ad p l e R s m args below meth c nL A D dA cad xl Q X H locs ls k n rest hz hS kk => lv_iconst X.1 X.2.1 d hv kk
theorem ok_bipush {own mn : String} {cc : ByteArray} {pc : Nat} {n : Int} {v : Int32} (d : decode cc pc = .ok (.bipush n, 2)) (hv : (Int8.ofInt n).toInt32 = v) : am_ok own mn cc pc (o_stk (f_push 2 (aI v))) :=
  am_push rfl fun ad p l e R s m args below meth c nL A D dA cad xl Q X H locs ls k n rest hz hS kk => lv_bipush X.1 X.2.1 d hv kk
theorem ok_sipush {own mn : String} {cc : ByteArray} {pc : Nat} {n : Int} {v : Int32} (d : decode cc pc = .ok (.sipush n, 3)) (hv : (Int16.ofInt n).toInt32 = v) : am_ok own mn cc pc (o_stk (f_push 3 (aI v))) :=
  am_push rfl fun ad p l e R s m args below meth c nL A D dA cad xl Q X H locs ls k n rest hz hS kk => lv_sipush X.1 X.2.1 d hv kk
theorem ok_lconst {own mn : String} {cc : ByteArray} {pc : Nat} {n : Fin 2} {v : Int64} (d : decode cc pc = .ok (.lconst n, 1)) (hv : Int64.ofNat (n : Nat) = v) : am_ok own mn cc pc (o_stk (f_push 1 (aL v))) :=
  am_push rfl fun ad p l e R s m args below meth c nL A D dA cad xl Q X H locs ls k n rest hz hS kk => lv_lconst X.1 X.2.1 d hv kk
theorem ok_fconst1 {own mn : String} {cc : ByteArray} {pc : Nat} (d : decode cc pc = .ok (.fconst 1, 1)) : am_ok own mn cc pc (o_stk (f_push 1 (aF FP.fconst1))) :=
  am_push rfl fun ad p l e R s m args below meth c nL A D dA cad xl Q X H locs ls k n rest hz hS kk => lv_fconst1 X.1 X.2.1 d kk
theorem ok_dconst0 {own mn : String} {cc : ByteArray} {pc : Nat} (d : decode cc pc = .ok (.dconst 0, 1)) : am_ok own mn cc pc (o_stk (f_push 1 (aD FP.dconst0))) :=
  am_push rfl fun ad p l e R s m args below meth c nL A D dA cad xl Q X H locs ls k n rest hz hS kk => lv_dconst0 X.1 X.2.1 d kk
theorem ok_ldc {own mn : String} {cc : ByteArray} {pc : Nat} {i : Nat} {v : Int32} (d : decode cc pc = .ok (.ldc i, 2)) (hw : Cond.constant own i v ∈ am_G) : am_ok own mn cc pc (o_stk (f_push 2 (aI v))) :=
  am_push rfl fun ad p l e R s m args below meth c nL A D dA cad xl Q X H locs ls k n rest hz hS kk => lv_ldc X.1 X.2.1 X.2.2.2.1 (X.2.2.2.2.1 _ hw) d kk
theorem ok_ldcw {own mn : String} {cc : ByteArray} {pc : Nat} {i : Nat} {v : Int32} (d : decode cc pc = .ok (.ldc_w i, 3)) (hw : Cond.constant own i v ∈ am_G) : am_ok own mn cc pc (o_stk (f_push 3 (aI v))) :=
  am_push rfl fun ad p l e R s m args below meth c nL A D dA cad xl Q X H locs ls k n rest hz hS kk => lv_ldcw X.1 X.2.1 X.2.2.2.1 (X.2.2.2.2.1 _ hw) d kk
theorem ok_ldc2 {own mn : String} {cc : ByteArray} {pc : Nat} {i : Nat} {v : Int64} (d : decode cc pc = .ok (.ldc2_w i, 3)) (hw : Cond.constantLong own i v ∈ am_G) : am_ok own mn cc pc (o_stk (f_push 3 (aL v))) :=
  am_push rfl fun ad p l e R s m args below meth c nL A D dA cad xl Q X H locs ls k n rest hz hS kk => lv_ldc2 X.1 X.2.1 X.2.2.2.1 (X.2.2.2.2.1 _ hw) d kk
theorem ok_ldcS0 {own mn : String} {cc : ByteArray} {pc : Nat} {i : Nat} {v : Int32} (d : decode cc pc = .ok (.ldc i, 2)) (hw : Cond.constant own i v ∈ am_G) : am_ok own mn cc pc (o_stk (f_push 2 (aI v))) :=
  am_push rfl fun ad p l e R s m args below meth c nL A D dA cad xl Q X H locs ls k n rest hz hS kk => lv_ldc X.1 X.2.1 X.2.2.2.1 (X.2.2.2.2.1 _ hw) d kk
theorem ok_null {own mn : String} {cc : ByteArray} {pc : Nat} (d : decode cc pc = .ok (.aconst_null, 1)) : am_ok own mn cc pc (o_stk (f_push 1 (aR none))) :=
  am_push rfl fun ad p l e R s m args below meth c nL A D dA cad xl Q X H locs ls k n rest hz hS kk => lv_null X.1 X.2.1 d kk
def f_i1 (g : Int32 → AV) : Nat → List AV → Option (Nat × List AV) := fun pc st => match st with
  | .inl x :: r => some (pc + 1, g x :: r)
  | _ => none
def f_i2 (g : Int32 → Int32 → AV) : Nat → List AV → Option (Nat × List AV) := fun pc st => match st with
  | .inl y :: .inl x :: r => some (pc + 1, g x y :: r)
  | _ => none
def f_dv (g : Int32 → Int32 → AV) : Nat → List AV → Option (Nat × List AV) := fun pc st => match st with
  | .inl y :: .inl x :: r => if y = 0 then none else some (pc + 1, g x y :: r)
  | _ => none
def f_l1 (g : Int64 → AV) : Nat → List AV → Option (Nat × List AV) := fun pc st => match st with
  | .inr (.inl x) :: r => some (pc + 1, g x :: r)
  | _ => none
def f_l2 (g : Int64 → Int64 → AV) : Nat → List AV → Option (Nat × List AV) := fun pc st => match st with
  | .inr (.inl y) :: .inr (.inl x) :: r => some (pc + 1, g x y :: r)
  | _ => none
def f_lI (g : Int64 → Int32 → AV) : Nat → List AV → Option (Nat × List AV) := fun pc st => match st with
  | .inl y :: .inr (.inl x) :: r => some (pc + 1, g x y :: r)
  | _ => none
def f_d2 (g : UInt64 → UInt64 → AV) : Nat → List AV → Option (Nat × List AV) := fun pc st => match st with
  | .inr (.inr (.inr (.inl y))) :: .inr (.inr (.inr (.inl x))) :: r => some (pc + 1, g x y :: r)
  | _ => none
theorem am_i1 {own mn : String} {cc : ByteArray} {pc : Nat} {g : Int32 → AV} (hg : ∀ x, am_pl (g x) = true) (hr : ∀ (ad : Lc → Nat) x, am_row own mn cc pc (pc + 1) [.int x] [am_cv ad (g x)]) : am_ok own mn cc pc (o_stk (f_i1 g)) := by
  refine am_stk fun st r h => ?_
  unfold f_i1 at h
  split at h
  · cases h
    refine ⟨fun n h w hw => ?_, fun cad ad _ => (hr ad _).at _⟩
    rcases List.mem_cons.mp hw with rfl | hw
    · exact am_pl_rv (hg _) n
    · exact h w (List.mem_cons_of_mem _ (hw))
  · cases h
theorem am_i2 {own mn : String} {cc : ByteArray} {pc : Nat} {g : Int32 → Int32 → AV} (hg : ∀ x y, am_pl (g x y) = true) (hr : ∀ (ad : Lc → Nat) x y, am_row own mn cc pc (pc + 1) [.int y, .int x] [am_cv ad (g x y)]) : am_ok own mn cc pc (o_stk (f_i2 g)) := by
  refine am_stk fun st r h => ?_
  unfold f_i2 at h
  split at h
  · cases h
    refine ⟨fun n h w hw => ?_, fun cad ad _ => (hr ad _ _).at _⟩
    rcases List.mem_cons.mp hw with rfl | hw
    · exact am_pl_rv (hg _ _) n
    · exact h w (List.mem_cons_of_mem _ (List.mem_cons_of_mem _ (hw)))
  · cases h
theorem am_l1 {own mn : String} {cc : ByteArray} {pc : Nat} {g : Int64 → AV} (hg : ∀ x, am_pl (g x) = true) (hr : ∀ (ad : Lc → Nat) x, am_row own mn cc pc (pc + 1) [.long x] [am_cv ad (g x)]) : am_ok own mn cc pc (o_stk (f_l1 g)) := by
  refine am_stk fun st r h => ?_
  unfold f_l1 at h
  split at h
  · cases h
    refine ⟨fun n h w hw => ?_, fun cad ad _ => (hr ad _).at _⟩
    rcases List.mem_cons.mp hw with rfl | hw
    · exact am_pl_rv (hg _) n
    · exact h w (List.mem_cons_of_mem _ (hw))
  · cases h
theorem am_l2 {own mn : String} {cc : ByteArray} {pc : Nat} {g : Int64 → Int64 → AV} (hg : ∀ x y, am_pl (g x y) = true) (hr : ∀ (ad : Lc → Nat) x y, am_row own mn cc pc (pc + 1) [.long y, .long x] [am_cv ad (g x y)]) : am_ok own mn cc pc (o_stk (f_l2 g)) := by
  refine am_stk fun st r h => ?_
  unfold f_l2 at h
  split at h
  · cases h
    refine ⟨fun n h w hw => ?_, fun cad ad _ => (hr ad _ _).at _⟩
    rcases List.mem_cons.mp hw with rfl | hw
    · exact am_pl_rv (hg _ _) n
    · exact h w (List.mem_cons_of_mem _ (List.mem_cons_of_mem _ (hw)))
  · cases h
theorem am_lI {own mn : String} {cc : ByteArray} {pc : Nat} {g : Int64 → Int32 → AV} (hg : ∀ x y, am_pl (g x y) = true) (hr : ∀ (ad : Lc → Nat) x y, am_row own mn cc pc (pc + 1) [.int y, .long x] [am_cv ad (g x y)]) : am_ok own mn cc pc (o_stk (f_lI g)) := by
  refine am_stk fun st r h => ?_
  unfold f_lI at h
  split at h
  · cases h
    refine ⟨fun n h w hw => ?_, fun cad ad _ => (hr ad _ _).at _⟩
    rcases List.mem_cons.mp hw with rfl | hw
    · exact am_pl_rv (hg _ _) n
    · exact h w (List.mem_cons_of_mem _ (List.mem_cons_of_mem _ (hw)))
  · cases h
theorem am_d2 {own mn : String} {cc : ByteArray} {pc : Nat} {g : UInt64 → UInt64 → AV} (hg : ∀ x y, am_pl (g x y) = true) (hr : ∀ (ad : Lc → Nat) x y, am_row own mn cc pc (pc + 1) [.double y, .double x] [am_cv ad (g x y)]) : am_ok own mn cc pc (o_stk (f_d2 g)) := by
  refine am_stk fun st r h => ?_
  unfold f_d2 at h
  split at h
  · cases h
    refine ⟨fun n h w hw => ?_, fun cad ad _ => (hr ad _ _).at _⟩
    rcases List.mem_cons.mp hw with rfl | hw
    · exact am_pl_rv (hg _ _) n
    · exact h w (List.mem_cons_of_mem _ (List.mem_cons_of_mem _ (hw)))
  · cases h
theorem am_dv {own mn : String} {cc : ByteArray} {pc : Nat} {g : Int32 → Int32 → AV} (hg : ∀ x y, am_pl (g x y) = true) (hr : ∀ (ad : Lc → Nat) (x y : Int32), ¬ y = 0 → am_row own mn cc pc (pc + 1) [.int y, .int x] [am_cv ad (g x y)]) : am_ok own mn cc pc (o_stk (f_dv g)) := by
  refine am_stk fun st r h => ?_
  unfold f_dv at h
  split at h
  · split at h
    · cases h
    · rename_i hy
      cases h
      refine ⟨fun n h w hw => ?_, fun cad ad _ => (hr ad _ _ hy).at _⟩
      rcases List.mem_cons.mp hw with rfl | hw
      · exact am_pl_rv (hg _ _) n
      · exact h w (List.mem_cons_of_mem _ (List.mem_cons_of_mem _ hw))
  · cases h
abbrev g_iadd : Int32 → Int32 → AV := fun x y => aI (x + y)
theorem ok_iadd {own mn : String} {cc : ByteArray} {pc : Nat} (d : decode cc pc = .ok (.iadd, 1)) : am_ok own mn cc pc (o_stk (f_i2 g_iadd)) :=
  am_i2 (fun _ _ => rfl) fun ad x y p l e R s m args below meth c nL A D dA cad xl Q X H locs ls k n rest hz hS kk => lv_iadd X.1 X.2.1 d kk
abbrev g_isub : Int32 → Int32 → AV := fun x y => aI (x - y)
theorem ok_isub {own mn : String} {cc : ByteArray} {pc : Nat} (d : decode cc pc = .ok (.isub, 1)) : am_ok own mn cc pc (o_stk (f_i2 g_isub)) :=
  am_i2 (fun _ _ => rfl) fun ad x y p l e R s m args below meth c nL A D dA cad xl Q X H locs ls k n rest hz hS kk => lv_isub X.1 X.2.1 d kk
abbrev g_imul : Int32 → Int32 → AV := fun x y => aI (x * y)
theorem ok_imul {own mn : String} {cc : ByteArray} {pc : Nat} (d : decode cc pc = .ok (.imul, 1)) : am_ok own mn cc pc (o_stk (f_i2 g_imul)) :=
  am_i2 (fun _ _ => rfl) fun ad x y p l e R s m args below meth c nL A D dA cad xl Q X H locs ls k n rest hz hS kk => lv_imul X.1 X.2.1 d kk
abbrev g_iand : Int32 → Int32 → AV := fun x y => aI (x &&& y)
theorem ok_iand {own mn : String} {cc : ByteArray} {pc : Nat} (d : decode cc pc = .ok (.iand, 1)) : am_ok own mn cc pc (o_stk (f_i2 g_iand)) :=
  am_i2 (fun _ _ => rfl) fun ad x y p l e R s m args below meth c nL A D dA cad xl Q X H locs ls k n rest hz hS kk => lv_iand X.1 X.2.1 d kk
abbrev g_ior : Int32 → Int32 → AV := fun x y => aI (x ||| y)
theorem ok_ior {own mn : String} {cc : ByteArray} {pc : Nat} (d : decode cc pc = .ok (.ior, 1)) : am_ok own mn cc pc (o_stk (f_i2 g_ior)) :=
  am_i2 (fun _ _ => rfl) fun ad x y p l e R s m args below meth c nL A D dA cad xl Q X H locs ls k n rest hz hS kk => lv_ior X.1 X.2.1 d kk
abbrev g_ishl : Int32 → Int32 → AV := fun x y => aI (x <<< (y &&& 31))
theorem ok_ishl {own mn : String} {cc : ByteArray} {pc : Nat} (d : decode cc pc = .ok (.ishl, 1)) : am_ok own mn cc pc (o_stk (f_i2 g_ishl)) :=
  am_i2 (fun _ _ => rfl) fun ad x y p l e R s m args below meth c nL A D dA cad xl Q X H locs ls k n rest hz hS kk => lv_ishl X.1 X.2.1 d kk
abbrev g_ishr : Int32 → Int32 → AV := fun x y => aI (x >>> (y &&& 31))
theorem ok_ishr {own mn : String} {cc : ByteArray} {pc : Nat} (d : decode cc pc = .ok (.ishr, 1)) : am_ok own mn cc pc (o_stk (f_i2 g_ishr)) :=
  am_i2 (fun _ _ => rfl) fun ad x y p l e R s m args below meth c nL A D dA cad xl Q X H locs ls k n rest hz hS kk => lv_ishr X.1 X.2.1 d kk
abbrev g_iushr : Int32 → Int32 → AV := fun x y => aI (x.toUInt32 >>> (y.toUInt32 &&& Int32.toUInt32 31)).toInt32
theorem ok_iushr {own mn : String} {cc : ByteArray} {pc : Nat} (d : decode cc pc = .ok (.iushr, 1)) : am_ok own mn cc pc (o_stk (f_i2 g_iushr)) :=
  am_i2 (fun _ _ => rfl) fun ad x y p l e R s m args below meth c nL A D dA cad xl Q X H locs ls k n rest hz hS kk => lv_iushr X.1 X.2.1 d rfl kk
abbrev g_ineg : Int32 → AV := fun x => aI (-x)
theorem ok_ineg {own mn : String} {cc : ByteArray} {pc : Nat} (d : decode cc pc = .ok (.ineg, 1)) : am_ok own mn cc pc (o_stk (f_i1 g_ineg)) :=
  am_i1 (fun _ => rfl) fun ad x p l e R s m args below meth c nL A D dA cad xl Q X H locs ls k n rest hz hS kk => lv_ineg X.1 X.2.1 d kk
abbrev g_i2l : Int32 → AV := fun x => aL x.toInt64
theorem ok_i2l {own mn : String} {cc : ByteArray} {pc : Nat} (d : decode cc pc = .ok (.i2l, 1)) : am_ok own mn cc pc (o_stk (f_i1 g_i2l)) :=
  am_i1 (fun _ => rfl) fun ad x p l e R s m args below meth c nL A D dA cad xl Q X H locs ls k n rest hz hS kk => lv_i2l X.1 X.2.1 d rfl kk
abbrev g_i2b : Int32 → AV := fun x => aI x.toInt8.toInt32
theorem ok_i2b {own mn : String} {cc : ByteArray} {pc : Nat} (d : decode cc pc = .ok (.i2b, 1)) : am_ok own mn cc pc (o_stk (f_i1 g_i2b)) :=
  am_i1 (fun _ => rfl) fun ad x p l e R s m args below meth c nL A D dA cad xl Q X H locs ls k n rest hz hS kk => lv_i2b X.1 X.2.1 d rfl kk
abbrev g_i2c : Int32 → AV := fun x => aI (x.toUInt32 % 65536).toInt32
theorem ok_i2c {own mn : String} {cc : ByteArray} {pc : Nat} (d : decode cc pc = .ok (.i2c, 1)) : am_ok own mn cc pc (o_stk (f_i1 g_i2c)) :=
  am_i1 (fun _ => rfl) fun ad x p l e R s m args below meth c nL A D dA cad xl Q X H locs ls k n rest hz hS kk => lv_i2c X.1 X.2.1 d rfl kk
abbrev g_i2f : Int32 → AV := fun x => aF (FP.i2f x)
theorem ok_i2f {own mn : String} {cc : ByteArray} {pc : Nat} (d : decode cc pc = .ok (.i2f, 1)) : am_ok own mn cc pc (o_stk (f_i1 g_i2f)) :=
  am_i1 (fun _ => rfl) fun ad x p l e R s m args below meth c nL A D dA cad xl Q X H locs ls k n rest hz hS kk => lv_i2f X.1 X.2.1 d kk
abbrev g_i2d : Int32 → AV := fun x => aD (FP.i2d x)
theorem ok_i2d {own mn : String} {cc : ByteArray} {pc : Nat} (d : decode cc pc = .ok (.i2d, 1)) : am_ok own mn cc pc (o_stk (f_i1 g_i2d)) :=
  am_i1 (fun _ => rfl) fun ad x p l e R s m args below meth c nL A D dA cad xl Q X H locs ls k n rest hz hS kk => lv_i2d X.1 X.2.1 d kk
abbrev g_l2i : Int64 → AV := fun x => aI x.toInt32
theorem ok_l2i {own mn : String} {cc : ByteArray} {pc : Nat} (d : decode cc pc = .ok (.l2i, 1)) : am_ok own mn cc pc (o_stk (f_l1 g_l2i)) :=
  am_l1 (fun _ => rfl) fun ad x p l e R s m args below meth c nL A D dA cad xl Q X H locs ls k n rest hz hS kk => lv_l2i X.1 X.2.1 d rfl kk
abbrev g_ladd : Int64 → Int64 → AV := fun x y => aL (x + y)
theorem ok_ladd {own mn : String} {cc : ByteArray} {pc : Nat} (d : decode cc pc = .ok (.ladd, 1)) : am_ok own mn cc pc (o_stk (f_l2 g_ladd)) :=
  am_l2 (fun _ _ => rfl) fun ad x y p l e R s m args below meth c nL A D dA cad xl Q X H locs ls k n rest hz hS kk => lv_ladd X.1 X.2.1 d kk
abbrev g_lsub : Int64 → Int64 → AV := fun x y => aL (x - y)
theorem ok_lsub {own mn : String} {cc : ByteArray} {pc : Nat} (d : decode cc pc = .ok (.lsub, 1)) : am_ok own mn cc pc (o_stk (f_l2 g_lsub)) :=
  am_l2 (fun _ _ => rfl) fun ad x y p l e R s m args below meth c nL A D dA cad xl Q X H locs ls k n rest hz hS kk => lv_lsub X.1 X.2.1 d kk
abbrev g_land : Int64 → Int64 → AV := fun x y => aL (x &&& y)
theorem ok_land {own mn : String} {cc : ByteArray} {pc : Nat} (d : decode cc pc = .ok (.land, 1)) : am_ok own mn cc pc (o_stk (f_l2 g_land)) :=
  am_l2 (fun _ _ => rfl) fun ad x y p l e R s m args below meth c nL A D dA cad xl Q X H locs ls k n rest hz hS kk => lv_land X.1 X.2.1 d kk
abbrev g_lor : Int64 → Int64 → AV := fun x y => aL (x ||| y)
theorem ok_lor {own mn : String} {cc : ByteArray} {pc : Nat} (d : decode cc pc = .ok (.lor, 1)) : am_ok own mn cc pc (o_stk (f_l2 g_lor)) :=
  am_l2 (fun _ _ => rfl) fun ad x y p l e R s m args below meth c nL A D dA cad xl Q X H locs ls k n rest hz hS kk => lv_lor X.1 X.2.1 d kk
abbrev g_lcmp : Int64 → Int64 → AV := fun x y => aI (lg_cmp x y)
theorem ok_lcmp {own mn : String} {cc : ByteArray} {pc : Nat} (d : decode cc pc = .ok (.lcmp, 1)) : am_ok own mn cc pc (o_stk (f_l2 g_lcmp)) :=
  am_l2 (fun _ _ => rfl) fun ad x y p l e R s m args below meth c nL A D dA cad xl Q X H locs ls k n rest hz hS kk => W.lcmp X.1 X.2.1 d kk
abbrev g_lshl : Int64 → Int32 → AV := fun x y => aL (x <<< (y.toInt64 &&& 63))
theorem ok_lshl {own mn : String} {cc : ByteArray} {pc : Nat} (d : decode cc pc = .ok (.lshl, 1)) : am_ok own mn cc pc (o_stk (f_lI g_lshl)) :=
  am_lI (fun _ _ => rfl) fun ad x y p l e R s m args below meth c nL A D dA cad xl Q X H locs ls k n rest hz hS kk => lv_lshl X.1 X.2.1 d rfl kk
abbrev g_lshr : Int64 → Int32 → AV := fun x y => aL (x >>> (y.toInt64 &&& 63))
theorem ok_lshr {own mn : String} {cc : ByteArray} {pc : Nat} (d : decode cc pc = .ok (.lshr, 1)) : am_ok own mn cc pc (o_stk (f_lI g_lshr)) :=
  am_lI (fun _ _ => rfl) fun ad x y p l e R s m args below meth c nL A D dA cad xl Q X H locs ls k n rest hz hS kk => lv_lshr X.1 X.2.1 d rfl kk
abbrev g_idiv : Int32 → Int32 → AV := fun x y => aI (x / y)
theorem ok_idiv {own mn : String} {cc : ByteArray} {pc : Nat} (d : decode cc pc = .ok (.idiv, 1)) : am_ok own mn cc pc (o_stk (f_dv g_idiv)) :=
  am_dv (fun _ _ => rfl) fun ad x y hy p l e R s m args below meth c nL A D dA cad xl Q X H locs ls k n rest hz hS kk => lv_idiv X.1 X.2.1 d hy kk
abbrev g_irem : Int32 → Int32 → AV := fun x y => aI (x - x / y * y)
theorem ok_irem {own mn : String} {cc : ByteArray} {pc : Nat} (d : decode cc pc = .ok (.irem, 1)) : am_ok own mn cc pc (o_stk (f_dv g_irem)) :=
  am_dv (fun _ _ => rfl) fun ad x y hy p l e R s m args below meth c nL A D dA cad xl Q X H locs ls k n rest hz hS kk => lv_irem X.1 X.2.1 d hy kk
def g_dcmp (q : CmpOp) : UInt64 → UInt64 → AV := fun x y => aI (Op.cmpValue (FP.dcmp x y) q)
theorem ok_dcmp {own mn : String} {cc : ByteArray} {pc : Nat} {q : CmpOp} (d : decode cc pc = .ok (.dcmp q, 1)) : am_ok own mn cc pc (o_stk (f_d2 (g_dcmp q))) :=
  am_d2 (fun _ _ => rfl) fun ad x y p l e R s m args below meth c nL A D dA cad xl Q X H locs ls k n rest hz hS kk => lv_dcmp X.1 X.2.1 d kk
def f_fdv : Nat → List AV → Option (Nat × List AV) := fun pc st => match st with
  | .inr (.inr (.inl y)) :: .inr (.inr (.inl x)) :: r => if FP.fdiv x y &&& 0x7fffffff ≤ 0x7f800000 then some (pc + 1, aF (FP.fdiv x y) :: r) else none
  | _ => none
def f_ddv : Nat → List AV → Option (Nat × List AV) := fun pc st => match st with
  | .inr (.inr (.inr (.inl y))) :: .inr (.inr (.inr (.inl x))) :: r => if FP.ddiv x y &&& 0x7fffffffffffffff ≤ 0x7ff0000000000000 then some (pc + 1, aD (FP.ddiv x y) :: r) else none
  | _ => none
def f_f2d : Nat → List AV → Option (Nat × List AV) := fun pc st => match st with
  | .inr (.inr (.inl x)) :: r => if FP.f2d x &&& 0x7fffffffffffffff ≤ 0x7ff0000000000000 then some (pc + 1, aD (FP.f2d x) :: r) else none
  | _ => none
theorem ok_fdiv {own mn : String} {cc : ByteArray} {pc : Nat} (d : decode cc pc = .ok (.fdiv, 1)) : am_ok own mn cc pc (o_stk f_fdv) := by
  refine am_stk fun st r h => ?_
  unfold f_fdv at h
  split at h
  · split at h
    · rename_i hq
      cases h
      refine ⟨fun n h w hw => ?_, fun cad ad _ p l e R s m args below meth c nL A D dA cad xl Q X H locs ls k n rest hz hS kk => lv_fdiv X.1 X.2.1 d hq kk⟩
      rcases List.mem_cons.mp hw with rfl | hw
      · trivial
      · exact h w (List.mem_cons_of_mem _ (List.mem_cons_of_mem _ (hw)))
    · cases h
  · cases h
theorem ok_ddiv {own mn : String} {cc : ByteArray} {pc : Nat} (d : decode cc pc = .ok (.ddiv, 1)) : am_ok own mn cc pc (o_stk f_ddv) := by
  refine am_stk fun st r h => ?_
  unfold f_ddv at h
  split at h
  · split at h
    · rename_i hq
      cases h
      refine ⟨fun n h w hw => ?_, fun cad ad _ p l e R s m args below meth c nL A D dA cad xl Q X H locs ls k n rest hz hS kk => lv_ddiv X.1 X.2.1 d hq kk⟩
      rcases List.mem_cons.mp hw with rfl | hw
      · trivial
      · exact h w (List.mem_cons_of_mem _ (List.mem_cons_of_mem _ (hw)))
    · cases h
  · cases h
theorem ok_f2d {own mn : String} {cc : ByteArray} {pc : Nat} (d : decode cc pc = .ok (.f2d, 1)) : am_ok own mn cc pc (o_stk f_f2d) := by
  refine am_stk fun st r h => ?_
  unfold f_f2d at h
  split at h
  · split at h
    · rename_i hq
      cases h
      refine ⟨fun n h w hw => ?_, fun cad ad _ p l e R s m args below meth c nL A D dA cad xl Q X H locs ls k n rest hz hS kk => lv_f2d X.1 X.2.1 d hq kk⟩
      rcases List.mem_cons.mp hw with rfl | hw
      · trivial
      · exact h w (List.mem_cons_of_mem _ (hw))
    · cases h
  · cases h
def f_dup : Nat → List AV → Option (Nat × List AV) := fun pc st => match st with
  | v :: r => if am_cat2 v = true then none else some (pc + 1, v :: v :: r)
  | _ => none
def f_pop : Nat → List AV → Option (Nat × List AV) := fun pc st => match st with
  | v :: r => if am_cat2 v = true then none else some (pc + 1, r)
  | _ => none
def f_dup2 : Nat → List AV → Option (Nat × List AV) := fun pc st => match st with
  | v :: w :: r => if am_cat2 v = true ∨ am_cat2 w = true then none else some (pc + 1, v :: w :: v :: w :: r)
  | _ => none
theorem am_n2 {v : AV} (h : ¬ am_cat2 v = true) : am_cat2 v = false := by cases e : am_cat2 v <;> simp_all
theorem ok_dup {own mn : String} {cc : ByteArray} {pc : Nat} (d : decode cc pc = .ok (.dup, 1)) : am_ok own mn cc pc (o_stk f_dup) := by
  refine am_stk fun st r h => ?_
  unfold f_dup at h
  split at h
  · split at h
    · cases h
    · rename_i hq
      cases h
      refine ⟨fun n h w hw => ?_, fun cad ad _ p l e R s m args below meth c nL A D dA cad xl Q X H locs ls k n rest hz hS kk => lv_dup X.1 X.2.1 d (am_cat1 (am_n2 hq)) kk⟩
      rcases List.mem_cons.mp hw with rfl | hw
      · exact h _ List.mem_cons_self
      · exact h w hw
  · cases h
theorem ok_pop {own mn : String} {cc : ByteArray} {pc : Nat} (d : decode cc pc = .ok (.pop, 1)) : am_ok own mn cc pc (o_stk f_pop) := by
  refine am_stk fun st r h => ?_
  unfold f_pop at h
  split at h
  · split at h
    · cases h
    · rename_i hq
      cases h
      exact ⟨fun n h w hw => h w (List.mem_cons_of_mem _ hw), fun cad ad _ p l e R s m args below meth c nL A D dA cad xl Q X H locs ls k n rest hz hS kk => lv_pop X.1 X.2.1 d (am_cat1 (am_n2 hq)) kk⟩
  · cases h
theorem ok_dup2 {own mn : String} {cc : ByteArray} {pc : Nat} (d : decode cc pc = .ok (.dup2, 1)) : am_ok own mn cc pc (o_stk f_dup2) := by
  refine am_stk fun st r h => ?_
  unfold f_dup2 at h
  split at h
  · split at h
    · cases h
    · rename_i hq
      cases h
      refine ⟨fun n h w hw => ?_, fun cad ad _ p l e R s m args below meth c nL A D dA cad xl Q X H locs ls k n rest hz hS kk => lv_dup2_11 X.1 X.2.1 d (am_cat1 (am_n2 fun q => hq (Or.inl q))) (am_cat1 (am_n2 fun q => hq (Or.inr q))) kk⟩
      rcases List.mem_cons.mp hw with rfl | hw
      · exact h _ List.mem_cons_self
      · rcases List.mem_cons.mp hw with rfl | hw
        · exact h _ (List.mem_cons_of_mem _ List.mem_cons_self)
        · exact h w hw
  · cases h
def f_goto (tgt : Nat) : Nat → List AV → Option (Nat × List AV) := fun _ st => some (tgt, st)
theorem ok_goto {own mn : String} {cc : ByteArray} {pc tgt : Nat} {off : Int} (d : decode cc pc = .ok (.goto off, 3)) (ht : (pc : Int) + off = (tgt : Int)) : am_ok own mn cc pc (o_stk (f_goto tgt)) := by
  refine am_stk fun st r h => ?_
  cases h
  exact ⟨fun n h => h, fun cad ad _ p l e R s m args below meth c nL A D dA cad xl Q X H locs ls k n rest hz hS kk => lv_goto X.1 X.2.1 d ht kk⟩
def f_ifeq (tgt : Nat) : Nat → List AV → Option (Nat × List AV) := fun pc st => match st with
  | .inl x :: r => some (if x = 0 then tgt else pc + 3, r)
  | _ => none
theorem ok_ifeq {own mn : String} {cc : ByteArray} {pc tgt : Nat} {off : Int} (d : decode cc pc = .ok (.ifCond .eq off, 3)) (ht : (pc : Int) + off = (tgt : Int)) : am_ok own mn cc pc (o_stk (f_ifeq tgt)) := by
  refine am_stk fun st r h => ?_
  unfold f_ifeq at h
  split at h
  · cases h
    refine ⟨fun n h w hw => h w (List.mem_cons_of_mem _ hw), fun cad ad _ p l e R s m args below meth c nL A D dA cad xl Q X H locs ls k n rest hz hS kk => ?_⟩
    exact lv_if_eq X.1 X.2.1 d ht (fun q => by first | exact (if_pos q ▸ kk) | (rw [if_pos q] at kk; exact kk) | (rw [if_pos (by simpa using q)] at kk; exact kk)) (fun q => by first | (rw [if_neg q] at kk; exact kk) | (rw [if_neg (by simpa using q)] at kk; exact kk))
  · cases h
def f_ifne (tgt : Nat) : Nat → List AV → Option (Nat × List AV) := fun pc st => match st with
  | .inl x :: r => some (if ¬ x = 0 then tgt else pc + 3, r)
  | _ => none
theorem ok_ifne {own mn : String} {cc : ByteArray} {pc tgt : Nat} {off : Int} (d : decode cc pc = .ok (.ifCond .ne off, 3)) (ht : (pc : Int) + off = (tgt : Int)) : am_ok own mn cc pc (o_stk (f_ifne tgt)) := by
  refine am_stk fun st r h => ?_
  unfold f_ifne at h
  split at h
  · cases h
    refine ⟨fun n h w hw => h w (List.mem_cons_of_mem _ hw), fun cad ad _ p l e R s m args below meth c nL A D dA cad xl Q X H locs ls k n rest hz hS kk => ?_⟩
    exact lv_if_ne X.1 X.2.1 d ht (fun q => by first | exact (if_pos q ▸ kk) | (rw [if_pos q] at kk; exact kk) | (rw [if_pos (by simpa using q)] at kk; exact kk)) (fun q => by first | (rw [if_neg q] at kk; exact kk) | (rw [if_neg (by simpa using q)] at kk; exact kk))
  · cases h
def f_iflt (tgt : Nat) : Nat → List AV → Option (Nat × List AV) := fun pc st => match st with
  | .inl x :: r => some (if x < 0 then tgt else pc + 3, r)
  | _ => none
theorem ok_iflt {own mn : String} {cc : ByteArray} {pc tgt : Nat} {off : Int} (d : decode cc pc = .ok (.ifCond .lt off, 3)) (ht : (pc : Int) + off = (tgt : Int)) : am_ok own mn cc pc (o_stk (f_iflt tgt)) := by
  refine am_stk fun st r h => ?_
  unfold f_iflt at h
  split at h
  · cases h
    refine ⟨fun n h w hw => h w (List.mem_cons_of_mem _ hw), fun cad ad _ p l e R s m args below meth c nL A D dA cad xl Q X H locs ls k n rest hz hS kk => ?_⟩
    exact lv_if_lt X.1 X.2.1 d ht (fun q => by first | exact (if_pos q ▸ kk) | (rw [if_pos q] at kk; exact kk) | (rw [if_pos (by simpa using q)] at kk; exact kk)) (fun q => by first | (rw [if_neg q] at kk; exact kk) | (rw [if_neg (by simpa using q)] at kk; exact kk))
  · cases h
def f_ifge (tgt : Nat) : Nat → List AV → Option (Nat × List AV) := fun pc st => match st with
  | .inl x :: r => some (if 0 ≤ x then tgt else pc + 3, r)
  | _ => none
theorem ok_ifge {own mn : String} {cc : ByteArray} {pc tgt : Nat} {off : Int} (d : decode cc pc = .ok (.ifCond .ge off, 3)) (ht : (pc : Int) + off = (tgt : Int)) : am_ok own mn cc pc (o_stk (f_ifge tgt)) := by
  refine am_stk fun st r h => ?_
  unfold f_ifge at h
  split at h
  · cases h
    refine ⟨fun n h w hw => h w (List.mem_cons_of_mem _ hw), fun cad ad _ p l e R s m args below meth c nL A D dA cad xl Q X H locs ls k n rest hz hS kk => ?_⟩
    exact lv_if_ge X.1 X.2.1 d ht (fun q => by first | exact (if_pos q ▸ kk) | (rw [if_pos q] at kk; exact kk) | (rw [if_pos (by simpa using q)] at kk; exact kk)) (fun q => by first | (rw [if_neg q] at kk; exact kk) | (rw [if_neg (by simpa using q)] at kk; exact kk))
  · cases h
def f_ifgt (tgt : Nat) : Nat → List AV → Option (Nat × List AV) := fun pc st => match st with
  | .inl x :: r => some (if 0 < x then tgt else pc + 3, r)
  | _ => none
theorem ok_ifgt {own mn : String} {cc : ByteArray} {pc tgt : Nat} {off : Int} (d : decode cc pc = .ok (.ifCond .gt off, 3)) (ht : (pc : Int) + off = (tgt : Int)) : am_ok own mn cc pc (o_stk (f_ifgt tgt)) := by
  refine am_stk fun st r h => ?_
  unfold f_ifgt at h
  split at h
  · cases h
    refine ⟨fun n h w hw => h w (List.mem_cons_of_mem _ hw), fun cad ad _ p l e R s m args below meth c nL A D dA cad xl Q X H locs ls k n rest hz hS kk => ?_⟩
    exact lv_if_gt X.1 X.2.1 d ht (fun q => by first | exact (if_pos q ▸ kk) | (rw [if_pos q] at kk; exact kk) | (rw [if_pos (by simpa using q)] at kk; exact kk)) (fun q => by first | (rw [if_neg q] at kk; exact kk) | (rw [if_neg (by simpa using q)] at kk; exact kk))
  · cases h
def f_ifle (tgt : Nat) : Nat → List AV → Option (Nat × List AV) := fun pc st => match st with
  | .inl x :: r => some (if x ≤ 0 then tgt else pc + 3, r)
  | _ => none
theorem ok_ifle {own mn : String} {cc : ByteArray} {pc tgt : Nat} {off : Int} (d : decode cc pc = .ok (.ifCond .le off, 3)) (ht : (pc : Int) + off = (tgt : Int)) : am_ok own mn cc pc (o_stk (f_ifle tgt)) := by
  refine am_stk fun st r h => ?_
  unfold f_ifle at h
  split at h
  · cases h
    refine ⟨fun n h w hw => h w (List.mem_cons_of_mem _ hw), fun cad ad _ p l e R s m args below meth c nL A D dA cad xl Q X H locs ls k n rest hz hS kk => ?_⟩
    exact lv_if_le X.1 X.2.1 d ht (fun q => by first | exact (if_pos q ▸ kk) | (rw [if_pos q] at kk; exact kk) | (rw [if_pos (by simpa using q)] at kk; exact kk)) (fun q => by first | (rw [if_neg q] at kk; exact kk) | (rw [if_neg (by simpa using q)] at kk; exact kk))
  · cases h
def f_iceq (tgt : Nat) : Nat → List AV → Option (Nat × List AV) := fun pc st => match st with
  | .inl y :: .inl x :: r => some (if x = y then tgt else pc + 3, r)
  | _ => none
theorem ok_iceq {own mn : String} {cc : ByteArray} {pc tgt : Nat} {off : Int} (d : decode cc pc = .ok (.if_icmp .eq off, 3)) (ht : (pc : Int) + off = (tgt : Int)) : am_ok own mn cc pc (o_stk (f_iceq tgt)) := by
  refine am_stk fun st r h => ?_
  unfold f_iceq at h
  split at h
  · cases h
    refine ⟨fun n h w hw => h w (List.mem_cons_of_mem _ (List.mem_cons_of_mem _ hw)), fun cad ad _ p l e R s m args below meth c nL A D dA cad xl Q X H locs ls k n rest hz hS kk => ?_⟩
    exact lv_icmp_eq X.1 X.2.1 d ht (fun q => by first | (rw [if_pos q] at kk; exact kk) | (rw [if_pos (by simpa using q)] at kk; exact kk)) (fun q => by first | (rw [if_neg q] at kk; exact kk) | (rw [if_neg (by simpa using q)] at kk; exact kk))
  · cases h
def f_icne (tgt : Nat) : Nat → List AV → Option (Nat × List AV) := fun pc st => match st with
  | .inl y :: .inl x :: r => some (if ¬ x = y then tgt else pc + 3, r)
  | _ => none
theorem ok_icne {own mn : String} {cc : ByteArray} {pc tgt : Nat} {off : Int} (d : decode cc pc = .ok (.if_icmp .ne off, 3)) (ht : (pc : Int) + off = (tgt : Int)) : am_ok own mn cc pc (o_stk (f_icne tgt)) := by
  refine am_stk fun st r h => ?_
  unfold f_icne at h
  split at h
  · cases h
    refine ⟨fun n h w hw => h w (List.mem_cons_of_mem _ (List.mem_cons_of_mem _ hw)), fun cad ad _ p l e R s m args below meth c nL A D dA cad xl Q X H locs ls k n rest hz hS kk => ?_⟩
    exact lv_icmp_ne X.1 X.2.1 d ht (fun q => by first | (rw [if_pos q] at kk; exact kk) | (rw [if_pos (by simpa using q)] at kk; exact kk)) (fun q => by first | (rw [if_neg q] at kk; exact kk) | (rw [if_neg (by simpa using q)] at kk; exact kk))
  · cases h
def f_iclt (tgt : Nat) : Nat → List AV → Option (Nat × List AV) := fun pc st => match st with
  | .inl y :: .inl x :: r => some (if x < y then tgt else pc + 3, r)
  | _ => none
theorem ok_iclt {own mn : String} {cc : ByteArray} {pc tgt : Nat} {off : Int} (d : decode cc pc = .ok (.if_icmp .lt off, 3)) (ht : (pc : Int) + off = (tgt : Int)) : am_ok own mn cc pc (o_stk (f_iclt tgt)) := by
  refine am_stk fun st r h => ?_
  unfold f_iclt at h
  split at h
  · cases h
    refine ⟨fun n h w hw => h w (List.mem_cons_of_mem _ (List.mem_cons_of_mem _ hw)), fun cad ad _ p l e R s m args below meth c nL A D dA cad xl Q X H locs ls k n rest hz hS kk => ?_⟩
    exact lv_icmp_lt X.1 X.2.1 d ht (fun q => by first | (rw [if_pos q] at kk; exact kk) | (rw [if_pos (by simpa using q)] at kk; exact kk)) (fun q => by first | (rw [if_neg q] at kk; exact kk) | (rw [if_neg (by simpa using q)] at kk; exact kk))
  · cases h
def f_icge (tgt : Nat) : Nat → List AV → Option (Nat × List AV) := fun pc st => match st with
  | .inl y :: .inl x :: r => some (if y ≤ x then tgt else pc + 3, r)
  | _ => none
theorem ok_icge {own mn : String} {cc : ByteArray} {pc tgt : Nat} {off : Int} (d : decode cc pc = .ok (.if_icmp .ge off, 3)) (ht : (pc : Int) + off = (tgt : Int)) : am_ok own mn cc pc (o_stk (f_icge tgt)) := by
  refine am_stk fun st r h => ?_
  unfold f_icge at h
  split at h
  · cases h
    refine ⟨fun n h w hw => h w (List.mem_cons_of_mem _ (List.mem_cons_of_mem _ hw)), fun cad ad _ p l e R s m args below meth c nL A D dA cad xl Q X H locs ls k n rest hz hS kk => ?_⟩
    exact lv_icmp_ge X.1 X.2.1 d ht (fun q => by first | (rw [if_pos q] at kk; exact kk) | (rw [if_pos (by simpa using q)] at kk; exact kk)) (fun q => by first | (rw [if_neg q] at kk; exact kk) | (rw [if_neg (by simpa using q)] at kk; exact kk))
  · cases h
def f_icgt (tgt : Nat) : Nat → List AV → Option (Nat × List AV) := fun pc st => match st with
  | .inl y :: .inl x :: r => some (if y < x then tgt else pc + 3, r)
  | _ => none
theorem ok_icgt {own mn : String} {cc : ByteArray} {pc tgt : Nat} {off : Int} (d : decode cc pc = .ok (.if_icmp .gt off, 3)) (ht : (pc : Int) + off = (tgt : Int)) : am_ok own mn cc pc (o_stk (f_icgt tgt)) := by
  refine am_stk fun st r h => ?_
  unfold f_icgt at h
  split at h
  · cases h
    refine ⟨fun n h w hw => h w (List.mem_cons_of_mem _ (List.mem_cons_of_mem _ hw)), fun cad ad _ p l e R s m args below meth c nL A D dA cad xl Q X H locs ls k n rest hz hS kk => ?_⟩
    exact lv_icmp_gt X.1 X.2.1 d ht (fun q => by first | (rw [if_pos q] at kk; exact kk) | (rw [if_pos (by simpa using q)] at kk; exact kk)) (fun q => by first | (rw [if_neg q] at kk; exact kk) | (rw [if_neg (by simpa using q)] at kk; exact kk))
  · cases h
def f_icle (tgt : Nat) : Nat → List AV → Option (Nat × List AV) := fun pc st => match st with
  | .inl y :: .inl x :: r => some (if x ≤ y then tgt else pc + 3, r)
  | _ => none
theorem ok_icle {own mn : String} {cc : ByteArray} {pc tgt : Nat} {off : Int} (d : decode cc pc = .ok (.if_icmp .le off, 3)) (ht : (pc : Int) + off = (tgt : Int)) : am_ok own mn cc pc (o_stk (f_icle tgt)) := by
  refine am_stk fun st r h => ?_
  unfold f_icle at h
  split at h
  · cases h
    refine ⟨fun n h w hw => h w (List.mem_cons_of_mem _ (List.mem_cons_of_mem _ hw)), fun cad ad _ p l e R s m args below meth c nL A D dA cad xl Q X H locs ls k n rest hz hS kk => ?_⟩
    exact lv_icmp_le X.1 X.2.1 d ht (fun q => by first | (rw [if_pos q] at kk; exact kk) | (rw [if_pos (by simpa using q)] at kk; exact kk)) (fun q => by first | (rw [if_neg q] at kk; exact kk) | (rw [if_neg (by simpa using q)] at kk; exact kk))
  · cases h
def am_tgt (lo : Int) (tg : List Nat) (df : Nat) (x : Int32) : Nat := if x.toInt < lo then df else tg.getD (x.toInt - lo).toNat df
def f_tab (lo : Int) (tg : List Nat) (df : Nat) : Nat → List AV → Option (Nat × List AV) := fun _ st => match st with
  | .inl x :: r => some (am_tgt lo tg df x, r)
  | _ => none
theorem ok_tab {own mn : String} {cc : ByteArray} {pc df len : Nat} {dflt lo hi : Int} {offs : Array Int} {tg : List Nat} (d : decode cc pc = .ok (.tableswitch dflt lo hi offs, len)) (hd : (pc : Int) + dflt = (df : Int)) (hl : hi = lo + (tg.length : Int) - 1) (ho : offs.toList.map (fun o => (pc : Int) + o) = tg.map (fun n : Nat => (n : Int))) : am_ok own mn cc pc (o_stk (f_tab lo tg df)) := by
  refine am_stk fun st r h => ?_
  unfold f_tab at h
  split at h
  · rename_i x r0
    cases h
    refine ⟨fun n h w hw => h w (List.mem_cons_of_mem _ hw), fun cad ad _ p l e R s m args below meth c nL A D dA cad xl Q X H locs ls k n rest hz hS kk => ?_⟩
    unfold am_tgt at kk
    by_cases h1 : x.toInt < lo
    · rw [if_pos h1] at kk
      exact lv_tableOut X.1 X.2.1 d (Or.inl h1) hd kk
    · rw [if_neg h1] at kk
      by_cases h2 : hi < x.toInt
      · rw [List.getD_eq_getElem?_getD, List.getElem?_eq_none (by omega)] at kk
        exact lv_tableOut X.1 X.2.1 d (Or.inr h2) hd kk
      · have hlt : (x.toInt - lo).toNat < tg.length := by omega
        have hsz : offs.toList.length = tg.length := by simpa using congrArg List.length ho
        have hlt2 : (x.toInt - lo).toNat < offs.toList.length := by omega
        rw [List.getD_eq_getElem?_getD, List.getElem?_eq_getElem hlt, Option.getD_some] at kk
        have e1 : (offs.toList.map (fun o => (pc : Int) + o))[(x.toInt - lo).toNat]? = (tg.map (fun n : Nat => (n : Int)))[(x.toInt - lo).toNat]? := by rw [ho]
        rw [List.getElem?_map, List.getElem?_map, List.getElem?_eq_getElem hlt, List.getElem?_eq_getElem hlt2] at e1
        simp only [Option.map_some, Option.some.injEq] at e1
        exact lv_tableIn X.1 X.2.1 d h1 h2 (off := offs.toList[(x.toInt - lo).toNat]) (by rw [← Array.getElem?_toList]; exact List.getElem?_eq_getElem hlt2) e1 kk
  · cases h
def f_lkp (ps : List (Int × Int)) (tg : Int32 → Nat) : Nat → List AV → Option (Nat × List AV) := fun _ st => match st with
  | .inl x :: r => some (tg x, r)
  | _ => none
theorem ok_lkp {own mn : String} {cc : ByteArray} {pc len : Nat} {dflt : Int} {ps : Array (Int × Int)} {tg : Int32 → Nat} (d : decode cc pc = .ok (.lookupswitch dflt ps, len)) (hp : (ps.toList.zip (ps.toList.drop 1)).all (fun (a, next) => a.1 < next.1) = true) (ho : ∀ x : Int32, (pc : Int) + Op.lookupswitch.offset ps.toList dflt x.toInt = (tg x : Int)) : am_ok own mn cc pc (o_stk (f_lkp [] tg)) := by
  refine am_stk fun st r h => ?_
  unfold f_lkp at h
  split at h
  · rename_i x r0
    cases h
    exact ⟨fun n h w hw => h w (List.mem_cons_of_mem _ hw), fun cad ad _ p l e R s m args below meth c nL A D dA cad xl Q X H locs ls k n rest hz hS kk => lv_lookup X.1 X.2.1 d hp rfl (ho x) kk⟩
  · cases h
