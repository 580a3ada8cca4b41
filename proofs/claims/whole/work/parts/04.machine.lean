/-! THE ABSTRACT MACHINE: a small executable reading of the bytecode over abstract cells; 'am_' rows say that the machine does what it does. -/
abbrev Lc : Type := Nat × Nat × Nat
abbrev AV : Type := Int32 ⊕ Int64 ⊕ UInt32 ⊕ UInt64 ⊕ Option Lc
abbrev AB : Type := (Nat → Int32) ⊕ (Nat → Int64) ⊕ (Nat → UInt64) ⊕ (Nat → Option Lc)
abbrev AC : Type := (Nat × Nat × AB) ⊕ (Nat × List AV)
abbrev AH : Type := Lc → AC
abbrev KT : Type := Nat × Nat × Nat
abbrev AS : Type := List (Option AV)
abbrev CF : Type := Nat × AS × List AV × AH × KT
abbrev RS : Type := (Option AV ⊕ Nat) × AH × KT
abbrev HD : Type := Nat → Option (Option (Nat × Nat))
abbrev OP : Type := (CF → Option CF) ⊕ (CF → Option RS) ⊕ (Nat × Nat × Nat × HD)
abbrev aI (x : Int32) : AV := .inl x
abbrev aL (x : Int64) : AV := .inr (.inl x)
abbrev aF (x : UInt32) : AV := .inr (.inr (.inl x))
abbrev aD (x : UInt64) : AV := .inr (.inr (.inr (.inl x)))
abbrev aR (r : Option Lc) : AV := .inr (.inr (.inr (.inr r)))
def am_cat2 : AV → Bool
  | .inr (.inl _) => true
  | .inr (.inr (.inr (.inl _))) => true
  | _ => false
def am_cv (ad : Lc → Nat) : AV → Value
  | .inl x => .int x
  | .inr (.inl x) => .long x
  | .inr (.inr (.inl x)) => .float x
  | .inr (.inr (.inr (.inl x))) => .double x
  | .inr (.inr (.inr (.inr r))) => va_rf (r.map ad)
theorem am_cat (ad : Lc → Nat) (v : AV) : (am_cv ad v).category = if am_cat2 v then 2 else 1 := by
  rcases v with x | x | x | x | r <;> try rfl
  cases r <;> rfl
theorem am_cat1 {ad : Lc → Nat} {v : AV} (h : am_cat2 v = false) : (am_cv ad v).category = 1 := by rw [am_cat, h]; rfl
theorem am_cat22 {ad : Lc → Nat} {v : AV} (h : am_cat2 v = true) : (am_cv ad v).category = 2 := by rw [am_cat, h]; rfl
-- locals
def am_kill (ls : AS) : Nat → AS
  | 0 => ls
  | j + 1 => match ls[j]? with
    | some (some w) => if am_cat2 w then ls.set j none else ls
    | _ => ls
def am_put (ls : AS) (i : Nat) (v : AV) : AS :=
  if am_cat2 v then ((am_kill ls i).set i (some v)).set (i + 1) none else (am_kill ls i).set i (some v)
def am_clr (ls : AS) (i : Nat) : AS := (am_kill ls i).set i none
theorem am_kill_len (ls : AS) (i : Nat) : (am_kill ls i).length = ls.length := by
  unfold am_kill
  split
  · rfl
  · split
    · split <;> simp
    · rfl
theorem am_put_len (ls : AS) (i : Nat) (v : AV) : (am_put ls i v).length = ls.length := by
  unfold am_put
  split <;> simp [am_kill_len]
theorem am_clr_len (ls : AS) (i : Nat) : (am_clr ls i).length = ls.length := by simp [am_clr, am_kill_len]
theorem am_kill_at {ls : AS} {i j : Nat} {w : AV} (h : (am_kill ls i)[j]? = some (some w)) : ls[j]? = some (some w) ∧ ¬ (j + 1 = i ∧ am_cat2 w = true) := by
  unfold am_kill at h
  split at h
  · exact ⟨h, by omega⟩
  · rename_i k
    split at h
    · rename_i w0 h0
      split at h
      · rename_i hc
        rw [List.getElem?_set] at h
        split at h
        · split at h <;> simp at h
        · rename_i hne
          exact ⟨h, fun q => hne (by omega)⟩
      · rename_i hc
        refine ⟨h, fun q => ?_⟩
        have e : j = k := by omega
        subst e
        rw [h] at h0
        cases h0
        exact hc q.2
    · rename_i h0
      refine ⟨h, fun q => ?_⟩
      have e : j = k := by omega
      subst e
      exact h0 w h
theorem am_put_at {ls : AS} {i j : Nat} {v w : AV} (h : (am_put ls i v)[j]? = some (some w)) :
    (j = i ∧ w = v) ∨ (j ≠ i ∧ ls[j]? = some (some w) ∧ ¬ (j + 1 = i ∧ am_cat2 w = true) ∧ (am_cat2 v = true → j ≠ i + 1)) := by
  unfold am_put at h
  split at h
  · rename_i hc
    rw [List.getElem?_set] at h
    split at h
    · split at h <;> simp at h
    · rename_i h1
      rw [List.getElem?_set] at h
      split at h
      · rename_i h2
        split at h
        · simp at h; exact Or.inl ⟨h2.symm, h.symm⟩
        · simp at h
      · rename_i h2
        obtain ⟨a, b⟩ := am_kill_at h
        exact Or.inr ⟨fun q => h2 q.symm, a, b, fun _ q => h1 q.symm⟩
  · rename_i hc
    rw [List.getElem?_set] at h
    split at h
    · rename_i h2
      split at h
      · simp at h; exact Or.inl ⟨h2.symm, h.symm⟩
      · simp at h
    · rename_i h2
      obtain ⟨a, b⟩ := am_kill_at h
      exact Or.inr ⟨fun q => h2 q.symm, a, b, fun q => absurd q hc⟩
theorem am_clr_at {ls : AS} {i j : Nat} {w : AV} (h : (am_clr ls i)[j]? = some (some w)) : j ≠ i ∧ ls[j]? = some (some w) ∧ ¬ (j + 1 = i ∧ am_cat2 w = true) := by
  unfold am_clr at h
  rw [List.getElem?_set] at h
  split at h
  · split at h <;> simp at h
  · rename_i h2
    obtain ⟨a, b⟩ := am_kill_at h
    exact ⟨fun q => h2 q.symm, a, b⟩
/-- the machine's locals hold what the abstract ones say -/
def am_L (ad : Lc → Nat) (ls : AS) (ls' : Array Slot) (nL : Nat) : Prop := ls'.size = nL ∧ ls.length = nL ∧ lv_wf ls' ∧ ∀ (i : Nat) (v : AV), ls[i]? = some (some v) → ls'[i]? = some (.val (am_cv ad v))
def am_prs (ad : Lc → Nat) (ls : AS) : List (Nat × Value) := (List.range ls.length).filterMap fun i => match ls[i]? with
  | some (some v) => some (i, am_cv ad v)
  | _ => none
theorem am_prs_in {ad : Lc → Nat} {ls : AS} {i : Nat} {v : AV} (h : ls[i]? = some (some v)) : (i, am_cv ad v) ∈ am_prs ad ls := by
  unfold am_prs
  rw [List.mem_filterMap]
  exact ⟨i, List.mem_range.mpr (List.getElem?_eq_some_iff.mp h).1, by rw [h]⟩
theorem am_prs_has {ad : Lc → Nat} {ls : AS} {ls' : Array Slot} {nL : Nat} (h : am_L ad ls ls' nL) : lv_has ls' nL (am_prs ad ls) := by
  refine ⟨h.1, h.2.2.1, fun q hq => ?_⟩
  unfold am_prs at hq
  rw [List.mem_filterMap] at hq
  obtain ⟨i, -, hi⟩ := hq
  split at hi
  · rename_i v hv
    cases hi
    exact h.2.2.2 i v hv
  · cases hi
theorem am_stored1 {ad : Lc → Nat} {ls : AS} {ls' ls'' : Array Slot} {nL i : Nat} {v : AV} (h : am_L ad ls ls' nL) (hc : am_cat2 v = false)
    (k : lv_has ls'' nL ((i, am_cv ad v) :: (am_prs ad ls).filter (fun q => !(q.1 == i) && !(q.1 + 1 == i && q.2.category == 2)))) : am_L ad (am_put ls i v) ls'' nL := by
  refine ⟨k.1, by rw [am_put_len]; exact h.2.1, k.2.1, fun j w hw => ?_⟩
  rcases am_put_at hw with ⟨rfl, rfl⟩ | ⟨h1, h2, h3, -⟩
  · exact k.2.2 (j, am_cv ad w) List.mem_cons_self
  · refine k.2.2 (j, am_cv ad w) (List.mem_cons_of_mem _ (List.mem_filter.mpr ⟨am_prs_in h2, ?_⟩))
    simp only [am_cat, Bool.and_eq_true, Bool.not_eq_true', beq_eq_false_iff_ne, ne_eq, Bool.and_eq_false_iff]
    refine ⟨h1, ?_⟩
    by_cases q : j + 1 = i
    · right
      intro e
      refine h3 ⟨q, ?_⟩
      cases hw2 : am_cat2 w
      · rw [hw2] at e; exact absurd e (by decide)
      · rfl
    · exact Or.inl q
theorem am_stored2 {ad : Lc → Nat} {ls : AS} {ls' ls'' : Array Slot} {nL i : Nat} {v : AV} (h : am_L ad ls ls' nL) (hc : am_cat2 v = true)
    (k : lv_has ls'' nL ((i, am_cv ad v) :: (am_prs ad ls).filter (fun q => !(q.1 == i) && (!(q.1 == i + 1) && !(q.1 + 1 == i && q.2.category == 2))))) : am_L ad (am_put ls i v) ls'' nL := by
  refine ⟨k.1, by rw [am_put_len]; exact h.2.1, k.2.1, fun j w hw => ?_⟩
  rcases am_put_at hw with ⟨rfl, rfl⟩ | ⟨h1, h2, h3, h4⟩
  · exact k.2.2 (j, am_cv ad w) List.mem_cons_self
  · refine k.2.2 (j, am_cv ad w) (List.mem_cons_of_mem _ (List.mem_filter.mpr ⟨am_prs_in h2, ?_⟩))
    simp only [am_cat, Bool.and_eq_true, Bool.not_eq_true', beq_eq_false_iff_ne, ne_eq, Bool.and_eq_false_iff]
    refine ⟨h1, h4 hc, ?_⟩
    by_cases q : j + 1 = i
    · right
      intro e
      refine h3 ⟨q, ?_⟩
      cases hw2 : am_cat2 w
      · rw [hw2] at e; exact absurd e (by decide)
      · rfl
    · exact Or.inl q
theorem am_cleared {ad : Lc → Nat} {ls : AS} {ls' ls'' : Array Slot} {nL i a : Nat} (h : am_L ad ls ls' nL)
    (k : lv_has ls'' nL ((i, Value.ref a) :: (am_prs ad ls).filter (fun q => !(q.1 == i) && !(q.1 + 1 == i && q.2.category == 2)))) : am_L ad (am_clr ls i) ls'' nL := by
  refine ⟨k.1, by rw [am_clr_len]; exact h.2.1, k.2.1, fun j w hw => ?_⟩
  obtain ⟨h1, h2, h3⟩ := am_clr_at hw
  refine k.2.2 (j, am_cv ad w) (List.mem_cons_of_mem _ (List.mem_filter.mpr ⟨am_prs_in h2, ?_⟩))
  simp only [am_cat, Bool.and_eq_true, Bool.not_eq_true', beq_eq_false_iff_ne, ne_eq, Bool.and_eq_false_iff]
  refine ⟨h1, ?_⟩
  by_cases q : j + 1 = i
  · right
    intro e
    refine h3 ⟨q, ?_⟩
    cases hw2 : am_cat2 w
    · rw [hw2] at e; exact absurd e (by decide)
    · rfl
  · exact Or.inl q
/-- a method's locals at its entry -/
def am_flat : List AV → AS
  | [] => []
  | v :: vs => if am_cat2 v then some v :: none :: am_flat vs else some v :: am_flat vs
def am_ent (nL : Nat) (as : List AV) : AS := am_flat as ++ List.replicate (nL - (am_flat as).length) none
theorem am_flat_len (ad : Lc → Nat) : ∀ as : List AV, (am_flat as).length = (lg_sl (as.map (am_cv ad))).length
  | [] => rfl
  | v :: vs => by
    have ih := am_flat_len ad vs
    unfold am_flat
    by_cases h : am_cat2 v = true
    · have e : lg_sl (am_cv ad v :: vs.map (am_cv ad)) = [.val (am_cv ad v), .second] ++ lg_sl (vs.map (am_cv ad)) := by
        unfold lg_sl
        rw [List.flatMap_cons, if_pos (am_cat22 h)]
      rw [if_pos h, List.map_cons, e, List.length_append, ← ih]
      simp only [List.length_cons, List.length_nil]
      omega
    · have e : lg_sl (am_cv ad v :: vs.map (am_cv ad)) = [.val (am_cv ad v)] ++ lg_sl (vs.map (am_cv ad)) := by
        unfold lg_sl
        rw [List.flatMap_cons, if_neg (by rw [am_cat1 (Bool.not_eq_true _ ▸ h : am_cat2 v = false)]; decide)]
      rw [if_neg h, List.map_cons, e, List.length_append, ← ih]
      simp only [List.length_cons, List.length_nil]
      omega
theorem am_flat_at (ad : Lc → Nat) : ∀ (as : List AV) (b j : Nat) (w : AV), (am_flat as)[j]? = some (some w) → (b + j, am_cv ad w) ∈ lv_args b (as.map (am_cv ad))
  | [], b, j, w, h => by simp [am_flat] at h
  | v :: vs, b, j, w, h => by
    unfold am_flat at h
    by_cases hc : am_cat2 v = true
    · rw [if_pos hc] at h
      rw [List.map_cons, lv_args, if_pos (am_cat22 hc)]
      match j, h with
      | 0, h => simp at h; subst h; exact List.mem_cons_self
      | 1, h => simp at h
      | j + 2, h =>
        have := am_flat_at ad vs (b + 2) j w (by simpa using h)
        rw [show b + (j + 2) = b + 2 + j by omega]
        exact List.mem_cons_of_mem _ this
    · rw [if_neg hc] at h
      rw [List.map_cons, lv_args, if_neg (by rw [am_cat1 (Bool.not_eq_true _ ▸ hc : am_cat2 v = false)]; decide)]
      match j, h with
      | 0, h => simp at h; subst h; exact List.mem_cons_self
      | j + 1, h =>
        have := am_flat_at ad vs (b + 1) j w (by simpa using h)
        rw [show b + (j + 1) = b + 1 + j by omega]
        exact List.mem_cons_of_mem _ this
theorem am_entry (ad : Lc → Nat) (as : List AV) {nL : Nat} (h : (am_flat as).length ≤ nL) :
    am_L ad (am_ent nL as) ((lg_sl (as.map (am_cv ad)) ++ List.replicate (nL - (lg_sl (as.map (am_cv ad))).length) Slot.unset).toArray) nL := by
  have e := am_flat_len ad as
  have hl := lv_entry (as.map (am_cv ad)) (n := nL) (by rw [← e]; exact h)
  refine ⟨hl.1, by simp [am_ent]; omega, hl.2.1, fun i v hv => ?_⟩
  unfold am_ent at hv
  rw [List.getElem?_append] at hv
  split at hv
  · have := am_flat_at ad as 0 i v hv
    rw [Nat.zero_add] at this
    exact hl.2.2 (i, am_cv ad v) this
  · rw [List.getElem?_replicate] at hv
    split at hv <;> simp at hv
-- the runs
/-- words of a stack -/
def am_w : List AV → Nat
  | [] => 0
  | v :: vs => (if am_cat2 v then 2 else 1) + am_w vs
theorem am_w_sum (ad : Lc → Nat) : ∀ st : List AV, ((st.map (am_cv ad)).map fun v => v.category).sum = am_w st
  | [] => rfl
  | v :: vs => by rw [List.map_cons, List.map_cons, List.sum_cons, am_w_sum ad vs, am_cat]; rfl
/-- the receiver of a call is of the class that the call names (0: no receiver, or one that is being made) -/
def am_rcv (rc : Nat) (o : Option AV) (h : AH) : Bool := match rc with
  | 0 => true
  | ci + 1 => (match o with
    | some (.inr (.inr (.inr (.inr (some L))))) => (match h L with
      | .inr (ci', _) => ci' == ci
      | _ => false)
    | _ => false)
def am_run (code : Nat → Option OP) (call : Nat → List AV → AH → KT → Option RS) : Nat → CF → Option RS
  | 0, _ => none
  | f + 1, c => match code c.1 with
    | none => none
    | some (.inl g) => (match g c with
      | none => none
      | some c' => am_run code call f c')
    | some (.inr (.inl g)) => g c
    | some (.inr (.inr (y, na, rc, hd))) => if 8 < am_w (c.2.2.1.drop na) ∨ am_rcv rc c.2.2.1[na - 1]? c.2.2.2.1 = false then none else (match call y (c.2.2.1.take na).reverse c.2.2.2.1 c.2.2.2.2 with
      | none => none
      | some (.inl v, h, t) => am_run code call f (c.1 + 3, c.2.1, v.toList ++ c.2.2.1.drop na, h, t)
      | some (.inr E, h, t) => (match hd E with
        | none => none
        | some none => some (.inr E, h, t)
        | some (some (pc, i)) => if i < c.2.1.length then am_run code call f (pc, am_clr c.2.1 i, [], h, t) else none))
def am_call (M : Nat → Option (Nat × Nat × (Nat → Option OP))) (F : Nat) : Nat → Nat → List AV → AH → KT → Option RS
  | 0, _, _, _, _ => none
  | d + 1, y, as, h, t => match M y with
    | none => none
    | some (na, nL, code) => if as.length = na ∧ (am_flat as).length ≤ nL then am_run code (am_call M F d) F (0, am_ent nL as, [], h, t) else none
