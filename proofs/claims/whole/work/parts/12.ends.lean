/-! ENDS AND CALLS -/
/-- the world behind a run -/
def am_B (D : va_G) (dA : Nat → ClassId) (cad : Lc → Nat) (xl : XL) (A : Nat → Prop) (n0 : Nat) (ad0 ad : Lc → Nat) (r : RS) (t : State) : Prop :=
  va_P D vwCl (am_W dA ad r.2.2.1 r.2.1) t.heap ∧ va_D A (am_W dA ad r.2.2.1 r.2.1) ∧ (∀ i, i < r.2.2.1 → am_rc r.2.2.1 (r.2.1 (am_al i))) ∧ (∀ L : Lc, 90 ≤ L.1 → r.2.1 L = am_k xl L ∧ ad L = cad L) ∧ n0 ≤ r.2.2.1 ∧ ∀ i, i < n0 → ad (am_al i) = ad0 (am_al i)
def am_Qc (D : va_G) (dA : Nat → ClassId) (cad : Lc → Nat) (xl : XL) (A : Nat → Prop) (n0 : Nat) (ad0 : Lc → Nat) (r : RS) : Array Value → State → Outcome → State → Prop := fun _ st o t =>
  ∃ (ad : Lc → Nat) (v : Option AV), r.1 = .inl v ∧ (∀ w, v = some w → am_rv r.2.2.1 w) ∧ o = .returned (v.map (am_cv ad)) ∧ am_B D dA cad xl A n0 ad0 ad r t ∧ va_F A st t
def am_XC (D : va_G) (dA : Nat → ClassId) (cad : Lc → Nat) (xl : XL) (A : Nat → Prop) (n0 : Nat) (ad0 : Lc → Nat) (r : RS) : String → State → State → Prop := fun E st t =>
  ∃ (ad : Lc → Nat) (k : Nat), r.1 = .inr k ∧ E = am_exn k ∧ am_B D dA cad xl A n0 ad0 ad r t ∧ va_F A st t
def am_fin (own mn : String) (cc : ByteArray) (pc : Nat) (rt : Option FieldType) (noT : Bool) (g : CF → Option RS) : Prop :=
  ∀ (p : Program) (l : Launch) (e : Env) (R : Room) (s : State) (m : MethodId) (args : Array Value) (below : List Frame) (meth : Method) (c : Code) (nL : Nat) (A : Nat → Prop) (D : va_G) (dA : Nat → ClassId) (cad : Lc → Nat) (xl : XL), am_X p l s m args meth c own mn cc nL A D dA cad xl → meth.sig.returnType = rt → (noT = true → ∀ x ∈ c.exceptionTable.toList, False) →
  ∀ (ls : AS) (st : List AV) (h : AH) (t : KT) (r : RS), g (pc, ls, st, h, t) = some r → 8 ≤ R.frames → 200 ≤ R.locals →
  ∀ (n0 : Nat) (ad0 ad : Lc → Nat) (H : Heap) (locs : List Loc) (ls' : Array Slot) (k n c0 s0 : Nat), am_I D dA cad xl A s.heap nL n0 ad0 ad t.1 ls st h H locs ls' → k + c0 = t.2.1 → n + s0 = t.2.2 → r.2.2.2.1 ≤ c0 + R.cells → r.2.2.2.2 ≤ s0 + R.slots →
  ∀ mc ms : Nat, mc + c0 = r.2.2.2.1 → ms + s0 = r.2.2.2.2 → W p l e R s m args below meth c H locs k n (vx_MQ below (am_Qc D dA cad xl A n0 ad0 r) (am_XC D dA cad xl A n0 ad0 r) args s mc ms A) (F0 m pc ls' (st.map (am_cv ad)))
section AME
variable {own mn : String} {cc : ByteArray} {pc : Nat}
/-- what a method may return -/
def am_frt : FieldType → AV → Bool
  | .int, .inl _ => true
  | .boolean, .inl x => decide (x = 0 ∨ x = 1)
  | .byte, .inl x => decide (x.toInt8.toInt32 = x)
  | .char, .inl x => decide ((x.toUInt32 % 65536).toInt32 = x)
  | .long, .inr (.inl _) => true
  | .float, .inr (.inr (.inl _)) => true
  | .double, .inr (.inr (.inr (.inl _))) => true
  | .object _, .inr (.inr (.inr (.inr _))) => true
  | _, _ => false
def o_ret (ty : FieldType) : CF → Option RS := fun c => match c.2.2.1 with
  | [v] => if am_frt ty v = true then some (.inl (some v), c.2.2.2.1, c.2.2.2.2) else none
  | _ => none
def o_retv : CF → Option RS := fun c => match c.2.2.1 with
  | [] => some (.inl none, c.2.2.2.1, c.2.2.2.2)
  | _ => none
theorem am_B_of {D : va_G} {dA : Nat → ClassId} {cad : Lc → Nat} {xl : XL} {A : Nat → Prop} {H0 : Heap} {nL n0 : Nat} {ad0 ad : Lc → Nat} {ls : AS} {st : List AV} {h : AH} {t : KT} {H : Heap} {locs : List Loc} {ls' : Array Slot} {q : Option AV ⊕ Nat} {t' : KT} (I : am_I D dA cad xl A H0 nL n0 ad0 ad t.1 ls st h H locs ls') (u : State) (hu : u.heap = H) (ht : t'.1 = t.1) : am_B D dA cad xl A n0 ad0 ad (q, h, t') u := by
  obtain ⟨i1, i2, i3, i4, i5, i6, i7, i8, i9, i10, i11⟩ := I
  unfold am_B
  dsimp only
  rw [ht, hu]
  exact ⟨i1, i2, i7, i8, i9, i10⟩
theorem ok_ret {ty : FieldType} {noT : Bool} {ins : Instr} (row : ∀ (p : Program) (l : Launch) (e : Env) (R : Room) (s : State) (m : MethodId) (args : Array Value) (below : List Frame) (meth : Method) (c : Code) (H : Heap) (locs : List Loc) (k n : Nat) (Qc : Array Value → State → Outcome → State → Prop) (free : Addr → Prop) (v : AV) (ad : Lc → Nat) (ls : Array Slot), p.tables.exec = Jvm.exec → c.code = cc → meth.sig.returnType = some ty → meth.locks = false → am_frt ty v = true → (∀ t : State, t.heap = H → s.WarmedH t.vm → Qc args s (.returned (some (am_cv ad v))) t) → (∀ q ∈ locs, free q.base) →
    W p l e R s m args below meth c H locs k n (MQ below Qc args s k n free) (F0 m pc ls [am_cv ad v])) : am_fin own mn cc pc (some ty) noT (o_ret ty) := by
  intro p l e R s m args below meth c nL A D dA cad xl X hr hT ls st h t r hg hRf hRl n0 ad0 ad H locs ls' k n c0 s0 I hk hn hc hs mc ms hmc hms
  unfold o_ret at hg
  split at hg
  · rename_i v hst
    dsimp only at hst
    subst hst
    split at hg
    · rename_i hq
      cases hg
      dsimp only at hmc hms
      have e1 : mc = k := by omega
      have e2 : ms = n := by omega
      subst e1
      subst e2
      refine vx_ret ?_
      exact row p l e R s m args below meth c H locs mc ms _ A v ad ls' X.1 X.2.1 hr X.2.2.2.2.2.1 hq (fun u hu hW => ⟨ad, some v, rfl, fun w hw => by cases hw; exact I.2.2.2.2.1 v List.mem_cons_self, rfl, am_B_of I u hu rfl, I.2.2.1.F hu⟩) I.2.2.1.2.2
    · cases hg
  · cases hg
theorem ok_ireturn {ty : FieldType} {noT : Bool} (d : decode cc pc = .ok (.ireturn, 1)) (hty : ∀ v : AV, am_frt ty v = true → ∃ x : Int32, v = aI x ∧ narrow ty (.int x) = .int x) : am_fin own mn cc pc (some ty) noT (o_ret ty) :=
  ok_ret (ins := .ireturn) fun p l e R s m args below meth c H locs k n Qc free v ad ls hx hb hr hlk hf hq hfr => by
    obtain ⟨x, rfl, hx2⟩ := hty v hf
    exact W.zret hx hb hr hx2 hq hfr d hlk
theorem am_nrI : ∀ v : AV, am_frt .int v = true → ∃ x : Int32, v = aI x ∧ narrow .int (.int x) = .int x := by
  intro v h
  rcases v with x | x | x | x | r <;> first | exact ⟨x, rfl, rfl⟩ | cases h
theorem am_nrZ : ∀ v : AV, am_frt .boolean v = true → ∃ x : Int32, v = aI x ∧ narrow .boolean (.int x) = .int x := by
  intro v h
  rcases v with x | x | x | x | r <;> try cases h
  rcases of_decide_eq_true h with rfl | rfl
  · exact ⟨0, rfl, by decide +kernel⟩
  · exact ⟨1, rfl, by decide +kernel⟩
theorem am_nrB : ∀ v : AV, am_frt .byte v = true → ∃ x : Int32, v = aI x ∧ narrow .byte (.int x) = .int x := by
  intro v h
  rcases v with x | x | x | x | r <;> try cases h
  have e : x.toInt8.toInt32 = x := of_decide_eq_true h
  exact ⟨x, rfl, by rw [← e]; exact pk_nb _⟩
theorem am_nrC : ∀ v : AV, am_frt .char v = true → ∃ x : Int32, v = aI x ∧ narrow .char (.int x) = .int x := by
  intro v h
  rcases v with x | x | x | x | r <;> try cases h
  have e : (x.toUInt32 % 65536).toInt32 = x := of_decide_eq_true h
  exact ⟨x, rfl, by rw [← e]; exact pk_nc _⟩
theorem ok_lreturn {noT : Bool} (d : decode cc pc = .ok (.lreturn, 1)) : am_fin own mn cc pc (some .long) noT (o_ret .long) :=
  ok_ret (ins := .lreturn) fun p l e R s m args below meth c H locs k n Qc free v ad ls hx hb hr hlk hf hq hfr => by
    rcases v with x | x | x | x | r <;> try cases hf
    exact W.lret hx hb hr hq hfr d hlk
theorem ok_freturn {noT : Bool} (d : decode cc pc = .ok (.freturn, 1)) : am_fin own mn cc pc (some .float) noT (o_ret .float) :=
  ok_ret (ins := .freturn) fun p l e R s m args below meth c H locs k n Qc free v ad ls hx hb hr hlk hf hq hfr => by
    rcases v with x | x | x | x | r <;> try cases hf
    exact W.fret hx hb hr hq hfr d hlk
theorem ok_dreturn {noT : Bool} (d : decode cc pc = .ok (.dreturn, 1)) : am_fin own mn cc pc (some .double) noT (o_ret .double) :=
  ok_ret (ins := .dreturn) fun p l e R s m args below meth c H locs k n Qc free v ad ls hx hb hr hlk hf hq hfr => by
    rcases v with x | x | x | x | r <;> try cases hf
    exact W.dret hx hb hr hq hfr d hlk
theorem ok_areturn {noT : Bool} {C : String} (d : decode cc pc = .ok (.areturn, 1)) : am_fin own mn cc pc (some (.object C)) noT (o_ret (.object C)) :=
  ok_ret (ins := .areturn) fun p l e R s m args below meth c H locs k n Qc free v ad ls hx hb hr hlk hf hq hfr => by
    rcases v with x | x | x | x | r <;> try cases hf
    exact W.aret hx hb hr (Or.inl ⟨_, rfl⟩) (by cases r; exact Or.inl rfl; exact Or.inr ⟨_, rfl⟩) hq hfr d hlk
theorem ok_return {noT : Bool} (d : decode cc pc = .ok (.return_, 1)) : am_fin own mn cc pc none noT o_retv := by
  intro p l e R s m args below meth c nL A D dA cad xl X hr hT ls st h t r hg hRf hRl n0 ad0 ad H locs ls' k n c0 s0 I hk hn hc hs mc ms hmc hms
  unfold o_retv at hg
  split at hg
  · rename_i hst
    dsimp only at hst
    subst hst
    cases hg
    dsimp only at hmc hms
    have e1 : mc = k := by omega
    have e2 : ms = n := by omega
    subst e1
    subst e2
    refine vx_ret ?_
    exact W.vret X.1 X.2.1 hr (fun u hu hW => ⟨ad, none, rfl, (fun w hw => by cases hw), rfl, am_B_of I u hu rfl, I.2.2.1.F hu⟩) I.2.2.1.2.2 d X.2.2.2.2.2.1
  · cases hg
/-- 'throw new E()' -/
def o_thr (E : Nat) : CF → Option RS := fun c => if 8 < am_w c.2.2.1 then none else some (.inr E, c.2.2.2.1, (c.2.2.2.2.1, c.2.2.2.2.2.1 + 1, c.2.2.2.2.2.2 + 6))
abbrev am_exs : List String := ["java/lang/RuntimeException", "java/lang/Exception"]
theorem ok_throw {E ik ic : Nat} {rt : Option FieldType} (hE : Bundle.fit (am_exn E) = true) (w1 : Cond.classLink own ik (am_exn E) ∈ am_G) (w2 : Cond.initialized (am_exn E) ∈ am_G) (w3 : ∀ w ∈ vx_at0 own ic (am_exn E) am_exs, (w ∈ am_G ∨ w ∈ am_NW) ∧ vx_ot w = true ∧ (w.onTables = true ∨ w ∈ am_G))
    (d0 : decode cc pc = .ok (.new ik, 3)) (d3 : decode cc (pc + 3) = .ok (.dup, 1)) (d4 : decode cc (pc + 4) = .ok (.invokespecial ic, 3)) (d7 : decode cc (pc + 7) = .ok (.athrow, 1)) : am_fin own mn cc pc rt true (o_thr E) := by
  intro p l e R s m args below meth c nL A D dA cad xl X hr hT ls st h t r hg hRf hRl n0 ad0 ad H locs ls' k n c0 s0 I hk hn hc hs mc ms hmc hms
  unfold o_thr at hg
  split at hg
  · cases hg
  · rename_i hq
    cases hg
    dsimp only at hmc hms hc hs hq
    have good : ∀ w ∈ am_G, vx_ot w = true := fun w hw => by unfold vx_ot; rw [am_G_good hw, Bool.or_true]
    have hot : ∀ w ∈ vx_at0 own ic (am_exn E) am_exs, vx_ot w = true := fun w hw => (w3 w hw).2.1
    have hat : ∀ w ∈ vx_at0 own ic (am_exn E) am_exs, w.before args s = true := fun w hw => (w3 w hw).2.2.elim (fun ho => (w3 w hw).1.elim (X.2.2.2.2.1 w) (fun q => va_Nw.use ho (X.2.2.2.2.2.2.2.2.2.2.2.1.1 w q))) (X.2.2.2.2.1 w)
    refine vx_throw0 X.1 X.2.1 X.2.2.2.2.2.2.2.1 X.2.2.2.1 hE (by decide +kernel) (X.2.2.2.2.1 _ w1) (X.2.2.2.2.1 _ w2) hat ?_ X.2.2.2.2.2.2.2.2.2.1.2.2.2.2.2.2.1 X.2.2.2.2.2.2.2.2.2.1.2.2.2.2.2.2.2 I.2.2.1 (by rw [X.2.2.1, I.2.2.2.1.1]) d0 d3 d4 d7 (fun x hx => (hT rfl x hx).elim) (by show 2 + 3 < _; omega) (by rw [am_w_sum]; show _ + (13 * (2 + 1) + 42) ≤ _; omega) (by omega) (by omega) X.2.2.2.2.2.1 ?_ I.2.2.1.2.2 (by omega) (by omega)
    · intro w hw
      rcases List.mem_cons.mp hw with rfl | hw
      · exact good _ w1
      · rcases List.mem_cons.mp hw with rfl | hw
        · exact good _ w2
        · exact hot w hw
    · intro u hal hz hu
      obtain ⟨i1, i2, i3, i4, i5, i6, i7, i8, i9, i10, i11⟩ := I
      refine ⟨ad, E, rfl, rfl, ⟨i1.kept (fun j x hx => hu x.1 (i1 j x hx).lt), i2, i7, i8, i9, i10⟩, Nat.le_trans i3.1 hz, fun q h1 h2 => ?_⟩
      rw [hu q (Nat.lt_of_lt_of_le h1 i3.1)]
      exact i3.2.1 q h1 h2
end AME
