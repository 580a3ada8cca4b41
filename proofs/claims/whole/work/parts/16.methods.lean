/-! METHODS: a table of them, and their contracts -/
abbrev MT : Type := Nat → Option (Nat × Nat × (Nat → Option OP))
def am_meth (own mn : String) (cc : ByteArray) (rt : Option FieldType) (hh : List (Nat × Nat × Nat × Nat)) (yn : MethodName) (w0 : Cond) (nL : Nat) (code : Nat → Option OP) (MY : Nat → Option MI) : Prop :=
  plainName yn.cls = true ∧ yn.cls = own ∧ yn.name = mn ∧ ((w0 = .code yn cc nL rt ∧ hh = []) ∨ w0 = .codeWith yn cc nL rt hh) ∧ ∀ pc op, code pc = some op → am_opok own mn cc pc rt hh MY op
def am_mets (M : MT) (MY : Nat → Option MI) : Prop :=
  ∀ (y : Nat) (q : MI), MY y = some q → ∃ (nL : Nat) (code : Nat → Option OP) (own mn : String) (cc : ByteArray) (rt : Option FieldType) (hh : List (Nat × Nat × Nat × Nat)), M y = some (q.2.2, nL, code) ∧ am_meth own mn cc rt hh q.1 q.2.1 nL code MY
theorem am_flat_in : ∀ (as : List AV) (i : Nat) (v : AV), (am_flat as)[i]? = some (some v) → v ∈ as
  | [], i, v, h => by simp [am_flat] at h
  | w :: ws, i, v, h => by
    unfold am_flat at h
    split at h
    · match i, h with
      | 0, h => simp at h; subst h; exact List.mem_cons_self
      | 1, h => simp at h
      | i + 2, h => exact List.mem_cons_of_mem _ (am_flat_in ws i v (by simpa using h))
    · match i, h with
      | 0, h => simp at h; subst h; exact List.mem_cons_self
      | i + 1, h => exact List.mem_cons_of_mem _ (am_flat_in ws i v (by simpa using h))
theorem am_ent_in {as : List AV} {nL i : Nat} {v : AV} (h : (am_ent nL as)[i]? = some (some v)) : v ∈ as := by
  unfold am_ent at h
  rw [List.getElem?_append] at h
  split at h
  · exact am_flat_in as i v h
  · rw [List.getElem?_replicate] at h
    split at h <;> simp at h
theorem am_call_sound {l : Launch} (hl : l.stackTraces = false) {M : MT} {MY : Nat → Option MI} (hM : am_mets M MY) (F : Nat) : ∀ d, am_csound l d MY (am_call M F d)
  | 0 => by
    intro y q as h t r hq hr
    simp [am_call] at hr
  | d + 1 => by
    intro y q as h t r hq hr
    obtain ⟨nL, code, own, mn, cc, rt, hh, hMy, hplain, hcls, hname, hw0, hco⟩ := hM y q hq
    have ih := am_call_sound hl hM F d
    unfold am_call at hr
    rw [hMy] at hr
    dsimp only at hr
    split at hr
    · rename_i hcond
      have hmon := am_run_mon hco ih F _ r hr
      dsimp only at hmon
      refine ⟨?_, hcond.1, hmon.1, hmon.2⟩
      intro D dA cad xl ad sz mc ms hv hc hk hmc hms
      have body : ∀ (p : Program) (e : Env) (s : State) (m : MethodId) (args : Array Value) (below : List Frame) (meth : Method) (c : Code), p.tables.exec = Jvm.exec → c.code = cc → meth.sig.returnType = rt → (∀ w ∈ q.2.1 :: am_G, w.before args s = true) → s.vm.findClass q.1.cls = some m.cls → meth.locks = false → meth.name = q.1.name → c.maxLocals = nL → c.exceptionTable.toList = tableOf hh → am_Pc D dA cad xl ad t.1 sz as h args s →
          W p l e (am_rm (d + 1) mc ms) s m args below meth c s.heap [] 0 0 (vx_MQ below (am_Qc D dA cad xl (va_A (am_W dA ad t.1 h) sz) t.1 ad r) (am_XC D dA cad xl (va_A (am_W dA ad t.1 h) sz) t.1 ad r) args s mc ms (va_A (am_W dA ad t.1 h) sz)) (entryFrame m args nL) := by
        intro p e s m args below meth c hx hb hrt hts hown hlk hmn hml htb hPc
        obtain ⟨rfl, hsz, hP, hK, hD0, hC, hV⟩ := hPc
        subst hsz
        have X : am_X p l s m (as.map (am_cv ad)).toArray meth c own mn cc nL (va_A (am_W dA ad t.1 h) s.heap.size) D dA cad xl := ⟨hx, hb, hml, by rw [← hcls]; exact hown, fun w hw => hts w (List.mem_cons_of_mem _ hw), hlk, fun q h => Or.inr h, hl, hK, hC, by rw [hmn]; exact hname, hV⟩
        have I : am_I D dA cad xl (va_A (am_W dA ad t.1 h) s.heap.size) s.heap nL t.1 ad ad t.1 (am_ent nL as) [] h s.heap [] ((lg_sl (as.map (am_cv ad)) ++ List.replicate (nL - (lg_sl (as.map (am_cv ad))).length) Slot.unset).toArray) :=
          ⟨hP, hD0.self (sz := s.heap.size), va_S.rf, am_entry ad as hcond.2, (fun v h => by cases h), fun i v hiv => hv v (am_ent_in hiv), hc, hk, Nat.le_refl _, fun _ _ => rfl, fun L hL => (hk L hL).2⟩
        rw [lg_entry_eq]
        exact am_run_ok hco ih (c0 := t.2.1) (s0 := t.2.2) X hrt htb (by show 2 * d + 10 ≤ 2 * (d + 1) + 8; omega) (by show 60 * d + 260 ≤ 60 * (d + 1) + 200; omega) F _ r hr ad s.heap [] _ 0 0 I (Nat.zero_add _) (Nat.zero_add _) (by show r.2.2.2.1 ≤ t.2.1 + mc; omega) (by show r.2.2.2.2 ≤ t.2.2 + ms; omega) hmc hms
      rcases hw0 with ⟨hw0, hh0⟩ | hw0
      · refine vx_ofW (cc := cc) (maxL := nL) (ret := rt) (ws' := am_G) hplain (by rw [hw0]) ?_
        intro p e s m args below meth c s₁ B hml ht hPc
        have htb : c.exceptionTable.toList = tableOf hh := by
          rw [hh0]
          exact List.eq_nil_iff_forall_not_mem.mpr fun x hx => ht x hx
        exact body p e s m args below meth c B.exec B.bytes B.returns (atoms_spec (ws := q.2.1 :: am_G) B.pre) (findClass_of_methodNamed B.named) B.notSynchronized (name_of_methodNamed B.named B.method).1 hml htb hPc
      · refine vx_ofWH (cc := cc) (maxL := nL) (ret := rt) (hh := hh) (ws' := am_G) hplain (by rw [hw0]) ?_
        intro p e s m args below meth c s₁ B hml hPc
        have hts := atoms_spec (ws := q.2.1 :: am_G) B.pre
        have htb : c.exceptionTable.toList = tableOf hh := vx_table (x := q.1) B (by rw [← hw0]; exact hts _ List.mem_cons_self)
        exact body p e s m args below meth c B.exec B.bytes B.returns hts (findClass_of_methodNamed B.named) B.notSynchronized (name_of_methodNamed B.named B.method).1 hml htb hPc
    · cases hr
