/-! CALLS -/
def am_rm (d mc ms : Nat) : Room := { frames := 2 * d + 8, cells := mc, slots := ms, locals := 60 * d + 200 }
def am_Pc (D : va_G) (dA : Nat → ClassId) (cad : Lc → Nat) (xl : XL) (ad : Lc → Nat) (n sz : Nat) (as : List AV) (h : AH) : Array Value → State → Prop :=
  va_Pc (as.map (am_cv ad)) (fun U => U.heap.size = sz ∧ va_P D vwCl (am_W dA ad n h) U.heap ∧ va_K D vwCl (am_tys dA) U ∧ va_D (fun _ => True) (am_W dA ad n h) ∧ am_C xl cad (va_A (am_W dA ad n h) sz) U U.heap ∧ am_V cad U)
/-- a run of the abstract machine is a contract of the machine -/
def am_con (l : Launch) (d : Nat) (y : MethodName) (w0 : Cond) (as : List AV) (h : AH) (t : KT) (r : RS) : Prop :=
  ∀ (D : va_G) (dA : Nat → ClassId) (cad : Lc → Nat) (xl : XL) (ad : Lc → Nat) (sz mc ms : Nat), (∀ v ∈ as, am_rv t.1 v) → (∀ i, i < t.1 → am_rc t.1 (h (am_al i))) → (∀ L : Lc, 90 ≤ L.1 → h L = am_k xl L ∧ ad L = cad L) → mc + t.2.1 = r.2.2.2.1 → ms + t.2.2 = r.2.2.2.2 →
  vx_Met l y (w0 :: am_G) (am_rm d mc ms) (am_Pc D dA cad xl ad t.1 sz as h) (am_Qc D dA cad xl (va_A (am_W dA ad t.1 h) sz) t.1 ad r) (am_XC D dA cad xl (va_A (am_W dA ad t.1 h) sz) t.1 ad r) mc ms (va_A (am_W dA ad t.1 h) sz)
theorem am_blind {D : va_G} {dA : Nat → ClassId} {cad : Lc → Nat} {xl : XL} {ad : Lc → Nat} {n sz : Nat} {as : List AV} {h : AH} : FrameBlind (am_Pc D dA cad xl ad n sz as h) := by
  intro a U g mk q
  obtain ⟨q0, q1, q2, q3, q4, q5, q6⟩ := q
  exact ⟨q0, q1, q2, va_K.moved (u := U) (U := U.calling g mk a) (Vm.Alike.refl U.vm) q3, q4, am_C.moved (u := U) (U := U.calling g mk a) (Vm.Alike.refl U.vm) q5, am_V.same (s := U) (U := U.calling g mk a) rfl q6⟩
theorem am_goodG {ws : List Cond} (h : ∀ w ∈ ws, w ∈ am_G) : GoodIn am_G ws := fun w hw => ⟨h w hw, good_of_word (am_G_good (h w hw))⟩
/-- the part of the caller's cells that a callee may change -/
theorem am_free {D : va_G} {dA : Nat → ClassId} {cad : Lc → Nat} {xl : XL} {A : Nat → Prop} {H0 : Heap} {nL n0 n : Nat} {ad0 ad : Lc → Nat} {ls : AS} {st : List AV} {h : AH} {H : Heap} {locs : List Loc} {ls' : Array Slot} (I : am_I D dA cad xl A H0 nL n0 ad0 ad n ls st h H locs ls') (hA : ∀ q, H0.size ≤ q → A q) : ∀ q, va_A (am_W dA ad n h) H.size q → A q := by
  intro q hq
  rcases hq with ⟨k, e, hk⟩ | hq
  · exact I.2.1.2 k (q, e) hk
  · exact hA q (Nat.le_trans I.2.2.1.1 hq)
section AMC
variable {p : Program} {l : Launch} {e : Env} {R : Room} {s : State} {m : MethodId} {args : Array Value} {below : List Frame} {meth : Method} {c : Code} {H : Heap} {locs : List Loc} {k n : Nat} {Q : State → Prop}
variable {own mn : String} {cc : ByteArray} {pc nL n0 : Nat} {A : Nat → Prop} {D : va_G} {dA : Nat → ClassId} {cad : Lc → Nat} {xl : XL} {ls : AS} {st : List AV} {h : AH} {t : KT} {ad0 ad : Lc → Nat} {ls' : Array Slot}
theorem am_pre (X : am_X p l s m args meth c own mn cc nL A D dA cad xl) (I : am_I D dA cad xl A s.heap nL n0 ad0 ad t.1 ls st h H locs ls') (as : List AV) : ∀ U : State, U.heap = H → s.WarmedH U.vm → am_Pc D dA cad xl ad t.1 H.size as h (as.map (am_cv ad)).toArray U := by
  intro U hU hW
  have hF := am_free I X.2.2.2.2.2.2.1
  refine ⟨rfl, by rw [hU], by rw [hU]; exact I.1, va_K.moved hW.alike X.2.2.2.2.2.2.2.2.1, I.2.1.weaken (fun _ _ _ _ => trivial), ?_, X.2.2.2.2.2.2.2.2.2.2.2.warm hW⟩
  rw [hU]
  exact ((X.2.2.2.2.2.2.2.2.2.1.kept I.2.2.1.2.1).narrow hF).moved hW.alike
/-- behind a call -/
theorem am_use {as : List AV} {rest : List AV} {r : RS} {mc ms : Nat} {a : Array Value} {g0 : List Value} (X : am_X p l s m args meth c own mn cc nL A D dA cad xl) (I : am_I D dA cad xl A s.heap nL n0 ad0 ad t.1 ls st h H locs ls') (hrest : ∀ v ∈ rest, v ∈ st)
    (hr : vx_Run p l e R s m args below meth c H locs k n mc ms (F0 m pc ls' g0) (rest.map (am_cv ad)) (am_Qc D dA cad xl (va_A (am_W dA ad t.1 h) H.size) t.1 ad r a) (am_XC D dA cad xl (va_A (am_W dA ad t.1 h) H.size) t.1 ad r) (va_A (am_W dA ad t.1 h) H.size))
    (kk : ∀ (v : Option AV) (ad' : Lc → Nat) (H' : Heap) (locs' : List Loc), r.1 = .inl v → am_I D dA cad xl A s.heap nL n0 ad0 ad' r.2.2.1 ls (v.toList ++ rest) r.2.1 H' locs' ls' → W p l e R s m args below meth c H' locs' (k + mc) (n + ms) Q (F0 m (pc + 3) ls' ((v.toList ++ rest).map (am_cv ad'))))
    (kx : ∀ (E : Nat) (ad' : Lc → Nat) (H' : Heap) (locs' : List Loc) (q : Addr) (ce : Cell), r.1 = .inr E → am_I D dA cad xl A s.heap nL n0 ad0 ad' r.2.2.1 ls [] r.2.1 H' locs' ls' → H'[q]? = some ce → ce.vm = .none → s.vm.findClass (am_exn E) = some ce.cls → vx_W p l e R s m args below meth c H' locs' (k + mc) (n + ms) Q (F0 m pc ls' (rest.map (am_cv ad))) q) :
    W p l e R s m args below meth c H locs k n Q (F0 m pc ls' g0) := by
  have hF0 := am_free I X.2.2.2.2.2.2.1
  have build : ∀ (ad' : Lc → Nat) (stn : List AV) (u T' : State) (L : List Loc) (st₀ : State), st₀.heap = H → T'.heap = u.heap → (∀ q ∈ L, (va_A (am_W dA ad t.1 h) H.size) q.base) → va_F (va_A (am_W dA ad t.1 h) H.size) st₀ u → (∀ v ∈ stn, am_rv r.2.2.1 v) →
      am_B D dA cad xl (va_A (am_W dA ad t.1 h) H.size) t.1 ad ad' r u → am_I D dA cad xl A s.heap nL n0 ad0 ad' r.2.2.1 ls stn r.2.1 T'.heap (locs ++ L) ls' := by
    intro ad' stn u T' L st₀ h0 e1 hL hF hstn B
    obtain ⟨b1, b2, b3, b4, b5, b6⟩ := B
    obtain ⟨i1, i2, i3, i4, i5, i6, i7, i8, i9, i10, i11⟩ := I
    obtain ⟨k1, k2, k3⟩ := vx_keep h0 e1 i3 (fun q _ z => hF0 q z) hF0 hL hF
    have hk : ∀ L : Lc, 90 ≤ L.1 → ad' L = ad L := fun L hL => (b4 L hL).2.trans (i8 L hL).2.symm
    refine ⟨by rw [e1]; exact b1, b2.weaken (fun _ q _ hq => hF0 q.1 hq), k3, ⟨i4.1, i4.2.1, i4.2.2.1, fun i v hv => ?_⟩, hstn, fun i v hv => am_rv_mono b5 (i6 i v hv), b3, b4, Nat.le_trans i9 b5, fun i hi => (b6 i (by omega)).trans (i10 i hi), i11⟩
    rw [am_cv_ad b6 hk (i6 i v hv)]
    exact i4.2.2.2 i v hv
  intro T hT Xs
  rcases hr T hT Xs with ⟨v, st₀, u, T', L, h0, X', hL, e1, e2, ⟨ad', w, hrw, hvw, hov, B, hF⟩, go⟩ | ⟨q, st₀, u, T', L, E, ce, h0, X', hL, e1, e2, ⟨ad', E', hrE, hEE, B, hF⟩, hce, hcv, hcl, go⟩
  · have hk : ∀ L : Lc, 90 ≤ L.1 → ad' L = ad L := fun L hL => (B.2.2.2.1 L hL).2.trans (I.2.2.2.2.2.2.2.1 L hL).2.symm
    have hst : ∀ x ∈ w.toList ++ rest, am_rv r.2.2.1 x := by
      intro x hx
      rcases List.mem_append.mp hx with hx | hx
      · exact hvw x (by simpa using hx)
      · exact am_rv_mono B.2.2.2.2.1 (I.2.2.2.2.1 x (hrest x hx))
    have I2 := build ad' (w.toList ++ rest) u T' L st₀ h0 e1 hL hF hst B
    obtain ⟨t2, a1, b1⟩ := kk w ad' T'.heap (locs ++ L) hrw I2 T' rfl X'
    have hov2 : v = w.map (am_cv ad') := by injection hov
    have es : (w.toList ++ rest).map (am_cv ad') = v.toList ++ rest.map (am_cv ad) := by
      rw [List.map_append, hov2]
      congr 1
      · cases w <;> rfl
      · exact List.map_congr_left fun x hx => am_cv_ad B.2.2.2.2.2 hk (I.2.2.2.2.1 x (hrest x hx))
    rw [es] at a1
    exact ⟨t2, go t2 a1, b1⟩
  · have I2 := build ad' [] u T' L st₀ h0 e1 hL hF (fun _ hx => by cases hx) B
    obtain ⟨t2, a1, b1⟩ := kx E' ad' T'.heap (locs ++ L) q ce hrE I2 (by rw [e1]; exact hce) hcv (by rw [← hEE]; exact hcl) T' rfl X'
    exact ⟨t2, Steps.trans go a1, b1⟩
end AMC
/-- a place from which y is called -/
def am_cal (own mn : String) (cc : ByteArray) (pc na rc : Nat) (y : MethodName) (w0 : Cond) : Prop :=
  ∀ (p : Program) (l : Launch) (e : Env) (R : Room) (s : State) (m : MethodId) (args : Array Value) (below : List Frame) (meth : Method) (c : Code) (nL : Nat) (A : Nat → Prop) (D : va_G) (dA : Nat → ClassId) (cad : Lc → Nat) (xl : XL), am_X p l s m args meth c own mn cc nL A D dA cad xl →
  ∀ (ls : AS) (st : List AV) (h : AH) (t : KT) (r : RS) (d : Nat), am_con l d y w0 (st.take na).reverse h t r → (st.take na).reverse.length = na → ¬ 8 < am_w (st.drop na) → ¬ am_rcv rc st[na - 1]? h = false → 2 * d + 10 ≤ R.frames → 60 * d + 260 ≤ R.locals →
  ∀ (n0 : Nat) (ad0 ad : Lc → Nat) (H : Heap) (locs : List Loc) (ls' : Array Slot) (k n mc ms : Nat), am_I D dA cad xl A s.heap nL n0 ad0 ad t.1 ls st h H locs ls' → k + mc ≤ R.cells → n + ms ≤ R.slots → mc + t.2.1 = r.2.2.2.1 → ms + t.2.2 = r.2.2.2.2 →
  ∃ a : Array Value, vx_Run p l e R s m args below meth c H locs k n mc ms (F0 m pc ls' (st.map (am_cv ad))) ((st.drop na).map (am_cv ad)) (am_Qc D dA cad xl (va_A (am_W dA ad t.1 h) H.size) t.1 ad r a) (am_XC D dA cad xl (va_A (am_W dA ad t.1 h) H.size) t.1 ad r) (va_A (am_W dA ad t.1 h) H.size)
theorem am_stack (na : Nat) (st : List AV) (f : AV → Value) : st.map f = ((st.take na).reverse.map f).reverse ++ (st.drop na).map f := by
  rw [List.map_reverse, List.reverse_reverse, ← List.map_append, List.take_append_drop]
/-- the receiver stands first -/
theorem am_rcvr {st : List AV} {na : Nat} (h0 : 0 < na) (hl : (st.take na).reverse.length = na) : ∃ v As, (st.take na).reverse = v :: As ∧ st[na - 1]? = some v ∧ As.length + 1 = na := by
  have hl2 : na ≤ st.length := by
    rw [List.length_reverse, List.length_take] at hl
    omega
  have e1 : (st.take na).reverse[0]? = st[na - 1]? := by
    rw [List.getElem?_reverse (by rw [List.length_take]; omega), List.length_take, List.getElem?_take]
    rw [Nat.min_eq_left hl2, if_pos (by omega)]
    congr 1
  cases hq : (st.take na).reverse with
  | nil => rw [hq] at hl; simp at hl; omega
  | cons v As =>
    rw [hq] at e1 hl
    exact ⟨v, As, rfl, by simpa using e1.symm, by simpa using hl⟩
theorem am_recvK {D : va_G} {dA : Nat → ClassId} {cad : Lc → Nat} {xl : XL} {A : Nat → Prop} {s : State} {nL n0 n ci N : Nat} {ad0 ad : Lc → Nat} {ls : AS} {st : List AV} {h : AH} {H : Heap} {locs : List Loc} {ls' : Array Slot} {C : String} {T : u_T} {v : AV} (hK : va_K D vwCl (am_tys dA) s) (I : am_I D dA cad xl A s.heap nL n0 ad0 ad n ls st h H locs ls') (hci : ci < 20) (hcl : vwCl[ci]? = some (C, T, N)) (hv : am_rv n v) (hr : ¬ am_rcv (ci + 1) (some v) h = false) :
    ∃ b : Nat, am_cv ad v = .ref b ∧ ∃ cell : Cell, H[b]? = some cell ∧ cell.vm.isStatics = false ∧ s.vm.findClass C = some cell.cls := by
  rcases v with x | x | x | x | r <;> try exact absurd rfl hr
  rcases r with _ | L
  · exact absurd rfl hr
  · refine ⟨ad L, rfl, ?_⟩
    rcases am_ref I hv with ⟨i, hi, rfl, hW, -⟩ | ⟨hkL, h1, h2⟩
    · simp only [am_rcv] at hr
      split at hr
      · rename_i ci' fs hL
        have e : ci' = ci := by simpa using hr
        subst e
        rw [hL] at hW
        exact va_recv (q := (C, T, N)) hK I.1 hcl hW
      · exact absurd rfl hr
    · simp only [am_rcv] at hr
      split at hr
      · rename_i ci' fs hL
        have e : ci' = ci := by simpa using hr
        subst e
        rw [h1] at hL
        have := am_cas_o L hkL _ _ hL
        omega
      · exact absurd rfl hr
section AMK
variable {own mn : String} {cc : ByteArray} {pc na idx ci N maxL : Nat} {C : String} {T : u_T} {y : MethodName} {b : ByteArray} {ret : Option FieldType}
/-- invokevirtual -/
theorem ok_invV (d : decode cc pc = .ok (.invokevirtual idx, 3)) (hci : ci < 20) (hcl : vwCl[ci]? = some (C, T, N)) (hna : 0 < na) (hmax : maxL ≤ 41) (w1 : Cond.methodLink own idx y ∈ am_G) (w2 : Cond.instanceMethod y ∈ am_G) (w3 : Cond.selects C y y ∈ am_G) (w4 : Cond.initialized C ∈ am_G) (w5 : Cond.code y b maxL ret ∈ am_G)
    (hd : y.cls = C ∧ y.cls ≠ "java/lang/invoke/MethodHandle" ∧ y.cls ≠ "java/lang/invoke/VarHandle" ∧ (parseMethodDescriptor y.desc).map (fun d => d.parameters.length) = some (na - 1)) : am_cal own mn cc pc na (ci + 1) y (.code y b maxL ret) := by
  intro p l e R s m args below meth c nL A D dA cad xl X ls st h t r d' hcon hlen hw hrc hRf hRl n0 ad0 ad H locs ls' k n mc ms I hc hs hmc hms
  obtain ⟨v, As, hav, hv1, hAs⟩ := am_rcvr hna hlen
  have hvst : v ∈ st := List.mem_of_getElem? hv1
  rw [hv1] at hrc
  obtain ⟨q, hq, hrecv⟩ := am_recvK X.2.2.2.2.2.2.2.2.1 I hci hcl (I.2.2.2.2.1 v hvst) hrc
  have hM := hcon D dA cad xl ad H.size mc ms (fun x hx => I.2.2.2.2.1 x (List.mem_of_mem_take (List.mem_reverse.mp hx))) I.2.2.2.2.2.2.1 I.2.2.2.2.2.2.2.1 hmc hms
  have hG : GoodIn am_G (wsV own idx C y (Cond.code y b maxL ret :: am_G)) := am_goodG (by
    intro w hw
    simp only [wsV, List.cons_append, List.nil_append, List.mem_cons] at hw
    rcases hw with rfl | rfl | rfl | rfl | rfl | hw <;> assumption)
  have hpre := am_pre X I (st.take na).reverse
  rw [hav, List.map_cons, hq] at hpre
  have hstk := am_stack na st (am_cv ad)
  rw [hav, List.map_cons, hq, List.reverse_cons, List.append_assoc] at hstk
  rw [hav] at hM
  exact ⟨_, vx_runV (As := As.map (am_cv ad)) (b := q) ⟨X.1, X.2.1, X.2.2.1, X.2.2.2.1, X.2.2.2.2.1⟩ hM (cwV (na - 1) X.2.2.2.2.1 hG rfl rfl rfl hd ⟨by show 2 * d' + 8 + 1 ≤ _; omega, by show 8 + (maxL + 11) + (60 * d' + 200) ≤ _; omega⟩) ⟨am_blind, hrecv, hpre⟩ rfl (by rw [List.length_map]; omega) I.2.2.2.1.1 hstk (by show 2 * 0 + _ ≤ 8; rw [am_w_sum]; omega) d ⟨hc, hs⟩⟩
/-- invokestatic -/
theorem ok_invS (d : decode cc pc = .ok (.invokestatic idx, 3)) (hmax : maxL ≤ 41) (w1 : Cond.methodLink own idx y ∈ am_G) (w2 : Cond.static y ∈ am_G) (w4 : Cond.initialized y.cls ∈ am_G) (w5 : Cond.code y b maxL ret ∈ am_G)
    (hd : y.cls ≠ "java/lang/invoke/MethodHandle" ∧ y.cls ≠ "java/lang/invoke/VarHandle" ∧ (parseMethodDescriptor y.desc).map (fun d => d.parameters.length) = some na) : am_cal own mn cc pc na 0 y (.code y b maxL ret) := by
  intro p l e R s m args below meth c nL A D dA cad xl X ls st h t r d' hcon hlen hw hrc hRf hRl n0 ad0 ad H locs ls' k n mc ms I hc hs hmc hms
  have hM := hcon D dA cad xl ad H.size mc ms (fun x hx => I.2.2.2.2.1 x (List.mem_of_mem_take (List.mem_reverse.mp hx))) I.2.2.2.2.2.2.1 I.2.2.2.2.2.2.2.1 hmc hms
  have hG : GoodIn am_G (va_wsS own idx y (Cond.code y b maxL ret :: am_G)) := am_goodG (by
    intro w hw
    simp only [va_wsS, List.cons_append, List.nil_append, List.mem_cons] at hw
    rcases hw with rfl | rfl | rfl | rfl | hw <;> assumption)
  have hpre := am_pre X I (st.take na).reverse
  exact ⟨_, vx_runS (As := (st.take na).reverse.map (am_cv ad)) ⟨X.1, X.2.1, X.2.2.1, X.2.2.2.1, X.2.2.2.2.1⟩ hM (va_cwS na X.2.2.2.2.1 hG rfl rfl rfl hd ⟨by show 2 * d' + 8 + 1 ≤ _; omega, by show 8 + (maxL + 11) + (60 * d' + 200) ≤ _; omega⟩) ⟨am_blind, hpre⟩ rfl (by rw [List.length_map]; exact hlen) I.2.2.2.1.1 (am_stack na st _) (by show 2 * 0 + _ ≤ 8; rw [am_w_sum]; omega) d ⟨hc, hs⟩⟩
/-- a nest mate's static method -/
theorem ok_invSN {host : String} (d : decode cc pc = .ok (.invokestatic idx, 3)) (hmax : maxL ≤ 41) (w1 : Cond.methodLinkNest own idx y host ∈ am_NW) (w2 : Cond.static y ∈ am_G) (w4 : Cond.initialized y.cls ∈ am_G) (w5 : Cond.code y b maxL ret ∈ am_G)
    (hd : y.cls ≠ "java/lang/invoke/MethodHandle" ∧ y.cls ≠ "java/lang/invoke/VarHandle" ∧ (parseMethodDescriptor y.desc).map (fun d => d.parameters.length) = some na) : am_cal own mn cc pc na 0 y (.code y b maxL ret) := by
  intro p l e R s m args below meth c nL A D dA cad xl X ls st h t r d' hcon hlen hw hrc hRf hRl n0 ad0 ad H locs ls' k n mc ms I hc hs hmc hms
  have hM := hcon D dA cad xl ad H.size mc ms (fun x hx => I.2.2.2.2.1 x (List.mem_of_mem_take (List.mem_reverse.mp hx))) I.2.2.2.2.2.2.1 I.2.2.2.2.2.2.2.1 hmc hms
  have hG : GoodIn am_G (Cond.code y b maxL ret :: am_G) := am_goodG (by
    intro w hw
    rcases List.mem_cons.mp hw with rfl | hw <;> assumption)
  have hpre := am_pre X I (st.take na).reverse
  exact ⟨_, vx_runSN (As := (st.take na).reverse.map (am_cv ad)) ⟨X.1, X.2.1, X.2.2.1, X.2.2.2.1, X.2.2.2.2.1⟩ hM ⟨va_cnB na X.2.2.2.2.1 hG rfl rfl rfl (X.2.2.2.2.2.2.2.2.2.2.2.1.1 _ w1) (X.2.2.2.2.1 _ w4) hd ⟨by show 2 * d' + 8 + 1 ≤ _; omega, by show 8 + (maxL + 11) + (60 * d' + 200) ≤ _; omega⟩, X.2.2.2.2.1 _ w2, trivial⟩ ⟨am_blind, hpre⟩ rfl (by rw [List.length_map]; exact hlen) I.2.2.2.1.1 (am_stack na st _) (by show 2 * 0 + _ ≤ 8; rw [am_w_sum]; omega) d ⟨hc, hs⟩⟩
end AMK
