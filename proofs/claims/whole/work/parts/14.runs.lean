/-! MORE KINDS OF CALLS, AND RUNS -/
theorem am_cosE : ∀ L ∈ am_kL, ∀ (xl : XL) (ci : Nat) (fs : List AV), am_k xl L = .inr (ci, fs) → ci < 30 → ((if ci = 20 then "NineWays$Command" else "java/lang/String"), L) ∈ am_cos := by
  intro L hL xl ci fs h h30
  simp only [am_kL, List.mem_append, List.mem_cons, List.not_mem_nil, or_false, List.mem_map, List.mem_range] at hL
  rcases hL with ((((rfl | rfl | rfl | rfl | rfl | rfl) | ⟨k, hk, rfl⟩) | ⟨k, hk, rfl⟩) | ⟨k, hk, rfl⟩) <;> cases h
  · exact absurd h30 (by decide)
  · exact List.mem_append_left _ (List.mem_map.mpr ⟨k, List.mem_range.mpr hk, rfl⟩)
  · exact List.mem_append_right _ (List.mem_map.mpr ⟨k, List.mem_range.mpr hk, rfl⟩)
theorem am_recvC {p : Program} {l : Launch} {args : Array Value} {m : MethodId} {meth : Method} {c : Code} {own mn : String} {cc : ByteArray} {D : va_G} {dA : Nat → ClassId} {cad : Lc → Nat} {xl : XL} {A : Nat → Prop} {s : State} {nL n0 n ci : Nat} {ad0 ad : Lc → Nat} {ls : AS} {st : List AV} {h : AH} {H : Heap} {locs : List Loc} {ls' : Array Slot} {v : AV} (X : am_X p l s m args meth c own mn cc nL A D dA cad xl) (I : am_I D dA cad xl A s.heap nL n0 ad0 ad n ls st h H locs ls') (hci : 11 ≤ ci) (hci2 : ci < 30) (hv : am_rv n v) (hr : ¬ am_rcv (ci + 1) (some v) h = false) :
    ∃ b : Nat, am_cv ad v = .ref b ∧ ∃ cell : Cell, H[b]? = some cell ∧ cell.vm.isStatics = false ∧ s.vm.findClass (if ci = 20 then "NineWays$Command" else "java/lang/String") = some cell.cls := by
  rcases v with x | x | x | x | r <;> try exact absurd rfl hr
  rcases r with _ | L
  · exact absurd rfl hr
  · refine ⟨ad L, rfl, ?_⟩
    rcases am_ref I hv with ⟨i, hi, rfl, hW, -⟩ | ⟨hkL, h1, h2⟩
    · simp only [am_rcv] at hr
      split at hr
      · rename_i ci' fs hL
        have e : ci' = ci := by simpa using hr
        subst e
        rw [hL] at hW
        obtain ⟨r', h1, -⟩ := I.1 i _ hW
        have h9 := (List.getElem?_eq_some_iff.mp h1).1
        have : ci' < 11 := h9
        omega
      · exact absurd rfl hr
    · simp only [am_rcv] at hr
      split at hr
      · rename_i ci' fs hL
        have e : ci' = ci := by simpa using hr
        subst e
        rw [h1] at hL
        have hO := X.2.2.2.2.2.2.2.2.2.1.2.1 _ (am_cosE L hkL xl ci' fs hL hci2)
        rw [h2]
        exact va_Orecv hO I.2.2.1
      · exact absurd rfl hr
section AMK2
variable {own mn : String} {cc : ByteArray} {pc na idx ci N maxL : Nat} {C : String} {T : u_T} {x y : MethodName} {b : ByteArray} {ret : Option FieldType}
/-- invokevirtual of a constant object's own method -/
theorem ok_invC (d : decode cc pc = .ok (.invokevirtual idx, 3)) (hci : 11 ≤ ci ∧ ci < 30) (hC : (if ci = 20 then "NineWays$Command" else "java/lang/String") = C) (hna : 0 < na) (hmax : maxL ≤ 41) (w1 : Cond.methodLink own idx y ∈ am_G) (w2 : Cond.instanceMethod y ∈ am_G) (w3 : Cond.selects C y y ∈ am_G) (w4 : Cond.initialized C ∈ am_G) (w5 : Cond.code y b maxL ret ∈ am_G)
    (hd : y.cls = C ∧ y.cls ≠ "java/lang/invoke/MethodHandle" ∧ y.cls ≠ "java/lang/invoke/VarHandle" ∧ (parseMethodDescriptor y.desc).map (fun d => d.parameters.length) = some (na - 1)) : am_cal own mn cc pc na (ci + 1) y (.code y b maxL ret) := by
  intro p l e R s m args below meth c nL A D dA cad xl X ls st h t r d' hcon hlen hw hrc hRf hRl n0 ad0 ad H locs ls' k n mc ms I hc hs hmc hms
  obtain ⟨v, As, hav, hv1, hAs⟩ := am_rcvr hna hlen
  have hvst : v ∈ st := List.mem_of_getElem? hv1
  rw [hv1] at hrc
  obtain ⟨q, hq, hrecv⟩ := am_recvC X I hci.1 hci.2 (I.2.2.2.2.1 v hvst) hrc
  rw [hC] at hrecv
  have hM := hcon D dA cad xl ad H.size mc ms (fun x hx => I.2.2.2.2.1 x (List.mem_of_mem_take (List.mem_reverse.mp hx))) I.2.2.2.2.2.2.1 I.2.2.2.2.2.2.2.1 hmc hms
  have hG : GoodIn am_G (wsV own idx C y (Cond.code y b maxL ret :: am_G)) := am_goodG (by
    intro w hw
    simp only [wsV, List.cons_append, List.nil_append, List.mem_cons] at hw
    rcases hw with rfl | rfl | rfl | rfl | rfl | hw <;> assumption)
  have hpre := am_pre X I (st.take na).reverse
  rw [hav, List.map_cons, hq] at hpre
  have hstk := am_stack na st (am_cv ad)
  rw [hav, List.map_cons, hq, List.reverse_cons, List.append_assoc] at hstk
  rw [hav] at hM
  exact ⟨_, vx_runV (As := As.map (am_cv ad)) (b := q) ⟨X.1, X.2.1, X.2.2.1, X.2.2.2.1, X.2.2.2.2.1⟩ hM (cwV (na - 1) X.2.2.2.2.1 hG rfl rfl rfl hd ⟨by show 2 * d' + 8 + 1 ≤ _; omega, by show 8 + (maxL + 11) + (60 * d' + 200) ≤ _; omega⟩) ⟨am_blind, hrecv, hpre⟩ rfl (by rw [List.length_map]; omega) I.2.2.2.1.1 hstk (by show 2 * 0 + _ ≤ 8; rw [am_w_sum]; omega) d ⟨hc, hs⟩⟩
/-- invokevirtual of a constant object's inherited method -/
theorem ok_invU {owner : String} (d : decode cc pc = .ok (.invokevirtual idx, 3)) (hci : 11 ≤ ci ∧ ci < 30) (hC : (if ci = 20 then "NineWays$Command" else "java/lang/String") = C) (hna : 0 < na) (hmax : maxL ≤ 41) (wu : ∀ w ∈ va_wsU own idx C owner x y [Cond.code y b maxL ret], w ∈ am_G)
    (hyx : y = ⟨owner, x.name, x.desc⟩) (hd : owner ≠ "java/lang/invoke/MethodHandle" ∧ owner ≠ "java/lang/invoke/VarHandle" ∧ (parseMethodDescriptor x.desc).map (fun d => d.parameters.length) = some (na - 1)) : am_cal own mn cc pc na (ci + 1) y (.code y b maxL ret) := by
  intro p l e R s m args below meth c nL A D dA cad xl X ls st h t r d' hcon hlen hw hrc hRf hRl n0 ad0 ad H locs ls' k n mc ms I hc hs hmc hms
  obtain ⟨v, As, hav, hv1, hAs⟩ := am_rcvr hna hlen
  have hvst : v ∈ st := List.mem_of_getElem? hv1
  rw [hv1] at hrc
  obtain ⟨q, hq, hrecv⟩ := am_recvC X I hci.1 hci.2 (I.2.2.2.2.1 v hvst) hrc
  rw [hC] at hrecv
  have hM := hcon D dA cad xl ad H.size mc ms (fun x hx => I.2.2.2.2.1 x (List.mem_of_mem_take (List.mem_reverse.mp hx))) I.2.2.2.2.2.2.1 I.2.2.2.2.2.2.2.1 hmc hms
  have hG : GoodIn am_G (va_wsU own idx C owner x y (Cond.code y b maxL ret :: am_G)) := am_goodG (by
    intro w hw
    unfold va_wsU at hw wu
    rcases List.mem_append.mp hw with hw | hw
    · exact wu w (List.mem_append_left _ hw)
    · rcases List.mem_cons.mp hw with rfl | hw
      · exact wu _ (List.mem_append_right _ List.mem_cons_self)
      · exact hw)
  have hpre := am_pre X I (st.take na).reverse
  rw [hav, List.map_cons, hq] at hpre
  have hstk := am_stack na st (am_cv ad)
  rw [hav, List.map_cons, hq, List.reverse_cons, List.append_assoc] at hstk
  rw [hav] at hM
  exact ⟨_, vx_runU (As := As.map (am_cv ad)) (b := q) ⟨X.1, X.2.1, X.2.2.1, X.2.2.2.1, X.2.2.2.2.1⟩ hM (va_cwU (na - 1) X.2.2.2.2.1 hG rfl rfl rfl hyx hd ⟨by show 2 * d' + 8 + 1 ≤ _; omega, by show 8 + (maxL + 11) + (60 * d' + 200) ≤ _; omega⟩) ⟨am_blind, hrecv, hpre⟩ rfl (by rw [List.length_map]; omega) I.2.2.2.1.1 hstk (by show 2 * 0 + _ ≤ 8; rw [am_w_sum]; omega) d ⟨hc, hs⟩⟩
/-- the receiver is a reference -/
def am_isr : AV → Prop
  | .inr (.inr (.inr (.inr (some _)))) => True
  | _ => False
/-- invokespecial of a constructor -/
theorem ok_invI (d : decode cc pc = .ok (.invokespecial idx, 3)) (hcl : vwCl[ci]? = some (C, T, N)) (hci : ci < 20) (hna : 0 < na) (hmax : maxL ≤ 41) (w1 : Cond.methodLink own idx y ∈ am_G) (w2 : Cond.instanceMethod y ∈ am_G) (w4 : Cond.initialized y.cls ∈ am_G) (w5 : Cond.code y b maxL none ∈ am_G) (hy : y.name = "<init>")
    (hd : y.cls ≠ "java/lang/invoke/MethodHandle" ∧ y.cls ≠ "java/lang/invoke/VarHandle" ∧ (parseMethodDescriptor y.desc).map (fun d => d.parameters.length) = some (na - 1)) : am_cal own mn cc pc na (ci + 1) y (.code y b maxL none) := by
  intro p l e R s m args below meth c nL A D dA cad xl X ls st h t r d' hcon hlen hw hrc hRf hRl n0 ad0 ad H locs ls' k n mc ms I hc hs hmc hms
  obtain ⟨v, As, hav, hv1, hAs⟩ := am_rcvr hna hlen
  have hvst : v ∈ st := List.mem_of_getElem? hv1
  rw [hv1] at hrc
  obtain ⟨q, hq, hrecv⟩ := am_recvK X.2.2.2.2.2.2.2.2.1 I hci hcl (I.2.2.2.2.1 v hvst) hrc
  have hM := hcon D dA cad xl ad H.size mc ms (fun x hx => I.2.2.2.2.1 x (List.mem_of_mem_take (List.mem_reverse.mp hx))) I.2.2.2.2.2.2.1 I.2.2.2.2.2.2.2.1 hmc hms
  have hG : GoodIn am_G (Cond.code y b maxL none :: am_G) := am_goodG (by
    intro w hw
    rcases List.mem_cons.mp hw with rfl | hw <;> assumption)
  have hpre := am_pre X I (st.take na).reverse
  rw [hav, List.map_cons, hq] at hpre
  have hstk := am_stack na st (am_cv ad)
  rw [hav, List.map_cons, hq, List.reverse_cons, List.append_assoc] at hstk
  rw [hav] at hM
  exact ⟨_, vx_runI (As := As.map (am_cv ad)) (b := q) ⟨X.1, X.2.1, X.2.2.1, X.2.2.2.1, X.2.2.2.2.1⟩ hM (cwI (na - 1) X.2.2.2.2.1 hG rfl rfl rfl (X.2.2.2.2.1 _ w4) (X.2.2.2.2.1 _ w1) (X.2.2.2.2.1 _ w2) hy hd ⟨by show 2 * d' + 8 + 1 ≤ _; omega, by show 8 + (maxL + 11) + (60 * d' + 200) ≤ _; omega⟩) ⟨am_blind, hpre⟩ rfl (by rw [List.length_map]; omega) I.2.2.2.1.1 hstk (by show 2 * 0 + _ ≤ 8; rw [am_w_sum]; omega) d ⟨hc, hs⟩⟩
/-- invokespecial of a nest mate's private constructor -/
theorem ok_invIN {host : String} (d : decode cc pc = .ok (.invokespecial idx, 3)) (hcl : vwCl[ci]? = some (C, T, N)) (hci : ci < 20) (hna : 0 < na) (hmax : maxL ≤ 41) (w1 : Cond.methodLinkNest own idx y host ∈ am_NW) (w2 : Cond.instanceMethod y ∈ am_G) (w4 : Cond.initialized y.cls ∈ am_G) (w5 : Cond.code y b maxL none ∈ am_G) (hy : y.name = "<init>")
    (hd : y.cls ≠ "java/lang/invoke/MethodHandle" ∧ y.cls ≠ "java/lang/invoke/VarHandle" ∧ (parseMethodDescriptor y.desc).map (fun d => d.parameters.length) = some (na - 1)) : am_cal own mn cc pc na (ci + 1) y (.code y b maxL none) := by
  intro p l e R s m args below meth c nL A D dA cad xl X ls st h t r d' hcon hlen hw hrc hRf hRl n0 ad0 ad H locs ls' k n mc ms I hc hs hmc hms
  obtain ⟨v, As, hav, hv1, hAs⟩ := am_rcvr hna hlen
  have hvst : v ∈ st := List.mem_of_getElem? hv1
  rw [hv1] at hrc
  obtain ⟨q, hq, hrecv⟩ := am_recvK X.2.2.2.2.2.2.2.2.1 I hci hcl (I.2.2.2.2.1 v hvst) hrc
  have hM := hcon D dA cad xl ad H.size mc ms (fun x hx => I.2.2.2.2.1 x (List.mem_of_mem_take (List.mem_reverse.mp hx))) I.2.2.2.2.2.2.1 I.2.2.2.2.2.2.2.1 hmc hms
  have hG : GoodIn am_G (Cond.code y b maxL none :: am_G) := am_goodG (by
    intro w hw
    rcases List.mem_cons.mp hw with rfl | hw <;> assumption)
  have hpre := am_pre X I (st.take na).reverse
  rw [hav, List.map_cons, hq] at hpre
  have hstk := am_stack na st (am_cv ad)
  rw [hav, List.map_cons, hq, List.reverse_cons, List.append_assoc] at hstk
  rw [hav] at hM
  exact ⟨_, vx_runIN (As := As.map (am_cv ad)) (b := q) ⟨X.1, X.2.1, X.2.2.1, X.2.2.2.1, X.2.2.2.2.1⟩ hM ⟨va_cnB (na - 1) X.2.2.2.2.1 hG rfl rfl rfl (X.2.2.2.2.2.2.2.2.2.2.2.1.1 _ w1) (X.2.2.2.2.1 _ w4) hd ⟨by show 2 * d' + 8 + 1 ≤ _; omega, by show 8 + (maxL + 11) + (60 * d' + 200) ≤ _; omega⟩, hy, X.2.2.2.2.1 _ w2⟩ ⟨am_blind, hpre⟩ rfl (by rw [List.length_map]; omega) I.2.2.2.1.1 hstk (by show 2 * 0 + _ ≤ 8; rw [am_w_sum]; omega) d ⟨hc, hs⟩⟩
end AMK2
