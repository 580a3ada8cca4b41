/-! THE TOP -/
set_option maxRecDepth 8000
/-! THE CLAIM OUT OF ONE WALK OF THE LAW'S BODY. Your part is whole_start (and what it stands on); all else here is the same for every law, but numbers. -/
def R_law : String := "NineWaysLaw"
def lw_P (b : Addr) (xs : List Int32) (args : Array Value) (s : State) : Prop := args = #[.ref b] ∧ s.IntsAt b xs ∧ xs.length ≤ 3072 ∧ (Jvm.Cond.and given_1 narrow_1).before args s = true
/-- what a walk over the start with the record d0 says of its end, said of the start itself -/
theorem lw_closed {s t : State} {o : Outcome} {d0 : Drawn} {L : List Loc} {k n : Nat} (hd0 : s.drawn.sameBut d0 lw_cs) (hv : ∃ v, o = .returned v) (hW : (s.setDrawn d0).WarmedH t.vm) (hs : (s.setDrawn d0).sameButNew ({ t with vm := s.vm } : State) L k n) : State.butDraws s t lw_cs (fun t1 => Framed s o t1 L k n) := by
  have h2 : t.drawn = d0 := congrArg State.drawn hs.1
  refine ⟨⟨hv, hW, State.sameButNew.setDrawn hs s.drawn⟩, ?_, by decide⟩
  rw [h2]
  exact hd0
def lw_Q (_ : Array Value) (s : State) (o : Outcome) (t : State) : Prop := o = .returned (some (.int 1)) ∧ State.butDraws s t lw_cs (fun t1 => Framed s o t1 [] 601024 7293034)
def lw_Z (below : List Frame) (a : Array Value) (s : State) : State → Prop := fun t => ∃ o, t.status = .running ∧ Ended t below o ∧ lw_Q a s o t
/-- what holds at the law's entry: the machine, the code, the tables' words (any of lw_tbl by 'hts w (by decide +kernel)'), the script of L ints xs at the cell b, what the Statement gives of the start (any of its parts by flat_of_before) -/
def lw_At (p : Program) (s : State) (m : MethodId) (meth : Method) (c : Code) (b L : Nat) (xs : Nat → Int32) : Prop :=
  p.tables.exec = Jvm.exec ∧ c.code = code ∧ meth.sig.returnType = ret ∧ c.maxLocals = 10 ∧ s.vm.findClass R_law = some m.cls ∧ (∀ w ∈ lw_tbl, w.before #[Value.ref b] s = true) ∧ va_X b L xs s s.heap ∧ b < s.heap.size ∧ meth.locks = false ∧ (Jvm.Cond.and given_1 narrow_1).before #[Value.ref b] s = true ∧ meth.name = "law" ∧ c.exceptionTable.toList = []
def sys0 : SS := (clrA, none, [], fun _ => 0, 0, (fun _ => 0, 0), (0, -1), [])
theorem cs_ini {xl : XL} : CS sys0 (iniS xl) := by
  refine ⟨⟨Av_clr, ⟨rfl, rfl, rfl, fun w hw => ?_, fun i hi => absurd hi (Nat.not_lt_zero i)⟩, fun r hr => absurd hr (Nat.not_lt_zero r)⟩, rfl, ⟨by decide, 0, by decide, rfl, rfl, fun j B h => by cases h⟩, fun j hj => rfl, rfl, ⟨⟨rfl, by decide, fun j => ⟨Int.le_refl 0, (by decide : (0 : Int) ≤ 255)⟩, fun j hj => absurd hj (Nat.not_lt_zero j)⟩, rfl, rfl⟩, ⟨by decide, rfl, fun j hj => absurd hj (Nat.not_lt_zero j)⟩, fun k hk j h1 h2 => ⟨(by decide : (-2147483648 : Int) ≤ 0), (by decide : (0 : Int) < 2147483648)⟩⟩
  show cond (Nat.blt w 9) (1 : Int) 0 = 1
  have e : Nat.blt w 9 = true := Nat.ble_eq.mpr hw
  rw [e]
  rfl
theorem cs_0 {xl : XL} {σ : SG} (f : Fr in42 (iniS xl) σ) : CS sys0 σ := cs_ini.keep f (fun L a q => by
  have q : L = (42, 0, 0) := q
  subst q
  have a : 42 ≤ 3 ∨ 42 = 7 ∨ (8 ≤ 42 ∧ 42 ≤ 13 ∧ (0 : Nat) ≠ 1) ∨ 42 = 15 ∨ (25 ≤ 42 ∧ 42 ≤ 30) := a
  omega)
theorem tab_eq : ∀ w, w < 9 → cntZ w = ((cnt w : Nat) : Int) ∧ widZ w = ((wid w : Nat) : Int) := by decide +kernel
theorem ms_0 {xl : XL} {σ : SG} (mm : MA clrA σ) (f : Fr in42 (iniS xl) σ) : MS sys0 σ := by
  have e : ∀ a : Nat, a ≠ 42 → σ.1 (a, 0, 0) = iniI (a, 0, 0) := fun a ha => (f.1 (a, 0, 0) (fun q => ha (congrArg (fun L : Lc => L.1) q))).1
  refine ⟨mm, fun w hw => ?_, ?_, ⟨by decide, ?_, fun j B h => by cases h⟩, ⟨?_, ?_, ?_, ?_⟩, ?_, ⟨?_, by decide, fun j => ⟨Int.le_refl 0, (by decide : (0 : Int) ≤ 255)⟩, fun j hj => absurd hj (Nat.not_lt_zero j)⟩, ⟨?_, ?_⟩, ⟨by decide, ?_, Or.inl ?_, fun h => absurd rfl h, fun j hj => absurd hj (Nat.not_lt_zero j)⟩⟩
  · rw [e 46 (by decide), e 47 (by decide)]
    exact tab_eq w hw
  · show σ.1 (40, 0, 0) 23 = 0
    rw [e 40 (by decide)]
    rfl
  · rw [e 40 (by decide)]
    rfl
  · rw [e 40 (by decide)]
    rfl
  · rw [e 40 (by decide)]
    rfl
  · rw [e 40 (by decide)]
    rfl
  · rw [e 40 (by decide)]
    rfl
  · rw [e 40 (by decide)]
    rfl
  · rw [e 40 (by decide)]
    rfl
  · rw [e 40 (by decide)]
    rfl
  · rw [e 40 (by decide)]
    rfl
  · rw [e 40 (by decide)]
    rfl
  · rw [e 40 (by decide)]
    rfl
/-- the law comes to its end with 1, on the abstract machine -/
theorem law_all {xl : XL} (hxl : xl.1 ≤ 3072) : Wp k_L_law 20 (0, [some (aR (some (92, 0, 0))), none, none, none, none, none, none, none, none, none], [], iniH xl, (0, 0, 0)) (fun r => ∃ (σ : SG) (t : KT), r = (.inl (some (aI (iZ 1))), am_hp σ, t) ∧ t.2.1 ≤ 169 + 3072 ∧ t.2.2 ≤ 10354 + 3072) := by
  refine law_start (by decide) (fun σ mm ff => ?_)
  exact law_loop hxl (fun σ' t' h1 h2 => ⟨σ', t', rfl, h1, h2⟩) 512 0 σ (169, 169, 10354) sys0 none none none none (cs_0 ff) (ms_0 mm ff) ff.2.2 (by omega) (by decide) (by decide) (by decide)
theorem nd_r {α : Type} {n k : Nat} {a b : Nat → Option α} (h : n < k) : am_nd n a b k = b k := by
  unfold am_nd
  rw [(Bool.eq_false_iff.mpr (fun z => Nat.not_le_of_lt h (Nat.ble_eq.mp z)) : Nat.ble k n = false)]
  rfl
theorem lf_n {α : Type} {n k : Nat} {a : α} (h : n < k) : am_lf n a k = none := by
  unfold am_lf
  rw [(Bool.eq_false_iff.mpr (fun z => Nat.ne_of_gt h (Nat.eq_of_beq_eq_true z)) : Nat.beq k n = false)]
  rfl
theorem ini_k {xl : XL} {L : Lc} (h : 90 ≤ L.1) : iniH xl L = am_k xl L := by
  show (am_tr _ _ _ _ _ L.1).getD (am_k xl L) = _
  unfold am_tr
  rw [nd_r (by omega), nd_r (by omega), nd_r (by omega), nd_r (by omega), nd_r (by omega), nd_r (by omega), lf_n (by omega)]
  rfl
theorem whole_start {p : Program} {e : Env} {s : State} {m : MethodId} {below : List Frame} {meth : Method} {c : Code} (l : Launch) (hflags : l.flags = flags0) {b L : Nat} {xs : Nat → Int32} (hL : L ≤ 3072) (C0 : lw_At p s m meth c b L xs) : W p l e room_1 s m #[Value.ref b] below meth c s.heap [] 0 0 (lw_Z below #[Value.ref b] s) (entryFrame m ([Value.ref b] : List Value).toArray 10) := by
  obtain ⟨hx, hb, hr, hml, hown, hts, hX, hbl, hlocks, hgv, hname, htb⟩ := id C0
  obtain ⟨D, dA, hK⟩ := tabs hts
  obtain ⟨cad, xl, exl, e92, hC, hV⟩ := consts hts (flat_of_before _ hgv) hX hbl hL
  obtain ⟨F, r, hrun, σ, t, er, hb1, hb2⟩ := law_all (xl := xl) (by rw [exl]; exact hL)
  have hst : l.stackTraces = false := by
    unfold Launch.stackTraces
    rw [hflags]
    decide +kernel
  have X : am_X p l s m #[Value.ref b] meth c "NineWaysLaw" "law" code 10 (fun q : Nat => s.heap.size ≤ q) D dA cad xl := ⟨hx, hb, hml, hown, fun w hw => hts w (am_G_tbl hw), hlocks, fun q h => h, hst, hK, hC, hname, hV⟩
  have hE := am_entry cad [aR (some (92, 0, 0))] (nL := 10) (by decide)
  have ev : ([aR (some (92, 0, 0))] : List AV).map (am_cv cad) = [Value.ref b] := by
    show [Value.ref (cad (92, 0, 0))] = _
    rw [e92]
  rw [ev] at hE
  rw [lg_entry_eq]
  generalize (lg_sl ([Value.ref b]) ++ List.replicate (10 - (lg_sl ([Value.ref b])).length) Slot.unset).toArray = ls' at hE ⊢
  have I : am_I D dA cad xl (fun q : Nat => s.heap.size ≤ q) s.heap 10 0 cad cad 0 [some (aR (some (92, 0, 0))), none, none, none, none, none, none, none, none, none] [] (iniH xl) s.heap [] ls' :=
    ⟨fun k q h => (by cases h), ⟨fun i j p q h => (by cases h), fun k q h => (by cases h)⟩, va_S.rf, hE, fun v h => (by cases h), fun i v hv => ?_, fun i hi => absurd hi (Nat.not_lt_zero i), fun L hL => ⟨ini_k hL, rfl⟩, Nat.le_refl 0, fun _ _ => rfl, fun _ _ => rfl⟩
  · have hc1 : r.2.2.2.1 ≤ 169 + 3072 := by rw [er]; exact hb1
    have hs1 : r.2.2.2.2 ≤ 10354 + 3072 := by rw [er]; exact hb2
    have K := am_run_ok ko_L_law (am_call_sound hst am_all F 20) X (e := e) (R := room_1) (below := below) (c0 := 0) (s0 := 0) (mc := r.2.2.2.1) (ms := r.2.2.2.2) hr htb (Nat.le_of_ble_eq_true rfl) (Nat.le_of_ble_eq_true rfl) F (0, [some (aR (some (92, 0, 0))), none, none, none, none, none, none, none, none, none], [], iniH xl, (0, 0, 0)) r hrun cad s.heap [] ls' 0 0 I rfl rfl (Nat.le_trans hc1 (Nat.le_of_ble_eq_true rfl)) (Nat.le_trans hs1 (Nat.le_of_ble_eq_true rfl)) (Nat.add_zero _) (Nat.add_zero _)
    intro T hT XT
    obtain ⟨tt, a1, o, b1, b2, b3⟩ := K T hT XT
    refine ⟨tt, a1, o, b1, b2, ?_⟩
    rcases b3 with ⟨⟨ad, v, hv, -, ho, -, -⟩, Lc9, fe, hLc⟩ | ⟨q, ho, E, ce, L9, hxc, -⟩
    · rw [er] at hv
      cases hv
      refine ⟨ho, ?_⟩
      exact lw_closed (Drawn.sameBut.refl s.drawn lw_cs) fe.1 fe.2.1 (fe.2.2.weaken (fun y hy hlt => absurd hlt (Nat.not_lt.mpr (hLc y hy))) (Nat.le_trans hc1 (Nat.le_of_ble_eq_true rfl)) (Nat.le_trans hs1 (Nat.le_of_ble_eq_true rfl)))
    · obtain ⟨ad, k9, hk9, -⟩ := hxc
      rw [er] at hk9
      cases hk9
  · match i, hv with
    | 0, hv => cases hv; exact Or.inr (by decide +kernel)
    | 1, hv => cases hv
    | 2, hv => cases hv
    | 3, hv => cases hv
    | 4, hv => cases hv
    | 5, hv => cases hv
    | 6, hv => cases hv
    | 7, hv => cases hv
    | 8, hv => cases hv
    | 9, hv => cases hv
    | i + 10, hv => simp at hv
set_option maxHeartbeats 4000000 in
theorem lw_walk (l : Launch) (hflags : l.flags = flags0) (b : Addr) (xs : List Int32) : MetFree l x (headSpec (Jvm.Cond.code x code maxLocals ret :: tables_1) room_1) (lw_P b xs) (fun _ _ _ _ _ => True) lw_Q := by
  refine MetFree.of_bodyS (code := code) (maxLocals := maxLocals) (ret := ret) (by decide) ?_ ?_
  · intro args s m h hn
    obtain ⟨meth, c, h1, h2, h3, h4, h5, h6, -, -⟩ := Cond.code_spec hn (atoms_spec (ws := Jvm.Cond.code x code maxLocals ret :: tables_1) h _ List.mem_cons_self)
    exact ⟨meth, c, h1, h2, h3, h4, h5, h6⟩
  · intro p e s m args below meth c s₁ B hml0 hP _
    obtain ⟨rfl, hx, hbd, hgv⟩ := hP
    obtain ⟨scr, harrAt, hlist, hof, hsmall⟩ := hx
    obtain ⟨hcb, hkn, -, -⟩ := State.arrayAt?_spec harrAt
    have hown : s.vm.findClass R_law = some m.cls := findClass_of_methodNamed B.named
    have hts0 : ∀ c ∈ (Jvm.Cond.code x code maxLocals ret :: tables_1), c.before #[Value.ref b] s = true := atoms_spec (ws := Jvm.Cond.code x code maxLocals ret :: tables_1) B.pre
    have hts : ∀ w ∈ lw_tbl, w.before #[Value.ref b] s = true := k2_hts_sels lw_privs (fun w hw => hts0 w (List.mem_cons_of_mem _ hw)) lw_privs_ok
    have hml : c.maxLocals = 10 := B.maxLocals_eq (hts0 _ List.mem_cons_self)
    have X₀ : Stand p l e room_1 s m #[Value.ref b] below meth c s₁ [] 0 0 := Stand.of_body B
    have hh0 : s₁.heap = s.heap := by rw [B.state]; rfl
    have hsz : scr.slots.size = xs.length := by rw [← Array.length_toList, hlist, List.length_map]
    have hval : ∀ j : Nat, j < xs.length → scr.slots[j]? = some (.int (xs.getD j 0)) := fun j hj => by
      rw [← Array.getElem?_toList, hlist]
      simp [hj]
    have hbl : b < s.heap.size := (Array.getElem?_eq_some_iff.mp hcb).1
    have hX : va_X b xs.length (fun j => xs.getD j 0) s s.heap := ⟨scr, hcb, hof, hkn, hsz, hval⟩
    have K : W p l e room_1 s m #[Value.ref b] below meth c s₁.heap [] 0 0 (lw_Z below #[Value.ref b] s) (entryFrame m ([Value.ref b] : List Value).toArray 10) := by
      rw [hh0]
      have htb : c.exceptionTable.toList = [] := by
        obtain ⟨meth9, c9, h1, h2, -, -, -, -, h7, -⟩ := Cond.code_spec B.named (hts0 _ List.mem_cons_self)
        cases Option.some.inj (h1.symm.trans B.method)
        cases Option.some.inj (h2.symm.trans X₀.code)
        rw [Array.isEmpty_iff.mp h7]
      exact whole_start l hflags hbd ⟨B.exec, B.bytes, B.returns, hml, hown, hts, hX, hbl, B.notSynchronized, hgv, (name_of_methodNamed B.named B.method).1, htb⟩
    obtain ⟨t, a1, o, b1, b2, b3⟩ := K s₁ rfl X₀
    exact ⟨t, o, a1, b1, b2, b3⟩
theorem lw_pre_spec {args : Array Value} {s : State} (h : (Jvm.Cond.and given_1 narrow_1).before args s = true) (hr : rest_1_c.before args s = true) : ∃ (b : Addr) (xs : List Int32), lw_P b xs args s := by
  have hs := flat_of_before _ h
  have hq := flat_of_before _ hr
  have hc : (Cond.count 1).before args s = true := hs _ (by decide +kernel)
  have harr : (Cond.arrayOf (.arg 0) .int).before args s = true := hs _ (by decide +kernel)
  have hle : (Cond.le (.length (.arg 0)) (.int 3072)).before args s = true := hs _ (by decide +kernel)
  have hlen : (Cond.isInt (.length (.arg 0))).before args s = true := hq _ (by decide +kernel)
  have hall : (Cond.all (.arg 0) (.isInt (.elem (.arg 0) (.index 0)))).before args s = true := hq _ (by decide +kernel)
  obtain ⟨b, xs, hb, hx⟩ := State.ints_of_pre rfl harr hlen hall
  have hsm : xs.length < 2 ^ 31 := hx.choose_spec.2.2.2
  have hev : (Term.length (.arg 0)).eval args s none [] s = some (.int xs.length.toInt32) := hx.length_eval hb
  have hv := Cond.le_ints hev (show (Term.int 3072).eval args s none [] s = some (.int 3072) from rfl)
  have hd : xs.length.toInt32 ≤ 3072 := by
    simpa [Cond.before, Cond.holds, hv] using hle
  have hN : xs.length ≤ 3072 := (Int32.ofNat_le_ofNat hsm (by decide)).mp (show Int32.ofNat xs.length ≤ Int32.ofNat 3072 from hd)
  exact ⟨b, xs, Cond.one_arg hc (show args[0]? = some (.ref b) from hb), hx, hN, h⟩
theorem lw_comes (l : Launch) (hflags : l.flags = flags0) : Comes l x (Jvm.Cond.code x code maxLocals ret :: tables_1) room_1 (fun tb e args s => Calls_1 tb e args s ∧ rest_1 tb e args s ∧ Pre_1 tb e args s)
    (fun _ _ args s o t => lw_Q args s o t) := by
  intro p e ha hc hk s m args below hf hfit hheap happ hpre
  obtain ⟨b, xs, hP⟩ := lw_pre_spec hpre.2.2 hpre.2.1
  obtain ⟨k, o, h1, h2, h3, hQ⟩ := lw_walk l hflags b xs p e ha hc hk s m args below hf ((Spec.applies_iff_loose hf).mp happ).1 hP trivial
  exact ⟨k, o, h1, h2, h3, hQ⟩
theorem lw_frame {s t : State} {o : Outcome} {args : Array Value} (h : State.butDraws s t lw_cs (fun t1 => Framed s o t1 [] 601024 7293034)) :
    State.butDraws s t [Jvm.Choice.named "NaN.bits"] (fun t1 => Framed s o t1 (fieldLocs frame_1_writes args s ++ arrayLocs frame_1_arrays args s ++ staticLocs frame_1_statics s) 601024 7293034) := h
theorem lw_limb (L : Cond) (hL : ∀ (args : Array Value) (s t : State), L.after args s (.returned (some (.int 1))) t = true) :
    ArmFor flags0 classFile x code maxLocals ret World_1 tables_1 room_1 Calls_1 rest_1 Pre_1
      (fun tb e a s o t => postC L tb e a s o t ∧ State.butDraws s t [Jvm.Choice.named "NaN.bits"] (fun t1 => Framed s o t1 (fieldLocs frame_1_writes a s ++ arrayLocs frame_1_arrays a s ++ staticLocs frame_1_statics s) 601024 7293034)) := by
  intro l hflags _ _ p e ha hc hk s m args below hf hfit hheap happ hpre
  obtain ⟨k, o, h1, h2, h3, rfl, hF⟩ := lw_comes l hflags p e ha hc hk s m args below hf hfit hheap happ hpre
  exact ⟨k, _, h1, h2, h3, hL args s _, lw_frame hF⟩
