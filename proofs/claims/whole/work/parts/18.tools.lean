/-! TOOLS FOR THE TABLES -/
/-- a static method with a table of handlers -/
theorem ok_invSW {own mn : String} {cc : ByteArray} {pc na idx maxL : Nat} {y : MethodName} {b : ByteArray} {ret : Option FieldType} {hh : List (Nat × Nat × Nat × Nat)} (d : decode cc pc = .ok (.invokestatic idx, 3)) (hmax : maxL ≤ 41) (w1 : Cond.methodLink own idx y ∈ am_G) (w2 : Cond.static y ∈ am_G) (w4 : Cond.initialized y.cls ∈ am_G) (w5 : Cond.codeWith y b maxL ret hh ∈ am_G)
    (hd : y.cls ≠ "java/lang/invoke/MethodHandle" ∧ y.cls ≠ "java/lang/invoke/VarHandle" ∧ (parseMethodDescriptor y.desc).map (fun d => d.parameters.length) = some na) : am_cal own mn cc pc na 0 y (.codeWith y b maxL ret hh) := by
  intro p l e R s m args below meth c nL A D dA cad xl X ls st h t r d' hcon hlen hw hrc hRf hRl n0 ad0 ad H locs ls' k n mc ms I hc hs hmc hms
  have hM := hcon D dA cad xl ad H.size mc ms (fun x hx => I.2.2.2.2.1 x (List.mem_of_mem_take (List.mem_reverse.mp hx))) I.2.2.2.2.2.2.1 I.2.2.2.2.2.2.2.1 hmc hms
  have hG : GoodIn am_G (va_wsS own idx y (Cond.codeWith y b maxL ret hh :: am_G)) := am_goodG (by
    intro w hw
    simp only [va_wsS, List.cons_append, List.nil_append, List.mem_cons] at hw
    rcases hw with rfl | rfl | rfl | rfl | hw <;> assumption)
  have hpre := am_pre X I (st.take na).reverse
  exact ⟨_, vx_runSX (As := (st.take na).reverse.map (am_cv ad)) ⟨X.1, X.2.1, X.2.2.1, X.2.2.2.1, X.2.2.2.2.1⟩ hM (vx_cwSW na X.2.2.2.2.1 hG rfl rfl rfl hd ⟨by show 2 * d' + 8 + 1 ≤ _; omega, by show 8 + (maxL + 11) + (60 * d' + 200) ≤ _; omega⟩) ⟨am_blind, hpre⟩ rfl (by rw [List.length_map]; exact hlen) I.2.2.2.1.1 (am_stack na st _) (by show 2 * 0 + _ ≤ 8; rw [am_w_sum]; omega) d ⟨hc, hs⟩⟩
def am_lf {α : Type} (n : Nat) (a : α) : Nat → Option α := fun pc => cond (Nat.beq pc n) (some a) none
def am_nd {α : Type} (n : Nat) (a b : Nat → Option α) : Nat → Option α := fun pc => cond (Nat.ble pc n) (a pc) (b pc)
def am_co (own mn : String) (cc : ByteArray) (rt : Option FieldType) (hh : List (Nat × Nat × Nat × Nat)) (MY : Nat → Option MI) (k : Nat → Option OP) : Prop := ∀ pc op, k pc = some op → am_opok own mn cc pc rt hh MY op
section COT
variable {own mn : String} {cc : ByteArray} {rt : Option FieldType} {hh : List (Nat × Nat × Nat × Nat)} {MY : Nat → Option MI}
theorem co_lf {n : Nat} {op : OP} (h : am_opok own mn cc n rt hh MY op) : am_co own mn cc rt hh MY (am_lf n op) := by
  intro pc o hpc
  unfold am_lf at hpc
  cases hb : Nat.beq pc n with
  | false => rw [hb] at hpc; cases hpc
  | true =>
    rw [hb] at hpc
    have e := Nat.eq_of_beq_eq_true hb
    subst e
    cases hpc
    exact h
theorem co_nd {n : Nat} {a b : Nat → Option OP} (ha : am_co own mn cc rt hh MY a) (hb : am_co own mn cc rt hh MY b) : am_co own mn cc rt hh MY (am_nd n a b) := by
  intro pc o hpc
  unfold am_nd at hpc
  cases hq : Nat.ble pc n with
  | false => rw [hq] at hpc; exact hb pc o hpc
  | true => rw [hq] at hpc; exact ha pc o hpc
end COT
/-- two tables of methods side by side -/
def am_ms (MY : Nat → Option MI) (A : MT) (B : Nat → Option MI) : Prop :=
  ∀ (y : Nat) (q : MI), B y = some q → ∃ (nL : Nat) (code : Nat → Option OP) (own mn : String) (cc : ByteArray) (rt : Option FieldType) (hh : List (Nat × Nat × Nat × Nat)), A y = some (q.2.2, nL, code) ∧ am_meth own mn cc rt hh q.1 q.2.1 nL code MY
theorem ms_lf {MY : Nat → Option MI} {n nL na : Nat} {yn : MethodName} {w0 : Cond} {code : Nat → Option OP} {own mn : String} {cc : ByteArray} {rt : Option FieldType} {hh : List (Nat × Nat × Nat × Nat)} (h1 : plainName yn.cls = true) (h2 : yn.cls = own) (h3 : yn.name = mn) (h4 : (w0 = .code yn cc nL rt ∧ hh = []) ∨ w0 = .codeWith yn cc nL rt hh) (h : am_co own mn cc rt hh MY code) : am_ms MY (am_lf n (na, nL, code)) (am_lf n (yn, w0, na)) := by
  intro y q hq
  unfold am_lf at hq ⊢
  cases hb : Nat.beq y n with
  | false => rw [hb] at hq; cases hq
  | true =>
    rw [hb] at hq
    cases hq
    exact ⟨nL, code, own, mn, cc, rt, hh, rfl, h1, h2, h3, h4, h⟩
theorem ms_nd {MY : Nat → Option MI} {n : Nat} {a b : MT} {a' b' : Nat → Option MI} (ha : am_ms MY a a') (hb : am_ms MY b b') : am_ms MY (am_nd n a b) (am_nd n a' b') := by
  intro y q hq
  unfold am_nd at hq ⊢
  cases hc : Nat.ble y n with
  | false => rw [hc] at hq; exact hb y q hq
  | true => rw [hc] at hq; exact ha y q hq
/-- handlers -/
def am_prop : HD := fun _ => some none
def am_none : HD := fun _ => none
def am_h1 (E p i : Nat) : HD := fun e => cond (Nat.beq e E) (some (some (p, i))) none
def am_h2 (E p i E2 p2 i2 : Nat) : HD := fun e => cond (Nat.beq e E) (some (some (p, i))) (cond (Nat.beq e E2) (some (some (p2, i2))) none)
theorem am_h1_ok {own mn : String} {cc : ByteArray} {pc : Nat} {hh : List (Nat × Nat × Nat × Nat)} {E p i : Nat} (h : am_hk own mn cc pc hh E (some (some (p, i)))) : ∀ e, am_hk own mn cc pc hh e (am_h1 E p i e) := by
  intro e
  unfold am_h1
  cases hb : Nat.beq e E with
  | false => exact trivial
  | true =>
    have e2 := Nat.eq_of_beq_eq_true hb
    subst e2
    exact h
theorem am_h2_ok {own mn : String} {cc : ByteArray} {pc : Nat} {hh : List (Nat × Nat × Nat × Nat)} {E p i E2 p2 i2 : Nat} (h : am_hk own mn cc pc hh E (some (some (p, i)))) (h' : am_hk own mn cc pc hh E2 (some (some (p2, i2)))) : ∀ e, am_hk own mn cc pc hh e (am_h2 E p i E2 p2 i2 e) := by
  intro e
  unfold am_h2
  cases hb : Nat.beq e E with
  | true =>
    have e2 := Nat.eq_of_beq_eq_true hb
    subst e2
    exact h
  | false =>
    cases hb2 : Nat.beq e E2 with
    | false => exact trivial
    | true =>
      have e2 := Nat.eq_of_beq_eq_true hb2
      subst e2
      exact h'
/-- the switch on signs -/
def am_lks : List (Int × Nat) → Nat → Int32 → Nat
  | [], df, _ => df
  | (a, t) :: r, df, x => if a = x.toInt then t else am_lks r df x
theorem am_lks_ok (pc df : Nat) {dflt : Int} : ∀ (l : List (Int × Int)) (l' : List (Int × Nat)), l.map (fun q => (q.1, (pc : Int) + q.2)) = l'.map (fun q => (q.1, (q.2 : Int))) → (pc : Int) + dflt = (df : Int) → ∀ x : Int32, (pc : Int) + Op.lookupswitch.offset l dflt x.toInt = (am_lks l' df x : Int)
  | [], [], _, hd, x => hd
  | [], _ :: _, h, _, _ => by simp at h
  | _ :: _, [], h, _, _ => by simp at h
  | (a, o) :: r, (a', t) :: r', h, hd, x => by
    simp only [List.map_cons, List.cons.injEq, Prod.mk.injEq] at h
    obtain ⟨⟨e1, e2⟩, h⟩ := h
    subst e1
    rw [Op.lookupswitch.offset_cons]
    unfold am_lks
    by_cases q : a = x.toInt
    · rw [if_pos q, if_pos q]; exact e2
    · rw [if_neg q, if_neg q]; exact am_lks_ok pc df r r' h hd x
theorem am_all5 {own : String} {idx : Nat} {C owner : String} {x y : MethodName} {c0 : Cond} (a1 : Cond.methodLink own idx x ∈ am_G) (a2 : Cond.sameMethod x.cls owner x.name x.desc ∈ am_G) (a3 : Cond.selects C x y ∈ am_G) (a4 : Cond.instanceMethod y ∈ am_G) (a5 : Cond.initialized y.cls ∈ am_G) (a6 : c0 ∈ am_G) : ∀ w ∈ va_wsU own idx C owner x y [c0], w ∈ am_G := by
  intro w hw
  simp only [va_wsU, List.cons_append, List.nil_append, List.mem_cons, List.not_mem_nil, or_false] at hw
  rcases hw with rfl | rfl | rfl | rfl | rfl | rfl <;> assumption
theorem am_G_idx {ws : List Cond} (ps : List Nat) (hp : ws = ps.filterMap (fun i => lw_tbl[i]?)) (h : ws.all goodWord = true) : ∀ w ∈ ws, w ∈ am_G := by
  intro w hw
  have hg := List.all_eq_true.mp h w hw
  rw [hp] at hw
  obtain ⟨i, -, hi⟩ := List.mem_filterMap.mp hw
  exact am_G_in hi hg
/-- fields of the constants -/
theorem am_kO {xl : XL} {L : Lc} {ci : Nat} {fs : List AV} (hL : L ∈ am_kL) (h : am_k xl L = .inr (ci, fs)) (hci : ci < 30) : (ci = 20 ∧ ∃ k, k < 10 ∧ L = (91, k, 0) ∧ fs = [aR (some (94, k, 0)), aI (am_cmd k).2.1, aI (am_cmd k).2.2.1, aI (am_cmd k).2.2.2, aI (nI k)]) ∨ (ci = 21 ∧ ∃ k, k < 14 ∧ L = (94, k, 0) ∧ fs = [aR (some (95, k, 0)), aI 0]) := by
  simp only [am_kL, List.mem_append, List.mem_cons, List.not_mem_nil, or_false, List.mem_map, List.mem_range] at hL
  rcases hL with ((((rfl | rfl | rfl | rfl | rfl | rfl) | ⟨k, hk, rfl⟩) | ⟨k, hk, rfl⟩) | ⟨k, hk, rfl⟩) <;> cases h
  · exact absurd hci (by decide)
  · exact Or.inl ⟨rfl, k, hk, rfl, rfl⟩
  · exact Or.inr ⟨rfl, k, hk, rfl, rfl⟩
theorem am_m20 {k : Nat} (hk : k < 10) {q : String × String × String × Lc × AV} (h : q ∈ [("NineWays$Command", "word", "Ljava/lang/String;", ((91, k, 0) : Lc), aR (some (94, k, 0))), ("NineWays$Command", "names", "I", (91, k, 0), aI (am_cmd k).2.1), ("NineWays$Command", "hasIndex", "Z", (91, k, 0), aI (am_cmd k).2.2.1), ("NineWays$Command", "hasValue", "Z", (91, k, 0), aI (am_cmd k).2.2.2), ("java/lang/Enum", "ordinal", "I", (91, k, 0), aI (nI k))]) : q ∈ am_cfs :=
  List.mem_append_left _ (List.mem_flatMap.mpr ⟨k, List.mem_range.mpr hk, h⟩)
theorem am_m21 {k : Nat} (hk : k < 14) {q : String × String × String × Lc × AV} (h : q ∈ [("java/lang/String", "value", "[B", ((94, k, 0) : Lc), aR (some (95, k, 0))), ("java/lang/String", "coder", "B", (94, k, 0), aI 0)]) : q ∈ am_cfs :=
  List.mem_append_right _ (List.mem_flatMap.mpr ⟨k, List.mem_range.mpr hk, h⟩)
theorem am_in94 {k : Nat} (hk : k < 14) : ((94, k, 0) : Lc) ∈ am_kL := by
  simp only [am_kL, List.mem_append, List.mem_map, List.mem_range]
  exact Or.inl (Or.inr ⟨k, hk, rfl⟩)
theorem am_in95 {k : Nat} (hk : k < 14) : ((95, k, 0) : Lc) ∈ am_kL := by
  simp only [am_kL, List.mem_append, List.mem_map, List.mem_range]
  exact Or.inr ⟨k, hk, rfl⟩
theorem am_cf20_0 (xl : XL) : ∀ L ∈ am_kL, ∀ (fs : List AV) (v : AV), am_k xl L = .inr (20, fs) → fs[0]? = some v → ("NineWays$Command", "word", "Ljava/lang/String;", L, v) ∈ am_cfs ∧ am_rv 0 v := by
  intro L hL fs v h hv
  rcases am_kO hL h (by decide) with ⟨-, k, hk, rfl, rfl⟩ | ⟨e, -⟩
  · cases hv
    exact ⟨am_m20 hk (by simp), Or.inr (am_in94 (by omega))⟩
  · cases e
theorem am_cf20_1 (xl : XL) : ∀ L ∈ am_kL, ∀ (fs : List AV) (v : AV), am_k xl L = .inr (20, fs) → fs[1]? = some v → ("NineWays$Command", "names", "I", L, v) ∈ am_cfs ∧ am_rv 0 v := by
  intro L hL fs v h hv
  rcases am_kO hL h (by decide) with ⟨-, k, hk, rfl, rfl⟩ | ⟨e, -⟩
  · cases hv
    exact ⟨am_m20 hk (by simp), trivial⟩
  · cases e
theorem am_cf20_2 (xl : XL) : ∀ L ∈ am_kL, ∀ (fs : List AV) (v : AV), am_k xl L = .inr (20, fs) → fs[2]? = some v → ("NineWays$Command", "hasIndex", "Z", L, v) ∈ am_cfs ∧ am_rv 0 v := by
  intro L hL fs v h hv
  rcases am_kO hL h (by decide) with ⟨-, k, hk, rfl, rfl⟩ | ⟨e, -⟩
  · cases hv
    exact ⟨am_m20 hk (by simp), trivial⟩
  · cases e
theorem am_cf20_3 (xl : XL) : ∀ L ∈ am_kL, ∀ (fs : List AV) (v : AV), am_k xl L = .inr (20, fs) → fs[3]? = some v → ("NineWays$Command", "hasValue", "Z", L, v) ∈ am_cfs ∧ am_rv 0 v := by
  intro L hL fs v h hv
  rcases am_kO hL h (by decide) with ⟨-, k, hk, rfl, rfl⟩ | ⟨e, -⟩
  · cases hv
    exact ⟨am_m20 hk (by simp), trivial⟩
  · cases e
theorem am_cf20_4 (xl : XL) : ∀ L ∈ am_kL, ∀ (fs : List AV) (v : AV), am_k xl L = .inr (20, fs) → fs[4]? = some v → ("java/lang/Enum", "ordinal", "I", L, v) ∈ am_cfs ∧ am_rv 0 v := by
  intro L hL fs v h hv
  rcases am_kO hL h (by decide) with ⟨-, k, hk, rfl, rfl⟩ | ⟨e, -⟩
  · cases hv
    exact ⟨am_m20 hk (by simp), trivial⟩
  · cases e
theorem am_cf21_0 (xl : XL) : ∀ L ∈ am_kL, ∀ (fs : List AV) (v : AV), am_k xl L = .inr (21, fs) → fs[0]? = some v → ("java/lang/String", "value", "[B", L, v) ∈ am_cfs ∧ am_rv 0 v := by
  intro L hL fs v h hv
  rcases am_kO hL h (by decide) with ⟨e, -⟩ | ⟨-, k, hk, rfl, rfl⟩
  · cases e
  · cases hv
    exact ⟨am_m21 hk (by simp), Or.inr (am_in95 hk)⟩
theorem am_cf21_1 (xl : XL) : ∀ L ∈ am_kL, ∀ (fs : List AV) (v : AV), am_k xl L = .inr (21, fs) → fs[1]? = some v → ("java/lang/String", "coder", "B", L, v) ∈ am_cfs ∧ am_rv 0 v := by
  intro L hL fs v h hv
  rcases am_kO hL h (by decide) with ⟨e, -⟩ | ⟨-, k, hk, rfl, rfl⟩
  · cases e
  · cases hv
    exact ⟨am_m21 hk (by simp), trivial⟩
theorem am_st_0 (xl : XL) : ("NineWays", "COUNT", "[I", aR (some (90, 0, 0))) ∈ am_sts xl := List.mem_append_left _ (by simp)
theorem am_st_1 (xl : XL) : ("NineWays", "WIDTH", "[I", aR (some (90, 1, 0))) ∈ am_sts xl := List.mem_append_left _ (by simp)
theorem am_st_2 (xl : XL) : ("NineWays$1", "$SwitchMap$NineWays$Command", "[I", aR (some (90, 2, 0))) ∈ am_sts xl := List.mem_append_left _ (by simp)
theorem am_st_3 (xl : XL) : ("NineWays$Command", "ALL", "[LNineWays$Command;", aR (some (93, 0, 0))) ∈ am_sts xl := List.mem_append_left _ (by simp)
theorem am_st_4 (xl : XL) : ("java/lang/String", "COMPACT_STRINGS", "Z", aI 1) ∈ am_sts xl := List.mem_append_left _ (by simp)
theorem am_st_10 (xl : XL) : ("NineWays$Command", "NEW", "LNineWays$Command;", aR (some (91, 0, 0))) ∈ am_sts xl := List.mem_append_right _ (List.mem_map.mpr ⟨0, List.mem_range.mpr (by decide), rfl⟩)
theorem am_st_11 (xl : XL) : ("NineWays$Command", "ADD", "LNineWays$Command;", aR (some (91, 1, 0))) ∈ am_sts xl := List.mem_append_right _ (List.mem_map.mpr ⟨1, List.mem_range.mpr (by decide), rfl⟩)
theorem am_st_12 (xl : XL) : ("NineWays$Command", "PUT", "LNineWays$Command;", aR (some (91, 2, 0))) ∈ am_sts xl := List.mem_append_right _ (List.mem_map.mpr ⟨2, List.mem_range.mpr (by decide), rfl⟩)
theorem am_st_13 (xl : XL) : ("NineWays$Command", "INSERT", "LNineWays$Command;", aR (some (91, 3, 0))) ∈ am_sts xl := List.mem_append_right _ (List.mem_map.mpr ⟨3, List.mem_range.mpr (by decide), rfl⟩)
theorem am_st_14 (xl : XL) : ("NineWays$Command", "REMOVE", "LNineWays$Command;", aR (some (91, 4, 0))) ∈ am_sts xl := List.mem_append_right _ (List.mem_map.mpr ⟨4, List.mem_range.mpr (by decide), rfl⟩)
theorem am_st_15 (xl : XL) : ("NineWays$Command", "JOIN", "LNineWays$Command;", aR (some (91, 5, 0))) ∈ am_sts xl := List.mem_append_right _ (List.mem_map.mpr ⟨5, List.mem_range.mpr (by decide), rfl⟩)
theorem am_st_16 (xl : XL) : ("NineWays$Command", "RULE", "LNineWays$Command;", aR (some (91, 6, 0))) ∈ am_sts xl := List.mem_append_right _ (List.mem_map.mpr ⟨6, List.mem_range.mpr (by decide), rfl⟩)
theorem am_st_17 (xl : XL) : ("NineWays$Command", "SKIP", "LNineWays$Command;", aR (some (91, 7, 0))) ∈ am_sts xl := List.mem_append_right _ (List.mem_map.mpr ⟨7, List.mem_range.mpr (by decide), rfl⟩)
theorem am_st_18 (xl : XL) : ("NineWays$Command", "PRICE", "LNineWays$Command;", aR (some (91, 8, 0))) ∈ am_sts xl := List.mem_append_right _ (List.mem_map.mpr ⟨8, List.mem_range.mpr (by decide), rfl⟩)
theorem am_st_19 (xl : XL) : ("NineWays$Command", "REPEAT", "LNineWays$Command;", aR (some (91, 9, 0))) ∈ am_sts xl := List.mem_append_right _ (List.mem_map.mpr ⟨9, List.mem_range.mpr (by decide), rfl⟩)
