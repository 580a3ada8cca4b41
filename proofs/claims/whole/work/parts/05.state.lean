/-! WHAT THE CELLS ARE: the order in which cells are made, constants, and the tie between abstract cells and the machine's heap -/
def am_rw (r : Nat) : List Lc := [(8, r, 0), (9, r, 0), (10, r, 0), (11, r, 0), (12, r, 0), (12, r, 1), (12, r, 2), (12, r, 3), (13, r, 0)]
def am_pk (k : Nat) : List Lc := [(28, k, 0), (29, k, 0), (30, k, 0)]
def am_alL : List Lc := [(1, 0, 0), (2, 0, 0), (3, 0, 0), (4, 0, 0), (5, 0, 0), (6, 0, 0)] ++ (List.range 30).map (fun k => (7, k, 0)) ++ am_rw 0 ++ [(14, 0, 0)] ++ am_rw 1 ++ am_rw 2 ++ [(15, 0, 0), (16, 0, 0)] ++ am_rw 3 ++ am_rw 4 ++ am_rw 5 ++ am_rw 6 ++ am_rw 7 ++ am_rw 8 ++ [(17, 0, 0)] ++ (List.range 7).map (fun k => (18 + k, 0, 0)) ++ [(7, 30, 0), (25, 0, 0), (26, 0, 0), (27, 0, 0)] ++ am_pk 0 ++ am_pk 1 ++ am_pk 2 ++ am_pk 3 ++ (List.range 23).map (fun k => (40 + k, 0, 0)) ++ [(70, 0, 0), (71, 0, 0)]
def am_al (n : Nat) : Lc := am_alL.getD n (80, n, 0)
theorem am_alL_len : am_alL.length = 169 := by decide +kernel
theorem am_alL_nd : am_alL.Nodup := by decide +kernel
theorem am_alL_lt : ∀ L ∈ am_alL, L.1 < 80 := by decide +kernel
theorem am_al_in {n : Nat} (h : n < 169) : am_al n ∈ am_alL := by
  unfold am_al
  rw [List.getD_eq_getElem?_getD, List.getElem?_eq_getElem (by rw [am_alL_len]; exact h)]
  exact List.getElem_mem _
theorem am_al_out {n : Nat} (h : ¬ n < 169) : am_al n = (80, n, 0) := by
  unfold am_al
  rw [List.getD_eq_getElem?_getD, List.getElem?_eq_none (by rw [am_alL_len]; omega)]
  rfl
theorem am_al_lt (n : Nat) : (am_al n).1 < 90 := by
  by_cases h : n < 169
  · exact Nat.lt_trans (am_alL_lt _ (am_al_in h)) (by decide)
  · rw [am_al_out h]; exact (by decide : (80 : Nat) < 90)
theorem am_al_inj {i j : Nat} (e : am_al i = am_al j) : i = j := by
  by_cases h : i < 169 <;> by_cases g : j < 169
  · unfold am_al at e
    rw [List.getD_eq_getElem?_getD, List.getD_eq_getElem?_getD, List.getElem?_eq_getElem (by rw [am_alL_len]; exact h), List.getElem?_eq_getElem (by rw [am_alL_len]; exact g)] at e
    exact (List.getElem?_inj (l := am_alL) (by rw [am_alL_len]; exact h) am_alL_nd).mp (by rw [List.getElem?_eq_getElem (by rw [am_alL_len]; exact h), List.getElem?_eq_getElem (by rw [am_alL_len]; exact g)]; exact congrArg some e)
  · have h1 := am_alL_lt _ (am_al_in h)
    rw [e, am_al_out g] at h1
    exact absurd (show (80 : Nat) < 80 from h1) (by decide)
  · have h1 := am_alL_lt _ (am_al_in g)
    rw [← e, am_al_out h] at h1
    exact absurd (show (80 : Nat) < 80 from h1) (by decide)
  · rw [am_al_out h, am_al_out g] at e
    exact congrArg (fun q : Lc => q.2.1) e
/-- the script (its length and ints), and what the JDK's formatter is (a cell or null) -/
abbrev XL : Type := Nat × (Nat → Int32) × Option Lc
def am_tb (l : List Int32) : Nat → Int32 := fun j => l.getD j 0
def am_cnt : List Int32 := [28, 14, 9, 7, 5, 4, 3, 2, 1]
def am_wid : List Int32 := [1, 2, 3, 4, 5, 7, 9, 14, 28]
def am_swm : List Int32 := [1, 2, 4, 3, 5, 6, 7, 8, 9, 0]
/-- the literals: class, entry, text, bytes -/
def am_strs : List (String × Nat × List Int32) := [("NineWays$Command", 69, [110, 101, 119]), ("NineWays$Command", 75, [97, 100, 100]), ("NineWays$Command", 78, [112, 117, 116]), ("NineWays$Command", 81, [105, 110, 115, 101, 114, 116]), ("NineWays$Command", 84, [114, 101, 109, 111, 118, 101]), ("NineWays$Command", 87, [106, 111, 105, 110]), ("NineWays$Command", 90, [114, 117, 108, 101]), ("NineWays$Command", 93, [115, 107, 105, 112]), ("NineWays$Command", 96, [112, 114, 105, 99, 101]), ("NineWays$Command", 99, [114, 101, 112, 101, 97, 116]), ("NineWays$SystemReader", 44, [112, 97, 99, 107]), ("NineWays$SystemReader", 69, [114, 111, 119]), ("NineWays$SystemReader", 74, [112, 114, 105, 99, 101]), ("NineWays$SystemReader", 79, [102, 105, 108, 108])]
def am_byt (k : Nat) : List Int32 := (am_strs.getD k ("", 0, [])).2.2
/-- a command: name, names, hasIndex, hasValue -/
def am_cmds : List (String × Int32 × Int32 × Int32) := [("NEW", 1, 0, 0), ("ADD", 1, 0, 1), ("PUT", 1, 1, 1), ("INSERT", 1, 1, 1), ("REMOVE", 1, 1, 0), ("JOIN", 2, 0, 0), ("RULE", 0, 0, 1), ("SKIP", 0, 0, 1), ("PRICE", 0, 1, 1), ("REPEAT", 0, 0, 1)]
def am_cmd (k : Nat) : String × Int32 × Int32 × Int32 := am_cmds.getD k ("", 0, 0, 0)
/-- the constant cells -/
def am_k (xl : XL) : Lc → AC
  | (90, 0, _) => .inl (0, 9, .inl (am_tb am_cnt))
  | (90, 1, _) => .inl (0, 9, .inl (am_tb am_wid))
  | (90, _, _) => .inl (0, 10, .inl (am_tb am_swm))
  | (91, k, _) => .inr (20, [aR (some (94, k, 0)), aI (am_cmd k).2.1, aI (am_cmd k).2.2.1, aI (am_cmd k).2.2.2, aI (nI k)])
  | (92, _, _) => .inl (0, xl.1, .inl xl.2.1)
  | (93, _, _) => .inl (8, 10, .inr (.inr (.inr (fun j => some (91, j, 0)))))
  | (94, k, _) => .inr (21, [aR (some (95, k, 0)), aI 0])
  | (95, k, _) => .inl (2, (am_byt k).length, .inl (am_tb (am_byt k)))
  | (97, _, _) => .inr (98, [aR xl.2.2])
  | _ => .inr (99, [])
def am_tyT : Nat → FieldType
  | 0 => .int
  | 1 => .long
  | 2 => .byte
  | 3 => .double
  | 4 => .object RX4
  | 5 => .object RX7
  | 6 => .object RX1
  | 7 => .array .int
  | _ => .object RX2
def am_tys (dA : Nat → ClassId) : List (ClassId × FieldType) := (List.range 8).map fun k => (dA k, am_tyT k)
theorem am_tys_at (dA : Nat → ClassId) {k : Nat} (h : k < 8) : (am_tys dA)[k]? = some (dA k, am_tyT k) := by
  unfold am_tys
  rw [List.getElem?_map, List.getElem?_range h]
  rfl
/-- fields of constant objects: owner, name, what it is said of, value -/
def am_cfs : List (String × String × String × Lc × AV) :=
  (List.range 10).flatMap (fun k => [("NineWays$Command", "word", "Ljava/lang/String;", (91, k, 0), aR (some (94, k, 0))), ("NineWays$Command", "names", "I", (91, k, 0), aI (am_cmd k).2.1), ("NineWays$Command", "hasIndex", "Z", (91, k, 0), aI (am_cmd k).2.2.1), ("NineWays$Command", "hasValue", "Z", (91, k, 0), aI (am_cmd k).2.2.2), ("java/lang/Enum", "ordinal", "I", (91, k, 0), aI (nI k))])
  ++ (List.range 14).flatMap (fun k => [("java/lang/String", "value", "[B", (94, k, 0), aR (some (95, k, 0))), ("java/lang/String", "coder", "B", (94, k, 0), aI 0)])
def am_cos : List (String × Lc) := (List.range 10).map (fun k => ("NineWays$Command", (91, k, 0))) ++ (List.range 14).map (fun k => ("java/lang/String", (94, k, 0)))
def am_sts (xl : XL) : List (String × String × String × AV) :=
  [("NineWays", "COUNT", "[I", aR (some (90, 0, 0))), ("NineWays", "WIDTH", "[I", aR (some (90, 1, 0))), ("NineWays$1", "$SwitchMap$NineWays$Command", "[I", aR (some (90, 2, 0))), ("NineWays$Command", "ALL", "[LNineWays$Command;", aR (some (93, 0, 0))), ("java/lang/String", "COMPACT_STRINGS", "Z", aI 1), ("jdk/internal/util/Preconditions", "SIOOBE_FORMATTER", "Ljava/util/function/BiFunction;", aR xl.2.2)]
  ++ (List.range 10).map (fun k => ("NineWays$Command", (am_cmd k).1, "LNineWays$Command;", aR (some (91, k, 0))))
/-- constant arrays: place, type, length, contents -/
def am_cas (xl : XL) : List (Lc × Nat × Nat × (Nat → AV)) :=
  [((90, 0, 0), 0, 9, fun j => aI (am_tb am_cnt j)), ((90, 1, 0), 0, 9, fun j => aI (am_tb am_wid j)), ((90, 2, 0), 0, 10, fun j => aI (am_tb am_swm j)), ((92, 0, 0), 0, xl.1, fun j => aI (xl.2.1 j)), ((93, 0, 0), 8, 10, fun j => aR (some (91, j, 0)))]
  ++ (List.range 14).map (fun k => ((95, k, 0), 2, (am_byt k).length, fun j => aI (am_tb (am_byt k) j)))
/-- the places of the constants -/
def am_kL : List Lc := [(90, 0, 0), (90, 1, 0), (90, 2, 0), (92, 0, 0), (93, 0, 0), (96, 0, 0)] ++ (List.range 10).map (fun k => (91, k, 0)) ++ (List.range 14).map (fun k => (94, k, 0)) ++ (List.range 14).map (fun k => (95, k, 0))
theorem am_kL_ge : ∀ L ∈ am_kL, 90 ≤ L.1 := by decide +kernel
/-- what holds of the constants, apart from A -/
def am_C (xl : XL) (cad : Lc → Nat) (A : Nat → Prop) (U : State) (H : Heap) : Prop :=
  (∀ q ∈ am_cfs, va_OF q.1 q.2.1 q.2.2.1 (am_cv cad q.2.2.2.2) (cad q.2.2.2.1) A U H) ∧ (∀ q ∈ am_cos, va_O q.1 (cad q.2) A U H) ∧ (∀ q ∈ am_sts xl, va_Z q.1 q.2.1 q.2.2.1 (am_cv cad q.2.2.2) A U H) ∧
  (∀ q ∈ am_cas xl, va_T (am_tyT q.2.1) (cad q.1) q.2.2.1 (fun j => am_cv cad (q.2.2.2 j)) A U H) ∧ (∀ i j : Nat, i < 10 → j < 10 → cad (91, i, 0) = cad (91, j, 0) → i = j) ∧ (xl.2.2 = none ∨ xl.2.2 = some (96, 0, 0)) ∧
  vx_Zq Bundle.tN "UNASSIGNED_STACK" Bundle.steD A U H ∧ vx_Zq Bundle.tN "SUPPRESSED_SENTINEL" Bundle.listD A U H
theorem am_C.moved {xl : XL} {cad : Lc → Nat} {A : Nat → Prop} {u U : State} {H : Heap} (hvm : u.vm.Alike U.vm) (h : am_C xl cad A u H) : am_C xl cad A U H :=
  ⟨fun q hq => va_OF.moved hvm (h.1 q hq), fun q hq => va_O.moved hvm (h.2.1 q hq), fun q hq => va_Z.moved hvm (h.2.2.1 q hq), fun q hq => va_T.moved hvm (h.2.2.2.1 q hq), h.2.2.2.2.1, h.2.2.2.2.2.1, vx_Zq.moved hvm h.2.2.2.2.2.2.1, vx_Zq.moved hvm h.2.2.2.2.2.2.2⟩
theorem am_C.kept {xl : XL} {cad : Lc → Nat} {A : Nat → Prop} {U : State} {H H1 : Heap} (h : am_C xl cad A U H) (hq : ∀ a : Nat, a < H.size → ¬ A a → H1[a]? = H[a]?) : am_C xl cad A U H1 :=
  ⟨fun q k => (h.1 q k).kept hq, fun q k => (h.2.1 q k).kept hq, fun q k => (h.2.2.1 q k).kept hq, fun q k => (h.2.2.2.1 q k).kept hq, h.2.2.2.2.1, h.2.2.2.2.2.1, h.2.2.2.2.2.2.1.kept hq, h.2.2.2.2.2.2.2.kept hq⟩
theorem am_C.narrow {xl : XL} {cad : Lc → Nat} {A B : Nat → Prop} {U : State} {H : Heap} (h : am_C xl cad A U H) (hAB : ∀ q, B q → A q) : am_C xl cad B U H :=
  ⟨fun q k => (h.1 q k).narrow hAB, fun q k => (h.2.1 q k).narrow hAB, fun q k => (h.2.2.1 q k).narrow hAB, fun q k => (h.2.2.2.1 q k).narrow hAB, h.2.2.2.2.1, h.2.2.2.2.2.1, h.2.2.2.2.2.2.1.narrow hAB, h.2.2.2.2.2.2.2.narrow hAB⟩
-- the world of n cells
def am_ab (ad : Lc → Nat) : AB → ((Nat → Int32) ⊕ (Nat → Int64) ⊕ (Nat → UInt32) ⊕ (Nat → UInt64) ⊕ (Nat → Option Nat))
  | .inl f => .inl f
  | .inr (.inl f) => .inr (.inl f)
  | .inr (.inr (.inl f)) => .inr (.inr (.inr (.inl f)))
  | .inr (.inr (.inr f)) => .inr (.inr (.inr (.inr (fun j => (f j).map ad))))
def am_ce (dA : Nat → ClassId) (ad : Lc → Nat) : AC → va_E
  | .inl a => .inl (dA a.1, a.2.1, am_ab ad a.2.2)
  | .inr o => .inr (o.1, o.2.map (am_cv ad))
def am_W (dA : Nat → ClassId) (ad : Lc → Nat) (n : Nat) (h : AH) : va_W := (List.range n).map fun i => (ad (am_al i), am_ce dA ad (h (am_al i)))
theorem am_W_at {dA : Nat → ClassId} {ad : Lc → Nat} {n i : Nat} {h : AH} (hi : i < n) : (am_W dA ad n h)[i]? = some (ad (am_al i), am_ce dA ad (h (am_al i))) := by
  unfold am_W
  rw [List.getElem?_map, List.getElem?_range hi]
  rfl
def am_uh (h : AH) (L : Lc) (x : AC) : AH := fun L' => if L' = L then x else h L'
theorem am_W_set {dA : Nat → ClassId} {ad : Lc → Nat} {n i : Nat} {h : AH} {x : AC} {y : va_E} (hi : i < n) (hy : y = am_ce dA ad x) : (am_W dA ad n h).set i (ad (am_al i), y) = am_W dA ad n (am_uh h (am_al i) x) := by
  subst hy
  apply List.ext_getElem?
  intro j
  rw [List.getElem?_set]
  by_cases hj : j < n
  · rw [am_W_at hj, am_W_at hj]
    by_cases e : i = j
    · subst e
      rw [if_pos rfl, if_pos (by simp [am_W]; exact hi)]
      simp [am_uh]
    · rw [if_neg e]
      have : am_al j ≠ am_al i := fun q => e (am_al_inj q).symm
      simp [am_uh, this]
  · have h1 : ∀ h : AH, (am_W dA ad n h)[j]? = none := fun h => List.getElem?_eq_none (by simp [am_W]; omega)
    rw [if_neg (by omega), h1, h1]
theorem am_W_push {dA : Nat → ClassId} {ad : Lc → Nat} {n q : Nat} {h : AH} {x : AC} {y : va_E} (ad' : Lc → Nat) (h0 : ∀ i, i < n → ad' (am_al i) = ad (am_al i)) (h1 : ad' (am_al n) = q) (hx : ∀ i, i < n → am_ce dA ad' (h (am_al i)) = am_ce dA ad (h (am_al i))) (hy : y = am_ce dA ad' x) :
    am_W dA ad n h ++ [(q, y)] = am_W dA ad' (n + 1) (am_uh h (am_al n) x) := by
  subst hy
  unfold am_W
  rw [List.range_succ, List.map_append]
  congr 1
  · apply List.map_congr_left
    intro i hi
    have hin := List.mem_range.mp hi
    have : am_al i ≠ am_al n := fun e => by have := am_al_inj e; omega
    simp only [am_uh, this, if_false, h0 i hin, hx i hin]
  · simp [am_uh, h1]
-- references that are cells of the world, or constants
def am_rv (n : Nat) : AV → Prop
  | .inr (.inr (.inr (.inr (some L)))) => (∃ i, i < n ∧ L = am_al i) ∨ L ∈ am_kL
  | _ => True
def am_rc (n : Nat) : AC → Prop
  | .inl (_, _, .inr (.inr (.inr f))) => ∀ j, am_rv n (aR (f j))
  | .inl _ => True
  | .inr (_, fs) => ∀ v ∈ fs, am_rv n v
theorem am_rv_mono {n n' : Nat} (h : n ≤ n') {v : AV} (k : am_rv n v) : am_rv n' v := by
  rcases v with x | x | x | x | r <;> try trivial
  rcases r with _ | L
  · trivial
  · rcases k with ⟨i, hi, e⟩ | k
    · exact Or.inl ⟨i, by omega, e⟩
    · exact Or.inr k
theorem am_rc_mono {n n' : Nat} (h : n ≤ n') {x : AC} (k : am_rc n x) : am_rc n' x := by
  rcases x with ⟨t, m, b⟩ | ⟨ci, fs⟩
  · rcases b with f | f | f | f <;> try trivial
    exact fun j => am_rv_mono h (k j)
  · exact fun v hv => am_rv_mono h (k v hv)
/-- the same value under another map of places -/
theorem am_cv_ad {n : Nat} {ad ad' : Lc → Nat} (h : ∀ i, i < n → ad' (am_al i) = ad (am_al i)) (hk : ∀ L : Lc, 90 ≤ L.1 → ad' L = ad L) {v : AV} (k : am_rv n v) : am_cv ad' v = am_cv ad v := by
  rcases v with x | x | x | x | r <;> try rfl
  rcases r with _ | L
  · rfl
  · rcases k with ⟨i, hi, e⟩ | k
    · subst e
      simp only [am_cv, Option.map_some, h i hi]
    · simp only [am_cv, Option.map_some, hk L (am_kL_ge L k)]
theorem am_ce_ad {dA : Nat → ClassId} {n : Nat} {ad ad' : Lc → Nat} (h : ∀ i, i < n → ad' (am_al i) = ad (am_al i)) (hk : ∀ L : Lc, 90 ≤ L.1 → ad' L = ad L) {x : AC} (k : am_rc n x) : am_ce dA ad' x = am_ce dA ad x := by
  rcases x with ⟨t, m, b⟩ | ⟨ci, fs⟩
  · rcases b with f | f | f | f <;> try rfl
    have e : (fun j => (f j).map ad') = fun j => (f j).map ad := by
      funext j
      have h1 := am_cv_ad h hk (k j)
      cases hf : f j with
      | none => rfl
      | some L =>
        rw [hf] at h1
        simp only [am_cv, Option.map_some, va_rf] at h1 ⊢
        injection h1 with h1
        rw [h1]
    simp only [am_ce, am_ab, e]
  · have e : fs.map (am_cv ad') = fs.map (am_cv ad) := List.map_congr_left fun v hv => am_cv_ad h hk (k v hv)
    simp only [am_ce, e]
