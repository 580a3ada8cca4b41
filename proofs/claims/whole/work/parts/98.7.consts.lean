/-! THE START: what the Statement gives of classes and constants -/
set_option maxRecDepth 8000
abbrev lcS (k : Nat) : Term := Term.static "NineWays$Command" (am_cmd k).1 "LNineWays$Command;"
abbrev lsT (k : Nat) : Term := Term.string (am_strs.getD k ("", 0, [])).1 (am_strs.getD k ("", 0, [])).2.1
abbrev lsV (k : Nat) : Term := Term.field (lsT k) "java/lang/String" "value" "[B"
abbrev lcA : Term := Term.static "NineWays$Command" "ALL" "[LNineWays$Command;"
abbrev lc0 : Term := Term.static "NineWays" "COUNT" "[I"
abbrev lc1 : Term := Term.static "NineWays" "WIDTH" "[I"
abbrev lc2 : Term := Term.static "NineWays$1" "$SwitchMap$NineWays$Command" "[I"
abbrev lcF : Term := Term.static "jdk/internal/util/Preconditions" "SIOOBE_FORMATTER" "Ljava/util/function/BiFunction;"
def nwL : List Cond := flatC (Jvm.Cond.and given_1 narrow_1)
theorem nw_ex : ∀ k, k < 10 → Cond.exactly (lcS k) "NineWays$Command" ∈ nwL := by decide +kernel
theorem nw_word : ∀ k, k < 10 → Cond.eq (Term.field (lcS k) "NineWays$Command" "word" "Ljava/lang/String;") (lsT k) ∈ nwL := by decide +kernel
theorem nw_nm : ∀ k, k < 10 → Cond.eq (Term.field (lcS k) "NineWays$Command" "names" "I") (Term.int (am_cmd k).2.1) ∈ nwL := by decide +kernel
theorem nw_hi : ∀ k, k < 10 → Cond.eq (Term.field (lcS k) "NineWays$Command" "hasIndex" "Z") (Term.int (am_cmd k).2.2.1) ∈ nwL := by decide +kernel
theorem nw_hv : ∀ k, k < 10 → Cond.eq (Term.field (lcS k) "NineWays$Command" "hasValue" "Z") (Term.int (am_cmd k).2.2.2) ∈ nwL := by decide +kernel
theorem nw_or : ∀ k, k < 10 → Cond.eq (Term.field (lcS k) "java/lang/Enum" "ordinal" "I") (Term.int (nI k)) ∈ nwL := by decide +kernel
theorem nw_el : ∀ k, k < 10 → Cond.eq (Term.elem lcA (Term.int (Int32.ofNat k))) (lcS k) ∈ nwL := by decide +kernel
abbrev nwP : List (Nat × Nat × Nat) := [(0, 9, 75), (0, 1, 82), (9, 1, 83), (0, 2, 90), (9, 2, 91), (1, 2, 92), (0, 3, 99), (9, 3, 100), (1, 3, 101), (2, 3, 102), (0, 4, 109), (9, 4, 110), (1, 4, 111), (2, 4, 112), (3, 4, 113), (0, 5, 120), (9, 5, 121), (1, 5, 122), (2, 5, 123), (3, 5, 124), (4, 5, 125), (0, 6, 132), (9, 6, 133), (1, 6, 134), (2, 6, 135), (3, 6, 136), (4, 6, 137), (5, 6, 138), (0, 7, 145), (9, 7, 146), (1, 7, 147), (2, 7, 148), (3, 7, 149), (4, 7, 150), (5, 7, 151), (6, 7, 152), (0, 8, 159), (9, 8, 160), (1, 8, 161), (2, 8, 162), (3, 8, 163), (4, 8, 164), (5, 8, 165), (6, 8, 166), (7, 8, 167)]
theorem nw_nx : ∀ p ∈ nwP, nwL[p.2.2]? = some (Cond.not (Cond.eq (lcS p.1) (lcS p.2.1))) := by decide +kernel
theorem nw_ny : ∀ i, i < 10 → ∀ j, j < 10 → i ≠ j → ∃ p ∈ nwP, (p.1 = i ∧ p.2.1 = j) ∨ (p.1 = j ∧ p.2.1 = i) := by decide +kernel
theorem nw_ne (i : Nat) (hi : i < 10) (j : Nat) (hj : j < 10) (h : i ≠ j) : Cond.not (Cond.eq (lcS i) (lcS j)) ∈ nwL ∨ Cond.not (Cond.eq (lcS j) (lcS i)) ∈ nwL := by
  obtain ⟨p, hp, q⟩ := nw_ny i hi j hj h
  have e := List.mem_of_getElem? (nw_nx p hp)
  rcases q with ⟨q1, q2⟩ | ⟨q1, q2⟩
  · rw [q1, q2] at e
    exact Or.inl e
  · rw [q1, q2] at e
    exact Or.inr e
theorem nw_exn : ∀ a, a < 3 → ∀ b, b < 3 → a ≠ b → Cond.not (Cond.castable (am_exn a) (am_exn b)) ∈ nwL := by decide +kernel
theorem nw_A : Cond.arrayOf lcA (.object "NineWays$Command") ∈ nwL ∧ Cond.eq (Term.length lcA) (Term.int (Int32.ofNat 10)) ∈ nwL := by decide +kernel
theorem nw_0 : Cond.arrayOf lc0 .int ∈ nwL ∧ Cond.eq (Term.length lc0) (Term.int (Int32.ofNat 9)) ∈ nwL ∧ ∀ j, j < 9 → Cond.eq (Term.elem lc0 (Term.int (Int32.ofNat j))) (Term.int (am_tb am_cnt j)) ∈ nwL := by decide +kernel
theorem nw_1 : Cond.arrayOf lc1 .int ∈ nwL ∧ Cond.eq (Term.length lc1) (Term.int (Int32.ofNat 9)) ∈ nwL ∧ ∀ j, j < 9 → Cond.eq (Term.elem lc1 (Term.int (Int32.ofNat j))) (Term.int (am_tb am_wid j)) ∈ nwL := by decide +kernel
theorem nw_2 : Cond.arrayOf lc2 .int ∈ nwL ∧ Cond.eq (Term.length lc2) (Term.int (Int32.ofNat 10)) ∈ nwL ∧ ∀ j, j < 10 → Cond.eq (Term.elem lc2 (Term.int (Int32.ofNat j))) (Term.int (am_tb am_swm j)) ∈ nwL := by decide +kernel
theorem nw_cs : Cond.eq (Term.static "java/lang/String" "COMPACT_STRINGS" "Z") (Term.int 1) ∈ nwL := by decide +kernel
theorem nw_F : Cond.isRef lcF ∈ nwL := by decide +kernel
theorem nw_T : Cond.isRef (Term.static Bundle.tN "UNASSIGNED_STACK" Bundle.steD) ∈ nwL ∧ Cond.isRef (Term.static Bundle.tN "SUPPRESSED_SENTINEL" Bundle.listD) ∈ nwL := by decide +kernel
theorem ns_ex : ∀ k, k < 14 → Cond.exactly (lsT k) "java/lang/String" ∈ nwL := by decide +kernel
theorem ns_co : ∀ k, k < 14 → Cond.eq (Term.field (lsT k) "java/lang/String" "coder" "B") (Term.int 0) ∈ nwL := by decide +kernel
theorem ns_ar : ∀ k, k < 14 → Cond.arrayOf (lsV k) .byte ∈ nwL := by decide +kernel
theorem ns_le : ∀ k, k < 14 → Cond.eq (Term.length (lsV k)) (Term.int (Int32.ofNat (am_byt k).length)) ∈ nwL := by decide +kernel
theorem ns_el : ∀ k, k < 14 → ∀ j, j < (am_byt k).length → Cond.eq (Term.elem (lsV k) (Term.int (Int32.ofNat j))) (Term.int (am_tb (am_byt k) j)) ∈ nwL := by decide +kernel
theorem ns_31 : ∀ k, k < 14 → (am_byt k).length < 2 ^ 31 := by decide +kernel
-- words of the tables
theorem tw_ls : ∀ k, k < 10 → Cond.laysStatic "NineWays$Command" (am_cmd k).1 "LNineWays$Command;" ∈ lw_tbl := by decide +kernel
theorem tw_lA : Cond.laysStatic "NineWays$Command" "ALL" "[LNineWays$Command;" ∈ lw_tbl := by decide +kernel
theorem tw_l0 : Cond.laysStatic "NineWays" "COUNT" "[I" ∈ lw_tbl := by decide +kernel
theorem tw_l1 : Cond.laysStatic "NineWays" "WIDTH" "[I" ∈ lw_tbl := by decide +kernel
theorem tw_l2 : Cond.laysStatic "NineWays$1" "$SwitchMap$NineWays$Command" "[I" ∈ lw_tbl := by decide +kernel
theorem tw_lc : Cond.laysStatic "java/lang/String" "COMPACT_STRINGS" "Z" ∈ lw_tbl := by decide +kernel
theorem tw_lF : Cond.laysStatic "jdk/internal/util/Preconditions" "SIOOBE_FORMATTER" "Ljava/util/function/BiFunction;" ∈ lw_tbl := by decide +kernel
theorem tw_lT : Cond.laysStatic Bundle.tN "UNASSIGNED_STACK" Bundle.steD ∈ lw_tbl ∧ Cond.laysStatic Bundle.tN "SUPPRESSED_SENTINEL" Bundle.listD ∈ lw_tbl := by decide +kernel
theorem tw_in : Cond.initialized "NineWays$Command" ∈ lw_tbl ∧ Cond.initialized "NineWays" ∈ lw_tbl ∧ Cond.initialized "NineWays$1" ∈ lw_tbl ∧ Cond.initialized "java/lang/String" ∈ lw_tbl ∧ Cond.initialized "jdk/internal/util/Preconditions" ∈ lw_tbl ∧ Cond.initialized Bundle.tN ∈ lw_tbl := by decide +kernel
theorem tw_sr : ∀ k, k < 14 → Cond.stringRef (am_strs.getD k ("", 0, [])).1 (am_strs.getD k ("", 0, [])).2.1 (am_txt k) ∈ lw_tbl := by decide +kernel
theorem tw_ac : Cond.arrayClass .int ∈ lw_tbl ∧ Cond.arrayClass .long ∈ lw_tbl ∧ Cond.arrayClass .byte ∈ lw_tbl ∧ Cond.arrayClass .double ∈ lw_tbl := by decide +kernel
theorem tw_ao : Cond.arrayOver (.object RX4) ∈ lw_tbl ∧ Cond.arrayOver (.object RX7) ∈ lw_tbl ∧ Cond.arrayOver (.object RX1) ∈ lw_tbl ∧ Cond.arrayOver (.array .int) ∈ lw_tbl := by decide +kernel
theorem tw_it : Cond.instantiable RX1 8 ∈ lw_tbl ∧ Cond.instantiable RX3 3 ∈ lw_tbl ∧ Cond.instantiable RX4 4 ∈ lw_tbl ∧ Cond.instantiable RX5 7 ∈ lw_tbl ∧ Cond.instantiable RX6 2 ∈ lw_tbl ∧ Cond.instantiable RX7 7 ∈ lw_tbl ∧ Cond.instantiable RX8 6 ∈ lw_tbl ∧ Cond.instantiable RX9 2 ∈ lw_tbl ∧ Cond.instantiable RX10 9 ∈ lw_tbl ∧ Cond.instantiable RX11 13 ∈ lw_tbl ∧ Cond.instantiable RX12 49 ∈ lw_tbl := by decide +kernel
theorem am_G_tbl {w : Cond} (h : w ∈ am_G) : w ∈ lw_tbl := (List.mem_filter.mp h).1
theorem isRef_ev {args : Array Value} {s : State} {t : Term} (h : (Cond.isRef t).before args s = true) : t.eval args s none [] s = some .null ∨ ∃ a, t.eval args s none [] s = some (.ref a) := by
  cases hv : t.eval args s none [] s with
  | none => simp [Cond.before, Cond.holds, Cond.value, hv] at h
  | some w =>
    simp only [Cond.before, Cond.holds, Cond.value, hv] at h
    cases w with
    | null => exact Or.inl rfl
    | ref t => exact Or.inr ⟨t, rfl⟩
    | _ => simp at h
/-- the places of the constants on the machine -/
def cadF (a0 a1 a2 a3 a6 b : Nat) (c91 : Nat → Nat) (c94 : Nat → Nat × Nat) (L : Lc) : Nat := cond (Nat.beq L.1 90) (cond (Nat.beq L.2.1 0) a0 (cond (Nat.beq L.2.1 1) a1 a2)) (cond (Nat.beq L.1 91) (c91 L.2.1) (cond (Nat.beq L.1 92) b (cond (Nat.beq L.1 93) a3 (cond (Nat.beq L.1 94) (c94 L.2.1).1 (cond (Nat.beq L.1 95) (c94 L.2.1).2 a6)))))
theorem consts {s : State} {b L : Nat} {xs : Nat → Int32} (hts : ∀ w ∈ lw_tbl, w.before #[Value.ref b] s = true) (hnw : ∀ c ∈ nwL, c.before #[Value.ref b] s = true) (hX : va_X b L xs s s.heap) (hbl : b < s.heap.size) (hL : L ≤ 3072) : ∃ (cad : Lc → Nat) (xl : XL), xl.1 = L ∧ cad (92, 0, 0) = b ∧ am_C xl cad (fun q : Nat => s.heap.size ≤ q) s s.heap ∧ am_V cad s := by
  have hA : ∀ a : Nat, a < s.heap.size → ¬ (fun q : Nat => s.heap.size ≤ q) a := fun a h => Nat.not_le.mpr h
  have h91 : ∀ k : Nat, ∃ a : Nat, k < 10 → (lcS k).eval #[Value.ref b] s none [] s = some (.ref a) ∧ va_O "NineWays$Command" a (fun q : Nat => s.heap.size ≤ q) s s.heap := by
    intro k
    by_cases hk : k < 10
    · obtain ⟨a, c, cA, kA, q1, q2, q3, q4, q5, q6, -⟩ := Cond.exactly_spec (args := #[Value.ref b]) (first := s) (o := none) (s := s) (idx := []) (t := lcS k) (cls := "NineWays$Command") (hnw _ (nw_ex k hk))
      exact ⟨a, fun _ => ⟨q1, cA, q3, q5, by rw [q6]; exact q2, hA a (Array.getElem?_eq_some_iff.mp q3).1⟩⟩
    · exact ⟨0, fun h => absurd h hk⟩
  obtain ⟨c91, h91⟩ := Classical.axiomOfChoice h91
  have h94 : ∀ k : Nat, ∃ q : Nat × Nat, k < 14 → (lsT k).eval #[Value.ref b] s none [] s = some (.ref q.1) ∧ va_O "java/lang/String" q.1 (fun q : Nat => s.heap.size ≤ q) s s.heap ∧ (lsV k).eval #[Value.ref b] s none [] s = some (.ref q.2) ∧ va_T .byte q.2 (am_byt k).length (fun j => .int (am_tb (am_byt k) j)) (fun q : Nat => s.heap.size ≤ q) s s.heap := by
    intro k
    by_cases hk : k < 14
    · obtain ⟨a, c, cA, kA, q1, q2, q3, q4, q5, q6, -⟩ := Cond.exactly_spec (args := #[Value.ref b]) (first := s) (o := none) (s := s) (idx := []) (t := lsT k) (cls := "java/lang/String") (hnw _ (ns_ex k hk))
      obtain ⟨t, ht, hT⟩ := va_Tof (tm := lsV k) (ty := .byte) (N := (am_byt k).length) (f := fun j => .int (am_tb (am_byt k) j)) (ns_31 k hk) (hnw _ (ns_ar k hk)) (va_eqt (hnw _ (ns_le k hk))) (fun j hj => va_eqt (hnw _ (ns_el k hk j hj))) hA
      exact ⟨(a, t), fun _ => ⟨q1, ⟨cA, q3, q5, by rw [q6]; exact q2, hA a (Array.getElem?_eq_some_iff.mp q3).1⟩, ht, hT⟩⟩
    · exact ⟨(0, 0), fun h => absurd h hk⟩
  obtain ⟨c94, h94⟩ := Classical.axiomOfChoice h94
  obtain ⟨a0, e0, T0⟩ := va_Tof (tm := lc0) (ty := .int) (N := 9) (f := fun j => .int (am_tb am_cnt j)) (by decide) (hnw _ nw_0.1) (va_eqt (hnw _ nw_0.2.1)) (fun j hj => va_eqt (hnw _ (nw_0.2.2 j hj))) hA
  obtain ⟨a1, e1, T1⟩ := va_Tof (tm := lc1) (ty := .int) (N := 9) (f := fun j => .int (am_tb am_wid j)) (by decide) (hnw _ nw_1.1) (va_eqt (hnw _ nw_1.2.1)) (fun j hj => va_eqt (hnw _ (nw_1.2.2 j hj))) hA
  obtain ⟨a2, e2, T2⟩ := va_Tof (tm := lc2) (ty := .int) (N := 10) (f := fun j => .int (am_tb am_swm j)) (by decide) (hnw _ nw_2.1) (va_eqt (hnw _ nw_2.2.1)) (fun j hj => va_eqt (hnw _ (nw_2.2.2 j hj))) hA
  obtain ⟨a3, e3, T3⟩ := va_Tof (tm := lcA) (ty := .object "NineWays$Command") (N := 10) (f := fun j => .ref (c91 j)) (by decide) (hnw _ nw_A.1) (va_eqt (hnw _ nw_A.2)) (fun j hj => va_eqv (hnw _ (nw_el j hj)) (h91 j hj).1) hA
  obtain ⟨o6, a6, hF⟩ : ∃ (o6 : Option Lc) (a6 : Nat), (o6 = none ∨ o6 = some (96, 0, 0)) ∧ lcF.eval #[Value.ref b] s none [] s = some (va_rf (o6.map (fun _ => a6))) := by
    rcases isRef_ev (hnw _ nw_F) with h | ⟨a, h⟩
    · exact ⟨none, 0, Or.inl rfl, h⟩
    · exact ⟨some (96, 0, 0), a, Or.inr rfl, h⟩
  obtain ⟨scr, x1, x2, x3, x4, x5⟩ := hX
  have T92 : va_T .int b L (fun j => .int (xs j)) (fun q : Nat => s.heap.size ≤ q) s s.heap := ⟨scr, x1, x2, x3, by rw [x4]; exact Nat.le_refl _, by rw [x4], x5, hA b hbl⟩
  refine ⟨cadF a0 a1 a2 a3 a6 b c91 c94, (L, xs, o6), rfl, rfl, ⟨?_, ?_, ?_, ?_, ?_, hF.1, ?_, ?_⟩, ⟨⟨?_, ?_⟩, ?_⟩⟩
  · intro q hq
    unfold am_cfs at hq
    rcases List.mem_append.mp hq with hq | hq
    · obtain ⟨k, hk, hq⟩ := List.mem_flatMap.mp hq
      have hk := List.mem_range.mp hk
      simp only [List.mem_cons, List.not_mem_nil, or_false] at hq
      rcases hq with rfl | rfl | rfl | rfl | rfl
      · exact vk_OFof (h91 k hk).1 (va_eqv (hnw _ (nw_word k hk)) (h94 k (by omega)).1) hA
      · exact vk_OFof (h91 k hk).1 (va_eqt (hnw _ (nw_nm k hk))) hA
      · exact vk_OFof (h91 k hk).1 (va_eqt (hnw _ (nw_hi k hk))) hA
      · exact vk_OFof (h91 k hk).1 (va_eqt (hnw _ (nw_hv k hk))) hA
      · exact vk_OFof (h91 k hk).1 (va_eqt (hnw _ (nw_or k hk))) hA
    · obtain ⟨k, hk, hq⟩ := List.mem_flatMap.mp hq
      have hk := List.mem_range.mp hk
      simp only [List.mem_cons, List.not_mem_nil, or_false] at hq
      rcases hq with rfl | rfl
      · exact vk_OFof (h94 k hk).1 (h94 k hk).2.2.1 hA
      · exact vk_OFof (h94 k hk).1 (va_eqt (hnw _ (ns_co k hk))) hA
  · intro q hq
    unfold am_cos at hq
    rcases List.mem_append.mp hq with hq | hq
    · obtain ⟨k, hk, rfl⟩ := List.mem_map.mp hq
      exact (h91 k (List.mem_range.mp hk)).2
    · obtain ⟨k, hk, rfl⟩ := List.mem_map.mp hq
      exact (h94 k (List.mem_range.mp hk)).2.1
  · intro q hq
    unfold am_sts at hq
    rcases List.mem_append.mp hq with hq | hq
    · simp only [List.mem_cons, List.not_mem_nil, or_false] at hq
      rcases hq with rfl | rfl | rfl | rfl | rfl | rfl
      · exact va_Zof (hts _ tw_l0) (hts _ tw_in.2.1) e0 hA
      · exact va_Zof (hts _ tw_l1) (hts _ tw_in.2.1) e1 hA
      · exact va_Zof (hts _ tw_l2) (hts _ tw_in.2.2.1) e2 hA
      · exact va_Zof (hts _ tw_lA) (hts _ tw_in.1) e3 hA
      · exact va_Zof (hts _ tw_lc) (hts _ tw_in.2.2.2.1) (va_eqt (hnw _ nw_cs)) hA
      · refine va_Zof (hts _ tw_lF) (hts _ tw_in.2.2.2.2.1) (hF.2.trans ?_) hA
        rcases hF.1 with h | h
        · subst h; rfl
        · subst h; rfl
    · obtain ⟨k, hk, rfl⟩ := List.mem_map.mp hq
      have hk := List.mem_range.mp hk
      exact va_Zof (hts _ (tw_ls k hk)) (hts _ tw_in.1) (h91 k hk).1 hA
  · intro q hq
    unfold am_cas at hq
    rcases List.mem_append.mp hq with hq | hq
    · simp only [List.mem_cons, List.not_mem_nil, or_false] at hq
      rcases hq with rfl | rfl | rfl | rfl | rfl
      · exact T0
      · exact T1
      · exact T2
      · exact T92
      · exact T3
    · obtain ⟨k, hk, rfl⟩ := List.mem_map.mp hq
      exact (h94 k (List.mem_range.mp hk)).2.2.2
  · intro i j hi hj e
    have e : c91 i = c91 j := e
    by_cases hij : i = j
    · exact hij
    · rcases nw_ne i hi j hj hij with h | h
      · exact absurd e (va_neR (hnw _ h) (h91 i hi).1 (h91 j hj).1)
      · exact absurd e.symm (va_neR (hnw _ h) (h91 j hj).1 (h91 i hi).1)
  · exact vx_Zqof (hts _ tw_lT.1) (hts _ tw_in.2.2.2.2.2) (hnw _ nw_T.1) hA
  · exact vx_Zqof (hts _ tw_lT.2) (hts _ tw_in.2.2.2.2.2) (hnw _ nw_T.2) hA
  · intro w hw
    have hb := hts w (List.mem_filter.mp hw).1
    have hn := (List.mem_filter.mp hw).2
    unfold am_nw at hn
    split at hn
    · first | exact va_Nw.of rfl hb | exact hb
    · first | exact va_Nw.of rfl hb | exact hb
    · first | exact va_Nw.of rfl hb | exact hb
    · first | exact va_Nw.of rfl hb | exact hb
    · first | exact va_Nw.of rfl hb | exact hb
    · first | exact va_Nw.of rfl hb | exact hb
    · cases hn
  · intro a c ha hc hac
    exact va_Nc.of (hnw _ (nw_exn a ha c hc hac))
  · intro k hk
    exact vk_R.of (hts _ (tw_sr k hk)) (h94 k hk).1
theorem arr_p {s : State} {args : Array Value} {ty : FieldType} (h : (Cond.arrayClass ty).before args s = true) : ∃ c : ClassId, ArrOfT s c ty ∧ s.vm.findClass ("[" ++ ty.toString) = some c := by
  obtain ⟨c, k, comp, h1, h2, h3⟩ := Cond.arrayClass_spec h
  exact ⟨c, fun n z => ⟨fun k h => (by cases h), k, h2, comp, h3⟩, h1⟩
theorem arr_o {s : State} {args : Array Value} {C : String} (h : (Cond.arrayOver (.object C)).before args s = true) : ∃ c : ClassId, ArrOfT s c (.object C) ∧ va_RA s c (.object C) := by
  obtain ⟨comp, c, k, f1, f0, f2, f3, f4⟩ := Cond.arrayOver_spec h
  exact ⟨c, fun n z => ⟨fun k h => (by cases h), k, f2, comp, f3⟩, k, comp, f2, f3, f1, f4⟩
theorem arr_a {s : State} {args : Array Value} {t : FieldType} (h : (Cond.arrayOver (.array t)).before args s = true) : ∃ c : ClassId, ArrOfT s c (.array t) ∧ s.vm.findClass ("[" ++ (FieldType.array t).toString) = some c := by
  obtain ⟨comp, c, k, f1, f0, f2, f3, f4⟩ := arrayOverA_spec h
  exact ⟨c, fun n z => ⟨fun k h => (by cases h), k, f2, comp, f3⟩, f4⟩
theorem tabs {s : State} {b : Nat} (hts : ∀ w ∈ lw_tbl, w.before #[Value.ref b] s = true) : ∃ (D : va_G) (dA : Nat → ClassId), va_K D vwCl (am_tys dA) s := by
  obtain ⟨i1, i3, i4, i5, i6, i7, i8, i9, i10, i11, i12⟩ := tw_it
  obtain ⟨c1, s1, K1⟩ := u_known (C := RX1) (T := TX1) (N := 8) hts (fun w h => am_G_tbl (uw_X1 w h)) (hts _ i1)
  obtain ⟨c3, s3, K3⟩ := u_known (C := RX3) (T := TX3) (N := 3) hts (fun w h => am_G_tbl (uw_X3 w h)) (hts _ i3)
  obtain ⟨c4, s4, K4⟩ := u_known (C := RX4) (T := TX4) (N := 4) hts (fun w h => am_G_tbl (uw_X4 w h)) (hts _ i4)
  obtain ⟨c5, s5, K5⟩ := u_known (C := RX5) (T := TX5) (N := 7) hts (fun w h => am_G_tbl (uw_X5 w h)) (hts _ i5)
  obtain ⟨c6, s6, K6⟩ := u_known (C := RX6) (T := TX6) (N := 2) hts (fun w h => am_G_tbl (uw_X6 w h)) (hts _ i6)
  obtain ⟨c7, s7, K7⟩ := u_known (C := RX7) (T := TX7) (N := 7) hts (fun w h => am_G_tbl (uw_X7 w h)) (hts _ i7)
  obtain ⟨c8, s8, K8⟩ := u_known (C := RX8) (T := TX8) (N := 6) hts (fun w h => am_G_tbl (uw_X8 w h)) (hts _ i8)
  obtain ⟨c9, s9, K9⟩ := u_known (C := RX9) (T := TX9) (N := 2) hts (fun w h => am_G_tbl (uw_X9 w h)) (hts _ i9)
  obtain ⟨c10, s10, K10⟩ := u_known (C := RX10) (T := TX10) (N := 9) hts (fun w h => am_G_tbl (uw_X10 w h)) (hts _ i10)
  obtain ⟨c11, s11, K11⟩ := u_known (C := RX11) (T := TX11) (N := 13) hts (fun w h => am_G_tbl (uw_X11 w h)) (hts _ i11)
  obtain ⟨c12, s12, K12⟩ := u_known (C := RX12) (T := TX12) (N := 49) hts (fun w h => am_G_tbl (uw_X12 w h)) (hts _ i12)
  obtain ⟨d0, A0, F0⟩ := arr_p (hts _ tw_ac.1)
  obtain ⟨d1, A1, F1⟩ := arr_p (hts _ tw_ac.2.1)
  obtain ⟨d2, A2, F2⟩ := arr_p (hts _ tw_ac.2.2.1)
  obtain ⟨d3, A3, F3⟩ := arr_p (hts _ tw_ac.2.2.2)
  obtain ⟨d4, A4, F4⟩ := arr_o (hts _ tw_ao.1)
  obtain ⟨d5, A5, F5⟩ := arr_o (hts _ tw_ao.2.1)
  obtain ⟨d6, A6, F6⟩ := arr_o (hts _ tw_ao.2.2.1)
  obtain ⟨d7, A7, F7⟩ := arr_a (hts _ tw_ao.2.2.2)
  refine ⟨(fun k => [c1, c3, c4, c5, c6, c7, c8, c9, c10, c11, c12].getD k c1, fun k => [s1, s3, s4, s5, s6, s7, s8, s9, s10, s11, s12].getD k s1), fun k => [d0, d1, d2, d3, d4, d5, d6, d7].getD k d0, fun k q hq => ?_, fun k q hq => ?_⟩
  · match k, hq with
    | 0, hq => cases hq; exact K1
    | 1, hq => cases hq; exact K3
    | 2, hq => cases hq; exact K4
    | 3, hq => cases hq; exact K5
    | 4, hq => cases hq; exact K6
    | 5, hq => cases hq; exact K7
    | 6, hq => cases hq; exact K8
    | 7, hq => cases hq; exact K9
    | 8, hq => cases hq; exact K10
    | 9, hq => cases hq; exact K11
    | 10, hq => cases hq; exact K12
    | k + 11, hq => simp [vwCl] at hq
  · match k, hq with
    | 0, hq => cases hq; exact ⟨A0, F0⟩
    | 1, hq => cases hq; exact ⟨A1, F1⟩
    | 2, hq => cases hq; exact ⟨A2, F2⟩
    | 3, hq => cases hq; exact ⟨A3, F3⟩
    | 4, hq => cases hq; exact ⟨A4, F4⟩
    | 5, hq => cases hq; exact ⟨A5, F5⟩
    | 6, hq => cases hq; exact ⟨A6, F6⟩
    | 7, hq => cases hq; exact ⟨A7, F7⟩
    | k + 8, hq =>
      have := (List.getElem?_eq_some_iff.mp hq).1
      simp [am_tys] at this
      omega
