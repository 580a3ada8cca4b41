/-! RULES: runs without fuel, and how each operation goes on over cells of whole numbers -/
theorem am_run_mono {code : Nat → Option OP} {call call' : Nat → List AV → AH → KT → Option RS} (hc : ∀ y as h t r, call y as h t = some r → call' y as h t = some r) : ∀ (f f' : Nat) (c : CF) (r : RS), f ≤ f' → am_run code call f c = some r → am_run code call' f' c = some r
  | 0, _, _, _, _, h => by simp [am_run] at h
  | f + 1, 0, _, _, hf, _ => by omega
  | f + 1, f' + 1, c, r, hf, h => by
    have ih := fun c r => am_run_mono (code := code) hc f f' c r (by omega)
    unfold am_run at h ⊢
    split at h
    · cases h
    · rename_i g hg
      try rw [hg]
      try dsimp only
      split at h
      · cases h
      · rename_i c' hc'
        try rw [hc']
        try dsimp only
        exact ih _ _ h
    · rename_i g hg
      try rw [hg]
      exact h
    · rename_i y na rc hd hg
      try rw [hg]
      try dsimp only
      split at h
      · cases h
      · rename_i hn
        rw [if_neg hn]
        split at h
        · cases h
        · rename_i v h1 t1 he
          rw [hc _ _ _ _ _ he]
          exact ih _ _ h
        · rename_i E h1 t1 he
          rw [hc _ _ _ _ _ he]
          dsimp only
          split at h
          · cases h
          · rename_i hh
            try rw [hh]
            exact h
          · rename_i pc i hh
            try rw [hh]
            try dsimp only
            split at h
            · rename_i hi
              rw [if_pos hi]
              exact ih _ _ h
            · cases h
theorem am_call_mono {M : Nat → Option (Nat × Nat × (Nat → Option OP))} {F F' : Nat} (hF : F ≤ F') : ∀ (d d' : Nat), d ≤ d' → ∀ y as h t r, am_call M F d y as h t = some r → am_call M F' d' y as h t = some r
  | 0, _, _, y, as, h, t, r, e => by simp [am_call] at e
  | d + 1, 0, hd, _, _, _, _, _, _ => by omega
  | d + 1, d' + 1, hd, y, as, h, t, r, e => by
    unfold am_call at e ⊢
    cases hm : M y with
    | none => rw [hm] at e; cases e
    | some q =>
      obtain ⟨na, nL, code⟩ := q
      rw [hm] at e
      dsimp only at e ⊢
      by_cases hc : as.length = na ∧ (am_flat as).length ≤ nL
      · rw [if_pos hc] at e ⊢
        exact am_run_mono (am_call_mono hF d d' (by omega)) F F' _ _ hF e
      · rw [if_neg hc] at e
        cases e
/-- a run ends, and Q holds of its end -/
def Wp (k : Nat → Option OP) (d : Nat) (c : CF) (Q : RS → Prop) : Prop := ∃ (F : Nat) (r : RS), am_run k (am_call am_M F d) F c = some r ∧ Q r
/-- a call ends so -/
def Ca (d y : Nat) (as : List AV) (h : AH) (t : KT) (r : RS) : Prop := ∃ F : Nat, am_call am_M F d y as h t = some r
theorem Ca.up {d d' y : Nat} {as : List AV} {h : AH} {t : KT} {r : RS} (c : Ca d y as h t r) (hd : d ≤ d') : Ca d' y as h t r := by
  obtain ⟨F, c⟩ := c
  exact ⟨F, am_call_mono (Nat.le_refl _) d d' hd _ _ _ _ _ c⟩
section RUL
variable {k : Nat → Option OP} {d pc : Nat} {ls : AS} {st : List AV} {h : AH} {t : KT} {Q : RS → Prop}
theorem Wp.imp {c : CF} {P : RS → Prop} (w : Wp k d c P) (hPQ : ∀ r, P r → Q r) : Wp k d c Q := by
  obtain ⟨F, r, e, p⟩ := w
  exact ⟨F, r, e, hPQ r p⟩
theorem w_s {c c' : CF} {g : CF → Option CF} (hk : k c.1 = some (.inl g)) (hg : g c = some c') (w : Wp k d c' Q) : Wp k d c Q := by
  obtain ⟨F, r, e, q⟩ := w
  refine ⟨F + 1, r, ?_, q⟩
  have e2 := am_run_mono (am_call_mono (M := am_M) (Nat.le_succ F) d d (Nat.le_refl _)) F F _ _ (Nat.le_refl _) e
  show am_run k (am_call am_M (F + 1) d) (F + 1) c = some r
  unfold am_run
  rw [hk]
  dsimp only
  rw [hg]
  exact e2
theorem w_f {c : CF} {g : CF → Option RS} {r : RS} (hk : k c.1 = some (.inr (.inl g))) (hg : g c = some r) (q : Q r) : Wp k d c Q := by
  refine ⟨1, r, ?_, q⟩
  show am_run k (am_call am_M 1 d) (0 + 1) c = some r
  unfold am_run
  rw [hk]
  exact hg
theorem w_c0 {y na rc n : Nat} {hd : HD} {as : List AV} {v : Option AV} {h' : AH} {t' : KT} {c' : CF} (hk : k pc = some (.inr (.inr (y, na, rc, hd)))) (hs : Nat.blt 8 (am_w (st.drop na)) = false) (hr : am_rcv rc st[na - 1]? h = true) (ha : (st.take na).reverse = as) (hc : Ca n y as h t (.inl v, h', t')) (hn : n ≤ d) (he : (pc + 3, ls, v.toList ++ st.drop na, h', t') = c') (w : Wp k d c' Q) : Wp k d (pc, ls, st, h, t) Q := by
  obtain ⟨F, r, e, q⟩ := w
  obtain ⟨F1, e1⟩ := hc
  subst ha
  subst he
  have hm : ∀ x y : Nat, x ≤ x + y + 1 := fun x y => by omega
  have hm2 : ∀ x y : Nat, y ≤ x + y + 1 := fun x y => by omega
  refine ⟨F + F1 + 1, r, ?_, q⟩
  have e2 := am_run_mono (am_call_mono (M := am_M) (hm F F1) d d (Nat.le_refl _)) F (F + F1) _ _ (Nat.le_add_right _ _) e
  have e3 := am_call_mono (M := am_M) (hm2 F F1) n d hn _ _ _ _ _ e1
  show am_run k (am_call am_M (F + F1 + 1) d) (F + F1 + 1) (pc, ls, st, h, t) = some r
  unfold am_run
  dsimp only
  rw [hk]
  dsimp only
  have hs' : ¬ 8 < am_w (st.drop na) := fun q => by
    have : Nat.blt 8 (am_w (st.drop na)) = true := Nat.ble_eq.mpr q
    rw [this] at hs
    cases hs
  rw [if_neg (by rintro (q | q); exact hs' q; rw [hr] at q; cases q), e3]
  exact e2
theorem w_x {y na rc n E : Nat} {hd : HD} {as : List AV} {h' : AH} {t' : KT} (hk : k pc = some (.inr (.inr (y, na, rc, hd)))) (hs : Nat.blt 8 (am_w (st.drop na)) = false) (hr : am_rcv rc st[na - 1]? h = true) (ha : (st.take na).reverse = as) (hc : Ca n y as h t (.inr E, h', t')) (hn : n ≤ d) (he : hd E = some none) (q : Q (.inr E, h', t')) : Wp k d (pc, ls, st, h, t) Q := by
  obtain ⟨F1, e1⟩ := hc
  subst ha
  refine ⟨F1 + 1, _, ?_, q⟩
  have e3 := am_call_mono (M := am_M) (Nat.le_succ F1) n d hn _ _ _ _ _ e1
  show am_run k (am_call am_M (F1 + 1) d) (F1 + 1) (pc, ls, st, h, t) = some _
  unfold am_run
  dsimp only
  rw [hk]
  dsimp only
  have hs' : ¬ 8 < am_w (st.drop na) := fun q => by
    have : Nat.blt 8 (am_w (st.drop na)) = true := Nat.ble_eq.mpr q
    rw [this] at hs
    cases hs
  rw [if_neg (by rintro (q | q); exact hs' q; rw [hr] at q; cases q), e3]
  dsimp only
  rw [he]
theorem w_h {y na rc n E p i : Nat} {hd : HD} {as : List AV} {h' : AH} {t' : KT} {c' : CF} (hk : k pc = some (.inr (.inr (y, na, rc, hd)))) (hs : Nat.blt 8 (am_w (st.drop na)) = false) (hr : am_rcv rc st[na - 1]? h = true) (ha : (st.take na).reverse = as) (hc : Ca n y as h t (.inr E, h', t')) (hn : n ≤ d) (he : hd E = some (some (p, i))) (hi : Nat.blt i ls.length = true) (hc' : (p, am_clr ls i, [], h', t') = c') (w : Wp k d c' Q) : Wp k d (pc, ls, st, h, t) Q := by
  obtain ⟨F, r, e, q⟩ := w
  obtain ⟨F1, e1⟩ := hc
  subst ha
  subst hc'
  have hm : ∀ x y : Nat, x ≤ x + y + 1 := fun x y => by omega
  have hm2 : ∀ x y : Nat, y ≤ x + y + 1 := fun x y => by omega
  refine ⟨F + F1 + 1, r, ?_, q⟩
  have e2 := am_run_mono (am_call_mono (M := am_M) (hm F F1) d d (Nat.le_refl _)) F (F + F1) _ _ (Nat.le_add_right _ _) e
  have e3 := am_call_mono (M := am_M) (hm2 F F1) n d hn _ _ _ _ _ e1
  show am_run k (am_call am_M (F + F1 + 1) d) (F + F1 + 1) (pc, ls, st, h, t) = some r
  unfold am_run
  dsimp only
  rw [hk]
  dsimp only
  have hs' : ¬ 8 < am_w (st.drop na) := fun q => by
    have : Nat.blt 8 (am_w (st.drop na)) = true := Nat.ble_eq.mpr q
    rw [this] at hs
    cases hs
  rw [if_neg (by rintro (q | q); exact hs' q; rw [hr] at q; cases q), e3]
  dsimp only
  rw [he]
  dsimp only
  rw [if_pos (show i < ls.length from Nat.ble_eq.mp hi)]
  exact e2
/-- a method is entered -/
theorem ca_W {y na nL : Nat} {code : Nat → Option OP} {as : List AV} {P : RS → Prop} (hM : am_M y = some (na, nL, code)) (h1 : Nat.beq as.length na = true) (h2 : Nat.ble (am_flat as).length nL = true) (hl : am_ent nL as = ls) (w : Wp code d (0, ls, [], h, t) P) : ∃ r, Ca (d + 1) y as h t r ∧ P r := by
  obtain ⟨F, r, e, p⟩ := w
  subst hl
  refine ⟨r, ⟨F, ?_⟩, p⟩
  unfold am_call
  rw [hM]
  dsimp only
  rw [if_pos ⟨Nat.eq_of_beq_eq_true h1, Nat.ble_eq.mp h2⟩]
  exact e
theorem ca_of {y : Nat} {as : List AV} {r : RS} (w : ∃ r', Ca d y as h t r' ∧ r' = r) : Ca d y as h t r := by
  obtain ⟨r', c, rfl⟩ := w
  exact c
end RUL
-- whole numbers
def iZ (z : Int) : Int32 := Int32.ofInt z
def jZ (z : Int) : Int64 := Int64.ofInt z
theorem iZ_toInt (x : Int32) : iZ x.toInt = x := Int32.ofInt_toInt x
theorem jZ_toInt (x : Int64) : jZ x.toInt = x := Int64.ofInt_toInt x
theorem iZ_get {z : Int} (h : -2147483648 ≤ z ∧ z < 2147483648) : (iZ z).toInt = z := Int32.toInt_ofInt_of_le (by omega) (by omega)
theorem jZ_get {z : Int} (h : -9223372036854775808 ≤ z ∧ z < 9223372036854775808) : (jZ z).toInt = z := Int64.toInt_ofInt_of_le (by omega) (by omega)
theorem iZ_add (a b : Int) : iZ a + iZ b = iZ (a + b) := (Int32.ofInt_add a b).symm
theorem iZ_sub (a b : Int) : iZ a - iZ b = iZ (a - b) := (Int32.ofInt_sub a b).symm
theorem iZ_mul (a b : Int) : iZ a * iZ b = iZ (a * b) := (Int32.ofInt_mul a b).symm
theorem iZ_neg (a : Int) : -iZ a = iZ (-a) := (Int32.ofInt_neg a).symm
theorem jZ_add (a b : Int) : jZ a + jZ b = jZ (a + b) := (Int64.ofInt_add a b).symm
theorem jZ_sub (a b : Int) : jZ a - jZ b = jZ (a - b) := (Int64.ofInt_sub a b).symm
