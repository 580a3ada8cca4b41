/-! REPORTS, and the rest of the calls but scripts -/
set_option maxRecDepth 4000
theorem wq {k : Nat → Option OP} {d : Nat} {c : CF} {Q : RS → Prop} (h : ∀ Q' : RS → Prop, (∀ r, Q r → Q' r) → Wp k d c Q') : Wp k d c Q := h Q (fun _ q => q)
/-- a digit stands at 10^k -/
abbrev Pd (v k : Nat) : Prop := k = 0 ∨ 10 ^ k ≤ v
/-- digits of v from the highest unit on: as many as there are, one at least -/
def eD (v : Nat) : Nat → List Int
  | 0 => []
  | i + 1 => eD v i ++ (if Pd v (8 - i) then [48 + ((v / 10 ^ (8 - i) % 10 : Nat) : Int)] else [])
/-- numbers with commas -/
def nuR (f : Nat → Int) (s : Nat) : Nat → List Int
  | 0 => []
  | j + 1 => nuR f s j ++ ((if 0 < j then [44] else []) ++ eD (f (s + j)).toNat 9)
def wdR (ch : Nat → Nat) (f : Nat → Int) (n : Nat) : Nat → List Int
  | 0 => []
  | k + 1 => wdR ch f n k ++ ([48 + ((ch (stU ch k)) : Int), 40] ++ (nuR f (stU ch k) (hB ch n k) ++ [41]))
def nmR (l : List Nat) : Nat → List Int
  | 0 => []
  | i + 1 => nmR l i ++ [96 + (l.getD i 0 : Int)]
def repR (A : RA) (r : Nat) : List Int := nmR (rNm A r) (rNm A r).length ++ [58] ++ wdR (chA A r) (rNu A r) (rLn A r) ((nW (chA A r) (rLn A r))) ++ [10]
theorem eD_len (v : Nat) : ∀ i, (eD v i).length ≤ i
  | 0 => Nat.le_refl _
  | i + 1 => by
    have := eD_len v i
    rw [eD, List.length_append]
    split <;> simp <;> omega
theorem nuR_len (f : Nat → Int) (s : Nat) : ∀ j, (nuR f s j).length + 1 ≤ 10 * j + 1 ∧ (1 ≤ j → (nuR f s j).length + 1 ≤ 10 * j)
  | 0 => by simp [nuR]
  | j + 1 => by
    have h1 := nuR_len f s j
    have h2 := eD_len (f (s + j)).toNat 9
    rw [nuR, List.length_append, List.length_append]
    by_cases e : 0 < j
    · rw [if_pos e]
      simp only [List.length_cons, List.length_nil]
      omega
    · rw [if_neg e]
      simp only [List.length_nil]
      have : j = 0 := by omega
      subst this
      simp only [nuR, List.length_nil]
      omega
theorem sT_suc {ch : Nat → Nat} {n k : Nat} : sT ch n (k + 1) = sT ch n k + hB ch n k := by
  have := stU_mono ch k 1
  unfold hB sT
  omega
theorem wdR_len {ch : Nat → Nat} {f : Nat → Int} {n : Nat} : ∀ k, k ≤ nW ch n → (wdR ch f n k).length ≤ 12 * sT ch n k
  | 0, _ => by simp [wdR]
  | k + 1, h => by
    have h1 := wdR_len (ch := ch) (f := f) (n := n) k (by omega)
    have h2 := (nuR_len f (stU ch k) (hB ch n k)).2 (hB_bd (by omega)).1
    have h3 := hB_bd (ch := ch) (n := n) (k := k) (by omega)
    rw [wdR, List.length_append, List.length_append, List.length_append, sT_suc]
    simp only [List.length_cons, List.length_nil]
    omega
theorem nmR_len (l : List Nat) : ∀ i, (nmR l i).length = i
  | 0 => rfl
  | i + 1 => by rw [nmR, List.length_append, nmR_len l i]; rfl
def inRp (L : Lc) : Prop := L.1 = 25 ∨ L.1 = 26
theorem s_X6_addByte {t : KT} {σ : SG} {l : List Int} {x : Int} (h : RP l σ) (hx : 0 ≤ x ∧ x < 128) (hl : l.length < 730) : ∃ σ', Ca 1 36 [aR (some (25, 0, 0)), aI (iZ x)] (am_hp σ) t (.inl none, am_hp σ', t) ∧ RP (l ++ [x]) σ' ∧ Fr inRp σ σ' := by
  obtain ⟨h1, h2, h3⟩ := h
  refine ex_of (e_X6_addByte ?_)
  refine b_X6_addByte_0 (by omega) (fun q => by omega) (fun _ => ?_)
  refine b_X6_addByte_10 (by omega) (b_X6_addByte_31 ⟨_, rfl, ⟨by simp; omega, ?_, fun j hj => ?_⟩, (Fr.sI (P := inRp) (Or.inr rfl)).trans (Fr.sI (P := inRp) (Or.inl rfl))⟩)
  · simp [sI_1, up_at, h2]
  · have hj : j < l.length + 1 := by simpa using hj
    have eh : ∀ σ2 : SG, ∀ f : Nat → Int, (sI σ2 (25, 0, 0) f).1 (26, 0, 0) = σ2.1 (26, 0, 0) := fun σ2 f => by rw [sI_1, if_neg (by decide)]
    rw [eh, sI_1, if_pos rfl, up_at, h2, Int.toNat_natCast]
    by_cases e : j = l.length
    · subst e
      have es : sg (x % 256) = x := by
        unfold sg
        split <;> omega
      rw [if_pos rfl, zb_eq (by omega), es]
      simp
    · rw [if_neg e, h3 j (by omega), List.getD_eq_getElem?_getD, List.getD_eq_getElem?_getD, List.getElem?_append_left (by omega)]
theorem CS.rp {S : SS} {σ σ' : SG} {l : List Int} (h : CS S σ) (f : Fr inRp σ σ') (g : RP l σ') : CS (S.1, S.2.1, S.2.2.1, S.2.2.2.1, S.2.2.2.2.1, S.2.2.2.2.2.1, S.2.2.2.2.2.2.1, l) σ' := by
  obtain ⟨h1, h2, h3, h4, h5, h6, h7, h8⟩ := h
  have n : ∀ L : Lc, ¬ (L.1 = 25 ∨ L.1 = 26) → ¬ inRp L := fun L h q => h q
  refine ⟨h1.fr f (fun L hL => n L ?_), h2.fr f (n _ (by omega)) (fun L hL => n L ?_), h3.fr2 f (fun L hL => n L (by omega)), fun j hj => ?_, ?_, ⟨h6.1.fr f (n _ (by omega)) (n _ (by omega)), ?_, ?_⟩, g, fun k hk => (h8 k hk).fr f (n _ (by omega))⟩
  · unfold inR at hL; omega
  · unfold inR at hL; omega
  · rw [(f.1 (27, 0, 0) (n _ (by omega))).1]; exact h4 j hj
  · rw [(f.1 (1, 0, 0) (n _ (by omega))).1]; exact h5
  · rw [(f.1 (2, 0, 0) (n _ (by omega))).1]; exact h6.2.1
  · rw [(f.1 (2, 0, 0) (n _ (by omega))).1]; exact h6.2.2
def unt (i : Nat) : Nat := if i < 9 then 10 ^ (8 - i) else 0
theorem unt_ok : ∀ i : Nat, i < 9 → unt i / 10 = unt (i + 1) ∧ 1 ≤ unt i ∧ unt i ≤ 100000000 ∧ unt i = 10 ^ (8 - i) ∧ (unt i = 1 ↔ 8 - i = 0) ∧ (1 ≤ i → unt i ≤ 10 ^ (9 - i)) := by decide
theorem Pd_mono {v k : Nat} (h : Pd v (k + 1)) : Pd v k := by
  rcases h with h | h
  · omega
  · right
    rw [Nat.pow_succ] at h
    have : 10 ^ k * 1 ≤ 10 ^ k * 10 := Nat.mul_le_mul_left _ (by decide)
    omega
theorem s_X6_addNumber {t : KT} {σ : SG} {l : List Int} {v : Nat} (h : RP l σ) (hv : v < 268435456) (hl : l.length + 9 ≤ 730) : ∃ σ', Ca 2 39 [aR (some (25, 0, 0)), aI (iZ ((v : Int)))] (am_hp σ) t (.inl none, am_hp σ', t) ∧ RP (l ++ eD v 9) σ' ∧ Fr inRp σ σ' := by
  refine ex_of (e_X6_addNumber ?_)
  refine wq (fun Q hQ => ?_)
  refine b_X6_addNumber_0 ?_
  refine w_loopS 9 (fun i c => ∃ σ1, c = (5, [some (aR (some (25, 0, 0))), some (aI (iZ ((v : Int)))), some (aI (iZ (bz (1 ≤ i ∧ Pd v (9 - i))))), some (aI (iZ ((unt i : Int))))], [], am_hp σ1, t) ∧ RP (l ++ eD v i) σ1 ∧ Fr inRp σ σ1) ⟨σ, ?_, by simpa [eD] using h, Fr.refl _ _⟩ (fun i c hi hI go => ?_) (fun c hI => ?_)
  · rw [bz_f (by omega)]
    rfl
  · obtain ⟨σ1, rfl, g1, f1⟩ := hI
    have hu := unt_ok i hi
    have hle := eD_len v i
    have ed : zdiv (unt i : Int) 10 = (unt (i + 1) : Int) := by
      have := zdiv_n (a := unt i) (b := 10) (by omega) (by omega)
      rw [hu.1] at this
      exact this
    have eD1 : eD v (i + 1) = eD v i ++ (if Pd v (8 - i) then [48 + ((v / 10 ^ (8 - i) % 10 : Nat) : Int)] else []) := rfl
    have e9 : 9 - (i + 1) = 8 - i := by omega
    have h46 : ∀ σ2, RP (l ++ eD v (i + 1)) σ2 → Fr inRp σ σ2 → Wp k_X6_addNumber 1 (46, [some (aR (some (25, 0, 0))), some (aI (iZ ((v : Int)))), some (aI (iZ (bz (Pd v (8 - i))))), some (aI (iZ ((unt i : Int))))], [], am_hp σ2, t) Q := by
      intro σ2 g2 f2
      refine b_X6_addNumber_46 (go _ ⟨σ2, ?_, g2, f2⟩)
      rw [ed, e9]
      by_cases hp : Pd v (8 - i)
      · rw [bz_t hp, bz_t ⟨by omega, hp⟩]
      · rw [bz_f hp, bz_f (fun q => hp q.2)]
    have h28 : ∀ x2 x : Int, x = bz (Pd v (8 - i)) → Wp k_X6_addNumber 1 (28, [some (aR (some (25, 0, 0))), some (aI (iZ ((v : Int)))), some (aI (iZ x2)), some (aI (iZ ((unt i : Int))))], [aI (iZ x)], am_hp σ1, t) Q := by
      intro x2 x hx
      subst hx
      refine b_X6_addNumber_28 bz_rg (fun q => ?_) (fun q => ?_)
      · have hp := bz_0.mp q
        refine h46 σ1 ?_ f1
        rw [eD1, if_neg hp, List.append_nil]
        exact g1
      · have hp := bz_n.mp q
        have hdv : v / unt i % 10 < 10 := Nat.mod_lt _ (by decide)
        have e1 : zrem (zdiv (v : Int) (unt i : Int)) 10 = ((v / unt i % 10 : Nat) : Int) := by
          rw [zdiv_n (by omega) (by omega)]
          exact zrem_n (a := v / unt i) (b := 10) (Nat.lt_of_le_of_lt (Nat.div_le_self _ _) (by omega)) (by omega)
        obtain ⟨σ2, c2, g2, f2⟩ := s_X6_addByte (t := t) (x := 48 + ((v / unt i % 10 : Nat) : Int)) g1 (by omega) (by rw [List.length_append]; omega)
        rw [← e1] at c2
        refine b_X6_addNumber_33 (by omega) (c2.up (by omega)) (h46 σ2 ?_ (f1.trans f2))
        rw [eD1, if_pos hp, ← List.append_assoc, ← hu.2.2.2.1]
        exact g2
    refine b_X6_addNumber_5 (by omega) (fun q => by omega) (fun _ => ?_)
    refine b_X6_addNumber_9 bz_rg (fun q => ?_) (fun q => ?_)
    · have hp := (bz_n.mp q)
      refine b_X6_addNumber_23 (h28 _ 1 ?_)
      rw [bz_t (Pd_mono (by rw [show 8 - i + 1 = 9 - i by omega]; exact hp.2))]
    · refine b_X6_addNumber_13 (by omega) (fun q1 => ?_) (fun q1 => ?_)
      · refine b_X6_addNumber_23 (h28 _ 1 ?_)
        rw [bz_t (Or.inl (hu.2.2.2.2.1.mp (by omega)))]
      · have h80 : 8 - i ≠ 0 := fun z => by have := hu.2.2.2.2.1.mpr z; omega
        refine b_X6_addNumber_18 (by omega) (by omega) (fun q2 => ?_) (fun q2 => ?_)
        · refine b_X6_addNumber_27 (h28 _ 0 ?_)
          rw [bz_f (fun z => z.elim h80 (fun z => by rw [← hu.2.2.2.1] at z; omega))]
        · refine b_X6_addNumber_23 (h28 _ 1 ?_)
          rw [bz_t (Or.inr (by rw [← hu.2.2.2.1]; omega))]
  · obtain ⟨σ1, rfl, g1, f1⟩ := hI
    exact b_X6_addNumber_5 (by decide) (fun _ => b_X6_addNumber_54 (hQ _ ⟨σ1, rfl, g1, f1⟩)) (fun q => absurd q (by decide))
theorem PX.rp {ch : Nat → Nat} {f : Nat → Int} {n p : Nat} {σ σ' : SG} (h : PX ch f n p σ) (k : Fr inRp σ σ') : PX ch f n p σ' := h.fr k (fun L h1 h2 => by unfold inW at h1; unfold inRp at h2; omega)
theorem s_X6_addWord {t : KT} {σ : SG} {l : List Int} {ch : Nat → Nat} {f : Nat → Int} {n p k : Nat} (h : RP l σ) (hX : PX ch f n p σ) (hk : k < nW ch n) (hl : l.length + 12 * hB ch n k ≤ 730) : ∃ σ', Ca 3 38 [aR (some (25, 0, 0)), aR (some (28, p, 0)), aI (iZ ((k : Int)))] (am_hp σ) t (.inl none, am_hp σ', t) ∧ RP (l ++ ([48 + ((ch (stU ch k)) : Int), 40] ++ (nuR f (stU ch k) (hB ch n k) ++ [41]))) σ' ∧ Fr inRp σ σ' := by
  have hb := hB_bd hk
  have hw9 := hX.way hk
  have hlen := nuR_len f (stU ch k)
  refine ex_of (e_X6_addWord ?_)
  refine wq (fun Q hQ => ?_)
  obtain ⟨σ1, c1, g1, f1⟩ := s_X6_addByte (t := t) (x := 48 + ((ch (stU ch k)) : Int)) h (by omega) (by omega)
  obtain ⟨σ2, c2, g2, f2⟩ := s_X6_addByte (t := t) (x := 40) g1 (by omega) (by rw [List.length_append]; simp; omega)
  refine b_X6_addWord_0 ((s_X4_wayOf hX hk).up (by omega)) (c1.up (by omega)) (c2.up (by omega)) ?_
  refine w_loopS (hB ch n k) (fun j c => ∃ σ3, c = (20, [some (aR (some (25, 0, 0))), some (aR (some (28, p, 0))), some (aI (iZ ((k : Int)))), some (aI (iZ ((j : Int))))], [], am_hp σ3, t) ∧ RP (l ++ [48 + ((ch (stU ch k)) : Int)] ++ [40] ++ nuR f (stU ch k) j) σ3 ∧ Fr inRp σ σ3) ⟨σ2, rfl, by simpa [nuR] using g2, f1.trans f2⟩ (fun j c hj hI go => ?_) (fun c hI => ?_)
  · obtain ⟨σ3, rfl, g3, f3⟩ := hI
    have hX3 := hX.rp f3
    have hv := hX.v hk hj
    have hlj := hlen j
    have hk60 := hX.k hk
    have h60 := hX.2.1
    have e5 : nuR f (stU ch k) (j + 1) = nuR f (stU ch k) j ++ ((if 0 < j then [44] else []) ++ eD (f (stU ch k + j)).toNat 9) := rfl
    have h39 : ∀ σ4, RP (l ++ [48 + ((ch (stU ch k)) : Int)] ++ [40] ++ (nuR f (stU ch k) j ++ (if 0 < j then [44] else []))) σ4 → Fr inRp σ σ4 → Wp k_X6_addWord 2 (39, [some (aR (some (25, 0, 0))), some (aR (some (28, p, 0))), some (aI (iZ ((k : Int)))), some (aI (iZ ((j : Int))))], [], am_hp σ4, t) Q := by
      intro σ4 g4 f4
      obtain ⟨v, hvv⟩ := Int.eq_ofNat_of_zero_le hv.1
      obtain ⟨σ5, c5, g5, f5⟩ := s_X6_addNumber (t := t) (v := v) g4 (by omega) (by
        simp only [List.length_append, List.length_cons, List.length_nil]
        by_cases e : 0 < j
        · rw [if_pos e]; simp only [List.length_cons, List.length_nil]; omega
        · rw [if_neg e]; simp only [List.length_nil]; omega)
      rw [← hvv] at c5
      refine b_X6_addWord_39 ((s_X4_numberIn (hX.rp f4) hk hj).up (by omega)) (c5.up (by omega)) (go _ ⟨σ5, rfl, ?_, f4.trans f5⟩)
      rw [e5, hvv, Int.toNat_natCast]
      simpa [List.append_assoc] using g5
    refine b_X6_addWord_20 ((s_X4_heldBy hX3 hk).up (by omega)) (by omega) (by omega) (fun q => by omega) (fun _ => ?_)
    refine b_X6_addWord_29 (by omega) (fun q => ?_) (fun q => ?_)
    · refine h39 σ3 ?_ f3
      rw [if_neg (by omega), List.append_nil]
      exact g3
    · obtain ⟨σ4, c4, g4, f4⟩ := s_X6_addByte (t := t) (x := 44) g3 (by omega) (by
        simp only [List.length_append, List.length_cons, List.length_nil]
        omega)
      refine b_X6_addWord_33 (c4.up (by omega)) (h39 σ4 ?_ (f3.trans f4))
      rw [if_pos (by omega), ← List.append_assoc]
      exact g4
  · obtain ⟨σ3, rfl, g3, f3⟩ := hI
    have hlj := hlen (hB ch n k)
    have h60 := hX.2.1
    obtain ⟨σ4, c4, g4, f4⟩ := s_X6_addByte (t := t) (x := 41) g3 (by omega) (by
      simp only [List.length_append, List.length_cons, List.length_nil]
      omega)
    refine b_X6_addWord_20 ((s_X4_heldBy (hX.rp f3) hk).up (by omega)) (by omega) (by omega) (fun _ => ?_) (fun q => by omega)
    refine b_X6_addWord_55 (c4.up (by omega)) (hQ _ ⟨σ4, rfl, ?_, f3.trans f4⟩)
    simpa [List.append_assoc] using g4
theorem s_X6_addName {t : KT} {σ : SG} {l : List Int} {nm : List Nat} (h : RP l σ) (hn : okNm nm) (hl : l.length + 8 ≤ 730) : ∃ σ', Ca 2 37 [aR (some (25, 0, 0)), aL (jZ (cNm nm))] (am_hp σ) t (.inl none, am_hp σ', t) ∧ RP (l ++ nmR nm nm.length) σ' ∧ Fr inRp σ σ' := by
  refine ex_of (e_X6_addName ?_)
  refine wq (fun Q hQ => ?_)
  refine b_X6_addName_0 ?_
  have h8 := hn.2.1
  refine w_loopS nm.length (fun i c => ∃ σ1, c = (2, [some (aR (some (25, 0, 0))), some (aL (jZ (cNm nm))), none, some (aI (iZ ((i : Int))))], [], am_hp σ1, t) ∧ RP (l ++ nmR nm i) σ1 ∧ Fr inRp σ σ1) ⟨σ, rfl, by simpa [nmR] using h, Fr.refl _ _⟩ (fun i c hi hI go => ?_) (fun c hI => ?_)
  · obtain ⟨σ1, rfl, g1, f1⟩ := hI
    have hx : 1 ≤ nm.getD i 0 ∧ nm.getD i 0 ≤ 26 := by
      rw [List.getD_eq_getElem?_getD, List.getElem?_eq_getElem hi]
      exact hn.2.2 _ (List.getElem_mem hi)
    have hlt : ltA nm (i : Int) = (nm.getD i 0 : Int) := by
      unfold ltA
      rw [if_pos (by omega), Int.toNat_natCast]
    have cl := s_X11_letterOf (t := t) (σ := σ1) (l := nm) (i := (i : Int)) hn.2.2 h8 (by omega)
    rw [hlt] at cl
    obtain ⟨σ2, c2, g2, f2⟩ := s_X6_addByte (t := t) (x := 96 + (nm.getD i 0 : Int)) g1 (by omega) (by rw [List.length_append, nmR_len]; omega)
    refine b_X6_addName_2 (by omega) (fun q => by omega) (fun _ => ?_)
    refine b_X6_addName_8 (cl.up (by omega)) (by omega) (fun q => by omega) (fun _ => ?_)
    refine b_X6_addName_16 (cl.up (by omega)) (c2.up (by omega)) (go _ ⟨σ2, rfl, ?_, f1.trans f2⟩)
    rw [nmR, ← List.append_assoc]
    exact g2
  · obtain ⟨σ1, rfl, g1, f1⟩ := hI
    have hfin : Wp k_X6_addName 1 (34, [some (aR (some (25, 0, 0))), some (aL (jZ (cNm nm))), none, some (aI (iZ ((nm.length : Int))))], [], am_hp σ1, t) Q := b_X6_addName_34 (hQ _ ⟨σ1, rfl, g1, f1⟩)
    have hlt : ltA nm (nm.length : Int) = 0 := by
      unfold ltA
      rw [if_neg (by omega)]
    have cl := s_X11_letterOf (t := t) (σ := σ1) (l := nm) (i := (nm.length : Int)) hn.2.2 h8 (by omega)
    rw [hlt] at cl
    refine b_X6_addName_2 (by omega) (fun _ => hfin) (fun _ => ?_)
    exact b_X6_addName_8 (cl.up (by omega)) (by omega) (fun _ => hfin) (fun q => absurd rfl q)
def repS (S : SS) (l : List Int) : SS := (S.1, S.2.1, S.2.2.1, S.2.2.2.1, S.2.2.2.2.1, S.2.2.2.2.2.1, S.2.2.2.2.2.2.1, l)
def A_report (S : SS) (r : Int) : RZ × SS := if isR (xA S) r then (.inl ((repR (xA S) r.toNat).length : Nat), repS S (repR (xA S) r.toNat)) else (.inr 1, S)
theorem CW.rp {A : RA} {σ σ' : SG} (h : CW A σ) (k : Fr inRp σ σ') : CW A σ' := h.fr k (fun L hL hP => by
  unfold inRp at hP
  rcases hL with hL | hL
  · unfold inR at hL; omega
  · omega)
theorem s_X11_report {t : KT} {σ : SG} {S : SS} {r : Int} (h : CS S σ) (hr : -2147483648 ≤ r ∧ r < 2147483648) : ∃ σ', Ca 4 134 [aR (some (1, 0, 0)), aI (iZ r)] (am_hp σ) t (reI 2 2 σ' t ((A_report S r).1)) ∧ CS (A_report S r).2 σ' ∧ Fr inRp σ σ' := by
  refine rx_of (R := fun σ' => reI 2 2 σ' t (A_report S r).1) (e_X11_report ?_)
  unfold A_report
  by_cases hc : isR (xA S) r
  · rw [if_pos hc]
    refine wq (fun Q hQ => ?_)
    have hl := h.1.len hc
    have hX := h.1.px hc
    have hn := h.1.nw hc
    have ho := (h.1.1.2.2.2.2 r.toNat hl.2.2.1).1
    have e9 := (h.1.2.1.2.2.2.2 r.toNat hl.2.2.1).1
    have f0 : Fr inRp σ (sI σ (25, 0, 0) (up (σ.1 (25, 0, 0)) 1 0)) := Fr.sI (P := inRp) (Or.inl rfl)
    have r0 : RP [] (sI σ (25, 0, 0) (up (σ.1 (25, 0, 0)) 1 0)) := ⟨by simp, by simp [sI_1, up_at], fun j hj => by simp at hj⟩
    obtain ⟨σ1, c1, g1, f1⟩ := s_X6_addName (t := t) r0 ho (by simp)
    rw [List.nil_append] at g1
    have hnl := nmR_len (rNm (xA S) r.toNat) (rNm (xA S) r.toNat).length
    have ho8 := ho.2.1
    obtain ⟨σ2, c2, g2, f2⟩ := s_X6_addByte (t := t) (x := 58) g1 (by omega) (by omega)
    refine b_X11_report_0 (σ1 := σ) (σ2 := σ1) (σ3 := σ2) ((s_X11_checkRow h.1 hc).up (by omega)) (by omega) (by
      have e9' : (sI σ (25, 0, 0) (up (σ.1 (25, 0, 0)) 1 0)).2.1 (9, 0, 0) r.toNat = cNm (rNm (xA S) r.toNat) := e9
      rw [e9']
      exact c1.up (by omega)) (c2.up (by omega)) ?_
    have fA := (f0.trans f1).trans f2
    refine w_loopS ((nW (chA (xA S) r.toNat) (rLn (xA S) r.toNat))) (fun k c => ∃ σ3, c = (40, [some (aR (some (1, 0, 0))), some (aI (iZ r)), some (aI (iZ ((k : Int))))], [], am_hp σ3, t) ∧ RP (nmR (rNm (xA S) r.toNat) (rNm (xA S) r.toNat).length ++ [58] ++ wdR (chA (xA S) r.toNat) (rNu (xA S) r.toNat) (rLn (xA S) r.toNat) k) σ3 ∧ Fr inRp σ σ3) ⟨σ2, rfl, by simpa [wdR] using g2, fA⟩ (fun k c hk hI go => ?_) (fun c hI => ?_)
    · obtain ⟨σ3, rfl, g3, f3⟩ := hI
      have hW3 := h.1.rp f3
      have hn3 := hW3.nw hc
      have hw := wdR_len (ch := chA (xA S) r.toNat) (f := rNu (xA S) r.toNat) (n := rLn (xA S) r.toNat) k (by omega)
      have hs := sT_suc (ch := chA (xA S) r.toNat) (n := rLn (xA S) r.toNat) (k := k)
      have hsn : sT (chA (xA S) r.toNat) (rLn (xA S) r.toNat) (k + 1) ≤ rLn (xA S) r.toNat := by unfold sT; omega
      obtain ⟨σ4, c4, g4, f4⟩ := s_X6_addWord (t := t) (k := k) g3 (hW3.px hc) hk (by
        simp only [List.length_append, List.length_cons, List.length_nil]
        omega)
      refine b_X11_report_40 (by omega) (by omega) (by omega) (fun q => by omega) (fun _ => ?_)
      refine b_X11_report_53 (by omega) (c4.up (by omega)) (go _ ⟨σ4, rfl, ?_, f3.trans f4⟩)
      rw [wdR, ← List.append_assoc]
      exact g4
    · obtain ⟨σ3, rfl, g3, f3⟩ := hI
      have hW3 := h.1.rp f3
      have hn3 := hW3.nw hc
      have hw := wdR_len (ch := chA (xA S) r.toNat) (f := rNu (xA S) r.toNat) (n := rLn (xA S) r.toNat) ((nW (chA (xA S) r.toNat) (rLn (xA S) r.toNat))) (Nat.le_refl _)
      have hs : sT (chA (xA S) r.toNat) (rLn (xA S) r.toNat) ((nW (chA (xA S) r.toNat) (rLn (xA S) r.toNat))) ≤ rLn (xA S) r.toNat := by unfold sT; omega
      obtain ⟨σ4, c4, g4, f4⟩ := s_X6_addByte (t := t) (x := 10) g3 (by omega) (by
        simp only [List.length_append, List.length_cons, List.length_nil]
        omega)
      refine b_X11_report_40 (by omega) (by omega) (by omega) (fun _ => ?_) (fun q => by omega)
      refine b_X11_report_73 (c4.up (by omega)) (hQ _ ⟨σ4, ?_, h.rp (f3.trans f4) g4, f3.trans f4⟩)
      have e25 := g4.2.1
      rw [e25]
      rfl
  · rw [if_neg hc]
    exact bx_X11_report_0_1 (σ2 := σ) (σ3 := σ) ((t_X11_checkRow h.1 hr hc).up (by omega)) ⟨σ, rfl, h, Fr.refl _ _⟩
def A_reportByte (S : SS) (i : Int) : RZ := if 0 ≤ i ∧ i < (xR S).length then .inl ((xR S).getD i.toNat 0) else .inr 1
theorem s_X11_reportByte {t : KT} {σ : SG} {S : SS} {i : Int} (h : CS S σ) (hi : -2147483648 ≤ i ∧ i < 2147483648) : Ca 1 135 [aR (some (1, 0, 0)), aI (iZ i)] (am_hp σ) t (reI 2 2 σ t (A_reportByte S i)) := by
  obtain ⟨h1, h2, h3⟩ := h.2.2.2.2.2.2.1
  refine ca_of (e_X11_reportByte ?_)
  unfold A_reportByte
  refine b_X11_reportByte_0 hi (fun q => ?_) (fun q => ?_)
  · rw [if_neg (by omega)]
    exact b_X11_reportByte_15 rfl
  · refine b_X11_reportByte_4 hi (by omega) (fun q2 => ?_) (fun q2 => ?_)
    · rw [if_pos (by omega)]
      refine b_X11_reportByte_23 (by omega) ?_
      rw [h3 i.toNat (by omega)]
      rfl
    · rw [if_neg (by omega)]
      exact b_X11_reportByte_15 rfl
def A_account (S : SS) (i : Int) : RZ := if 0 ≤ i ∧ i ≤ 3 then .inl (xC S i.toNat) else .inr 1
theorem s_X11_account {t : KT} {σ : SG} {S : SS} {i : Int} (h : CS S σ) (hi : -2147483648 ≤ i ∧ i < 2147483648) : Ca 2 132 [aR (some (1, 0, 0)), aI (iZ i)] (am_hp σ) t (reI 1 1 σ t (A_account S i)) := by
  refine ca_of (e_X11_account ?_)
  unfold A_account
  by_cases hc : 0 ≤ i ∧ i ≤ 3
  · rw [if_pos hc]
    refine b_X11_account_0 ((s_X11_checkArgument hi (by omega) (by omega) hc).up (by omega)) (by omega) ?_
    rw [h.2.2.2.1 i.toNat (by omega)]
    rfl
  · rw [if_neg hc]
    exact bx_X11_account_0_1 ((t_X11_checkArgument hi (by omega) (by omega) hc).up (by omega)) rfl
theorem s_X11_refusal {t : KT} {σ : SG} {S : SS} (h : CS S σ) : Ca 1 131 [aR (some (1, 0, 0))] (am_hp σ) t (.inl (some (aI (iZ (xL S)))), am_hp σ, t) := by
  refine ca_of (e_X11_refusal ?_)
  refine b_X11_refusal_0 ?_
  rw [h.2.2.2.2.1]
theorem s_X11_errorCode {t : KT} {σ : SG} {S : SS} (h : CS S σ) : Ca 1 93 [aR (some (1, 0, 0))] (am_hp σ) t (.inl (some (aI (iZ ((xE S).1)))), am_hp σ, t) := by
  refine ca_of (e_X11_errorCode ?_)
  refine b_X11_errorCode_0 ?_
  rw [h.2.2.2.2.2.1.2.1]
theorem s_X11_errorPosition {t : KT} {σ : SG} {S : SS} (h : CS S σ) : Ca 1 94 [aR (some (1, 0, 0))] (am_hp σ) t (.inl (some (aI (iZ ((xE S).2)))), am_hp σ, t) := by
  refine ca_of (e_X11_errorPosition ?_)
  refine b_X11_errorPosition_0 ?_
  rw [h.2.2.2.2.2.1.2.2]
abbrev lensA (A : RA) : Int := smU (fun r => (rLn A r : Int)) (rN A)
def A_save (S : SS) : Int × SS := (lensA (xA S), (S.1, some (xA S), S.2.2))
theorem s_X11_save {t : KT} {σ : SG} {S : SS} (h : CS S σ) : ∃ σ', Ca 2 136 [aR (some (1, 0, 0))] (am_hp σ) t (.inl (some (aI (iZ ((A_save S).1)))), am_hp σ', t) ∧ CS (A_save S).2 σ' ∧ Fr (fun L => L.1 = 1 ∨ inR 2 L) σ σ' := by
  obtain ⟨σ1, c1, g1, f1⟩ := s_X7_copyFrom (d := 0) (t := t) (p := 2) (q := 0) (by omega) h.1.1 h.1.2.1
  have fb : Fr (fun L => L = (1, 0, 0)) σ1 (sI σ1 (1, 0, 0) (up (σ1.1 (1, 0, 0)) 12 1)) := Fr.sI rfl
  have ff : Fr (fun L => L.1 = 1 ∨ inR 2 L) σ (sI σ1 (1, 0, 0) (up (σ1.1 (1, 0, 0)) 12 1)) := (f1.mono (fun L q => Or.inr q)).trans (fb.mono (fun L q => Or.inl (by rw [q])))
  obtain ⟨h1, h2, h3, h4, h5, h6, h7, h8⟩ := h
  have W : CW (xA S) (sI σ1 (1, 0, 0) (up (σ1.1 (1, 0, 0)) 12 1)) := h1.fr ff (fun L hL q => by unfold inR at hL q; omega)
  refine ex_of (e_X11_save ?_)
  refine b_X11_save_0 (c1.up (by omega)) ((s_X7_allNum W.1 W.2.1).up (by omega)) ⟨_, rfl, ⟨W, ⟨by simp [sI_1, up_at], h1.1, g1.fr fb (fun L hL q => by subst q; unfold inR at hL; omega)⟩, h3.fr2 ff (fun L hL q => by unfold inR at q; omega), fun j hj => ?_, ?_, ⟨h6.1.fr ff (by unfold inR; omega) (by unfold inR; omega), ?_, ?_⟩, h7.fr ff (by unfold inR; omega) (by unfold inR; omega), fun k hk => (h8 k hk).fr ff (by unfold inR; omega)⟩, ff⟩
  · rw [(ff.1 (27, 0, 0) (by unfold inR; omega)).1]; exact h4 j hj
  · have e1 := (f1.1 (1, 0, 0) (by unfold inR; omega)).1
    simp [sI_1, up_at, e1, h5]
    rfl
  · rw [(ff.1 (2, 0, 0) (by unfold inR; omega)).1]; exact h6.2.1
  · rw [(ff.1 (2, 0, 0) (by unfold inR; omega)).1]; exact h6.2.2
/-- other rows are laid in, the words made anew -/
theorem newRows {t : KT} {σ : SG} {S : SS} {A : RA} {l : List RA} {cn : Nat → Int} {σ0 : SG} {P : Lc → Prop} (h : CS S σ0) (f : Fr P σ0 σ) (hP : ∀ L, P L → inCa L ∧ L.1 ≠ 1) (hA : Av A) (hR : Rep A σ 0) (hs : HS l σ) (hc : ∀ j, j < 4 → σ.1 (27, 0, 0) j = cn j) : ∃ σ', Ca 5 151 [aR (some (1, 0, 0))] (am_hp σ) t (.inl none, am_hp σ', t) ∧ CS (A, xV S, l, cn, S.2.2.2.2) σ' ∧ Fr inPkw σ σ' := by
  obtain ⟨σ3, c3, g3, f3⟩ := s_X11_packRows (t := t) hA hR
  have m3 : ∀ L, inPkw L → inCa L ∧ L.1 ≠ 1 := fun L q => by unfold inPkw inP at q; unfold inCa; omega
  refine ⟨σ3, c3, h.mk' ((f.mono hP).trans (f3.mono m3)) (fun L q => q) g3 (hs.fr2 f3 (fun L hL q => by unfold inPkw inP at q; omega)) (fun j hj => ?_), f3⟩
  rw [(f3.1 (27, 0, 0) (by unfold inPkw inP; omega)).1]
  exact hc j hj
def A_undo (S : SS) : Int × SS := match xP S with
  | [] => (-1, S)
  | B :: l => ((l.length : Int), (B, xV S, l, fup (xC S) 2 (xC S 2 + 1), S.2.2.2.2))
theorem s_X11_undo {t : KT} {σ : SG} {S : SS} (h : CS S σ) : ∃ σ', Ca 6 133 [aR (some (1, 0, 0))] (am_hp σ) t (.inl (some (aI (iZ ((A_undo S).1)))), am_hp σ', t) ∧ CS (A_undo S).2 σ' ∧ Fr inCa σ σ' := by
  refine ex_of (e_X11_undo ?_)
  unfold A_undo
  have hh := h.2.2.1
  cases hp : xP S with
  | nil =>
    rw [hp] at hh
    exact b_X11_undo_0 ((t_X3_takeBack hh).up (by omega)) (by omega) (fun q => absurd rfl q) (fun _ => b_X11_undo_14 ⟨σ, rfl, h, Fr.refl _ _⟩)
  | cons B l =>
    rw [hp] at hh
    obtain ⟨σ1, c1, g1, A1, R1, f1⟩ := s_X3_takeBack (t := t) hh
    have fb : Fr (fun L => L = (27, 0, 0)) σ1 (sI σ1 (27, 0, 0) (up (σ1.1 (27, 0, 0)) (2 : Int).toNat (σ1.1 (27, 0, 0) 2 + 1))) := Fr.sI rfl
    have n27 : ∀ L : Lc, L.1 ≠ 27 → ¬ L = (27, 0, 0) := fun L h q => h (by rw [q])
    have ff : Fr (fun L => L.1 = 15 ∨ inR 0 L ∨ L.1 = 27) σ (sI σ1 (27, 0, 0) (up (σ1.1 (27, 0, 0)) (2 : Int).toNat (σ1.1 (27, 0, 0) 2 + 1))) := (f1.mono (fun L q => q.elim (fun q => Or.inl (by rw [q])) (fun q => Or.inr (Or.inl q)))).trans (fb.mono (fun L q => Or.inr (Or.inr (by rw [q]))))
    have e27 : σ1.1 (27, 0, 0) = σ.1 (27, 0, 0) := (f1.1 _ (fun q => q.elim (fun q => absurd (congrArg (fun L : Lc => L.1) q) (by decide)) (fun q => by unfold inR at q; omega))).1
    obtain ⟨σ2, c2, g2, f2⟩ := newRows (t := t) (cn := fup (xC S) 2 (xC S 2 + 1)) h ff (fun L q => by unfold inR at q; unfold inCa; omega) A1 (R1.fr fb (fun L hL => n27 L (by unfold inR at hL; omega))) (g1.fr2 fb (fun L hL => n27 L (by omega))) (fun j hj => by
      have b := h.2.2.2.1 j hj
      have b2 := h.2.2.2.1 2 (by omega)
      rw [sI_1, if_pos rfl, e27]
      show up (σ.1 (27, 0, 0)) 2 (σ.1 (27, 0, 0) 2 + 1) j = _
      rw [up_at]
      unfold fup
      by_cases e : j = 2
      · rw [if_pos e, if_pos e, b2]
      · rw [if_neg e, if_neg e, b])
    refine b_X11_undo_0 (c1.up (by omega)) (by omega) (fun _ => ?_) (fun q => absurd q (by decide))
    refine b_X11_undo_16 (c2.up (by omega)) ⟨σ2, ?_, g2, (ff.mono (fun L q => by unfold inR at q; unfold inCa; omega)).trans (f2.mono (fun L q => by unfold inPkw inP at q; unfold inCa; omega))⟩
    obtain ⟨-, nx, -, -, e15, -⟩ := g2.2.2.1
    rw [e15]
def A_restore (S : SS) : RZ × SS := match xV S with
  | none => (.inr 1, S)
  | some B => (.inl (lensA B), (B, xV S, [], S.2.2.2))
theorem s_X11_restore {t : KT} {σ : SG} {S : SS} (h : CS S σ) : ∃ σ', Ca 6 137 [aR (some (1, 0, 0))] (am_hp σ) t (reI 0 0 σ' t ((A_restore S).1)) ∧ CS (A_restore S).2 σ' ∧ Fr inCa σ σ' := by
  refine rx_of (R := fun σ' => reI 0 0 σ' t (A_restore S).1) (e_X11_restore ?_)
  unfold A_restore
  have hV := h.2.1
  cases hp : xV S with
  | none =>
    rw [hp] at hV
    have hV : σ.1 (1, 0, 0) 12 = 0 := hV
    exact b_X11_restore_0 (by omega) (fun q => absurd hV q) (fun _ => b_X11_restore_7 ⟨σ, rfl, h, Fr.refl _ _⟩)
  | some B =>
    rw [hp] at hV
    obtain ⟨e13, B1, B2⟩ := hV
    obtain ⟨σ1, c1, g1, f1⟩ := s_X7_copyFrom (d := 0) (t := t) (p := 0) (q := 2) (by omega) B1 B2
    obtain ⟨σ2, c2, g2, f2⟩ := s_X3_forget (t := t) (h.2.2.1.fr2 f1 (fun L hL q => by unfold inR at q; omega))
    have n15 : ∀ L : Lc, L.1 ≠ 15 → ¬ L = (15, 0, 0) := fun L h q => h (by rw [q])
    have ff : Fr (fun L => L.1 = 15 ∨ inR 0 L) σ σ2 := (f1.mono (fun L q => Or.inr q)).trans (f2.mono (fun L q => Or.inl (by rw [q])))
    obtain ⟨σ3, c3, g3, f3⟩ := newRows (t := t) (cn := xC S) h ff (fun L q => by unfold inR at q; unfold inCa; omega) B1 (g1.fr f2 (fun L hL => n15 L (by unfold inR at hL; omega))) g2 (fun j hj => by
      rw [(ff.1 (27, 0, 0) (by unfold inR; omega)).1]
      exact h.2.2.2.1 j hj)
    rw [hp] at g3
    refine b_X11_restore_0 (by omega) (fun _ => ?_) (fun q => by omega)
    exact b_X11_restore_15 (c1.up (by omega)) (c2.up (by omega)) (c3.up (by omega)) ((s_X7_allNum g3.1.1 g3.1.2.1).up (by omega)) ⟨σ3, rfl, g3, (ff.mono (fun L q => by unfold inR at q; unfold inCa; omega)).trans (f3.mono (fun L q => by unfold inPkw inP at q; unfold inCa; omega))⟩
