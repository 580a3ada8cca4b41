/-! SPECIFICATIONS: rows as they are meant, and written -/
set_option maxRecDepth 4000
/-- rows as they are meant: (how many, rule, skip), prices, names, lengths, numbers -/
abbrev RA : Type := (Nat × Nat × Nat) × (Nat → Int) × (Nat → List Nat) × (Nat → Nat) × (Nat → Nat → Int)
abbrev rN (A : RA) : Nat := A.1.1
abbrev rRu (A : RA) : Nat := A.1.2.1
abbrev rSk (A : RA) : Nat := A.1.2.2
abbrev rPr (A : RA) : Nat → Int := A.2.1
abbrev rNm (A : RA) : Nat → List Nat := A.2.2.1
abbrev rLn (A : RA) : Nat → Nat := A.2.2.2.1
abbrev rNu (A : RA) : Nat → Nat → Int := A.2.2.2.2
/-- a name as a number: five bits a letter, the first one lowest -/
def cNm : List Nat → Int
  | [] => 0
  | x :: l => x + 32 * cNm l
/-- a name as it may be -/
def okNm (l : List Nat) : Prop := 1 ≤ l.length ∧ l.length ≤ 8 ∧ ∀ x ∈ l, 1 ≤ x ∧ x ≤ 26
def Av (A : RA) : Prop := rN A ≤ 4 ∧ rRu A ≤ 2 ∧ (1 ≤ rSk A ∧ rSk A ≤ 9) ∧ (∀ w, w < 9 → 0 ≤ rPr A w ∧ rPr A w ≤ 99) ∧ ∀ i, i < rN A → okNm (rNm A i) ∧ rLn A i ≤ 60 ∧ ∀ j, j < rLn A i → 0 ≤ rNu A i j ∧ rNu A i j < 268435456
def Rep (A : RA) (σ : SG) (p : Nat) : Prop := σ.1 (8, p, 0) 4 = rN A ∧ σ.1 (8, p, 0) 5 = rRu A ∧ σ.1 (8, p, 0) 6 = rSk A ∧ (∀ w, w < 9 → σ.1 (13, p, 0) w = rPr A w) ∧ ∀ i, i < rN A → σ.2.1 (9, p, 0) i = cNm (rNm A i) ∧ σ.1 (10, p, 0) i = rLn A i ∧ ∀ j, j < rLn A i → σ.1 (12, p, i) j = rNu A i j
theorem cNm_bd : ∀ (l : List Nat), (∀ x ∈ l, 1 ≤ x ∧ x ≤ 26) → 0 ≤ cNm l ∧ cNm l < 32 ^ l.length ∧ (l ≠ [] → 0 < cNm l)
  | [], _ => by decide
  | x :: l, h => by
    have h1 := h x List.mem_cons_self
    have h2 := cNm_bd l (fun y hy => h y (List.mem_cons_of_mem _ hy))
    rw [cNm, List.length_cons, Int.pow_succ]
    generalize (32 : Int) ^ l.length = q at h2 ⊢
    refine ⟨by omega, by omega, fun _ => by omega⟩
theorem okNm_rg {l : List Nat} (h : okNm l) : 0 < cNm l ∧ cNm l < 1099511627776 := by
  have h2 := cNm_bd l h.2.2
  have h3 : ∀ n : Nat, n ≤ 8 → (32 : Int) ^ n ≤ 1099511627776 := by decide
  have h3 := h3 _ h.2.1
  have h4 : l ≠ [] := by intro e; have := h.1; rw [e] at this; exact absurd this (by decide)
  have h5 := h2.2.2 h4
  omega
/-- nothing but cells of P has changed -/
def Fr (P : Lc → Prop) (σ σ' : SG) : Prop := (∀ L, ¬ P L → σ'.1 L = σ.1 L ∧ σ'.2.1 L = σ.2.1 L ∧ σ'.2.2.2.1 L = σ.2.2.2.1 L) ∧ σ'.2.2.1 = σ.2.2.1 ∧ σ'.2.2.2.2 = σ.2.2.2.2
theorem Fr.refl (P : Lc → Prop) (σ : SG) : Fr P σ σ := ⟨fun _ _ => ⟨rfl, rfl, rfl⟩, rfl, rfl⟩
theorem Fr.trans {P : Lc → Prop} {a b c : SG} (h : Fr P a b) (k : Fr P b c) : Fr P a c := ⟨fun L hL => ⟨(k.1 L hL).1.trans (h.1 L hL).1, (k.1 L hL).2.1.trans (h.1 L hL).2.1, (k.1 L hL).2.2.trans (h.1 L hL).2.2⟩, k.2.1.trans h.2.1, k.2.2.trans h.2.2⟩
theorem Fr.mono {P P' : Lc → Prop} {a b : SG} (h : Fr P a b) (k : ∀ L, P L → P' L) : Fr P' a b := ⟨fun L hL => h.1 L (fun q => hL (k L q)), h.2⟩
theorem Fr.sI {P : Lc → Prop} {σ : SG} {L : Lc} {f : Nat → Int} (h : P L) : Fr P σ (sI σ L f) := ⟨fun L' hL => ⟨by rw [sI_1, if_neg (fun e : L' = L => hL (by rw [e]; exact h))], by rw [sI_2], by rw [sI_2]⟩, by rw [sI_2], by rw [sI_2]⟩
theorem Fr.sJ {P : Lc → Prop} {σ : SG} {L : Lc} {f : Nat → Int} (h : P L) : Fr P σ (sJ σ L f) := ⟨fun L' hL => ⟨rfl, by rw [sJ_21, if_neg (fun e : L' = L => hL (by rw [e]; exact h))], by rw [sJ_22]⟩, by rw [sJ_22], by rw [sJ_22]⟩
theorem Fr.sC {P : Lc → Prop} {σ : SG} {L : Lc} {c : Nat} (h : P L) : Fr P σ (sC σ L c) := ⟨fun L' hL => ⟨rfl, rfl, by show (if L' = L then c else σ.2.2.2.1 L') = _; rw [if_neg (fun e : L' = L => hL (by rw [e]; exact h))]⟩, rfl, rfl⟩
/-- the cells of rows p -/
def inR (p : Nat) (L : Lc) : Prop := (8 ≤ L.1 ∧ L.1 ≤ 13) ∧ L.2.1 = p
theorem inRk {p a b : Nat} (h : (Nat.ble 8 a && Nat.ble a 13) = true) : inR p (a, p, b) := by
  rw [Bool.and_eq_true] at h
  exact ⟨⟨Nat.ble_eq.mp h.1, Nat.ble_eq.mp h.2⟩, rfl⟩
theorem Rep.fr {A : RA} {σ σ' : SG} {p : Nat} {P : Lc → Prop} (h : Rep A σ p) (f : Fr P σ σ') (hP : ∀ L, inR p L → ¬ P L) : Rep A σ' p := by
  have e : ∀ a b : Nat, 8 ≤ a ∧ a ≤ 13 → σ'.1 (a, p, b) = σ.1 (a, p, b) ∧ σ'.2.1 (a, p, b) = σ.2.1 (a, p, b) := fun a b hab => ⟨(f.1 _ (hP (a, p, b) ⟨hab, rfl⟩)).1, (f.1 _ (hP (a, p, b) ⟨hab, rfl⟩)).2.1⟩
  unfold Rep at h ⊢
  rw [(e 8 0 (by decide)).1, (e 13 0 (by decide)).1, (e 9 0 (by decide)).2, (e 10 0 (by decide)).1]
  refine ⟨h.1, h.2.1, h.2.2.1, h.2.2.2.1, fun i hi => ⟨(h.2.2.2.2 i hi).1, (h.2.2.2.2 i hi).2.1, fun j hj => ?_⟩⟩
  rw [(e 12 i (by decide)).1]
  exact (h.2.2.2.2 i hi).2.2 j hj
theorem ex_of {d y : Nat} {as : List AV} {h : AH} {t : KT} {v : Option AV} {P : SG → Prop} (w : ∃ r, Ca d y as h t r ∧ ∃ σ', r = (.inl v, am_hp σ', t) ∧ P σ') : ∃ σ', Ca d y as h t (.inl v, am_hp σ', t) ∧ P σ' := by
  obtain ⟨r, c, σ', rfl, p⟩ := w
  exact ⟨σ', c, p⟩
def fup {α : Type} (f : Nat → α) (k : Nat) (z : α) : Nat → α := fun j => if j = k then z else f j
def insA (A : RA) (r i : Nat) (v : Int) : RA := (A.1, rPr A, rNm A, fup (rLn A) r (rLn A r + 1), fup (rNu A) r (fun j => if j < i then rNu A r j else if j = i then v else rNu A r (j - 1)))
def putA (A : RA) (r i : Nat) (v : Int) : RA := (A.1, rPr A, rNm A, rLn A, fup (rNu A) r (fup (rNu A r) i v))
def remA (A : RA) (r i : Nat) : RA := (A.1, rPr A, rNm A, fup (rLn A) r (rLn A r - 1), fup (rNu A) r (fun j => if j < i then rNu A r j else rNu A r (j + 1)))
def joiA (A : RA) (r s : Nat) : RA := (A.1, rPr A, rNm A, fup (rLn A) r (rLn A r + rLn A s), fup (rNu A) r (fun j => if j < rLn A r then rNu A r j else rNu A s (j - rLn A r)))
def addA (A : RA) (nm : List Nat) : RA := ((rN A + 1, rRu A, rSk A), rPr A, fup (rNm A) (rN A) nm, fup (rLn A) (rN A) 0, rNu A)
def priA (A : RA) (w : Nat) (z : Int) : RA := (A.1, fup (rPr A) w z, A.2.2)
def ruA (A : RA) (z : Nat) : RA := ((rN A, z, rSk A), A.2)
def skA (A : RA) (z : Nat) : RA := ((rN A, rRu A, z), A.2)
theorem s_X7_insertNumber {d : Nat} {t : KT} {σ : SG} {p : Nat} {A : RA} (hA : Av A) (hR : Rep A σ p) {r i : Nat} {v : Int} (hr : r < rN A) (hi : i ≤ rLn A r) (hl : rLn A r < 60) : ∃ σ', Ca (d + 2) 52 [aR (some (8, p, 0)), aI (iZ (r : Int)), aI (iZ (i : Int)), aI (iZ v)] (am_hp σ) t (.inl none, am_hp σ', t) ∧ Rep (insA A r i v) σ' p ∧ Fr (inR p) σ σ' := by
  have h4 := hA.1
  have e4 := hR.1
  have eL : σ.1 (10, p, 0) (r : Int).toNat = rLn A r := (hR.2.2.2.2 r hr).2.1
  refine ex_of (e_X7_insertNumber ?_)
  have hc := s_X7_has (d := d) (t := t) (σ := σ) (p := p) (x := (r : Int)) (by omega) (by omega)
  refine b_X7_insertNumber_0 hc bz_rg (fun h => ?_) (fun _ => ?_)
  · exact absurd (bz_0.mp h) (by rw [e4]; omega)
  refine b_X7_insertNumber_8 (by omega) (fun h => by omega) (fun _ => ?_)
  refine b_X7_insertNumber_12 (by omega) (by omega) (by rw [eL]; omega) (fun h => by rw [eL] at h; omega) (fun _ => ?_)
  refine b_X7_insertNumber_22 (by omega) (by rw [eL]; omega) (fun _ => ?_) (fun h => by rw [eL] at h; omega)
  refine b_X7_insertNumber_34 (by omega) (by rw [eL]; omega) (by omega) ⟨_, rfl, ?_, (((Fr.sI (inRk rfl)).trans (Fr.sI (inRk rfl))).trans (Fr.sI (inRk rfl)))⟩
  · obtain ⟨⟨n, ru, sk⟩, pr, nm, ln, nu⟩ := A
    obtain ⟨a1, a2, a3, a4, a5⟩ := hR
    simp only [rN, rRu, rSk, rPr, rNm, rLn, rNu] at *
    refine ⟨by simpa [sI_1, insA] using a1, by simpa [sI_1, insA] using a2, by simpa [sI_1, insA] using a3, fun w hw => by simpa [sI_1, insA] using a4 w hw, fun j hj => ?_⟩
    have b := a5 j hj
    refine ⟨by simpa [sI_1, sI_2, insA] using b.1, ?_, fun m hm => ?_⟩
    · by_cases e : j = r
      · subst e
        simp [sI_1, up_at, insA, fup, rN, rRu, rSk, rPr, rNm, rLn, rNu, b.2.1]
      · simp [sI_1, up_at, insA, fup, rN, rRu, rSk, rPr, rNm, rLn, rNu, e, b.2.1]
    · by_cases e : j = r
      · subst e
        have hm' : m < ln j + 1 := by simpa [insA, fup, rN, rRu, rSk, rPr, rNm, rLn, rNu] using hm
        have eL2 : σ.1 (10, p, 0) j = ln j := eL
        by_cases h1 : m < i
        · have := b.2.2 m (by omega)
          simp [sI_1, up_at, insA, fup, rN, rRu, rSk, rPr, rNm, rLn, rNu, cpy, h1, show ¬ m = i by omega, show ¬ (i + 1 ≤ m) by omega, this]
        · by_cases h2 : m = i
          · subst h2
            simp [sI_1, up_at, insA, fup, rN, rRu, rSk, rPr, rNm, rLn, rNu, cpy]
          · have h5 := b.2.2 (m - 1) (by omega)
            have h6 : i + (m - (i + 1)) = m - 1 := by omega
            have h7 : (↑i + 1 : Int).toNat = i + 1 := rfl
            have h8 : ((ln j : Int) - ↑i).toNat = ln j - i := by omega
            simp [sI_1, up_at, insA, fup, rN, rRu, rSk, rPr, rNm, rLn, rNu, cpy, h1, h2, eL2, h7, h8]
            rw [if_pos (by omega), h6, h5]
      · have hm' : m < ln j := by simpa [insA, fup, rN, rRu, rSk, rPr, rNm, rLn, rNu, e] using hm
        simp [sI_1, insA, fup, rN, rRu, rSk, rPr, rNm, rLn, rNu, e, b.2.2 m hm']
