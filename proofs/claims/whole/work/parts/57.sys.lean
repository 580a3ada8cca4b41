/-! SYSTEMS: read as they are meant, and by the class -/
set_option maxRecDepth 4000
abbrev PE : Type := Nat × Nat
def numP {α : Type} (T : TB) (p lo hi : Nat) (k : α ⊕ PE) : α ⊕ PE := if tK T p ≠ 2 then .inr (1, tS T p) else if tN T p < lo ∨ hi < tN T p then .inr (2, tS T p) else k
def kdP {α : Type} (T : TB) (p kd : Nat) (k : α ⊕ PE) : α ⊕ PE := if tK T p ≠ kd then .inr (1, tS T p) else k
abbrev isKw (T : TB) (p k : Nat) : Prop := tK T p = 1 ∧ tL T p = kwL k
/-- what is read: rows, told prices (a set), where the reading stands -/
abbrev SR : Type := RA × Nat × Nat
def numsP (T : TB) (r m : Nat) : Nat → RA → Nat → SR ⊕ PE
  | 0, A, p => .inl (A, m, p)
  | f + 1, A, p => if tK T p = 2 then numP T p 0 268435455 (if 60 ≤ rLn A r then .inr (5, tS T p) else numsP T r m f (insA A r (rLn A r) (tN T p : Int)) (tE T p)) else .inl (A, m, p)
def rowP (T : TB) (A : RA) (m p : Nat) : SR ⊕ PE := if 4 ≤ rN A then .inr (5, tS T p) else kdP T (tE T p) 1 (if rwA A (tL T (tE T p)) ≠ -1 then .inr (3, tS T (tE T p)) else numsP T (rN A) m 61 (addA A (tL T (tE T p))) (tE T (tE T p)))
def priP (T : TB) (A : RA) (m p : Nat) : SR ⊕ PE := numP T (tE T p) 0 8 (if m / 2 ^ tN T (tE T p) % 2 = 1 then .inr (3, tS T (tE T p)) else numP T (tE T (tE T p)) 0 99 (.inl (priA A (tN T (tE T p)) (tN T (tE T (tE T p)) : Int), m + 2 ^ tN T (tE T p), tE T (tE T (tE T p)))))
def filA (A : RA) (r : Nat) (v : Int) : Nat → RA
  | 0 => A
  | k + 1 => insA (filA A r v k) r (rLn (filA A r v k) r) v
def fillP (T : TB) (A : RA) (m p : Nat) : SR ⊕ PE := kdP T (tE T p) 1 (if rwA A (tL T (tE T p)) = -1 then .inr (4, tS T (tE T p)) else numP T (tE T (tE T p)) 1 60 (if 60 < rLn A (rwA A (tL T (tE T p))).toNat + tN T (tE T (tE T p)) then .inr (5, tS T (tE T (tE T p))) else numP T (tE T (tE T (tE T p))) 0 268435455 (.inl (filA A (rwA A (tL T (tE T p))).toNat (tN T (tE T (tE T (tE T p))) : Int) (tN T (tE T (tE T p))), m, tE T (tE T (tE T (tE T p)))))))
def stmP (T : TB) (A : RA) (m p : Nat) : SR ⊕ PE := if isKw T p 11 then rowP T A m p else if isKw T p 12 then priP T A m p else if isKw T p 13 then fillP T A m p else .inr (1, tS T p)
def lopP (T : TB) : Nat → RA → Nat → Nat → RA ⊕ PE
  | 0, A, _, _ => .inl A
  | f + 1, A, m, p => if tK T p = 0 then .inl A else match stmP T A m p with
    | .inr e => .inr e
    | .inl x => kdP T x.2.2 3 (lopP T f x.1 x.2.1 (tE T x.2.2))
def pckP (T : TB) (A : RA) (p : Nat) : (RA × Nat) ⊕ PE := if isKw T p 10 then numP T (tE T p) 0 2 (numP T (tE T (tE T p)) 1 9 (.inl (skA (ruA A (tN T (tE T p))) (tN T (tE T (tE T p))), tE T (tE T (tE T p))))) else .inr (1, tS T p)
def sysP (T : TB) : RA ⊕ PE := match pckP T clrA 0 with
  | .inr e => .inr e
  | .inl x => kdP T x.2 3 (lopP T 601 x.1 0 (tE T x.2))
-- rows stay as they must be
theorem Av_ins {A : RA} (h : Av A) {r i : Nat} {v : Int} (hr : r < rN A) (hi : i ≤ rLn A r) (hl : rLn A r < 60) (hv : 0 ≤ v ∧ v < 268435456) : Av (insA A r i v) := by
  obtain ⟨⟨n, ru, sk⟩, pr, nm, ln, nu⟩ := A
  obtain ⟨h1, h2, h3, h4, h5⟩ := h
  refine ⟨h1, h2, h3, h4, fun j hj => ?_⟩
  have b := h5 j hj
  refine ⟨b.1, ?_, fun m hm => ?_⟩
  · show fup ln r (ln r + 1) j ≤ 60
    unfold fup
    split
    · show ln r + 1 ≤ 60
      exact hl
    · exact b.2.1
  · have hm : m < fup ln r (ln r + 1) j := hm
    show 0 ≤ fup nu r (fun q => if q < i then nu r q else if q = i then v else nu r (q - 1)) j m ∧ fup nu r (fun q => if q < i then nu r q else if q = i then v else nu r (q - 1)) j m < 268435456
    unfold fup at hm ⊢
    by_cases e : j = r
    · subst e
      rw [if_pos rfl] at hm ⊢
      have b2 := b.2.2
      have b2 : ∀ q, q < ln j → 0 ≤ nu j q ∧ nu j q < 268435456 := b2
      have hi : i ≤ ln j := hi
      try dsimp only
      by_cases h6 : m < i
      · rw [if_pos h6]
        exact b2 m (by omega)
      · rw [if_neg h6]
        by_cases h7 : m = i
        · rw [if_pos h7]; exact hv
        · rw [if_neg h7]
          exact b2 (m - 1) (by omega)
    · rw [if_neg e] at hm ⊢
      exact b.2.2 m hm
theorem Av_add {A : RA} (h : Av A) {l : List Nat} (hn : rN A < 4) (hl : okNm l) : Av (addA A l) := by
  obtain ⟨⟨n, ru, sk⟩, pr, nm, ln, nu⟩ := A
  obtain ⟨h1, h2, h3, h4, h5⟩ := h
  refine ⟨hn, h2, h3, h4, fun j hj => ?_⟩
  have hj : j < n + 1 := hj
  show okNm (fup nm n l j) ∧ fup ln n 0 j ≤ 60 ∧ ∀ m, m < fup ln n 0 j → 0 ≤ nu j m ∧ nu j m < 268435456
  unfold fup
  by_cases e : j = n
  · rw [if_pos e, if_pos e]
    exact ⟨hl, by omega, fun m hm => by omega⟩
  · rw [if_neg e, if_neg e]
    exact h5 j (by show j < n; omega)
theorem Av_pri {A : RA} (h : Av A) {w : Nat} {z : Int} (hz : 0 ≤ z ∧ z ≤ 99) : Av (priA A w z) := by
  obtain ⟨h1, h2, h3, h4, h5⟩ := h
  refine ⟨h1, h2, h3, fun v hv => ?_, h5⟩
  show 0 ≤ fup (rPr A) w z v ∧ fup (rPr A) w z v ≤ 99
  unfold fup
  split
  · exact hz
  · exact h4 v hv
theorem Av_ru {A : RA} (h : Av A) {z : Nat} (hz : z ≤ 2) : Av (ruA A z) := ⟨h.1, hz, h.2.2⟩
theorem Av_sk {A : RA} (h : Av A) {z : Nat} (hz : 1 ≤ z ∧ z ≤ 9) : Av (skA A z) := ⟨h.1, h.2.1, hz, h.2.2.2⟩
theorem Av_clr : Av clrA := ⟨by decide, by decide, by decide, fun w hw => by show (0 : Int) ≤ 1 ∧ (1 : Int) ≤ 99; decide, fun i hi => absurd hi (Nat.not_lt_zero i)⟩
theorem filA_ok {A : RA} (h : Av A) {r : Nat} {v : Int} (hr : r < rN A) (hv : 0 ≤ v ∧ v < 268435456) : ∀ k, rLn A r + k ≤ 60 → Av (filA A r v k) ∧ rN (filA A r v k) = rN A ∧ rLn (filA A r v k) r = rLn A r + k
  | 0, _ => ⟨h, rfl, rfl⟩
  | k + 1, hk => by
    have ih := filA_ok h hr hv k (by omega)
    refine ⟨Av_ins ih.1 (by rw [ih.2.1]; exact hr) (Nat.le_refl _) (by omega) hv, ih.2.1, ?_⟩
    show fup (rLn (filA A r v k)) r (rLn (filA A r v k) r + 1) r = _
    unfold fup
    rw [if_pos rfl, ih.2.2]
    omega
-- the class's reader
def inSy (L : Lc) : Prop := L = (2, 0, 0) ∨ inR 1 L ∨ L = (14, 0, 0)
def SY (T : TB) (A : RA) (m p : Nat) (σ : SG) : Prop := TT T p σ ∧ Rep A σ 1 ∧ Av A ∧ σ.1 (14, 0, 0) 1 = m ∧ m < 512 ∧ σ.1 (2, 0, 0) 5 = 0 ∧ σ.1 (2, 0, 0) 6 = -1
def SE (T : TB) (e : PE) (σ : SG) : Prop := TX T σ ∧ σ.1 (2, 0, 0) 5 = e.1 ∧ σ.1 (2, 0, 0) 6 = e.2
def bO {α β : Type} : α ⊕ β → Int
  | .inl _ => 1
  | .inr _ => 0
def SP (T : TB) (o : SR ⊕ PE) (σ : SG) : Prop := match o with
  | .inl x => SY T x.1 x.2.1 x.2.2 σ
  | .inr e => SE T e σ
theorem mTx : ∀ L, inTx L → inSy L := fun L h => Or.inl h
theorem mR1 : ∀ L, inR 1 L → inSy L := fun L h => Or.inr (Or.inl h)
theorem Rep.tx {A : RA} {σ σ' : SG} {p : Nat} (h : Rep A σ p) (f : Fr inTx σ σ') : Rep A σ' p := h.fr f (fun L hL hP => by
  have hP : L = (2, 0, 0) := hP
  subst hP
  unfold inR at hL
  omega)
theorem tx14 {σ σ' : SG} (f : Fr inTx σ σ') : σ'.1 (14, 0, 0) = σ.1 (14, 0, 0) := (f.1 _ (fun h => absurd (show ((14, 0, 0) : Lc) = (2, 0, 0) from h) (by decide))).1
theorem SY.adv {T : TB} {A : RA} {m p q : Nat} {σ σ' : SG} (h : SY T A m p σ) (k : TT T q σ') (f : FT σ σ') : SY T A m q σ' := ⟨k, h.2.1.tx f.1, h.2.2.1, by rw [tx14 f.1]; exact h.2.2.2.1, h.2.2.2.2.1, by rw [f.2.1]; exact h.2.2.2.2.2.1, by rw [f.2.2]; exact h.2.2.2.2.2.2⟩
theorem s_X10_fail {t : KT} {σ : SG} {T : TB} {p c : Nat} (hT : TT T p σ) : ∃ σ', Ca 1 83 [aR (some (2, 0, 0)), aI (iZ ((c : Int)))] (am_hp σ) t (.inl (some (aI (iZ 0))), am_hp σ', t) ∧ SE T (c, tS T p) σ' ∧ Fr inTx σ σ' := by
  refine ex_of (e_X10_fail ?_)
  refine b_X10_fail_0 ⟨_, rfl, ⟨(hT.1.up (by simp [up_at])).up (by simp [up_at]), by simp [sI_1, up_at], ?_⟩, (Fr.sI (P := inTx) rfl).trans (Fr.sI (P := inTx) rfl)⟩
  have h7 := hT.2.2.2.1
  simp [sI_1, up_at, h7]
theorem s_sees_ok {t : KT} {σ : SG} {T : TB} {p w : Nat} (hT : TT T p σ) (hw : tK T p = w) : Ca 2 85 [aR (some (2, 0, 0)), aI (iZ ((w : Int)))] (am_hp σ) t (.inl (some (aI (iZ 1))), am_hp σ, t) := by
  have h2 := hT.2.2.1
  have hk := tK_le T p
  refine ca_of (e_X10_sees ?_)
  exact b_X10_sees_0 (by omega) (by omega) (fun _ => b_X10_sees_16 (b_X10_sees_21 (by omega) rfl)) (fun h => by omega)
theorem s_sees_no {t : KT} {σ : SG} {T : TB} {p w : Nat} (hT : TT T p σ) (hw : tK T p ≠ w) (h6 : w ≤ 6) : ∃ σ', Ca 2 85 [aR (some (2, 0, 0)), aI (iZ ((w : Int)))] (am_hp σ) t (.inl (some (aI (iZ 0))), am_hp σ', t) ∧ SE T (1, tS T p) σ' ∧ Fr inTx σ σ' := by
  have h2 := hT.2.2.1
  have hk := tK_le T p
  obtain ⟨σ1, c1, g1, g2⟩ := s_X10_fail (t := t) (c := 1) hT
  refine ex_of (e_X10_sees ?_)
  refine b_X10_sees_0 (by omega) (by omega) (fun h => by omega) (fun _ => ?_)
  exact b_X10_sees_8 (c1.up (by omega)) (by omega) (fun _ => b_X10_sees_20 (b_X10_sees_21 (by omega) ⟨σ1, rfl, g1, g2⟩)) (fun h => by omega)
theorem s_num_ok {t : KT} {σ : SG} {T : TB} {p lo hi : Nat} (hT : TT T p σ) (h2 : tK T p = 2) (hl : ¬ (tN T p < lo ∨ hi < tN T p)) (hh : lo ≤ 1000000000 ∧ hi ≤ 1000000000) : Ca 3 86 [aR (some (2, 0, 0)), aI (iZ ((lo : Int))), aI (iZ ((hi : Int)))] (am_hp σ) t (.inl (some (aI (iZ 1))), am_hp σ, t) := by
  have e3 := hT.2.2.2.2.2.1 h2
  have hn := (tK_2 h2).2
  refine ca_of (e_X10_seesNumber ?_)
  refine b_X10_seesNumber_0 ((s_sees_ok (w := 2) hT h2).up (by omega)) (by omega) (fun _ => ?_) (fun h => by omega)
  refine b_X10_seesNumber_10 (by omega) (by omega) (fun h => by omega) (fun _ => ?_)
  exact b_X10_seesNumber_18 (by omega) (by omega) (fun _ => b_X10_seesNumber_34 (b_X10_seesNumber_39 (by omega) rfl)) (fun h => by omega)
theorem s_num_no {t : KT} {σ : SG} {T : TB} {p lo hi : Nat} (hT : TT T p σ) (hl : ¬ (tK T p = 2 ∧ ¬ (tN T p < lo ∨ hi < tN T p))) (hh : lo ≤ 1000000000 ∧ hi ≤ 1000000000) : ∃ σ', Ca 3 86 [aR (some (2, 0, 0)), aI (iZ ((lo : Int))), aI (iZ ((hi : Int)))] (am_hp σ) t (.inl (some (aI (iZ 0))), am_hp σ', t) ∧ SE T (if tK T p ≠ 2 then 1 else 2, tS T p) σ' ∧ Fr inTx σ σ' := by
  refine ex_of (e_X10_seesNumber ?_)
  by_cases h2 : tK T p = 2
  · rw [if_neg (by omega)]
    have e3 := hT.2.2.2.2.2.1 h2
    have hn := (tK_2 h2).2
    obtain ⟨σ1, c1, g1, g2⟩ := s_X10_fail (t := t) (c := 2) hT
    have h26 : Wp k_X10_seesNumber 2 (26, [some (aR (some (2, 0, 0))), some (aI (iZ ((lo : Int)))), some (aI (iZ ((hi : Int))))], [], am_hp σ, t) (fun r => ∃ σ', r = (.inl (some (aI (iZ 0))), am_hp σ', t) ∧ SE T (2, tS T p) σ' ∧ Fr inTx σ σ') := b_X10_seesNumber_26 (c1.up (by omega)) (by omega) (fun _ => b_X10_seesNumber_38 (b_X10_seesNumber_39 (by omega) ⟨σ1, rfl, g1, g2⟩)) (fun h => by omega)
    refine b_X10_seesNumber_0 ((s_sees_ok (w := 2) hT h2).up (by omega)) (by omega) (fun _ => ?_) (fun h => by omega)
    refine b_X10_seesNumber_10 (by omega) (by omega) (fun _ => h26) (fun _ => ?_)
    exact b_X10_seesNumber_18 (by omega) (by omega) (fun h => by omega) (fun _ => h26)
  · rw [if_pos h2]
    obtain ⟨σ1, c1, g1, g2⟩ := s_sees_no (t := t) (w := 2) hT h2 (by omega)
    exact b_X10_seesNumber_0 (c1.up (by omega)) (by omega) (fun h => by omega) (fun _ => b_X10_seesNumber_8 ⟨σ1, rfl, g1, g2⟩)
theorem s_pass_ok {t : KT} {σ : SG} {T : TB} {p w : Nat} (hT : TT T p σ) (hw : tK T p = w) : ∃ σ', Ca 4 87 [aR (some (2, 0, 0)), aI (iZ ((w : Int)))] (am_hp σ) t (.inl (some (aI (iZ 1))), am_hp σ', t) ∧ TT T (tE T p) σ' ∧ FT σ σ' := by
  obtain ⟨σ1, c1, g1, g2⟩ := s_X10_advance (t := t) hT.1 (tE_bd hT.2.1).2.1 hT.2.2.2.2.1
  refine ex_of (e_X10_passes ?_)
  exact b_X10_passes_0 ((s_sees_ok hT hw).up (by omega)) (by omega) (fun _ => b_X10_passes_10 (c1.up (by omega)) ⟨σ1, rfl, g1, g2⟩) (fun h => by omega)
theorem s_pass_no {t : KT} {σ : SG} {T : TB} {p w : Nat} (hT : TT T p σ) (hw : tK T p ≠ w) (h6 : w ≤ 6) : ∃ σ', Ca 4 87 [aR (some (2, 0, 0)), aI (iZ ((w : Int)))] (am_hp σ) t (.inl (some (aI (iZ 0))), am_hp σ', t) ∧ SE T (1, tS T p) σ' ∧ Fr inTx σ σ' := by
  obtain ⟨σ1, c1, g1, g2⟩ := s_sees_no (t := t) hT hw h6
  refine ex_of (e_X10_passes ?_)
  exact b_X10_passes_0 (c1.up (by omega)) (by omega) (fun h => by omega) (fun _ => b_X10_passes_8 ⟨σ1, rfl, g1, g2⟩)
theorem s_adv {t : KT} {σ : SG} {T : TB} {A : RA} {m p : Nat} (h : SY T A m p σ) : ∃ σ', Ca 3 79 [aR (some (2, 0, 0))] (am_hp σ) t (.inl none, am_hp σ', t) ∧ SY T A m (tE T p) σ' ∧ FT σ σ' := by
  obtain ⟨σ1, c1, g1, g2⟩ := s_X10_advance (t := t) h.1.1 (tE_bd h.1.2.1).2.1 h.1.2.2.2.2.1
  exact ⟨σ1, c1, h.adv g1 g2, g2⟩
theorem s_X10_begin {t : KT} {σ : SG} {T : TB} (hT : TX T σ) : ∃ σ', Ca 4 78 [aR (some (2, 0, 0))] (am_hp σ) t (.inl none, am_hp σ', t) ∧ TT T 0 σ' ∧ Fr inTx σ σ' ∧ σ'.1 (2, 0, 0) 5 = 0 ∧ σ'.1 (2, 0, 0) 6 = -1 := by
  have k1 : TX T (sI (sI (sI σ (2, 0, 0) (up (σ.1 (2, 0, 0)) 5 0)) (2, 0, 0) (up ((sI σ (2, 0, 0) (up (σ.1 (2, 0, 0)) 5 0)).1 (2, 0, 0)) 6 (-1))) (2, 0, 0) (up ((sI (sI σ (2, 0, 0) (up (σ.1 (2, 0, 0)) 5 0)) (2, 0, 0) (up ((sI σ (2, 0, 0) (up (σ.1 (2, 0, 0)) 5 0)).1 (2, 0, 0)) 6 (-1))).1 (2, 0, 0)) 8 0)) := ((hT.up (by simp [up_at])).up (by simp [up_at])).up (by simp [up_at])
  have k2 : Fr inTx σ (sI (sI (sI σ (2, 0, 0) (up (σ.1 (2, 0, 0)) 5 0)) (2, 0, 0) (up ((sI σ (2, 0, 0) (up (σ.1 (2, 0, 0)) 5 0)).1 (2, 0, 0)) 6 (-1))) (2, 0, 0) (up ((sI (sI σ (2, 0, 0) (up (σ.1 (2, 0, 0)) 5 0)) (2, 0, 0) (up ((sI σ (2, 0, 0) (up (σ.1 (2, 0, 0)) 5 0)).1 (2, 0, 0)) 6 (-1))).1 (2, 0, 0)) 8 0)) := ((Fr.sI (P := inTx) rfl).trans (Fr.sI (P := inTx) rfl)).trans (Fr.sI (P := inTx) rfl)
  obtain ⟨σ1, c1, g1, g2⟩ := s_X10_advance (t := t) (p := 0) k1 (Nat.zero_le _) (by simp [sI_1, up_at])
  refine ex_of (e_X10_begin ?_)
  refine b_X10_begin_0 (c1.up (by omega)) ⟨σ1, rfl, g1, k2.trans g2.1, ?_, ?_⟩
  · rw [g2.2.1]; simp [sI_1, up_at]
  · rw [g2.2.2]; simp [sI_1, up_at]
theorem numP_no {α : Type} {T : TB} {p lo hi : Nat} {k : α ⊕ PE} (h : ¬ (tK T p = 2 ∧ ¬ (tN T p < lo ∨ hi < tN T p))) : numP T p lo hi k = .inr (if tK T p ≠ 2 then 1 else 2, tS T p) := by
  unfold numP
  by_cases h2 : tK T p = 2
  · have ho : tN T p < lo ∨ hi < tN T p := by
      apply Decidable.byContradiction
      intro q
      exact h ⟨h2, q⟩
    rw [if_neg (fun q => q h2), if_pos ho, if_neg (fun q => q h2)]
  · rw [if_pos h2, if_pos h2]
theorem numP_ok {α : Type} {T : TB} {p lo hi : Nat} {k : α ⊕ PE} (h : tK T p = 2 ∧ ¬ (tN T p < lo ∨ hi < tN T p)) : numP T p lo hi k = k := by
  unfold numP
  rw [if_neg (by omega), if_neg h.2]
theorem s_X9_readPack {t : KT} {σ : SG} {T : TB} {p : Nat} (h : SY T clrA 0 p σ) : ∃ σ', Ca 7 65 [aR (some (14, 0, 0)), aR (some (2, 0, 0))] (am_hp σ) t (.inl (some (aI (iZ (bO (pckP T clrA p))))), am_hp σ', t) ∧ SP T (match pckP T clrA p with
    | .inr e => .inr e
    | .inl x => .inl (x.1, 0, x.2)) σ' ∧ Fr inSy σ σ' := by
  refine ex_of (e_X9_readPack ?_)
  by_cases hk : isKw T p 10
  · unfold pckP
    rw [if_pos hk]
    obtain ⟨σ1, c1, g1, f1⟩ := s_adv (t := t) h
    have hw := s_X10_isWord (t := t) (k := 10) h.1 (by omega)
    rw [bz_t hk] at hw
    refine b_X9_readPack_0 (hw.up (by omega)) (by omega) (fun _ => ?_) (fun q => by omega)
    by_cases hn : tK T (tE T p) = 2 ∧ ¬ (tN T (tE T p) < 0 ∨ 2 < tN T (tE T p))
    · rw [numP_ok hn]
      have e3 := g1.1.2.2.2.2.2.1 hn.1
      refine b_X9_readPack_15 (c1.up (by omega)) ((s_num_ok g1.1 hn.1 hn.2 (by omega)).up (by omega)) (by omega) (fun _ => ?_) (fun q => by omega)
      have fa : Fr (inR 1) σ1 (sI σ1 (8, 1, 0) (up (σ1.1 (8, 1, 0)) 5 (σ1.1 (2, 0, 0) 3))) := Fr.sI (inRk rfl)
      have ga : SY T (ruA clrA (tN T (tE T p))) 0 (tE T p) (sI σ1 (8, 1, 0) (up (σ1.1 (8, 1, 0)) 5 (σ1.1 (2, 0, 0) 3))) := by
        obtain ⟨y1, y2, y3, y4, y5, y6, y7⟩ := g1
        refine ⟨y1.fr fa (by unfold inR; omega) (by unfold inR; omega), ?_, Av_ru y3 (by omega), by simpa [sI_1] using y4, y5, by simpa [sI_1] using y6, by simpa [sI_1] using y7⟩
        obtain ⟨a1, a2, a3, a4, a5⟩ := y2
        exact ⟨by simpa [sI_1, up_at, ruA] using a1, by simp [sI_1, up_at, ruA, e3], by simpa [sI_1, up_at, ruA] using a3, fun w hw => by simpa [sI_1, ruA] using a4 w hw, fun i hi => absurd hi (Nat.not_lt_zero i)⟩
      obtain ⟨σ2, c2, g2, f2⟩ := s_adv (t := t) ga
      by_cases hm : tK T (tE T (tE T p)) = 2 ∧ ¬ (tN T (tE T (tE T p)) < 1 ∨ 9 < tN T (tE T (tE T p)))
      · rw [numP_ok hm]
        have e4 := g2.1.2.2.2.2.2.1 hm.1
        refine b_X9_readPack_30 (c2.up (by omega)) ((s_num_ok g2.1 hm.1 hm.2 (by omega)).up (by omega)) (by omega) (fun _ => ?_) (fun q => by omega)
        have fb : Fr (inR 1) σ2 (sI σ2 (8, 1, 0) (up (σ2.1 (8, 1, 0)) 6 (σ2.1 (2, 0, 0) 3))) := Fr.sI (inRk rfl)
        have gb : SY T (skA (ruA clrA (tN T (tE T p))) (tN T (tE T (tE T p)))) 0 (tE T (tE T p)) (sI σ2 (8, 1, 0) (up (σ2.1 (8, 1, 0)) 6 (σ2.1 (2, 0, 0) 3))) := by
          obtain ⟨y1, y2, y3, y4, y5, y6, y7⟩ := g2
          refine ⟨y1.fr fb (by unfold inR; omega) (by unfold inR; omega), ?_, Av_sk y3 (by omega), by simpa [sI_1] using y4, y5, by simpa [sI_1] using y6, by simpa [sI_1] using y7⟩
          obtain ⟨a1, a2, a3, a4, a5⟩ := y2
          exact ⟨by simpa [sI_1, up_at, skA] using a1, by simpa [sI_1, up_at, skA] using a2, by simp [sI_1, up_at, skA, e4], fun w hw => by simpa [sI_1, skA] using a4 w hw, fun i hi => absurd hi (Nat.not_lt_zero i)⟩
        obtain ⟨σ3, c3, g3, f3⟩ := s_adv (t := t) gb
        exact b_X9_readPack_57 (c3.up (by omega)) ⟨σ3, rfl, g3, ((((f1.1.mono mTx).trans (fa.mono mR1)).trans (f2.1.mono mTx)).trans (fb.mono mR1)).trans (f3.1.mono mTx)⟩
      · rw [numP_no hm]
        obtain ⟨σ3, c3, g3, f3⟩ := s_num_no (t := t) g2.1 hm (by omega)
        exact b_X9_readPack_30 (c2.up (by omega)) (c3.up (by omega)) (by omega) (fun q => by omega) (fun _ => b_X9_readPack_55 ⟨σ3, rfl, g3, (((f1.1.mono mTx).trans (fa.mono mR1)).trans (f2.1.mono mTx)).trans (f3.mono mTx)⟩)
    · rw [numP_no hn]
      obtain ⟨σ3, c3, g3, f3⟩ := s_num_no (t := t) g1.1 hn (by omega)
      exact b_X9_readPack_15 (c1.up (by omega)) (c3.up (by omega)) (by omega) (fun q => by omega) (fun _ => b_X9_readPack_28 ⟨σ3, rfl, g3, (f1.1.mono mTx).trans (f3.mono mTx)⟩)
  · unfold pckP
    rw [if_neg hk]
    have hw := s_X10_isWord (t := t) (k := 10) h.1 (by omega)
    rw [bz_f hk] at hw
    obtain ⟨σ1, c1, g1, f1⟩ := s_X10_fail (t := t) (c := 1) h.1
    exact b_X9_readPack_0 (hw.up (by omega)) (by omega) (fun q => by omega) (fun _ => b_X9_readPack_9 (c1.up (by omega)) (by omega) ⟨σ1, rfl, g1, f1.mono mTx⟩)
theorem SY.ins {T : TB} {A : RA} {m p r : Nat} {v : Int} {σ σ' : SG} (h : SY T A m p σ) (hR : Rep (insA A r (rLn A r) v) σ' 1) (f : Fr (inR 1) σ σ') (hr : r < rN A) (hl : rLn A r < 60) (hv : 0 ≤ v ∧ v < 268435456) : SY T (insA A r (rLn A r) v) m p σ' := by
  obtain ⟨y1, y2, y3, y4, y5, y6, y7⟩ := h
  have e2 : σ'.1 (2, 0, 0) = σ.1 (2, 0, 0) := (f.1 _ (by unfold inR; omega)).1
  have e14 : σ'.1 (14, 0, 0) = σ.1 (14, 0, 0) := (f.1 _ (by unfold inR; omega)).1
  exact ⟨y1.fr f (by unfold inR; omega) (by unfold inR; omega), hR, Av_ins y3 hr (Nat.le_refl _) hl hv, by rw [e14]; exact y4, y5, by rw [e2]; exact y6, by rw [e2]; exact y7⟩
theorem s_X9_readNumbers {t : KT} {σ : SG} {T : TB} {A : RA} {m p r : Nat} (h : SY T A m p σ) (hr : r < rN A) (h0 : rLn A r = 0) : ∃ σ', Ca 4 68 [aR (some (14, 0, 0)), aR (some (2, 0, 0)), aI (iZ ((r : Int)))] (am_hp σ) t (.inl (some (aI (iZ (bO (numsP T r m 61 A p))))), am_hp σ', t) ∧ SP T (numsP T r m 61 A p) σ' ∧ Fr inSy σ σ' := by
  refine ex_of (e_X9_readNumbers ?_)
  refine b_X9_readNumbers_0 ?_
  have key : ∀ (f k : Nat) (A' : RA) (p' : Nat) (σ1 : SG), k + f = 61 → SY T A' m p' σ1 → rN A' = rN A → rLn A' r = k → Fr inSy σ σ1 → Wp k_X9_readNumbers 3 (2, [some (aR (some (14, 0, 0))), some (aR (some (2, 0, 0))), some (aI (iZ ((r : Int)))), some (aI (iZ ((k : Int))))], [], am_hp σ1, t) (fun x => ∃ σ', x = (.inl (some (aI (iZ (bO (numsP T r m f A' p'))))), am_hp σ', t) ∧ SP T (numsP T r m f A' p') σ' ∧ Fr inSy σ σ') := by
    intro f
    induction f with
    | zero =>
      intro k A' p' σ1 hk g1 gn gl ff
      have := (g1.2.2.1.2.2.2.2 r (by rw [gn]; exact hr)).2.1
      omega
    | succ f ih =>
      intro k A' p' σ1 hk g1 gn gl ff
      have hrn : r < rN A' := by rw [gn]; exact hr
      have e2 := g1.1.2.2.1
      have hkl := tK_le T p'
      unfold numsP
      refine b_X9_readNumbers_2 (by omega) (fun q => by omega) (fun _ => ?_)
      by_cases h2 : tK T p' = 2
      · rw [if_pos h2]
        refine b_X9_readNumbers_8 (by omega) (fun q => by omega) (fun _ => ?_)
        by_cases hn : tK T p' = 2 ∧ ¬ (tN T p' < 0 ∨ 268435455 < tN T p')
        · rw [numP_ok hn]
          have e3 := g1.1.2.2.2.2.2.1 h2
          have cl := s_X7_lenOf (d := 0) (t := t) g1.2.2.1 g1.2.1 hrn
          refine b_X9_readNumbers_16 ((s_num_ok g1.1 hn.1 hn.2 (by omega)).up (by omega)) (by omega) (fun _ => ?_) (fun q => by omega)
          refine b_X9_readNumbers_28 (cl.up (by omega)) (by omega) (fun q => ?_) (fun q => ?_)
          · rw [if_neg (by omega)]
            obtain ⟨σ2, c2, g2, f2⟩ := s_X7_insertNumber (d := 0) (t := t) (v := (tN T p' : Int)) g1.2.2.1 g1.2.1 hrn (Nat.le_refl _) (by omega)
            have gi := g1.ins g2 f2 hrn (by omega) (by omega)
            obtain ⟨σ3, c3, g3, f3⟩ := s_adv (t := t) gi
            rw [← e3] at c2
            refine b_X9_readNumbers_47 (cl.up (by omega)) (c2.up (by omega)) (c3.up (by omega)) ?_
            refine ih (k + 1) _ _ σ3 (by omega) g3 gn ?_ ((ff.trans (f2.mono mR1)).trans (f3.1.mono mTx))
            show fup (rLn A') r (rLn A' r + 1) r = k + 1
            unfold fup
            rw [if_pos rfl, gl]
          · rw [if_pos (by omega)]
            obtain ⟨σ2, c2, g2, f2⟩ := s_X10_fail (t := t) (c := 5) g1.1
            exact b_X9_readNumbers_41 (c2.up (by omega)) (by omega) ⟨σ2, rfl, g2, ff.trans (f2.mono mTx)⟩
        · rw [numP_no hn]
          obtain ⟨σ2, c2, g2, f2⟩ := s_num_no (t := t) g1.1 hn (by omega)
          exact b_X9_readNumbers_16 (c2.up (by omega)) (by omega) (fun q => by omega) (fun _ => b_X9_readNumbers_26 ⟨σ2, rfl, g2, ff.trans (f2.mono mTx)⟩)
      · rw [if_neg h2]
        exact b_X9_readNumbers_8 (by omega) (fun _ => b_X9_readNumbers_77 ⟨σ1, rfl, g1, ff⟩) (fun q => by omega)
  exact key 61 0 A p σ (by omega) h rfl h0 (Fr.refl _ _)
theorem rwA_bd (A : RA) (l : List Nat) : rwA A l = -1 ∨ (0 ≤ rwA A l ∧ rwA A l < rN A) := by
  have h := fndF_bd (P := fun r => rNm A r = l) (rN A) 0
  unfold rwA
  omega
theorem s_X9_readRow {t : KT} {σ : SG} {T : TB} {A : RA} {m p : Nat} (h : SY T A m p σ) : ∃ σ', Ca 5 67 [aR (some (14, 0, 0)), aR (some (2, 0, 0))] (am_hp σ) t (.inl (some (aI (iZ (bO (rowP T A m p))))), am_hp σ', t) ∧ SP T (rowP T A m p) σ' ∧ Fr inSy σ σ' := by
  have e4 := h.2.1.1
  have h4 := h.2.2.1.1
  refine ex_of (e_X9_readRow ?_)
  unfold rowP
  refine b_X9_readRow_0 (by omega) (fun q => ?_) (fun q => ?_)
  · rw [if_neg (by omega)]
    obtain ⟨σ1, c1, g1, f1⟩ := s_adv (t := t) h
    unfold kdP
    by_cases hk : tK T (tE T p) = 1
    · rw [if_neg (by omega)]
      have ho := tK_1n hk
      have en := g1.1.2.2.2.2.2.2 hk
      refine b_X9_readRow_17 (c1.up (by omega)) ((s_sees_ok g1.1 hk).up (by omega)) (by omega) (fun _ => ?_) (fun q => by omega)
      have cn := s_X7_rowNm (t := t) g1.2.2.1 g1.2.1 ho.2.2 ho.2.1
      have hb := rwA_bd A (tL T (tE T p))
      rw [← en] at cn
      refine b_X9_readRow_31 (cn.up (by omega)) (by omega) (fun q2 => ?_) (fun q2 => ?_)
      · rw [if_neg (fun z => z q2)]
        obtain ⟨σ2, c2, g2, f2⟩ := s_X7_addRow (d := 0) (t := t) (nm := tL T (tE T p)) g1.2.1 (by omega)
        rw [← en] at c2
        have ga : SY T (addA A (tL T (tE T p))) m (tE T p) σ2 := by
          obtain ⟨y1, y2, y3, y4, y5, y6, y7⟩ := g1
          have e2 : σ2.1 (2, 0, 0) = σ1.1 (2, 0, 0) := (f2.1 _ (by unfold inR; omega)).1
          have e14 : σ2.1 (14, 0, 0) = σ1.1 (14, 0, 0) := (f2.1 _ (by unfold inR; omega)).1
          exact ⟨y1.fr f2 (by unfold inR; omega) (by unfold inR; omega), g2, Av_add y3 (by omega) ho, by rw [e14]; exact y4, y5, by rw [e2]; exact y6, by rw [e2]; exact y7⟩
        obtain ⟨σ3, c3, g3, f3⟩ := s_adv (t := t) ga
        obtain ⟨σ4, c4, g4, f4⟩ := s_X9_readNumbers (t := t) (r := rN A) g3 (by show rN A < rN A + 1; omega) (by show fup (rLn A) (rN A) 0 (rN A) = 0; unfold fup; rw [if_pos rfl])
        have e34 : σ3.1 (8, 1, 0) 4 = ((rN A + 1 : Nat) : Int) := g3.2.1.1
        rw [show ((rN A : Nat) : Int) = σ3.1 (8, 1, 0) 4 - 1 by rw [e34]; omega] at c4
        refine b_X9_readRow_52 (c2.up (by omega)) (c3.up (by omega)) (c4.up (by omega)) ?_ ⟨σ4, rfl, g4, (((f1.1.mono mTx).trans (f2.mono mR1)).trans (f3.1.mono mTx)).trans f4⟩
        cases numsP T (rN A) m 61 (addA A (tL T (tE T p))) (tE T (tE T p)) with
        | inl x => exact Or.inr rfl
        | inr e => exact Or.inl rfl
      · rw [if_pos q2]
        obtain ⟨σ2, c2, g2, f2⟩ := s_X10_fail (t := t) (c := 3) g1.1
        exact b_X9_readRow_46 (c2.up (by omega)) (by omega) ⟨σ2, rfl, g2, (f1.1.mono mTx).trans (f2.mono mTx)⟩
    · rw [if_pos hk]
      obtain ⟨σ2, c2, g2, f2⟩ := s_sees_no (t := t) (w := 1) g1.1 hk (by omega)
      exact b_X9_readRow_17 (c1.up (by omega)) (c2.up (by omega)) (by omega) (fun q => by omega) (fun _ => b_X9_readRow_29 ⟨σ2, rfl, g2, (f1.1.mono mTx).trans (f2.mono mTx)⟩)
  · rw [if_pos (by omega)]
    obtain ⟨σ2, c2, g2, f2⟩ := s_X10_fail (t := t) (c := 5) h.1
    exact b_X9_readRow_11 (c2.up (by omega)) (by omega) ⟨σ2, rfl, g2, f2.mono mTx⟩
theorem told_bit : ∀ w : Nat, w < 9 → ∀ m : Nat, m < 512 → m / 2 ^ w % 2 ≠ 1 → zor m (zshl 1 w) = ((m + 2 ^ w : Nat) : Int) ∧ m + 2 ^ w < 512 := by decide +kernel
theorem s_X9_readPrice {t : KT} {σ : SG} {T : TB} {A : RA} {m p : Nat} (h : SY T A m p σ) : ∃ σ', Ca 4 69 [aR (some (14, 0, 0)), aR (some (2, 0, 0))] (am_hp σ) t (.inl (some (aI (iZ (bO (priP T A m p))))), am_hp σ', t) ∧ SP T (priP T A m p) σ' ∧ Fr inSy σ σ' := by
  refine ex_of (e_X9_readPrice ?_)
  unfold priP
  obtain ⟨σ1, c1, g1, f1⟩ := s_adv (t := t) h
  by_cases hn : tK T (tE T p) = 2 ∧ ¬ (tN T (tE T p) < 0 ∨ 8 < tN T (tE T p))
  · rw [numP_ok hn]
    have e3 := g1.1.2.2.2.2.2.1 hn.1
    have e14 := g1.2.2.2.1
    have hm := g1.2.2.2.2.1
    have hbit := zand_bit (tN T (tE T p)) (by omega) m hm
    refine b_X9_readPrice_0 (c1.up (by omega)) ((s_num_ok g1.1 hn.1 hn.2 (by omega)).up (by omega)) (by omega) (fun _ => ?_) (fun q => by omega)
    refine b_X9_readPrice_16 (by rw [e14, e3, hbit]; omega) (fun q => ?_) (fun q => ?_)
    · rw [e14, e3, hbit] at q
      rw [if_neg (by omega), e3]
      have ht := told_bit (tN T (tE T p)) (by omega) m hm (by omega)
      have fa : Fr (fun L => L = (14, 0, 0)) σ1 (sI σ1 (14, 0, 0) (up (σ1.1 (14, 0, 0)) 1 (zor (σ1.1 (14, 0, 0) 1) (zshl 1 (tN T (tE T p) : Int))))) := Fr.sI rfl
      have ga : SY T A (m + 2 ^ tN T (tE T p)) (tE T p) (sI σ1 (14, 0, 0) (up (σ1.1 (14, 0, 0)) 1 (zor (σ1.1 (14, 0, 0) 1) (zshl 1 (tN T (tE T p) : Int))))) := by
        obtain ⟨y1, y2, y3, y4, y5, y6, y7⟩ := g1
        refine ⟨y1.fr fa (by decide) (by decide), y2.fr fa (fun L hL hP => by
          have hP : L = (14, 0, 0) := hP
          subst hP
          unfold inR at hL
          omega), y3, ?_, ht.2, by simpa [sI_1] using y6, by simpa [sI_1] using y7⟩
        rw [y4, ht.1]
        simp [sI_1, up_at]
      obtain ⟨σ2, c2, g2, f2⟩ := s_adv (t := t) ga
      have fs : Fr inSy σ σ2 := ((f1.1.mono mTx).trans (fa.mono (fun L hL => Or.inr (Or.inr hL)))).trans (f2.1.mono mTx)
      by_cases hq : tK T (tE T (tE T p)) = 2 ∧ ¬ (tN T (tE T (tE T p)) < 0 ∨ 99 < tN T (tE T (tE T p)))
      · rw [numP_ok hq]
        have e4 := g2.1.2.2.2.2.2.1 hq.1
        refine b_X9_readPrice_39 (c2.up (by omega)) ((s_num_ok g2.1 hq.1 hq.2 (by omega)).up (by omega)) (by omega) (fun _ => ?_) (fun q => by omega)
        obtain ⟨σ3, c3, g3, f3⟩ := s_X7_putPrice (d := 0) (t := t) (w := tN T (tE T p)) (z := (tN T (tE T (tE T p)) : Int)) g2.2.1 (by omega)
        rw [← e4] at c3
        have gb : SY T (priA A (tN T (tE T p)) (tN T (tE T (tE T p)) : Int)) (m + 2 ^ tN T (tE T p)) (tE T (tE T p)) σ3 := by
          obtain ⟨y1, y2, y3, y4, y5, y6, y7⟩ := g2
          have e2 : σ3.1 (2, 0, 0) = σ2.1 (2, 0, 0) := (f3.1 _ (by unfold inR; omega)).1
          have e14 : σ3.1 (14, 0, 0) = σ2.1 (14, 0, 0) := (f3.1 _ (by unfold inR; omega)).1
          exact ⟨y1.fr f3 (by unfold inR; omega) (by unfold inR; omega), g3, Av_pri y3 (by omega), by rw [e14]; exact y4, y5, by rw [e2]; exact y6, by rw [e2]; exact y7⟩
        obtain ⟨σ4, c4, g4, f4⟩ := s_adv (t := t) gb
        exact b_X9_readPrice_67 (c3.up (by omega)) (c4.up (by omega)) ⟨σ4, rfl, g4, (fs.trans (f3.mono mR1)).trans (f4.1.mono mTx)⟩
      · rw [numP_no hq]
        obtain ⟨σ3, c3, g3, f3⟩ := s_num_no (t := t) g2.1 hq (by omega)
        exact b_X9_readPrice_39 (c2.up (by omega)) (c3.up (by omega)) (by omega) (fun q => by omega) (fun _ => b_X9_readPrice_65 ⟨σ3, rfl, g3, fs.trans (f3.mono mTx)⟩)
    · rw [e14, e3, hbit] at q
      rw [if_pos (by omega), e3]
      obtain ⟨σ2, c2, g2, f2⟩ := s_X10_fail (t := t) (c := 3) g1.1
      exact b_X9_readPrice_33 (c2.up (by omega)) (by omega) ⟨σ2, rfl, g2, (f1.1.mono mTx).trans (f2.mono mTx)⟩
  · rw [numP_no hn]
    obtain ⟨σ3, c3, g3, f3⟩ := s_num_no (t := t) g1.1 hn (by omega)
    exact b_X9_readPrice_0 (c1.up (by omega)) (c3.up (by omega)) (by omega) (fun q => by omega) (fun _ => b_X9_readPrice_14 ⟨σ3, rfl, g3, (f1.1.mono mTx).trans (f3.mono mTx)⟩)
theorem s_X9_readFill {t : KT} {σ : SG} {T : TB} {A : RA} {m p : Nat} (h : SY T A m p σ) : ∃ σ', Ca 4 70 [aR (some (14, 0, 0)), aR (some (2, 0, 0))] (am_hp σ) t (.inl (some (aI (iZ (bO (fillP T A m p))))), am_hp σ', t) ∧ SP T (fillP T A m p) σ' ∧ Fr inSy σ σ' := by
  refine ex_of (e_X9_readFill ?_)
  unfold fillP
  obtain ⟨σ1, c1, g1, f1⟩ := s_adv (t := t) h
  have h4 := h.2.2.1.1
  have fs1 := f1.1.mono mTx
  unfold kdP
  by_cases hk : tK T (tE T p) = 1
  · rw [if_neg (fun z => z hk)]
    have ho := tK_1n hk
    have en := g1.1.2.2.2.2.2.2 hk
    have cn := s_X7_rowNm (t := t) g1.2.2.1 g1.2.1 ho.2.2 ho.2.1
    have hb := rwA_bd A (tL T (tE T p))
    rw [← en] at cn
    refine b_X9_readFill_0 (c1.up (by omega)) ((s_sees_ok g1.1 hk).up (by omega)) (by omega) (fun _ => ?_) (fun q => by omega)
    refine b_X9_readFill_14 (cn.up (by omega)) (by omega) (fun q2 => ?_) (fun q2 => ?_)
    · rw [if_neg q2]
      obtain ⟨r, hr⟩ := Int.eq_ofNat_of_zero_le (show 0 ≤ rwA A (tL T (tE T p)) by omega)
      rw [hr] at hb ⊢
      rw [Int.toNat_natCast]
      have hrn : r < rN A := by omega
      obtain ⟨σ2, c2, g2, f2⟩ := s_adv (t := t) g1
      have fs2 := fs1.trans (f2.1.mono mTx)
      by_cases hn : tK T (tE T (tE T p)) = 2 ∧ ¬ (tN T (tE T (tE T p)) < 1 ∨ 60 < tN T (tE T (tE T p)))
      · rw [numP_ok hn]
        have e3 := g2.1.2.2.2.2.2.1 hn.1
        have cl := s_X7_lenOf (d := 0) (t := t) g2.2.2.1 g2.2.1 hrn
        have hl := g2.2.2.1.l hrn
        refine b_X9_readFill_37 (c2.up (by omega)) ((s_num_ok g2.1 hn.1 hn.2 (by omega)).up (by omega)) (by omega) (fun _ => ?_) (fun q => by omega)
        refine b_X9_readFill_53 (cl.up (by omega)) (by omega) (fun q => ?_) (fun q => ?_)
        · rw [if_neg (by omega), e3]
          obtain ⟨σ3, c3, g3, f3⟩ := s_adv (t := t) g2
          have fs3 := fs2.trans (f3.1.mono mTx)
          by_cases hq : tK T (tE T (tE T (tE T p))) = 2 ∧ ¬ (tN T (tE T (tE T (tE T p))) < 0 ∨ 268435455 < tN T (tE T (tE T (tE T p))))
          · rw [numP_ok hq]
            refine b_X9_readFill_79 (c3.up (by omega)) ((s_num_ok g3.1 hq.1 hq.2 (by omega)).up (by omega)) (by omega) (fun _ => ?_) (fun q => by omega)
            refine b_X9_readFill_95 ?_
            refine w_loopS (tN T (tE T (tE T p))) (fun k c => ∃ σ', c = (98, [some (aR (some (14, 0, 0))), some (aR (some (2, 0, 0))), some (aI (iZ ((r : Int)))), some (aI (iZ ((tN T (tE T (tE T p)) : Int)))), some (aI (iZ ((k : Int))))], [], am_hp σ', t) ∧ SY T (filA A r (tN T (tE T (tE T (tE T p))) : Int) k) m (tE T (tE T (tE T p))) σ' ∧ Fr inSy σ σ') ⟨σ3, rfl, g3, fs3⟩ (fun k c hk2 hI go => ?_) (fun c hI => ?_)
            · obtain ⟨σ4, rfl, g4, f4⟩ := hI
              have hf := filA_ok (v := (tN T (tE T (tE T (tE T p))) : Int)) h.2.2.1 hrn (by omega) k (by omega)
              have cl4 := s_X7_lenOf (d := 0) (t := t) (r := r) g4.2.2.1 g4.2.1 (by omega)
              have e5 := g4.1.2.2.2.2.2.1 hq.1
              obtain ⟨σ5, c5, g5, f5⟩ := s_X7_insertNumber (d := 0) (t := t) (r := r) (v := (tN T (tE T (tE T (tE T p))) : Int)) g4.2.2.1 g4.2.1 (by omega) (Nat.le_refl _) (by omega)
              refine b_X9_readFill_98 (by omega) (by omega) (fun q => by omega) (fun _ => ?_)
              exact b_X9_readFill_104 (σ1 := σ4) (σ2 := σ5) (cl4.up (by omega)) (by rw [e5]; exact c5.up (by omega)) (go _ ⟨σ5, rfl, g4.ins g5 f5 (by omega) (by omega) (by omega), f4.trans (f5.mono mR1)⟩)
            · obtain ⟨σ4, rfl, g4, f4⟩ := hI
              obtain ⟨σ5, c5, g5, f5⟩ := s_adv (t := t) g4
              exact b_X9_readFill_98 (by omega) (by omega) (fun _ => b_X9_readFill_130 (c5.up (by omega)) ⟨σ5, rfl, g5, f4.trans (f5.1.mono mTx)⟩) (fun q => by omega)
          · rw [numP_no hq]
            obtain ⟨σ4, c4, g4, f4⟩ := s_num_no (t := t) g3.1 hq (by omega)
            exact b_X9_readFill_79 (c3.up (by omega)) (c4.up (by omega)) (by omega) (fun q => by omega) (fun _ => b_X9_readFill_93 ⟨σ4, rfl, g4, fs3.trans (f4.mono mTx)⟩)
        · rw [if_pos (by omega), e3]
          obtain ⟨σ3, c3, g3, f3⟩ := s_X10_fail (t := t) (c := 5) g2.1
          exact b_X9_readFill_73 (c3.up (by omega)) (by omega) ⟨σ3, rfl, g3, fs2.trans (f3.mono mTx)⟩
      · rw [numP_no hn]
        obtain ⟨σ3, c3, g3, f3⟩ := s_num_no (t := t) g2.1 hn (by omega)
        exact b_X9_readFill_37 (c2.up (by omega)) (c3.up (by omega)) (by omega) (fun q => by omega) (fun _ => b_X9_readFill_51 ⟨σ3, rfl, g3, fs2.trans (f3.mono mTx)⟩)
    · rw [if_pos q2]
      obtain ⟨σ3, c3, g3, f3⟩ := s_X10_fail (t := t) (c := 4) g1.1
      exact b_X9_readFill_31 (c3.up (by omega)) (by omega) ⟨σ3, rfl, g3, fs1.trans (f3.mono mTx)⟩
  · rw [if_pos hk]
    obtain ⟨σ3, c3, g3, f3⟩ := s_sees_no (t := t) (w := 1) g1.1 hk (by omega)
    exact b_X9_readFill_0 (c1.up (by omega)) (c3.up (by omega)) (by omega) (fun q => by omega) (fun _ => b_X9_readFill_12 ⟨σ3, rfl, g3, fs1.trans (f3.mono mTx)⟩)
theorem bO_01 {α β : Type} (o : α ⊕ β) : bO o = 0 ∨ bO o = 1 := by
  cases o
  · exact Or.inr rfl
  · exact Or.inl rfl
theorem s_X9_readStatement {t : KT} {σ : SG} {T : TB} {A : RA} {m p : Nat} (h : SY T A m p σ) : ∃ σ', Ca 7 66 [aR (some (14, 0, 0)), aR (some (2, 0, 0))] (am_hp σ) t (.inl (some (aI (iZ (bO (stmP T A m p))))), am_hp σ', t) ∧ SP T (stmP T A m p) σ' ∧ Fr inSy σ σ' := by
  refine ex_of (e_X9_readStatement ?_)
  unfold stmP
  refine b_X9_readStatement_0 ((s_X10_isWord (k := 11) h.1 (by omega)).up (by omega)) bz_rg (fun q => ?_) (fun q => ?_)
  · rw [if_neg (bz_0.mp q)]
    refine b_X9_readStatement_15 ((s_X10_isWord (k := 12) h.1 (by omega)).up (by omega)) bz_rg (fun q => ?_) (fun q => ?_)
    · rw [if_neg (bz_0.mp q)]
      refine b_X9_readStatement_30 ((s_X10_isWord (k := 13) h.1 (by omega)).up (by omega)) bz_rg (fun q => ?_) (fun q => ?_)
      · rw [if_neg (bz_0.mp q)]
        obtain ⟨σ1, c1, g1, f1⟩ := s_X10_fail (t := t) (c := 1) h.1
        exact b_X9_readStatement_47 (c1.up (by omega)) (b_X9_readStatement_52 (by omega) ⟨σ1, rfl, g1, f1.mono mTx⟩)
      · rw [if_pos (bz_n.mp q)]
        obtain ⟨σ1, c1, g1, f1⟩ := s_X9_readFill (t := t) h
        exact b_X9_readStatement_39 (c1.up (by omega)) (b_X9_readStatement_52 (bO_01 _) ⟨σ1, rfl, g1, f1⟩)
    · rw [if_pos (bz_n.mp q)]
      obtain ⟨σ1, c1, g1, f1⟩ := s_X9_readPrice (t := t) h
      exact b_X9_readStatement_24 (c1.up (by omega)) (bO_01 _) ⟨σ1, rfl, g1, f1⟩
  · rw [if_pos (bz_n.mp q)]
    obtain ⟨σ1, c1, g1, f1⟩ := s_X9_readRow (t := t) h
    exact b_X9_readStatement_9 (c1.up (by omega)) (bO_01 _) ⟨σ1, rfl, g1, f1⟩
