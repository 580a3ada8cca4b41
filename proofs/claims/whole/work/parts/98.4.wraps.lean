/-! THE LAW'S WRAPPERS: a call of the class, its exceptions caught -/
set_option maxRecDepth 4000
def inLw (L : Lc) : Prop := L.1 < 40 ∨ L.1 = 70
abbrev bump (t : KT) : KT := (t.1, t.2.1 + 1, t.2.2 + 6)
theorem rg32 (x : Int32) : -2147483648 ≤ x.toInt ∧ x.toInt < 2147483648 := by
  have h1 := Int32.toInt_lt x
  have h2 := Int32.le_toInt x
  omega
theorem ex2_of {d y : Nat} {as : List AV} {h : AH} {t : KT} {v : Option AV} {P : SG → KT → Prop} (w : ∃ r, Ca d y as h t r ∧ ∃ σ' t', r = (.inl v, am_hp σ', t') ∧ P σ' t') : ∃ σ' t', Ca d y as h t (.inl v, am_hp σ', t') ∧ P σ' t' := by
  obtain ⟨r, c, σ', t', e, p⟩ := w
  subst e
  exact ⟨σ', t', c, p⟩
theorem CS.o {S : SS} {σ : SG} {f : Nat → Int} (h : CS S σ) : CS S (sJ σ (70, 0, 0) f) := h.keep (Fr.sJ (P := fun L => L.1 = 70) rfl) (fun L a b => by
  have b : L.1 = 70 := b
  unfold inCo at a
  omega)
theorem lwFr {σ σ1 : SG} {f : Nat → Int} (g : Fr inLw σ σ1) : Fr inLw σ (sJ σ1 (70, 0, 0) f) := g.trans (Fr.sJ (Or.inr rfl))
theorem lwVr {σ1 : SG} {z : Int} : (sJ σ1 (70, 0, 0) (up (σ1.2.1 (70, 0, 0)) (0 : Int).toNat z)).2.1 (70, 0, 0) 0 = z := by rw [sJ_21, if_pos rfl, up_at, if_pos (show (0 : Nat) = (0 : Int).toNat from rfl)]
theorem mo_l {z : Int} : 0 ≤ moC (.inl z) ∧ moC (.inl z) ≤ 2 := ⟨Int.le_refl 0, (by decide : (0 : Int) ≤ 2)⟩
theorem mo_1 : 0 ≤ moC (.inr 1) ∧ moC (.inr 1) ≤ 2 := by decide
theorem mo_2 : 0 ≤ moC (.inr 2) ∧ moC (.inr 2) ≤ 2 := by decide
def On1 : RZ → Prop
  | .inl _ => True
  | .inr c => c = 1
def On2 : RZ → Prop
  | .inl _ => True
  | .inr c => c = 1 ∨ c = 2
theorem on1_l {z : Int} : On1 (.inl z) := trivial
theorem on1_r : On1 (.inr 1) := rfl
theorem on2_l {z : Int} : On2 (.inl z) := trivial
theorem on2_r : On2 (.inr 1) := Or.inl rfl
theorem on2_s : On2 (.inr 2) := Or.inr rfl
theorem on1_if {c : Prop} [Decidable c] {a b : RZ} (h1 : On1 a) (h2 : On1 b) : On1 (if c then a else b) := by split <;> assumption
theorem on2_if {c : Prop} [Decidable c] {a b : RZ} (h1 : On2 a) (h2 : On2 b) : On2 (if c then a else b) := by split <;> assumption
theorem on1_ip {α : Type} {c : Prop} [Decidable c] {a b : RZ × α} (h1 : On1 a.1) (h2 : On1 b.1) : On1 (if c then a else b).1 := by split <;> assumption
theorem on2_ip {α : Type} {c : Prop} [Decidable c] {a b : RZ × α} (h1 : On2 a.1) (h2 : On2 b.1) : On2 (if c then a else b).1 := by split <;> assumption
theorem on_call {S : SS} {c : Nat} {nm : List Nat} {x y i v : Int} : On2 (R_call S c nm x y i v) := by
  unfold R_call
  by_cases q : vdA (xA S) c nm x y i v = 0
  · rw [if_pos q]; exact on2_l
  · rw [if_neg q]
    by_cases q2 : vdA (xA S) c nm x y i v ≤ 2
    · rw [if_pos q2]
      show vdA (xA S) c nm x y i v = 1 ∨ vdA (xA S) c nm x y i v = 2
      omega
    · rw [if_neg q2]; exact on2_l
theorem on_call1 {S : SS} {c : Nat} {nm : List Nat} {x y i v : Int} (h : vdA (xA S) c nm x y i v ≠ 2) : On1 (R_call S c nm x y i v) := by
  unfold R_call
  by_cases q : vdA (xA S) c nm x y i v = 0
  · rw [if_pos q]; exact on1_l
  · rw [if_neg q]
    by_cases q2 : vdA (xA S) c nm x y i v ≤ 2
    · rw [if_pos q2]
      show vdA (xA S) c nm x y i v = 1
      omega
    · rw [if_neg q2]; exact on1_l
theorem on_remove {S : SS} {nm : List Nat} {x y i v : Int} : On1 (R_call S 4 nm x y i v) := on_call1 (by
  show (if isN (xA S) x i then 0 else 1) ≠ 2
  split <;> omega)
theorem on_join {S : SS} {nm : List Nat} {x y i v : Int} : On1 (R_call S 5 nm x y i v) := on_call1 (by
  show (if ¬ (isR (xA S) x ∧ isR (xA S) y) then 1 else if 60 < rLn (xA S) x.toNat + rLn (xA S) y.toNat then 103 else 0) ≠ 2
  split
  · omega
  · split <;> omega)

theorem on_feed {S : SS} {a b c d e : Int} : On1 ((A_feed S a b c d e).1) := by
  unfold A_feed
  repeat' first | exact on1_l | exact on1_r | apply on1_if | apply on1_ip

theorem lw_feed {t : KT} {σ : SG} {S : SS} {a b c d e : Int} (h : CS S σ) (h_a : -2147483648 ≤ a ∧ a < 2147483648) (h_b : -2147483648 ≤ b ∧ b < 2147483648) (h_c : -2147483648 ≤ c ∧ c < 2147483648) (h_d : -2147483648 ≤ d ∧ d < 2147483648) (h_e : -2147483648 ≤ e ∧ e < 2147483648) : ∃ σ' t', Ca 3 344 [aR (some (1, 0, 0)), aI (iZ a), aI (iZ b), aI (iZ c), aI (iZ d), aI (iZ e), aR (some (70, 0, 0))] (am_hp σ) t (.inl (some (aI (iZ (moC ((A_feed S a b c d e).1))))), am_hp σ', t') ∧ CS ((A_feed S a b c d e).2) σ' ∧ Fr inLw σ σ' ∧ (t' = t ∨ t' = bump t) ∧ (0 ≤ moC ((A_feed S a b c d e).1) ∧ moC ((A_feed S a b c d e).1) ≤ 2) ∧ (moC ((A_feed S a b c d e).1) = 0 → σ'.2.1 (70, 0, 0) 0 = (iZ (moI ((A_feed S a b c d e).1))).toInt) := by
  have on : On1 ((A_feed S a b c d e).1) := on_feed
  obtain ⟨σ1, cc, h1, fp⟩ := s_X11_feed (t := t) h h_a h_b h_c h_d h_e
  have f1 : Fr inLw σ σ1 := fp.mono (fun L q => by simp only [inN, inCa, inRp, inCl, inLw] at *; omega)
  generalize (A_feed S a b c d e).1 = rz at cc on ⊢
  refine ex2_of (e_L_feed (d := 2) ?_)
  rcases rz with zv | zc
  · have cc : Ca 2 89 [aR (some (1, 0, 0)), aI (iZ a), aI (iZ b), aI (iZ c), aI (iZ d), aI (iZ e)] (am_hp σ) t (.inl (some (aI (iZ (iZ zv).toInt))), am_hp σ1, t) := by rw [iZ_toInt]; exact cc
    exact b_L_feed_0 (cc.up (by decide)) (rg32 _) (b_L_feed_23 ⟨_, t, rfl, h1.o, lwFr f1, Or.inl rfl, mo_l, fun _ => lwVr⟩)
  · obtain rfl : zc = 1 := on
    have cc : Ca 2 89 [aR (some (1, 0, 0)), aI (iZ a), aI (iZ b), aI (iZ c), aI (iZ d), aI (iZ e)] (am_hp σ) t (.inr 0, am_hp σ1, bump t) := cc
    exact bh_L_feed_0_0 (cc.up (by decide)) (b_L_feed_21 ⟨σ1, bump t, rfl, h1, f1, Or.inr rfl, mo_1, fun q => absurd q (by decide)⟩)
theorem on_truncate {S : SS} {n : Int} : On1 ((A_truncate S n).1) := by
  unfold A_truncate
  repeat' first | exact on1_l | exact on1_r | apply on1_if | apply on1_ip

theorem lw_truncate {t : KT} {σ : SG} {S : SS} {n : Int} (h : CS S σ) (h_n : -2147483648 ≤ n ∧ n < 2147483648) : ∃ σ' t', Ca 2 345 [aR (some (1, 0, 0)), aI (iZ n), aR (some (70, 0, 0))] (am_hp σ) t (.inl (some (aI (iZ (moC ((A_truncate S n).1))))), am_hp σ', t') ∧ CS ((A_truncate S n).2) σ' ∧ Fr inLw σ σ' ∧ (t' = t ∨ t' = bump t) ∧ (0 ≤ moC ((A_truncate S n).1) ∧ moC ((A_truncate S n).1) ≤ 2) ∧ (moC ((A_truncate S n).1) = 0 → σ'.2.1 (70, 0, 0) 0 = (iZ (moI ((A_truncate S n).1))).toInt) := by
  have on : On1 ((A_truncate S n).1) := on_truncate
  obtain ⟨σ1, cc, h1, fp⟩ := s_X11_truncate (t := t) h h_n
  have f1 : Fr inLw σ σ1 := fp.mono (fun L q => by
    have q : L = (2, 0, 0) := q
    subst q
    exact Or.inl (by decide))
  generalize (A_truncate S n).1 = rz at cc on ⊢
  refine ex2_of (e_L_truncate (d := 1) ?_)
  rcases rz with zv | zc
  · have cc : Ca 1 90 [aR (some (1, 0, 0)), aI (iZ n)] (am_hp σ) t (.inl (some (aI (iZ (iZ zv).toInt))), am_hp σ1, t) := by rw [iZ_toInt]; exact cc
    exact b_L_truncate_0 (cc.up (by decide)) (rg32 _) (b_L_truncate_15 ⟨_, t, rfl, h1.o, lwFr f1, Or.inl rfl, mo_l, fun _ => lwVr⟩)
  · obtain rfl : zc = 1 := on
    have cc : Ca 1 90 [aR (some (1, 0, 0)), aI (iZ n)] (am_hp σ) t (.inr 1, am_hp σ1, bump t) := cc
    exact bh_L_truncate_0_1 (cc.up (by decide)) (b_L_truncate_13 ⟨σ1, bump t, rfl, h1, f1, Or.inr rfl, mo_1, fun q => absurd q (by decide)⟩)
theorem on_readText {S : SS} : On1 ((A_readText S).1) := by
  unfold A_readText
  split
  all_goals first | exact on1_l | exact on1_r

theorem lw_readText {t : KT} {σ : SG} {S : SS} (h : CS S σ) : ∃ σ' t', Ca 10 346 [aR (some (1, 0, 0)), aR (some (70, 0, 0))] (am_hp σ) t (.inl (some (aI (iZ (moC ((A_readText S).1))))), am_hp σ', t') ∧ CS ((A_readText S).2) σ' ∧ Fr inLw σ σ' ∧ (t' = t ∨ t' = bump t) ∧ (0 ≤ moC ((A_readText S).1) ∧ moC ((A_readText S).1) ≤ 2) ∧ (moC ((A_readText S).1) = 0 → σ'.2.1 (70, 0, 0) 0 = (iZ (moI ((A_readText S).1))).toInt) := by
  have on : On1 ((A_readText S).1) := on_readText
  obtain ⟨σ1, cc, h1, fp⟩ := s_X11_readText (t := t) h 
  have f1 : Fr inLw σ σ1 := fp.mono (fun L q => by simp only [inN, inCa, inRp, inCl, inLw] at *; omega)
  generalize (A_readText S).1 = rz at cc on ⊢
  refine ex2_of (e_L_readText (d := 9) ?_)
  rcases rz with zv | zc
  · have cc : Ca 9 91 [aR (some (1, 0, 0))] (am_hp σ) t (.inl (some (aI (iZ (iZ zv).toInt))), am_hp σ1, t) := by rw [iZ_toInt]; exact cc
    exact b_L_readText_0 (cc.up (by decide)) (rg32 _) (b_L_readText_14 ⟨_, t, rfl, h1.o, lwFr f1, Or.inl rfl, mo_l, fun _ => lwVr⟩)
  · obtain rfl : zc = 1 := on
    have cc : Ca 9 91 [aR (some (1, 0, 0))] (am_hp σ) t (.inr 1, am_hp σ1, bump t) := cc
    exact bh_L_readText_0_1 (cc.up (by decide)) (b_L_readText_12 ⟨σ1, bump t, rfl, h1, f1, Or.inr rfl, mo_1, fun q => absurd q (by decide)⟩)
theorem on_runScript {S : SS} : On1 ((A_runScript S).1) := by
  unfold A_runScript
  split
  all_goals first | exact on1_l | exact on1_r

theorem lw_runScript {t : KT} {σ : SG} {S : SS} (h : CS S σ) : ∃ σ' t', Ca 12 347 [aR (some (1, 0, 0)), aR (some (70, 0, 0))] (am_hp σ) t (.inl (some (aI (iZ (moC ((A_runScript S).1))))), am_hp σ', t') ∧ CS ((A_runScript S).2) σ' ∧ Fr inLw σ σ' ∧ (t' = t ∨ t' = bump t) ∧ (0 ≤ moC ((A_runScript S).1) ∧ moC ((A_runScript S).1) ≤ 2) ∧ (moC ((A_runScript S).1) = 0 → σ'.2.1 (70, 0, 0) 0 = (iZ (moI ((A_runScript S).1))).toInt) := by
  have on : On1 ((A_runScript S).1) := on_runScript
  obtain ⟨σ1, cc, h1, fp⟩ := s_X11_runScript (t := t) h 
  have f1 : Fr inLw σ σ1 := fp.mono (fun L q => by simp only [inN, inCa, inRp, inCl, inLw] at *; omega)
  generalize (A_runScript S).1 = rz at cc on ⊢
  refine ex2_of (e_L_runScript (d := 11) ?_)
  rcases rz with zv | zc
  · have cc : Ca 11 92 [aR (some (1, 0, 0))] (am_hp σ) t (.inl (some (aI (iZ (iZ zv).toInt))), am_hp σ1, t) := by rw [iZ_toInt]; exact cc
    exact b_L_runScript_0 (cc.up (by decide)) (rg32 _) (b_L_runScript_14 ⟨_, t, rfl, h1.o, lwFr f1, Or.inl rfl, mo_l, fun _ => lwVr⟩)
  · obtain rfl : zc = 1 := on
    have cc : Ca 11 92 [aR (some (1, 0, 0))] (am_hp σ) t (.inr 1, am_hp σ1, bump t) := cc
    exact bh_L_runScript_0_1 (cc.up (by decide)) (b_L_runScript_12 ⟨σ1, bump t, rfl, h1, f1, Or.inr rfl, mo_1, fun q => absurd q (by decide)⟩)
theorem on_setting {S : SS} {x : Int} : On1 (A_setting (xA S) x) := by
  unfold A_setting
  repeat' first | exact on1_l | exact on1_r | apply on1_if | apply on1_ip

theorem lw_setting {t : KT} {σ : SG} {S : SS} {x : Int} (h : CS S σ) (h_x : -2147483648 ≤ x ∧ x < 2147483648) : ∃ σ' t', Ca 5 348 [aR (some (1, 0, 0)), aI (iZ x), aR (some (70, 0, 0))] (am_hp σ) t (.inl (some (aI (iZ (moC (A_setting (xA S) x))))), am_hp σ', t') ∧ CS (S) σ' ∧ Fr inLw σ σ' ∧ (t' = t ∨ t' = bump t) ∧ (0 ≤ moC (A_setting (xA S) x) ∧ moC (A_setting (xA S) x) ≤ 2) ∧ (moC (A_setting (xA S) x) = 0 → σ'.2.1 (70, 0, 0) 0 = (iZ (moI (A_setting (xA S) x))).toInt) := by
  have on : On1 (A_setting (xA S) x) := on_setting
  have cc := s_X11_setting (t := t) h.1 h_x
  have h1 := h
  have f1 : Fr inLw σ σ := Fr.refl _ _
  generalize A_setting (xA S) x = rz at cc on ⊢
  refine ex2_of (e_L_setting (d := 4) ?_)
  rcases rz with zv | zc
  · have cc : Ca 4 95 [aR (some (1, 0, 0)), aI (iZ x)] (am_hp σ) t (.inl (some (aI (iZ (iZ zv).toInt))), am_hp σ, t) := by rw [iZ_toInt]; exact cc
    exact b_L_setting_0 (cc.up (by decide)) (rg32 _) (b_L_setting_15 ⟨_, t, rfl, h1.o, lwFr f1, Or.inl rfl, mo_l, fun _ => lwVr⟩)
  · obtain rfl : zc = 1 := on
    have cc : Ca 4 95 [aR (some (1, 0, 0)), aI (iZ x)] (am_hp σ) t (.inr 1, am_hp σ, bump t) := cc
    exact bh_L_setting_0_1 (cc.up (by decide)) (b_L_setting_13 ⟨σ, bump t, rfl, h1, f1, Or.inr rfl, mo_1, fun q => absurd q (by decide)⟩)
theorem on_letter {S : SS} {r i : Int} : On1 (A_letter (xA S) r i) := by
  unfold A_letter
  repeat' first | exact on1_l | exact on1_r | apply on1_if | apply on1_ip

theorem lw_letter {t : KT} {σ : SG} {S : SS} {r i : Int} (h : CS S σ) (h_r : -2147483648 ≤ r ∧ r < 2147483648) (h_i : -2147483648 ≤ i ∧ i < 2147483648) : ∃ σ' t', Ca 4 349 [aR (some (1, 0, 0)), aI (iZ r), aI (iZ i), aR (some (70, 0, 0))] (am_hp σ) t (.inl (some (aI (iZ (moC (A_letter (xA S) r i))))), am_hp σ', t') ∧ CS (S) σ' ∧ Fr inLw σ σ' ∧ (t' = t ∨ t' = bump t) ∧ (0 ≤ moC (A_letter (xA S) r i) ∧ moC (A_letter (xA S) r i) ≤ 2) ∧ (moC (A_letter (xA S) r i) = 0 → σ'.2.1 (70, 0, 0) 0 = (iZ (moI (A_letter (xA S) r i))).toInt) := by
  have on : On1 (A_letter (xA S) r i) := on_letter
  have cc := s_X11_letter (t := t) h.1 h_r h_i
  have h1 := h
  have f1 : Fr inLw σ σ := Fr.refl _ _
  generalize A_letter (xA S) r i = rz at cc on ⊢
  refine ex2_of (e_L_letter (d := 3) ?_)
  rcases rz with zv | zc
  · have cc : Ca 3 96 [aR (some (1, 0, 0)), aI (iZ r), aI (iZ i)] (am_hp σ) t (.inl (some (aI (iZ (iZ zv).toInt))), am_hp σ, t) := by rw [iZ_toInt]; exact cc
    exact b_L_letter_0 (cc.up (by decide)) (rg32 _) (b_L_letter_17 ⟨_, t, rfl, h1.o, lwFr f1, Or.inl rfl, mo_l, fun _ => lwVr⟩)
  · obtain rfl : zc = 1 := on
    have cc : Ca 3 96 [aR (some (1, 0, 0)), aI (iZ r), aI (iZ i)] (am_hp σ) t (.inr 2, am_hp σ, bump t) := cc
    exact bh_L_letter_0_2 (cc.up (by decide)) (b_L_letter_15 ⟨σ, bump t, rfl, h1, f1, Or.inr rfl, mo_1, fun q => absurd q (by decide)⟩)
theorem on_way {S : SS} {w x : Int} : On2 (A_way (xA S) w x) := by
  unfold A_way
  repeat' first | exact on2_l | exact on2_r | exact on2_s | apply on2_if | apply on2_ip

theorem lw_way {t : KT} {σ : SG} {S : SS} {w x : Int} (h : CS S σ) (h_w : -2147483648 ≤ w ∧ w < 2147483648) (h_x : -2147483648 ≤ x ∧ x < 2147483648) : ∃ σ' t', Ca 5 350 [aR (some (1, 0, 0)), aI (iZ w), aI (iZ x), aR (some (70, 0, 0))] (am_hp σ) t (.inl (some (aI (iZ (moC (A_way (xA S) w x))))), am_hp σ', t') ∧ CS (S) σ' ∧ Fr inLw σ σ' ∧ (t' = t ∨ t' = bump t) ∧ (0 ≤ moC (A_way (xA S) w x) ∧ moC (A_way (xA S) w x) ≤ 2) ∧ (moC (A_way (xA S) w x) = 0 → σ'.2.1 (70, 0, 0) 0 = (iZ (moI (A_way (xA S) w x))).toInt) := by
  have on : On2 (A_way (xA S) w x) := on_way
  have cc := s_X11_way (t := t) h.1 h_w h_x
  have h1 := h
  have f1 : Fr inLw σ σ := Fr.refl _ _
  generalize A_way (xA S) w x = rz at cc on ⊢
  refine ex2_of (e_L_way (d := 4) ?_)
  rcases rz with zv | zc
  · have cc : Ca 4 97 [aR (some (1, 0, 0)), aI (iZ w), aI (iZ x)] (am_hp σ) t (.inl (some (aI (iZ (iZ zv).toInt))), am_hp σ, t) := by rw [iZ_toInt]; exact cc
    exact b_L_way_0 (cc.up (by decide)) (rg32 _) (b_L_way_21 ⟨_, t, rfl, h1.o, lwFr f1, Or.inl rfl, mo_l, fun _ => lwVr⟩)
  · rcases (on : zc = 1 ∨ zc = 2) with rfl | rfl
    · skip
      have cc : Ca 4 97 [aR (some (1, 0, 0)), aI (iZ w), aI (iZ x)] (am_hp σ) t (.inr 2, am_hp σ, bump t) := cc
      exact bh_L_way_0_2 (cc.up (by decide)) (b_L_way_15 ⟨σ, bump t, rfl, h1, f1, Or.inr rfl, mo_1, fun q => absurd q (by decide)⟩)
    · skip
      have cc : Ca 4 97 [aR (some (1, 0, 0)), aI (iZ w), aI (iZ x)] (am_hp σ) t (.inr 1, am_hp σ, bump t) := cc
      exact bh_L_way_0_1 (cc.up (by decide)) (b_L_way_19 ⟨σ, bump t, rfl, h1, f1, Or.inr rfl, mo_2, fun q => absurd q (by decide)⟩)
theorem on_row {S : SS} {r x : Int} : On2 (A_row (xA S) r x) := by
  unfold A_row
  repeat' first | exact on2_l | exact on2_r | exact on2_s | apply on2_if | apply on2_ip

theorem lw_row {t : KT} {σ : SG} {S : SS} {r x : Int} (h : CS S σ) (h_r : -2147483648 ≤ r ∧ r < 2147483648) (h_x : -2147483648 ≤ x ∧ x < 2147483648) : ∃ σ' t', Ca 6 351 [aR (some (1, 0, 0)), aI (iZ r), aI (iZ x), aR (some (70, 0, 0))] (am_hp σ) t (.inl (some (aI (iZ (moC (A_row (xA S) r x))))), am_hp σ', t') ∧ CS (S) σ' ∧ Fr inLw σ σ' ∧ (t' = t ∨ t' = bump t) ∧ (0 ≤ moC (A_row (xA S) r x) ∧ moC (A_row (xA S) r x) ≤ 2) ∧ (moC (A_row (xA S) r x) = 0 → σ'.2.1 (70, 0, 0) 0 = (iZ (moI (A_row (xA S) r x))).toInt) := by
  have on : On2 (A_row (xA S) r x) := on_row
  have cc := s_X11_row (t := t) h.1 h_r h_x
  have h1 := h
  have f1 : Fr inLw σ σ := Fr.refl _ _
  generalize A_row (xA S) r x = rz at cc on ⊢
  refine ex2_of (e_L_row (d := 5) ?_)
  rcases rz with zv | zc
  · have cc : Ca 5 98 [aR (some (1, 0, 0)), aI (iZ r), aI (iZ x)] (am_hp σ) t (.inl (some (aI (iZ (iZ zv).toInt))), am_hp σ, t) := by rw [iZ_toInt]; exact cc
    exact b_L_row_0 (cc.up (by decide)) (rg32 _) (b_L_row_21 ⟨_, t, rfl, h1.o, lwFr f1, Or.inl rfl, mo_l, fun _ => lwVr⟩)
  · rcases (on : zc = 1 ∨ zc = 2) with rfl | rfl
    · skip
      have cc : Ca 5 98 [aR (some (1, 0, 0)), aI (iZ r), aI (iZ x)] (am_hp σ) t (.inr 2, am_hp σ, bump t) := cc
      exact bh_L_row_0_2 (cc.up (by decide)) (b_L_row_15 ⟨σ, bump t, rfl, h1, f1, Or.inr rfl, mo_1, fun q => absurd q (by decide)⟩)
    · skip
      have cc : Ca 5 98 [aR (some (1, 0, 0)), aI (iZ r), aI (iZ x)] (am_hp σ) t (.inr 1, am_hp σ, bump t) := cc
      exact bh_L_row_0_1 (cc.up (by decide)) (b_L_row_19 ⟨σ, bump t, rfl, h1, f1, Or.inr rfl, mo_2, fun q => absurd q (by decide)⟩)
theorem on_word {S : SS} {r k : Int} : On1 (A_word (xA S) r k) := by
  unfold A_word
  repeat' first | exact on1_l | exact on1_r | apply on1_if | apply on1_ip

theorem lw_word {t : KT} {σ : SG} {S : SS} {r k : Int} (h : CS S σ) (h_r : -2147483648 ≤ r ∧ r < 2147483648) (h_k : -2147483648 ≤ k ∧ k < 2147483648) : ∃ σ' t', Ca 5 352 [aR (some (1, 0, 0)), aI (iZ r), aI (iZ k), aR (some (70, 0, 0))] (am_hp σ) t (.inl (some (aI (iZ (moC (A_word (xA S) r k))))), am_hp σ', t') ∧ CS (S) σ' ∧ Fr inLw σ σ' ∧ (t' = t ∨ t' = bump t) ∧ (0 ≤ moC (A_word (xA S) r k) ∧ moC (A_word (xA S) r k) ≤ 2) ∧ (moC (A_word (xA S) r k) = 0 → σ'.2.1 (70, 0, 0) 0 = (iZ (moI (A_word (xA S) r k))).toInt) := by
  have on : On1 (A_word (xA S) r k) := on_word
  have cc := s_X11_word (t := t) h.1 h_r h_k
  have h1 := h
  have f1 : Fr inLw σ σ := Fr.refl _ _
  generalize A_word (xA S) r k = rz at cc on ⊢
  refine ex2_of (e_L_word (d := 4) ?_)
  rcases rz with zv | zc
  · have cc : Ca 4 99 [aR (some (1, 0, 0)), aI (iZ r), aI (iZ k)] (am_hp σ) t (.inl (some (aI (iZ (iZ zv).toInt))), am_hp σ, t) := by rw [iZ_toInt]; exact cc
    exact b_L_word_0 (cc.up (by decide)) (rg32 _) (b_L_word_17 ⟨_, t, rfl, h1.o, lwFr f1, Or.inl rfl, mo_l, fun _ => lwVr⟩)
  · obtain rfl : zc = 1 := on
    have cc : Ca 4 99 [aR (some (1, 0, 0)), aI (iZ r), aI (iZ k)] (am_hp σ) t (.inr 2, am_hp σ, bump t) := cc
    exact bh_L_word_0_2 (cc.up (by decide)) (b_L_word_15 ⟨σ, bump t, rfl, h1, f1, Or.inr rfl, mo_1, fun q => absurd q (by decide)⟩)
theorem on_wordPart {S : SS} {r k x : Int} : On2 (A_wordPart (xA S) r k x) := by
  unfold A_wordPart
  repeat' first | exact on2_l | exact on2_r | exact on2_s | apply on2_if | apply on2_ip

theorem lw_wordPart {t : KT} {σ : SG} {S : SS} {r k x : Int} (h : CS S σ) (h_r : -2147483648 ≤ r ∧ r < 2147483648) (h_k : -2147483648 ≤ k ∧ k < 2147483648) (h_x : -2147483648 ≤ x ∧ x < 2147483648) : ∃ σ' t', Ca 5 353 [aR (some (1, 0, 0)), aI (iZ r), aI (iZ k), aI (iZ x), aR (some (70, 0, 0))] (am_hp σ) t (.inl (some (aI (iZ (moC (A_wordPart (xA S) r k x))))), am_hp σ', t') ∧ CS (S) σ' ∧ Fr inLw σ σ' ∧ (t' = t ∨ t' = bump t) ∧ (0 ≤ moC (A_wordPart (xA S) r k x) ∧ moC (A_wordPart (xA S) r k x) ≤ 2) ∧ (moC (A_wordPart (xA S) r k x) = 0 → σ'.2.1 (70, 0, 0) 0 = (iZ (moI (A_wordPart (xA S) r k x))).toInt) := by
  have on : On2 (A_wordPart (xA S) r k x) := on_wordPart
  have cc := s_X11_wordPart (t := t) h.1 h_r h_k h_x
  have h1 := h
  have f1 : Fr inLw σ σ := Fr.refl _ _
  generalize A_wordPart (xA S) r k x = rz at cc on ⊢
  refine ex2_of (e_L_wordPart (d := 4) ?_)
  rcases rz with zv | zc
  · have cc : Ca 4 100 [aR (some (1, 0, 0)), aI (iZ r), aI (iZ k), aI (iZ x)] (am_hp σ) t (.inl (some (aI (iZ (iZ zv).toInt))), am_hp σ, t) := by rw [iZ_toInt]; exact cc
    exact b_L_wordPart_0 (cc.up (by decide)) (rg32 _) (b_L_wordPart_23 ⟨_, t, rfl, h1.o, lwFr f1, Or.inl rfl, mo_l, fun _ => lwVr⟩)
  · rcases (on : zc = 1 ∨ zc = 2) with rfl | rfl
    · skip
      have cc : Ca 4 100 [aR (some (1, 0, 0)), aI (iZ r), aI (iZ k), aI (iZ x)] (am_hp σ) t (.inr 2, am_hp σ, bump t) := cc
      exact bh_L_wordPart_0_2 (cc.up (by decide)) (b_L_wordPart_17 ⟨σ, bump t, rfl, h1, f1, Or.inr rfl, mo_1, fun q => absurd q (by decide)⟩)
    · skip
      have cc : Ca 4 100 [aR (some (1, 0, 0)), aI (iZ r), aI (iZ k), aI (iZ x)] (am_hp σ) t (.inr 1, am_hp σ, bump t) := cc
      exact bh_L_wordPart_0_1 (cc.up (by decide)) (b_L_wordPart_21 ⟨σ, bump t, rfl, h1, f1, Or.inr rfl, mo_2, fun q => absurd q (by decide)⟩)
theorem on_wordSum {S : SS} {r k : Int} : On1 (A_wordSum (xA S) r k) := by
  unfold A_wordSum
  repeat' first | exact on1_l | exact on1_r | apply on1_if | apply on1_ip

theorem lw_wordSum {t : KT} {σ : SG} {S : SS} {r k : Int} (h : CS S σ) (h_r : -2147483648 ≤ r ∧ r < 2147483648) (h_k : -2147483648 ≤ k ∧ k < 2147483648) : ∃ σ' t', Ca 5 354 [aR (some (1, 0, 0)), aI (iZ r), aI (iZ k), aR (some (70, 0, 0))] (am_hp σ) t (.inl (some (aI (iZ (moC (A_wordSum (xA S) r k))))), am_hp σ', t') ∧ CS (S) σ' ∧ Fr inLw σ σ' ∧ (t' = t ∨ t' = bump t) ∧ (0 ≤ moC (A_wordSum (xA S) r k) ∧ moC (A_wordSum (xA S) r k) ≤ 2) ∧ (moC (A_wordSum (xA S) r k) = 0 → σ'.2.1 (70, 0, 0) 0 = moI (A_wordSum (xA S) r k)) := by
  have on : On1 (A_wordSum (xA S) r k) := on_wordSum
  have cc := s_X11_wordSum (t := t) h.1 h_r h_k
  have h1 := h
  have f1 : Fr inLw σ σ := Fr.refl _ _
  generalize A_wordSum (xA S) r k = rz at cc on ⊢
  refine ex2_of (e_L_wordSum (d := 4) ?_)
  rcases rz with zv | zc
  · have cc : Ca 4 101 [aR (some (1, 0, 0)), aI (iZ r), aI (iZ k)] (am_hp σ) t (.inl (some (aL (jZ zv))), am_hp σ, t) := cc
    exact b_L_wordSum_0 (cc.up (by decide)) (b_L_wordSum_16 ⟨_, t, rfl, h1.o, lwFr f1, Or.inl rfl, mo_l, fun _ => lwVr⟩)
  · obtain rfl : zc = 1 := on
    have cc : Ca 4 101 [aR (some (1, 0, 0)), aI (iZ r), aI (iZ k)] (am_hp σ) t (.inr 2, am_hp σ, bump t) := cc
    exact bh_L_wordSum_0_2 (cc.up (by decide)) (b_L_wordSum_14 ⟨σ, bump t, rfl, h1, f1, Or.inr rfl, mo_1, fun q => absurd q (by decide)⟩)
theorem on_entryStart {S : SS} {r e : Int} : On1 (A_entryStart (xA S) r e) := by
  unfold A_entryStart
  repeat' first | exact on1_l | exact on1_r | apply on1_if | apply on1_ip

theorem lw_entryStart {t : KT} {σ : SG} {S : SS} {r e : Int} (h : CS S σ) (h_r : -2147483648 ≤ r ∧ r < 2147483648) (h_e : -2147483648 ≤ e ∧ e < 2147483648) : ∃ σ' t', Ca 4 355 [aR (some (1, 0, 0)), aI (iZ r), aI (iZ e), aR (some (70, 0, 0))] (am_hp σ) t (.inl (some (aI (iZ (moC (A_entryStart (xA S) r e))))), am_hp σ', t') ∧ CS (S) σ' ∧ Fr inLw σ σ' ∧ (t' = t ∨ t' = bump t) ∧ (0 ≤ moC (A_entryStart (xA S) r e) ∧ moC (A_entryStart (xA S) r e) ≤ 2) ∧ (moC (A_entryStart (xA S) r e) = 0 → σ'.2.1 (70, 0, 0) 0 = (iZ (moI (A_entryStart (xA S) r e))).toInt) := by
  have on : On1 (A_entryStart (xA S) r e) := on_entryStart
  have cc := s_X11_entryStart (t := t) h.1 h_r h_e
  have h1 := h
  have f1 : Fr inLw σ σ := Fr.refl _ _
  generalize A_entryStart (xA S) r e = rz at cc on ⊢
  refine ex2_of (e_L_entryStart (d := 3) ?_)
  rcases rz with zv | zc
  · have cc : Ca 3 102 [aR (some (1, 0, 0)), aI (iZ r), aI (iZ e)] (am_hp σ) t (.inl (some (aI (iZ (iZ zv).toInt))), am_hp σ, t) := by rw [iZ_toInt]; exact cc
    exact b_L_entryStart_0 (cc.up (by decide)) (rg32 _) (b_L_entryStart_17 ⟨_, t, rfl, h1.o, lwFr f1, Or.inl rfl, mo_l, fun _ => lwVr⟩)
  · obtain rfl : zc = 1 := on
    have cc : Ca 3 102 [aR (some (1, 0, 0)), aI (iZ r), aI (iZ e)] (am_hp σ) t (.inr 2, am_hp σ, bump t) := cc
    exact bh_L_entryStart_0_2 (cc.up (by decide)) (b_L_entryStart_15 ⟨σ, bump t, rfl, h1, f1, Or.inr rfl, mo_1, fun q => absurd q (by decide)⟩)
theorem on_entrySum {S : SS} {r e : Int} : On1 (A_entrySum (xA S) r e) := by
  unfold A_entrySum
  repeat' first | exact on1_l | exact on1_r | apply on1_if | apply on1_ip

theorem lw_entrySum {t : KT} {σ : SG} {S : SS} {r e : Int} (h : CS S σ) (h_r : -2147483648 ≤ r ∧ r < 2147483648) (h_e : -2147483648 ≤ e ∧ e < 2147483648) : ∃ σ' t', Ca 5 356 [aR (some (1, 0, 0)), aI (iZ r), aI (iZ e), aR (some (70, 0, 0))] (am_hp σ) t (.inl (some (aI (iZ (moC (A_entrySum (xA S) r e))))), am_hp σ', t') ∧ CS (S) σ' ∧ Fr inLw σ σ' ∧ (t' = t ∨ t' = bump t) ∧ (0 ≤ moC (A_entrySum (xA S) r e) ∧ moC (A_entrySum (xA S) r e) ≤ 2) ∧ (moC (A_entrySum (xA S) r e) = 0 → σ'.2.1 (70, 0, 0) 0 = moI (A_entrySum (xA S) r e)) := by
  have on : On1 (A_entrySum (xA S) r e) := on_entrySum
  have cc := s_X11_entrySum (t := t) h.1 h_r h_e
  have h1 := h
  have f1 : Fr inLw σ σ := Fr.refl _ _
  generalize A_entrySum (xA S) r e = rz at cc on ⊢
  refine ex2_of (e_L_entrySum (d := 4) ?_)
  rcases rz with zv | zc
  · have cc : Ca 4 103 [aR (some (1, 0, 0)), aI (iZ r), aI (iZ e)] (am_hp σ) t (.inl (some (aL (jZ zv))), am_hp σ, t) := cc
    exact b_L_entrySum_0 (cc.up (by decide)) (b_L_entrySum_16 ⟨_, t, rfl, h1.o, lwFr f1, Or.inl rfl, mo_l, fun _ => lwVr⟩)
  · obtain rfl : zc = 1 := on
    have cc : Ca 4 103 [aR (some (1, 0, 0)), aI (iZ r), aI (iZ e)] (am_hp σ) t (.inr 2, am_hp σ, bump t) := cc
    exact bh_L_entrySum_0_2 (cc.up (by decide)) (b_L_entrySum_14 ⟨σ, bump t, rfl, h1, f1, Or.inr rfl, mo_1, fun q => absurd q (by decide)⟩)
theorem on_why {S : SS} {r k w : Int} : On1 (A_why (xA S) r k w) := by
  unfold A_why
  repeat' first | exact on1_l | exact on1_r | apply on1_if | apply on1_ip

theorem lw_why {t : KT} {σ : SG} {S : SS} {r k w : Int} (h : CS S σ) (h_r : -2147483648 ≤ r ∧ r < 2147483648) (h_k : -2147483648 ≤ k ∧ k < 2147483648) (h_w : -2147483648 ≤ w ∧ w < 2147483648) : ∃ σ' t', Ca 6 357 [aR (some (1, 0, 0)), aI (iZ r), aI (iZ k), aI (iZ w), aR (some (70, 0, 0))] (am_hp σ) t (.inl (some (aI (iZ (moC (A_why (xA S) r k w))))), am_hp σ', t') ∧ CS (S) σ' ∧ Fr inLw σ σ' ∧ (t' = t ∨ t' = bump t) ∧ (0 ≤ moC (A_why (xA S) r k w) ∧ moC (A_why (xA S) r k w) ≤ 2) ∧ (moC (A_why (xA S) r k w) = 0 → σ'.2.1 (70, 0, 0) 0 = (iZ (moI (A_why (xA S) r k w))).toInt) := by
  have on : On1 (A_why (xA S) r k w) := on_why
  obtain ⟨σ1, cc, fp⟩ := s_X11_why (t := t) h.1 h_r h_k h_w
  have h1 := h.P fp
  have f1 : Fr inLw σ σ1 := fp.mono (fun L q => by simp only [inP, inA, inLw] at *; omega)
  generalize A_why (xA S) r k w = rz at cc on ⊢
  refine ex2_of (e_L_why (d := 5) ?_)
  rcases rz with zv | zc
  · have cc : Ca 5 104 [aR (some (1, 0, 0)), aI (iZ r), aI (iZ k), aI (iZ w)] (am_hp σ) t (.inl (some (aI (iZ (iZ zv).toInt))), am_hp σ1, t) := by rw [iZ_toInt]; exact cc
    exact b_L_why_0 (cc.up (by decide)) (rg32 _) (b_L_why_19 ⟨_, t, rfl, h1.o, lwFr f1, Or.inl rfl, mo_l, fun _ => lwVr⟩)
  · obtain rfl : zc = 1 := on
    have cc : Ca 5 104 [aR (some (1, 0, 0)), aI (iZ r), aI (iZ k), aI (iZ w)] (am_hp σ) t (.inr 2, am_hp σ1, bump t) := cc
    exact bh_L_why_0_2 (cc.up (by decide)) (b_L_why_17 ⟨σ1, bump t, rfl, h1, f1, Or.inr rfl, mo_1, fun q => absurd q (by decide)⟩)
theorem on_read {S : SS} {r i : Int} : On1 ((A_read (xA S) r i).1) := by
  unfold A_read
  repeat' first | exact on1_l | exact on1_r | apply on1_if | apply on1_ip

theorem lw_read {t : KT} {σ : SG} {S : SS} {r i : Int} (h : CS S σ) (h_r : -2147483648 ≤ r ∧ r < 2147483648) (h_i : -2147483648 ≤ i ∧ i < 2147483648) : ∃ σ' t', Ca 5 358 [aR (some (1, 0, 0)), aI (iZ r), aI (iZ i), aR (some (70, 0, 0))] (am_hp σ) t (.inl (some (aI (iZ (moC ((A_read (xA S) r i).1))))), am_hp σ', t') ∧ CS (upC S 3 (A_read (xA S) r i).2) σ' ∧ Fr inLw σ σ' ∧ (t' = t ∨ t' = bump t) ∧ (0 ≤ moC ((A_read (xA S) r i).1) ∧ moC ((A_read (xA S) r i).1) ≤ 2) ∧ (moC ((A_read (xA S) r i).1) = 0 → σ'.2.1 (70, 0, 0) 0 = (iZ (moI ((A_read (xA S) r i).1))).toInt) := by
  have on : On1 ((A_read (xA S) r i).1) := on_read
  obtain ⟨σ1, cc, fp⟩ := s_X11_read (t := t) h.1 h_r h_i
  have h1 := h.acc fp
  have f1 : Fr inLw σ σ1 := fp.1.mono (fun L q => by simp only [inP, inA, inLw] at *; omega)
  generalize (A_read (xA S) r i).1 = rz at cc on ⊢
  refine ex2_of (e_L_read (d := 4) ?_)
  rcases rz with zv | zc
  · have cc : Ca 4 107 [aR (some (1, 0, 0)), aI (iZ r), aI (iZ i)] (am_hp σ) t (.inl (some (aI (iZ (iZ zv).toInt))), am_hp σ1, t) := by rw [iZ_toInt]; exact cc
    exact b_L_read_0 (cc.up (by decide)) (rg32 _) (b_L_read_17 ⟨_, t, rfl, h1.o, lwFr f1, Or.inl rfl, mo_l, fun _ => lwVr⟩)
  · obtain rfl : zc = 1 := on
    have cc : Ca 4 107 [aR (some (1, 0, 0)), aI (iZ r), aI (iZ i)] (am_hp σ) t (.inr 2, am_hp σ1, bump t) := cc
    exact bh_L_read_0_2 (cc.up (by decide)) (b_L_read_15 ⟨σ1, bump t, rfl, h1, f1, Or.inr rfl, mo_1, fun q => absurd q (by decide)⟩)
theorem on_sum {S : SS} {r a b : Int} : On2 ((A_sum (xA S) r a b).1) := by
  unfold A_sum
  repeat' first | exact on2_l | exact on2_r | exact on2_s | apply on2_if | apply on2_ip

theorem lw_sum {t : KT} {σ : SG} {S : SS} {r a b : Int} (h : CS S σ) (h_r : -2147483648 ≤ r ∧ r < 2147483648) (h_a : -2147483648 ≤ a ∧ a < 2147483648) (h_b : -2147483648 ≤ b ∧ b < 2147483648) : ∃ σ' t', Ca 5 359 [aR (some (1, 0, 0)), aI (iZ r), aI (iZ a), aI (iZ b), aR (some (70, 0, 0))] (am_hp σ) t (.inl (some (aI (iZ (moC ((A_sum (xA S) r a b).1))))), am_hp σ', t') ∧ CS (upC S 3 (A_sum (xA S) r a b).2) σ' ∧ Fr inLw σ σ' ∧ (t' = t ∨ t' = bump t) ∧ (0 ≤ moC ((A_sum (xA S) r a b).1) ∧ moC ((A_sum (xA S) r a b).1) ≤ 2) ∧ (moC ((A_sum (xA S) r a b).1) = 0 → σ'.2.1 (70, 0, 0) 0 = moI ((A_sum (xA S) r a b).1)) := by
  have on : On2 ((A_sum (xA S) r a b).1) := on_sum
  obtain ⟨σ1, cc, fp⟩ := s_X11_sum (t := t) h.1 h_r h_a h_b
  have h1 := h.acc fp
  have f1 : Fr inLw σ σ1 := fp.1.mono (fun L q => by simp only [inP, inA, inLw] at *; omega)
  generalize (A_sum (xA S) r a b).1 = rz at cc on ⊢
  refine ex2_of (e_L_sum (d := 4) ?_)
  rcases rz with zv | zc
  · have cc : Ca 4 108 [aR (some (1, 0, 0)), aI (iZ r), aI (iZ a), aI (iZ b)] (am_hp σ) t (.inl (some (aL (jZ zv))), am_hp σ1, t) := cc
    exact b_L_sum_0 (cc.up (by decide)) (b_L_sum_22 ⟨_, t, rfl, h1.o, lwFr f1, Or.inl rfl, mo_l, fun _ => lwVr⟩)
  · rcases (on : zc = 1 ∨ zc = 2) with rfl | rfl
    · skip
      have cc : Ca 4 108 [aR (some (1, 0, 0)), aI (iZ r), aI (iZ a), aI (iZ b)] (am_hp σ) t (.inr 2, am_hp σ1, bump t) := cc
      exact bh_L_sum_0_2 (cc.up (by decide)) (b_L_sum_16 ⟨σ1, bump t, rfl, h1, f1, Or.inr rfl, mo_1, fun q => absurd q (by decide)⟩)
    · skip
      have cc : Ca 4 108 [aR (some (1, 0, 0)), aI (iZ r), aI (iZ a), aI (iZ b)] (am_hp σ) t (.inr 1, am_hp σ1, bump t) := cc
      exact bh_L_sum_0_1 (cc.up (by decide)) (b_L_sum_20 ⟨σ1, bump t, rfl, h1, f1, Or.inr rfl, mo_2, fun q => absurd q (by decide)⟩)
theorem on_first {S : SS} {r v : Int} : On1 ((A_first (xA S) r v).1) := by
  unfold A_first
  repeat' first | exact on1_l | exact on1_r | apply on1_if | apply on1_ip

theorem lw_first {t : KT} {σ : SG} {S : SS} {r v : Int} (h : CS S σ) (h_r : -2147483648 ≤ r ∧ r < 2147483648) (h_v : -2147483648 ≤ v ∧ v < 2147483648) : ∃ σ' t', Ca 5 360 [aR (some (1, 0, 0)), aI (iZ r), aI (iZ v), aR (some (70, 0, 0))] (am_hp σ) t (.inl (some (aI (iZ (moC ((A_first (xA S) r v).1))))), am_hp σ', t') ∧ CS (upC S 3 (A_first (xA S) r v).2) σ' ∧ Fr inLw σ σ' ∧ (t' = t ∨ t' = bump t) ∧ (0 ≤ moC ((A_first (xA S) r v).1) ∧ moC ((A_first (xA S) r v).1) ≤ 2) ∧ (moC ((A_first (xA S) r v).1) = 0 → σ'.2.1 (70, 0, 0) 0 = (iZ (moI ((A_first (xA S) r v).1))).toInt) := by
  have on : On1 ((A_first (xA S) r v).1) := on_first
  obtain ⟨σ1, cc, fp⟩ := s_X11_first (t := t) h.1 h_r h_v
  have h1 := h.acc fp
  have f1 : Fr inLw σ σ1 := fp.1.mono (fun L q => by simp only [inP, inA, inLw] at *; omega)
  generalize (A_first (xA S) r v).1 = rz at cc on ⊢
  refine ex2_of (e_L_first (d := 4) ?_)
  rcases rz with zv | zc
  · have cc : Ca 4 109 [aR (some (1, 0, 0)), aI (iZ r), aI (iZ v)] (am_hp σ) t (.inl (some (aI (iZ (iZ zv).toInt))), am_hp σ1, t) := by rw [iZ_toInt]; exact cc
    exact b_L_first_0 (cc.up (by decide)) (rg32 _) (b_L_first_17 ⟨_, t, rfl, h1.o, lwFr f1, Or.inl rfl, mo_l, fun _ => lwVr⟩)
  · obtain rfl : zc = 1 := on
    have cc : Ca 4 109 [aR (some (1, 0, 0)), aI (iZ r), aI (iZ v)] (am_hp σ) t (.inr 2, am_hp σ1, bump t) := cc
    exact bh_L_first_0_2 (cc.up (by decide)) (b_L_first_15 ⟨σ1, bump t, rfl, h1, f1, Or.inr rfl, mo_1, fun q => absurd q (by decide)⟩)
theorem on_many {S : SS} {r v : Int} : On1 ((A_many (xA S) r v).1) := by
  unfold A_many
  repeat' first | exact on1_l | exact on1_r | apply on1_if | apply on1_ip

theorem lw_many {t : KT} {σ : SG} {S : SS} {r v : Int} (h : CS S σ) (h_r : -2147483648 ≤ r ∧ r < 2147483648) (h_v : -2147483648 ≤ v ∧ v < 2147483648) : ∃ σ' t', Ca 5 361 [aR (some (1, 0, 0)), aI (iZ r), aI (iZ v), aR (some (70, 0, 0))] (am_hp σ) t (.inl (some (aI (iZ (moC ((A_many (xA S) r v).1))))), am_hp σ', t') ∧ CS (upC S 3 (A_many (xA S) r v).2) σ' ∧ Fr inLw σ σ' ∧ (t' = t ∨ t' = bump t) ∧ (0 ≤ moC ((A_many (xA S) r v).1) ∧ moC ((A_many (xA S) r v).1) ≤ 2) ∧ (moC ((A_many (xA S) r v).1) = 0 → σ'.2.1 (70, 0, 0) 0 = (iZ (moI ((A_many (xA S) r v).1))).toInt) := by
  have on : On1 ((A_many (xA S) r v).1) := on_many
  obtain ⟨σ1, cc, fp⟩ := s_X11_many (t := t) h.1 h_r h_v
  have h1 := h.acc fp
  have f1 : Fr inLw σ σ1 := fp.1.mono (fun L q => by simp only [inP, inA, inLw] at *; omega)
  generalize (A_many (xA S) r v).1 = rz at cc on ⊢
  refine ex2_of (e_L_many (d := 4) ?_)
  rcases rz with zv | zc
  · have cc : Ca 4 110 [aR (some (1, 0, 0)), aI (iZ r), aI (iZ v)] (am_hp σ) t (.inl (some (aI (iZ (iZ zv).toInt))), am_hp σ1, t) := by rw [iZ_toInt]; exact cc
    exact b_L_many_0 (cc.up (by decide)) (rg32 _) (b_L_many_17 ⟨_, t, rfl, h1.o, lwFr f1, Or.inl rfl, mo_l, fun _ => lwVr⟩)
  · obtain rfl : zc = 1 := on
    have cc : Ca 4 110 [aR (some (1, 0, 0)), aI (iZ r), aI (iZ v)] (am_hp σ) t (.inr 2, am_hp σ1, bump t) := cc
    exact bh_L_many_0_2 (cc.up (by decide)) (b_L_many_15 ⟨σ1, bump t, rfl, h1, f1, Or.inr rfl, mo_1, fun q => absurd q (by decide)⟩)
theorem on_readsFor {S : SS} {r i : Int} : On1 (A_readsFor (xA S) r i) := by
  unfold A_readsFor
  repeat' first | exact on1_l | exact on1_r | apply on1_if | apply on1_ip

theorem lw_readsFor {t : KT} {σ : SG} {S : SS} {r i : Int} (h : CS S σ) (h_r : -2147483648 ≤ r ∧ r < 2147483648) (h_i : -2147483648 ≤ i ∧ i < 2147483648) : ∃ σ' t', Ca 5 362 [aR (some (1, 0, 0)), aI (iZ r), aI (iZ i), aR (some (70, 0, 0))] (am_hp σ) t (.inl (some (aI (iZ (moC (A_readsFor (xA S) r i))))), am_hp σ', t') ∧ CS (S) σ' ∧ Fr inLw σ σ' ∧ (t' = t ∨ t' = bump t) ∧ (0 ≤ moC (A_readsFor (xA S) r i) ∧ moC (A_readsFor (xA S) r i) ≤ 2) ∧ (moC (A_readsFor (xA S) r i) = 0 → σ'.2.1 (70, 0, 0) 0 = (iZ (moI (A_readsFor (xA S) r i))).toInt) := by
  have on : On1 (A_readsFor (xA S) r i) := on_readsFor
  have cc := s_X11_readsFor (t := t) h.1 h_r h_i
  have h1 := h
  have f1 : Fr inLw σ σ := Fr.refl _ _
  generalize A_readsFor (xA S) r i = rz at cc on ⊢
  refine ex2_of (e_L_readsFor (d := 4) ?_)
  rcases rz with zv | zc
  · have cc : Ca 4 111 [aR (some (1, 0, 0)), aI (iZ r), aI (iZ i)] (am_hp σ) t (.inl (some (aI (iZ (iZ zv).toInt))), am_hp σ, t) := by rw [iZ_toInt]; exact cc
    exact b_L_readsFor_0 (cc.up (by decide)) (rg32 _) (b_L_readsFor_17 ⟨_, t, rfl, h1.o, lwFr f1, Or.inl rfl, mo_l, fun _ => lwVr⟩)
  · obtain rfl : zc = 1 := on
    have cc : Ca 4 111 [aR (some (1, 0, 0)), aI (iZ r), aI (iZ i)] (am_hp σ) t (.inr 2, am_hp σ, bump t) := cc
    exact bh_L_readsFor_0_2 (cc.up (by decide)) (b_L_readsFor_15 ⟨σ, bump t, rfl, h1, f1, Or.inr rfl, mo_1, fun q => absurd q (by decide)⟩)
theorem on_greatest {S : SS} {r : Int} : On1 (A_greatest (xA S) r) := by
  unfold A_greatest
  repeat' first | exact on1_l | exact on1_r | apply on1_if | apply on1_ip

theorem lw_greatest {t : KT} {σ : SG} {S : SS} {r : Int} (h : CS S σ) (h_r : -2147483648 ≤ r ∧ r < 2147483648) : ∃ σ' t', Ca 4 363 [aR (some (1, 0, 0)), aI (iZ r), aR (some (70, 0, 0))] (am_hp σ) t (.inl (some (aI (iZ (moC (A_greatest (xA S) r))))), am_hp σ', t') ∧ CS (S) σ' ∧ Fr inLw σ σ' ∧ (t' = t ∨ t' = bump t) ∧ (0 ≤ moC (A_greatest (xA S) r) ∧ moC (A_greatest (xA S) r) ≤ 2) ∧ (moC (A_greatest (xA S) r) = 0 → σ'.2.1 (70, 0, 0) 0 = (iZ (moI (A_greatest (xA S) r))).toInt) := by
  have on : On1 (A_greatest (xA S) r) := on_greatest
  have cc := s_X11_greatest (t := t) h.1 h_r
  have h1 := h
  have f1 : Fr inLw σ σ := Fr.refl _ _
  generalize A_greatest (xA S) r = rz at cc on ⊢
  refine ex2_of (e_L_greatest (d := 3) ?_)
  rcases rz with zv | zc
  · have cc : Ca 3 112 [aR (some (1, 0, 0)), aI (iZ r)] (am_hp σ) t (.inl (some (aI (iZ (iZ zv).toInt))), am_hp σ, t) := by rw [iZ_toInt]; exact cc
    exact b_L_greatest_0 (cc.up (by decide)) (rg32 _) (b_L_greatest_15 ⟨_, t, rfl, h1.o, lwFr f1, Or.inl rfl, mo_l, fun _ => lwVr⟩)
  · obtain rfl : zc = 1 := on
    have cc : Ca 3 112 [aR (some (1, 0, 0)), aI (iZ r)] (am_hp σ) t (.inr 2, am_hp σ, bump t) := cc
    exact bh_L_greatest_0_2 (cc.up (by decide)) (b_L_greatest_13 ⟨σ, bump t, rfl, h1, f1, Or.inr rfl, mo_1, fun q => absurd q (by decide)⟩)
theorem on_wordsBy {S : SS} {r u : Int} : On2 (A_wordsBy (xA S) r u) := by
  unfold A_wordsBy
  repeat' first | exact on2_l | exact on2_r | exact on2_s | apply on2_if | apply on2_ip

theorem lw_wordsBy {t : KT} {σ : SG} {S : SS} {r u : Int} (h : CS S σ) (h_r : -2147483648 ≤ r ∧ r < 2147483648) (h_u : -2147483648 ≤ u ∧ u < 2147483648) : ∃ σ' t', Ca 6 365 [aR (some (1, 0, 0)), aI (iZ r), aI (iZ u), aR (some (70, 0, 0))] (am_hp σ) t (.inl (some (aI (iZ (moC (A_wordsBy (xA S) r u))))), am_hp σ', t') ∧ CS (S) σ' ∧ Fr inLw σ σ' ∧ (t' = t ∨ t' = bump t) ∧ (0 ≤ moC (A_wordsBy (xA S) r u) ∧ moC (A_wordsBy (xA S) r u) ≤ 2) ∧ (moC (A_wordsBy (xA S) r u) = 0 → σ'.2.1 (70, 0, 0) 0 = (iZ (moI (A_wordsBy (xA S) r u))).toInt) := by
  have on : On2 (A_wordsBy (xA S) r u) := on_wordsBy
  obtain ⟨σ1, cc, fp⟩ := s_X11_wordsBy (t := t) h.1 h_r h_u
  have h1 := h.P fp
  have f1 : Fr inLw σ σ1 := fp.mono (fun L q => by simp only [inP, inA, inLw] at *; omega)
  generalize A_wordsBy (xA S) r u = rz at cc on ⊢
  refine ex2_of (e_L_wordsBy (d := 5) ?_)
  rcases rz with zv | zc
  · have cc : Ca 5 115 [aR (some (1, 0, 0)), aI (iZ r), aI (iZ u)] (am_hp σ) t (.inl (some (aI (iZ (iZ zv).toInt))), am_hp σ1, t) := by rw [iZ_toInt]; exact cc
    exact b_L_wordsBy_0 (cc.up (by decide)) (rg32 _) (b_L_wordsBy_21 ⟨_, t, rfl, h1.o, lwFr f1, Or.inl rfl, mo_l, fun _ => lwVr⟩)
  · rcases (on : zc = 1 ∨ zc = 2) with rfl | rfl
    · skip
      have cc : Ca 5 115 [aR (some (1, 0, 0)), aI (iZ r), aI (iZ u)] (am_hp σ) t (.inr 2, am_hp σ1, bump t) := cc
      exact bh_L_wordsBy_0_2 (cc.up (by decide)) (b_L_wordsBy_15 ⟨σ1, bump t, rfl, h1, f1, Or.inr rfl, mo_1, fun q => absurd q (by decide)⟩)
    · skip
      have cc : Ca 5 115 [aR (some (1, 0, 0)), aI (iZ r), aI (iZ u)] (am_hp σ) t (.inr 1, am_hp σ1, bump t) := cc
      exact bh_L_wordsBy_0_1 (cc.up (by decide)) (b_L_wordsBy_19 ⟨σ1, bump t, rfl, h1, f1, Or.inr rfl, mo_2, fun q => absurd q (by decide)⟩)
theorem on_priceBy {S : SS} {r u : Int} : On2 (A_priceBy (xA S) r u) := by
  unfold A_priceBy
  repeat' first | exact on2_l | exact on2_r | exact on2_s | apply on2_if | apply on2_ip

theorem lw_priceBy {t : KT} {σ : SG} {S : SS} {r u : Int} (h : CS S σ) (h_r : -2147483648 ≤ r ∧ r < 2147483648) (h_u : -2147483648 ≤ u ∧ u < 2147483648) : ∃ σ' t', Ca 6 366 [aR (some (1, 0, 0)), aI (iZ r), aI (iZ u), aR (some (70, 0, 0))] (am_hp σ) t (.inl (some (aI (iZ (moC (A_priceBy (xA S) r u))))), am_hp σ', t') ∧ CS (S) σ' ∧ Fr inLw σ σ' ∧ (t' = t ∨ t' = bump t) ∧ (0 ≤ moC (A_priceBy (xA S) r u) ∧ moC (A_priceBy (xA S) r u) ≤ 2) ∧ (moC (A_priceBy (xA S) r u) = 0 → σ'.2.1 (70, 0, 0) 0 = (iZ (moI (A_priceBy (xA S) r u))).toInt) := by
  have on : On2 (A_priceBy (xA S) r u) := on_priceBy
  obtain ⟨σ1, cc, fp⟩ := s_X11_priceBy (t := t) h.1 h_r h_u
  have h1 := h.P fp
  have f1 : Fr inLw σ σ1 := fp.mono (fun L q => by simp only [inP, inA, inLw] at *; omega)
  generalize A_priceBy (xA S) r u = rz at cc on ⊢
  refine ex2_of (e_L_priceBy (d := 5) ?_)
  rcases rz with zv | zc
  · have cc : Ca 5 116 [aR (some (1, 0, 0)), aI (iZ r), aI (iZ u)] (am_hp σ) t (.inl (some (aI (iZ (iZ zv).toInt))), am_hp σ1, t) := by rw [iZ_toInt]; exact cc
    exact b_L_priceBy_0 (cc.up (by decide)) (rg32 _) (b_L_priceBy_21 ⟨_, t, rfl, h1.o, lwFr f1, Or.inl rfl, mo_l, fun _ => lwVr⟩)
  · rcases (on : zc = 1 ∨ zc = 2) with rfl | rfl
    · skip
      have cc : Ca 5 116 [aR (some (1, 0, 0)), aI (iZ r), aI (iZ u)] (am_hp σ) t (.inr 2, am_hp σ1, bump t) := cc
      exact bh_L_priceBy_0_2 (cc.up (by decide)) (b_L_priceBy_15 ⟨σ1, bump t, rfl, h1, f1, Or.inr rfl, mo_1, fun q => absurd q (by decide)⟩)
    · skip
      have cc : Ca 5 116 [aR (some (1, 0, 0)), aI (iZ r), aI (iZ u)] (am_hp σ) t (.inr 1, am_hp σ1, bump t) := cc
      exact bh_L_priceBy_0_1 (cc.up (by decide)) (b_L_priceBy_19 ⟨σ1, bump t, rfl, h1, f1, Or.inr rfl, mo_2, fun q => absurd q (by decide)⟩)
theorem on_wordsIf {S : SS} {r i v : Int} : On2 (A_wordsIf (xA S) r i v) := by
  unfold A_wordsIf
  repeat' first | exact on2_l | exact on2_r | exact on2_s | apply on2_if | apply on2_ip

theorem lw_wordsIf {t : KT} {σ : SG} {S : SS} {r i v : Int} (h : CS S σ) (h_r : -2147483648 ≤ r ∧ r < 2147483648) (h_i : -2147483648 ≤ i ∧ i < 2147483648) (h_v : -2147483648 ≤ v ∧ v < 2147483648) : ∃ σ' t', Ca 6 367 [aR (some (1, 0, 0)), aI (iZ r), aI (iZ i), aI (iZ v), aR (some (70, 0, 0))] (am_hp σ) t (.inl (some (aI (iZ (moC (A_wordsIf (xA S) r i v))))), am_hp σ', t') ∧ CS (S) σ' ∧ Fr inLw σ σ' ∧ (t' = t ∨ t' = bump t) ∧ (0 ≤ moC (A_wordsIf (xA S) r i v) ∧ moC (A_wordsIf (xA S) r i v) ≤ 2) ∧ (moC (A_wordsIf (xA S) r i v) = 0 → σ'.2.1 (70, 0, 0) 0 = (iZ (moI (A_wordsIf (xA S) r i v))).toInt) := by
  have on : On2 (A_wordsIf (xA S) r i v) := on_wordsIf
  obtain ⟨σ1, cc, fp⟩ := s_X11_wordsIf (t := t) h.1 h_r h_i h_v
  have h1 := h.P fp
  have f1 : Fr inLw σ σ1 := fp.mono (fun L q => by simp only [inP, inA, inLw] at *; omega)
  generalize A_wordsIf (xA S) r i v = rz at cc on ⊢
  refine ex2_of (e_L_wordsIf (d := 5) ?_)
  rcases rz with zv | zc
  · have cc : Ca 5 117 [aR (some (1, 0, 0)), aI (iZ r), aI (iZ i), aI (iZ v)] (am_hp σ) t (.inl (some (aI (iZ (iZ zv).toInt))), am_hp σ1, t) := by rw [iZ_toInt]; exact cc
    exact b_L_wordsIf_0 (cc.up (by decide)) (rg32 _) (b_L_wordsIf_23 ⟨_, t, rfl, h1.o, lwFr f1, Or.inl rfl, mo_l, fun _ => lwVr⟩)
  · rcases (on : zc = 1 ∨ zc = 2) with rfl | rfl
    · skip
      have cc : Ca 5 117 [aR (some (1, 0, 0)), aI (iZ r), aI (iZ i), aI (iZ v)] (am_hp σ) t (.inr 2, am_hp σ1, bump t) := cc
      exact bh_L_wordsIf_0_2 (cc.up (by decide)) (b_L_wordsIf_17 ⟨σ1, bump t, rfl, h1, f1, Or.inr rfl, mo_1, fun q => absurd q (by decide)⟩)
    · skip
      have cc : Ca 5 117 [aR (some (1, 0, 0)), aI (iZ r), aI (iZ i), aI (iZ v)] (am_hp σ) t (.inr 1, am_hp σ1, bump t) := cc
      exact bh_L_wordsIf_0_1 (cc.up (by decide)) (b_L_wordsIf_21 ⟨σ1, bump t, rfl, h1, f1, Or.inr rfl, mo_2, fun q => absurd q (by decide)⟩)
theorem on_bestRemove {S : SS} {r : Int} : On1 (A_bestRemove (xA S) r) := by
  unfold A_bestRemove
  repeat' first | exact on1_l | exact on1_r | apply on1_if | apply on1_ip

theorem lw_bestRemove {t : KT} {σ : SG} {S : SS} {r : Int} (h : CS S σ) (h_r : -2147483648 ≤ r ∧ r < 2147483648) : ∃ σ' t', Ca 6 368 [aR (some (1, 0, 0)), aI (iZ r), aR (some (70, 0, 0))] (am_hp σ) t (.inl (some (aI (iZ (moC (A_bestRemove (xA S) r))))), am_hp σ', t') ∧ CS (S) σ' ∧ Fr inLw σ σ' ∧ (t' = t ∨ t' = bump t) ∧ (0 ≤ moC (A_bestRemove (xA S) r) ∧ moC (A_bestRemove (xA S) r) ≤ 2) ∧ (moC (A_bestRemove (xA S) r) = 0 → σ'.2.1 (70, 0, 0) 0 = (iZ (moI (A_bestRemove (xA S) r))).toInt) := by
  have on : On1 (A_bestRemove (xA S) r) := on_bestRemove
  obtain ⟨σ1, cc, fp⟩ := s_X11_bestRemove (t := t) h.1 h_r
  have h1 := h.P fp
  have f1 : Fr inLw σ σ1 := fp.mono (fun L q => by simp only [inP, inA, inLw] at *; omega)
  generalize A_bestRemove (xA S) r = rz at cc on ⊢
  refine ex2_of (e_L_bestRemove (d := 5) ?_)
  rcases rz with zv | zc
  · have cc : Ca 5 118 [aR (some (1, 0, 0)), aI (iZ r)] (am_hp σ) t (.inl (some (aI (iZ (iZ zv).toInt))), am_hp σ1, t) := by rw [iZ_toInt]; exact cc
    exact b_L_bestRemove_0 (cc.up (by decide)) (rg32 _) (b_L_bestRemove_15 ⟨_, t, rfl, h1.o, lwFr f1, Or.inl rfl, mo_l, fun _ => lwVr⟩)
  · obtain rfl : zc = 1 := on
    have cc : Ca 5 118 [aR (some (1, 0, 0)), aI (iZ r)] (am_hp σ) t (.inr 2, am_hp σ1, bump t) := cc
    exact bh_L_bestRemove_0_2 (cc.up (by decide)) (b_L_bestRemove_13 ⟨σ1, bump t, rfl, h1, f1, Or.inr rfl, mo_1, fun q => absurd q (by decide)⟩)
theorem on_dearWay {S : SS} {r : Int} : On1 (A_dearWay (xA S) r) := by
  unfold A_dearWay
  repeat' first | exact on1_l | exact on1_r | apply on1_if | apply on1_ip

theorem lw_dearWay {t : KT} {σ : SG} {S : SS} {r : Int} (h : CS S σ) (h_r : -2147483648 ≤ r ∧ r < 2147483648) : ∃ σ' t', Ca 6 369 [aR (some (1, 0, 0)), aI (iZ r), aR (some (70, 0, 0))] (am_hp σ) t (.inl (some (aI (iZ (moC (A_dearWay (xA S) r))))), am_hp σ', t') ∧ CS (S) σ' ∧ Fr inLw σ σ' ∧ (t' = t ∨ t' = bump t) ∧ (0 ≤ moC (A_dearWay (xA S) r) ∧ moC (A_dearWay (xA S) r) ≤ 2) ∧ (moC (A_dearWay (xA S) r) = 0 → σ'.2.1 (70, 0, 0) 0 = (iZ (moI (A_dearWay (xA S) r))).toInt) := by
  have on : On1 (A_dearWay (xA S) r) := on_dearWay
  obtain ⟨σ1, cc, fp⟩ := s_X11_dearWay (t := t) h.1 h_r
  have h1 := h.P fp
  have f1 : Fr inLw σ σ1 := fp.mono (fun L q => by simp only [inP, inA, inLw] at *; omega)
  generalize A_dearWay (xA S) r = rz at cc on ⊢
  refine ex2_of (e_L_dearWay (d := 5) ?_)
  rcases rz with zv | zc
  · have cc : Ca 5 119 [aR (some (1, 0, 0)), aI (iZ r)] (am_hp σ) t (.inl (some (aI (iZ (iZ zv).toInt))), am_hp σ1, t) := by rw [iZ_toInt]; exact cc
    exact b_L_dearWay_0 (cc.up (by decide)) (rg32 _) (b_L_dearWay_15 ⟨_, t, rfl, h1.o, lwFr f1, Or.inl rfl, mo_l, fun _ => lwVr⟩)
  · obtain rfl : zc = 1 := on
    have cc : Ca 5 119 [aR (some (1, 0, 0)), aI (iZ r)] (am_hp σ) t (.inr 2, am_hp σ1, bump t) := cc
    exact bh_L_dearWay_0_2 (cc.up (by decide)) (b_L_dearWay_13 ⟨σ1, bump t, rfl, h1, f1, Or.inr rfl, mo_1, fun q => absurd q (by decide)⟩)
theorem on_wordsTogether {S : SS} {r s : Int} : On1 (A_wordsTogether (xA S) r s) := by
  unfold A_wordsTogether
  repeat' first | exact on1_l | exact on1_r | apply on1_if | apply on1_ip

theorem lw_wordsTogether {t : KT} {σ : SG} {S : SS} {r s : Int} (h : CS S σ) (h_r : -2147483648 ≤ r ∧ r < 2147483648) (h_s : -2147483648 ≤ s ∧ s < 2147483648) : ∃ σ' t', Ca 6 370 [aR (some (1, 0, 0)), aI (iZ r), aI (iZ s), aR (some (70, 0, 0))] (am_hp σ) t (.inl (some (aI (iZ (moC (A_wordsTogether (xA S) r s))))), am_hp σ', t') ∧ CS (S) σ' ∧ Fr inLw σ σ' ∧ (t' = t ∨ t' = bump t) ∧ (0 ≤ moC (A_wordsTogether (xA S) r s) ∧ moC (A_wordsTogether (xA S) r s) ≤ 2) ∧ (moC (A_wordsTogether (xA S) r s) = 0 → σ'.2.1 (70, 0, 0) 0 = (iZ (moI (A_wordsTogether (xA S) r s))).toInt) := by
  have on : On1 (A_wordsTogether (xA S) r s) := on_wordsTogether
  obtain ⟨σ1, cc, fp⟩ := s_X11_wordsTogether (t := t) h.1 h_r h_s
  have h1 := h.P fp
  have f1 : Fr inLw σ σ1 := fp.mono (fun L q => by simp only [inP, inA, inLw] at *; omega)
  generalize A_wordsTogether (xA S) r s = rz at cc on ⊢
  refine ex2_of (e_L_wordsTogether (d := 5) ?_)
  rcases rz with zv | zc
  · have cc : Ca 5 120 [aR (some (1, 0, 0)), aI (iZ r), aI (iZ s)] (am_hp σ) t (.inl (some (aI (iZ (iZ zv).toInt))), am_hp σ1, t) := by rw [iZ_toInt]; exact cc
    exact b_L_wordsTogether_0 (cc.up (by decide)) (rg32 _) (b_L_wordsTogether_17 ⟨_, t, rfl, h1.o, lwFr f1, Or.inl rfl, mo_l, fun _ => lwVr⟩)
  · obtain rfl : zc = 1 := on
    have cc : Ca 5 120 [aR (some (1, 0, 0)), aI (iZ r), aI (iZ s)] (am_hp σ) t (.inr 2, am_hp σ1, bump t) := cc
    exact bh_L_wordsTogether_0_2 (cc.up (by decide)) (b_L_wordsTogether_15 ⟨σ1, bump t, rfl, h1, f1, Or.inr rfl, mo_1, fun q => absurd q (by decide)⟩)
theorem on_bestSkip {S : SS} {r : Int} : On1 (A_bestSkip (xA S) r) := by
  unfold A_bestSkip
  repeat' first | exact on1_l | exact on1_r | apply on1_if | apply on1_ip

theorem lw_bestSkip {t : KT} {σ : SG} {S : SS} {r : Int} (h : CS S σ) (h_r : -2147483648 ≤ r ∧ r < 2147483648) : ∃ σ' t', Ca 5 371 [aR (some (1, 0, 0)), aI (iZ r), aR (some (70, 0, 0))] (am_hp σ) t (.inl (some (aI (iZ (moC (A_bestSkip (xA S) r))))), am_hp σ', t') ∧ CS (S) σ' ∧ Fr inLw σ σ' ∧ (t' = t ∨ t' = bump t) ∧ (0 ≤ moC (A_bestSkip (xA S) r) ∧ moC (A_bestSkip (xA S) r) ≤ 2) ∧ (moC (A_bestSkip (xA S) r) = 0 → σ'.2.1 (70, 0, 0) 0 = (iZ (moI (A_bestSkip (xA S) r))).toInt) := by
  have on : On1 (A_bestSkip (xA S) r) := on_bestSkip
  have cc := s_X11_bestSkip (t := t) h.1 h_r
  have h1 := h
  have f1 : Fr inLw σ σ := Fr.refl _ _
  generalize A_bestSkip (xA S) r = rz at cc on ⊢
  refine ex2_of (e_L_bestSkip (d := 4) ?_)
  rcases rz with zv | zc
  · have cc : Ca 4 121 [aR (some (1, 0, 0)), aI (iZ r)] (am_hp σ) t (.inl (some (aI (iZ (iZ zv).toInt))), am_hp σ, t) := by rw [iZ_toInt]; exact cc
    exact b_L_bestSkip_0 (cc.up (by decide)) (rg32 _) (b_L_bestSkip_15 ⟨_, t, rfl, h1.o, lwFr f1, Or.inl rfl, mo_l, fun _ => lwVr⟩)
  · obtain rfl : zc = 1 := on
    have cc : Ca 4 121 [aR (some (1, 0, 0)), aI (iZ r)] (am_hp σ) t (.inr 2, am_hp σ, bump t) := cc
    exact bh_L_bestSkip_0_2 (cc.up (by decide)) (b_L_bestSkip_13 ⟨σ, bump t, rfl, h1, f1, Or.inr rfl, mo_1, fun q => absurd q (by decide)⟩)
theorem lw_append {t : KT} {σ : SG} {S : SS} {a b : Int} (h : CS S σ) (h_a : -2147483648 ≤ a ∧ a < 2147483648) (h_b : -2147483648 ≤ b ∧ b < 2147483648) : ∃ σ' t', Ca 9 372 [aR (some (1, 0, 0)), aI (iZ a), aI (iZ b), aR (some (70, 0, 0))] (am_hp σ) t (.inl (some (aI (iZ (moC (R_call S 1 [] a (σ.1 (7, 30, 0) 4) (σ.1 (7, 30, 0) 5) b))))), am_hp σ', t') ∧ CS ((N_call S 1 [] a (σ.1 (7, 30, 0) 4) (σ.1 (7, 30, 0) 5) b)) σ' ∧ Fr inLw σ σ' ∧ (t' = t ∨ t' = bump t) ∧ (0 ≤ moC (R_call S 1 [] a (σ.1 (7, 30, 0) 4) (σ.1 (7, 30, 0) 5) b) ∧ moC (R_call S 1 [] a (σ.1 (7, 30, 0) 4) (σ.1 (7, 30, 0) 5) b) ≤ 2) ∧ (moC (R_call S 1 [] a (σ.1 (7, 30, 0) 4) (σ.1 (7, 30, 0) 5) b) = 0 → σ'.2.1 (70, 0, 0) 0 = (iZ (moI (R_call S 1 [] a (σ.1 (7, 30, 0) 4) (σ.1 (7, 30, 0) 5) b))).toInt) := by
  have on : On2 (R_call S 1 [] a (σ.1 (7, 30, 0) 4) (σ.1 (7, 30, 0) 5) b) := on_call
  obtain ⟨σ1, cc, h1, fp⟩ := s_X11_append (t := t) h h_a h_b
  have f1 : Fr inLw σ σ1 := fp.mono (fun L q => by simp only [inN, inCa, inRp, inCl, inLw] at *; omega)
  generalize R_call S 1 [] a (σ.1 (7, 30, 0) 4) (σ.1 (7, 30, 0) 5) b = rz at cc on ⊢
  refine ex2_of (e_L_append (d := 8) ?_)
  rcases rz with zv | zc
  · have cc : Ca 8 123 [aR (some (1, 0, 0)), aI (iZ a), aI (iZ b)] (am_hp σ) t (.inl (some (aI (iZ (iZ zv).toInt))), am_hp σ1, t) := by rw [iZ_toInt]; exact cc
    exact b_L_append_0 (cc.up (by decide)) (rg32 _) (b_L_append_21 ⟨_, t, rfl, h1.o, lwFr f1, Or.inl rfl, mo_l, fun _ => lwVr⟩)
  · rcases (on : zc = 1 ∨ zc = 2) with rfl | rfl
    · skip
      have cc : Ca 8 123 [aR (some (1, 0, 0)), aI (iZ a), aI (iZ b)] (am_hp σ) t (.inr 2, am_hp σ1, bump t) := cc
      exact bh_L_append_0_2 (cc.up (by decide)) (b_L_append_15 ⟨σ1, bump t, rfl, h1, f1, Or.inr rfl, mo_1, fun q => absurd q (by decide)⟩)
    · skip
      have cc : Ca 8 123 [aR (some (1, 0, 0)), aI (iZ a), aI (iZ b)] (am_hp σ) t (.inr 1, am_hp σ1, bump t) := cc
      exact bh_L_append_0_1 (cc.up (by decide)) (b_L_append_19 ⟨σ1, bump t, rfl, h1, f1, Or.inr rfl, mo_2, fun q => absurd q (by decide)⟩)
theorem lw_put {t : KT} {σ : SG} {S : SS} {a b c : Int} (h : CS S σ) (h_a : -2147483648 ≤ a ∧ a < 2147483648) (h_b : -2147483648 ≤ b ∧ b < 2147483648) (h_c : -2147483648 ≤ c ∧ c < 2147483648) : ∃ σ' t', Ca 9 373 [aR (some (1, 0, 0)), aI (iZ a), aI (iZ b), aI (iZ c), aR (some (70, 0, 0))] (am_hp σ) t (.inl (some (aI (iZ (moC (R_call S 2 [] a (σ.1 (7, 30, 0) 4) b c))))), am_hp σ', t') ∧ CS ((N_call S 2 [] a (σ.1 (7, 30, 0) 4) b c)) σ' ∧ Fr inLw σ σ' ∧ (t' = t ∨ t' = bump t) ∧ (0 ≤ moC (R_call S 2 [] a (σ.1 (7, 30, 0) 4) b c) ∧ moC (R_call S 2 [] a (σ.1 (7, 30, 0) 4) b c) ≤ 2) ∧ (moC (R_call S 2 [] a (σ.1 (7, 30, 0) 4) b c) = 0 → σ'.2.1 (70, 0, 0) 0 = (iZ (moI (R_call S 2 [] a (σ.1 (7, 30, 0) 4) b c))).toInt) := by
  have on : On2 (R_call S 2 [] a (σ.1 (7, 30, 0) 4) b c) := on_call
  obtain ⟨σ1, cc, h1, fp⟩ := s_X11_put (t := t) h h_a h_b h_c
  have f1 : Fr inLw σ σ1 := fp.mono (fun L q => by simp only [inN, inCa, inRp, inCl, inLw] at *; omega)
  generalize R_call S 2 [] a (σ.1 (7, 30, 0) 4) b c = rz at cc on ⊢
  refine ex2_of (e_L_put (d := 8) ?_)
  rcases rz with zv | zc
  · have cc : Ca 8 124 [aR (some (1, 0, 0)), aI (iZ a), aI (iZ b), aI (iZ c)] (am_hp σ) t (.inl (some (aI (iZ (iZ zv).toInt))), am_hp σ1, t) := by rw [iZ_toInt]; exact cc
    exact b_L_put_0 (cc.up (by decide)) (rg32 _) (b_L_put_23 ⟨_, t, rfl, h1.o, lwFr f1, Or.inl rfl, mo_l, fun _ => lwVr⟩)
  · rcases (on : zc = 1 ∨ zc = 2) with rfl | rfl
    · skip
      have cc : Ca 8 124 [aR (some (1, 0, 0)), aI (iZ a), aI (iZ b), aI (iZ c)] (am_hp σ) t (.inr 2, am_hp σ1, bump t) := cc
      exact bh_L_put_0_2 (cc.up (by decide)) (b_L_put_17 ⟨σ1, bump t, rfl, h1, f1, Or.inr rfl, mo_1, fun q => absurd q (by decide)⟩)
    · skip
      have cc : Ca 8 124 [aR (some (1, 0, 0)), aI (iZ a), aI (iZ b), aI (iZ c)] (am_hp σ) t (.inr 1, am_hp σ1, bump t) := cc
      exact bh_L_put_0_1 (cc.up (by decide)) (b_L_put_21 ⟨σ1, bump t, rfl, h1, f1, Or.inr rfl, mo_2, fun q => absurd q (by decide)⟩)
theorem lw_insert {t : KT} {σ : SG} {S : SS} {a b c : Int} (h : CS S σ) (h_a : -2147483648 ≤ a ∧ a < 2147483648) (h_b : -2147483648 ≤ b ∧ b < 2147483648) (h_c : -2147483648 ≤ c ∧ c < 2147483648) : ∃ σ' t', Ca 9 374 [aR (some (1, 0, 0)), aI (iZ a), aI (iZ b), aI (iZ c), aR (some (70, 0, 0))] (am_hp σ) t (.inl (some (aI (iZ (moC (R_call S 3 [] a (σ.1 (7, 30, 0) 4) b c))))), am_hp σ', t') ∧ CS ((N_call S 3 [] a (σ.1 (7, 30, 0) 4) b c)) σ' ∧ Fr inLw σ σ' ∧ (t' = t ∨ t' = bump t) ∧ (0 ≤ moC (R_call S 3 [] a (σ.1 (7, 30, 0) 4) b c) ∧ moC (R_call S 3 [] a (σ.1 (7, 30, 0) 4) b c) ≤ 2) ∧ (moC (R_call S 3 [] a (σ.1 (7, 30, 0) 4) b c) = 0 → σ'.2.1 (70, 0, 0) 0 = (iZ (moI (R_call S 3 [] a (σ.1 (7, 30, 0) 4) b c))).toInt) := by
  have on : On2 (R_call S 3 [] a (σ.1 (7, 30, 0) 4) b c) := on_call
  obtain ⟨σ1, cc, h1, fp⟩ := s_X11_insert (t := t) h h_a h_b h_c
  have f1 : Fr inLw σ σ1 := fp.mono (fun L q => by simp only [inN, inCa, inRp, inCl, inLw] at *; omega)
  generalize R_call S 3 [] a (σ.1 (7, 30, 0) 4) b c = rz at cc on ⊢
  refine ex2_of (e_L_insert (d := 8) ?_)
  rcases rz with zv | zc
  · have cc : Ca 8 125 [aR (some (1, 0, 0)), aI (iZ a), aI (iZ b), aI (iZ c)] (am_hp σ) t (.inl (some (aI (iZ (iZ zv).toInt))), am_hp σ1, t) := by rw [iZ_toInt]; exact cc
    exact b_L_insert_0 (cc.up (by decide)) (rg32 _) (b_L_insert_23 ⟨_, t, rfl, h1.o, lwFr f1, Or.inl rfl, mo_l, fun _ => lwVr⟩)
  · rcases (on : zc = 1 ∨ zc = 2) with rfl | rfl
    · skip
      have cc : Ca 8 125 [aR (some (1, 0, 0)), aI (iZ a), aI (iZ b), aI (iZ c)] (am_hp σ) t (.inr 2, am_hp σ1, bump t) := cc
      exact bh_L_insert_0_2 (cc.up (by decide)) (b_L_insert_17 ⟨σ1, bump t, rfl, h1, f1, Or.inr rfl, mo_1, fun q => absurd q (by decide)⟩)
    · skip
      have cc : Ca 8 125 [aR (some (1, 0, 0)), aI (iZ a), aI (iZ b), aI (iZ c)] (am_hp σ) t (.inr 1, am_hp σ1, bump t) := cc
      exact bh_L_insert_0_1 (cc.up (by decide)) (b_L_insert_21 ⟨σ1, bump t, rfl, h1, f1, Or.inr rfl, mo_2, fun q => absurd q (by decide)⟩)
theorem lw_remove {t : KT} {σ : SG} {S : SS} {a b : Int} (h : CS S σ) (h_a : -2147483648 ≤ a ∧ a < 2147483648) (h_b : -2147483648 ≤ b ∧ b < 2147483648) : ∃ σ' t', Ca 9 375 [aR (some (1, 0, 0)), aI (iZ a), aI (iZ b), aR (some (70, 0, 0))] (am_hp σ) t (.inl (some (aI (iZ (moC (R_call S 4 [] a (σ.1 (7, 30, 0) 4) b (σ.1 (7, 30, 0) 6)))))), am_hp σ', t') ∧ CS ((N_call S 4 [] a (σ.1 (7, 30, 0) 4) b (σ.1 (7, 30, 0) 6))) σ' ∧ Fr inLw σ σ' ∧ (t' = t ∨ t' = bump t) ∧ (0 ≤ moC (R_call S 4 [] a (σ.1 (7, 30, 0) 4) b (σ.1 (7, 30, 0) 6)) ∧ moC (R_call S 4 [] a (σ.1 (7, 30, 0) 4) b (σ.1 (7, 30, 0) 6)) ≤ 2) ∧ (moC (R_call S 4 [] a (σ.1 (7, 30, 0) 4) b (σ.1 (7, 30, 0) 6)) = 0 → σ'.2.1 (70, 0, 0) 0 = (iZ (moI (R_call S 4 [] a (σ.1 (7, 30, 0) 4) b (σ.1 (7, 30, 0) 6)))).toInt) := by
  have on : On1 (R_call S 4 [] a (σ.1 (7, 30, 0) 4) b (σ.1 (7, 30, 0) 6)) := on_remove
  obtain ⟨σ1, cc, h1, fp⟩ := s_X11_remove (t := t) h h_a h_b
  have f1 : Fr inLw σ σ1 := fp.mono (fun L q => by simp only [inN, inCa, inRp, inCl, inLw] at *; omega)
  generalize R_call S 4 [] a (σ.1 (7, 30, 0) 4) b (σ.1 (7, 30, 0) 6) = rz at cc on ⊢
  refine ex2_of (e_L_remove (d := 8) ?_)
  rcases rz with zv | zc
  · have cc : Ca 8 126 [aR (some (1, 0, 0)), aI (iZ a), aI (iZ b)] (am_hp σ) t (.inl (some (aI (iZ (iZ zv).toInt))), am_hp σ1, t) := by rw [iZ_toInt]; exact cc
    exact b_L_remove_0 (cc.up (by decide)) (rg32 _) (b_L_remove_17 ⟨_, t, rfl, h1.o, lwFr f1, Or.inl rfl, mo_l, fun _ => lwVr⟩)
  · obtain rfl : zc = 1 := on
    have cc : Ca 8 126 [aR (some (1, 0, 0)), aI (iZ a), aI (iZ b)] (am_hp σ) t (.inr 2, am_hp σ1, bump t) := cc
    exact bh_L_remove_0_2 (cc.up (by decide)) (b_L_remove_15 ⟨σ1, bump t, rfl, h1, f1, Or.inr rfl, mo_1, fun q => absurd q (by decide)⟩)
theorem lw_join {t : KT} {σ : SG} {S : SS} {a b : Int} (h : CS S σ) (h_a : -2147483648 ≤ a ∧ a < 2147483648) (h_b : -2147483648 ≤ b ∧ b < 2147483648) : ∃ σ' t', Ca 9 376 [aR (some (1, 0, 0)), aI (iZ a), aI (iZ b), aR (some (70, 0, 0))] (am_hp σ) t (.inl (some (aI (iZ (moC (R_call S 5 [] a b (σ.1 (7, 30, 0) 5) (σ.1 (7, 30, 0) 6)))))), am_hp σ', t') ∧ CS ((N_call S 5 [] a b (σ.1 (7, 30, 0) 5) (σ.1 (7, 30, 0) 6))) σ' ∧ Fr inLw σ σ' ∧ (t' = t ∨ t' = bump t) ∧ (0 ≤ moC (R_call S 5 [] a b (σ.1 (7, 30, 0) 5) (σ.1 (7, 30, 0) 6)) ∧ moC (R_call S 5 [] a b (σ.1 (7, 30, 0) 5) (σ.1 (7, 30, 0) 6)) ≤ 2) ∧ (moC (R_call S 5 [] a b (σ.1 (7, 30, 0) 5) (σ.1 (7, 30, 0) 6)) = 0 → σ'.2.1 (70, 0, 0) 0 = (iZ (moI (R_call S 5 [] a b (σ.1 (7, 30, 0) 5) (σ.1 (7, 30, 0) 6)))).toInt) := by
  have on : On1 (R_call S 5 [] a b (σ.1 (7, 30, 0) 5) (σ.1 (7, 30, 0) 6)) := on_join
  obtain ⟨σ1, cc, h1, fp⟩ := s_X11_join (t := t) h h_a h_b
  have f1 : Fr inLw σ σ1 := fp.mono (fun L q => by simp only [inN, inCa, inRp, inCl, inLw] at *; omega)
  generalize R_call S 5 [] a b (σ.1 (7, 30, 0) 5) (σ.1 (7, 30, 0) 6) = rz at cc on ⊢
  refine ex2_of (e_L_join (d := 8) ?_)
  rcases rz with zv | zc
  · have cc : Ca 8 127 [aR (some (1, 0, 0)), aI (iZ a), aI (iZ b)] (am_hp σ) t (.inl (some (aI (iZ (iZ zv).toInt))), am_hp σ1, t) := by rw [iZ_toInt]; exact cc
    exact b_L_join_0 (cc.up (by decide)) (rg32 _) (b_L_join_17 ⟨_, t, rfl, h1.o, lwFr f1, Or.inl rfl, mo_l, fun _ => lwVr⟩)
  · obtain rfl : zc = 1 := on
    have cc : Ca 8 127 [aR (some (1, 0, 0)), aI (iZ a), aI (iZ b)] (am_hp σ) t (.inr 2, am_hp σ1, bump t) := cc
    exact bh_L_join_0_2 (cc.up (by decide)) (b_L_join_15 ⟨σ1, bump t, rfl, h1, f1, Or.inr rfl, mo_1, fun q => absurd q (by decide)⟩)
theorem on_setRule {S : SS} {v : Int} : On1 (A_setRule S v) := by
  unfold A_setRule
  repeat' first | exact on1_l | exact on1_r | apply on1_if | apply on1_ip

theorem lw_setRule {t : KT} {σ : SG} {S : SS} {v : Int} (h : CS S σ) (h_v : -2147483648 ≤ v ∧ v < 2147483648) : ∃ σ' t', Ca 8 377 [aR (some (1, 0, 0)), aI (iZ v), aR (some (70, 0, 0))] (am_hp σ) t (.inl (some (aI (iZ (moC (A_setRule S v))))), am_hp σ', t') ∧ CS ((N_set S 6 0 v)) σ' ∧ Fr inLw σ σ' ∧ (t' = t ∨ t' = bump t) ∧ (0 ≤ moC (A_setRule S v) ∧ moC (A_setRule S v) ≤ 2) ∧ (moC (A_setRule S v) = 0 → σ'.2.1 (70, 0, 0) 0 = (iZ (moI (A_setRule S v))).toInt) := by
  have on : On1 (A_setRule S v) := on_setRule
  obtain ⟨σ1, cc, h1, fp⟩ := s_X11_setRule (t := t) h h_v
  have f1 : Fr inLw σ σ1 := fp.mono (fun L q => by simp only [inN, inCa, inRp, inCl, inLw] at *; omega)
  generalize A_setRule S v = rz at cc on ⊢
  refine ex2_of (e_L_setRule (d := 7) ?_)
  rcases rz with zv | zc
  · have cc : Ca 7 128 [aR (some (1, 0, 0)), aI (iZ v)] (am_hp σ) t (.inl (some (aI (iZ (iZ zv).toInt))), am_hp σ1, t) := by rw [iZ_toInt]; exact cc
    exact b_L_setRule_0 (cc.up (by decide)) (rg32 _) (b_L_setRule_15 ⟨_, t, rfl, h1.o, lwFr f1, Or.inl rfl, mo_l, fun _ => lwVr⟩)
  · obtain rfl : zc = 1 := on
    have cc : Ca 7 128 [aR (some (1, 0, 0)), aI (iZ v)] (am_hp σ) t (.inr 1, am_hp σ1, bump t) := cc
    exact bh_L_setRule_0_1 (cc.up (by decide)) (b_L_setRule_13 ⟨σ1, bump t, rfl, h1, f1, Or.inr rfl, mo_1, fun q => absurd q (by decide)⟩)
theorem on_setSkip {S : SS} {v : Int} : On1 (A_setSkip S v) := by
  unfold A_setSkip
  repeat' first | exact on1_l | exact on1_r | apply on1_if | apply on1_ip

theorem lw_setSkip {t : KT} {σ : SG} {S : SS} {v : Int} (h : CS S σ) (h_v : -2147483648 ≤ v ∧ v < 2147483648) : ∃ σ' t', Ca 8 378 [aR (some (1, 0, 0)), aI (iZ v), aR (some (70, 0, 0))] (am_hp σ) t (.inl (some (aI (iZ (moC (A_setSkip S v))))), am_hp σ', t') ∧ CS ((N_set S 7 0 v)) σ' ∧ Fr inLw σ σ' ∧ (t' = t ∨ t' = bump t) ∧ (0 ≤ moC (A_setSkip S v) ∧ moC (A_setSkip S v) ≤ 2) ∧ (moC (A_setSkip S v) = 0 → σ'.2.1 (70, 0, 0) 0 = (iZ (moI (A_setSkip S v))).toInt) := by
  have on : On1 (A_setSkip S v) := on_setSkip
  obtain ⟨σ1, cc, h1, fp⟩ := s_X11_setSkip (t := t) h h_v
  have f1 : Fr inLw σ σ1 := fp.mono (fun L q => by simp only [inN, inCa, inRp, inCl, inLw] at *; omega)
  generalize A_setSkip S v = rz at cc on ⊢
  refine ex2_of (e_L_setSkip (d := 7) ?_)
  rcases rz with zv | zc
  · have cc : Ca 7 129 [aR (some (1, 0, 0)), aI (iZ v)] (am_hp σ) t (.inl (some (aI (iZ (iZ zv).toInt))), am_hp σ1, t) := by rw [iZ_toInt]; exact cc
    exact b_L_setSkip_0 (cc.up (by decide)) (rg32 _) (b_L_setSkip_15 ⟨_, t, rfl, h1.o, lwFr f1, Or.inl rfl, mo_l, fun _ => lwVr⟩)
  · obtain rfl : zc = 1 := on
    have cc : Ca 7 129 [aR (some (1, 0, 0)), aI (iZ v)] (am_hp σ) t (.inr 1, am_hp σ1, bump t) := cc
    exact bh_L_setSkip_0_1 (cc.up (by decide)) (b_L_setSkip_13 ⟨σ1, bump t, rfl, h1, f1, Or.inr rfl, mo_1, fun q => absurd q (by decide)⟩)
theorem on_setPrice {S : SS} {i v : Int} : On2 (A_setPrice S i v) := by
  unfold A_setPrice
  repeat' first | exact on2_l | exact on2_r | exact on2_s | apply on2_if | apply on2_ip

theorem lw_setPrice {t : KT} {σ : SG} {S : SS} {i v : Int} (h : CS S σ) (h_i : -2147483648 ≤ i ∧ i < 2147483648) (h_v : -2147483648 ≤ v ∧ v < 2147483648) : ∃ σ' t', Ca 8 379 [aR (some (1, 0, 0)), aI (iZ i), aI (iZ v), aR (some (70, 0, 0))] (am_hp σ) t (.inl (some (aI (iZ (moC (A_setPrice S i v))))), am_hp σ', t') ∧ CS ((N_set S 8 i v)) σ' ∧ Fr inLw σ σ' ∧ (t' = t ∨ t' = bump t) ∧ (0 ≤ moC (A_setPrice S i v) ∧ moC (A_setPrice S i v) ≤ 2) ∧ (moC (A_setPrice S i v) = 0 → σ'.2.1 (70, 0, 0) 0 = (iZ (moI (A_setPrice S i v))).toInt) := by
  have on : On2 (A_setPrice S i v) := on_setPrice
  obtain ⟨σ1, cc, h1, fp⟩ := s_X11_setPrice (t := t) h h_i h_v
  have f1 : Fr inLw σ σ1 := fp.mono (fun L q => by simp only [inN, inCa, inRp, inCl, inLw] at *; omega)
  generalize A_setPrice S i v = rz at cc on ⊢
  refine ex2_of (e_L_setPrice (d := 7) ?_)
  rcases rz with zv | zc
  · have cc : Ca 7 130 [aR (some (1, 0, 0)), aI (iZ i), aI (iZ v)] (am_hp σ) t (.inl (some (aI (iZ (iZ zv).toInt))), am_hp σ1, t) := by rw [iZ_toInt]; exact cc
    exact b_L_setPrice_0 (cc.up (by decide)) (rg32 _) (b_L_setPrice_21 ⟨_, t, rfl, h1.o, lwFr f1, Or.inl rfl, mo_l, fun _ => lwVr⟩)
  · rcases (on : zc = 1 ∨ zc = 2) with rfl | rfl
    · skip
      have cc : Ca 7 130 [aR (some (1, 0, 0)), aI (iZ i), aI (iZ v)] (am_hp σ) t (.inr 2, am_hp σ1, bump t) := cc
      exact bh_L_setPrice_0_2 (cc.up (by decide)) (b_L_setPrice_15 ⟨σ1, bump t, rfl, h1, f1, Or.inr rfl, mo_1, fun q => absurd q (by decide)⟩)
    · skip
      have cc : Ca 7 130 [aR (some (1, 0, 0)), aI (iZ i), aI (iZ v)] (am_hp σ) t (.inr 1, am_hp σ1, bump t) := cc
      exact bh_L_setPrice_0_1 (cc.up (by decide)) (b_L_setPrice_19 ⟨σ1, bump t, rfl, h1, f1, Or.inr rfl, mo_2, fun q => absurd q (by decide)⟩)
theorem on_account {S : SS} {i : Int} : On1 (A_account S i) := by
  unfold A_account
  repeat' first | exact on1_l | exact on1_r | apply on1_if | apply on1_ip

theorem lw_account {t : KT} {σ : SG} {S : SS} {i : Int} (h : CS S σ) (h_i : -2147483648 ≤ i ∧ i < 2147483648) : ∃ σ' t', Ca 3 380 [aR (some (1, 0, 0)), aI (iZ i), aR (some (70, 0, 0))] (am_hp σ) t (.inl (some (aI (iZ (moC (A_account S i))))), am_hp σ', t') ∧ CS (S) σ' ∧ Fr inLw σ σ' ∧ (t' = t ∨ t' = bump t) ∧ (0 ≤ moC (A_account S i) ∧ moC (A_account S i) ≤ 2) ∧ (moC (A_account S i) = 0 → σ'.2.1 (70, 0, 0) 0 = (iZ (moI (A_account S i))).toInt) := by
  have on : On1 (A_account S i) := on_account
  have cc := s_X11_account (t := t) h h_i
  have h1 := h
  have f1 : Fr inLw σ σ := Fr.refl _ _
  generalize A_account S i = rz at cc on ⊢
  refine ex2_of (e_L_account (d := 2) ?_)
  rcases rz with zv | zc
  · have cc : Ca 2 132 [aR (some (1, 0, 0)), aI (iZ i)] (am_hp σ) t (.inl (some (aI (iZ (iZ zv).toInt))), am_hp σ, t) := by rw [iZ_toInt]; exact cc
    exact b_L_account_0 (cc.up (by decide)) (rg32 _) (b_L_account_15 ⟨_, t, rfl, h1.o, lwFr f1, Or.inl rfl, mo_l, fun _ => lwVr⟩)
  · obtain rfl : zc = 1 := on
    have cc : Ca 2 132 [aR (some (1, 0, 0)), aI (iZ i)] (am_hp σ) t (.inr 1, am_hp σ, bump t) := cc
    exact bh_L_account_0_1 (cc.up (by decide)) (b_L_account_13 ⟨σ, bump t, rfl, h1, f1, Or.inr rfl, mo_1, fun q => absurd q (by decide)⟩)
theorem on_report {S : SS} {r : Int} : On1 ((A_report S r).1) := by
  unfold A_report
  repeat' first | exact on1_l | exact on1_r | apply on1_if | apply on1_ip

theorem lw_report {t : KT} {σ : SG} {S : SS} {r : Int} (h : CS S σ) (h_r : -2147483648 ≤ r ∧ r < 2147483648) : ∃ σ' t', Ca 5 381 [aR (some (1, 0, 0)), aI (iZ r), aR (some (70, 0, 0))] (am_hp σ) t (.inl (some (aI (iZ (moC ((A_report S r).1))))), am_hp σ', t') ∧ CS ((A_report S r).2) σ' ∧ Fr inLw σ σ' ∧ (t' = t ∨ t' = bump t) ∧ (0 ≤ moC ((A_report S r).1) ∧ moC ((A_report S r).1) ≤ 2) ∧ (moC ((A_report S r).1) = 0 → σ'.2.1 (70, 0, 0) 0 = (iZ (moI ((A_report S r).1))).toInt) := by
  have on : On1 ((A_report S r).1) := on_report
  obtain ⟨σ1, cc, h1, fp⟩ := s_X11_report (t := t) h h_r
  have f1 : Fr inLw σ σ1 := fp.mono (fun L q => by simp only [inN, inCa, inRp, inCl, inLw] at *; omega)
  generalize (A_report S r).1 = rz at cc on ⊢
  refine ex2_of (e_L_report (d := 4) ?_)
  rcases rz with zv | zc
  · have cc : Ca 4 134 [aR (some (1, 0, 0)), aI (iZ r)] (am_hp σ) t (.inl (some (aI (iZ (iZ zv).toInt))), am_hp σ1, t) := by rw [iZ_toInt]; exact cc
    exact b_L_report_0 (cc.up (by decide)) (rg32 _) (b_L_report_15 ⟨_, t, rfl, h1.o, lwFr f1, Or.inl rfl, mo_l, fun _ => lwVr⟩)
  · obtain rfl : zc = 1 := on
    have cc : Ca 4 134 [aR (some (1, 0, 0)), aI (iZ r)] (am_hp σ) t (.inr 2, am_hp σ1, bump t) := cc
    exact bh_L_report_0_2 (cc.up (by decide)) (b_L_report_13 ⟨σ1, bump t, rfl, h1, f1, Or.inr rfl, mo_1, fun q => absurd q (by decide)⟩)
theorem on_reportByte {S : SS} {i : Int} : On1 (A_reportByte S i) := by
  unfold A_reportByte
  repeat' first | exact on1_l | exact on1_r | apply on1_if | apply on1_ip

theorem lw_reportByte {t : KT} {σ : SG} {S : SS} {i : Int} (h : CS S σ) (h_i : -2147483648 ≤ i ∧ i < 2147483648) : ∃ σ' t', Ca 2 382 [aR (some (1, 0, 0)), aI (iZ i), aR (some (70, 0, 0))] (am_hp σ) t (.inl (some (aI (iZ (moC (A_reportByte S i))))), am_hp σ', t') ∧ CS (S) σ' ∧ Fr inLw σ σ' ∧ (t' = t ∨ t' = bump t) ∧ (0 ≤ moC (A_reportByte S i) ∧ moC (A_reportByte S i) ≤ 2) ∧ (moC (A_reportByte S i) = 0 → σ'.2.1 (70, 0, 0) 0 = (iZ (moI (A_reportByte S i))).toInt) := by
  have on : On1 (A_reportByte S i) := on_reportByte
  have cc := s_X11_reportByte (t := t) h h_i
  have h1 := h
  have f1 : Fr inLw σ σ := Fr.refl _ _
  generalize A_reportByte S i = rz at cc on ⊢
  refine ex2_of (e_L_reportByte (d := 1) ?_)
  rcases rz with zv | zc
  · have cc : Ca 1 135 [aR (some (1, 0, 0)), aI (iZ i)] (am_hp σ) t (.inl (some (aI (iZ (iZ zv).toInt))), am_hp σ, t) := by rw [iZ_toInt]; exact cc
    exact b_L_reportByte_0 (cc.up (by decide)) (rg32 _) (b_L_reportByte_15 ⟨_, t, rfl, h1.o, lwFr f1, Or.inl rfl, mo_l, fun _ => lwVr⟩)
  · obtain rfl : zc = 1 := on
    have cc : Ca 1 135 [aR (some (1, 0, 0)), aI (iZ i)] (am_hp σ) t (.inr 2, am_hp σ, bump t) := cc
    exact bh_L_reportByte_0_2 (cc.up (by decide)) (b_L_reportByte_13 ⟨σ, bump t, rfl, h1, f1, Or.inr rfl, mo_1, fun q => absurd q (by decide)⟩)
theorem on_restore {S : SS} : On1 ((A_restore S).1) := by
  unfold A_restore
  split
  all_goals first | exact on1_l | exact on1_r

theorem lw_restore {t : KT} {σ : SG} {S : SS} (h : CS S σ) : ∃ σ' t', Ca 7 383 [aR (some (1, 0, 0)), aR (some (70, 0, 0))] (am_hp σ) t (.inl (some (aI (iZ (moC ((A_restore S).1))))), am_hp σ', t') ∧ CS ((A_restore S).2) σ' ∧ Fr inLw σ σ' ∧ (t' = t ∨ t' = bump t) ∧ (0 ≤ moC ((A_restore S).1) ∧ moC ((A_restore S).1) ≤ 2) ∧ (moC ((A_restore S).1) = 0 → σ'.2.1 (70, 0, 0) 0 = (iZ (moI ((A_restore S).1))).toInt) := by
  have on : On1 ((A_restore S).1) := on_restore
  obtain ⟨σ1, cc, h1, fp⟩ := s_X11_restore (t := t) h 
  have f1 : Fr inLw σ σ1 := fp.mono (fun L q => by simp only [inN, inCa, inRp, inCl, inLw] at *; omega)
  generalize (A_restore S).1 = rz at cc on ⊢
  refine ex2_of (e_L_restore (d := 6) ?_)
  rcases rz with zv | zc
  · have cc : Ca 6 137 [aR (some (1, 0, 0))] (am_hp σ) t (.inl (some (aI (iZ (iZ zv).toInt))), am_hp σ1, t) := by rw [iZ_toInt]; exact cc
    exact b_L_restore_0 (cc.up (by decide)) (rg32 _) (b_L_restore_14 ⟨_, t, rfl, h1.o, lwFr f1, Or.inl rfl, mo_l, fun _ => lwVr⟩)
  · obtain rfl : zc = 1 := on
    have cc : Ca 6 137 [aR (some (1, 0, 0))] (am_hp σ) t (.inr 0, am_hp σ1, bump t) := cc
    exact bh_L_restore_0_0 (cc.up (by decide)) (b_L_restore_12 ⟨σ1, bump t, rfl, h1, f1, Or.inr rfl, mo_1, fun q => absurd q (by decide)⟩)
