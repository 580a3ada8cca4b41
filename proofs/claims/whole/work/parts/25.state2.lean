/-! THE STATE: cells of whole numbers; rules of operations over it -/
abbrev SG : Type := (Lc → Nat → Int) × (Lc → Nat → Int) × (Lc → Nat → UInt64) × (Lc → Nat) × XL
def up (f : Nat → Int) (k : Nat) (z : Int) : Nat → Int := fun j => cond (Nat.beq j k) z (f j)
theorem up_at (f : Nat → Int) (k : Nat) (z : Int) (j : Nat) : up f k z j = if j = k then z else f j := by
  unfold up
  by_cases h : j = k
  · subst h; simp
  · have : Nat.beq j k = false := Bool.eq_false_iff.mpr (fun q => h (Nat.eq_of_beq_eq_true q))
    rw [this, if_neg h]; rfl
def cpy (f g : Nat → Int) (sp dp n : Nat) : Nat → Int := fun k => if dp ≤ k ∧ k < dp + n then f (sp + (k - dp)) else g k
/-- words of ints (0), bytes (2), longs (1) -/
abbrev a_I (n : Nat) (f : Nat → Int) : AC := .inl (0, n, .inl fun j => iZ (f j))
abbrev a_B (n : Nat) (f : Nat → Int) : AC := .inl (2, n, .inl fun j => iZ (f j))
abbrev a_J (n : Nat) (f : Nat → Int) : AC := .inl (1, n, .inr (.inl fun j => jZ (f j)))
abbrev a_R (ty n : Nat) (f : Nat → Lc) : AC := .inl (ty, n, .inr (.inr (.inr fun j => if j < n then some (f j) else none)))
def am_tr (f g : Nat → Int) (D : Nat → UInt64) (c : Nat) (a : Nat) : Nat → Option AC := (am_nd 27 (am_nd 13 (am_nd 6 (am_nd 3 (am_nd 1 (am_lf 1 (.inr (9, [aR (some (2, 0, 0)), aR (some (4, 0, 0)), aR (some (8, 0, 0)), aR (some (14, 0, 0)), aR (some (8, 2, 0)), aR (some (15, 0, 0)), aR (some (17, 0, 0)), aR (some (18, 0, 0)), aR (some (7, 30, 0)), aR (some (25, 0, 0)), aR (some (27, 0, 0)), aI (iZ (f 11)), aI (iZ (f 12))]))) (am_nd 2 (am_lf 2 (.inr (8, [aR (some (3, 0, 0)), aI (iZ (f 1)), aI (iZ (f 2)), aI (iZ (f 3)), aL (jZ (g 4)), aI (iZ (f 5)), aI (iZ (f 6)), aI (iZ (f 7)), aI (iZ (f 8))]))) (am_lf 3 (a_B 600 f)))) (am_nd 4 (am_lf 4 (.inr (6, [aR (some (5, 0, 0)), aR (some (6, 0, 0)), aI (iZ (f 2)), aI (iZ (f 3)), aI (iZ (f 4)), aI (iZ (f 5))]))) (am_nd 5 (am_lf 5 (a_R 6 30 (fun j => (7, j, 0)))) (am_lf 6 (a_I 2 f))))) (am_nd 9 (am_nd 7 (am_lf 7 (.inr (0, [aR (some (91, c, 0)), aL (jZ (g 1)), aL (jZ (g 2)), aI (iZ (f 3)), aI (iZ (f 4)), aI (iZ (f 5)), aI (iZ (f 6)), aI (iZ (f 7))]))) (am_nd 8 (am_lf 8 (.inr (5, [aR (some (9, a, 0)), aR (some (10, a, 0)), aR (some (11, a, 0)), aR (some (13, a, 0)), aI (iZ (f 4)), aI (iZ (f 5)), aI (iZ (f 6))]))) (am_lf 9 (a_J 4 g)))) (am_nd 11 (am_nd 10 (am_lf 10 (a_I 4 f)) (am_lf 11 (a_R 7 4 (fun j => (12, a, j))))) (am_nd 12 (am_lf 12 (a_I 60 f)) (am_lf 13 (a_I 9 f)))))) (am_nd 20 (am_nd 16 (am_nd 14 (am_lf 14 (.inr (7, [aR (some (8, 1, 0)), aI (iZ (f 1))]))) (am_nd 15 (am_lf 15 (.inr (1, [aR (some (16, 0, 0)), aI (iZ (f 1)), aI (iZ (f 2))]))) (am_lf 16 (a_R 5 6 (fun j => (8, 3 + j, 0)))))) (am_nd 18 (am_nd 17 (am_lf 17 (a_R 4 4 (fun j => (28, j, 0)))) (am_lf 18 (.inr (3, [aR (some (19, 0, 0)), aR (some (20, 0, 0)), aR (some (21, 0, 0)), aR (some (22, 0, 0)), aR (some (23, 0, 0)), aR (some (24, 0, 0)), aI (iZ (f 6))])))) (am_nd 19 (am_lf 19 (a_I 120 f)) (am_lf 20 (a_I 120 f))))) (am_nd 23 (am_nd 21 (am_lf 21 (a_I 120 f)) (am_nd 22 (am_lf 22 (a_I 121 f)) (am_lf 23 (a_I 9 f)))) (am_nd 25 (am_nd 24 (am_lf 24 (a_I 9 f)) (am_lf 25 (.inr (4, [aR (some (26, 0, 0)), aI (iZ (f 1))])))) (am_nd 26 (am_lf 26 (a_B 730 f)) (am_lf 27 (a_I 4 f))))))) (am_nd 50 (am_nd 43 (am_nd 30 (am_nd 28 (am_lf 28 (.inr (2, [aR (some (29, a, 0)), aR (some (30, a, 0)), aI (iZ (f 2)), aI (iZ (f 3))]))) (am_nd 29 (am_lf 29 (a_I 60 f)) (am_lf 30 (a_I 60 f)))) (am_nd 41 (am_nd 40 (am_lf 40 (.inr (10, [aI (iZ (f 0)), aR (some (41, 0, 0)), aI (iZ (f 2)), aI (iZ (f 3)), aI (iZ (f 4)), aI (iZ (f 5)), aI (iZ (f 6)), aI (iZ (f 7)), aI (iZ (f 8)), aI (iZ (f 9)), aI (iZ (f 10)), aI (iZ (f 11)), aL (jZ (g 12)), aR (some (42, 0, 0)), aR (some (43, 0, 0)), aR (some (44, 0, 0)), aR (some (45, 0, 0)), aI (iZ (f 17)), aI (iZ (f 18)), aI (iZ (f 19)), aI (iZ (f 20)), aI (iZ (f 21)), aI (iZ (f 22)), aI (iZ (f 23)), aR (some (46, 0, 0)), aR (some (47, 0, 0)), aR (some (48, 0, 0)), aR (some (49, 0, 0)), aR (some (50, 0, 0)), aR (some (51, 0, 0)), aR (some (52, 0, 0)), aR (some (53, 0, 0)), aR (some (54, 0, 0)), aI (iZ (f 33)), aI (iZ (f 34)), aI (iZ (f 35)), aR (some (55, 0, 0)), aR (some (56, 0, 0)), aR (some (57, 0, 0)), aR (some (58, 0, 0)), aR (some (59, 0, 0)), aR (some (60, 0, 0)), aR (some (61, 0, 0)), aI (iZ (f 43)), aI (iZ (f 44)), aI (iZ (f 45)), aR (some (62, 0, 0)), aI (iZ (f 47)), aI (iZ (f 48))]))) (am_lf 41 (a_I 600 f))) (am_nd 42 (am_lf 42 (a_I 264 f)) (am_lf 43 (a_I 264 f))))) (am_nd 46 (am_nd 44 (am_lf 44 (a_I 264 f)) (am_nd 45 (am_lf 45 (a_I 1584 f)) (am_lf 46 (a_I 9 f)))) (am_nd 48 (am_nd 47 (am_lf 47 (a_I 9 f)) (am_lf 48 (a_I 120 f))) (am_nd 49 (am_lf 49 (a_I 120 f)) (am_lf 50 (a_I 9 f)))))) (am_nd 57 (am_nd 53 (am_nd 51 (am_lf 51 (a_I 120 f)) (am_nd 52 (am_lf 52 (a_I 121 f)) (am_lf 53 (a_I 121 f)))) (am_nd 55 (am_nd 54 (am_lf 54 (a_I 121 f)) (am_lf 55 (a_I 60 f))) (am_nd 56 (am_lf 56 (a_I 60 f)) (am_lf 57 (a_I 60 f))))) (am_nd 60 (am_nd 58 (am_lf 58 (a_I 2 f)) (am_nd 59 (am_lf 59 (a_I 2 f)) (am_lf 60 (a_J 60 g)))) (am_nd 62 (am_nd 61 (am_lf 61 (a_J 60 g)) (am_lf 62 (a_I 1200 f))) (am_nd 70 (am_lf 70 (a_J 1 g)) (am_lf 71 (.inl (3, 1, .inr (.inr (.inl D)))))))))))
def am_mk (L : Lc) (f g : Nat → Int) (D : Nat → UInt64) (c : Nat) (xl : XL) : AC := (am_tr f g D c L.2.1 L.1).getD (am_k xl L)
def am_hp (σ : SG) : AH := fun L => am_mk L (σ.1 L) (σ.2.1 L) (σ.2.2.1 L) (σ.2.2.2.1 L) σ.2.2.2.2
def sI (σ : SG) (L : Lc) (f : Nat → Int) : SG := (fun L' => if L' = L then f else σ.1 L', σ.2)
def sJ (σ : SG) (L : Lc) (f : Nat → Int) : SG := (σ.1, fun L' => if L' = L then f else σ.2.1 L', σ.2.2)
def sD (σ : SG) (L : Lc) (f : Nat → UInt64) : SG := (σ.1, σ.2.1, (fun L' => if L' = L then f else σ.2.2.1 L'), σ.2.2.2)
def sC (σ : SG) (L : Lc) (c : Nat) : SG := (σ.1, σ.2.1, σ.2.2.1, (fun L' => if L' = L then c else σ.2.2.2.1 L'), σ.2.2.2.2)
theorem hp_I {σ : SG} {L : Lc} {f : Nat → Int} {x : AC} (hx : x = am_mk L f (σ.2.1 L) (σ.2.2.1 L) (σ.2.2.2.1 L) σ.2.2.2.2) : am_uh (am_hp σ) L x = am_hp (sI σ L f) := by
  funext L'
  unfold am_uh am_hp sI
  by_cases h : L' = L
  · subst h
    rw [if_pos rfl, hx]
    simp only [if_true]
  · simp only [h, if_false]
theorem hp_J {σ : SG} {L : Lc} {f : Nat → Int} {x : AC} (hx : x = am_mk L (σ.1 L) f (σ.2.2.1 L) (σ.2.2.2.1 L) σ.2.2.2.2) : am_uh (am_hp σ) L x = am_hp (sJ σ L f) := by
  funext L'
  unfold am_uh am_hp sJ
  by_cases h : L' = L
  · subst h
    rw [if_pos rfl, hx]
    simp only [if_true]
  · simp only [h, if_false]
theorem hp_D {σ : SG} {L : Lc} {f : Nat → UInt64} {x : AC} (hx : x = am_mk L (σ.1 L) (σ.2.1 L) f (σ.2.2.2.1 L) σ.2.2.2.2) : am_uh (am_hp σ) L x = am_hp (sD σ L f) := by
  funext L'
  unfold am_uh am_hp sD
  by_cases h : L' = L
  · subst h
    rw [if_pos rfl, hx]
    simp only [if_true]
  · simp only [h, if_false]
theorem hp_C {σ : SG} {L : Lc} {c : Nat} {x : AC} (hx : x = am_mk L (σ.1 L) (σ.2.1 L) (σ.2.2.1 L) c σ.2.2.2.2) : am_uh (am_hp σ) L x = am_hp (sC σ L c) := by
  funext L'
  unfold am_uh am_hp sC
  by_cases h : L' = L
  · subst h
    rw [if_pos rfl, hx]
    simp only [if_true]
  · simp only [h, if_false]
theorem iZ_lt {a b : Int} (ha : -2147483648 ≤ a ∧ a < 2147483648) (hb : -2147483648 ≤ b ∧ b < 2147483648) : (iZ a < iZ b) ↔ a < b := by
  rw [Int32.lt_iff_toInt_lt, iZ_get ha, iZ_get hb]
theorem iZ_le {a b : Int} (ha : -2147483648 ≤ a ∧ a < 2147483648) (hb : -2147483648 ≤ b ∧ b < 2147483648) : (iZ a ≤ iZ b) ↔ a ≤ b := by
  rw [Int32.le_iff_toInt_le, iZ_get ha, iZ_get hb]
theorem iZ_eq {a b : Int} (ha : -2147483648 ≤ a ∧ a < 2147483648) (hb : -2147483648 ≤ b ∧ b < 2147483648) : (iZ a = iZ b) ↔ a = b := by
  constructor
  · intro h
    have := congrArg Int32.toInt h
    rwa [iZ_get ha, iZ_get hb] at this
  · intro h; rw [h]
theorem iZ_0 : (0 : Int32) = iZ 0 := by decide
theorem iZ_nat {a : Int} (h : 0 ≤ a ∧ a < 2147483648) : (iZ a).toNatClampNeg = a.toNat := by
  have : (iZ a).toNatClampNeg = (iZ a).toInt.toNat := rfl
  rw [this, iZ_get (by omega)]
theorem iZ_n0 {a : Int} (h : 0 ≤ a ∧ a < 2147483648) : ¬ iZ a < 0 := by
  rw [iZ_0, iZ_lt (by omega) (by omega)]; omega
section RUO
variable {k : Nat → Option OP} {d pc : Nat} {ls : AS} {st : List AV} {h : AH} {t : KT} {Q : RS → Prop}
theorem w_iadd {a b : Int} (hk : k pc = some (.inl (o_stk (f_i2 g_iadd)))) {pc' : Nat} (hp : pc + 1 = pc') (w : Wp k d (pc', ls, aI (iZ (a + b)) :: st, h, t) Q) : Wp k d (pc, ls, aI (iZ b) :: aI (iZ a) :: st, h, t) Q := by
  subst hp
  refine w_s hk (c' := (pc + 1, ls, aI (iZ (a + b)) :: st, h, t)) ?_ w
  show some (pc + 1, ls, aI (iZ a + iZ b) :: st, h, t) = _
  rw [iZ_add]
theorem w_isub {a b : Int} (hk : k pc = some (.inl (o_stk (f_i2 g_isub)))) {pc' : Nat} (hp : pc + 1 = pc') (w : Wp k d (pc', ls, aI (iZ (a - b)) :: st, h, t) Q) : Wp k d (pc, ls, aI (iZ b) :: aI (iZ a) :: st, h, t) Q := by
  subst hp
  refine w_s hk (c' := (pc + 1, ls, aI (iZ (a - b)) :: st, h, t)) ?_ w
  show some (pc + 1, ls, aI (iZ a - iZ b) :: st, h, t) = _
  rw [iZ_sub]
theorem w_imul {a b : Int} (hk : k pc = some (.inl (o_stk (f_i2 g_imul)))) {pc' : Nat} (hp : pc + 1 = pc') (w : Wp k d (pc', ls, aI (iZ (a * b)) :: st, h, t) Q) : Wp k d (pc, ls, aI (iZ b) :: aI (iZ a) :: st, h, t) Q := by
  subst hp
  refine w_s hk (c' := (pc + 1, ls, aI (iZ (a * b)) :: st, h, t)) ?_ w
  show some (pc + 1, ls, aI (iZ a * iZ b) :: st, h, t) = _
  rw [iZ_mul]
theorem w_ineg {a : Int} (hk : k pc = some (.inl (o_stk (f_i1 g_ineg)))) {pc' : Nat} (hp : pc + 1 = pc') (w : Wp k d (pc', ls, aI (iZ (-a)) :: st, h, t) Q) : Wp k d (pc, ls, aI (iZ a) :: st, h, t) Q := by
  subst hp
  refine w_s hk (c' := (pc + 1, ls, aI (iZ (-a)) :: st, h, t)) ?_ w
  show some (pc + 1, ls, aI (-iZ a) :: st, h, t) = _
  rw [iZ_neg]
def zand (a b : Int) : Int := (iZ a &&& iZ b).toInt
theorem w_iand {a b : Int} (hk : k pc = some (.inl (o_stk (f_i2 g_iand)))) {pc' : Nat} (hp : pc + 1 = pc') (w : Wp k d (pc', ls, aI (iZ (zand a b)) :: st, h, t) Q) : Wp k d (pc, ls, aI (iZ b) :: aI (iZ a) :: st, h, t) Q := by
  subst hp
  refine w_s hk (c' := (pc + 1, ls, aI (iZ (zand a b)) :: st, h, t)) ?_ w
  show some (pc + 1, ls, aI (iZ a &&& iZ b) :: st, h, t) = _
  rw [zand, iZ_toInt]
def zor (a b : Int) : Int := (iZ a ||| iZ b).toInt
theorem w_ior {a b : Int} (hk : k pc = some (.inl (o_stk (f_i2 g_ior)))) {pc' : Nat} (hp : pc + 1 = pc') (w : Wp k d (pc', ls, aI (iZ (zor a b)) :: st, h, t) Q) : Wp k d (pc, ls, aI (iZ b) :: aI (iZ a) :: st, h, t) Q := by
  subst hp
  refine w_s hk (c' := (pc + 1, ls, aI (iZ (zor a b)) :: st, h, t)) ?_ w
  show some (pc + 1, ls, aI (iZ a ||| iZ b) :: st, h, t) = _
  rw [zor, iZ_toInt]
def zshl (a b : Int) : Int := (iZ a <<< (iZ b &&& 31)).toInt
theorem w_ishl {a b : Int} (hk : k pc = some (.inl (o_stk (f_i2 g_ishl)))) {pc' : Nat} (hp : pc + 1 = pc') (w : Wp k d (pc', ls, aI (iZ (zshl a b)) :: st, h, t) Q) : Wp k d (pc, ls, aI (iZ b) :: aI (iZ a) :: st, h, t) Q := by
  subst hp
  refine w_s hk (c' := (pc + 1, ls, aI (iZ (zshl a b)) :: st, h, t)) ?_ w
  show some (pc + 1, ls, aI (iZ a <<< (iZ b &&& 31)) :: st, h, t) = _
  rw [zshl, iZ_toInt]
def zshr (a b : Int) : Int := (iZ a >>> (iZ b &&& 31)).toInt
theorem w_ishr {a b : Int} (hk : k pc = some (.inl (o_stk (f_i2 g_ishr)))) {pc' : Nat} (hp : pc + 1 = pc') (w : Wp k d (pc', ls, aI (iZ (zshr a b)) :: st, h, t) Q) : Wp k d (pc, ls, aI (iZ b) :: aI (iZ a) :: st, h, t) Q := by
  subst hp
  refine w_s hk (c' := (pc + 1, ls, aI (iZ (zshr a b)) :: st, h, t)) ?_ w
  show some (pc + 1, ls, aI (iZ a >>> (iZ b &&& 31)) :: st, h, t) = _
  rw [zshr, iZ_toInt]
def zush (a b : Int) : Int := ((iZ a).toUInt32 >>> ((iZ b).toUInt32 &&& Int32.toUInt32 31)).toInt32.toInt
theorem w_iushr {a b : Int} (hk : k pc = some (.inl (o_stk (f_i2 g_iushr)))) {pc' : Nat} (hp : pc + 1 = pc') (w : Wp k d (pc', ls, aI (iZ (zush a b)) :: st, h, t) Q) : Wp k d (pc, ls, aI (iZ b) :: aI (iZ a) :: st, h, t) Q := by
  subst hp
  refine w_s hk (c' := (pc + 1, ls, aI (iZ (zush a b)) :: st, h, t)) ?_ w
  show some (pc + 1, ls, aI ((iZ a).toUInt32 >>> ((iZ b).toUInt32 &&& Int32.toUInt32 31)).toInt32 :: st, h, t) = _
  rw [zush, iZ_toInt]
def zi2b (a : Int) : Int := ((iZ a).toInt8.toInt32).toInt
theorem w_i2b {a : Int} (hk : k pc = some (.inl (o_stk (f_i1 g_i2b)))) {pc' : Nat} (hp : pc + 1 = pc') (w : Wp k d (pc', ls, aI (iZ (zi2b a)) :: st, h, t) Q) : Wp k d (pc, ls, aI (iZ a) :: st, h, t) Q := by
  subst hp
  refine w_s hk (c' := (pc + 1, ls, aI (iZ (zi2b a)) :: st, h, t)) ?_ w
  show some (pc + 1, ls, aI ((iZ a).toInt8.toInt32) :: st, h, t) = _
  rw [zi2b, iZ_toInt]
def zi2c (a : Int) : Int := (((iZ a).toUInt32 % 65536).toInt32).toInt
theorem w_i2c {a : Int} (hk : k pc = some (.inl (o_stk (f_i1 g_i2c)))) {pc' : Nat} (hp : pc + 1 = pc') (w : Wp k d (pc', ls, aI (iZ (zi2c a)) :: st, h, t) Q) : Wp k d (pc, ls, aI (iZ a) :: st, h, t) Q := by
  subst hp
  refine w_s hk (c' := (pc + 1, ls, aI (iZ (zi2c a)) :: st, h, t)) ?_ w
  show some (pc + 1, ls, aI ((iZ a).toUInt32 % 65536).toInt32 :: st, h, t) = _
  rw [zi2c, iZ_toInt]
def zdiv (a b : Int) : Int := (iZ a / iZ b).toInt
theorem w_idiv {a b : Int} (hk : k pc = some (.inl (o_stk (f_dv g_idiv)))) {pc' : Nat} (hp : pc + 1 = pc') (h0 : -2147483648 ≤ b ∧ b < 2147483648 ∧ b ≠ 0) (w : Wp k d (pc', ls, aI (iZ (zdiv a b)) :: st, h, t) Q) : Wp k d (pc, ls, aI (iZ b) :: aI (iZ a) :: st, h, t) Q := by
  subst hp
  refine w_s hk (c' := (pc + 1, ls, aI (iZ (zdiv a b)) :: st, h, t)) ?_ w
  have hb : ¬ iZ b = 0 := by
    rw [iZ_0, iZ_eq (by omega) (by omega)]; omega
  unfold o_stk f_dv
  try dsimp only [a_I, a_B, a_J, a_R]
  rw [if_neg hb, zdiv, iZ_toInt]
def zrem (a b : Int) : Int := (iZ a - iZ a / iZ b * iZ b).toInt
theorem w_irem {a b : Int} (hk : k pc = some (.inl (o_stk (f_dv g_irem)))) {pc' : Nat} (hp : pc + 1 = pc') (h0 : -2147483648 ≤ b ∧ b < 2147483648 ∧ b ≠ 0) (w : Wp k d (pc', ls, aI (iZ (zrem a b)) :: st, h, t) Q) : Wp k d (pc, ls, aI (iZ b) :: aI (iZ a) :: st, h, t) Q := by
  subst hp
  refine w_s hk (c' := (pc + 1, ls, aI (iZ (zrem a b)) :: st, h, t)) ?_ w
  have hb : ¬ iZ b = 0 := by
    rw [iZ_0, iZ_eq (by omega) (by omega)]; omega
  unfold o_stk f_dv
  try dsimp only [a_I, a_B, a_J, a_R]
  rw [if_neg hb, zrem, iZ_toInt]
theorem w_i2l {a : Int} (hk : k pc = some (.inl (o_stk (f_i1 g_i2l)))) {pc' : Nat} (hp : pc + 1 = pc') (ha : -2147483648 ≤ a ∧ a < 2147483648) (w : Wp k d (pc', ls, aL (jZ a) :: st, h, t) Q) : Wp k d (pc, ls, aI (iZ a) :: st, h, t) Q := by
  subst hp
  refine w_s hk (c' := (pc + 1, ls, aL (jZ a) :: st, h, t)) ?_ w
  show some (pc + 1, ls, aL (iZ a).toInt64 :: st, h, t) = _
  rw [show (iZ a).toInt64 = jZ a by rw [← jZ_toInt (iZ a).toInt64, Int32.toInt_toInt64, iZ_get ha]]
def zl2i (a : Int) : Int := (jZ a).toInt32.toInt
theorem w_l2i {a : Int} (hk : k pc = some (.inl (o_stk (f_l1 g_l2i)))) {pc' : Nat} (hp : pc + 1 = pc') (w : Wp k d (pc', ls, aI (iZ (zl2i a)) :: st, h, t) Q) : Wp k d (pc, ls, aL (jZ a) :: st, h, t) Q := by
  subst hp
  refine w_s hk (c' := (pc + 1, ls, aI (iZ (zl2i a)) :: st, h, t)) ?_ w
  show some (pc + 1, ls, aI (jZ a).toInt32 :: st, h, t) = _
  rw [zl2i, iZ_toInt]
theorem w_ladd {a b : Int} (hk : k pc = some (.inl (o_stk (f_l2 g_ladd)))) {pc' : Nat} (hp : pc + 1 = pc') (w : Wp k d (pc', ls, aL (jZ (a + b)) :: st, h, t) Q) : Wp k d (pc, ls, aL (jZ b) :: aL (jZ a) :: st, h, t) Q := by
  subst hp
  refine w_s hk (c' := (pc + 1, ls, aL (jZ (a + b)) :: st, h, t)) ?_ w
  show some (pc + 1, ls, aL (jZ a + jZ b) :: st, h, t) = _
  rw [jZ_add]
theorem w_lsub {a b : Int} (hk : k pc = some (.inl (o_stk (f_l2 g_lsub)))) {pc' : Nat} (hp : pc + 1 = pc') (w : Wp k d (pc', ls, aL (jZ (a - b)) :: st, h, t) Q) : Wp k d (pc, ls, aL (jZ b) :: aL (jZ a) :: st, h, t) Q := by
  subst hp
  refine w_s hk (c' := (pc + 1, ls, aL (jZ (a - b)) :: st, h, t)) ?_ w
  show some (pc + 1, ls, aL (jZ a - jZ b) :: st, h, t) = _
  rw [jZ_sub]
def yand (a b : Int) : Int := (jZ a &&& jZ b).toInt
theorem w_land {a b : Int} (hk : k pc = some (.inl (o_stk (f_l2 g_land)))) {pc' : Nat} (hp : pc + 1 = pc') (w : Wp k d (pc', ls, aL (jZ (yand a b)) :: st, h, t) Q) : Wp k d (pc, ls, aL (jZ b) :: aL (jZ a) :: st, h, t) Q := by
  subst hp
  refine w_s hk (c' := (pc + 1, ls, aL (jZ (yand a b)) :: st, h, t)) ?_ w
  show some (pc + 1, ls, aL (jZ a &&& jZ b) :: st, h, t) = _
  rw [yand, jZ_toInt]
def yor (a b : Int) : Int := (jZ a ||| jZ b).toInt
theorem w_lor {a b : Int} (hk : k pc = some (.inl (o_stk (f_l2 g_lor)))) {pc' : Nat} (hp : pc + 1 = pc') (w : Wp k d (pc', ls, aL (jZ (yor a b)) :: st, h, t) Q) : Wp k d (pc, ls, aL (jZ b) :: aL (jZ a) :: st, h, t) Q := by
  subst hp
  refine w_s hk (c' := (pc + 1, ls, aL (jZ (yor a b)) :: st, h, t)) ?_ w
  show some (pc + 1, ls, aL (jZ a ||| jZ b) :: st, h, t) = _
  rw [yor, jZ_toInt]
def yshl (a b : Int) : Int := (jZ a <<< ((iZ b).toInt64 &&& 63)).toInt
theorem w_lshl {a b : Int} (hk : k pc = some (.inl (o_stk (f_lI g_lshl)))) {pc' : Nat} (hp : pc + 1 = pc') (w : Wp k d (pc', ls, aL (jZ (yshl a b)) :: st, h, t) Q) : Wp k d (pc, ls, aI (iZ b) :: aL (jZ a) :: st, h, t) Q := by
  subst hp
  refine w_s hk (c' := (pc + 1, ls, aL (jZ (yshl a b)) :: st, h, t)) ?_ w
  show some (pc + 1, ls, aL (jZ a <<< ((iZ b).toInt64 &&& 63)) :: st, h, t) = _
  rw [yshl, jZ_toInt]
def yshr (a b : Int) : Int := (jZ a >>> ((iZ b).toInt64 &&& 63)).toInt
theorem w_lshr {a b : Int} (hk : k pc = some (.inl (o_stk (f_lI g_lshr)))) {pc' : Nat} (hp : pc + 1 = pc') (w : Wp k d (pc', ls, aL (jZ (yshr a b)) :: st, h, t) Q) : Wp k d (pc, ls, aI (iZ b) :: aL (jZ a) :: st, h, t) Q := by
  subst hp
  refine w_s hk (c' := (pc + 1, ls, aL (jZ (yshr a b)) :: st, h, t)) ?_ w
  show some (pc + 1, ls, aL (jZ a >>> ((iZ b).toInt64 &&& 63)) :: st, h, t) = _
  rw [yshr, jZ_toInt]
def ycmp (a b : Int) : Int := (lg_cmp (jZ a) (jZ b)).toInt
theorem w_lcmp {a b : Int} (hk : k pc = some (.inl (o_stk (f_l2 g_lcmp)))) {pc' : Nat} (hp : pc + 1 = pc') (w : Wp k d (pc', ls, aI (iZ (ycmp a b)) :: st, h, t) Q) : Wp k d (pc, ls, aL (jZ b) :: aL (jZ a) :: st, h, t) Q := by
  subst hp
  refine w_s hk (c' := (pc + 1, ls, aI (iZ (ycmp a b)) :: st, h, t)) ?_ w
  show some (pc + 1, ls, aI (lg_cmp (jZ a) (jZ b)) :: st, h, t) = _
  rw [ycmp, iZ_toInt]
theorem w_inc {i : Nat} {n : Int32} {z a : Int} {ls' : AS} (hk : k pc = some (.inl (o_inc i n))) (hl : ls[i]? = some (some (aI (iZ a)))) (hi : Nat.blt i ls.length = true) (hn : n = iZ z) (hp : am_put ls i (aI (iZ (a + z))) = ls') {pc' : Nat} (hp' : pc + 3 = pc') (w : Wp k d (pc', ls', st, h, t) Q) : Wp k d (pc, ls, st, h, t) Q := by
  subst hp
  subst hp'
  subst hn
  refine w_s hk (c' := (pc + 3, am_put ls i (aI (iZ (a + z))), st, h, t)) ?_ w
  unfold o_inc
  try dsimp only [a_I, a_B, a_J, a_R]
  rw [hl]
  try dsimp only [a_I, a_B, a_J, a_R]
  rw [if_pos (show i < ls.length from Nat.ble_eq.mp hi), iZ_add]
theorem w_ifeq {tgt : Nat} {a : Int} (hk : k pc = some (.inl (o_stk (f_ifeq tgt)))) (ha : -2147483648 ≤ a ∧ a < 2147483648) {pc' : Nat} (hp : pc + 3 = pc') (w1 : a = 0 → Wp k d (tgt, ls, st, h, t) Q) (w2 : a ≠ 0 → Wp k d (pc', ls, st, h, t) Q) : Wp k d (pc, ls, aI (iZ a) :: st, h, t) Q := by
  subst hp
  have e1 : (iZ a = 0) ↔ a = 0 := by rw [iZ_0]; exact iZ_eq ha (by omega)
  have e2 : (iZ a < 0) ↔ a < 0 := by rw [iZ_0]; exact iZ_lt ha (by omega)
  have e3 : ((0 : Int32) ≤ iZ a) ↔ 0 ≤ a := by rw [iZ_0]; exact iZ_le (by omega) ha
  have e4 : ((0 : Int32) < iZ a) ↔ 0 < a := by rw [iZ_0]; exact iZ_lt (by omega) ha
  have e5 : (iZ a ≤ 0) ↔ a ≤ 0 := by rw [iZ_0]; exact iZ_le ha (by omega)
  by_cases q : a = 0
  · refine w_s hk (c' := (tgt, ls, st, h, t)) ?_ (w1 q)
    unfold o_stk f_ifeq
    dsimp only
    first | rw [if_pos (by first | exact e1.mpr q | exact (not_congr e1).mpr q | exact e2.mpr q | exact e3.mpr q | exact e4.mpr q | exact e5.mpr q)] | rw [if_neg (by first | exact (not_congr e1).mpr q | exact (not_congr e2).mpr (by omega) | exact (not_congr e5).mpr (by omega))]
  · refine w_s hk (c' := (pc + 3, ls, st, h, t)) ?_ (w2 (by omega))
    unfold o_stk f_ifeq
    dsimp only
    first | rw [if_neg (by first | exact (not_congr e1).mpr q | exact fun z => q (fun y => z (e1.mpr y)) | exact (not_congr e2).mpr q | exact (not_congr e3).mpr q | exact (not_congr e4).mpr q | exact (not_congr e5).mpr q)] | rw [if_pos (by first | exact e1.mpr (by omega) | exact e2.mpr (by omega) | exact e5.mpr (by omega))]
theorem w_ifne {tgt : Nat} {a : Int} (hk : k pc = some (.inl (o_stk (f_ifne tgt)))) (ha : -2147483648 ≤ a ∧ a < 2147483648) {pc' : Nat} (hp : pc + 3 = pc') (w1 : a ≠ 0 → Wp k d (tgt, ls, st, h, t) Q) (w2 : a = 0 → Wp k d (pc', ls, st, h, t) Q) : Wp k d (pc, ls, aI (iZ a) :: st, h, t) Q := by
  subst hp
  have e1 : (iZ a = 0) ↔ a = 0 := by rw [iZ_0]; exact iZ_eq ha (by omega)
  have e2 : (iZ a < 0) ↔ a < 0 := by rw [iZ_0]; exact iZ_lt ha (by omega)
  have e3 : ((0 : Int32) ≤ iZ a) ↔ 0 ≤ a := by rw [iZ_0]; exact iZ_le (by omega) ha
  have e4 : ((0 : Int32) < iZ a) ↔ 0 < a := by rw [iZ_0]; exact iZ_lt (by omega) ha
  have e5 : (iZ a ≤ 0) ↔ a ≤ 0 := by rw [iZ_0]; exact iZ_le ha (by omega)
  by_cases q : a ≠ 0
  · refine w_s hk (c' := (tgt, ls, st, h, t)) ?_ (w1 q)
    unfold o_stk f_ifne
    dsimp only
    first | rw [if_pos (by first | exact e1.mpr q | exact (not_congr e1).mpr q | exact e2.mpr q | exact e3.mpr q | exact e4.mpr q | exact e5.mpr q)] | rw [if_neg (by first | exact (not_congr e1).mpr q | exact (not_congr e2).mpr (by omega) | exact (not_congr e5).mpr (by omega))]
  · refine w_s hk (c' := (pc + 3, ls, st, h, t)) ?_ (w2 (by omega))
    unfold o_stk f_ifne
    dsimp only
    first | rw [if_neg (by first | exact (not_congr e1).mpr q | exact fun z => q (fun y => z (e1.mpr y)) | exact (not_congr e2).mpr q | exact (not_congr e3).mpr q | exact (not_congr e4).mpr q | exact (not_congr e5).mpr q)] | rw [if_pos (by first | exact e1.mpr (by omega) | exact e2.mpr (by omega) | exact e5.mpr (by omega))]
theorem w_iflt {tgt : Nat} {a : Int} (hk : k pc = some (.inl (o_stk (f_iflt tgt)))) (ha : -2147483648 ≤ a ∧ a < 2147483648) {pc' : Nat} (hp : pc + 3 = pc') (w1 : a < 0 → Wp k d (tgt, ls, st, h, t) Q) (w2 : 0 ≤ a → Wp k d (pc', ls, st, h, t) Q) : Wp k d (pc, ls, aI (iZ a) :: st, h, t) Q := by
  subst hp
  have e1 : (iZ a = 0) ↔ a = 0 := by rw [iZ_0]; exact iZ_eq ha (by omega)
  have e2 : (iZ a < 0) ↔ a < 0 := by rw [iZ_0]; exact iZ_lt ha (by omega)
  have e3 : ((0 : Int32) ≤ iZ a) ↔ 0 ≤ a := by rw [iZ_0]; exact iZ_le (by omega) ha
  have e4 : ((0 : Int32) < iZ a) ↔ 0 < a := by rw [iZ_0]; exact iZ_lt (by omega) ha
  have e5 : (iZ a ≤ 0) ↔ a ≤ 0 := by rw [iZ_0]; exact iZ_le ha (by omega)
  by_cases q : a < 0
  · refine w_s hk (c' := (tgt, ls, st, h, t)) ?_ (w1 q)
    unfold o_stk f_iflt
    dsimp only
    first | rw [if_pos (by first | exact e1.mpr q | exact (not_congr e1).mpr q | exact e2.mpr q | exact e3.mpr q | exact e4.mpr q | exact e5.mpr q)] | rw [if_neg (by first | exact (not_congr e1).mpr q | exact (not_congr e2).mpr (by omega) | exact (not_congr e5).mpr (by omega))]
  · refine w_s hk (c' := (pc + 3, ls, st, h, t)) ?_ (w2 (by omega))
    unfold o_stk f_iflt
    dsimp only
    first | rw [if_neg (by first | exact (not_congr e1).mpr q | exact fun z => q (fun y => z (e1.mpr y)) | exact (not_congr e2).mpr q | exact (not_congr e3).mpr q | exact (not_congr e4).mpr q | exact (not_congr e5).mpr q)] | rw [if_pos (by first | exact e1.mpr (by omega) | exact e2.mpr (by omega) | exact e5.mpr (by omega))]
theorem w_ifge {tgt : Nat} {a : Int} (hk : k pc = some (.inl (o_stk (f_ifge tgt)))) (ha : -2147483648 ≤ a ∧ a < 2147483648) {pc' : Nat} (hp : pc + 3 = pc') (w1 : 0 ≤ a → Wp k d (tgt, ls, st, h, t) Q) (w2 : a < 0 → Wp k d (pc', ls, st, h, t) Q) : Wp k d (pc, ls, aI (iZ a) :: st, h, t) Q := by
  subst hp
  have e1 : (iZ a = 0) ↔ a = 0 := by rw [iZ_0]; exact iZ_eq ha (by omega)
  have e2 : (iZ a < 0) ↔ a < 0 := by rw [iZ_0]; exact iZ_lt ha (by omega)
  have e3 : ((0 : Int32) ≤ iZ a) ↔ 0 ≤ a := by rw [iZ_0]; exact iZ_le (by omega) ha
  have e4 : ((0 : Int32) < iZ a) ↔ 0 < a := by rw [iZ_0]; exact iZ_lt (by omega) ha
  have e5 : (iZ a ≤ 0) ↔ a ≤ 0 := by rw [iZ_0]; exact iZ_le ha (by omega)
  by_cases q : 0 ≤ a
  · refine w_s hk (c' := (tgt, ls, st, h, t)) ?_ (w1 q)
    unfold o_stk f_ifge
    dsimp only
    first | rw [if_pos (by first | exact e1.mpr q | exact (not_congr e1).mpr q | exact e2.mpr q | exact e3.mpr q | exact e4.mpr q | exact e5.mpr q)] | rw [if_neg (by first | exact (not_congr e1).mpr q | exact (not_congr e2).mpr (by omega) | exact (not_congr e5).mpr (by omega))]
  · refine w_s hk (c' := (pc + 3, ls, st, h, t)) ?_ (w2 (by omega))
    unfold o_stk f_ifge
    dsimp only
    first | rw [if_neg (by first | exact (not_congr e1).mpr q | exact fun z => q (fun y => z (e1.mpr y)) | exact (not_congr e2).mpr q | exact (not_congr e3).mpr q | exact (not_congr e4).mpr q | exact (not_congr e5).mpr q)] | rw [if_pos (by first | exact e1.mpr (by omega) | exact e2.mpr (by omega) | exact e5.mpr (by omega))]
theorem w_ifgt {tgt : Nat} {a : Int} (hk : k pc = some (.inl (o_stk (f_ifgt tgt)))) (ha : -2147483648 ≤ a ∧ a < 2147483648) {pc' : Nat} (hp : pc + 3 = pc') (w1 : 0 < a → Wp k d (tgt, ls, st, h, t) Q) (w2 : a ≤ 0 → Wp k d (pc', ls, st, h, t) Q) : Wp k d (pc, ls, aI (iZ a) :: st, h, t) Q := by
  subst hp
  have e1 : (iZ a = 0) ↔ a = 0 := by rw [iZ_0]; exact iZ_eq ha (by omega)
  have e2 : (iZ a < 0) ↔ a < 0 := by rw [iZ_0]; exact iZ_lt ha (by omega)
  have e3 : ((0 : Int32) ≤ iZ a) ↔ 0 ≤ a := by rw [iZ_0]; exact iZ_le (by omega) ha
  have e4 : ((0 : Int32) < iZ a) ↔ 0 < a := by rw [iZ_0]; exact iZ_lt (by omega) ha
  have e5 : (iZ a ≤ 0) ↔ a ≤ 0 := by rw [iZ_0]; exact iZ_le ha (by omega)
  by_cases q : 0 < a
  · refine w_s hk (c' := (tgt, ls, st, h, t)) ?_ (w1 q)
    unfold o_stk f_ifgt
    dsimp only
    first | rw [if_pos (by first | exact e1.mpr q | exact (not_congr e1).mpr q | exact e2.mpr q | exact e3.mpr q | exact e4.mpr q | exact e5.mpr q)] | rw [if_neg (by first | exact (not_congr e1).mpr q | exact (not_congr e2).mpr (by omega) | exact (not_congr e5).mpr (by omega))]
  · refine w_s hk (c' := (pc + 3, ls, st, h, t)) ?_ (w2 (by omega))
    unfold o_stk f_ifgt
    dsimp only
    first | rw [if_neg (by first | exact (not_congr e1).mpr q | exact fun z => q (fun y => z (e1.mpr y)) | exact (not_congr e2).mpr q | exact (not_congr e3).mpr q | exact (not_congr e4).mpr q | exact (not_congr e5).mpr q)] | rw [if_pos (by first | exact e1.mpr (by omega) | exact e2.mpr (by omega) | exact e5.mpr (by omega))]
theorem w_ifle {tgt : Nat} {a : Int} (hk : k pc = some (.inl (o_stk (f_ifle tgt)))) (ha : -2147483648 ≤ a ∧ a < 2147483648) {pc' : Nat} (hp : pc + 3 = pc') (w1 : a ≤ 0 → Wp k d (tgt, ls, st, h, t) Q) (w2 : 0 < a → Wp k d (pc', ls, st, h, t) Q) : Wp k d (pc, ls, aI (iZ a) :: st, h, t) Q := by
  subst hp
  have e1 : (iZ a = 0) ↔ a = 0 := by rw [iZ_0]; exact iZ_eq ha (by omega)
  have e2 : (iZ a < 0) ↔ a < 0 := by rw [iZ_0]; exact iZ_lt ha (by omega)
  have e3 : ((0 : Int32) ≤ iZ a) ↔ 0 ≤ a := by rw [iZ_0]; exact iZ_le (by omega) ha
  have e4 : ((0 : Int32) < iZ a) ↔ 0 < a := by rw [iZ_0]; exact iZ_lt (by omega) ha
  have e5 : (iZ a ≤ 0) ↔ a ≤ 0 := by rw [iZ_0]; exact iZ_le ha (by omega)
  by_cases q : a ≤ 0
  · refine w_s hk (c' := (tgt, ls, st, h, t)) ?_ (w1 q)
    unfold o_stk f_ifle
    dsimp only
    first | rw [if_pos (by first | exact e1.mpr q | exact (not_congr e1).mpr q | exact e2.mpr q | exact e3.mpr q | exact e4.mpr q | exact e5.mpr q)] | rw [if_neg (by first | exact (not_congr e1).mpr q | exact (not_congr e2).mpr (by omega) | exact (not_congr e5).mpr (by omega))]
  · refine w_s hk (c' := (pc + 3, ls, st, h, t)) ?_ (w2 (by omega))
    unfold o_stk f_ifle
    dsimp only
    first | rw [if_neg (by first | exact (not_congr e1).mpr q | exact fun z => q (fun y => z (e1.mpr y)) | exact (not_congr e2).mpr q | exact (not_congr e3).mpr q | exact (not_congr e4).mpr q | exact (not_congr e5).mpr q)] | rw [if_pos (by first | exact e1.mpr (by omega) | exact e2.mpr (by omega) | exact e5.mpr (by omega))]
theorem w_iceq {tgt : Nat} {a b : Int} (hk : k pc = some (.inl (o_stk (f_iceq tgt)))) (ha : -2147483648 ≤ a ∧ a < 2147483648) (hb : -2147483648 ≤ b ∧ b < 2147483648) {pc' : Nat} (hp : pc + 3 = pc') (w1 : a = b → Wp k d (tgt, ls, st, h, t) Q) (w2 : a ≠ b → Wp k d (pc', ls, st, h, t) Q) : Wp k d (pc, ls, aI (iZ b) :: aI (iZ a) :: st, h, t) Q := by
  subst hp
  have e1 := iZ_eq ha hb
  have e2 := iZ_lt ha hb
  have e3 := iZ_le hb ha
  have e4 := iZ_lt hb ha
  have e5 := iZ_le ha hb
  by_cases q : a = b
  · refine w_s hk (c' := (tgt, ls, st, h, t)) ?_ (w1 q)
    unfold o_stk f_iceq
    dsimp only
    first | rw [if_pos (by first | exact e1.mpr q | exact (not_congr e1).mpr q | exact e2.mpr q | exact e3.mpr q | exact e4.mpr q | exact e5.mpr q)] | rw [if_neg (by first | exact (not_congr e1).mpr q | exact (not_congr e2).mpr (by omega) | exact (not_congr e4).mpr (by omega))]
  · refine w_s hk (c' := (pc + 3, ls, st, h, t)) ?_ (w2 (by omega))
    unfold o_stk f_iceq
    dsimp only
    first | rw [if_neg (by first | exact (not_congr e1).mpr q | exact fun z => q (fun y => z (e1.mpr y)) | exact (not_congr e2).mpr q | exact (not_congr e3).mpr q | exact (not_congr e4).mpr q | exact (not_congr e5).mpr q)] | rw [if_pos (by first | exact e1.mpr (by omega) | exact e2.mpr (by omega) | exact e4.mpr (by omega))]
theorem w_icne {tgt : Nat} {a b : Int} (hk : k pc = some (.inl (o_stk (f_icne tgt)))) (ha : -2147483648 ≤ a ∧ a < 2147483648) (hb : -2147483648 ≤ b ∧ b < 2147483648) {pc' : Nat} (hp : pc + 3 = pc') (w1 : a ≠ b → Wp k d (tgt, ls, st, h, t) Q) (w2 : a = b → Wp k d (pc', ls, st, h, t) Q) : Wp k d (pc, ls, aI (iZ b) :: aI (iZ a) :: st, h, t) Q := by
  subst hp
  have e1 := iZ_eq ha hb
  have e2 := iZ_lt ha hb
  have e3 := iZ_le hb ha
  have e4 := iZ_lt hb ha
  have e5 := iZ_le ha hb
  by_cases q : a ≠ b
  · refine w_s hk (c' := (tgt, ls, st, h, t)) ?_ (w1 q)
    unfold o_stk f_icne
    dsimp only
    first | rw [if_pos (by first | exact e1.mpr q | exact (not_congr e1).mpr q | exact e2.mpr q | exact e3.mpr q | exact e4.mpr q | exact e5.mpr q)] | rw [if_neg (by first | exact (not_congr e1).mpr q | exact (not_congr e2).mpr (by omega) | exact (not_congr e4).mpr (by omega))]
  · refine w_s hk (c' := (pc + 3, ls, st, h, t)) ?_ (w2 (by omega))
    unfold o_stk f_icne
    dsimp only
    first | rw [if_neg (by first | exact (not_congr e1).mpr q | exact fun z => q (fun y => z (e1.mpr y)) | exact (not_congr e2).mpr q | exact (not_congr e3).mpr q | exact (not_congr e4).mpr q | exact (not_congr e5).mpr q)] | rw [if_pos (by first | exact e1.mpr (by omega) | exact e2.mpr (by omega) | exact e4.mpr (by omega))]
theorem w_iclt {tgt : Nat} {a b : Int} (hk : k pc = some (.inl (o_stk (f_iclt tgt)))) (ha : -2147483648 ≤ a ∧ a < 2147483648) (hb : -2147483648 ≤ b ∧ b < 2147483648) {pc' : Nat} (hp : pc + 3 = pc') (w1 : a < b → Wp k d (tgt, ls, st, h, t) Q) (w2 : b ≤ a → Wp k d (pc', ls, st, h, t) Q) : Wp k d (pc, ls, aI (iZ b) :: aI (iZ a) :: st, h, t) Q := by
  subst hp
  have e1 := iZ_eq ha hb
  have e2 := iZ_lt ha hb
  have e3 := iZ_le hb ha
  have e4 := iZ_lt hb ha
  have e5 := iZ_le ha hb
  by_cases q : a < b
  · refine w_s hk (c' := (tgt, ls, st, h, t)) ?_ (w1 q)
    unfold o_stk f_iclt
    dsimp only
    first | rw [if_pos (by first | exact e1.mpr q | exact (not_congr e1).mpr q | exact e2.mpr q | exact e3.mpr q | exact e4.mpr q | exact e5.mpr q)] | rw [if_neg (by first | exact (not_congr e1).mpr q | exact (not_congr e2).mpr (by omega) | exact (not_congr e4).mpr (by omega))]
  · refine w_s hk (c' := (pc + 3, ls, st, h, t)) ?_ (w2 (by omega))
    unfold o_stk f_iclt
    dsimp only
    first | rw [if_neg (by first | exact (not_congr e1).mpr q | exact fun z => q (fun y => z (e1.mpr y)) | exact (not_congr e2).mpr q | exact (not_congr e3).mpr q | exact (not_congr e4).mpr q | exact (not_congr e5).mpr q)] | rw [if_pos (by first | exact e1.mpr (by omega) | exact e2.mpr (by omega) | exact e4.mpr (by omega))]
theorem w_icge {tgt : Nat} {a b : Int} (hk : k pc = some (.inl (o_stk (f_icge tgt)))) (ha : -2147483648 ≤ a ∧ a < 2147483648) (hb : -2147483648 ≤ b ∧ b < 2147483648) {pc' : Nat} (hp : pc + 3 = pc') (w1 : b ≤ a → Wp k d (tgt, ls, st, h, t) Q) (w2 : a < b → Wp k d (pc', ls, st, h, t) Q) : Wp k d (pc, ls, aI (iZ b) :: aI (iZ a) :: st, h, t) Q := by
  subst hp
  have e1 := iZ_eq ha hb
  have e2 := iZ_lt ha hb
  have e3 := iZ_le hb ha
  have e4 := iZ_lt hb ha
  have e5 := iZ_le ha hb
  by_cases q : b ≤ a
  · refine w_s hk (c' := (tgt, ls, st, h, t)) ?_ (w1 q)
    unfold o_stk f_icge
    dsimp only
    first | rw [if_pos (by first | exact e1.mpr q | exact (not_congr e1).mpr q | exact e2.mpr q | exact e3.mpr q | exact e4.mpr q | exact e5.mpr q)] | rw [if_neg (by first | exact (not_congr e1).mpr q | exact (not_congr e2).mpr (by omega) | exact (not_congr e4).mpr (by omega))]
  · refine w_s hk (c' := (pc + 3, ls, st, h, t)) ?_ (w2 (by omega))
    unfold o_stk f_icge
    dsimp only
    first | rw [if_neg (by first | exact (not_congr e1).mpr q | exact fun z => q (fun y => z (e1.mpr y)) | exact (not_congr e2).mpr q | exact (not_congr e3).mpr q | exact (not_congr e4).mpr q | exact (not_congr e5).mpr q)] | rw [if_pos (by first | exact e1.mpr (by omega) | exact e2.mpr (by omega) | exact e4.mpr (by omega))]
theorem w_icgt {tgt : Nat} {a b : Int} (hk : k pc = some (.inl (o_stk (f_icgt tgt)))) (ha : -2147483648 ≤ a ∧ a < 2147483648) (hb : -2147483648 ≤ b ∧ b < 2147483648) {pc' : Nat} (hp : pc + 3 = pc') (w1 : b < a → Wp k d (tgt, ls, st, h, t) Q) (w2 : a ≤ b → Wp k d (pc', ls, st, h, t) Q) : Wp k d (pc, ls, aI (iZ b) :: aI (iZ a) :: st, h, t) Q := by
  subst hp
  have e1 := iZ_eq ha hb
  have e2 := iZ_lt ha hb
  have e3 := iZ_le hb ha
  have e4 := iZ_lt hb ha
  have e5 := iZ_le ha hb
  by_cases q : b < a
  · refine w_s hk (c' := (tgt, ls, st, h, t)) ?_ (w1 q)
    unfold o_stk f_icgt
    dsimp only
    first | rw [if_pos (by first | exact e1.mpr q | exact (not_congr e1).mpr q | exact e2.mpr q | exact e3.mpr q | exact e4.mpr q | exact e5.mpr q)] | rw [if_neg (by first | exact (not_congr e1).mpr q | exact (not_congr e2).mpr (by omega) | exact (not_congr e4).mpr (by omega))]
  · refine w_s hk (c' := (pc + 3, ls, st, h, t)) ?_ (w2 (by omega))
    unfold o_stk f_icgt
    dsimp only
    first | rw [if_neg (by first | exact (not_congr e1).mpr q | exact fun z => q (fun y => z (e1.mpr y)) | exact (not_congr e2).mpr q | exact (not_congr e3).mpr q | exact (not_congr e4).mpr q | exact (not_congr e5).mpr q)] | rw [if_pos (by first | exact e1.mpr (by omega) | exact e2.mpr (by omega) | exact e4.mpr (by omega))]
theorem w_icle {tgt : Nat} {a b : Int} (hk : k pc = some (.inl (o_stk (f_icle tgt)))) (ha : -2147483648 ≤ a ∧ a < 2147483648) (hb : -2147483648 ≤ b ∧ b < 2147483648) {pc' : Nat} (hp : pc + 3 = pc') (w1 : a ≤ b → Wp k d (tgt, ls, st, h, t) Q) (w2 : b < a → Wp k d (pc', ls, st, h, t) Q) : Wp k d (pc, ls, aI (iZ b) :: aI (iZ a) :: st, h, t) Q := by
  subst hp
  have e1 := iZ_eq ha hb
  have e2 := iZ_lt ha hb
  have e3 := iZ_le hb ha
  have e4 := iZ_lt hb ha
  have e5 := iZ_le ha hb
  by_cases q : a ≤ b
  · refine w_s hk (c' := (tgt, ls, st, h, t)) ?_ (w1 q)
    unfold o_stk f_icle
    dsimp only
    first | rw [if_pos (by first | exact e1.mpr q | exact (not_congr e1).mpr q | exact e2.mpr q | exact e3.mpr q | exact e4.mpr q | exact e5.mpr q)] | rw [if_neg (by first | exact (not_congr e1).mpr q | exact (not_congr e2).mpr (by omega) | exact (not_congr e4).mpr (by omega))]
  · refine w_s hk (c' := (pc + 3, ls, st, h, t)) ?_ (w2 (by omega))
    unfold o_stk f_icle
    dsimp only
    first | rw [if_neg (by first | exact (not_congr e1).mpr q | exact fun z => q (fun y => z (e1.mpr y)) | exact (not_congr e2).mpr q | exact (not_congr e3).mpr q | exact (not_congr e4).mpr q | exact (not_congr e5).mpr q)] | rw [if_pos (by first | exact e1.mpr (by omega) | exact e2.mpr (by omega) | exact e4.mpr (by omega))]
theorem w_ial {n : Nat} {f : Nat → Int} {i : Int} {L : Lc} (hk : k pc = some (.inl o_ial)) (hL : h L = a_I n f) (hi : 0 ≤ i ∧ i < n) (hn : Nat.ble n 4000 = true) {pc' : Nat} (hp : pc + 1 = pc') (w : Wp k d (pc', ls, aI (iZ (f i.toNat)) :: st, h, t) Q) : Wp k d (pc, ls, aI (iZ i) :: aR (some L) :: st, h, t) Q := by
  subst hp
  have hn2 : n ≤ 4000 := Nat.ble_eq.mp hn
  refine w_s hk (c' := (pc + 1, ls, aI (iZ (f i.toNat)) :: st, h, t)) ?_ w
  unfold o_ial
  try dsimp only [a_I, a_B, a_J, a_R]
  rw [hL]
  show (if iZ i < 0 ∨ n ≤ (iZ i).toNatClampNeg then none else some (pc + 1, ls, aI (iZ (f (iZ i).toNatClampNeg)) :: st, h, t)) = _
  rw [if_neg (by rw [iZ_nat (by omega)]; rintro (q | q); exact iZ_n0 (by omega) q; omega), iZ_nat (by omega)]
theorem w_bal {n : Nat} {f : Nat → Int} {i : Int} {L : Lc} (hk : k pc = some (.inl o_bal)) (hL : h L = a_B n f) (hi : 0 ≤ i ∧ i < n) (hn : Nat.ble n 4000 = true) {pc' : Nat} (hp : pc + 1 = pc') (w : Wp k d (pc', ls, aI (iZ (f i.toNat)) :: st, h, t) Q) : Wp k d (pc, ls, aI (iZ i) :: aR (some L) :: st, h, t) Q := by
  subst hp
  have hn2 : n ≤ 4000 := Nat.ble_eq.mp hn
  refine w_s hk (c' := (pc + 1, ls, aI (iZ (f i.toNat)) :: st, h, t)) ?_ w
  unfold o_bal
  try dsimp only [a_I, a_B, a_J, a_R]
  rw [hL]
  show (if iZ i < 0 ∨ n ≤ (iZ i).toNatClampNeg then none else some (pc + 1, ls, aI (iZ (f (iZ i).toNatClampNeg)) :: st, h, t)) = _
  rw [if_neg (by rw [iZ_nat (by omega)]; rintro (q | q); exact iZ_n0 (by omega) q; omega), iZ_nat (by omega)]
theorem w_lal {n : Nat} {f : Nat → Int} {i : Int} {L : Lc} (hk : k pc = some (.inl o_lal)) (hL : h L = a_J n f) (hi : 0 ≤ i ∧ i < n) (hn : Nat.ble n 4000 = true) {pc' : Nat} (hp : pc + 1 = pc') (w : Wp k d (pc', ls, aL (jZ (f i.toNat)) :: st, h, t) Q) : Wp k d (pc, ls, aI (iZ i) :: aR (some L) :: st, h, t) Q := by
  subst hp
  have hn2 : n ≤ 4000 := Nat.ble_eq.mp hn
  refine w_s hk (c' := (pc + 1, ls, aL (jZ (f i.toNat)) :: st, h, t)) ?_ w
  unfold o_lal
  try dsimp only [a_I, a_B, a_J, a_R]
  rw [hL]
  show (if iZ i < 0 ∨ n ≤ (iZ i).toNatClampNeg then none else some (pc + 1, ls, aL (jZ (f (iZ i).toNatClampNeg)) :: st, h, t)) = _
  rw [if_neg (by rw [iZ_nat (by omega)]; rintro (q | q); exact iZ_n0 (by omega) q; omega), iZ_nat (by omega)]
theorem w_aal {n ty : Nat} {f : Nat → Lc} {i : Int} {L : Lc} (hk : k pc = some (.inl (o_aal ty))) (hL : h L = a_R ty n f) (hi : 0 ≤ i ∧ i < n) (hn : Nat.ble n 4000 = true) {pc' : Nat} (hp : pc + 1 = pc') (w : Wp k d (pc', ls, aR (some (f i.toNat)) :: st, h, t) Q) : Wp k d (pc, ls, aI (iZ i) :: aR (some L) :: st, h, t) Q := by
  subst hp
  have hn2 : n ≤ 4000 := Nat.ble_eq.mp hn
  refine w_s hk (c' := (pc + 1, ls, aR (some (f i.toNat)) :: st, h, t)) ?_ w
  unfold o_aal
  try dsimp only [a_I, a_B, a_J, a_R]
  rw [hL]
  try dsimp only [a_I, a_B, a_J, a_R]
  rw [if_pos rfl, if_neg (by rw [iZ_nat (by omega)]; rintro (q | q); exact iZ_n0 (by omega) q; omega), iZ_nat (by omega), if_pos (by omega)]
theorem w_put {ci j : Nat} {ty : FieldType} {v : AV} {L : Lc} {x : AC} {h' : AH} (hk : k pc = some (.inl (o_put ci j ty))) (hg : o_put ci j ty (pc, ls, v :: aR (some L) :: st, h, t) = some (pc + 3, ls, st, am_uh h L x, t)) (hh : am_uh h L x = h') {pc' : Nat} (hp : pc + 3 = pc') (w : Wp k d (pc', ls, st, h', t) Q) : Wp k d (pc, ls, v :: aR (some L) :: st, h, t) Q := by
  subst hp
  subst hh
  exact w_s hk hg w
theorem upd_iZ (f : Nat → Int) (i : Nat) (z : Int) : upd (fun j => iZ (f j)) i (iZ z) = fun j => iZ (up f i z j) := by
  funext j
  unfold upd
  rw [up_at]
  split <;> rfl
theorem upd_jZ (f : Nat → Int) (i : Nat) (z : Int) : vp_updL (fun j => jZ (f j)) i (jZ z) = fun j => jZ (up f i z j) := by
  funext j
  unfold vp_updL
  rw [up_at]
  split <;> rfl
theorem cpy_iZ (f g : Nat → Int) (a b n : Nat) : va_cpy (fun j => iZ (f j)) (fun j => iZ (g j)) a b n = fun j => iZ (cpy f g a b n j) := by
  funext j
  unfold va_cpy cpy
  split <;> rfl
theorem cpy_jZ (f g : Nat → Int) (a b n : Nat) : va_cpy (fun j => jZ (f j)) (fun j => jZ (g j)) a b n = fun j => jZ (cpy f g a b n j) := by
  funext j
  unfold va_cpy cpy
  split <;> rfl
/-- a byte -/
def zb (z : Int) : Int := (iZ z).toInt8.toInt32.toInt
theorem w_ias {n : Nat} {i z : Int} {L : Lc} {σ : SG} (hk : k pc = some (.inl o_ias)) (hL : ∀ g : Nat → Int, am_mk L g (σ.2.1 L) (σ.2.2.1 L) (σ.2.2.2.1 L) σ.2.2.2.2 = a_I n g) (hi : 0 ≤ i ∧ i < n) (hn : Nat.ble n 4000 = true) (h9 : Nat.ble 90 L.1 = false) {pc' : Nat} (hp : pc + 1 = pc') (w : Wp k d (pc', ls, st, am_hp (sI σ L (up (σ.1 L) i.toNat z)), t) Q) : Wp k d (pc, ls, aI (iZ z) :: aI (iZ i) :: aR (some L) :: st, am_hp σ, t) Q := by
  subst hp
  have hn2 : n ≤ 4000 := Nat.ble_eq.mp hn
  refine w_s hk ?_ w
  unfold o_ias
  try dsimp only [a_I, a_B, a_J, a_R]
  rw [show am_hp σ L = a_I n (σ.1 L) from hL (σ.1 L)]
  show (if iZ i < 0 ∨ n ≤ (iZ i).toNatClampNeg ∨ 90 ≤ L.1 then none else some (pc + 1, ls, st, am_uh (am_hp σ) L (.inl (0, n, .inl (upd (fun j => iZ (σ.1 L j)) (iZ i).toNatClampNeg (iZ z)))), t)) = _
  rw [if_neg (by rw [iZ_nat (by omega)]; rintro (q | q | q); exact iZ_n0 (by omega) q; omega; exact absurd (Nat.ble_eq.mpr q) (by rw [h9]; decide)), iZ_nat (by omega)]
  rw [upd_iZ, hp_I (hL _).symm]
theorem w_bas {n : Nat} {i z : Int} {L : Lc} {σ : SG} (hk : k pc = some (.inl o_bas)) (hL : ∀ g : Nat → Int, am_mk L g (σ.2.1 L) (σ.2.2.1 L) (σ.2.2.2.1 L) σ.2.2.2.2 = a_B n g) (hi : 0 ≤ i ∧ i < n) (hn : Nat.ble n 4000 = true) (h9 : Nat.ble 90 L.1 = false) {pc' : Nat} (hp : pc + 1 = pc') (w : Wp k d (pc', ls, st, am_hp (sI σ L (up (σ.1 L) i.toNat (zb z))), t) Q) : Wp k d (pc, ls, aI (iZ z) :: aI (iZ i) :: aR (some L) :: st, am_hp σ, t) Q := by
  subst hp
  have hn2 : n ≤ 4000 := Nat.ble_eq.mp hn
  refine w_s hk ?_ w
  unfold o_bas
  try dsimp only [a_I, a_B, a_J, a_R]
  rw [show am_hp σ L = a_B n (σ.1 L) from hL (σ.1 L)]
  show (if iZ i < 0 ∨ n ≤ (iZ i).toNatClampNeg ∨ 90 ≤ L.1 then none else some (pc + 1, ls, st, am_uh (am_hp σ) L (.inl (2, n, .inl (upd (fun j => iZ (σ.1 L j)) (iZ i).toNatClampNeg (iZ z).toInt8.toInt32))), t)) = _
  rw [if_neg (by rw [iZ_nat (by omega)]; rintro (q | q | q); exact iZ_n0 (by omega) q; omega; exact absurd (Nat.ble_eq.mpr q) (by rw [h9]; decide)), iZ_nat (by omega)]
  rw [show (iZ z).toInt8.toInt32 = iZ (zb z) by rw [zb, iZ_toInt]]
  rw [upd_iZ, hp_I (hL _).symm]
theorem w_las {n : Nat} {i z : Int} {L : Lc} {σ : SG} (hk : k pc = some (.inl o_las)) (hL : ∀ g : Nat → Int, am_mk L (σ.1 L) g (σ.2.2.1 L) (σ.2.2.2.1 L) σ.2.2.2.2 = a_J n g) (hi : 0 ≤ i ∧ i < n) (hn : Nat.ble n 4000 = true) (h9 : Nat.ble 90 L.1 = false) {pc' : Nat} (hp : pc + 1 = pc') (w : Wp k d (pc', ls, st, am_hp (sJ σ L (up (σ.2.1 L) i.toNat z)), t) Q) : Wp k d (pc, ls, aL (jZ z) :: aI (iZ i) :: aR (some L) :: st, am_hp σ, t) Q := by
  subst hp
  have hn2 : n ≤ 4000 := Nat.ble_eq.mp hn
  refine w_s hk ?_ w
  unfold o_las
  try dsimp only [a_I, a_B, a_J, a_R]
  rw [show am_hp σ L = a_J n (σ.2.1 L) from hL (σ.2.1 L)]
  show (if iZ i < 0 ∨ n ≤ (iZ i).toNatClampNeg ∨ 90 ≤ L.1 then none else some (pc + 1, ls, st, am_uh (am_hp σ) L (.inl (1, n, .inr (.inl (vp_updL (fun j => jZ (σ.2.1 L j)) (iZ i).toNatClampNeg (jZ z))))), t)) = _
  rw [if_neg (by rw [iZ_nat (by omega)]; rintro (q | q | q); exact iZ_n0 (by omega) q; omega; exact absurd (Nat.ble_eq.mpr q) (by rw [h9]; decide)), iZ_nat (by omega)]
  rw [upd_jZ, hp_J (hL _).symm]
theorem w_cpi {n0 n1 : Nat} {a b n : Int} {L M : Lc} {σ : SG} (hk : k pc = some (.inl o_cpi)) (hL : am_hp σ L = a_I n0 (σ.1 L)) (hM : ∀ g : Nat → Int, am_mk M g (σ.2.1 M) (σ.2.2.1 M) (σ.2.2.2.1 M) σ.2.2.2.2 = a_I n1 g) (hi : 0 ≤ a ∧ 0 ≤ b ∧ 0 ≤ n ∧ a + n ≤ n0 ∧ b + n ≤ n1) (hn : Nat.ble n0 4000 = true ∧ Nat.ble n1 4000 = true) (h9 : Nat.ble 90 L.1 = false ∧ Nat.ble 90 M.1 = false) (hs : Nat.blt 8 (am_w st) = false) {pc' : Nat} (hp : pc + 3 = pc') (w : Wp k d (pc', ls, st, am_hp (sI σ M (cpy (σ.1 L) (σ.1 M) a.toNat b.toNat n.toNat)), t) Q) : Wp k d (pc, ls, aI (iZ n) :: aI (iZ b) :: aR (some M) :: aI (iZ a) :: aR (some L) :: st, am_hp σ, t) Q := by
  subst hp
  have hn2 : n0 ≤ 4000 := Nat.ble_eq.mp hn.1
  have hn3 : n1 ≤ 4000 := Nat.ble_eq.mp hn.2
  have hs2 : ¬ 8 < am_w st := fun q => by
    have : Nat.blt 8 (am_w st) = true := Nat.ble_eq.mpr q
    rw [this] at hs
    cases hs
  refine w_s hk ?_ w
  unfold o_cpi
  try dsimp only [a_I, a_B, a_J, a_R]
  rw [show am_hp σ M = a_I n1 (σ.1 M) from hM (σ.1 M), hL]
  show (if iZ a < 0 ∨ iZ b < 0 ∨ iZ n < 0 ∨ n0 < (iZ a).toNatClampNeg + (iZ n).toNatClampNeg ∨ n1 < (iZ b).toNatClampNeg + (iZ n).toNatClampNeg ∨ 90 ≤ L.1 ∨ 90 ≤ M.1 ∨ 8 < am_w st then none else some (pc + 3, ls, st, am_uh (am_hp σ) M (.inl (0, n1, .inl (va_cpy (fun j => iZ (σ.1 L j)) (fun j => iZ (σ.1 M j)) (iZ a).toNatClampNeg (iZ b).toNatClampNeg (iZ n).toNatClampNeg))), t)) = _
  rw [if_neg (by
    rw [iZ_nat (by omega), iZ_nat (by omega), iZ_nat (by omega)]
    rintro (q | q | q | q | q | q | q | q)
    · exact iZ_n0 (by omega) q
    · exact iZ_n0 (by omega) q
    · exact iZ_n0 (by omega) q
    · omega
    · omega
    · exact absurd (Nat.ble_eq.mpr q) (by rw [h9.1]; decide)
    · exact absurd (Nat.ble_eq.mpr q) (by rw [h9.2]; decide)
    · exact hs2 q), iZ_nat (by omega), iZ_nat (by omega), iZ_nat (by omega), cpy_iZ, hp_I (hM _).symm]
theorem w_cpl {n0 n1 : Nat} {a b n : Int} {L M : Lc} {σ : SG} (hk : k pc = some (.inl o_cpl)) (hL : am_hp σ L = a_J n0 (σ.2.1 L)) (hM : ∀ g : Nat → Int, am_mk M (σ.1 M) g (σ.2.2.1 M) (σ.2.2.2.1 M) σ.2.2.2.2 = a_J n1 g) (hi : 0 ≤ a ∧ 0 ≤ b ∧ 0 ≤ n ∧ a + n ≤ n0 ∧ b + n ≤ n1) (hn : Nat.ble n0 4000 = true ∧ Nat.ble n1 4000 = true) (h9 : Nat.ble 90 L.1 = false ∧ Nat.ble 90 M.1 = false) (hs : Nat.blt 8 (am_w st) = false) {pc' : Nat} (hp : pc + 3 = pc') (w : Wp k d (pc', ls, st, am_hp (sJ σ M (cpy (σ.2.1 L) (σ.2.1 M) a.toNat b.toNat n.toNat)), t) Q) : Wp k d (pc, ls, aI (iZ n) :: aI (iZ b) :: aR (some M) :: aI (iZ a) :: aR (some L) :: st, am_hp σ, t) Q := by
  subst hp
  have hn2 : n0 ≤ 4000 := Nat.ble_eq.mp hn.1
  have hn3 : n1 ≤ 4000 := Nat.ble_eq.mp hn.2
  have hs2 : ¬ 8 < am_w st := fun q => by
    have : Nat.blt 8 (am_w st) = true := Nat.ble_eq.mpr q
    rw [this] at hs
    cases hs
  refine w_s hk ?_ w
  unfold o_cpl
  try dsimp only [a_I, a_B, a_J, a_R]
  rw [show am_hp σ M = a_J n1 (σ.2.1 M) from hM (σ.2.1 M), hL]
  show (if iZ a < 0 ∨ iZ b < 0 ∨ iZ n < 0 ∨ n0 < (iZ a).toNatClampNeg + (iZ n).toNatClampNeg ∨ n1 < (iZ b).toNatClampNeg + (iZ n).toNatClampNeg ∨ 90 ≤ L.1 ∨ 90 ≤ M.1 ∨ 8 < am_w st then none else some (pc + 3, ls, st, am_uh (am_hp σ) M (.inl (1, n1, .inr (.inl (va_cpy (fun j => jZ (σ.2.1 L j)) (fun j => jZ (σ.2.1 M j)) (iZ a).toNatClampNeg (iZ b).toNatClampNeg (iZ n).toNatClampNeg)))), t)) = _
  rw [if_neg (by
    rw [iZ_nat (by omega), iZ_nat (by omega), iZ_nat (by omega)]
    rintro (q | q | q | q | q | q | q | q)
    · exact iZ_n0 (by omega) q
    · exact iZ_n0 (by omega) q
    · exact iZ_n0 (by omega) q
    · omega
    · omega
    · exact absurd (Nat.ble_eq.mpr q) (by rw [h9.1]; decide)
    · exact absurd (Nat.ble_eq.mpr q) (by rw [h9.2]; decide)
    · exact hs2 q), iZ_nat (by omega), iZ_nat (by omega), iZ_nat (by omega), cpy_jZ, hp_J (hM _).symm]
theorem w_max {a b : Int} (hk : k pc = some (.inl o_max)) (ha : -2147483648 ≤ a ∧ a < 2147483648) (hb : -2147483648 ≤ b ∧ b < 2147483648) (hs : Nat.blt 8 (am_w st) = false) {pc' : Nat} (hp : pc + 3 = pc') (w : Wp k d (pc', ls, aI (iZ (max a b)) :: st, h, t) Q) : Wp k d (pc, ls, aI (iZ b) :: aI (iZ a) :: st, h, t) Q := by
  subst hp
  have hs2 : ¬ 8 < am_w st := fun q => by
    have : Nat.blt 8 (am_w st) = true := Nat.ble_eq.mpr q
    rw [this] at hs
    cases hs
  refine w_s hk (c' := (pc + 3, ls, aI (iZ (max a b)) :: st, h, t)) ?_ w
  unfold o_max
  try dsimp only [a_I, a_B, a_J, a_R]
  rw [if_neg hs2]
  by_cases q : a < b
  · rw [if_pos ((iZ_lt (by omega) (by omega)).mpr q), show max a b = b by omega]
  · rw [if_neg (fun z => q ((iZ_lt (by omega) (by omega)).mp z)), show max a b = a by omega]
theorem w_min {a b : Int} (hk : k pc = some (.inl o_min)) (ha : -2147483648 ≤ a ∧ a < 2147483648) (hb : -2147483648 ≤ b ∧ b < 2147483648) (hs : Nat.blt 8 (am_w st) = false) {pc' : Nat} (hp : pc + 3 = pc') (w : Wp k d (pc', ls, aI (iZ (min a b)) :: st, h, t) Q) : Wp k d (pc, ls, aI (iZ b) :: aI (iZ a) :: st, h, t) Q := by
  subst hp
  have hs2 : ¬ 8 < am_w st := fun q => by
    have : Nat.blt 8 (am_w st) = true := Nat.ble_eq.mpr q
    rw [this] at hs
    cases hs
  refine w_s hk (c' := (pc + 3, ls, aI (iZ (min a b)) :: st, h, t)) ?_ w
  unfold o_min
  try dsimp only [a_I, a_B, a_J, a_R]
  rw [if_neg hs2]
  by_cases q : b < a
  · rw [if_pos ((iZ_lt (by omega) (by omega)).mpr q), show min a b = b by omega]
  · rw [if_neg (fun z => q ((iZ_lt (by omega) (by omega)).mp z)), show min a b = a by omega]
theorem w_ret {ty : FieldType} {v : AV} (hk : k pc = some (.inr (.inl (o_ret ty)))) (hv : am_frt ty v = true) (q : Q (.inl (some v), h, t)) : Wp k d (pc, ls, [v], h, t) Q := by
  refine w_f hk ?_ q
  unfold o_ret
  try dsimp only [a_I, a_B, a_J, a_R]
  rw [if_pos hv]
theorem frt_b {z : Int} (h : z = 0 ∨ z = 1) : am_frt .boolean (aI (iZ z)) = true := by
  rcases h with rfl | rfl <;> decide
theorem fk_b {z : Int} (h : z = 0 ∨ z = 1) : am_fk .boolean (aI (iZ z)) = true := by
  rcases h with rfl | rfl <;> decide
theorem w_putb {ci j : Nat} {z : Int} {L : Lc} {σ : SG} {fs : List AV} (hk : k pc = some (.inl (o_put ci j .boolean))) (hz : z = 0 ∨ z = 1) (hL : am_hp σ L = .inr (ci, fs)) (hj : Nat.blt j fs.length = true) (hx : .inr (ci, fs.set j (aI (iZ z))) = am_mk L (up (σ.1 L) j z) (σ.2.1 L) (σ.2.2.1 L) (σ.2.2.2.1 L) σ.2.2.2.2) {pc' : Nat} (hp : pc + 3 = pc') (w : Wp k d (pc', ls, st, am_hp (sI σ L (up (σ.1 L) j z)), t) Q) : Wp k d (pc, ls, aI (iZ z) :: aR (some L) :: st, am_hp σ, t) Q := by
  subst hp
  refine w_s hk ?_ w
  unfold o_put
  try dsimp only [a_I, a_B, a_J, a_R]
  rw [hL]
  try dsimp only [a_I, a_B, a_J, a_R]
  rw [if_pos ⟨rfl, fk_b hz, Nat.ble_eq.mp hj⟩, hp_I hx]
theorem am_tgt_at {lo x : Int} {tg : List Nat} {df : Nat} (hx : -2147483648 ≤ x ∧ x < 2147483648) : am_tgt lo tg df (iZ x) = if x < lo then df else tg.getD (x - lo).toNat df := by
  unfold am_tgt
  rw [iZ_get hx]
theorem w_tab {lo : Int} {tg : List Nat} {df : Nat} {x : Int} (hk : k pc = some (.inl (o_stk (f_tab lo tg df)))) (hx : -2147483648 ≤ x ∧ x < 2147483648) (w : Wp k d ((if x < lo then df else tg.getD (x - lo).toNat df), ls, st, h, t) Q) : Wp k d (pc, ls, aI (iZ x) :: st, h, t) Q := by
  refine w_s hk ?_ w
  rw [← am_tgt_at hx]
  rfl
theorem w_lkp {l : List (Int × Int)} {tg : Int32 → Nat} {x : Int} (hk : k pc = some (.inl (o_stk (f_lkp l tg)))) (w : Wp k d (tg (iZ x), ls, st, h, t) Q) : Wp k d (pc, ls, aI (iZ x) :: st, h, t) Q := by
  exact w_s hk rfl w
end RUO
