/-! MORE RULES: readings of cells by kind, constants, calls' receivers -/
theorem zc_m8 : ((-8) : Int32) = iZ (-8) := by decide
theorem zc_m1 : ((-1) : Int32) = iZ (-1) := by decide
theorem zc_0 : (0 : Int32) = iZ 0 := by decide
theorem zc_1 : (1 : Int32) = iZ 1 := by decide
theorem zc_2 : (2 : Int32) = iZ 2 := by decide
theorem zc_3 : (3 : Int32) = iZ 3 := by decide
theorem zc_4 : (4 : Int32) = iZ 4 := by decide
theorem zc_5 : (5 : Int32) = iZ 5 := by decide
theorem zc_6 : (6 : Int32) = iZ 6 := by decide
theorem zc_7 : (7 : Int32) = iZ 7 := by decide
theorem zc_8 : (8 : Int32) = iZ 8 := by decide
theorem zc_9 : (9 : Int32) = iZ 9 := by decide
theorem zc_10 : (10 : Int32) = iZ 10 := by decide
theorem zc_12 : (12 : Int32) = iZ 12 := by decide
theorem zc_14 : (14 : Int32) = iZ 14 := by decide
theorem zc_20 : (20 : Int32) = iZ 20 := by decide
theorem zc_24 : (24 : Int32) = iZ 24 := by decide
theorem zc_28 : (28 : Int32) = iZ 28 := by decide
theorem zc_30 : (30 : Int32) = iZ 30 := by decide
theorem zc_31 : (31 : Int32) = iZ 31 := by decide
theorem zc_32 : (32 : Int32) = iZ 32 := by decide
theorem zc_40 : (40 : Int32) = iZ 40 := by decide
theorem zc_41 : (41 : Int32) = iZ 41 := by decide
theorem zc_44 : (44 : Int32) = iZ 44 := by decide
theorem zc_48 : (48 : Int32) = iZ 48 := by decide
theorem zc_57 : (57 : Int32) = iZ 57 := by decide
theorem zc_58 : (58 : Int32) = iZ 58 := by decide
theorem zc_59 : (59 : Int32) = iZ 59 := by decide
theorem zc_60 : (60 : Int32) = iZ 60 := by decide
theorem zc_63 : (63 : Int32) = iZ 63 := by decide
theorem zc_96 : (96 : Int32) = iZ 96 := by decide
theorem zc_97 : (97 : Int32) = iZ 97 := by decide
theorem zc_99 : (99 : Int32) = iZ 99 := by decide
theorem zc_101 : (101 : Int32) = iZ 101 := by decide
theorem zc_102 : (102 : Int32) = iZ 102 := by decide
theorem zc_103 : (103 : Int32) = iZ 103 := by decide
theorem zc_120 : (120 : Int32) = iZ 120 := by decide
theorem zc_121 : (121 : Int32) = iZ 121 := by decide
theorem zc_122 : (122 : Int32) = iZ 122 := by decide
theorem zc_255 : (255 : Int32) = iZ 255 := by decide
theorem zc_264 : (264 : Int32) = iZ 264 := by decide
theorem zc_600 : (600 : Int32) = iZ 600 := by decide
theorem zc_730 : (730 : Int32) = iZ 730 := by decide
theorem zc_1024 : (1024 : Int32) = iZ 1024 := by decide
theorem zc_1200 : (1200 : Int32) = iZ 1200 := by decide
theorem zc_1584 : (1584 : Int32) = iZ 1584 := by decide
theorem zc_100000000 : (100000000 : Int32) = iZ 100000000 := by decide
theorem zc_268435455 : (268435455 : Int32) = iZ 268435455 := by decide
theorem zc_999999999 : (999999999 : Int32) = iZ 999999999 := by decide
theorem zc_1073741824 : (1073741824 : Int32) = iZ 1073741824 := by decide
theorem yc_m1 : ((-1) : Int64) = jZ (-1) := by decide
theorem yc_0 : (0 : Int64) = jZ 0 := by decide
theorem yc_1 : (1 : Int64) = jZ 1 := by decide
theorem yc_2 : (2 : Int64) = jZ 2 := by decide
theorem yc_3 : (3 : Int64) = jZ 3 := by decide
theorem yc_5 : (5 : Int64) = jZ 5 := by decide
theorem yc_6 : (6 : Int64) = jZ 6 := by decide
theorem yc_8 : (8 : Int64) = jZ 8 := by decide
theorem yc_9 : (9 : Int64) = jZ 9 := by decide
theorem yc_31 : (31 : Int64) = jZ 31 := by decide
theorem yc_99 : (99 : Int64) = jZ 99 := by decide
theorem yc_1156 : (1156 : Int64) = jZ 1156 := by decide
theorem yc_14519 : (14519 : Int64) = jZ 14519 := by decide
theorem yc_17076 : (17076 : Int64) = jZ 17076 := by decide
theorem yc_18935 : (18935 : Int64) = jZ 18935 := by decide
theorem yc_206220 : (206220 : Int64) = jZ 206220 := by decide
theorem yc_343342 : (343342 : Int64) = jZ 343342 := by decide
theorem yc_525419 : (525419 : Int64) = jZ 525419 := by decide
theorem yc_611717 : (611717 : Int64) = jZ 611717 := by decide
theorem yc_634160 : (634160 : Int64) = jZ 634160 := by decide
theorem yc_1048575 : (1048575 : Int64) = jZ 1048575 := by decide
theorem yc_17376357 : (17376357 : Int64) = jZ 17376357 := by decide
theorem yc_268435455 : (268435455 : Int64) = jZ 268435455 := by decide
theorem yc_317298260 : (317298260 : Int64) = jZ 317298260 := by decide
theorem yc_609664709 : (609664709 : Int64) = jZ 609664709 := by decide
theorem yc_609752116 : (609752116 : Int64) = jZ 609752116 := by decide
def cntZ (i : Nat) : Int := (am_tb am_cnt i).toInt
def widZ (i : Nat) : Int := (am_tb am_wid i).toInt
def swmZ (i : Nat) : Int := (am_tb am_swm i).toInt
def bytZ (k i : Nat) : Int := (am_tb (am_byt k) i).toInt
def scrZ (σ : SG) (i : Nat) : Int := (σ.2.2.2.2.2.1 i).toInt
theorem kc_eq (n : Nat) (f : Nat → Int32) : (.inl (0, n, .inl f) : AC) = a_I n (fun j => (f j).toInt) := by
  have : (fun j => iZ (f j).toInt) = f := by funext j; rw [iZ_toInt]
  unfold a_I
  rw [this]
theorem kc_eqB (n : Nat) (f : Nat → Int32) : (.inl (2, n, .inl f) : AC) = a_B n (fun j => (f j).toInt) := by
  have : (fun j => iZ (f j).toInt) = f := by funext j; rw [iZ_toInt]
  unfold a_B
  rw [this]
theorem hp_90_0 (σ : SG) : am_hp σ (90, 0, 0) = a_I 9 cntZ := kc_eq 9 (am_tb am_cnt)
theorem hp_90_1 (σ : SG) : am_hp σ (90, 1, 0) = a_I 9 widZ := kc_eq 9 (am_tb am_wid)
theorem hp_90_2 (σ : SG) : am_hp σ (90, 2, 0) = a_I 10 swmZ := kc_eq 10 (am_tb am_swm)
theorem hp_92 (σ : SG) : am_hp σ (92, 0, 0) = a_I σ.2.2.2.2.1 (scrZ σ) := kc_eq _ _
theorem hp_95 (σ : SG) (k : Nat) : am_hp σ (95, k, 0) = a_B (am_byt k).length (bytZ k) := kc_eqB _ _
theorem hp_1 (σ : SG) (a : Nat) : am_hp σ (1, a, 0) = .inr (9, [aR (some (2, 0, 0)), aR (some (4, 0, 0)), aR (some (8, 0, 0)), aR (some (14, 0, 0)), aR (some (8, 2, 0)), aR (some (15, 0, 0)), aR (some (17, 0, 0)), aR (some (18, 0, 0)), aR (some (7, 30, 0)), aR (some (25, 0, 0)), aR (some (27, 0, 0)), aI (iZ (σ.1 (1, a, 0) 11)), aI (iZ (σ.1 (1, a, 0) 12))]) := rfl
theorem hp_2 (σ : SG) (a : Nat) : am_hp σ (2, a, 0) = .inr (8, [aR (some (3, 0, 0)), aI (iZ (σ.1 (2, a, 0) 1)), aI (iZ (σ.1 (2, a, 0) 2)), aI (iZ (σ.1 (2, a, 0) 3)), aL (jZ (σ.2.1 (2, a, 0) 4)), aI (iZ (σ.1 (2, a, 0) 5)), aI (iZ (σ.1 (2, a, 0) 6)), aI (iZ (σ.1 (2, a, 0) 7)), aI (iZ (σ.1 (2, a, 0) 8))]) := rfl
theorem hp_4 (σ : SG) (a : Nat) : am_hp σ (4, a, 0) = .inr (6, [aR (some (5, 0, 0)), aR (some (6, 0, 0)), aI (iZ (σ.1 (4, a, 0) 2)), aI (iZ (σ.1 (4, a, 0) 3)), aI (iZ (σ.1 (4, a, 0) 4)), aI (iZ (σ.1 (4, a, 0) 5))]) := rfl
theorem hp_7 (σ : SG) (a : Nat) : am_hp σ (7, a, 0) = .inr (0, [aR (some (91, σ.2.2.2.1 (7, a, 0), 0)), aL (jZ (σ.2.1 (7, a, 0) 1)), aL (jZ (σ.2.1 (7, a, 0) 2)), aI (iZ (σ.1 (7, a, 0) 3)), aI (iZ (σ.1 (7, a, 0) 4)), aI (iZ (σ.1 (7, a, 0) 5)), aI (iZ (σ.1 (7, a, 0) 6)), aI (iZ (σ.1 (7, a, 0) 7))]) := rfl
theorem hp_8 (σ : SG) (a : Nat) : am_hp σ (8, a, 0) = .inr (5, [aR (some (9, a, 0)), aR (some (10, a, 0)), aR (some (11, a, 0)), aR (some (13, a, 0)), aI (iZ (σ.1 (8, a, 0) 4)), aI (iZ (σ.1 (8, a, 0) 5)), aI (iZ (σ.1 (8, a, 0) 6))]) := rfl
theorem hp_14 (σ : SG) (a : Nat) : am_hp σ (14, a, 0) = .inr (7, [aR (some (8, 1, 0)), aI (iZ (σ.1 (14, a, 0) 1))]) := rfl
theorem hp_15 (σ : SG) (a : Nat) : am_hp σ (15, a, 0) = .inr (1, [aR (some (16, 0, 0)), aI (iZ (σ.1 (15, a, 0) 1)), aI (iZ (σ.1 (15, a, 0) 2))]) := rfl
theorem hp_18 (σ : SG) (a : Nat) : am_hp σ (18, a, 0) = .inr (3, [aR (some (19, 0, 0)), aR (some (20, 0, 0)), aR (some (21, 0, 0)), aR (some (22, 0, 0)), aR (some (23, 0, 0)), aR (some (24, 0, 0)), aI (iZ (σ.1 (18, a, 0) 6))]) := rfl
theorem hp_25 (σ : SG) (a : Nat) : am_hp σ (25, a, 0) = .inr (4, [aR (some (26, 0, 0)), aI (iZ (σ.1 (25, a, 0) 1))]) := rfl
theorem hp_28 (σ : SG) (a : Nat) : am_hp σ (28, a, 0) = .inr (2, [aR (some (29, a, 0)), aR (some (30, a, 0)), aI (iZ (σ.1 (28, a, 0) 2)), aI (iZ (σ.1 (28, a, 0) 3))]) := rfl
theorem hp_40 (σ : SG) (a : Nat) : am_hp σ (40, a, 0) = .inr (10, [aI (iZ (σ.1 (40, a, 0) 0)), aR (some (41, 0, 0)), aI (iZ (σ.1 (40, a, 0) 2)), aI (iZ (σ.1 (40, a, 0) 3)), aI (iZ (σ.1 (40, a, 0) 4)), aI (iZ (σ.1 (40, a, 0) 5)), aI (iZ (σ.1 (40, a, 0) 6)), aI (iZ (σ.1 (40, a, 0) 7)), aI (iZ (σ.1 (40, a, 0) 8)), aI (iZ (σ.1 (40, a, 0) 9)), aI (iZ (σ.1 (40, a, 0) 10)), aI (iZ (σ.1 (40, a, 0) 11)), aL (jZ (σ.2.1 (40, a, 0) 12)), aR (some (42, 0, 0)), aR (some (43, 0, 0)), aR (some (44, 0, 0)), aR (some (45, 0, 0)), aI (iZ (σ.1 (40, a, 0) 17)), aI (iZ (σ.1 (40, a, 0) 18)), aI (iZ (σ.1 (40, a, 0) 19)), aI (iZ (σ.1 (40, a, 0) 20)), aI (iZ (σ.1 (40, a, 0) 21)), aI (iZ (σ.1 (40, a, 0) 22)), aI (iZ (σ.1 (40, a, 0) 23)), aR (some (46, 0, 0)), aR (some (47, 0, 0)), aR (some (48, 0, 0)), aR (some (49, 0, 0)), aR (some (50, 0, 0)), aR (some (51, 0, 0)), aR (some (52, 0, 0)), aR (some (53, 0, 0)), aR (some (54, 0, 0)), aI (iZ (σ.1 (40, a, 0) 33)), aI (iZ (σ.1 (40, a, 0) 34)), aI (iZ (σ.1 (40, a, 0) 35)), aR (some (55, 0, 0)), aR (some (56, 0, 0)), aR (some (57, 0, 0)), aR (some (58, 0, 0)), aR (some (59, 0, 0)), aR (some (60, 0, 0)), aR (some (61, 0, 0)), aI (iZ (σ.1 (40, a, 0) 43)), aI (iZ (σ.1 (40, a, 0) 44)), aI (iZ (σ.1 (40, a, 0) 45)), aR (some (62, 0, 0)), aI (iZ (σ.1 (40, a, 0) 47)), aI (iZ (σ.1 (40, a, 0) 48))]) := rfl
theorem hp_91 (σ : SG) (a : Nat) : am_hp σ (91, a, 0) = .inr (20, [aR (some (94, a, 0)), aI (am_cmd a).2.1, aI (am_cmd a).2.2.1, aI (am_cmd a).2.2.2, aI (nI a)]) := rfl
theorem hp_94 (σ : SG) (a : Nat) : am_hp σ (94, a, 0) = .inr (21, [aR (some (95, a, 0)), aI (0 : Int32)]) := rfl
theorem hp_3 (σ : SG) (a b : Nat) : am_hp σ (3, a, b) = a_B 600 (σ.1 (3, a, b)) := rfl
theorem mk_3 (σ : SG) (a b : Nat) (g : Nat → Int) : am_mk (3, a, b) g (σ.2.1 (3, a, b)) (σ.2.2.1 (3, a, b)) (σ.2.2.2.1 (3, a, b)) σ.2.2.2.2 = a_B 600 g := rfl
theorem hp_6 (σ : SG) (a b : Nat) : am_hp σ (6, a, b) = a_I 2 (σ.1 (6, a, b)) := rfl
theorem mk_6 (σ : SG) (a b : Nat) (g : Nat → Int) : am_mk (6, a, b) g (σ.2.1 (6, a, b)) (σ.2.2.1 (6, a, b)) (σ.2.2.2.1 (6, a, b)) σ.2.2.2.2 = a_I 2 g := rfl
theorem hp_9 (σ : SG) (a b : Nat) : am_hp σ (9, a, b) = a_J 4 (σ.2.1 (9, a, b)) := rfl
theorem mk_9 (σ : SG) (a b : Nat) (g : Nat → Int) : am_mk (9, a, b) (σ.1 (9, a, b)) g (σ.2.2.1 (9, a, b)) (σ.2.2.2.1 (9, a, b)) σ.2.2.2.2 = a_J 4 g := rfl
theorem hp_10 (σ : SG) (a b : Nat) : am_hp σ (10, a, b) = a_I 4 (σ.1 (10, a, b)) := rfl
theorem mk_10 (σ : SG) (a b : Nat) (g : Nat → Int) : am_mk (10, a, b) g (σ.2.1 (10, a, b)) (σ.2.2.1 (10, a, b)) (σ.2.2.2.1 (10, a, b)) σ.2.2.2.2 = a_I 4 g := rfl
theorem hp_12 (σ : SG) (a b : Nat) : am_hp σ (12, a, b) = a_I 60 (σ.1 (12, a, b)) := rfl
theorem mk_12 (σ : SG) (a b : Nat) (g : Nat → Int) : am_mk (12, a, b) g (σ.2.1 (12, a, b)) (σ.2.2.1 (12, a, b)) (σ.2.2.2.1 (12, a, b)) σ.2.2.2.2 = a_I 60 g := rfl
theorem hp_13 (σ : SG) (a b : Nat) : am_hp σ (13, a, b) = a_I 9 (σ.1 (13, a, b)) := rfl
theorem mk_13 (σ : SG) (a b : Nat) (g : Nat → Int) : am_mk (13, a, b) g (σ.2.1 (13, a, b)) (σ.2.2.1 (13, a, b)) (σ.2.2.2.1 (13, a, b)) σ.2.2.2.2 = a_I 9 g := rfl
theorem hp_19 (σ : SG) (a b : Nat) : am_hp σ (19, a, b) = a_I 120 (σ.1 (19, a, b)) := rfl
theorem mk_19 (σ : SG) (a b : Nat) (g : Nat → Int) : am_mk (19, a, b) g (σ.2.1 (19, a, b)) (σ.2.2.1 (19, a, b)) (σ.2.2.2.1 (19, a, b)) σ.2.2.2.2 = a_I 120 g := rfl
theorem hp_20 (σ : SG) (a b : Nat) : am_hp σ (20, a, b) = a_I 120 (σ.1 (20, a, b)) := rfl
theorem mk_20 (σ : SG) (a b : Nat) (g : Nat → Int) : am_mk (20, a, b) g (σ.2.1 (20, a, b)) (σ.2.2.1 (20, a, b)) (σ.2.2.2.1 (20, a, b)) σ.2.2.2.2 = a_I 120 g := rfl
theorem hp_21 (σ : SG) (a b : Nat) : am_hp σ (21, a, b) = a_I 120 (σ.1 (21, a, b)) := rfl
theorem mk_21 (σ : SG) (a b : Nat) (g : Nat → Int) : am_mk (21, a, b) g (σ.2.1 (21, a, b)) (σ.2.2.1 (21, a, b)) (σ.2.2.2.1 (21, a, b)) σ.2.2.2.2 = a_I 120 g := rfl
theorem hp_22 (σ : SG) (a b : Nat) : am_hp σ (22, a, b) = a_I 121 (σ.1 (22, a, b)) := rfl
theorem mk_22 (σ : SG) (a b : Nat) (g : Nat → Int) : am_mk (22, a, b) g (σ.2.1 (22, a, b)) (σ.2.2.1 (22, a, b)) (σ.2.2.2.1 (22, a, b)) σ.2.2.2.2 = a_I 121 g := rfl
theorem hp_23 (σ : SG) (a b : Nat) : am_hp σ (23, a, b) = a_I 9 (σ.1 (23, a, b)) := rfl
theorem mk_23 (σ : SG) (a b : Nat) (g : Nat → Int) : am_mk (23, a, b) g (σ.2.1 (23, a, b)) (σ.2.2.1 (23, a, b)) (σ.2.2.2.1 (23, a, b)) σ.2.2.2.2 = a_I 9 g := rfl
theorem hp_24 (σ : SG) (a b : Nat) : am_hp σ (24, a, b) = a_I 9 (σ.1 (24, a, b)) := rfl
theorem mk_24 (σ : SG) (a b : Nat) (g : Nat → Int) : am_mk (24, a, b) g (σ.2.1 (24, a, b)) (σ.2.2.1 (24, a, b)) (σ.2.2.2.1 (24, a, b)) σ.2.2.2.2 = a_I 9 g := rfl
theorem hp_26 (σ : SG) (a b : Nat) : am_hp σ (26, a, b) = a_B 730 (σ.1 (26, a, b)) := rfl
theorem mk_26 (σ : SG) (a b : Nat) (g : Nat → Int) : am_mk (26, a, b) g (σ.2.1 (26, a, b)) (σ.2.2.1 (26, a, b)) (σ.2.2.2.1 (26, a, b)) σ.2.2.2.2 = a_B 730 g := rfl
theorem hp_27 (σ : SG) (a b : Nat) : am_hp σ (27, a, b) = a_I 4 (σ.1 (27, a, b)) := rfl
theorem mk_27 (σ : SG) (a b : Nat) (g : Nat → Int) : am_mk (27, a, b) g (σ.2.1 (27, a, b)) (σ.2.2.1 (27, a, b)) (σ.2.2.2.1 (27, a, b)) σ.2.2.2.2 = a_I 4 g := rfl
theorem hp_29 (σ : SG) (a b : Nat) : am_hp σ (29, a, b) = a_I 60 (σ.1 (29, a, b)) := rfl
theorem mk_29 (σ : SG) (a b : Nat) (g : Nat → Int) : am_mk (29, a, b) g (σ.2.1 (29, a, b)) (σ.2.2.1 (29, a, b)) (σ.2.2.2.1 (29, a, b)) σ.2.2.2.2 = a_I 60 g := rfl
theorem hp_30 (σ : SG) (a b : Nat) : am_hp σ (30, a, b) = a_I 60 (σ.1 (30, a, b)) := rfl
theorem mk_30 (σ : SG) (a b : Nat) (g : Nat → Int) : am_mk (30, a, b) g (σ.2.1 (30, a, b)) (σ.2.2.1 (30, a, b)) (σ.2.2.2.1 (30, a, b)) σ.2.2.2.2 = a_I 60 g := rfl
theorem hp_41 (σ : SG) (a b : Nat) : am_hp σ (41, a, b) = a_I 600 (σ.1 (41, a, b)) := rfl
theorem mk_41 (σ : SG) (a b : Nat) (g : Nat → Int) : am_mk (41, a, b) g (σ.2.1 (41, a, b)) (σ.2.2.1 (41, a, b)) (σ.2.2.2.1 (41, a, b)) σ.2.2.2.2 = a_I 600 g := rfl
theorem hp_42 (σ : SG) (a b : Nat) : am_hp σ (42, a, b) = a_I 264 (σ.1 (42, a, b)) := rfl
theorem mk_42 (σ : SG) (a b : Nat) (g : Nat → Int) : am_mk (42, a, b) g (σ.2.1 (42, a, b)) (σ.2.2.1 (42, a, b)) (σ.2.2.2.1 (42, a, b)) σ.2.2.2.2 = a_I 264 g := rfl
theorem hp_43 (σ : SG) (a b : Nat) : am_hp σ (43, a, b) = a_I 264 (σ.1 (43, a, b)) := rfl
theorem mk_43 (σ : SG) (a b : Nat) (g : Nat → Int) : am_mk (43, a, b) g (σ.2.1 (43, a, b)) (σ.2.2.1 (43, a, b)) (σ.2.2.2.1 (43, a, b)) σ.2.2.2.2 = a_I 264 g := rfl
theorem hp_44 (σ : SG) (a b : Nat) : am_hp σ (44, a, b) = a_I 264 (σ.1 (44, a, b)) := rfl
theorem mk_44 (σ : SG) (a b : Nat) (g : Nat → Int) : am_mk (44, a, b) g (σ.2.1 (44, a, b)) (σ.2.2.1 (44, a, b)) (σ.2.2.2.1 (44, a, b)) σ.2.2.2.2 = a_I 264 g := rfl
theorem hp_45 (σ : SG) (a b : Nat) : am_hp σ (45, a, b) = a_I 1584 (σ.1 (45, a, b)) := rfl
theorem mk_45 (σ : SG) (a b : Nat) (g : Nat → Int) : am_mk (45, a, b) g (σ.2.1 (45, a, b)) (σ.2.2.1 (45, a, b)) (σ.2.2.2.1 (45, a, b)) σ.2.2.2.2 = a_I 1584 g := rfl
theorem hp_46 (σ : SG) (a b : Nat) : am_hp σ (46, a, b) = a_I 9 (σ.1 (46, a, b)) := rfl
theorem mk_46 (σ : SG) (a b : Nat) (g : Nat → Int) : am_mk (46, a, b) g (σ.2.1 (46, a, b)) (σ.2.2.1 (46, a, b)) (σ.2.2.2.1 (46, a, b)) σ.2.2.2.2 = a_I 9 g := rfl
theorem hp_47 (σ : SG) (a b : Nat) : am_hp σ (47, a, b) = a_I 9 (σ.1 (47, a, b)) := rfl
theorem mk_47 (σ : SG) (a b : Nat) (g : Nat → Int) : am_mk (47, a, b) g (σ.2.1 (47, a, b)) (σ.2.2.1 (47, a, b)) (σ.2.2.2.1 (47, a, b)) σ.2.2.2.2 = a_I 9 g := rfl
theorem hp_48 (σ : SG) (a b : Nat) : am_hp σ (48, a, b) = a_I 120 (σ.1 (48, a, b)) := rfl
theorem mk_48 (σ : SG) (a b : Nat) (g : Nat → Int) : am_mk (48, a, b) g (σ.2.1 (48, a, b)) (σ.2.2.1 (48, a, b)) (σ.2.2.2.1 (48, a, b)) σ.2.2.2.2 = a_I 120 g := rfl
theorem hp_49 (σ : SG) (a b : Nat) : am_hp σ (49, a, b) = a_I 120 (σ.1 (49, a, b)) := rfl
theorem mk_49 (σ : SG) (a b : Nat) (g : Nat → Int) : am_mk (49, a, b) g (σ.2.1 (49, a, b)) (σ.2.2.1 (49, a, b)) (σ.2.2.2.1 (49, a, b)) σ.2.2.2.2 = a_I 120 g := rfl
theorem hp_50 (σ : SG) (a b : Nat) : am_hp σ (50, a, b) = a_I 9 (σ.1 (50, a, b)) := rfl
theorem mk_50 (σ : SG) (a b : Nat) (g : Nat → Int) : am_mk (50, a, b) g (σ.2.1 (50, a, b)) (σ.2.2.1 (50, a, b)) (σ.2.2.2.1 (50, a, b)) σ.2.2.2.2 = a_I 9 g := rfl
theorem hp_51 (σ : SG) (a b : Nat) : am_hp σ (51, a, b) = a_I 120 (σ.1 (51, a, b)) := rfl
theorem mk_51 (σ : SG) (a b : Nat) (g : Nat → Int) : am_mk (51, a, b) g (σ.2.1 (51, a, b)) (σ.2.2.1 (51, a, b)) (σ.2.2.2.1 (51, a, b)) σ.2.2.2.2 = a_I 120 g := rfl
theorem hp_52 (σ : SG) (a b : Nat) : am_hp σ (52, a, b) = a_I 121 (σ.1 (52, a, b)) := rfl
theorem mk_52 (σ : SG) (a b : Nat) (g : Nat → Int) : am_mk (52, a, b) g (σ.2.1 (52, a, b)) (σ.2.2.1 (52, a, b)) (σ.2.2.2.1 (52, a, b)) σ.2.2.2.2 = a_I 121 g := rfl
theorem hp_53 (σ : SG) (a b : Nat) : am_hp σ (53, a, b) = a_I 121 (σ.1 (53, a, b)) := rfl
theorem mk_53 (σ : SG) (a b : Nat) (g : Nat → Int) : am_mk (53, a, b) g (σ.2.1 (53, a, b)) (σ.2.2.1 (53, a, b)) (σ.2.2.2.1 (53, a, b)) σ.2.2.2.2 = a_I 121 g := rfl
theorem hp_54 (σ : SG) (a b : Nat) : am_hp σ (54, a, b) = a_I 121 (σ.1 (54, a, b)) := rfl
theorem mk_54 (σ : SG) (a b : Nat) (g : Nat → Int) : am_mk (54, a, b) g (σ.2.1 (54, a, b)) (σ.2.2.1 (54, a, b)) (σ.2.2.2.1 (54, a, b)) σ.2.2.2.2 = a_I 121 g := rfl
theorem hp_55 (σ : SG) (a b : Nat) : am_hp σ (55, a, b) = a_I 60 (σ.1 (55, a, b)) := rfl
theorem mk_55 (σ : SG) (a b : Nat) (g : Nat → Int) : am_mk (55, a, b) g (σ.2.1 (55, a, b)) (σ.2.2.1 (55, a, b)) (σ.2.2.2.1 (55, a, b)) σ.2.2.2.2 = a_I 60 g := rfl
theorem hp_56 (σ : SG) (a b : Nat) : am_hp σ (56, a, b) = a_I 60 (σ.1 (56, a, b)) := rfl
theorem mk_56 (σ : SG) (a b : Nat) (g : Nat → Int) : am_mk (56, a, b) g (σ.2.1 (56, a, b)) (σ.2.2.1 (56, a, b)) (σ.2.2.2.1 (56, a, b)) σ.2.2.2.2 = a_I 60 g := rfl
theorem hp_57 (σ : SG) (a b : Nat) : am_hp σ (57, a, b) = a_I 60 (σ.1 (57, a, b)) := rfl
theorem mk_57 (σ : SG) (a b : Nat) (g : Nat → Int) : am_mk (57, a, b) g (σ.2.1 (57, a, b)) (σ.2.2.1 (57, a, b)) (σ.2.2.2.1 (57, a, b)) σ.2.2.2.2 = a_I 60 g := rfl
theorem hp_58 (σ : SG) (a b : Nat) : am_hp σ (58, a, b) = a_I 2 (σ.1 (58, a, b)) := rfl
theorem mk_58 (σ : SG) (a b : Nat) (g : Nat → Int) : am_mk (58, a, b) g (σ.2.1 (58, a, b)) (σ.2.2.1 (58, a, b)) (σ.2.2.2.1 (58, a, b)) σ.2.2.2.2 = a_I 2 g := rfl
theorem hp_59 (σ : SG) (a b : Nat) : am_hp σ (59, a, b) = a_I 2 (σ.1 (59, a, b)) := rfl
theorem mk_59 (σ : SG) (a b : Nat) (g : Nat → Int) : am_mk (59, a, b) g (σ.2.1 (59, a, b)) (σ.2.2.1 (59, a, b)) (σ.2.2.2.1 (59, a, b)) σ.2.2.2.2 = a_I 2 g := rfl
theorem hp_60 (σ : SG) (a b : Nat) : am_hp σ (60, a, b) = a_J 60 (σ.2.1 (60, a, b)) := rfl
theorem mk_60 (σ : SG) (a b : Nat) (g : Nat → Int) : am_mk (60, a, b) (σ.1 (60, a, b)) g (σ.2.2.1 (60, a, b)) (σ.2.2.2.1 (60, a, b)) σ.2.2.2.2 = a_J 60 g := rfl
theorem hp_61 (σ : SG) (a b : Nat) : am_hp σ (61, a, b) = a_J 60 (σ.2.1 (61, a, b)) := rfl
theorem mk_61 (σ : SG) (a b : Nat) (g : Nat → Int) : am_mk (61, a, b) (σ.1 (61, a, b)) g (σ.2.2.1 (61, a, b)) (σ.2.2.2.1 (61, a, b)) σ.2.2.2.2 = a_J 60 g := rfl
theorem hp_62 (σ : SG) (a b : Nat) : am_hp σ (62, a, b) = a_I 1200 (σ.1 (62, a, b)) := rfl
theorem mk_62 (σ : SG) (a b : Nat) (g : Nat → Int) : am_mk (62, a, b) g (σ.2.1 (62, a, b)) (σ.2.2.1 (62, a, b)) (σ.2.2.2.1 (62, a, b)) σ.2.2.2.2 = a_I 1200 g := rfl
theorem hp_70 (σ : SG) (a b : Nat) : am_hp σ (70, a, b) = a_J 1 (σ.2.1 (70, a, b)) := rfl
theorem mk_70 (σ : SG) (a b : Nat) (g : Nat → Int) : am_mk (70, a, b) (σ.1 (70, a, b)) g (σ.2.2.1 (70, a, b)) (σ.2.2.2.1 (70, a, b)) σ.2.2.2.2 = a_J 1 g := rfl
theorem hp_5 (σ : SG) (a : Nat) : am_hp σ (5, a, 0) = a_R 6 30 (fun j => (7, j, 0)) := rfl
theorem hp_11 (σ : SG) (a : Nat) : am_hp σ (11, a, 0) = a_R 7 4 (fun j => (12, a, j)) := rfl
theorem hp_16 (σ : SG) (a : Nat) : am_hp σ (16, a, 0) = a_R 5 6 (fun j => (8, (3 + j), 0)) := rfl
theorem hp_17 (σ : SG) (a : Nat) : am_hp σ (17, a, 0) = a_R 4 4 (fun j => (28, j, 0)) := rfl
theorem rcv_of {ci : Nat} {L : Lc} {h : AH} {fs : List AV} (hL : h L = .inr (ci, fs)) : am_rcv (ci + 1) (some (aR (some L))) h = true := by
  unfold am_rcv
  dsimp only
  rw [hL]
  simp
section RUP
variable {k : Nat → Option OP} {d pc : Nat} {ls : AS} {st : List AV} {h : AH} {t : KT} {Q : RS → Prop}
theorem w_e {c c' : CF} (he : c = c') (w : Wp k d c' Q) : Wp k d c Q := by rw [he]; exact w
theorem w_psh {n : Int32} {z : Int} {len : Nat} (hk : k pc = some (.inl (o_stk (f_push len (aI n))))) (hn : n = iZ z) {pc' : Nat} (hp : pc + len = pc') (w : Wp k d (pc', ls, aI (iZ z) :: st, h, t) Q) : Wp k d (pc, ls, st, h, t) Q := by
  subst hn
  subst hp
  exact w_s hk rfl w
theorem w_psL {n : Int64} {z : Int} {len : Nat} (hk : k pc = some (.inl (o_stk (f_push len (aL n))))) (hn : n = jZ z) {pc' : Nat} (hp : pc + len = pc') (w : Wp k d (pc', ls, aL (jZ z) :: st, h, t) Q) : Wp k d (pc, ls, st, h, t) Q := by
  subst hn
  subst hp
  exact w_s hk rfl w
theorem w_get {ci j : Nat} {L : Lc} {fs : List AV} {v : AV} (hk : k pc = some (.inl (o_get ci j))) (hL : h L = .inr (ci, fs)) (hj : fs[j]? = some v) {pc' : Nat} (hp : pc + 3 = pc') (w : Wp k d (pc', ls, v :: st, h, t) Q) : Wp k d (pc, ls, aR (some L) :: st, h, t) Q := by
  subst hp
  refine w_s hk (c' := (pc + 3, ls, v :: st, h, t)) ?_ w
  unfold o_get
  dsimp only
  rw [hL]
  dsimp only
  rw [if_pos rfl, hj]
theorem w_putI {ci j : Nat} {z : Int} {L : Lc} {σ : SG} {fs : List AV} (hk : k pc = some (.inl (o_put ci j .int))) (hL : am_hp σ L = .inr (ci, fs)) (hx : am_mk L (up (σ.1 L) j z) (σ.2.1 L) (σ.2.2.1 L) (σ.2.2.2.1 L) σ.2.2.2.2 = .inr (ci, fs.set j (aI (iZ z)))) (hj : Nat.blt j fs.length = true) {pc' : Nat} (hp : pc + 3 = pc') (w : Wp k d (pc', ls, st, am_hp (sI σ L (up (σ.1 L) j z)), t) Q) : Wp k d (pc, ls, aI (iZ z) :: aR (some L) :: st, am_hp σ, t) Q := by
  subst hp
  refine w_s hk ?_ w
  unfold o_put
  dsimp only
  rw [hL]
  dsimp only
  rw [if_pos ⟨rfl, rfl, Nat.ble_eq.mp hj⟩, hp_I hx.symm]
theorem w_putJ {ci j : Nat} {z : Int} {L : Lc} {σ : SG} {fs : List AV} (hk : k pc = some (.inl (o_put ci j .long))) (hL : am_hp σ L = .inr (ci, fs)) (hx : am_mk L (σ.1 L) (up (σ.2.1 L) j z) (σ.2.2.1 L) (σ.2.2.2.1 L) σ.2.2.2.2 = .inr (ci, fs.set j (aL (jZ z)))) (hj : Nat.blt j fs.length = true) {pc' : Nat} (hp : pc + 3 = pc') (w : Wp k d (pc', ls, st, am_hp (sJ σ L (up (σ.2.1 L) j z)), t) Q) : Wp k d (pc, ls, aL (jZ z) :: aR (some L) :: st, am_hp σ, t) Q := by
  subst hp
  refine w_s hk ?_ w
  unfold o_put
  dsimp only
  rw [hL]
  dsimp only
  rw [if_pos ⟨rfl, rfl, Nat.ble_eq.mp hj⟩, hp_J hx.symm]
theorem w_putC {c : Nat} {L : Lc} {σ : SG} {fs : List AV} (hk : k pc = some (.inl (o_put 0 0 (.object "NineWays$Command")))) (hL : am_hp σ L = .inr (0, fs)) (hx : am_mk L (σ.1 L) (σ.2.1 L) (σ.2.2.1 L) c σ.2.2.2.2 = .inr (0, fs.set 0 (aR (some (91, c, 0))))) (hj : Nat.blt 0 fs.length = true) {pc' : Nat} (hp : pc + 3 = pc') (w : Wp k d (pc', ls, st, am_hp (sC σ L c), t) Q) : Wp k d (pc, ls, aR (some (91, c, 0)) :: aR (some L) :: st, am_hp σ, t) Q := by
  subst hp
  refine w_s hk ?_ w
  unfold o_put
  dsimp only
  rw [hL]
  dsimp only
  rw [if_pos ⟨rfl, rfl, Nat.ble_eq.mp hj⟩, hp_C hx.symm]
theorem hp_71 (σ : SG) : am_hp σ (71, 0, 0) = .inl (3, 1, .inr (.inr (.inl (σ.2.2.1 (71, 0, 0))))) := rfl
theorem w_das {x : UInt64} {σ : SG} (hk : k pc = some (.inl o_das)) {pc' : Nat} (hp : pc + 1 = pc') (w : Wp k d (pc', ls, st, am_hp (sD σ (71, 0, 0) (vf_upd (σ.2.2.1 (71, 0, 0)) 0 x)), t) Q) : Wp k d (pc, ls, aD x :: aI (iZ 0) :: aR (some (71, 0, 0)) :: st, am_hp σ, t) Q := by
  subst hp
  refine w_s hk (c' := (pc + 1, ls, st, am_uh (am_hp σ) (71, 0, 0) (.inl (3, 1, .inr (.inr (.inl (vf_upd (σ.2.2.1 (71, 0, 0)) 0 x))))), t)) rfl ?_
  have e : am_uh (am_hp σ) (71, 0, 0) (.inl (3, 1, .inr (.inr (.inl (vf_upd (σ.2.2.1 (71, 0, 0)) 0 x))))) = am_hp (sD σ (71, 0, 0) (vf_upd (σ.2.2.1 (71, 0, 0)) 0 x)) := hp_D rfl
  rw [e]
  exact w
theorem w_dal {σ : SG} (hk : k pc = some (.inl o_dal)) {pc' : Nat} (hp : pc + 1 = pc') (w : Wp k d (pc', ls, aD (σ.2.2.1 (71, 0, 0) 0) :: st, am_hp σ, t) Q) : Wp k d (pc, ls, aI (iZ 0) :: aR (some (71, 0, 0)) :: st, am_hp σ, t) Q := by
  subst hp
  exact w_s hk rfl w

theorem w_aa8 {i : Int} {σ : SG} (hk : k pc = some (.inl o_aa8)) (hi : 0 ≤ i ∧ i < 10) {pc' : Nat} (hp : pc + 1 = pc') (w : Wp k d (pc', ls, aR (some (91, i.toNat, 0)) :: st, am_hp σ, t) Q) : Wp k d (pc, ls, aI (iZ i) :: aR (some (93, 0, 0)) :: st, am_hp σ, t) Q := by
  subst hp
  refine w_s hk (c' := (pc + 1, ls, aR (some (91, i.toNat, 0)) :: st, am_hp σ, t)) ?_ w
  show (if iZ i < 0 ∨ 10 ≤ (iZ i).toNatClampNeg ∨ 93 < 90 then none else some (pc + 1, ls, aR (some (91, (iZ i).toNatClampNeg, 0)) :: st, am_hp σ, t)) = _
  rw [if_neg (by rw [iZ_nat (by omega)]; rintro (q | q | q); exact iZ_n0 (by omega) q; omega; omega), iZ_nat (by omega)]
theorem w_acq {x y : Option Lc} {tgt : Nat} (hk : k pc = some (.inl (o_acq tgt))) (hx : am_c91 x = true) (hy : am_c91 y = true) {pc' : Nat} (hp : pc + 3 = pc') (w1 : x = y → Wp k d (tgt, ls, st, h, t) Q) (w2 : x ≠ y → Wp k d (pc', ls, st, h, t) Q) : Wp k d (pc, ls, aR y :: aR x :: st, h, t) Q := by
  subst hp
  by_cases e : x = y
  · refine w_s hk (c' := (tgt, ls, st, h, t)) ?_ (w1 e)
    unfold o_acq
    dsimp only
    rw [if_pos ⟨hx, hy⟩, if_pos e]
  · refine w_s hk (c' := (pc + 3, ls, st, h, t)) ?_ (w2 e)
    unfold o_acq
    dsimp only
    rw [if_pos ⟨hx, hy⟩, if_neg e]
theorem w_acn {x y : Option Lc} {tgt : Nat} (hk : k pc = some (.inl (o_acn tgt))) (hx : am_c91 x = true) (hy : am_c91 y = true) {pc' : Nat} (hp : pc + 3 = pc') (w1 : x ≠ y → Wp k d (tgt, ls, st, h, t) Q) (w2 : x = y → Wp k d (pc', ls, st, h, t) Q) : Wp k d (pc, ls, aR y :: aR x :: st, h, t) Q := by
  subst hp
  by_cases e : x = y
  · refine w_s hk (c' := (pc + 3, ls, st, h, t)) ?_ (w2 e)
    unfold o_acn
    dsimp only
    rw [if_pos ⟨hx, hy⟩, if_pos e]
  · refine w_s hk (c' := (tgt, ls, st, h, t)) ?_ (w1 e)
    unfold o_acn
    dsimp only
    rw [if_pos ⟨hx, hy⟩, if_neg e]
theorem w_nnl {x : Option Lc} {tgt : Nat} (hk : k pc = some (.inl (o_nnl tgt))) {pc' : Nat} (hp : pc + 3 = pc') (w1 : ∀ L, x = some L → Wp k d (tgt, ls, st, h, t) Q) (w2 : x = none → Wp k d (pc', ls, st, h, t) Q) : Wp k d (pc, ls, aR x :: st, h, t) Q := by
  subst hp
  cases x with
  | none => exact w_s hk (c' := (pc + 3, ls, st, h, t)) rfl (w2 rfl)
  | some L => exact w_s hk (c' := (tgt, ls, st, h, t)) rfl (w1 L rfl)
end RUP
theorem tgt_df {lo x : Int} {df : Nat} (tg : List Nat) (n : Int) (hn : lo + tg.length ≤ n + 0) (hd : x < lo ∨ n ≤ x) : (if x < lo then df else tg.getD (x - lo).toNat df) = df := by
  by_cases h : x < lo
  · rw [if_pos h]
  · rw [if_neg h, List.getD_eq_getElem?_getD, List.getElem?_eq_none (by omega)]; rfl
theorem iZ_ofNat (n : Nat) : iZ (n : Int) = Int32.ofNat n := Int32.ofInt_eq_ofNat
