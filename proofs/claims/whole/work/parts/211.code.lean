noncomputable section
def j_X12_partRank_274 (k_213 : Nat → Int32 → Int64 → Int32 → z_St → Option (Int64 × z_St)) (v0 : Nat) (v1 : Int32) (v8 : Int64) (v10 : Int32) (t0 : Int64) (S : z_St) : Option (Int64 × z_St) :=
z_chk S v0 13 (
z_onV (va_rf (z_r S v0 91)) fun b30 =>
z_inb S b30 102 v10 (
z_inb S b30 102 v10 (
let S31 := z_wl S b30 v10.toNatClampNeg (((z_l S b30 v10.toNatClampNeg)) + t0)
let x32 := v8 - t0
let x33 := v10 + (1 : Int32)
k_213 v0 v1 x32 x33 S31)))
def l_X12_partRank_213 : Nat → Nat → Int32 → Int64 → Int32 → z_St → Option (Int64 × z_St)
  | 0 => fun _ _ _ _ _ => none
  | n + 1 => fun (v0 : Nat) (v1 : Int32) (v8 : Int64) (v10 : Int32) (S : z_St) =>
z_chk S v0 13 (
if ((z_i S v0 87)) ≤ v10 then
(some (v8, S))
else
(z_chk S v0 13 (
z_onV (va_rf (z_r S v0 88)) fun b20 =>
z_inb S b20 101 v10 (
if ((z_i S b20 v10.toNatClampNeg)) = v1 then
(z_chk S v0 13 (
z_onV (va_rf (z_r S v0 90)) fun b22 =>
z_inb S b22 102 v10 (
z_chk S v0 13 (
z_onV (va_rf (z_r S v0 91)) fun b23 =>
z_inb S b23 102 v10 (
if 0 ≤ (lg_cmp (((z_l S b22 v10.toNatClampNeg)) - ((z_l S b23 v10.toNatClampNeg))) v8) then
(j_X12_partRank_274 (l_X12_partRank_213 n) v0 v1 v8 v10 v8 S)
else
(z_chk S v0 13 (
z_onV (va_rf (z_r S v0 90)) fun b24 =>
z_inb S b24 102 v10 (
z_chk S v0 13 (
z_onV (va_rf (z_r S v0 91)) fun b25 =>
z_inb S b25 102 v10 (
j_X12_partRank_274 (l_X12_partRank_213 n) v0 v1 v8 v10 (((z_l S b24 v10.toNatClampNeg)) - ((z_l S b25 v10.toNatClampNeg))) S))))))))))
else
(let x21 := v10 + (1 : Int32)
l_X12_partRank_213 n v0 v1 v8 x21 S)))))
def j_X12_partRank_183 (k_93 : Nat → Int32 → Int64 → Int64 → Int64 → Int64 → Int32 → z_St → Option (Int64 × z_St)) (v0 : Nat) (v1 : Int32) (v2 : Int64) (v4 : Int64) (v6 : Int64) (v8 : Int64) (v10 : Int32) (t0 : Int64) (S : z_St) : Option (Int64 × z_St) :=
z_chk S v0 13 (
z_onV (va_rf (z_r S v0 91)) fun b26 =>
z_inb S b26 102 v10 (
z_inb S b26 102 v10 (
let S27 := z_wl S b26 v10.toNatClampNeg (((z_l S b26 v10.toNatClampNeg)) + t0)
let x28 := v8 - t0
let x29 := v10 + (1 : Int32)
k_93 v0 v1 v2 v4 v6 x28 x29 S27)))
def l_X12_partRank_93 : Nat → Nat → Int32 → Int64 → Int64 → Int64 → Int64 → Int32 → z_St → Option (Int64 × z_St)
  | 0 => fun _ _ _ _ _ _ _ _ => none
  | n + 1 => fun (v0 : Nat) (v1 : Int32) (v2 : Int64) (v4 : Int64) (v6 : Int64) (v8 : Int64) (v10 : Int32) (S : z_St) =>
z_chk S v0 13 (
if ((z_i S v0 87)) ≤ v10 then
(l_X12_partRank_213 z_N v0 v1 v8 ((0 : Int32)) S)
else
(if (lg_cmp v4 v2) ≤ 0 then
(l_X12_partRank_213 z_N v0 v1 v8 ((0 : Int32)) S)
else
(z_chk S v0 13 (
z_onV (va_rf (z_r S v0 88)) fun b4 =>
z_inb S b4 101 v10 (
if ((z_i S b4 v10.toNatClampNeg)) = v1 then
(if (lg_cmp v6 ((0 : Int64))) ≤ 0 then
(let x6 := v10 + (1 : Int32)
l_X12_partRank_93 n v0 v1 v2 v4 v6 v8 x6 S)
else
(z_chk S v0 13 (
z_onV (va_rf (z_r S v0 89)) fun b7 =>
z_inb S b7 101 v10 (
z_nzl v6 (
let x8 := (v2 * (((z_i S b7 v10.toNatClampNeg)).toInt64)) / v6
z_chk S v0 13 (
z_onV (va_rf (z_r S v0 90)) fun b9 =>
z_inb S b9 102 v10 (
z_chk S v0 13 (
z_onV (va_rf (z_r S v0 91)) fun b10 =>
z_inb S b10 102 v10 (
if (lg_cmp x8 (((z_l S b9 v10.toNatClampNeg)) - ((z_l S b10 v10.toNatClampNeg)))) ≤ 0 then
(j_X12_partRank_183 (l_X12_partRank_93 n) v0 v1 v2 v4 v6 v8 v10 x8 S)
else
(z_chk S v0 13 (
z_onV (va_rf (z_r S v0 90)) fun b11 =>
z_inb S b11 102 v10 (
z_chk S v0 13 (
z_onV (va_rf (z_r S v0 91)) fun b12 =>
z_inb S b12 102 v10 (
j_X12_partRank_183 (l_X12_partRank_93 n) v0 v1 v2 v4 v6 v8 v10 (((z_l S b11 v10.toNatClampNeg)) - ((z_l S b12 v10.toNatClampNeg))) S))))))))))))))
else
(let x5 := v10 + (1 : Int32)
l_X12_partRank_93 n v0 v1 v2 v4 v6 v8 x5 S))))))
def j_X12_partRank_50 (k_9 : Nat → Int32 → Int64 → Int64 → Int64 → Int32 → z_St → Option (Int64 × z_St)) (v0 : Nat) (v1 : Int32) (v2 : Int64) (v6 : Int64) (v8 : Int32) (t0 : Int64) (t1 : Int64) (S : z_St) : Option (Int64 × z_St) :=
let x13 := t0 + t1
z_chk S v0 13 (
z_onV (va_rf (z_r S v0 88)) fun b14 =>
z_inb S b14 101 v8 (
if ((z_i S b14 v8.toNatClampNeg)) = v1 then
(z_chk S v0 13 (
z_onV (va_rf (z_r S v0 89)) fun b17 =>
z_inb S b17 101 v8 (
let x18 := v6 + (((z_i S b17 v8.toNatClampNeg)).toInt64)
let x19 := v8 + (1 : Int32)
k_9 v0 v1 v2 x13 x18 x19 S)))
else
(let x15 := v6 + ((0 : Int64))
let x16 := v8 + (1 : Int32)
k_9 v0 v1 v2 x13 x15 x16 S)))
def l_X12_partRank_9 : Nat → Nat → Int32 → Int64 → Int64 → Int64 → Int32 → z_St → Option (Int64 × z_St)
  | 0 => fun _ _ _ _ _ _ _ => none
  | n + 1 => fun (v0 : Nat) (v1 : Int32) (v2 : Int64) (v4 : Int64) (v6 : Int64) (v8 : Int32) (S : z_St) =>
z_chk S v0 13 (
if ((z_i S v0 87)) ≤ v8 then
(l_X12_partRank_93 z_N v0 v1 v2 v4 v6 v2 ((0 : Int32)) S)
else
(z_chk S v0 13 (
z_onV (va_rf (z_r S v0 88)) fun b1 =>
z_inb S b1 101 v8 (
if ((z_i S b1 v8.toNatClampNeg)) = v1 then
(z_chk S v0 13 (
z_onV (va_rf (z_r S v0 90)) fun b2 =>
z_inb S b2 102 v8 (
z_chk S v0 13 (
z_onV (va_rf (z_r S v0 91)) fun b3 =>
z_inb S b3 102 v8 (
j_X12_partRank_50 (l_X12_partRank_9 n) v0 v1 v2 v6 v8 v4 (((z_l S b2 v8.toNatClampNeg)) - ((z_l S b3 v8.toNatClampNeg))) S)))))
else
(j_X12_partRank_50 (l_X12_partRank_9 n) v0 v1 v2 v6 v8 v4 ((0 : Int64)) S)))))
def b_X12_partRank (v0 : Nat) (v1 : Int32) (v2 : Int64) (S : z_St) : Option (Int64 × z_St) :=
l_X12_partRank_9 z_N v0 v1 v2 ((0 : Int64)) ((0 : Int64)) ((0 : Int32)) S
def f_X12_partRank : Nat → Int32 → Int64 → z_St → Option (Int64 × z_St) := z_op (b_X12_partRank)
theorem e_X12_partRank (v0 : Nat) (v1 : Int32) (v2 : Int64) (S : z_St) : f_X12_partRank v0 v1 v2 S = b_X12_partRank v0 v1 v2 S := congrFun (congrFun (congrFun (congrFun (z_op_eq (b_X12_partRank)) v0) v1) v2) S
def g_X12_partRank : z_G := .inr (.inl (fun as S => match as with
  | [.ref v0, .int v1, .long v2] => f_X12_partRank v0 v1 v2 S
  | _ => none))
def c_X12_partRank : List z_E := [
  (0, .lconst 0, 1, .long (0 : Int64), [], z_g0),
  (1, .lstore 4, 2, .null, [], z_g0),
  (3, .lconst 0, 1, .long (0 : Int64), [], z_g0),
  (4, .lstore 6, 2, .null, [], z_g0),
  (6, .iconst 0, 1, .int ((0 : Int32)), [], z_g0),
  (7, .istore 8, 2, .null, [], z_g0),
  (9, .iload 8, 2, .null, [], z_g0),
  (11, .aload_n 0, 1, .null, [], z_g0),
  (12, .getfield 608, 3, .null, [13, 87, 0], z_g0),
  (15, .if_icmp .ge 72, 3, .null, [87], z_g0),
  (18, .lload 4, 2, .null, [], z_g0),
  (20, .aload_n 0, 1, .null, [], z_g0),
  (21, .getfield 193, 3, .null, [13, 88, 3], z_g0),
  (24, .iload 8, 2, .null, [], z_g0),
  (26, .iaload, 1, .null, [101], z_g0),
  (27, .iload_n 1, 1, .null, [], z_g0),
  (28, .if_icmp .ne 21, 3, .null, [49], z_g0),
  (31, .aload_n 0, 1, .null, [], z_g0),
  (32, .getfield 199, 3, .null, [13, 90, 3], z_g0),
  (35, .iload 8, 2, .null, [], z_g0),
  (37, .laload, 1, .null, [], z_g0),
  (38, .aload_n 0, 1, .null, [], z_g0),
  (39, .getfield 202, 3, .null, [13, 91, 3], z_g0),
  (42, .iload 8, 2, .null, [], z_g0),
  (44, .laload, 1, .null, [], z_g0),
  (45, .lsub, 1, .null, [], z_g0),
  (46, .goto 4, 3, .null, [50], z_g0),
  (49, .lconst 0, 1, .long (0 : Int64), [], z_g0),
  (50, .ladd, 1, .null, [], z_g0),
  (51, .lstore 4, 2, .null, [], z_g0),
  (53, .lload 6, 2, .null, [], z_g0),
  (55, .aload_n 0, 1, .null, [], z_g0),
  (56, .getfield 193, 3, .null, [13, 88, 3], z_g0),
  (59, .iload 8, 2, .null, [], z_g0),
  (61, .iaload, 1, .null, [101], z_g0),
  (62, .iload_n 1, 1, .null, [], z_g0),
  (63, .if_icmp .ne 14, 3, .null, [77], z_g0),
  (66, .aload_n 0, 1, .null, [], z_g0),
  (67, .getfield 196, 3, .null, [13, 89, 3], z_g0),
  (70, .iload 8, 2, .null, [], z_g0),
  (72, .iaload, 1, .null, [101], z_g0),
  (73, .i2l, 1, .null, [], z_g0),
  (74, .goto 4, 3, .null, [78], z_g0),
  (77, .lconst 0, 1, .long (0 : Int64), [], z_g0),
  (78, .ladd, 1, .null, [], z_g0),
  (79, .lstore 6, 2, .null, [], z_g0),
  (81, .iinc 8 1, 3, .int (1 : Int32), [], z_g0),
  (84, .goto (-75), 3, .null, [9], z_g0),
  (87, .lload_n 2, 1, .null, [], z_g0),
  (88, .lstore 8, 2, .null, [], z_g0),
  (90, .iconst 0, 1, .int ((0 : Int32)), [], z_g0),
  (91, .istore 10, 2, .null, [], z_g0),
  (93, .iload 10, 2, .null, [], z_g0),
  (95, .aload_n 0, 1, .null, [], z_g0),
  (96, .getfield 608, 3, .null, [13, 87, 0], z_g0),
  (99, .if_icmp .ge 111, 3, .null, [210], z_g0),
  (102, .lload 4, 2, .null, [], z_g0),
  (104, .lload_n 2, 1, .null, [], z_g0),
  (105, .lcmp, 1, .null, [], z_g0),
  (106, .ifCond .le 104, 3, .null, [210], z_g0),
  (109, .aload_n 0, 1, .null, [], z_g0),
  (110, .getfield 193, 3, .null, [13, 88, 3], z_g0),
  (113, .iload 10, 2, .null, [], z_g0),
  (115, .iaload, 1, .null, [101], z_g0),
  (116, .iload_n 1, 1, .null, [], z_g0),
  (117, .if_icmp .ne 87, 3, .null, [204], z_g0),
  (120, .lload 6, 2, .null, [], z_g0),
  (122, .lconst 0, 1, .long (0 : Int64), [], z_g0),
  (123, .lcmp, 1, .null, [], z_g0),
  (124, .ifCond .le 80, 3, .null, [204], z_g0),
  (127, .lload_n 2, 1, .null, [], z_g0),
  (128, .aload_n 0, 1, .null, [], z_g0),
  (129, .getfield 196, 3, .null, [13, 89, 3], z_g0),
  (132, .iload 10, 2, .null, [], z_g0),
  (134, .iaload, 1, .null, [101], z_g0),
  (135, .i2l, 1, .null, [], z_g0),
  (136, .lmul, 1, .null, [], z_g0),
  (137, .lload 6, 2, .null, [], z_g0),
  (139, .ldiv, 1, .null, [], z_g0),
  (140, .lstore 11, 2, .null, [], z_g0),
  (142, .lload 11, 2, .null, [], z_g0),
  (144, .aload_n 0, 1, .null, [], z_g0),
  (145, .getfield 199, 3, .null, [13, 90, 3], z_g0),
  (148, .iload 10, 2, .null, [], z_g0),
  (150, .laload, 1, .null, [], z_g0),
  (151, .aload_n 0, 1, .null, [], z_g0),
  (152, .getfield 202, 3, .null, [13, 91, 3], z_g0),
  (155, .iload 10, 2, .null, [], z_g0),
  (157, .laload, 1, .null, [], z_g0),
  (158, .lsub, 1, .null, [], z_g0),
  (159, .lcmp, 1, .null, [], z_g0),
  (160, .ifCond .le 21, 3, .null, [181], z_g0),
  (163, .aload_n 0, 1, .null, [], z_g0),
  (164, .getfield 199, 3, .null, [13, 90, 3], z_g0),
  (167, .iload 10, 2, .null, [], z_g0),
  (169, .laload, 1, .null, [], z_g0),
  (170, .aload_n 0, 1, .null, [], z_g0),
  (171, .getfield 202, 3, .null, [13, 91, 3], z_g0),
  (174, .iload 10, 2, .null, [], z_g0),
  (176, .laload, 1, .null, [], z_g0),
  (177, .lsub, 1, .null, [], z_g0),
  (178, .goto 5, 3, .null, [183], z_g0),
  (181, .lload 11, 2, .null, [], z_g0),
  (183, .lstore 11, 2, .null, [], z_g0),
  (185, .aload_n 0, 1, .null, [], z_g0),
  (186, .getfield 202, 3, .null, [13, 91, 3], z_g0),
  (189, .iload 10, 2, .null, [], z_g0),
  (191, .dup2, 1, .null, [1], z_g0),
  (192, .laload, 1, .null, [], z_g0),
  (193, .lload 11, 2, .null, [], z_g0),
  (195, .ladd, 1, .null, [], z_g0),
  (196, .lastore, 1, .null, [], z_g0),
  (197, .lload 8, 2, .null, [], z_g0),
  (199, .lload 11, 2, .null, [], z_g0),
  (201, .lsub, 1, .null, [], z_g0),
  (202, .lstore 8, 2, .null, [], z_g0),
  (204, .iinc 10 1, 3, .int (1 : Int32), [], z_g0),
  (207, .goto (-114), 3, .null, [93], z_g0),
  (210, .iconst 0, 1, .int ((0 : Int32)), [], z_g0),
  (211, .istore 10, 2, .null, [], z_g0),
  (213, .iload 10, 2, .null, [], z_g0),
  (215, .aload_n 0, 1, .null, [], z_g0),
  (216, .getfield 608, 3, .null, [13, 87, 0], z_g0),
  (219, .if_icmp .ge 82, 3, .null, [301], z_g0),
  (222, .aload_n 0, 1, .null, [], z_g0),
  (223, .getfield 193, 3, .null, [13, 88, 3], z_g0),
  (226, .iload 10, 2, .null, [], z_g0),
  (228, .iaload, 1, .null, [101], z_g0),
  (229, .iload_n 1, 1, .null, [], z_g0),
  (230, .if_icmp .ne 65, 3, .null, [295], z_g0),
  (233, .aload_n 0, 1, .null, [], z_g0),
  (234, .getfield 199, 3, .null, [13, 90, 3], z_g0),
  (237, .iload 10, 2, .null, [], z_g0),
  (239, .laload, 1, .null, [], z_g0),
  (240, .aload_n 0, 1, .null, [], z_g0),
  (241, .getfield 202, 3, .null, [13, 91, 3], z_g0),
  (244, .iload 10, 2, .null, [], z_g0),
  (246, .laload, 1, .null, [], z_g0),
  (247, .lsub, 1, .null, [], z_g0),
  (248, .lload 8, 2, .null, [], z_g0),
  (250, .lcmp, 1, .null, [], z_g0),
  (251, .ifCond .ge 21, 3, .null, [272], z_g0),
  (254, .aload_n 0, 1, .null, [], z_g0),
  (255, .getfield 199, 3, .null, [13, 90, 3], z_g0),
  (258, .iload 10, 2, .null, [], z_g0),
  (260, .laload, 1, .null, [], z_g0),
  (261, .aload_n 0, 1, .null, [], z_g0),
  (262, .getfield 202, 3, .null, [13, 91, 3], z_g0),
  (265, .iload 10, 2, .null, [], z_g0),
  (267, .laload, 1, .null, [], z_g0),
  (268, .lsub, 1, .null, [], z_g0),
  (269, .goto 5, 3, .null, [274], z_g0),
  (272, .lload 8, 2, .null, [], z_g0),
  (274, .lstore 11, 2, .null, [], z_g0),
  (276, .aload_n 0, 1, .null, [], z_g0),
  (277, .getfield 202, 3, .null, [13, 91, 3], z_g0),
  (280, .iload 10, 2, .null, [], z_g0),
  (282, .dup2, 1, .null, [1], z_g0),
  (283, .laload, 1, .null, [], z_g0),
  (284, .lload 11, 2, .null, [], z_g0),
  (286, .ladd, 1, .null, [], z_g0),
  (287, .lastore, 1, .null, [], z_g0),
  (288, .lload 8, 2, .null, [], z_g0),
  (290, .lload 11, 2, .null, [], z_g0),
  (292, .lsub, 1, .null, [], z_g0),
  (293, .lstore 8, 2, .null, [], z_g0),
  (295, .iinc 10 1, 3, .int (1 : Int32), [], z_g0),
  (298, .goto (-85), 3, .null, [213], z_g0),
  (301, .lload 8, 2, .null, [], z_g0),
  (303, .lreturn, 1, .null, [], z_g0)]
def a_X12_partRank_9 {ρ : Type} (k : Nat → Int32 → Int64 → Int64 → Int64 → Int32 → z_St → Option ρ) (ls : z_Lv) (st : List Value) (S : z_St) : Option ρ := match z_lk ls 0, z_lk ls 1, z_lk ls 2, z_lk ls 4, z_lk ls 6, z_lk ls 8, st with
  | .ref v0, .int v1, .long v2, .long v4, .long v6, .int v8, [] => k v0 v1 v2 v4 v6 v8 S
  | _, _, _, _, _, _, _ => none
def a_X12_partRank_50 {ρ : Type} (k : Nat → Int32 → Int64 → Int64 → Int32 → Int64 → Int64 → z_St → Option ρ) (ls : z_Lv) (st : List Value) (S : z_St) : Option ρ := match z_lk ls 0, z_lk ls 1, z_lk ls 2, z_lk ls 6, z_lk ls 8, st with
  | .ref v0, .int v1, .long v2, .long v6, .int v8, [.long t1, .long t0] => k v0 v1 v2 v6 v8 t0 t1 S
  | _, _, _, _, _, _ => none
def a_X12_partRank_93 {ρ : Type} (k : Nat → Int32 → Int64 → Int64 → Int64 → Int64 → Int32 → z_St → Option ρ) (ls : z_Lv) (st : List Value) (S : z_St) : Option ρ := match z_lk ls 0, z_lk ls 1, z_lk ls 2, z_lk ls 4, z_lk ls 6, z_lk ls 8, z_lk ls 10, st with
  | .ref v0, .int v1, .long v2, .long v4, .long v6, .long v8, .int v10, [] => k v0 v1 v2 v4 v6 v8 v10 S
  | _, _, _, _, _, _, _, _ => none
def a_X12_partRank_183 {ρ : Type} (k : Nat → Int32 → Int64 → Int64 → Int64 → Int64 → Int32 → Int64 → z_St → Option ρ) (ls : z_Lv) (st : List Value) (S : z_St) : Option ρ := match z_lk ls 0, z_lk ls 1, z_lk ls 2, z_lk ls 4, z_lk ls 6, z_lk ls 8, z_lk ls 10, st with
  | .ref v0, .int v1, .long v2, .long v4, .long v6, .long v8, .int v10, [.long t0] => k v0 v1 v2 v4 v6 v8 v10 t0 S
  | _, _, _, _, _, _, _, _ => none
def a_X12_partRank_213 {ρ : Type} (k : Nat → Int32 → Int64 → Int32 → z_St → Option ρ) (ls : z_Lv) (st : List Value) (S : z_St) : Option ρ := match z_lk ls 0, z_lk ls 1, z_lk ls 8, z_lk ls 10, st with
  | .ref v0, .int v1, .long v8, .int v10, [] => k v0 v1 v8 v10 S
  | _, _, _, _, _ => none
def a_X12_partRank_274 {ρ : Type} (k : Nat → Int32 → Int64 → Int32 → Int64 → z_St → Option ρ) (ls : z_Lv) (st : List Value) (S : z_St) : Option ρ := match z_lk ls 0, z_lk ls 1, z_lk ls 8, z_lk ls 10, st with
  | .ref v0, .int v1, .long v8, .int v10, [.long t0] => k v0 v1 v8 v10 t0 S
  | _, _, _, _, _ => none
set_option maxRecDepth 100000 in
theorem r_X12_partRank_274 (k_213 : Nat → Int32 → Int64 → Int32 → z_St → Option (Int64 × z_St)) (v0 : Nat) (v1 : Int32) (v8 : Int64) (v10 : Int32) (t0 : Int64) (S : z_St) : z_seg z_rL (c_X12_partRank) [9, 50, 93, 183, 213, 274] (fun pc => cond (Nat.beq pc 213) (a_X12_partRank_213 k_213) (fun _ _ _ => none)) 173 (z_to 274 (c_X12_partRank)) [(0, .ref v0), (1, .int v1), (8, .long v8), (10, .int v10)] [.long t0] S = j_X12_partRank_274 k_213 v0 v1 v8 v10 t0 S := rfl
set_option maxRecDepth 100000 in
theorem r_X12_partRank_213 (n : Nat) (v0 : Nat) (v1 : Int32) (v8 : Int64) (v10 : Int32) (S : z_St) : z_seg z_rL (c_X12_partRank) [9, 50, 93, 183, 213, 274] (fun pc => cond (Nat.beq pc 213) (a_X12_partRank_213 (l_X12_partRank_213 n)) (cond (Nat.beq pc 274) (a_X12_partRank_274 (j_X12_partRank_274 (l_X12_partRank_213 n))) (fun _ _ _ => none))) 173 (z_to 213 (c_X12_partRank)) [(0, .ref v0), (1, .int v1), (8, .long v8), (10, .int v10)] [] S = l_X12_partRank_213 (n + 1) v0 v1 v8 v10 S := rfl
set_option maxRecDepth 100000 in
theorem r_X12_partRank_183 (k_93 : Nat → Int32 → Int64 → Int64 → Int64 → Int64 → Int32 → z_St → Option (Int64 × z_St)) (v0 : Nat) (v1 : Int32) (v2 : Int64) (v4 : Int64) (v6 : Int64) (v8 : Int64) (v10 : Int32) (t0 : Int64) (S : z_St) : z_seg z_rL (c_X12_partRank) [9, 50, 93, 183, 213, 274] (fun pc => cond (Nat.beq pc 93) (a_X12_partRank_93 k_93) (fun _ _ _ => none)) 173 (z_to 183 (c_X12_partRank)) [(0, .ref v0), (1, .int v1), (2, .long v2), (4, .long v4), (6, .long v6), (8, .long v8), (10, .int v10)] [.long t0] S = j_X12_partRank_183 k_93 v0 v1 v2 v4 v6 v8 v10 t0 S := rfl
set_option maxRecDepth 100000 in
theorem r_X12_partRank_93 (n : Nat) (v0 : Nat) (v1 : Int32) (v2 : Int64) (v4 : Int64) (v6 : Int64) (v8 : Int64) (v10 : Int32) (S : z_St) : z_seg z_rL (c_X12_partRank) [9, 50, 93, 183, 213, 274] (fun pc => cond (Nat.beq pc 93) (a_X12_partRank_93 (l_X12_partRank_93 n)) (cond (Nat.beq pc 183) (a_X12_partRank_183 (j_X12_partRank_183 (l_X12_partRank_93 n))) (cond (Nat.beq pc 213) (a_X12_partRank_213 (l_X12_partRank_213 z_N)) (fun _ _ _ => none)))) 173 (z_to 93 (c_X12_partRank)) [(0, .ref v0), (1, .int v1), (2, .long v2), (4, .long v4), (6, .long v6), (8, .long v8), (10, .int v10)] [] S = l_X12_partRank_93 (n + 1) v0 v1 v2 v4 v6 v8 v10 S := rfl
set_option maxRecDepth 100000 in
theorem r_X12_partRank_50 (k_9 : Nat → Int32 → Int64 → Int64 → Int64 → Int32 → z_St → Option (Int64 × z_St)) (v0 : Nat) (v1 : Int32) (v2 : Int64) (v6 : Int64) (v8 : Int32) (t0 : Int64) (t1 : Int64) (S : z_St) : z_seg z_rL (c_X12_partRank) [9, 50, 93, 183, 213, 274] (fun pc => cond (Nat.beq pc 9) (a_X12_partRank_9 k_9) (fun _ _ _ => none)) 173 (z_to 50 (c_X12_partRank)) [(0, .ref v0), (1, .int v1), (2, .long v2), (6, .long v6), (8, .int v8)] [.long t1, .long t0] S = j_X12_partRank_50 k_9 v0 v1 v2 v6 v8 t0 t1 S := rfl
set_option maxRecDepth 100000 in
theorem r_X12_partRank_9 (n : Nat) (v0 : Nat) (v1 : Int32) (v2 : Int64) (v4 : Int64) (v6 : Int64) (v8 : Int32) (S : z_St) : z_seg z_rL (c_X12_partRank) [9, 50, 93, 183, 213, 274] (fun pc => cond (Nat.beq pc 50) (a_X12_partRank_50 (j_X12_partRank_50 (l_X12_partRank_9 n))) (cond (Nat.beq pc 93) (a_X12_partRank_93 (l_X12_partRank_93 z_N)) (fun _ _ _ => none))) 173 (z_to 9 (c_X12_partRank)) [(0, .ref v0), (1, .int v1), (2, .long v2), (4, .long v4), (6, .long v6), (8, .int v8)] [] S = l_X12_partRank_9 (n + 1) v0 v1 v2 v4 v6 v8 S := rfl
set_option maxRecDepth 100000 in
theorem r_X12_partRank (v0 : Nat) (v1 : Int32) (v2 : Int64) (S : z_St) : z_seg z_rL (c_X12_partRank) [9, 50, 93, 183, 213, 274] (fun pc => cond (Nat.beq pc 9) (a_X12_partRank_9 (l_X12_partRank_9 z_N)) (fun _ _ _ => none)) 173 (c_X12_partRank) [(0, .ref v0), (1, .int v1), (2, .long v2)] [] S = b_X12_partRank v0 v1 v2 S := rfl
def l_X12_part_25 : Nat → Nat → Int64 → Int64 → Int32 → z_St → Option (Int64 × z_St)
  | 0 => fun _ _ _ _ _ => none
  | n + 1 => fun (v0 : Nat) (v1 : Int64) (v3 : Int64) (v5 : Int32) (S : z_St) =>
if ((100 : Int32)) ≤ v5 then
(some (v1 - v3, S))
else
(z_chk S v0 13 (
(f_X12_partRank v0 v5 v3 S).bind fun q3 =>
let x4 := v5 + (1 : Int32)
l_X12_part_25 n v0 v1 q3.1 x4 q3.2))
def b_X12_part (v0 : Nat) (v1 : Int64) (S : z_St) : Option (Int64 × z_St) :=
z_chk S v0 13 (
let S1 := z_wi S v0 0 ((0 : Int32))
(f_X12_in v1 ((0 : Int64)) ((1000000000000000 : Int64)) S1).bind fun q2 =>
if q2.1 = 0 then
(some ((-2000000002 : Int64), q2.2))
else
(l_X12_part_25 z_N v0 v1 v1 ((0 : Int32)) q2.2))
def f_X12_part : Nat → Int64 → z_St → Option (Int64 × z_St) := z_op (b_X12_part)
theorem e_X12_part (v0 : Nat) (v1 : Int64) (S : z_St) : f_X12_part v0 v1 S = b_X12_part v0 v1 S := congrFun (congrFun (congrFun (z_op_eq (b_X12_part)) v0) v1) S
def g_X12_part : z_G := .inr (.inl (fun as S => match as with
  | [.ref v0, .long v1] => f_X12_part v0 v1 S
  | _ => none))
def c_X12_part : List z_E := [
  (0, .aload_n 0, 1, .null, [], z_g0),
  (1, .iconst 0, 1, .int ((0 : Int32)), [], z_g0),
  (2, .putfield 224, 3, .null, [13, 0, 0], z_g0),
  (5, .lload_n 1, 1, .null, [], z_g0),
  (6, .lconst 0, 1, .long (0 : Int64), [], z_g0),
  (7, .ldc2_w 494, 3, .long (1000000000000000 : Int64), [], z_g0),
  (10, .invokestatic 274, 3, .null, [0, 0, 0, 0], g_X12_in),
  (13, .ifCond .ne 7, 3, .null, [20], z_g0),
  (16, .ldc2_w 398, 3, .long (-2000000002 : Int64), [], z_g0),
  (19, .lreturn, 1, .null, [], z_g0),
  (20, .lload_n 1, 1, .null, [], z_g0),
  (21, .lstore_n 3, 1, .null, [], z_g0),
  (22, .iconst 0, 1, .int ((0 : Int32)), [], z_g0),
  (23, .istore 5, 2, .null, [], z_g0),
  (25, .iload 5, 2, .null, [], z_g0),
  (27, .bipush 100, 2, .int ((100 : Int32)), [], z_g0),
  (29, .if_icmp .ge 17, 3, .null, [46], z_g0),
  (32, .aload_n 0, 1, .null, [], z_g0),
  (33, .iload 5, 2, .null, [], z_g0),
  (35, .lload_n 3, 1, .null, [], z_g0),
  (36, .invokevirtual 622, 3, .null, [1, 13, 0, 0], g_X12_partRank),
  (39, .lstore_n 3, 1, .null, [], z_g0),
  (40, .iinc 5 1, 3, .int (1 : Int32), [], z_g0),
  (43, .goto (-18), 3, .null, [25], z_g0),
  (46, .lload_n 1, 1, .null, [], z_g0),
  (47, .lload_n 3, 1, .null, [], z_g0),
  (48, .lsub, 1, .null, [], z_g0),
  (49, .lreturn, 1, .null, [], z_g0)]
def a_X12_part_25 {ρ : Type} (k : Nat → Int64 → Int64 → Int32 → z_St → Option ρ) (ls : z_Lv) (st : List Value) (S : z_St) : Option ρ := match z_lk ls 0, z_lk ls 1, z_lk ls 3, z_lk ls 5, st with
  | .ref v0, .long v1, .long v3, .int v5, [] => k v0 v1 v3 v5 S
  | _, _, _, _, _ => none
set_option maxRecDepth 100000 in
theorem r_X12_part_25 (n : Nat) (v0 : Nat) (v1 : Int64) (v3 : Int64) (v5 : Int32) (S : z_St) : z_seg z_rL (c_X12_part) [25] (fun pc => cond (Nat.beq pc 25) (a_X12_part_25 (l_X12_part_25 n)) (fun _ _ _ => none)) 31 (z_to 25 (c_X12_part)) [(0, .ref v0), (1, .long v1), (3, .long v3), (5, .int v5)] [] S = l_X12_part_25 (n + 1) v0 v1 v3 v5 S := rfl
set_option maxRecDepth 100000 in
theorem r_X12_part (v0 : Nat) (v1 : Int64) (S : z_St) : z_seg z_rL (c_X12_part) [25] (fun pc => cond (Nat.beq pc 25) (a_X12_part_25 (l_X12_part_25 z_N)) (fun _ _ _ => none)) 31 (c_X12_part) [(0, .ref v0), (1, .long v1)] [] S = b_X12_part v0 v1 S := rfl
def b_X12_has_ (v0 : Nat) (v1 : Int32) (S : z_St) : Option (Int64 × z_St) :=
z_chk S v0 13 (
let S1 := z_wi S v0 0 ((0 : Int32))
z_chk S1 v0 13 (
(f_X12_in v1.toInt64 ((0 : Int64)) ((((z_i S1 v0 87)) - ((1 : Int32))).toInt64) S1).bind fun q2 =>
if q2.1 = 0 then
(some ((-2000000001 : Int64), q2.2))
else
(z_chk q2.2 v0 13 (
z_onV (va_rf (z_r q2.2 v0 91)) fun b3 =>
z_inb q2.2 b3 102 v1 (
some ((z_l q2.2 b3 v1.toNatClampNeg), q2.2))))))
def f_X12_has_ : Nat → Int32 → z_St → Option (Int64 × z_St) := z_op (b_X12_has_)
theorem e_X12_has_ (v0 : Nat) (v1 : Int32) (S : z_St) : f_X12_has_ v0 v1 S = b_X12_has_ v0 v1 S := congrFun (congrFun (congrFun (z_op_eq (b_X12_has_)) v0) v1) S
def g_X12_has_ : z_G := .inr (.inl (fun as S => match as with
  | [.ref v0, .int v1] => f_X12_has_ v0 v1 S
  | _ => none))
def c_X12_has_ : List z_E := [
  (0, .aload_n 0, 1, .null, [], z_g0),
  (1, .iconst 0, 1, .int ((0 : Int32)), [], z_g0),
  (2, .putfield 224, 3, .null, [13, 0, 0], z_g0),
  (5, .iload_n 1, 1, .null, [], z_g0),
  (6, .i2l, 1, .null, [], z_g0),
  (7, .lconst 0, 1, .long (0 : Int64), [], z_g0),
  (8, .aload_n 0, 1, .null, [], z_g0),
  (9, .getfield 608, 3, .null, [13, 87, 0], z_g0),
  (12, .iconst 1, 1, .int ((1 : Int32)), [], z_g0),
  (13, .isub, 1, .null, [], z_g0),
  (14, .i2l, 1, .null, [], z_g0),
  (15, .invokestatic 274, 3, .null, [0, 0, 0, 0], g_X12_in),
  (18, .ifCond .eq 12, 3, .null, [30], z_g0),
  (21, .aload_n 0, 1, .null, [], z_g0),
  (22, .getfield 202, 3, .null, [13, 91, 3], z_g0),
  (25, .iload_n 1, 1, .null, [], z_g0),
  (26, .laload, 1, .null, [], z_g0),
  (27, .goto 6, 3, .null, [33], z_g0),
  (30, .ldc2_w 319, 3, .long (-2000000001 : Int64), [], z_g0),
  (33, .lreturn, 1, .null, [], z_g0)]
set_option maxRecDepth 100000 in
theorem r_X12_has_ (v0 : Nat) (v1 : Int32) (S : z_St) : z_seg z_rL (c_X12_has_) [] (fun pc => fun _ _ _ => none) 23 (c_X12_has_) [(0, .ref v0), (1, .int v1)] [] S = b_X12_has_ v0 v1 S := rfl
def l_X12_close_9 : Nat → Nat → Int64 → Int32 → z_St → Option (Int64 × z_St)
  | 0 => fun _ _ _ _ => none
  | n + 1 => fun (v0 : Nat) (v1 : Int64) (v3 : Int32) (S : z_St) =>
z_chk S v0 13 (
if ((z_i S v0 87)) ≤ v3 then
(some (v1, S))
else
(z_chk S v0 13 (
z_onV (va_rf (z_r S v0 91)) fun b2 =>
z_inb S b2 102 v3 (
let x3 := v1 + ((z_l S b2 v3.toNatClampNeg))
z_chk S v0 13 (
z_onV (va_rf (z_r S v0 91)) fun b4 =>
z_inb S b4 102 v3 (
let S5 := z_wl S b4 v3.toNatClampNeg ((0 : Int64))
let x6 := v3 + (1 : Int32)
l_X12_close_9 n v0 x3 x6 S5))))))
def b_X12_close (v0 : Nat) (S : z_St) : Option (Int64 × z_St) :=
z_chk S v0 13 (
let S1 := z_wi S v0 0 ((0 : Int32))
l_X12_close_9 z_N v0 ((0 : Int64)) ((0 : Int32)) S1)
def f_X12_close : Nat → z_St → Option (Int64 × z_St) := z_op (b_X12_close)
theorem e_X12_close (v0 : Nat) (S : z_St) : f_X12_close v0 S = b_X12_close v0 S := congrFun (congrFun (z_op_eq (b_X12_close)) v0) S
def g_X12_close : z_G := .inr (.inl (fun as S => match as with
  | [.ref v0] => f_X12_close v0 S
  | _ => none))
def c_X12_close : List z_E := [
  (0, .aload_n 0, 1, .null, [], z_g0),
  (1, .iconst 0, 1, .int ((0 : Int32)), [], z_g0),
  (2, .putfield 224, 3, .null, [13, 0, 0], z_g0),
  (5, .lconst 0, 1, .long (0 : Int64), [], z_g0),
  (6, .lstore_n 1, 1, .null, [], z_g0),
  (7, .iconst 0, 1, .int ((0 : Int32)), [], z_g0),
  (8, .istore_n 3, 1, .null, [], z_g0),
  (9, .iload_n 3, 1, .null, [], z_g0),
  (10, .aload_n 0, 1, .null, [], z_g0),
  (11, .getfield 608, 3, .null, [13, 87, 0], z_g0),
  (14, .if_icmp .ge 25, 3, .null, [39], z_g0),
  (17, .lload_n 1, 1, .null, [], z_g0),
  (18, .aload_n 0, 1, .null, [], z_g0),
  (19, .getfield 202, 3, .null, [13, 91, 3], z_g0),
  (22, .iload_n 3, 1, .null, [], z_g0),
  (23, .laload, 1, .null, [], z_g0),
  (24, .ladd, 1, .null, [], z_g0),
  (25, .lstore_n 1, 1, .null, [], z_g0),
  (26, .aload_n 0, 1, .null, [], z_g0),
  (27, .getfield 202, 3, .null, [13, 91, 3], z_g0),
  (30, .iload_n 3, 1, .null, [], z_g0),
  (31, .lconst 0, 1, .long (0 : Int64), [], z_g0),
  (32, .lastore, 1, .null, [], z_g0),
  (33, .iinc 3 1, 3, .int (1 : Int32), [], z_g0),
  (36, .goto (-27), 3, .null, [9], z_g0),
  (39, .lload_n 1, 1, .null, [], z_g0),
  (40, .lreturn, 1, .null, [], z_g0)]
def a_X12_close_9 {ρ : Type} (k : Nat → Int64 → Int32 → z_St → Option ρ) (ls : z_Lv) (st : List Value) (S : z_St) : Option ρ := match z_lk ls 0, z_lk ls 1, z_lk ls 3, st with
  | .ref v0, .long v1, .int v3, [] => k v0 v1 v3 S
  | _, _, _, _ => none
set_option maxRecDepth 100000 in
theorem r_X12_close_9 (n : Nat) (v0 : Nat) (v1 : Int64) (v3 : Int32) (S : z_St) : z_seg z_rL (c_X12_close) [9] (fun pc => cond (Nat.beq pc 9) (a_X12_close_9 (l_X12_close_9 n)) (fun _ _ _ => none)) 30 (z_to 9 (c_X12_close)) [(0, .ref v0), (1, .long v1), (3, .int v3)] [] S = l_X12_close_9 (n + 1) v0 v1 v3 S := rfl
set_option maxRecDepth 100000 in
theorem r_X12_close (v0 : Nat) (S : z_St) : z_seg z_rL (c_X12_close) [9] (fun pc => cond (Nat.beq pc 9) (a_X12_close_9 (l_X12_close_9 z_N)) (fun _ _ _ => none)) 30 (c_X12_close) [(0, .ref v0)] [] S = b_X12_close v0 S := rfl
def b_X12_hours (v0 : Nat) (v1 : Int32) (S : z_St) : Option (Int32 × z_St) :=
z_chk S v0 13 (
let S1 := z_wi S v0 0 ((0 : Int32))
(f_X12_in v1.toInt64 ((1 : Int64)) ((12 : Int64)) S1).bind fun q2 =>
if q2.1 = 0 then
(some ((-2000000002 : Int32), q2.2))
else
(z_chk q2.2 v0 13 (
let x3 := (z_i q2.2 v0 92)
z_chk q2.2 v0 13 (
let S4 := z_wi q2.2 v0 92 v1
some (x3, S4)))))
def f_X12_hours : Nat → Int32 → z_St → Option (Int32 × z_St) := z_op (b_X12_hours)
theorem e_X12_hours (v0 : Nat) (v1 : Int32) (S : z_St) : f_X12_hours v0 v1 S = b_X12_hours v0 v1 S := congrFun (congrFun (congrFun (z_op_eq (b_X12_hours)) v0) v1) S
def g_X12_hours : z_G := .inl (fun as S => match as with
  | [.ref v0, .int v1] => f_X12_hours v0 v1 S
  | _ => none)
def c_X12_hours : List z_E := [
  (0, .aload_n 0, 1, .null, [], z_g0),
  (1, .iconst 0, 1, .int ((0 : Int32)), [], z_g0),
  (2, .putfield 224, 3, .null, [13, 0, 0], z_g0),
  (5, .iload_n 1, 1, .null, [], z_g0),
  (6, .i2l, 1, .null, [], z_g0),
  (7, .lconst 1, 1, .long (1 : Int64), [], z_g0),
  (8, .ldc2_w 625, 3, .long (12 : Int64), [], z_g0),
  (11, .invokestatic 274, 3, .null, [0, 0, 0, 0], g_X12_in),
  (14, .ifCond .ne 7, 3, .null, [21], z_g0),
  (17, .ldc_w 280, 3, .int (-2000000002 : Int32), [], z_g0),
  (20, .ireturn, 1, .null, [], z_g0),
  (21, .aload_n 0, 1, .null, [], z_g0),
  (22, .getfield 205, 3, .null, [13, 92, 0], z_g0),
  (25, .istore_n 2, 1, .null, [], z_g0),
  (26, .aload_n 0, 1, .null, [], z_g0),
  (27, .iload_n 1, 1, .null, [], z_g0),
  (28, .putfield 205, 3, .null, [13, 92, 0], z_g0),
  (31, .iload_n 2, 1, .null, [], z_g0),
  (32, .ireturn, 1, .null, [], z_g0)]
set_option maxRecDepth 100000 in
theorem r_X12_hours (v0 : Nat) (v1 : Int32) (S : z_St) : z_seg z_rI (c_X12_hours) [] (fun pc => fun _ _ _ => none) 22 (c_X12_hours) [(0, .ref v0), (1, .int v1)] [] S = b_X12_hours v0 v1 S := rfl
def b_X12_isFlow (v0 : UInt64) (S : z_St) : Option (Int32 × z_St) :=
if (Op.cmpValue (FP.dcmp v0 FP.dconst0) .l) < 0 then
(z_rb ((0 : Int32)) S)
else
(if 0 < (Op.cmpValue (FP.dcmp v0 ((4696837146684686336 : UInt64))) .g) then
(z_rb ((0 : Int32)) S)
else
(z_rb ((1 : Int32)) S))
def f_X12_isFlow : UInt64 → z_St → Option (Int32 × z_St) := z_op (b_X12_isFlow)
theorem e_X12_isFlow (v0 : UInt64) (S : z_St) : f_X12_isFlow v0 S = b_X12_isFlow v0 S := congrFun (congrFun (z_op_eq (b_X12_isFlow)) v0) S
def g_X12_isFlow : z_G := .inl (fun as S => match as with
  | [.double v0] => f_X12_isFlow v0 S
  | _ => none)
def c_X12_isFlow : List z_E := [
  (0, .dload_n 0, 1, .null, [], z_g0),
  (1, .dconst 0, 1, .double FP.dconst0, [], z_g0),
  (2, .dcmp .l, 1, .null, [], z_g0),
  (3, .ifCond .lt 15, 3, .null, [18], z_g0),
  (6, .dload_n 0, 1, .null, [], z_g0),
  (7, .ldc2_w 578, 3, .double (4696837146684686336 : UInt64), [], z_g0),
  (10, .dcmp .g, 1, .null, [], z_g0),
  (11, .ifCond .gt 7, 3, .null, [18], z_g0),
  (14, .iconst 1, 1, .int ((1 : Int32)), [], z_g0),
  (15, .goto 4, 3, .null, [19], z_g0),
  (18, .iconst 0, 1, .int ((0 : Int32)), [], z_g0),
  (19, .ireturn, 1, .null, [], z_g0)]
set_option maxRecDepth 100000 in
theorem r_X12_isFlow (v0 : UInt64) (S : z_St) : z_seg z_rZ (c_X12_isFlow) [] (fun pc => fun _ _ _ => none) 15 (c_X12_isFlow) [(0, .double v0)] [] S = b_X12_isFlow v0 S := rfl
def j_X12_ahead_82 (v0 : Nat) (v1 : Int32) (v2 : Int32) (v5 : UInt64) (t0 : Nat) (t1 : Int32) (t2 : Int32) (S : z_St) : Option (Int32 × z_St) :=
z_inb S t0 104 t1 (
let S8 := z_wi S t0 t1.toNatClampNeg (vp_nar .boolean t2)
z_chk S8 v0 13 (
z_onV (va_rf (z_r S8 v0 94)) fun b9 =>
z_inb S8 b9 103 ((((12 : Int32)) * v1) + v2) (
let S10 := z_wd S8 b9 ((((12 : Int32)) * v1) + v2).toNatClampNeg v5
some ((1 : Int32), S10))))
def j_X12_ahead_59 (v0 : Nat) (v1 : Int32) (v2 : Int32) (v5 : UInt64) (S : z_St) : Option (Int32 × z_St) :=
z_chk S v0 13 (
if (Op.cmpValue (FP.dcmp v5 v5) .l) = 0 then
(z_onV (va_rf (z_r S v0 93)) fun b7 =>
j_X12_ahead_82 v0 v1 v2 v5 b7 ((((12 : Int32)) * v1) + v2) ((1 : Int32)) S)
else
(z_onV (va_rf (z_r S v0 93)) fun b6 =>
j_X12_ahead_82 v0 v1 v2 v5 b6 ((((12 : Int32)) * v1) + v2) ((0 : Int32)) S))
def b_X12_ahead (v0 : Nat) (v1 : Int32) (v2 : Int32) (v3 : Int64) (S : z_St) : Option (Int32 × z_St) :=
z_chk S v0 13 (
let S1 := z_wi S v0 0 ((0 : Int32))
(f_X12_in v1.toInt64 ((0 : Int64)) ((5 : Int64)) S1).bind fun q2 =>
if q2.1 = 0 then
(some ((-2000000001 : Int32), q2.2))
else
((f_X12_realOf v3 q2.2).bind fun q3 =>
(f_X12_in v2.toInt64 ((0 : Int64)) ((11 : Int64)) q3.2).bind fun q4 =>
if q4.1 = 0 then
(some ((-2000000002 : Int32), q4.2))
else
(if (Op.cmpValue (FP.dcmp q3.1 q3.1) .l) = 0 then
((f_X12_isFlow q3.1 q4.2).bind fun q5 =>
if q5.1 = 0 then
(some ((-2000000002 : Int32), q5.2))
else
(j_X12_ahead_59 v0 v1 v2 q3.1 q5.2))
else
(j_X12_ahead_59 v0 v1 v2 q3.1 q4.2))))
def f_X12_ahead : Nat → Int32 → Int32 → Int64 → z_St → Option (Int32 × z_St) := z_op (b_X12_ahead)
theorem e_X12_ahead (v0 : Nat) (v1 : Int32) (v2 : Int32) (v3 : Int64) (S : z_St) : f_X12_ahead v0 v1 v2 v3 S = b_X12_ahead v0 v1 v2 v3 S := congrFun (congrFun (congrFun (congrFun (congrFun (z_op_eq (b_X12_ahead)) v0) v1) v2) v3) S
def g_X12_ahead : z_G := .inl (fun as S => match as with
  | [.ref v0, .int v1, .int v2, .long v3] => f_X12_ahead v0 v1 v2 v3 S
  | _ => none)
def c_X12_ahead : List z_E := [
  (0, .aload_n 0, 1, .null, [], z_g0),
  (1, .iconst 0, 1, .int ((0 : Int32)), [], z_g0),
  (2, .putfield 224, 3, .null, [13, 0, 0], z_g0),
  (5, .iload_n 1, 1, .null, [], z_g0),
  (6, .i2l, 1, .null, [], z_g0),
  (7, .lconst 0, 1, .long (0 : Int64), [], z_g0),
  (8, .ldc2_w 334, 3, .long (5 : Int64), [], z_g0),
  (11, .invokestatic 274, 3, .null, [0, 0, 0, 0], g_X12_in),
  (14, .ifCond .ne 7, 3, .null, [21], z_g0),
  (17, .ldc_w 296, 3, .int (-2000000001 : Int32), [], z_g0),
  (20, .ireturn, 1, .null, [], z_g0),
  (21, .lload_n 3, 1, .null, [], z_g0),
  (22, .invokestatic 262, 3, .null, [0, 0], g_X12_realOf),
  (25, .dstore 5, 2, .null, [], z_g0),
  (27, .iload_n 2, 1, .null, [], z_g0),
  (28, .i2l, 1, .null, [], z_g0),
  (29, .lconst 0, 1, .long (0 : Int64), [], z_g0),
  (30, .ldc2_w 425, 3, .long (11 : Int64), [], z_g0),
  (33, .invokestatic 274, 3, .null, [0, 0, 0, 0], g_X12_in),
  (36, .ifCond .eq 19, 3, .null, [55], z_g0),
  (39, .dload 5, 2, .null, [], z_g0),
  (41, .dload 5, 2, .null, [], z_g0),
  (43, .dcmp .l, 1, .null, [], z_g0),
  (44, .ifCond .ne 15, 3, .null, [59], z_g0),
  (47, .dload 5, 2, .null, [], z_g0),
  (49, .invokestatic 627, 3, .null, [0, 0], g_X12_isFlow),
  (52, .ifCond .ne 7, 3, .null, [59], z_g0),
  (55, .ldc_w 280, 3, .int (-2000000002 : Int32), [], z_g0),
  (58, .ireturn, 1, .null, [], z_g0),
  (59, .aload_n 0, 1, .null, [], z_g0),
  (60, .getfield 209, 3, .null, [13, 93, 3], z_g0),
  (63, .bipush 12, 2, .int ((12 : Int32)), [], z_g0),
  (65, .iload_n 1, 1, .null, [], z_g0),
  (66, .imul, 1, .null, [], z_g0),
  (67, .iload_n 2, 1, .null, [], z_g0),
  (68, .iadd, 1, .null, [], z_g0),
  (69, .dload 5, 2, .null, [], z_g0),
  (71, .dload 5, 2, .null, [], z_g0),
  (73, .dcmp .l, 1, .null, [], z_g0),
  (74, .ifCond .ne 7, 3, .null, [81], z_g0),
  (77, .iconst 1, 1, .int ((1 : Int32)), [], z_g0),
  (78, .goto 4, 3, .null, [82], z_g0),
  (81, .iconst 0, 1, .int ((0 : Int32)), [], z_g0),
  (82, .bastore, 1, .null, [104], z_g0),
  (83, .aload_n 0, 1, .null, [], z_g0),
  (84, .getfield 212, 3, .null, [13, 94, 3], z_g0),
  (87, .bipush 12, 2, .int ((12 : Int32)), [], z_g0),
  (89, .iload_n 1, 1, .null, [], z_g0),
  (90, .imul, 1, .null, [], z_g0),
  (91, .iload_n 2, 1, .null, [], z_g0),
  (92, .iadd, 1, .null, [], z_g0),
  (93, .dload 5, 2, .null, [], z_g0),
  (95, .dastore, 1, .null, [], z_g0),
  (96, .iconst 1, 1, .int ((1 : Int32)), [], z_g0),
  (97, .ireturn, 1, .null, [], z_g0)]
def a_X12_ahead_59 {ρ : Type} (k : Nat → Int32 → Int32 → UInt64 → z_St → Option ρ) (ls : z_Lv) (st : List Value) (S : z_St) : Option ρ := match z_lk ls 0, z_lk ls 1, z_lk ls 2, z_lk ls 5, st with
  | .ref v0, .int v1, .int v2, .double v5, [] => k v0 v1 v2 v5 S
  | _, _, _, _, _ => none
def a_X12_ahead_82 {ρ : Type} (k : Nat → Int32 → Int32 → UInt64 → Nat → Int32 → Int32 → z_St → Option ρ) (ls : z_Lv) (st : List Value) (S : z_St) : Option ρ := match z_lk ls 0, z_lk ls 1, z_lk ls 2, z_lk ls 5, st with
  | .ref v0, .int v1, .int v2, .double v5, [.int t2, .int t1, w0] => z_onV w0 fun t0 => k v0 v1 v2 v5 t0 t1 t2 S
  | _, _, _, _, _ => none
set_option maxRecDepth 100000 in
theorem r_X12_ahead_82 (v0 : Nat) (v1 : Int32) (v2 : Int32) (v5 : UInt64) (t0 : Nat) (t1 : Int32) (t2 : Int32) (S : z_St) : z_seg z_rI (c_X12_ahead) [59, 82] (fun pc => fun _ _ _ => none) 58 (z_to 82 (c_X12_ahead)) [(0, .ref v0), (1, .int v1), (2, .int v2), (5, .double v5)] [.int t2, .int t1, .ref t0] S = j_X12_ahead_82 v0 v1 v2 v5 t0 t1 t2 S := rfl
set_option maxRecDepth 100000 in
theorem r_X12_ahead_59 (v0 : Nat) (v1 : Int32) (v2 : Int32) (v5 : UInt64) (S : z_St) : z_seg z_rI (c_X12_ahead) [59, 82] (fun pc => cond (Nat.beq pc 82) (a_X12_ahead_82 (j_X12_ahead_82)) (fun _ _ _ => none)) 58 (z_to 59 (c_X12_ahead)) [(0, .ref v0), (1, .int v1), (2, .int v2), (5, .double v5)] [] S = j_X12_ahead_59 v0 v1 v2 v5 S := rfl
set_option maxRecDepth 100000 in
theorem r_X12_ahead (v0 : Nat) (v1 : Int32) (v2 : Int32) (v3 : Int64) (S : z_St) : z_seg z_rI (c_X12_ahead) [59, 82] (fun pc => cond (Nat.beq pc 59) (a_X12_ahead_59 (j_X12_ahead_59)) (fun _ _ _ => none)) 58 (c_X12_ahead) [(0, .ref v0), (1, .int v1), (2, .int v2), (3, .long v3)] [] S = b_X12_ahead v0 v1 v2 v3 S := rfl
def j_X12_release_65 (v0 : Nat) (v1 : Int32) (v4 : UInt64) (t0 : Nat) (t1 : Int32) (t2 : Int32) (S : z_St) : Option (Int32 × z_St) :=
z_inb S t0 104 t1 (
let S7 := z_wi S t0 t1.toNatClampNeg (vp_nar .boolean t2)
z_chk S7 v0 13 (
z_onV (va_rf (z_r S7 v0 96)) fun b8 =>
z_inb S7 b8 103 v1 (
let S9 := z_wd S7 b8 v1.toNatClampNeg v4
some ((1 : Int32), S9))))
def j_X12_release_47 (v0 : Nat) (v1 : Int32) (v4 : UInt64) (S : z_St) : Option (Int32 × z_St) :=
z_chk S v0 13 (
if (Op.cmpValue (FP.dcmp v4 v4) .l) = 0 then
(z_onV (va_rf (z_r S v0 95)) fun b6 =>
j_X12_release_65 v0 v1 v4 b6 v1 ((1 : Int32)) S)
else
(z_onV (va_rf (z_r S v0 95)) fun b5 =>
j_X12_release_65 v0 v1 v4 b5 v1 ((0 : Int32)) S))
def b_X12_release (v0 : Nat) (v1 : Int32) (v2 : Int64) (S : z_St) : Option (Int32 × z_St) :=
z_chk S v0 13 (
let S1 := z_wi S v0 0 ((0 : Int32))
(f_X12_in v1.toInt64 ((0 : Int64)) ((7 : Int64)) S1).bind fun q2 =>
if q2.1 = 0 then
(some ((-2000000001 : Int32), q2.2))
else
((f_X12_realOf v2 q2.2).bind fun q3 =>
if (Op.cmpValue (FP.dcmp q3.1 q3.1) .l) = 0 then
((f_X12_isFlow q3.1 q3.2).bind fun q4 =>
if q4.1 = 0 then
(some ((-2000000002 : Int32), q4.2))
else
(j_X12_release_47 v0 v1 q3.1 q4.2))
else
(j_X12_release_47 v0 v1 q3.1 q3.2)))
def f_X12_release : Nat → Int32 → Int64 → z_St → Option (Int32 × z_St) := z_op (b_X12_release)
theorem e_X12_release (v0 : Nat) (v1 : Int32) (v2 : Int64) (S : z_St) : f_X12_release v0 v1 v2 S = b_X12_release v0 v1 v2 S := congrFun (congrFun (congrFun (congrFun (z_op_eq (b_X12_release)) v0) v1) v2) S
def g_X12_release : z_G := .inl (fun as S => match as with
  | [.ref v0, .int v1, .long v2] => f_X12_release v0 v1 v2 S
  | _ => none)
def c_X12_release : List z_E := [
  (0, .aload_n 0, 1, .null, [], z_g0),
  (1, .iconst 0, 1, .int ((0 : Int32)), [], z_g0),
  (2, .putfield 224, 3, .null, [13, 0, 0], z_g0),
  (5, .iload_n 1, 1, .null, [], z_g0),
  (6, .i2l, 1, .null, [], z_g0),
  (7, .lconst 0, 1, .long (0 : Int64), [], z_g0),
  (8, .ldc2_w 278, 3, .long (7 : Int64), [], z_g0),
  (11, .invokestatic 274, 3, .null, [0, 0, 0, 0], g_X12_in),
  (14, .ifCond .ne 7, 3, .null, [21], z_g0),
  (17, .ldc_w 296, 3, .int (-2000000001 : Int32), [], z_g0),
  (20, .ireturn, 1, .null, [], z_g0),
  (21, .lload_n 2, 1, .null, [], z_g0),
  (22, .invokestatic 262, 3, .null, [0, 0], g_X12_realOf),
  (25, .dstore 4, 2, .null, [], z_g0),
  (27, .dload 4, 2, .null, [], z_g0),
  (29, .dload 4, 2, .null, [], z_g0),
  (31, .dcmp .l, 1, .null, [], z_g0),
  (32, .ifCond .ne 15, 3, .null, [47], z_g0),
  (35, .dload 4, 2, .null, [], z_g0),
  (37, .invokestatic 627, 3, .null, [0, 0], g_X12_isFlow),
  (40, .ifCond .ne 7, 3, .null, [47], z_g0),
  (43, .ldc_w 280, 3, .int (-2000000002 : Int32), [], z_g0),
  (46, .ireturn, 1, .null, [], z_g0),
  (47, .aload_n 0, 1, .null, [], z_g0),
  (48, .getfield 215, 3, .null, [13, 95, 3], z_g0),
  (51, .iload_n 1, 1, .null, [], z_g0),
  (52, .dload 4, 2, .null, [], z_g0),
  (54, .dload 4, 2, .null, [], z_g0),
  (56, .dcmp .l, 1, .null, [], z_g0),
  (57, .ifCond .ne 7, 3, .null, [64], z_g0),
  (60, .iconst 1, 1, .int ((1 : Int32)), [], z_g0),
  (61, .goto 4, 3, .null, [65], z_g0),
  (64, .iconst 0, 1, .int ((0 : Int32)), [], z_g0),
  (65, .bastore, 1, .null, [104], z_g0),
  (66, .aload_n 0, 1, .null, [], z_g0),
  (67, .getfield 218, 3, .null, [13, 96, 3], z_g0),
  (70, .iload_n 1, 1, .null, [], z_g0),
  (71, .dload 4, 2, .null, [], z_g0),
  (73, .dastore, 1, .null, [], z_g0),
  (74, .iconst 1, 1, .int ((1 : Int32)), [], z_g0),
  (75, .ireturn, 1, .null, [], z_g0)]
def a_X12_release_47 {ρ : Type} (k : Nat → Int32 → UInt64 → z_St → Option ρ) (ls : z_Lv) (st : List Value) (S : z_St) : Option ρ := match z_lk ls 0, z_lk ls 1, z_lk ls 4, st with
  | .ref v0, .int v1, .double v4, [] => k v0 v1 v4 S
  | _, _, _, _ => none
def a_X12_release_65 {ρ : Type} (k : Nat → Int32 → UInt64 → Nat → Int32 → Int32 → z_St → Option ρ) (ls : z_Lv) (st : List Value) (S : z_St) : Option ρ := match z_lk ls 0, z_lk ls 1, z_lk ls 4, st with
  | .ref v0, .int v1, .double v4, [.int t2, .int t1, w0] => z_onV w0 fun t0 => k v0 v1 v4 t0 t1 t2 S
  | _, _, _, _ => none
set_option maxRecDepth 100000 in
theorem r_X12_release_65 (v0 : Nat) (v1 : Int32) (v4 : UInt64) (t0 : Nat) (t1 : Int32) (t2 : Int32) (S : z_St) : z_seg z_rI (c_X12_release) [47, 65] (fun pc => fun _ _ _ => none) 44 (z_to 65 (c_X12_release)) [(0, .ref v0), (1, .int v1), (4, .double v4)] [.int t2, .int t1, .ref t0] S = j_X12_release_65 v0 v1 v4 t0 t1 t2 S := rfl
set_option maxRecDepth 100000 in
theorem r_X12_release_47 (v0 : Nat) (v1 : Int32) (v4 : UInt64) (S : z_St) : z_seg z_rI (c_X12_release) [47, 65] (fun pc => cond (Nat.beq pc 65) (a_X12_release_65 (j_X12_release_65)) (fun _ _ _ => none)) 44 (z_to 47 (c_X12_release)) [(0, .ref v0), (1, .int v1), (4, .double v4)] [] S = j_X12_release_47 v0 v1 v4 S := rfl
set_option maxRecDepth 100000 in
theorem r_X12_release (v0 : Nat) (v1 : Int32) (v2 : Int64) (S : z_St) : z_seg z_rI (c_X12_release) [47, 65] (fun pc => cond (Nat.beq pc 47) (a_X12_release_47 (j_X12_release_47)) (fun _ _ _ => none)) 44 (c_X12_release) [(0, .ref v0), (1, .int v1), (2, .long v2)] [] S = b_X12_release v0 v1 v2 S := rfl
def l_X12_lacks_4 : Nat → Nat → Int32 → Int32 → Int32 → z_St → Option (Int32 × z_St)
  | 0 => fun _ _ _ _ _ => none
  | n + 1 => fun (v0 : Nat) (v1 : Int32) (v2 : Int32) (v3 : Int32) (S : z_St) =>
z_chk S v0 13 (
if ((z_i S v0 92)) ≤ v3 then
(z_rb v2 S)
else
(if v2 = 0 then
(z_chk S v0 13 (
z_onV (va_rf (z_r S v0 93)) fun b2 =>
z_inb S b2 104 ((((12 : Int32)) * v1) + v3) (
if ((z_i S b2 ((((12 : Int32)) * v1) + v3).toNatClampNeg)) = 0 then
(let x4 := v3 + (1 : Int32)
l_X12_lacks_4 n v0 v1 ((1 : Int32)) x4 S)
else
(let x3 := v3 + (1 : Int32)
l_X12_lacks_4 n v0 v1 ((0 : Int32)) x3 S))))
else
(let x1 := v3 + (1 : Int32)
l_X12_lacks_4 n v0 v1 ((1 : Int32)) x1 S)))
def b_X12_lacks (v0 : Nat) (v1 : Int32) (S : z_St) : Option (Int32 × z_St) :=
l_X12_lacks_4 z_N v0 v1 ((0 : Int32)) ((0 : Int32)) S
def f_X12_lacks : Nat → Int32 → z_St → Option (Int32 × z_St) := z_op (b_X12_lacks)
theorem e_X12_lacks (v0 : Nat) (v1 : Int32) (S : z_St) : f_X12_lacks v0 v1 S = b_X12_lacks v0 v1 S := congrFun (congrFun (congrFun (z_op_eq (b_X12_lacks)) v0) v1) S
def g_X12_lacks : z_G := .inl (fun as S => match as with
  | [.ref v0, .int v1] => f_X12_lacks v0 v1 S
  | _ => none)
def c_X12_lacks : List z_E := [
  (0, .iconst 0, 1, .int ((0 : Int32)), [], z_g0),
  (1, .istore_n 2, 1, .null, [], z_g0),
  (2, .iconst 0, 1, .int ((0 : Int32)), [], z_g0),
  (3, .istore_n 3, 1, .null, [], z_g0),
  (4, .iload_n 3, 1, .null, [], z_g0),
  (5, .aload_n 0, 1, .null, [], z_g0),
  (6, .getfield 205, 3, .null, [13, 92, 0], z_g0),
  (9, .if_icmp .ge 33, 3, .null, [42], z_g0),
  (12, .iload_n 2, 1, .null, [], z_g0),
  (13, .ifCond .ne 17, 3, .null, [30], z_g0),
  (16, .aload_n 0, 1, .null, [], z_g0),
  (17, .getfield 209, 3, .null, [13, 93, 3], z_g0),
  (20, .bipush 12, 2, .int ((12 : Int32)), [], z_g0),
  (22, .iload_n 1, 1, .null, [], z_g0),
  (23, .imul, 1, .null, [], z_g0),
  (24, .iload_n 3, 1, .null, [], z_g0),
  (25, .iadd, 1, .null, [], z_g0),
  (26, .baload, 1, .null, [104], z_g0),
  (27, .ifCond .ne 7, 3, .null, [34], z_g0),
  (30, .iconst 1, 1, .int ((1 : Int32)), [], z_g0),
  (31, .goto 4, 3, .null, [35], z_g0),
  (34, .iconst 0, 1, .int ((0 : Int32)), [], z_g0),
  (35, .istore_n 2, 1, .null, [], z_g0),
  (36, .iinc 3 1, 3, .int (1 : Int32), [], z_g0),
  (39, .goto (-35), 3, .null, [4], z_g0),
  (42, .iload_n 2, 1, .null, [], z_g0),
  (43, .ireturn, 1, .null, [], z_g0)]
def a_X12_lacks_4 {ρ : Type} (k : Nat → Int32 → Int32 → Int32 → z_St → Option ρ) (ls : z_Lv) (st : List Value) (S : z_St) : Option ρ := match z_lk ls 0, z_lk ls 1, z_lk ls 2, z_lk ls 3, st with
  | .ref v0, .int v1, .int v2, .int v3, [] => k v0 v1 v2 v3 S
  | _, _, _, _, _ => none
set_option maxRecDepth 100000 in
theorem r_X12_lacks_4 (n : Nat) (v0 : Nat) (v1 : Int32) (v2 : Int32) (v3 : Int32) (S : z_St) : z_seg z_rZ (c_X12_lacks) [4] (fun pc => cond (Nat.beq pc 4) (a_X12_lacks_4 (l_X12_lacks_4 n)) (fun _ _ _ => none)) 30 (z_to 4 (c_X12_lacks)) [(0, .ref v0), (1, .int v1), (2, .int v2), (3, .int v3)] [] S = l_X12_lacks_4 (n + 1) v0 v1 v2 v3 S := rfl
set_option maxRecDepth 100000 in
theorem r_X12_lacks (v0 : Nat) (v1 : Int32) (S : z_St) : z_seg z_rZ (c_X12_lacks) [4] (fun pc => cond (Nat.beq pc 4) (a_X12_lacks_4 (l_X12_lacks_4 z_N)) (fun _ _ _ => none)) 30 (c_X12_lacks) [(0, .ref v0), (1, .int v1)] [] S = b_X12_lacks v0 v1 S := rfl
def j_X12_volumeAt_53 (k_14 : Nat → Int32 → UInt64 → Int32 → UInt64 → Int32 → z_St → Option (UInt64 × z_St)) (v0 : Nat) (v1 : Int32) (v2 : UInt64) (v4 : Int32) (v7 : Int32) (t0 : UInt64) (S : z_St) : Option (UInt64 × z_St) :=
(f_X12_lineOf ((30 : Int32)) S).bind fun q5 =>
z_nn (FP.dsub t0 (FP.l2d q5.1)) (
let x6 := FP.dsub t0 (FP.l2d q5.1)
z_chk q5.2 v0 13 (
if (Op.cmpValue (FP.dcmp x6 ((z_d q5.2 v0 97))) .l) ≤ 0 then
(z_chk q5.2 v0 13 (
z_chk q5.2 v0 13 (
let S7 := z_wd q5.2 v0 97 ((z_d q5.2 v0 97))
let x8 := v7 + (1 : Int32)
k_14 v0 v1 v2 v4 t0 x8 S7)))
else
(z_chk q5.2 v0 13 (
let S9 := z_wd q5.2 v0 97 x6
let x10 := v7 + (1 : Int32)
k_14 v0 v1 v2 v4 t0 x10 S9))))
def l_X12_volumeAt_14 : Nat → Nat → Int32 → UInt64 → Int32 → UInt64 → Int32 → z_St → Option (UInt64 × z_St)
  | 0 => fun _ _ _ _ _ _ _ => none
  | n + 1 => fun (v0 : Nat) (v1 : Int32) (v2 : UInt64) (v4 : Int32) (v5 : UInt64) (v7 : Int32) (S : z_St) =>
if v4 < v7 then
(some (v5, S))
else
(z_chk S v0 13 (
z_onV (va_rf (z_r S v0 94)) fun b3 =>
z_inb S b3 103 ((((12 : Int32)) * v1) + v7) (
z_nn (FP.dadd v5 ((z_d S b3 ((((12 : Int32)) * v1) + v7).toNatClampNeg))) (
z_nn (FP.dsub (FP.dadd v5 ((z_d S b3 ((((12 : Int32)) * v1) + v7).toNatClampNeg))) v2) (
let x4 := FP.dsub (FP.dadd v5 ((z_d S b3 ((((12 : Int32)) * v1) + v7).toNatClampNeg))) v2
if 0 ≤ (Op.cmpValue (FP.dcmp x4 FP.dconst0) .g) then
(j_X12_volumeAt_53 (l_X12_volumeAt_14 n) v0 v1 v2 v4 v7 x4 S)
else
(j_X12_volumeAt_53 (l_X12_volumeAt_14 n) v0 v1 v2 v4 v7 FP.dconst0 S))))))
def b_X12_volumeAt (v0 : Nat) (v1 : Int32) (v2 : UInt64) (v4 : Int32) (S : z_St) : Option (UInt64 × z_St) :=
z_chk S v0 13 (
let x1 := (z_d S v0 54)
z_chk S v0 13 (
let S2 := z_wd S v0 97 FP.dconst0
l_X12_volumeAt_14 z_N v0 v1 v2 v4 x1 ((0 : Int32)) S2))
def f_X12_volumeAt : Nat → Int32 → UInt64 → Int32 → z_St → Option (UInt64 × z_St) := z_op (b_X12_volumeAt)
theorem e_X12_volumeAt (v0 : Nat) (v1 : Int32) (v2 : UInt64) (v4 : Int32) (S : z_St) : f_X12_volumeAt v0 v1 v2 v4 S = b_X12_volumeAt v0 v1 v2 v4 S := congrFun (congrFun (congrFun (congrFun (congrFun (z_op_eq (b_X12_volumeAt)) v0) v1) v2) v4) S
def g_X12_volumeAt : z_G := .inr (.inr (.inl (fun as S => match as with
  | [.ref v0, .int v1, .double v2, .int v4] => f_X12_volumeAt v0 v1 v2 v4 S
  | _ => none)))
def c_X12_volumeAt : List z_E := [
  (0, .aload_n 0, 1, .null, [], z_g0),
  (1, .getfield 120, 3, .null, [13, 54, 2], z_g0),
  (4, .dstore 5, 2, .null, [], z_g0),
  (6, .aload_n 0, 1, .null, [], z_g0),
  (7, .dconst 0, 1, .double FP.dconst0, [], z_g0),
  (8, .putfield 630, 3, .null, [13, 97, 2], z_g0),
  (11, .iconst 0, 1, .int ((0 : Int32)), [], z_g0),
  (12, .istore 7, 2, .null, [], z_g0),
  (14, .iload 7, 2, .null, [], z_g0),
  (16, .iload 4, 2, .null, [], z_g0),
  (18, .if_icmp .gt 77, 3, .null, [95], z_g0),
  (21, .dload 5, 2, .null, [], z_g0),
  (23, .aload_n 0, 1, .null, [], z_g0),
  (24, .getfield 212, 3, .null, [13, 94, 3], z_g0),
  (27, .bipush 12, 2, .int ((12 : Int32)), [], z_g0),
  (29, .iload_n 1, 1, .null, [], z_g0),
  (30, .imul, 1, .null, [], z_g0),
  (31, .iload 7, 2, .null, [], z_g0),
  (33, .iadd, 1, .null, [], z_g0),
  (34, .daload, 1, .null, [], z_g0),
  (35, .dadd, 1, .null, [], z_g0),
  (36, .dload_n 2, 1, .null, [], z_g0),
  (37, .dsub, 1, .null, [], z_g0),
  (38, .dstore 5, 2, .null, [], z_g0),
  (40, .dload 5, 2, .null, [], z_g0),
  (42, .dconst 0, 1, .double FP.dconst0, [], z_g0),
  (43, .dcmp .g, 1, .null, [], z_g0),
  (44, .ifCond .ge 7, 3, .null, [51], z_g0),
  (47, .dconst 0, 1, .double FP.dconst0, [], z_g0),
  (48, .goto 5, 3, .null, [53], z_g0),
  (51, .dload 5, 2, .null, [], z_g0),
  (53, .dstore 5, 2, .null, [], z_g0),
  (55, .dload 5, 2, .null, [], z_g0),
  (57, .bipush 30, 2, .int ((30 : Int32)), [], z_g0),
  (59, .invokestatic 507, 3, .null, [0, 0], g_X12_lineOf),
  (62, .l2d, 1, .null, [], z_g0),
  (63, .dsub, 1, .null, [], z_g0),
  (64, .dstore 8, 2, .null, [], z_g0),
  (66, .aload_n 0, 1, .null, [], z_g0),
  (67, .dload 8, 2, .null, [], z_g0),
  (69, .aload_n 0, 1, .null, [], z_g0),
  (70, .getfield 630, 3, .null, [13, 97, 2], z_g0),
  (73, .dcmp .l, 1, .null, [], z_g0),
  (74, .ifCond .le 8, 3, .null, [82], z_g0),
  (77, .dload 8, 2, .null, [], z_g0),
  (79, .goto 7, 3, .null, [86], z_g0),
  (82, .aload_n 0, 1, .null, [], z_g0),
  (83, .getfield 630, 3, .null, [13, 97, 2], z_g0),
  (86, .putfield 630, 3, .null, [13, 97, 2], z_g0),
  (89, .iinc 7 1, 3, .int (1 : Int32), [], z_g0),
  (92, .goto (-78), 3, .null, [14], z_g0),
  (95, .dload 5, 2, .null, [], z_g0),
  (97, .dreturn, 1, .null, [], z_g0)]
def a_X12_volumeAt_14 {ρ : Type} (k : Nat → Int32 → UInt64 → Int32 → UInt64 → Int32 → z_St → Option ρ) (ls : z_Lv) (st : List Value) (S : z_St) : Option ρ := match z_lk ls 0, z_lk ls 1, z_lk ls 2, z_lk ls 4, z_lk ls 5, z_lk ls 7, st with
  | .ref v0, .int v1, .double v2, .int v4, .double v5, .int v7, [] => k v0 v1 v2 v4 v5 v7 S
  | _, _, _, _, _, _, _ => none
def a_X12_volumeAt_53 {ρ : Type} (k : Nat → Int32 → UInt64 → Int32 → Int32 → UInt64 → z_St → Option ρ) (ls : z_Lv) (st : List Value) (S : z_St) : Option ρ := match z_lk ls 0, z_lk ls 1, z_lk ls 2, z_lk ls 4, z_lk ls 7, st with
  | .ref v0, .int v1, .double v2, .int v4, .int v7, [.double t0] => k v0 v1 v2 v4 v7 t0 S
  | _, _, _, _, _, _ => none
set_option maxRecDepth 100000 in
theorem r_X12_volumeAt_53 (k_14 : Nat → Int32 → UInt64 → Int32 → UInt64 → Int32 → z_St → Option (UInt64 × z_St)) (v0 : Nat) (v1 : Int32) (v2 : UInt64) (v4 : Int32) (v7 : Int32) (t0 : UInt64) (S : z_St) : z_seg z_rD (c_X12_volumeAt) [14, 53] (fun pc => cond (Nat.beq pc 14) (a_X12_volumeAt_14 k_14) (fun _ _ _ => none)) 56 (z_to 53 (c_X12_volumeAt)) [(0, .ref v0), (1, .int v1), (2, .double v2), (4, .int v4), (7, .int v7)] [.double t0] S = j_X12_volumeAt_53 k_14 v0 v1 v2 v4 v7 t0 S := rfl
set_option maxRecDepth 100000 in
theorem r_X12_volumeAt_14 (n : Nat) (v0 : Nat) (v1 : Int32) (v2 : UInt64) (v4 : Int32) (v5 : UInt64) (v7 : Int32) (S : z_St) : z_seg z_rD (c_X12_volumeAt) [14, 53] (fun pc => cond (Nat.beq pc 53) (a_X12_volumeAt_53 (j_X12_volumeAt_53 (l_X12_volumeAt_14 n))) (fun _ _ _ => none)) 56 (z_to 14 (c_X12_volumeAt)) [(0, .ref v0), (1, .int v1), (2, .double v2), (4, .int v4), (5, .double v5), (7, .int v7)] [] S = l_X12_volumeAt_14 (n + 1) v0 v1 v2 v4 v5 v7 S := rfl
set_option maxRecDepth 100000 in
theorem r_X12_volumeAt (v0 : Nat) (v1 : Int32) (v2 : UInt64) (v4 : Int32) (S : z_St) : z_seg z_rD (c_X12_volumeAt) [14, 53] (fun pc => cond (Nat.beq pc 14) (a_X12_volumeAt_14 (l_X12_volumeAt_14 z_N)) (fun _ _ _ => none)) 56 (c_X12_volumeAt) [(0, .ref v0), (1, .int v1), (2, .double v2), (4, .int v4)] [] S = b_X12_volumeAt v0 v1 v2 v4 S := rfl
def l_X12_regretOf_8 : Nat → Nat → UInt64 → UInt64 → Int32 → Int32 → z_St → Option (UInt64 × z_St)
  | 0 => fun _ _ _ _ _ _ => none
  | n + 1 => fun (v0 : Nat) (v1 : UInt64) (v3 : UInt64) (v5 : Int32) (v6 : Int32) (S : z_St) =>
if ((6 : Int32)) ≤ v6 then
(some (v3, S))
else
(z_chk S v0 13 (
(f_X12_lacks v0 v6 S).bind fun q1 =>
if q1.1 = 0 then
(z_chk q1.2 v0 13 (
z_chk q1.2 v0 13 (
(f_X12_volumeAt v0 v6 v1 (((z_i q1.2 v0 92)) - ((1 : Int32))) q1.2).bind fun q3 =>
z_chk q3.2 v0 13 (
z_chk q3.2 v0 13 (
z_nn (FP.dmul ((z_d q3.2 v0 97)) ((z_d q3.2 v0 97))) (
z_nn (FP.dmul v1 ((4621819117588971520 : UInt64))) (
z_nn (FP.dadd (FP.dmul ((z_d q3.2 v0 97)) ((z_d q3.2 v0 97))) (FP.dmul v1 ((4621819117588971520 : UInt64)))) (
let x4 := FP.dadd (FP.dmul ((z_d q3.2 v0 97)) ((z_d q3.2 v0 97))) (FP.dmul v1 ((4621819117588971520 : UInt64)))
if v5 = 0 then
(if (Op.cmpValue (FP.dcmp x4 v3) .l) ≤ 0 then
(let x6 := v6 + (1 : Int32)
l_X12_regretOf_8 n v0 v1 v3 ((0 : Int32)) x6 q3.2)
else
(let x7 := v6 + (1 : Int32)
l_X12_regretOf_8 n v0 v1 x4 ((0 : Int32)) x7 q3.2))
else
(let x5 := v6 + (1 : Int32)
l_X12_regretOf_8 n v0 v1 x4 ((0 : Int32)) x5 q3.2)))))))))
else
(let x2 := v6 + (1 : Int32)
l_X12_regretOf_8 n v0 v1 v3 v5 x2 q1.2)))
def b_X12_regretOf (v0 : Nat) (v1 : UInt64) (S : z_St) : Option (UInt64 × z_St) :=
l_X12_regretOf_8 z_N v0 v1 FP.dconst0 ((1 : Int32)) ((0 : Int32)) S
def f_X12_regretOf : Nat → UInt64 → z_St → Option (UInt64 × z_St) := z_op (b_X12_regretOf)
theorem e_X12_regretOf (v0 : Nat) (v1 : UInt64) (S : z_St) : f_X12_regretOf v0 v1 S = b_X12_regretOf v0 v1 S := congrFun (congrFun (congrFun (z_op_eq (b_X12_regretOf)) v0) v1) S
def g_X12_regretOf : z_G := .inr (.inr (.inl (fun as S => match as with
  | [.ref v0, .double v1] => f_X12_regretOf v0 v1 S
  | _ => none)))
def c_X12_regretOf : List z_E := [
  (0, .dconst 0, 1, .double FP.dconst0, [], z_g0),
  (1, .dstore_n 3, 1, .null, [], z_g0),
  (2, .iconst 1, 1, .int ((1 : Int32)), [], z_g0),
  (3, .istore 5, 2, .null, [], z_g0),
  (5, .iconst 0, 1, .int ((0 : Int32)), [], z_g0),
  (6, .istore 6, 2, .null, [], z_g0),
  (8, .iload 6, 2, .null, [], z_g0),
  (10, .bipush 6, 2, .int ((6 : Int32)), [], z_g0),
  (12, .if_icmp .ge 71, 3, .null, [83], z_g0),
  (15, .aload_n 0, 1, .null, [], z_g0),
  (16, .iload 6, 2, .null, [], z_g0),
  (18, .invokevirtual 633, 3, .null, [1, 13, 0], g_X12_lacks),
  (21, .ifCond .ne 56, 3, .null, [77], z_g0),
  (24, .aload_n 0, 1, .null, [], z_g0),
  (25, .iload 6, 2, .null, [], z_g0),
  (27, .dload_n 1, 1, .null, [], z_g0),
  (28, .aload_n 0, 1, .null, [], z_g0),
  (29, .getfield 205, 3, .null, [13, 92, 0], z_g0),
  (32, .iconst 1, 1, .int ((1 : Int32)), [], z_g0),
  (33, .isub, 1, .null, [], z_g0),
  (34, .invokevirtual 636, 3, .null, [1, 13, 0, 0, 0], g_X12_volumeAt),
  (37, .pop2, 1, .null, [], z_g0),
  (38, .aload_n 0, 1, .null, [], z_g0),
  (39, .getfield 630, 3, .null, [13, 97, 2], z_g0),
  (42, .aload_n 0, 1, .null, [], z_g0),
  (43, .getfield 630, 3, .null, [13, 97, 2], z_g0),
  (46, .dmul, 1, .null, [], z_g0),
  (47, .dload_n 1, 1, .null, [], z_g0),
  (48, .ldc2_w 640, 3, .double (4621819117588971520 : UInt64), [], z_g0),
  (51, .dmul, 1, .null, [], z_g0),
  (52, .dadd, 1, .null, [], z_g0),
  (53, .dstore 7, 2, .null, [], z_g0),
  (55, .iload 5, 2, .null, [], z_g0),
  (57, .ifCond .ne 10, 3, .null, [67], z_g0),
  (60, .dload 7, 2, .null, [], z_g0),
  (62, .dload_n 3, 1, .null, [], z_g0),
  (63, .dcmp .l, 1, .null, [], z_g0),
  (64, .ifCond .le 8, 3, .null, [72], z_g0),
  (67, .dload 7, 2, .null, [], z_g0),
  (69, .goto 4, 3, .null, [73], z_g0),
  (72, .dload_n 3, 1, .null, [], z_g0),
  (73, .dstore_n 3, 1, .null, [], z_g0),
  (74, .iconst 0, 1, .int ((0 : Int32)), [], z_g0),
  (75, .istore 5, 2, .null, [], z_g0),
  (77, .iinc 6 1, 3, .int (1 : Int32), [], z_g0),
  (80, .goto (-72), 3, .null, [8], z_g0),
  (83, .dload_n 3, 1, .null, [], z_g0),
  (84, .dreturn, 1, .null, [], z_g0)]
def a_X12_regretOf_8 {ρ : Type} (k : Nat → UInt64 → UInt64 → Int32 → Int32 → z_St → Option ρ) (ls : z_Lv) (st : List Value) (S : z_St) : Option ρ := match z_lk ls 0, z_lk ls 1, z_lk ls 3, z_lk ls 5, z_lk ls 6, st with
  | .ref v0, .double v1, .double v3, .int v5, .int v6, [] => k v0 v1 v3 v5 v6 S
  | _, _, _, _, _, _ => none
set_option maxRecDepth 100000 in
theorem r_X12_regretOf_8 (n : Nat) (v0 : Nat) (v1 : UInt64) (v3 : UInt64) (v5 : Int32) (v6 : Int32) (S : z_St) : z_seg z_rD (c_X12_regretOf) [8] (fun pc => cond (Nat.beq pc 8) (a_X12_regretOf_8 (l_X12_regretOf_8 n)) (fun _ _ _ => none)) 51 (z_to 8 (c_X12_regretOf)) [(0, .ref v0), (1, .double v1), (3, .double v3), (5, .int v5), (6, .int v6)] [] S = l_X12_regretOf_8 (n + 1) v0 v1 v3 v5 v6 S := rfl
set_option maxRecDepth 100000 in
theorem r_X12_regretOf (v0 : Nat) (v1 : UInt64) (S : z_St) : z_seg z_rD (c_X12_regretOf) [8] (fun pc => cond (Nat.beq pc 8) (a_X12_regretOf_8 (l_X12_regretOf_8 z_N)) (fun _ _ _ => none)) 51 (c_X12_regretOf) [(0, .ref v0), (1, .double v1)] [] S = b_X12_regretOf v0 v1 S := rfl
def b_X12_routed (v0 : Nat) (v1 : Int32) (v2 : Int32) (v3 : Int32) (S : z_St) : Option (Int64 × z_St) :=
z_chk S v0 13 (
let S1 := z_wi S v0 0 ((0 : Int32))
(f_X12_in v1.toInt64 ((0 : Int64)) ((5 : Int64)) S1).bind fun q2 =>
if q2.1 = 0 then
(some ((-2000000001 : Int64), q2.2))
else
((f_X12_in v2.toInt64 ((0 : Int64)) ((7 : Int64)) q2.2).bind fun q3 =>
if q3.1 = 0 then
(some ((-2000000001 : Int64), q3.2))
else
(z_chk q3.2 v0 13 (
z_onV (va_rf (z_r q3.2 v0 95)) fun b4 =>
z_inb q3.2 b4 104 v2 (
if ((z_i q3.2 b4 v2.toNatClampNeg)) = 0 then
(some ((-2000000001 : Int64), q3.2))
else
(z_chk q3.2 v0 13 (
(f_X12_in v3.toInt64 ((0 : Int64)) ((((z_i q3.2 v0 92)) - ((1 : Int32))).toInt64) q3.2).bind fun q5 =>
if q5.1 = 0 then
(some ((-2000000002 : Int64), q5.2))
else
(z_chk q5.2 v0 13 (
(f_X12_lacks v0 v1 q5.2).bind fun q6 =>
if q6.1 = 0 then
(z_chk q6.2 v0 13 (
z_onV (va_rf (z_r q6.2 v0 96)) fun b7 =>
z_inb q6.2 b7 103 v2 (
z_chk q6.2 v0 13 (
(f_X12_volumeAt v0 v1 ((z_d q6.2 b7 v2.toNatClampNeg)) v3 q6.2).bind fun q8 =>
(f_X12_bitsOf q8.1 q8.2).bind fun q9 =>
some (q9.1, q9.2)))))
else
(some ((9221120237041090560 : Int64), q6.2)))))))))))
def f_X12_routed : Nat → Int32 → Int32 → Int32 → z_St → Option (Int64 × z_St) := z_op (b_X12_routed)
theorem e_X12_routed (v0 : Nat) (v1 : Int32) (v2 : Int32) (v3 : Int32) (S : z_St) : f_X12_routed v0 v1 v2 v3 S = b_X12_routed v0 v1 v2 v3 S := congrFun (congrFun (congrFun (congrFun (congrFun (z_op_eq (b_X12_routed)) v0) v1) v2) v3) S
def g_X12_routed : z_G := .inr (.inl (fun as S => match as with
  | [.ref v0, .int v1, .int v2, .int v3] => f_X12_routed v0 v1 v2 v3 S
  | _ => none))
def c_X12_routed : List z_E := [
  (0, .aload_n 0, 1, .null, [], z_g0),
  (1, .iconst 0, 1, .int ((0 : Int32)), [], z_g0),
  (2, .putfield 224, 3, .null, [13, 0, 0], z_g0),
  (5, .iload_n 1, 1, .null, [], z_g0),
  (6, .i2l, 1, .null, [], z_g0),
  (7, .lconst 0, 1, .long (0 : Int64), [], z_g0),
  (8, .ldc2_w 334, 3, .long (5 : Int64), [], z_g0),
  (11, .invokestatic 274, 3, .null, [0, 0, 0, 0], g_X12_in),
  (14, .ifCond .eq 24, 3, .null, [38], z_g0),
  (17, .iload_n 2, 1, .null, [], z_g0),
  (18, .i2l, 1, .null, [], z_g0),
  (19, .lconst 0, 1, .long (0 : Int64), [], z_g0),
  (20, .ldc2_w 278, 3, .long (7 : Int64), [], z_g0),
  (23, .invokestatic 274, 3, .null, [0, 0, 0, 0], g_X12_in),
  (26, .ifCond .eq 12, 3, .null, [38], z_g0),
  (29, .aload_n 0, 1, .null, [], z_g0),
  (30, .getfield 215, 3, .null, [13, 95, 3], z_g0),
  (33, .iload_n 2, 1, .null, [], z_g0),
  (34, .baload, 1, .null, [104], z_g0),
  (35, .ifCond .ne 7, 3, .null, [42], z_g0),
  (38, .ldc2_w 319, 3, .long (-2000000001 : Int64), [], z_g0),
  (41, .lreturn, 1, .null, [], z_g0),
  (42, .iload_n 3, 1, .null, [], z_g0),
  (43, .i2l, 1, .null, [], z_g0),
  (44, .lconst 0, 1, .long (0 : Int64), [], z_g0),
  (45, .aload_n 0, 1, .null, [], z_g0),
  (46, .getfield 205, 3, .null, [13, 92, 0], z_g0),
  (49, .iconst 1, 1, .int ((1 : Int32)), [], z_g0),
  (50, .isub, 1, .null, [], z_g0),
  (51, .i2l, 1, .null, [], z_g0),
  (52, .invokestatic 274, 3, .null, [0, 0, 0, 0], g_X12_in),
  (55, .ifCond .ne 7, 3, .null, [62], z_g0),
  (58, .ldc2_w 398, 3, .long (-2000000002 : Int64), [], z_g0),
  (61, .lreturn, 1, .null, [], z_g0),
  (62, .aload_n 0, 1, .null, [], z_g0),
  (63, .iload_n 1, 1, .null, [], z_g0),
  (64, .invokevirtual 633, 3, .null, [1, 13, 0], g_X12_lacks),
  (67, .ifCond .eq 9, 3, .null, [76], z_g0),
  (70, .ldc2_w 246, 3, .long (9221120237041090560 : Int64), [], z_g0),
  (73, .goto 18, 3, .null, [91], z_g0),
  (76, .aload_n 0, 1, .null, [], z_g0),
  (77, .iload_n 1, 1, .null, [], z_g0),
  (78, .aload_n 0, 1, .null, [], z_g0),
  (79, .getfield 218, 3, .null, [13, 96, 3], z_g0),
  (82, .iload_n 2, 1, .null, [], z_g0),
  (83, .daload, 1, .null, [], z_g0),
  (84, .iload_n 3, 1, .null, [], z_g0),
  (85, .invokevirtual 636, 3, .null, [1, 13, 0, 0, 0], g_X12_volumeAt),
  (88, .invokestatic 252, 3, .null, [0, 0], g_X12_bitsOf),
  (91, .lreturn, 1, .null, [], z_g0)]
set_option maxRecDepth 100000 in
theorem r_X12_routed (v0 : Nat) (v1 : Int32) (v2 : Int32) (v3 : Int32) (S : z_St) : z_seg z_rL (c_X12_routed) [] (fun pc => fun _ _ _ => none) 53 (c_X12_routed) [(0, .ref v0), (1, .int v1), (2, .int v2), (3, .int v3)] [] S = b_X12_routed v0 v1 v2 v3 S := rfl
def b_X12_regret (v0 : Nat) (v1 : Int32) (S : z_St) : Option (Int64 × z_St) :=
z_chk S v0 13 (
let S1 := z_wi S v0 0 ((0 : Int32))
(f_X12_in v1.toInt64 ((0 : Int64)) ((7 : Int64)) S1).bind fun q2 =>
if q2.1 = 0 then
(some ((-2000000001 : Int64), q2.2))
else
(z_chk q2.2 v0 13 (
z_onV (va_rf (z_r q2.2 v0 95)) fun b3 =>
z_inb q2.2 b3 104 v1 (
if ((z_i q2.2 b3 v1.toNatClampNeg)) = 0 then
(some ((-2000000001 : Int64), q2.2))
else
(z_chk q2.2 v0 13 (
z_onV (va_rf (z_r q2.2 v0 96)) fun b4 =>
z_inb q2.2 b4 103 v1 (
z_chk q2.2 v0 13 (
(f_X12_regretOf v0 ((z_d q2.2 b4 v1.toNatClampNeg)) q2.2).bind fun q5 =>
(f_X12_bitsOf q5.1 q5.2).bind fun q6 =>
some (q6.1, q6.2)))))))))
def f_X12_regret : Nat → Int32 → z_St → Option (Int64 × z_St) := z_op (b_X12_regret)
theorem e_X12_regret (v0 : Nat) (v1 : Int32) (S : z_St) : f_X12_regret v0 v1 S = b_X12_regret v0 v1 S := congrFun (congrFun (congrFun (z_op_eq (b_X12_regret)) v0) v1) S
def g_X12_regret : z_G := .inr (.inl (fun as S => match as with
  | [.ref v0, .int v1] => f_X12_regret v0 v1 S
  | _ => none))
def c_X12_regret : List z_E := [
  (0, .aload_n 0, 1, .null, [], z_g0),
  (1, .iconst 0, 1, .int ((0 : Int32)), [], z_g0),
  (2, .putfield 224, 3, .null, [13, 0, 0], z_g0),
  (5, .iload_n 1, 1, .null, [], z_g0),
  (6, .i2l, 1, .null, [], z_g0),
  (7, .lconst 0, 1, .long (0 : Int64), [], z_g0),
  (8, .ldc2_w 278, 3, .long (7 : Int64), [], z_g0),
  (11, .invokestatic 274, 3, .null, [0, 0, 0, 0], g_X12_in),
  (14, .ifCond .eq 28, 3, .null, [42], z_g0),
  (17, .aload_n 0, 1, .null, [], z_g0),
  (18, .getfield 215, 3, .null, [13, 95, 3], z_g0),
  (21, .iload_n 1, 1, .null, [], z_g0),
  (22, .baload, 1, .null, [104], z_g0),
  (23, .ifCond .eq 19, 3, .null, [42], z_g0),
  (26, .aload_n 0, 1, .null, [], z_g0),
  (27, .aload_n 0, 1, .null, [], z_g0),
  (28, .getfield 218, 3, .null, [13, 96, 3], z_g0),
  (31, .iload_n 1, 1, .null, [], z_g0),
  (32, .daload, 1, .null, [], z_g0),
  (33, .invokevirtual 642, 3, .null, [1, 13, 0], g_X12_regretOf),
  (36, .invokestatic 252, 3, .null, [0, 0], g_X12_bitsOf),
  (39, .goto 6, 3, .null, [45], z_g0),
  (42, .ldc2_w 319, 3, .long (-2000000001 : Int64), [], z_g0),
  (45, .lreturn, 1, .null, [], z_g0)]
set_option maxRecDepth 100000 in
theorem r_X12_regret (v0 : Nat) (v1 : Int32) (S : z_St) : z_seg z_rL (c_X12_regret) [] (fun pc => fun _ _ _ => none) 27 (c_X12_regret) [(0, .ref v0), (1, .int v1)] [] S = b_X12_regret v0 v1 S := rfl
def j_X12_chosen_54 (k_9 : Nat → Int32 → Int32 → z_St → Option (Int32 × z_St)) (v0 : Nat) (v1 : Int32) (v2 : Int32) (v3 : UInt64) (t0 : UInt64) (S : z_St) : Option (Int32 × z_St) :=
if v1 = ((-1 : Int32)) then
(let x8 := v2 + (1 : Int32)
k_9 v0 v2 x8 S)
else
(if (Op.cmpValue (FP.dcmp v3 t0) .g) < 0 then
(let x9 := v2 + (1 : Int32)
k_9 v0 v2 x9 S)
else
(if (Op.cmpValue (FP.dcmp v3 t0) .l) = 0 then
(z_chk S v0 13 (
z_onV (va_rf (z_r S v0 96)) fun b11 =>
z_inb S b11 103 v2 (
z_chk S v0 13 (
z_onV (va_rf (z_r S v0 96)) fun b12 =>
z_inb S b12 103 v1 (
if 0 ≤ (Op.cmpValue (FP.dcmp ((z_d S b11 v2.toNatClampNeg)) ((z_d S b12 v1.toNatClampNeg))) .g) then
(let x13 := v2 + (1 : Int32)
k_9 v0 v1 x13 S)
else
(let x14 := v2 + (1 : Int32)
k_9 v0 v2 x14 S))))))
else
(let x10 := v2 + (1 : Int32)
k_9 v0 v1 x10 S)))
def l_X12_chosen_9 : Nat → Nat → Int32 → Int32 → z_St → Option (Int32 × z_St)
  | 0 => fun _ _ _ _ => none
  | n + 1 => fun (v0 : Nat) (v1 : Int32) (v2 : Int32) (S : z_St) =>
if ((8 : Int32)) ≤ v2 then
(some (v1, S))
else
(z_chk S v0 13 (
z_onV (va_rf (z_r S v0 95)) fun b2 =>
z_inb S b2 104 v2 (
if ((z_i S b2 v2.toNatClampNeg)) = 0 then
(let x3 := v2 + (1 : Int32)
l_X12_chosen_9 n v0 v1 x3 S)
else
(z_chk S v0 13 (
z_onV (va_rf (z_r S v0 96)) fun b4 =>
z_inb S b4 103 v2 (
z_chk S v0 13 (
(f_X12_regretOf v0 ((z_d S b4 v2.toNatClampNeg)) S).bind fun q5 =>
if v1 = ((-1 : Int32)) then
(j_X12_chosen_54 (l_X12_chosen_9 n) v0 v1 v2 q5.1 FP.dconst0 q5.2)
else
(z_chk q5.2 v0 13 (
z_onV (va_rf (z_r q5.2 v0 96)) fun b6 =>
z_inb q5.2 b6 103 v1 (
z_chk q5.2 v0 13 (
(f_X12_regretOf v0 ((z_d q5.2 b6 v1.toNatClampNeg)) q5.2).bind fun q7 =>
j_X12_chosen_54 (l_X12_chosen_9 n) v0 v1 v2 q5.1 q7.1 q7.2)))))))))))
def b_X12_chosen (v0 : Nat) (S : z_St) : Option (Int32 × z_St) :=
z_chk S v0 13 (
let S1 := z_wi S v0 0 ((0 : Int32))
l_X12_chosen_9 z_N v0 ((-1 : Int32)) ((0 : Int32)) S1)
def f_X12_chosen : Nat → z_St → Option (Int32 × z_St) := z_op (b_X12_chosen)
theorem e_X12_chosen (v0 : Nat) (S : z_St) : f_X12_chosen v0 S = b_X12_chosen v0 S := congrFun (congrFun (z_op_eq (b_X12_chosen)) v0) S
def g_X12_chosen : z_G := .inl (fun as S => match as with
  | [.ref v0] => f_X12_chosen v0 S
  | _ => none)
def c_X12_chosen : List z_E := [
  (0, .aload_n 0, 1, .null, [], z_g0),
  (1, .iconst 0, 1, .int ((0 : Int32)), [], z_g0),
  (2, .putfield 224, 3, .null, [13, 0, 0], z_g0),
  (5, .iconst (-1), 1, .int ((-1 : Int32)), [], z_g0),
  (6, .istore_n 1, 1, .null, [], z_g0),
  (7, .iconst 0, 1, .int ((0 : Int32)), [], z_g0),
  (8, .istore_n 2, 1, .null, [], z_g0),
  (9, .iload_n 2, 1, .null, [], z_g0),
  (10, .bipush 8, 2, .int ((8 : Int32)), [], z_g0),
  (12, .if_icmp .ge 91, 3, .null, [103], z_g0),
  (15, .aload_n 0, 1, .null, [], z_g0),
  (16, .getfield 215, 3, .null, [13, 95, 3], z_g0),
  (19, .iload_n 2, 1, .null, [], z_g0),
  (20, .baload, 1, .null, [104], z_g0),
  (21, .ifCond .eq 76, 3, .null, [97], z_g0),
  (24, .aload_n 0, 1, .null, [], z_g0),
  (25, .aload_n 0, 1, .null, [], z_g0),
  (26, .getfield 218, 3, .null, [13, 96, 3], z_g0),
  (29, .iload_n 2, 1, .null, [], z_g0),
  (30, .daload, 1, .null, [], z_g0),
  (31, .invokevirtual 642, 3, .null, [1, 13, 0], g_X12_regretOf),
  (34, .dstore_n 3, 1, .null, [], z_g0),
  (35, .iload_n 1, 1, .null, [], z_g0),
  (36, .iconst (-1), 1, .int ((-1 : Int32)), [], z_g0),
  (37, .if_icmp .ne 7, 3, .null, [44], z_g0),
  (40, .dconst 0, 1, .double FP.dconst0, [], z_g0),
  (41, .goto 13, 3, .null, [54], z_g0),
  (44, .aload_n 0, 1, .null, [], z_g0),
  (45, .aload_n 0, 1, .null, [], z_g0),
  (46, .getfield 218, 3, .null, [13, 96, 3], z_g0),
  (49, .iload_n 1, 1, .null, [], z_g0),
  (50, .daload, 1, .null, [], z_g0),
  (51, .invokevirtual 642, 3, .null, [1, 13, 0], g_X12_regretOf),
  (54, .dstore 5, 2, .null, [], z_g0),
  (56, .iload_n 1, 1, .null, [], z_g0),
  (57, .iconst (-1), 1, .int ((-1 : Int32)), [], z_g0),
  (58, .if_icmp .eq 33, 3, .null, [91], z_g0),
  (61, .dload_n 3, 1, .null, [], z_g0),
  (62, .dload 5, 2, .null, [], z_g0),
  (64, .dcmp .g, 1, .null, [], z_g0),
  (65, .ifCond .lt 26, 3, .null, [91], z_g0),
  (68, .dload_n 3, 1, .null, [], z_g0),
  (69, .dload 5, 2, .null, [], z_g0),
  (71, .dcmp .l, 1, .null, [], z_g0),
  (72, .ifCond .ne 23, 3, .null, [95], z_g0),
  (75, .aload_n 0, 1, .null, [], z_g0),
  (76, .getfield 218, 3, .null, [13, 96, 3], z_g0),
  (79, .iload_n 2, 1, .null, [], z_g0),
  (80, .daload, 1, .null, [], z_g0),
  (81, .aload_n 0, 1, .null, [], z_g0),
  (82, .getfield 218, 3, .null, [13, 96, 3], z_g0),
  (85, .iload_n 1, 1, .null, [], z_g0),
  (86, .daload, 1, .null, [], z_g0),
  (87, .dcmp .g, 1, .null, [], z_g0),
  (88, .ifCond .ge 7, 3, .null, [95], z_g0),
  (91, .iload_n 2, 1, .null, [], z_g0),
  (92, .goto 4, 3, .null, [96], z_g0),
  (95, .iload_n 1, 1, .null, [], z_g0),
  (96, .istore_n 1, 1, .null, [], z_g0),
  (97, .iinc 2 1, 3, .int (1 : Int32), [], z_g0),
  (100, .goto (-91), 3, .null, [9], z_g0),
  (103, .iload_n 1, 1, .null, [], z_g0),
  (104, .ireturn, 1, .null, [], z_g0)]
def a_X12_chosen_9 {ρ : Type} (k : Nat → Int32 → Int32 → z_St → Option ρ) (ls : z_Lv) (st : List Value) (S : z_St) : Option ρ := match z_lk ls 0, z_lk ls 1, z_lk ls 2, st with
  | .ref v0, .int v1, .int v2, [] => k v0 v1 v2 S
  | _, _, _, _ => none
def a_X12_chosen_54 {ρ : Type} (k : Nat → Int32 → Int32 → UInt64 → UInt64 → z_St → Option ρ) (ls : z_Lv) (st : List Value) (S : z_St) : Option ρ := match z_lk ls 0, z_lk ls 1, z_lk ls 2, z_lk ls 3, st with
  | .ref v0, .int v1, .int v2, .double v3, [.double t0] => k v0 v1 v2 v3 t0 S
  | _, _, _, _, _ => none
set_option maxRecDepth 100000 in
theorem r_X12_chosen_54 (k_9 : Nat → Int32 → Int32 → z_St → Option (Int32 × z_St)) (v0 : Nat) (v1 : Int32) (v2 : Int32) (v3 : UInt64) (t0 : UInt64) (S : z_St) : z_seg z_rI (c_X12_chosen) [9, 54] (fun pc => cond (Nat.beq pc 9) (a_X12_chosen_9 k_9) (fun _ _ _ => none)) 66 (z_to 54 (c_X12_chosen)) [(0, .ref v0), (1, .int v1), (2, .int v2), (3, .double v3)] [.double t0] S = j_X12_chosen_54 k_9 v0 v1 v2 v3 t0 S := rfl
set_option maxRecDepth 100000 in
theorem r_X12_chosen_9 (n : Nat) (v0 : Nat) (v1 : Int32) (v2 : Int32) (S : z_St) : z_seg z_rI (c_X12_chosen) [9, 54] (fun pc => cond (Nat.beq pc 9) (a_X12_chosen_9 (l_X12_chosen_9 n)) (cond (Nat.beq pc 54) (a_X12_chosen_54 (j_X12_chosen_54 (l_X12_chosen_9 n))) (fun _ _ _ => none))) 66 (z_to 9 (c_X12_chosen)) [(0, .ref v0), (1, .int v1), (2, .int v2)] [] S = l_X12_chosen_9 (n + 1) v0 v1 v2 S := rfl
set_option maxRecDepth 100000 in
theorem r_X12_chosen (v0 : Nat) (S : z_St) : z_seg z_rI (c_X12_chosen) [9, 54] (fun pc => cond (Nat.beq pc 9) (a_X12_chosen_9 (l_X12_chosen_9 z_N)) (fun _ _ _ => none)) 66 (c_X12_chosen) [(0, .ref v0)] [] S = b_X12_chosen v0 S := rfl
def l_X12_peak_35 : Nat → Nat → Int32 → Int32 → Int32 → z_St → Option (Int32 × z_St)
  | 0 => fun _ _ _ _ _ => none
  | n + 1 => fun (v0 : Nat) (v1 : Int32) (v2 : Int32) (v3 : Int32) (S : z_St) =>
z_chk S v0 13 (
if ((z_i S v0 92)) ≤ v3 then
(some (v2, S))
else
(z_chk S v0 13 (
z_onV (va_rf (z_r S v0 94)) fun b4 =>
z_inb S b4 103 ((((12 : Int32)) * v1) + v3) (
z_chk S v0 13 (
z_onV (va_rf (z_r S v0 94)) fun b5 =>
z_inb S b5 103 ((((12 : Int32)) * v1) + v2) (
if (Op.cmpValue (FP.dcmp ((z_d S b4 ((((12 : Int32)) * v1) + v3).toNatClampNeg)) ((z_d S b5 ((((12 : Int32)) * v1) + v2).toNatClampNeg))) .l) ≤ 0 then
(let x6 := v3 + (1 : Int32)
l_X12_peak_35 n v0 v1 v2 x6 S)
else
(let x7 := v3 + (1 : Int32)
l_X12_peak_35 n v0 v1 v3 x7 S)))))))
def b_X12_peak (v0 : Nat) (v1 : Int32) (S : z_St) : Option (Int32 × z_St) :=
z_chk S v0 13 (
let S1 := z_wi S v0 0 ((0 : Int32))
(f_X12_in v1.toInt64 ((0 : Int64)) ((5 : Int64)) S1).bind fun q2 =>
if q2.1 = 0 then
(some ((-2000000001 : Int32), q2.2))
else
(z_chk q2.2 v0 13 (
(f_X12_lacks v0 v1 q2.2).bind fun q3 =>
if q3.1 = 0 then
(l_X12_peak_35 z_N v0 v1 ((0 : Int32)) ((1 : Int32)) q3.2)
else
(some ((-1 : Int32), q3.2)))))
def f_X12_peak : Nat → Int32 → z_St → Option (Int32 × z_St) := z_op (b_X12_peak)
theorem e_X12_peak (v0 : Nat) (v1 : Int32) (S : z_St) : f_X12_peak v0 v1 S = b_X12_peak v0 v1 S := congrFun (congrFun (congrFun (z_op_eq (b_X12_peak)) v0) v1) S
def g_X12_peak : z_G := .inl (fun as S => match as with
  | [.ref v0, .int v1] => f_X12_peak v0 v1 S
  | _ => none)
def c_X12_peak : List z_E := [
  (0, .aload_n 0, 1, .null, [], z_g0),
  (1, .iconst 0, 1, .int ((0 : Int32)), [], z_g0),
  (2, .putfield 224, 3, .null, [13, 0, 0], z_g0),
  (5, .iload_n 1, 1, .null, [], z_g0),
  (6, .i2l, 1, .null, [], z_g0),
  (7, .lconst 0, 1, .long (0 : Int64), [], z_g0),
  (8, .ldc2_w 334, 3, .long (5 : Int64), [], z_g0),
  (11, .invokestatic 274, 3, .null, [0, 0, 0, 0], g_X12_in),
  (14, .ifCond .ne 7, 3, .null, [21], z_g0),
  (17, .ldc_w 296, 3, .int (-2000000001 : Int32), [], z_g0),
  (20, .ireturn, 1, .null, [], z_g0),
  (21, .aload_n 0, 1, .null, [], z_g0),
  (22, .iload_n 1, 1, .null, [], z_g0),
  (23, .invokevirtual 633, 3, .null, [1, 13, 0], g_X12_lacks),
  (26, .ifCond .eq 5, 3, .null, [31], z_g0),
  (29, .iconst (-1), 1, .int ((-1 : Int32)), [], z_g0),
  (30, .ireturn, 1, .null, [], z_g0),
  (31, .iconst 0, 1, .int ((0 : Int32)), [], z_g0),
  (32, .istore_n 2, 1, .null, [], z_g0),
  (33, .iconst 1, 1, .int ((1 : Int32)), [], z_g0),
  (34, .istore_n 3, 1, .null, [], z_g0),
  (35, .iload_n 3, 1, .null, [], z_g0),
  (36, .aload_n 0, 1, .null, [], z_g0),
  (37, .getfield 205, 3, .null, [13, 92, 0], z_g0),
  (40, .if_icmp .ge 41, 3, .null, [81], z_g0),
  (43, .aload_n 0, 1, .null, [], z_g0),
  (44, .getfield 212, 3, .null, [13, 94, 3], z_g0),
  (47, .bipush 12, 2, .int ((12 : Int32)), [], z_g0),
  (49, .iload_n 1, 1, .null, [], z_g0),
  (50, .imul, 1, .null, [], z_g0),
  (51, .iload_n 3, 1, .null, [], z_g0),
  (52, .iadd, 1, .null, [], z_g0),
  (53, .daload, 1, .null, [], z_g0),
  (54, .aload_n 0, 1, .null, [], z_g0),
  (55, .getfield 212, 3, .null, [13, 94, 3], z_g0),
  (58, .bipush 12, 2, .int ((12 : Int32)), [], z_g0),
  (60, .iload_n 1, 1, .null, [], z_g0),
  (61, .imul, 1, .null, [], z_g0),
  (62, .iload_n 2, 1, .null, [], z_g0),
  (63, .iadd, 1, .null, [], z_g0),
  (64, .daload, 1, .null, [], z_g0),
  (65, .dcmp .l, 1, .null, [], z_g0),
  (66, .ifCond .le 7, 3, .null, [73], z_g0),
  (69, .iload_n 3, 1, .null, [], z_g0),
  (70, .goto 4, 3, .null, [74], z_g0),
  (73, .iload_n 2, 1, .null, [], z_g0),
  (74, .istore_n 2, 1, .null, [], z_g0),
  (75, .iinc 3 1, 3, .int (1 : Int32), [], z_g0),
  (78, .goto (-43), 3, .null, [35], z_g0),
  (81, .iload_n 2, 1, .null, [], z_g0),
  (82, .ireturn, 1, .null, [], z_g0)]
def a_X12_peak_35 {ρ : Type} (k : Nat → Int32 → Int32 → Int32 → z_St → Option ρ) (ls : z_Lv) (st : List Value) (S : z_St) : Option ρ := match z_lk ls 0, z_lk ls 1, z_lk ls 2, z_lk ls 3, st with
  | .ref v0, .int v1, .int v2, .int v3, [] => k v0 v1 v2 v3 S
  | _, _, _, _, _ => none
set_option maxRecDepth 100000 in
theorem r_X12_peak_35 (n : Nat) (v0 : Nat) (v1 : Int32) (v2 : Int32) (v3 : Int32) (S : z_St) : z_seg z_rI (c_X12_peak) [35] (fun pc => cond (Nat.beq pc 35) (a_X12_peak_35 (l_X12_peak_35 n)) (fun _ _ _ => none)) 54 (z_to 35 (c_X12_peak)) [(0, .ref v0), (1, .int v1), (2, .int v2), (3, .int v3)] [] S = l_X12_peak_35 (n + 1) v0 v1 v2 v3 S := rfl
set_option maxRecDepth 100000 in
theorem r_X12_peak (v0 : Nat) (v1 : Int32) (S : z_St) : z_seg z_rI (c_X12_peak) [35] (fun pc => cond (Nat.beq pc 35) (a_X12_peak_35 (l_X12_peak_35 z_N)) (fun _ _ _ => none)) 54 (c_X12_peak) [(0, .ref v0), (1, .int v1)] [] S = b_X12_peak v0 v1 S := rfl
def j_X12_chance_117 (k_42 : Nat → Int32 → UInt64 → Int32 → Int32 → Int32 → z_St → Option (Int32 × z_St)) (v0 : Nat) (v3 : Int32) (v4 : UInt64) (v7 : Int32) (v8 : Int32) (v9 : Int32) (t0 : Int32) (t1 : Int32) (S : z_St) : Option (Int32 × z_St) :=
let x9 := t0 + t1
z_chk S v0 13 (
(f_X12_lacks v0 v8 S).bind fun q10 =>
if q10.1 = 0 then
(if v9 = 0 then
(let x13 := v7 + ((0 : Int32))
let x14 := v8 + (1 : Int32)
k_42 v0 v3 v4 x9 x13 x14 q10.2)
else
(let x15 := v7 + ((1 : Int32))
let x16 := v8 + (1 : Int32)
k_42 v0 v3 v4 x9 x15 x16 q10.2))
else
(let x11 := v7 + ((0 : Int32))
let x12 := v8 + (1 : Int32)
k_42 v0 v3 v4 x9 x11 x12 q10.2))
def l_X12_chance_55 (k_42 : Nat → Int32 → UInt64 → Int32 → Int32 → Int32 → z_St → Option (Int32 × z_St)) : Nat → Nat → Int32 → UInt64 → Int32 → Int32 → Int32 → Int32 → Int32 → z_St → Option (Int32 × z_St)
  | 0 => fun _ _ _ _ _ _ _ _ _ => none
  | n + 1 => fun (v0 : Nat) (v3 : Int32) (v4 : UInt64) (v6 : Int32) (v7 : Int32) (v8 : Int32) (v9 : Int32) (v10 : Int32) (S : z_St) =>
z_chk S v0 13 (
if ((z_i S v0 92)) ≤ v10 then
(z_chk S v0 13 (
(f_X12_lacks v0 v8 S).bind fun q4 =>
if q4.1 = 0 then
(j_X12_chance_117 k_42 v0 v3 v4 v7 v8 v9 v6 ((1 : Int32)) q4.2)
else
(j_X12_chance_117 k_42 v0 v3 v4 v7 v8 v9 v6 ((0 : Int32)) q4.2)))
else
(if v9 = 0 then
(z_chk S v0 13 (
z_onV (va_rf (z_r S v0 94)) fun b6 =>
z_inb S b6 103 ((((12 : Int32)) * v8) + v10) (
if (Op.cmpValue (FP.dcmp ((z_d S b6 ((((12 : Int32)) * v8) + v10).toNatClampNeg)) v4) .l) ≤ 0 then
(let x7 := v10 + (1 : Int32)
l_X12_chance_55 k_42 n v0 v3 v4 v6 v7 v8 ((0 : Int32)) x7 S)
else
(let x8 := v10 + (1 : Int32)
l_X12_chance_55 k_42 n v0 v3 v4 v6 v7 v8 ((1 : Int32)) x8 S))))
else
(let x5 := v10 + (1 : Int32)
l_X12_chance_55 k_42 n v0 v3 v4 v6 v7 v8 ((1 : Int32)) x5 S)))
def l_X12_chance_42 : Nat → Nat → Int32 → UInt64 → Int32 → Int32 → Int32 → z_St → Option (Int32 × z_St)
  | 0 => fun _ _ _ _ _ _ _ => none
  | n + 1 => fun (v0 : Nat) (v3 : Int32) (v4 : UInt64) (v6 : Int32) (v7 : Int32) (v8 : Int32) (S : z_St) =>
if ((6 : Int32)) ≤ v8 then
(if v3 = 0 then
(some (v7, S))
else
(some (v6, S)))
else
(l_X12_chance_55 (l_X12_chance_42 n) z_N v0 v3 v4 v6 v7 v8 ((0 : Int32)) ((0 : Int32)) S)
def b_X12_chance (v0 : Nat) (v1 : Int64) (v3 : Int32) (S : z_St) : Option (Int32 × z_St) :=
z_chk S v0 13 (
let S1 := z_wi S v0 0 ((0 : Int32))
(f_X12_realOf v1 S1).bind fun q2 =>
(f_X12_in v3.toInt64 ((0 : Int64)) ((1 : Int64)) q2.2).bind fun q3 =>
if q3.1 = 0 then
(some ((-2000000002 : Int32), q3.2))
else
(if (Op.cmpValue (FP.dcmp q2.1 q2.1) .l) = 0 then
(l_X12_chance_42 z_N v0 v3 q2.1 ((0 : Int32)) ((0 : Int32)) ((0 : Int32)) q3.2)
else
(some ((-2000000002 : Int32), q3.2))))
def f_X12_chance : Nat → Int64 → Int32 → z_St → Option (Int32 × z_St) := z_op (b_X12_chance)
theorem e_X12_chance (v0 : Nat) (v1 : Int64) (v3 : Int32) (S : z_St) : f_X12_chance v0 v1 v3 S = b_X12_chance v0 v1 v3 S := congrFun (congrFun (congrFun (congrFun (z_op_eq (b_X12_chance)) v0) v1) v3) S
def g_X12_chance : z_G := .inl (fun as S => match as with
  | [.ref v0, .long v1, .int v3] => f_X12_chance v0 v1 v3 S
  | _ => none)
def c_X12_chance : List z_E := [
  (0, .aload_n 0, 1, .null, [], z_g0),
  (1, .iconst 0, 1, .int ((0 : Int32)), [], z_g0),
  (2, .putfield 224, 3, .null, [13, 0, 0], z_g0),
  (5, .lload_n 1, 1, .null, [], z_g0),
  (6, .invokestatic 262, 3, .null, [0, 0], g_X12_realOf),
  (9, .dstore 4, 2, .null, [], z_g0),
  (11, .iload_n 3, 1, .null, [], z_g0),
  (12, .i2l, 1, .null, [], z_g0),
  (13, .lconst 0, 1, .long (0 : Int64), [], z_g0),
  (14, .lconst 1, 1, .long (1 : Int64), [], z_g0),
  (15, .invokestatic 274, 3, .null, [0, 0, 0, 0], g_X12_in),
  (18, .ifCond .eq 11, 3, .null, [29], z_g0),
  (21, .dload 4, 2, .null, [], z_g0),
  (23, .dload 4, 2, .null, [], z_g0),
  (25, .dcmp .l, 1, .null, [], z_g0),
  (26, .ifCond .eq 7, 3, .null, [33], z_g0),
  (29, .ldc_w 280, 3, .int (-2000000002 : Int32), [], z_g0),
  (32, .ireturn, 1, .null, [], z_g0),
  (33, .iconst 0, 1, .int ((0 : Int32)), [], z_g0),
  (34, .istore 6, 2, .null, [], z_g0),
  (36, .iconst 0, 1, .int ((0 : Int32)), [], z_g0),
  (37, .istore 7, 2, .null, [], z_g0),
  (39, .iconst 0, 1, .int ((0 : Int32)), [], z_g0),
  (40, .istore 8, 2, .null, [], z_g0),
  (42, .iload 8, 2, .null, [], z_g0),
  (44, .bipush 6, 2, .int ((6 : Int32)), [], z_g0),
  (46, .if_icmp .ge 104, 3, .null, [150], z_g0),
  (49, .iconst 0, 1, .int ((0 : Int32)), [], z_g0),
  (50, .istore 9, 2, .null, [], z_g0),
  (52, .iconst 0, 1, .int ((0 : Int32)), [], z_g0),
  (53, .istore 10, 2, .null, [], z_g0),
  (55, .iload 10, 2, .null, [], z_g0),
  (57, .aload_n 0, 1, .null, [], z_g0),
  (58, .getfield 205, 3, .null, [13, 92, 0], z_g0),
  (61, .if_icmp .ge 40, 3, .null, [101], z_g0),
  (64, .iload 9, 2, .null, [], z_g0),
  (66, .ifCond .ne 22, 3, .null, [88], z_g0),
  (69, .aload_n 0, 1, .null, [], z_g0),
  (70, .getfield 212, 3, .null, [13, 94, 3], z_g0),
  (73, .bipush 12, 2, .int ((12 : Int32)), [], z_g0),
  (75, .iload 8, 2, .null, [], z_g0),
  (77, .imul, 1, .null, [], z_g0),
  (78, .iload 10, 2, .null, [], z_g0),
  (80, .iadd, 1, .null, [], z_g0),
  (81, .daload, 1, .null, [], z_g0),
  (82, .dload 4, 2, .null, [], z_g0),
  (84, .dcmp .l, 1, .null, [], z_g0),
  (85, .ifCond .le 7, 3, .null, [92], z_g0),
  (88, .iconst 1, 1, .int ((1 : Int32)), [], z_g0),
  (89, .goto 4, 3, .null, [93], z_g0),
  (92, .iconst 0, 1, .int ((0 : Int32)), [], z_g0),
  (93, .istore 9, 2, .null, [], z_g0),
  (95, .iinc 10 1, 3, .int (1 : Int32), [], z_g0),
  (98, .goto (-43), 3, .null, [55], z_g0),
  (101, .iload 6, 2, .null, [], z_g0),
  (103, .aload_n 0, 1, .null, [], z_g0),
  (104, .iload 8, 2, .null, [], z_g0),
  (106, .invokevirtual 633, 3, .null, [1, 13, 0], g_X12_lacks),
  (109, .ifCond .eq 7, 3, .null, [116], z_g0),
  (112, .iconst 0, 1, .int ((0 : Int32)), [], z_g0),
  (113, .goto 4, 3, .null, [117], z_g0),
  (116, .iconst 1, 1, .int ((1 : Int32)), [], z_g0),
  (117, .iadd, 1, .null, [], z_g0),
  (118, .istore 6, 2, .null, [], z_g0),
  (120, .iload 7, 2, .null, [], z_g0),
  (122, .aload_n 0, 1, .null, [], z_g0),
  (123, .iload 8, 2, .null, [], z_g0),
  (125, .invokevirtual 633, 3, .null, [1, 13, 0], g_X12_lacks),
  (128, .ifCond .ne 12, 3, .null, [140], z_g0),
  (131, .iload 9, 2, .null, [], z_g0),
  (133, .ifCond .eq 7, 3, .null, [140], z_g0),
  (136, .iconst 1, 1, .int ((1 : Int32)), [], z_g0),
  (137, .goto 4, 3, .null, [141], z_g0),
  (140, .iconst 0, 1, .int ((0 : Int32)), [], z_g0),
  (141, .iadd, 1, .null, [], z_g0),
  (142, .istore 7, 2, .null, [], z_g0),
  (144, .iinc 8 1, 3, .int (1 : Int32), [], z_g0),
  (147, .goto (-105), 3, .null, [42], z_g0),
  (150, .iload_n 3, 1, .null, [], z_g0),
  (151, .ifCond .ne 8, 3, .null, [159], z_g0),
  (154, .iload 7, 2, .null, [], z_g0),
  (156, .goto 5, 3, .null, [161], z_g0),
  (159, .iload 6, 2, .null, [], z_g0),
  (161, .ireturn, 1, .null, [], z_g0)]
def a_X12_chance_42 {ρ : Type} (k : Nat → Int32 → UInt64 → Int32 → Int32 → Int32 → z_St → Option ρ) (ls : z_Lv) (st : List Value) (S : z_St) : Option ρ := match z_lk ls 0, z_lk ls 3, z_lk ls 4, z_lk ls 6, z_lk ls 7, z_lk ls 8, st with
  | .ref v0, .int v3, .double v4, .int v6, .int v7, .int v8, [] => k v0 v3 v4 v6 v7 v8 S
  | _, _, _, _, _, _, _ => none
def a_X12_chance_55 {ρ : Type} (k : Nat → Int32 → UInt64 → Int32 → Int32 → Int32 → Int32 → Int32 → z_St → Option ρ) (ls : z_Lv) (st : List Value) (S : z_St) : Option ρ := match z_lk ls 0, z_lk ls 3, z_lk ls 4, z_lk ls 6, z_lk ls 7, z_lk ls 8, z_lk ls 9, z_lk ls 10, st with
  | .ref v0, .int v3, .double v4, .int v6, .int v7, .int v8, .int v9, .int v10, [] => k v0 v3 v4 v6 v7 v8 v9 v10 S
  | _, _, _, _, _, _, _, _, _ => none
def a_X12_chance_117 {ρ : Type} (k : Nat → Int32 → UInt64 → Int32 → Int32 → Int32 → Int32 → Int32 → z_St → Option ρ) (ls : z_Lv) (st : List Value) (S : z_St) : Option ρ := match z_lk ls 0, z_lk ls 3, z_lk ls 4, z_lk ls 7, z_lk ls 8, z_lk ls 9, st with
  | .ref v0, .int v3, .double v4, .int v7, .int v8, .int v9, [.int t1, .int t0] => k v0 v3 v4 v7 v8 v9 t0 t1 S
  | _, _, _, _, _, _, _ => none
set_option maxRecDepth 100000 in
theorem r_X12_chance_117 (k_42 : Nat → Int32 → UInt64 → Int32 → Int32 → Int32 → z_St → Option (Int32 × z_St)) (v0 : Nat) (v3 : Int32) (v4 : UInt64) (v7 : Int32) (v8 : Int32) (v9 : Int32) (t0 : Int32) (t1 : Int32) (S : z_St) : z_seg z_rI (c_X12_chance) [42, 55, 117] (fun pc => cond (Nat.beq pc 42) (a_X12_chance_42 k_42) (fun _ _ _ => none)) 87 (z_to 117 (c_X12_chance)) [(0, .ref v0), (3, .int v3), (4, .double v4), (7, .int v7), (8, .int v8), (9, .int v9)] [.int t1, .int t0] S = j_X12_chance_117 k_42 v0 v3 v4 v7 v8 v9 t0 t1 S := rfl
set_option maxRecDepth 100000 in
theorem r_X12_chance_55 (k_42 : Nat → Int32 → UInt64 → Int32 → Int32 → Int32 → z_St → Option (Int32 × z_St)) (n : Nat) (v0 : Nat) (v3 : Int32) (v4 : UInt64) (v6 : Int32) (v7 : Int32) (v8 : Int32) (v9 : Int32) (v10 : Int32) (S : z_St) : z_seg z_rI (c_X12_chance) [42, 55, 117] (fun pc => cond (Nat.beq pc 55) (a_X12_chance_55 (l_X12_chance_55 k_42 n)) (cond (Nat.beq pc 117) (a_X12_chance_117 (j_X12_chance_117 k_42)) (fun _ _ _ => none))) 87 (z_to 55 (c_X12_chance)) [(0, .ref v0), (3, .int v3), (4, .double v4), (6, .int v6), (7, .int v7), (8, .int v8), (9, .int v9), (10, .int v10)] [] S = l_X12_chance_55 k_42 (n + 1) v0 v3 v4 v6 v7 v8 v9 v10 S := rfl
set_option maxRecDepth 100000 in
theorem r_X12_chance_42 (n : Nat) (v0 : Nat) (v3 : Int32) (v4 : UInt64) (v6 : Int32) (v7 : Int32) (v8 : Int32) (S : z_St) : z_seg z_rI (c_X12_chance) [42, 55, 117] (fun pc => cond (Nat.beq pc 55) (a_X12_chance_55 (l_X12_chance_55 (l_X12_chance_42 n) z_N)) (fun _ _ _ => none)) 87 (z_to 42 (c_X12_chance)) [(0, .ref v0), (3, .int v3), (4, .double v4), (6, .int v6), (7, .int v7), (8, .int v8)] [] S = l_X12_chance_42 (n + 1) v0 v3 v4 v6 v7 v8 S := rfl
set_option maxRecDepth 100000 in
theorem r_X12_chance (v0 : Nat) (v1 : Int64) (v3 : Int32) (S : z_St) : z_seg z_rI (c_X12_chance) [42, 55, 117] (fun pc => cond (Nat.beq pc 42) (a_X12_chance_42 (l_X12_chance_42 z_N)) (fun _ _ _ => none)) 87 (c_X12_chance) [(0, .ref v0), (1, .long v1), (3, .int v3)] [] S = b_X12_chance v0 v1 v3 S := rfl
def l_X12_sumOf_4 : Nat → Nat → Int32 → Int32 → Int32 → z_St → Option (Int32 × z_St)
  | 0 => fun _ _ _ _ _ => none
  | n + 1 => fun (v0 : Nat) (v1 : Int32) (v2 : Int32) (v3 : Int32) (S : z_St) =>
if ((28 : Int32)) ≤ v3 then
(some (v2, S))
else
(z_chk S v0 13 (
z_onV (va_rf (z_r S v0 98)) fun b1 =>
z_inb S b1 101 ((((32 : Int32)) * v1) + v3) (
let x2 := v2 ^^^ ((z_i S b1 ((((32 : Int32)) * v1) + v3).toNatClampNeg))
let x3 := ((x2 <<< (((7 : Int32)) &&& 31)) ||| ((x2.toUInt32 >>> (((25 : Int32)).toUInt32 &&& Int32.toUInt32 31)).toInt32)) * ((-1028477379 : Int32))
let x4 := v3 + (1 : Int32)
l_X12_sumOf_4 n v0 v1 x3 x4 S)))
def b_X12_sumOf (v0 : Nat) (v1 : Int32) (S : z_St) : Option (Int32 × z_St) :=
l_X12_sumOf_4 z_N v0 v1 ((0 : Int32)) ((0 : Int32)) S
def f_X12_sumOf : Nat → Int32 → z_St → Option (Int32 × z_St) := z_op (b_X12_sumOf)
theorem e_X12_sumOf (v0 : Nat) (v1 : Int32) (S : z_St) : f_X12_sumOf v0 v1 S = b_X12_sumOf v0 v1 S := congrFun (congrFun (congrFun (z_op_eq (b_X12_sumOf)) v0) v1) S
def g_X12_sumOf : z_G := .inl (fun as S => match as with
  | [.ref v0, .int v1] => f_X12_sumOf v0 v1 S
  | _ => none)
def c_X12_sumOf : List z_E := [
  (0, .iconst 0, 1, .int ((0 : Int32)), [], z_g0),
  (1, .istore_n 2, 1, .null, [], z_g0),
  (2, .iconst 0, 1, .int ((0 : Int32)), [], z_g0),
  (3, .istore_n 3, 1, .null, [], z_g0),
  (4, .iload_n 3, 1, .null, [], z_g0),
  (5, .bipush 28, 2, .int ((28 : Int32)), [], z_g0),
  (7, .if_icmp .ge 37, 3, .null, [44], z_g0),
  (10, .iload_n 2, 1, .null, [], z_g0),
  (11, .aload_n 0, 1, .null, [], z_g0),
  (12, .getfield 221, 3, .null, [13, 98, 3], z_g0),
  (15, .bipush 32, 2, .int ((32 : Int32)), [], z_g0),
  (17, .iload_n 1, 1, .null, [], z_g0),
  (18, .imul, 1, .null, [], z_g0),
  (19, .iload_n 3, 1, .null, [], z_g0),
  (20, .iadd, 1, .null, [], z_g0),
  (21, .iaload, 1, .null, [101], z_g0),
  (22, .ixor, 1, .null, [], z_g0),
  (23, .istore_n 2, 1, .null, [], z_g0),
  (24, .iload_n 2, 1, .null, [], z_g0),
  (25, .bipush 7, 2, .int ((7 : Int32)), [], z_g0),
  (27, .ishl, 1, .null, [], z_g0),
  (28, .iload_n 2, 1, .null, [], z_g0),
  (29, .bipush 25, 2, .int ((25 : Int32)), [], z_g0),
  (31, .iushr, 1, .null, [], z_g0),
  (32, .ior, 1, .null, [], z_g0),
  (33, .ldc_w 645, 3, .int (-1028477379 : Int32), [], z_g0),
  (36, .imul, 1, .null, [], z_g0),
  (37, .istore_n 2, 1, .null, [], z_g0),
  (38, .iinc 3 1, 3, .int (1 : Int32), [], z_g0),
  (41, .goto (-37), 3, .null, [4], z_g0),
  (44, .iload_n 2, 1, .null, [], z_g0),
  (45, .ireturn, 1, .null, [], z_g0)]
def a_X12_sumOf_4 {ρ : Type} (k : Nat → Int32 → Int32 → Int32 → z_St → Option ρ) (ls : z_Lv) (st : List Value) (S : z_St) : Option ρ := match z_lk ls 0, z_lk ls 1, z_lk ls 2, z_lk ls 3, st with
  | .ref v0, .int v1, .int v2, .int v3, [] => k v0 v1 v2 v3 S
  | _, _, _, _, _ => none
set_option maxRecDepth 100000 in
theorem r_X12_sumOf_4 (n : Nat) (v0 : Nat) (v1 : Int32) (v2 : Int32) (v3 : Int32) (S : z_St) : z_seg z_rI (c_X12_sumOf) [4] (fun pc => cond (Nat.beq pc 4) (a_X12_sumOf_4 (l_X12_sumOf_4 n)) (fun _ _ _ => none)) 35 (z_to 4 (c_X12_sumOf)) [(0, .ref v0), (1, .int v1), (2, .int v2), (3, .int v3)] [] S = l_X12_sumOf_4 (n + 1) v0 v1 v2 v3 S := rfl
set_option maxRecDepth 100000 in
theorem r_X12_sumOf (v0 : Nat) (v1 : Int32) (S : z_St) : z_seg z_rI (c_X12_sumOf) [4] (fun pc => cond (Nat.beq pc 4) (a_X12_sumOf_4 (l_X12_sumOf_4 z_N)) (fun _ _ _ => none)) 35 (c_X12_sumOf) [(0, .ref v0), (1, .int v1)] [] S = b_X12_sumOf v0 v1 S := rfl
def l_X12_book_204 : Nat → Nat → Int32 → Int32 → Int32 → z_St → Option (Int32 × z_St)
  | 0 => fun _ _ _ _ _ => none
  | n + 1 => fun (v0 : Nat) (v2 : Int32) (v3 : Int32) (v4 : Int32) (S : z_St) =>
if ((4 : Int32)) ≤ v4 then
(z_chk S v0 13 (
some ((z_i S v0 99), S)))
else
(z_chk S v0 13 (
z_onV (va_rf (z_r S v0 98)) fun b14 =>
z_inb S b14 101 (((((32 : Int32)) * v2) + ((28 : Int32))) + v4) (
let S15 := z_wi S b14 (((((32 : Int32)) * v2) + ((28 : Int32))) + v4).toNatClampNeg ((v3 >>> ((((24 : Int32)) - (((8 : Int32)) * v4)) &&& 31)) &&& ((255 : Int32)))
let x16 := v4 + (1 : Int32)
l_X12_book_204 n v0 v2 v3 x16 S15)))
def j_X12_book_174 (k_81 : Nat → Int32 → Int32 → Int32 → z_St → Option (Int32 × z_St)) (v0 : Nat) (v1 : Int32) (v2 : Int32) (v3 : Int32) (t0 : Int32) (S : z_St) : Option (Int32 × z_St) :=
z_chk S v0 13 (
z_onV (va_rf (z_r S v0 98)) fun b17 =>
z_inb S b17 101 ((((32 : Int32)) * v2) + v3) (
let S18 := z_wi S b17 ((((32 : Int32)) * v2) + v3).toNatClampNeg t0
let x19 := v3 + (1 : Int32)
k_81 v0 v1 v2 x19 S18))
def l_X12_book_81 : Nat → Nat → Int32 → Int32 → Int32 → z_St → Option (Int32 × z_St)
  | 0 => fun _ _ _ _ _ => none
  | n + 1 => fun (v0 : Nat) (v1 : Int32) (v2 : Int32) (v3 : Int32) (S : z_St) =>
if ((32 : Int32)) ≤ v3 then
(z_chk S v0 13 (
(f_X12_sumOf v0 v2 S).bind fun q8 =>
l_X12_book_204 z_N v0 v2 q8.1 ((0 : Int32)) q8.2))
else
(if v3 = 0 then
(z_chk S v0 13 (
j_X12_book_174 (l_X12_book_81 n) v0 v1 v2 v3 (((z_i S v0 99)) >>> (((8 : Int32)) &&& 31)) S))
else
(if v3 = ((1 : Int32)) then
(z_chk S v0 13 (
j_X12_book_174 (l_X12_book_81 n) v0 v1 v2 v3 (((z_i S v0 99)) &&& ((255 : Int32))) S))
else
(if v3 = ((2 : Int32)) then
(z_chk S v0 13 (
z_onV (va_rf (z_r S v0 5)) fun b13 =>
z_inb S b13 101 v1 (
j_X12_book_174 (l_X12_book_81 n) v0 v1 v2 v3 ((z_i S b13 v1.toNatClampNeg)) S)))
else
(z_chk S v0 13 (
z_onV (va_rf (z_r S v0 5)) fun b9 =>
z_inb S b9 101 v1 (
if (((3 : Int32)) + ((z_i S b9 v1.toNatClampNeg))) ≤ v3 then
(j_X12_book_174 (l_X12_book_81 n) v0 v1 v2 v3 ((0 : Int32)) S)
else
(z_chk S v0 13 (
z_onV (va_rf (z_r S v0 4)) fun b10 =>
z_inb S b10 101 v1 (
z_chk S v0 13 (
z_onV (va_rf (z_r S v0 6)) fun b11 =>
z_inb S b11 102 (((((64 : Int32)) * v1) + v3) - ((3 : Int32))) (
(f_X12_wholeOf ((z_i S b10 v1.toNatClampNeg)) ((z_l S b11 (((((64 : Int32)) * v1) + v3) - ((3 : Int32))).toNatClampNeg)) S).bind fun q12 =>
j_X12_book_174 (l_X12_book_81 n) v0 v1 v2 v3 ((q12.1 &&& ((255 : Int64))).toInt32) q12.2)))))))))))
def b_X12_book (v0 : Nat) (v1 : Int32) (S : z_St) : Option (Int32 × z_St) :=
z_chk S v0 13 (
let S1 := z_wi S v0 0 ((0 : Int32))
z_chk S1 v0 13 (
(f_X12_noRow v0 v1 S1).bind fun q2 =>
if q2.1 = 0 then
(if v1 = ((-1 : Int32)) then
(z_chk q2.2 v0 13 (
(f_X12_fails v0 ((1 : Int32)) q2.2).bind fun q7 =>
some (q7.1, q7.2)))
else
(z_chk q2.2 v0 13 (
z_onV (va_rf (z_r q2.2 v0 5)) fun b3 =>
z_inb q2.2 b3 101 v1 (
if ((z_i q2.2 b3 v1.toNatClampNeg)) ≤ ((24 : Int32)) then
(z_chk q2.2 v0 13 (
if ((z_i q2.2 v0 99)) = ((60000 : Int32)) then
(some ((-2000000004 : Int32), q2.2))
else
(z_chk q2.2 v0 13 (
(f_X12_well v0 q2.2).bind fun q4 =>
z_chk q4 v0 13 (
z_nz ((32 : Int32)) (
let x5 := ((z_i q4 v0 99)) - ((z_i q4 v0 99)) / ((32 : Int32)) * ((32 : Int32))
z_chk q4 v0 13 (
z_chk q4 v0 13 (
let S6 := z_wi q4 v0 99 (((z_i q4 v0 99)) + ((1 : Int32)))
l_X12_book_81 z_N v0 v1 x5 ((0 : Int32)) S6))))))))
else
(some ((-2000000002 : Int32), q2.2))))))
else
(some ((-2000000001 : Int32), q2.2))))
def f_X12_book : Nat → Int32 → z_St → Option (Int32 × z_St) := z_op (b_X12_book)
theorem e_X12_book (v0 : Nat) (v1 : Int32) (S : z_St) : f_X12_book v0 v1 S = b_X12_book v0 v1 S := congrFun (congrFun (congrFun (z_op_eq (b_X12_book)) v0) v1) S
def g_X12_book : z_G := .inl (fun as S => match as with
  | [.ref v0, .int v1] => f_X12_book v0 v1 S
  | _ => none)
def c_X12_book : List z_E := [
  (0, .aload_n 0, 1, .null, [], z_g0),
  (1, .iconst 0, 1, .int ((0 : Int32)), [], z_g0),
  (2, .putfield 224, 3, .null, [13, 0, 0], z_g0),
  (5, .aload_n 0, 1, .null, [], z_g0),
  (6, .iload_n 1, 1, .null, [], z_g0),
  (7, .invokevirtual 293, 3, .null, [1, 13, 0], g_X12_noRow),
  (10, .ifCond .eq 7, 3, .null, [17], z_g0),
  (13, .ldc_w 296, 3, .int (-2000000001 : Int32), [], z_g0),
  (16, .ireturn, 1, .null, [], z_g0),
  (17, .iload_n 1, 1, .null, [], z_g0),
  (18, .iconst (-1), 1, .int ((-1 : Int32)), [], z_g0),
  (19, .if_icmp .ne 9, 3, .null, [28], z_g0),
  (22, .aload_n 0, 1, .null, [], z_g0),
  (23, .iconst 1, 1, .int ((1 : Int32)), [], z_g0),
  (24, .invokevirtual 282, 3, .null, [1, 13, 0], g_X12_fails),
  (27, .ireturn, 1, .null, [], z_g0),
  (28, .aload_n 0, 1, .null, [], z_g0),
  (29, .getfield 13, 3, .null, [13, 5, 3], z_g0),
  (32, .iload_n 1, 1, .null, [], z_g0),
  (33, .iaload, 1, .null, [101], z_g0),
  (34, .bipush 24, 2, .int ((24 : Int32)), [], z_g0),
  (36, .if_icmp .le 7, 3, .null, [43], z_g0),
  (39, .ldc_w 280, 3, .int (-2000000002 : Int32), [], z_g0),
  (42, .ireturn, 1, .null, [], z_g0),
  (43, .aload_n 0, 1, .null, [], z_g0),
  (44, .getfield 611, 3, .null, [13, 99, 0], z_g0),
  (47, .ldc_w 646, 3, .int (60000 : Int32), [], z_g0),
  (50, .if_icmp .ne 7, 3, .null, [57], z_g0),
  (53, .ldc_w 281, 3, .int (-2000000004 : Int32), [], z_g0),
  (56, .ireturn, 1, .null, [], z_g0),
  (57, .aload_n 0, 1, .null, [], z_g0),
  (58, .invokevirtual 286, 3, .null, [1, 13], g_X12_well),
  (61, .aload_n 0, 1, .null, [], z_g0),
  (62, .getfield 611, 3, .null, [13, 99, 0], z_g0),
  (65, .bipush 32, 2, .int ((32 : Int32)), [], z_g0),
  (67, .irem, 1, .null, [], z_g0),
  (68, .istore_n 2, 1, .null, [], z_g0),
  (69, .aload_n 0, 1, .null, [], z_g0),
  (70, .dup, 1, .null, [], z_g0),
  (71, .getfield 611, 3, .null, [13, 99, 0], z_g0),
  (74, .iconst 1, 1, .int ((1 : Int32)), [], z_g0),
  (75, .iadd, 1, .null, [], z_g0),
  (76, .putfield 611, 3, .null, [13, 99, 0], z_g0),
  (79, .iconst 0, 1, .int ((0 : Int32)), [], z_g0),
  (80, .istore_n 3, 1, .null, [], z_g0),
  (81, .iload_n 3, 1, .null, [], z_g0),
  (82, .bipush 32, 2, .int ((32 : Int32)), [], z_g0),
  (84, .if_icmp .ge 111, 3, .null, [195], z_g0),
  (87, .iload_n 3, 1, .null, [], z_g0),
  (88, .ifCond .ne 13, 3, .null, [101], z_g0),
  (91, .aload_n 0, 1, .null, [], z_g0),
  (92, .getfield 611, 3, .null, [13, 99, 0], z_g0),
  (95, .bipush 8, 2, .int ((8 : Int32)), [], z_g0),
  (97, .ishr, 1, .null, [], z_g0),
  (98, .goto 76, 3, .null, [174], z_g0),
  (101, .iload_n 3, 1, .null, [], z_g0),
  (102, .iconst 1, 1, .int ((1 : Int32)), [], z_g0),
  (103, .if_icmp .ne 14, 3, .null, [117], z_g0),
  (106, .aload_n 0, 1, .null, [], z_g0),
  (107, .getfield 611, 3, .null, [13, 99, 0], z_g0),
  (110, .sipush 255, 3, .int ((255 : Int32)), [], z_g0),
  (113, .iand, 1, .null, [], z_g0),
  (114, .goto 60, 3, .null, [174], z_g0),
  (117, .iload_n 3, 1, .null, [], z_g0),
  (118, .iconst 2, 1, .int ((2 : Int32)), [], z_g0),
  (119, .if_icmp .ne 12, 3, .null, [131], z_g0),
  (122, .aload_n 0, 1, .null, [], z_g0),
  (123, .getfield 13, 3, .null, [13, 5, 3], z_g0),
  (126, .iload_n 1, 1, .null, [], z_g0),
  (127, .iaload, 1, .null, [101], z_g0),
  (128, .goto 46, 3, .null, [174], z_g0),
  (131, .iload_n 3, 1, .null, [], z_g0),
  (132, .iconst 3, 1, .int ((3 : Int32)), [], z_g0),
  (133, .aload_n 0, 1, .null, [], z_g0),
  (134, .getfield 13, 3, .null, [13, 5, 3], z_g0),
  (137, .iload_n 1, 1, .null, [], z_g0),
  (138, .iaload, 1, .null, [101], z_g0),
  (139, .iadd, 1, .null, [], z_g0),
  (140, .if_icmp .ge 33, 3, .null, [173], z_g0),
  (143, .aload_n 0, 1, .null, [], z_g0),
  (144, .getfield 7, 3, .null, [13, 4, 3], z_g0),
  (147, .iload_n 1, 1, .null, [], z_g0),
  (148, .iaload, 1, .null, [101], z_g0),
  (149, .aload_n 0, 1, .null, [], z_g0),
  (150, .getfield 16, 3, .null, [13, 6, 3], z_g0),
  (153, .bipush 64, 2, .int ((64 : Int32)), [], z_g0),
  (155, .iload_n 1, 1, .null, [], z_g0),
  (156, .imul, 1, .null, [], z_g0),
  (157, .iload_n 3, 1, .null, [], z_g0),
  (158, .iadd, 1, .null, [], z_g0),
  (159, .iconst 3, 1, .int ((3 : Int32)), [], z_g0),
  (160, .isub, 1, .null, [], z_g0),
  (161, .laload, 1, .null, [], z_g0),
  (162, .invokestatic 305, 3, .null, [0, 0, 0], g_X12_wholeOf),
  (165, .ldc2_w 647, 3, .long (255 : Int64), [], z_g0),
  (168, .land, 1, .null, [], z_g0),
  (169, .l2i, 1, .null, [], z_g0),
  (170, .goto 4, 3, .null, [174], z_g0),
  (173, .iconst 0, 1, .int ((0 : Int32)), [], z_g0),
  (174, .istore 4, 2, .null, [], z_g0),
  (176, .aload_n 0, 1, .null, [], z_g0),
  (177, .getfield 221, 3, .null, [13, 98, 3], z_g0),
  (180, .bipush 32, 2, .int ((32 : Int32)), [], z_g0),
  (182, .iload_n 2, 1, .null, [], z_g0),
  (183, .imul, 1, .null, [], z_g0),
  (184, .iload_n 3, 1, .null, [], z_g0),
  (185, .iadd, 1, .null, [], z_g0),
  (186, .iload 4, 2, .null, [], z_g0),
  (188, .iastore, 1, .null, [], z_g0),
  (189, .iinc 3 1, 3, .int (1 : Int32), [], z_g0),
  (192, .goto (-111), 3, .null, [81], z_g0),
  (195, .aload_n 0, 1, .null, [], z_g0),
  (196, .iload_n 2, 1, .null, [], z_g0),
  (197, .invokevirtual 649, 3, .null, [1, 13, 0], g_X12_sumOf),
  (200, .istore_n 3, 1, .null, [], z_g0),
  (201, .iconst 0, 1, .int ((0 : Int32)), [], z_g0),
  (202, .istore 4, 2, .null, [], z_g0),
  (204, .iload 4, 2, .null, [], z_g0),
  (206, .iconst 4, 1, .int ((4 : Int32)), [], z_g0),
  (207, .if_icmp .ge 38, 3, .null, [245], z_g0),
  (210, .aload_n 0, 1, .null, [], z_g0),
  (211, .getfield 221, 3, .null, [13, 98, 3], z_g0),
  (214, .bipush 32, 2, .int ((32 : Int32)), [], z_g0),
  (216, .iload_n 2, 1, .null, [], z_g0),
  (217, .imul, 1, .null, [], z_g0),
  (218, .bipush 28, 2, .int ((28 : Int32)), [], z_g0),
  (220, .iadd, 1, .null, [], z_g0),
  (221, .iload 4, 2, .null, [], z_g0),
  (223, .iadd, 1, .null, [], z_g0),
  (224, .iload_n 3, 1, .null, [], z_g0),
  (225, .bipush 24, 2, .int ((24 : Int32)), [], z_g0),
  (227, .bipush 8, 2, .int ((8 : Int32)), [], z_g0),
  (229, .iload 4, 2, .null, [], z_g0),
  (231, .imul, 1, .null, [], z_g0),
  (232, .isub, 1, .null, [], z_g0),
  (233, .ishr, 1, .null, [], z_g0),
  (234, .sipush 255, 3, .int ((255 : Int32)), [], z_g0),
  (237, .iand, 1, .null, [], z_g0),
  (238, .iastore, 1, .null, [], z_g0),
  (239, .iinc 4 1, 3, .int (1 : Int32), [], z_g0),
  (242, .goto (-38), 3, .null, [204], z_g0),
  (245, .aload_n 0, 1, .null, [], z_g0),
  (246, .getfield 611, 3, .null, [13, 99, 0], z_g0),
  (249, .ireturn, 1, .null, [], z_g0)]
def a_X12_book_81 {ρ : Type} (k : Nat → Int32 → Int32 → Int32 → z_St → Option ρ) (ls : z_Lv) (st : List Value) (S : z_St) : Option ρ := match z_lk ls 0, z_lk ls 1, z_lk ls 2, z_lk ls 3, st with
  | .ref v0, .int v1, .int v2, .int v3, [] => k v0 v1 v2 v3 S
  | _, _, _, _, _ => none
def a_X12_book_174 {ρ : Type} (k : Nat → Int32 → Int32 → Int32 → Int32 → z_St → Option ρ) (ls : z_Lv) (st : List Value) (S : z_St) : Option ρ := match z_lk ls 0, z_lk ls 1, z_lk ls 2, z_lk ls 3, st with
  | .ref v0, .int v1, .int v2, .int v3, [.int t0] => k v0 v1 v2 v3 t0 S
  | _, _, _, _, _ => none
def a_X12_book_204 {ρ : Type} (k : Nat → Int32 → Int32 → Int32 → z_St → Option ρ) (ls : z_Lv) (st : List Value) (S : z_St) : Option ρ := match z_lk ls 0, z_lk ls 2, z_lk ls 3, z_lk ls 4, st with
  | .ref v0, .int v2, .int v3, .int v4, [] => k v0 v2 v3 v4 S
  | _, _, _, _, _ => none
set_option maxRecDepth 100000 in
theorem r_X12_book_204 (n : Nat) (v0 : Nat) (v2 : Int32) (v3 : Int32) (v4 : Int32) (S : z_St) : z_seg z_rI (c_X12_book) [81, 174, 204] (fun pc => cond (Nat.beq pc 204) (a_X12_book_204 (l_X12_book_204 n)) (fun _ _ _ => none)) 147 (z_to 204 (c_X12_book)) [(0, .ref v0), (2, .int v2), (3, .int v3), (4, .int v4)] [] S = l_X12_book_204 (n + 1) v0 v2 v3 v4 S := rfl
set_option maxRecDepth 100000 in
theorem r_X12_book_174 (k_81 : Nat → Int32 → Int32 → Int32 → z_St → Option (Int32 × z_St)) (v0 : Nat) (v1 : Int32) (v2 : Int32) (v3 : Int32) (t0 : Int32) (S : z_St) : z_seg z_rI (c_X12_book) [81, 174, 204] (fun pc => cond (Nat.beq pc 81) (a_X12_book_81 k_81) (fun _ _ _ => none)) 147 (z_to 174 (c_X12_book)) [(0, .ref v0), (1, .int v1), (2, .int v2), (3, .int v3)] [.int t0] S = j_X12_book_174 k_81 v0 v1 v2 v3 t0 S := rfl
set_option maxRecDepth 100000 in
theorem r_X12_book_81 (n : Nat) (v0 : Nat) (v1 : Int32) (v2 : Int32) (v3 : Int32) (S : z_St) : z_seg z_rI (c_X12_book) [81, 174, 204] (fun pc => cond (Nat.beq pc 174) (a_X12_book_174 (j_X12_book_174 (l_X12_book_81 n))) (cond (Nat.beq pc 204) (a_X12_book_204 (l_X12_book_204 z_N)) (fun _ _ _ => none))) 147 (z_to 81 (c_X12_book)) [(0, .ref v0), (1, .int v1), (2, .int v2), (3, .int v3)] [] S = l_X12_book_81 (n + 1) v0 v1 v2 v3 S := rfl
set_option maxRecDepth 100000 in
theorem r_X12_book (v0 : Nat) (v1 : Int32) (S : z_St) : z_seg z_rI (c_X12_book) [81, 174, 204] (fun pc => cond (Nat.beq pc 81) (a_X12_book_81 (l_X12_book_81 z_N)) (fun _ _ _ => none)) 147 (c_X12_book) [(0, .ref v0), (1, .int v1)] [] S = b_X12_book v0 v1 S := rfl
def b_X12_pageByte (v0 : Nat) (v1 : Int32) (v2 : Int32) (S : z_St) : Option (Int32 × z_St) :=
z_chk S v0 13 (
let S1 := z_wi S v0 0 ((0 : Int32))
(f_X12_in v1.toInt64 ((0 : Int64)) ((31 : Int64)) S1).bind fun q2 =>
if q2.1 = 0 then
(z_chk q2.2 v0 13 (
(f_X12_fails v0 ((2 : Int32)) q2.2).bind fun q3 =>
some (q3.1, q3.2)))
else
((f_X12_in v2.toInt64 ((0 : Int64)) ((31 : Int64)) q2.2).bind fun q4 =>
if q4.1 = 0 then
(z_chk q4.2 v0 13 (
(f_X12_fails v0 ((2 : Int32)) q4.2).bind fun q7 =>
some (q7.1, q7.2)))
else
(z_chk q4.2 v0 13 (
(f_X12_well v0 q4.2).bind fun q5 =>
z_chk q5 v0 13 (
z_onV (va_rf (z_r q5 v0 98)) fun b6 =>
z_inb q5 b6 101 ((((32 : Int32)) * v1) + v2) (
some ((z_i q5 b6 ((((32 : Int32)) * v1) + v2).toNatClampNeg), q5)))))))
def f_X12_pageByte : Nat → Int32 → Int32 → z_St → Option (Int32 × z_St) := z_op (b_X12_pageByte)
theorem e_X12_pageByte (v0 : Nat) (v1 : Int32) (v2 : Int32) (S : z_St) : f_X12_pageByte v0 v1 v2 S = b_X12_pageByte v0 v1 v2 S := congrFun (congrFun (congrFun (congrFun (z_op_eq (b_X12_pageByte)) v0) v1) v2) S
def g_X12_pageByte : z_G := .inl (fun as S => match as with
  | [.ref v0, .int v1, .int v2] => f_X12_pageByte v0 v1 v2 S
  | _ => none)
def c_X12_pageByte : List z_E := [
  (0, .aload_n 0, 1, .null, [], z_g0),
  (1, .iconst 0, 1, .int ((0 : Int32)), [], z_g0),
  (2, .putfield 224, 3, .null, [13, 0, 0], z_g0),
  (5, .iload_n 1, 1, .null, [], z_g0),
  (6, .i2l, 1, .null, [], z_g0),
  (7, .lconst 0, 1, .long (0 : Int64), [], z_g0),
  (8, .ldc2_w 652, 3, .long (31 : Int64), [], z_g0),
  (11, .invokestatic 274, 3, .null, [0, 0, 0, 0], g_X12_in),
  (14, .ifCond .eq 15, 3, .null, [29], z_g0),
  (17, .iload_n 2, 1, .null, [], z_g0),
  (18, .i2l, 1, .null, [], z_g0),
  (19, .lconst 0, 1, .long (0 : Int64), [], z_g0),
  (20, .ldc2_w 652, 3, .long (31 : Int64), [], z_g0),
  (23, .invokestatic 274, 3, .null, [0, 0, 0, 0], g_X12_in),
  (26, .ifCond .ne 9, 3, .null, [35], z_g0),
  (29, .aload_n 0, 1, .null, [], z_g0),
  (30, .iconst 2, 1, .int ((2 : Int32)), [], z_g0),
  (31, .invokevirtual 282, 3, .null, [1, 13, 0], g_X12_fails),
  (34, .ireturn, 1, .null, [], z_g0),
  (35, .aload_n 0, 1, .null, [], z_g0),
  (36, .invokevirtual 286, 3, .null, [1, 13], g_X12_well),
  (39, .aload_n 0, 1, .null, [], z_g0),
  (40, .getfield 221, 3, .null, [13, 98, 3], z_g0),
  (43, .bipush 32, 2, .int ((32 : Int32)), [], z_g0),
  (45, .iload_n 1, 1, .null, [], z_g0),
  (46, .imul, 1, .null, [], z_g0),
  (47, .iload_n 2, 1, .null, [], z_g0),
  (48, .iadd, 1, .null, [], z_g0),
  (49, .iaload, 1, .null, [101], z_g0),
  (50, .ireturn, 1, .null, [], z_g0)]
set_option maxRecDepth 100000 in
theorem r_X12_pageByte (v0 : Nat) (v1 : Int32) (v2 : Int32) (S : z_St) : z_seg z_rI (c_X12_pageByte) [] (fun pc => fun _ _ _ => none) 33 (c_X12_pageByte) [(0, .ref v0), (1, .int v1), (2, .int v2)] [] S = b_X12_pageByte v0 v1 v2 S := rfl
def b_X12_damage (v0 : Nat) (v1 : Int32) (v2 : Int32) (v3 : Int32) (S : z_St) : Option (Int32 × z_St) :=
z_chk S v0 13 (
let S1 := z_wi S v0 0 ((0 : Int32))
(f_X12_in v3.toInt64 ((1 : Int64)) ((255 : Int64)) S1).bind fun q2 =>
if q2.1 = 0 then
(some ((-2000000002 : Int32), q2.2))
else
((f_X12_in v1.toInt64 ((0 : Int64)) ((31 : Int64)) q2.2).bind fun q3 =>
if q3.1 = 0 then
(z_chk q3.2 v0 13 (
(f_X12_fails v0 ((2 : Int32)) q3.2).bind fun q4 =>
some (q4.1, q4.2)))
else
((f_X12_in v2.toInt64 ((0 : Int64)) ((31 : Int64)) q3.2).bind fun q5 =>
if q5.1 = 0 then
(z_chk q5.2 v0 13 (
(f_X12_fails v0 ((2 : Int32)) q5.2).bind fun q9 =>
some (q9.1, q9.2)))
else
(z_chk q5.2 v0 13 (
(f_X12_well v0 q5.2).bind fun q6 =>
z_chk q6 v0 13 (
z_onV (va_rf (z_r q6 v0 98)) fun b7 =>
z_inb q6 b7 101 ((((32 : Int32)) * v1) + v2) (
z_inb q6 b7 101 ((((32 : Int32)) * v1) + v2) (
let S8 := z_wi q6 b7 ((((32 : Int32)) * v1) + v2).toNatClampNeg (((z_i q6 b7 ((((32 : Int32)) * v1) + v2).toNatClampNeg)) ^^^ v3)
some ((1 : Int32), S8)))))))))
def f_X12_damage : Nat → Int32 → Int32 → Int32 → z_St → Option (Int32 × z_St) := z_op (b_X12_damage)
theorem e_X12_damage (v0 : Nat) (v1 : Int32) (v2 : Int32) (v3 : Int32) (S : z_St) : f_X12_damage v0 v1 v2 v3 S = b_X12_damage v0 v1 v2 v3 S := congrFun (congrFun (congrFun (congrFun (congrFun (z_op_eq (b_X12_damage)) v0) v1) v2) v3) S
def g_X12_damage : z_G := .inl (fun as S => match as with
  | [.ref v0, .int v1, .int v2, .int v3] => f_X12_damage v0 v1 v2 v3 S
  | _ => none)
def c_X12_damage : List z_E := [
  (0, .aload_n 0, 1, .null, [], z_g0),
  (1, .iconst 0, 1, .int ((0 : Int32)), [], z_g0),
  (2, .putfield 224, 3, .null, [13, 0, 0], z_g0),
  (5, .iload_n 3, 1, .null, [], z_g0),
  (6, .i2l, 1, .null, [], z_g0),
  (7, .lconst 1, 1, .long (1 : Int64), [], z_g0),
  (8, .ldc2_w 647, 3, .long (255 : Int64), [], z_g0),
  (11, .invokestatic 274, 3, .null, [0, 0, 0, 0], g_X12_in),
  (14, .ifCond .ne 7, 3, .null, [21], z_g0),
  (17, .ldc_w 280, 3, .int (-2000000002 : Int32), [], z_g0),
  (20, .ireturn, 1, .null, [], z_g0),
  (21, .iload_n 1, 1, .null, [], z_g0),
  (22, .i2l, 1, .null, [], z_g0),
  (23, .lconst 0, 1, .long (0 : Int64), [], z_g0),
  (24, .ldc2_w 652, 3, .long (31 : Int64), [], z_g0),
  (27, .invokestatic 274, 3, .null, [0, 0, 0, 0], g_X12_in),
  (30, .ifCond .eq 15, 3, .null, [45], z_g0),
  (33, .iload_n 2, 1, .null, [], z_g0),
  (34, .i2l, 1, .null, [], z_g0),
  (35, .lconst 0, 1, .long (0 : Int64), [], z_g0),
  (36, .ldc2_w 652, 3, .long (31 : Int64), [], z_g0),
  (39, .invokestatic 274, 3, .null, [0, 0, 0, 0], g_X12_in),
  (42, .ifCond .ne 9, 3, .null, [51], z_g0),
  (45, .aload_n 0, 1, .null, [], z_g0),
  (46, .iconst 2, 1, .int ((2 : Int32)), [], z_g0),
  (47, .invokevirtual 282, 3, .null, [1, 13, 0], g_X12_fails),
  (50, .ireturn, 1, .null, [], z_g0),
  (51, .aload_n 0, 1, .null, [], z_g0),
  (52, .invokevirtual 286, 3, .null, [1, 13], g_X12_well),
  (55, .aload_n 0, 1, .null, [], z_g0),
  (56, .getfield 221, 3, .null, [13, 98, 3], z_g0),
  (59, .bipush 32, 2, .int ((32 : Int32)), [], z_g0),
  (61, .iload_n 1, 1, .null, [], z_g0),
  (62, .imul, 1, .null, [], z_g0),
  (63, .iload_n 2, 1, .null, [], z_g0),
  (64, .iadd, 1, .null, [], z_g0),
  (65, .dup2, 1, .null, [1], z_g0),
  (66, .iaload, 1, .null, [101], z_g0),
  (67, .iload_n 3, 1, .null, [], z_g0),
  (68, .ixor, 1, .null, [], z_g0),
  (69, .iastore, 1, .null, [], z_g0),
  (70, .iconst 1, 1, .int ((1 : Int32)), [], z_g0),
  (71, .ireturn, 1, .null, [], z_g0)]
set_option maxRecDepth 100000 in
theorem r_X12_damage (v0 : Nat) (v1 : Int32) (v2 : Int32) (v3 : Int32) (S : z_St) : z_seg z_rI (c_X12_damage) [] (fun pc => fun _ _ _ => none) 46 (c_X12_damage) [(0, .ref v0), (1, .int v1), (2, .int v2), (3, .int v3)] [] S = b_X12_damage v0 v1 v2 v3 S := rfl
def l_X12_tear_39 : Nat → Nat → Int32 → Int32 → z_St → Option (Int32 × z_St)
  | 0 => fun _ _ _ _ => none
  | n + 1 => fun (v0 : Nat) (v1 : Int32) (v3 : Int32) (S : z_St) =>
if ((32 : Int32)) ≤ v3 then
(some ((1 : Int32), S))
else
(z_chk S v0 13 (
z_onV (va_rf (z_r S v0 98)) fun b4 =>
z_inb S b4 101 ((((32 : Int32)) * v1) + v3) (
let S5 := z_wi S b4 ((((32 : Int32)) * v1) + v3).toNatClampNeg ((0 : Int32))
let x6 := v3 + (1 : Int32)
l_X12_tear_39 n v0 v1 x6 S5)))
def b_X12_tear (v0 : Nat) (v1 : Int32) (v2 : Int32) (S : z_St) : Option (Int32 × z_St) :=
z_chk S v0 13 (
let S1 := z_wi S v0 0 ((0 : Int32))
(f_X12_in v1.toInt64 ((0 : Int64)) ((31 : Int64)) S1).bind fun q2 =>
if q2.1 = 0 then
(some ((-2000000001 : Int32), q2.2))
else
((f_X12_in v2.toInt64 ((0 : Int64)) ((32 : Int64)) q2.2).bind fun q3 =>
if q3.1 = 0 then
(some ((-2000000002 : Int32), q3.2))
else
(l_X12_tear_39 z_N v0 v1 v2 q3.2)))
def f_X12_tear : Nat → Int32 → Int32 → z_St → Option (Int32 × z_St) := z_op (b_X12_tear)
theorem e_X12_tear (v0 : Nat) (v1 : Int32) (v2 : Int32) (S : z_St) : f_X12_tear v0 v1 v2 S = b_X12_tear v0 v1 v2 S := congrFun (congrFun (congrFun (congrFun (z_op_eq (b_X12_tear)) v0) v1) v2) S
def g_X12_tear : z_G := .inl (fun as S => match as with
  | [.ref v0, .int v1, .int v2] => f_X12_tear v0 v1 v2 S
  | _ => none)
def c_X12_tear : List z_E := [
  (0, .aload_n 0, 1, .null, [], z_g0),
  (1, .iconst 0, 1, .int ((0 : Int32)), [], z_g0),
  (2, .putfield 224, 3, .null, [13, 0, 0], z_g0),
  (5, .iload_n 1, 1, .null, [], z_g0),
  (6, .i2l, 1, .null, [], z_g0),
  (7, .lconst 0, 1, .long (0 : Int64), [], z_g0),
  (8, .ldc2_w 652, 3, .long (31 : Int64), [], z_g0),
  (11, .invokestatic 274, 3, .null, [0, 0, 0, 0], g_X12_in),
  (14, .ifCond .ne 7, 3, .null, [21], z_g0),
  (17, .ldc_w 296, 3, .int (-2000000001 : Int32), [], z_g0),
  (20, .ireturn, 1, .null, [], z_g0),
  (21, .iload_n 2, 1, .null, [], z_g0),
  (22, .i2l, 1, .null, [], z_g0),
  (23, .lconst 0, 1, .long (0 : Int64), [], z_g0),
  (24, .ldc2_w 654, 3, .long (32 : Int64), [], z_g0),
  (27, .invokestatic 274, 3, .null, [0, 0, 0, 0], g_X12_in),
  (30, .ifCond .ne 7, 3, .null, [37], z_g0),
  (33, .ldc_w 280, 3, .int (-2000000002 : Int32), [], z_g0),
  (36, .ireturn, 1, .null, [], z_g0),
  (37, .iload_n 2, 1, .null, [], z_g0),
  (38, .istore_n 3, 1, .null, [], z_g0),
  (39, .iload_n 3, 1, .null, [], z_g0),
  (40, .bipush 32, 2, .int ((32 : Int32)), [], z_g0),
  (42, .if_icmp .ge 21, 3, .null, [63], z_g0),
  (45, .aload_n 0, 1, .null, [], z_g0),
  (46, .getfield 221, 3, .null, [13, 98, 3], z_g0),
  (49, .bipush 32, 2, .int ((32 : Int32)), [], z_g0),
  (51, .iload_n 1, 1, .null, [], z_g0),
  (52, .imul, 1, .null, [], z_g0),
  (53, .iload_n 3, 1, .null, [], z_g0),
  (54, .iadd, 1, .null, [], z_g0),
  (55, .iconst 0, 1, .int ((0 : Int32)), [], z_g0),
  (56, .iastore, 1, .null, [], z_g0),
  (57, .iinc 3 1, 3, .int (1 : Int32), [], z_g0),
  (60, .goto (-21), 3, .null, [39], z_g0),
  (63, .iconst 1, 1, .int ((1 : Int32)), [], z_g0),
  (64, .ireturn, 1, .null, [], z_g0)]
def a_X12_tear_39 {ρ : Type} (k : Nat → Int32 → Int32 → z_St → Option ρ) (ls : z_Lv) (st : List Value) (S : z_St) : Option ρ := match z_lk ls 0, z_lk ls 1, z_lk ls 3, st with
  | .ref v0, .int v1, .int v3, [] => k v0 v1 v3 S
  | _, _, _, _ => none
set_option maxRecDepth 100000 in
theorem r_X12_tear_39 (n : Nat) (v0 : Nat) (v1 : Int32) (v3 : Int32) (S : z_St) : z_seg z_rI (c_X12_tear) [39] (fun pc => cond (Nat.beq pc 39) (a_X12_tear_39 (l_X12_tear_39 n)) (fun _ _ _ => none)) 40 (z_to 39 (c_X12_tear)) [(0, .ref v0), (1, .int v1), (3, .int v3)] [] S = l_X12_tear_39 (n + 1) v0 v1 v3 S := rfl
set_option maxRecDepth 100000 in
theorem r_X12_tear (v0 : Nat) (v1 : Int32) (v2 : Int32) (S : z_St) : z_seg z_rI (c_X12_tear) [39] (fun pc => cond (Nat.beq pc 39) (a_X12_tear_39 (l_X12_tear_39 z_N)) (fun _ _ _ => none)) 40 (c_X12_tear) [(0, .ref v0), (1, .int v1), (2, .int v2)] [] S = b_X12_tear v0 v1 v2 S := rfl
def l_X12_twin_35 : Nat → Nat → Int32 → Int32 → Int32 → z_St → Option (Int32 × z_St)
  | 0 => fun _ _ _ _ _ => none
  | n + 1 => fun (v0 : Nat) (v1 : Int32) (v2 : Int32) (v3 : Int32) (S : z_St) =>
if ((32 : Int32)) ≤ v3 then
(some ((1 : Int32), S))
else
(z_chk S v0 13 (
z_chk S v0 13 (
z_onV (va_rf (z_r S v0 98)) fun b4 =>
z_inb S b4 101 ((((32 : Int32)) * v1) + v3) (
z_onV (va_rf (z_r S v0 98)) fun b5 =>
z_inb S b5 101 ((((32 : Int32)) * v2) + v3) (
let S6 := z_wi S b5 ((((32 : Int32)) * v2) + v3).toNatClampNeg ((z_i S b4 ((((32 : Int32)) * v1) + v3).toNatClampNeg))
let x7 := v3 + (1 : Int32)
l_X12_twin_35 n v0 v1 v2 x7 S6)))))
def b_X12_twin (v0 : Nat) (v1 : Int32) (v2 : Int32) (S : z_St) : Option (Int32 × z_St) :=
z_chk S v0 13 (
let S1 := z_wi S v0 0 ((0 : Int32))
(f_X12_in v1.toInt64 ((0 : Int64)) ((31 : Int64)) S1).bind fun q2 =>
if q2.1 = 0 then
(some ((-2000000001 : Int32), q2.2))
else
((f_X12_in v2.toInt64 ((0 : Int64)) ((31 : Int64)) q2.2).bind fun q3 =>
if q3.1 = 0 then
(some ((-2000000001 : Int32), q3.2))
else
(l_X12_twin_35 z_N v0 v1 v2 ((0 : Int32)) q3.2)))
def f_X12_twin : Nat → Int32 → Int32 → z_St → Option (Int32 × z_St) := z_op (b_X12_twin)
theorem e_X12_twin (v0 : Nat) (v1 : Int32) (v2 : Int32) (S : z_St) : f_X12_twin v0 v1 v2 S = b_X12_twin v0 v1 v2 S := congrFun (congrFun (congrFun (congrFun (z_op_eq (b_X12_twin)) v0) v1) v2) S
def g_X12_twin : z_G := .inl (fun as S => match as with
  | [.ref v0, .int v1, .int v2] => f_X12_twin v0 v1 v2 S
  | _ => none)
def c_X12_twin : List z_E := [
  (0, .aload_n 0, 1, .null, [], z_g0),
  (1, .iconst 0, 1, .int ((0 : Int32)), [], z_g0),
  (2, .putfield 224, 3, .null, [13, 0, 0], z_g0),
  (5, .iload_n 1, 1, .null, [], z_g0),
  (6, .i2l, 1, .null, [], z_g0),
  (7, .lconst 0, 1, .long (0 : Int64), [], z_g0),
  (8, .ldc2_w 652, 3, .long (31 : Int64), [], z_g0),
  (11, .invokestatic 274, 3, .null, [0, 0, 0, 0], g_X12_in),
  (14, .ifCond .eq 15, 3, .null, [29], z_g0),
  (17, .iload_n 2, 1, .null, [], z_g0),
  (18, .i2l, 1, .null, [], z_g0),
  (19, .lconst 0, 1, .long (0 : Int64), [], z_g0),
  (20, .ldc2_w 652, 3, .long (31 : Int64), [], z_g0),
  (23, .invokestatic 274, 3, .null, [0, 0, 0, 0], g_X12_in),
  (26, .ifCond .ne 7, 3, .null, [33], z_g0),
  (29, .ldc_w 296, 3, .int (-2000000001 : Int32), [], z_g0),
  (32, .ireturn, 1, .null, [], z_g0),
  (33, .iconst 0, 1, .int ((0 : Int32)), [], z_g0),
  (34, .istore_n 3, 1, .null, [], z_g0),
  (35, .iload_n 3, 1, .null, [], z_g0),
  (36, .bipush 32, 2, .int ((32 : Int32)), [], z_g0),
  (38, .if_icmp .ge 31, 3, .null, [69], z_g0),
  (41, .aload_n 0, 1, .null, [], z_g0),
  (42, .getfield 221, 3, .null, [13, 98, 3], z_g0),
  (45, .bipush 32, 2, .int ((32 : Int32)), [], z_g0),
  (47, .iload_n 2, 1, .null, [], z_g0),
  (48, .imul, 1, .null, [], z_g0),
  (49, .iload_n 3, 1, .null, [], z_g0),
  (50, .iadd, 1, .null, [], z_g0),
  (51, .aload_n 0, 1, .null, [], z_g0),
  (52, .getfield 221, 3, .null, [13, 98, 3], z_g0),
  (55, .bipush 32, 2, .int ((32 : Int32)), [], z_g0),
  (57, .iload_n 1, 1, .null, [], z_g0),
  (58, .imul, 1, .null, [], z_g0),
  (59, .iload_n 3, 1, .null, [], z_g0),
  (60, .iadd, 1, .null, [], z_g0),
  (61, .iaload, 1, .null, [101], z_g0),
  (62, .iastore, 1, .null, [], z_g0),
  (63, .iinc 3 1, 3, .int (1 : Int32), [], z_g0),
  (66, .goto (-31), 3, .null, [35], z_g0),
  (69, .iconst 1, 1, .int ((1 : Int32)), [], z_g0),
  (70, .ireturn, 1, .null, [], z_g0)]
def a_X12_twin_35 {ρ : Type} (k : Nat → Int32 → Int32 → Int32 → z_St → Option ρ) (ls : z_Lv) (st : List Value) (S : z_St) : Option ρ := match z_lk ls 0, z_lk ls 1, z_lk ls 2, z_lk ls 3, st with
  | .ref v0, .int v1, .int v2, .int v3, [] => k v0 v1 v2 v3 S
  | _, _, _, _, _ => none
set_option maxRecDepth 100000 in
theorem r_X12_twin_35 (n : Nat) (v0 : Nat) (v1 : Int32) (v2 : Int32) (v3 : Int32) (S : z_St) : z_seg z_rI (c_X12_twin) [35] (fun pc => cond (Nat.beq pc 35) (a_X12_twin_35 (l_X12_twin_35 n)) (fun _ _ _ => none)) 45 (z_to 35 (c_X12_twin)) [(0, .ref v0), (1, .int v1), (2, .int v2), (3, .int v3)] [] S = l_X12_twin_35 (n + 1) v0 v1 v2 v3 S := rfl
set_option maxRecDepth 100000 in
theorem r_X12_twin (v0 : Nat) (v1 : Int32) (v2 : Int32) (S : z_St) : z_seg z_rI (c_X12_twin) [35] (fun pc => cond (Nat.beq pc 35) (a_X12_twin_35 (l_X12_twin_35 z_N)) (fun _ _ _ => none)) 45 (c_X12_twin) [(0, .ref v0), (1, .int v1), (2, .int v2)] [] S = b_X12_twin v0 v1 v2 S := rfl
def b_X12_numberOf (v0 : Nat) (v1 : Int32) (S : z_St) : Option (Int32 × z_St) :=
z_chk S v0 13 (
z_onV (va_rf (z_r S v0 98)) fun b1 =>
z_inb S b1 101 (((32 : Int32)) * v1) (
z_chk S v0 13 (
z_onV (va_rf (z_r S v0 98)) fun b2 =>
z_inb S b2 101 ((((32 : Int32)) * v1) + ((1 : Int32))) (
some ((((256 : Int32)) * ((z_i S b1 (((32 : Int32)) * v1).toNatClampNeg))) + ((z_i S b2 ((((32 : Int32)) * v1) + ((1 : Int32))).toNatClampNeg)), S)))))
def f_X12_numberOf : Nat → Int32 → z_St → Option (Int32 × z_St) := z_op (b_X12_numberOf)
theorem e_X12_numberOf (v0 : Nat) (v1 : Int32) (S : z_St) : f_X12_numberOf v0 v1 S = b_X12_numberOf v0 v1 S := congrFun (congrFun (congrFun (z_op_eq (b_X12_numberOf)) v0) v1) S
def g_X12_numberOf : z_G := .inl (fun as S => match as with
  | [.ref v0, .int v1] => f_X12_numberOf v0 v1 S
  | _ => none)
def c_X12_numberOf : List z_E := [
  (0, .sipush 256, 3, .int ((256 : Int32)), [], z_g0),
  (3, .aload_n 0, 1, .null, [], z_g0),
  (4, .getfield 221, 3, .null, [13, 98, 3], z_g0),
  (7, .bipush 32, 2, .int ((32 : Int32)), [], z_g0),
  (9, .iload_n 1, 1, .null, [], z_g0),
  (10, .imul, 1, .null, [], z_g0),
  (11, .iaload, 1, .null, [101], z_g0),
  (12, .imul, 1, .null, [], z_g0),
  (13, .aload_n 0, 1, .null, [], z_g0),
  (14, .getfield 221, 3, .null, [13, 98, 3], z_g0),
  (17, .bipush 32, 2, .int ((32 : Int32)), [], z_g0),
  (19, .iload_n 1, 1, .null, [], z_g0),
  (20, .imul, 1, .null, [], z_g0),
  (21, .iconst 1, 1, .int ((1 : Int32)), [], z_g0),
  (22, .iadd, 1, .null, [], z_g0),
  (23, .iaload, 1, .null, [101], z_g0),
  (24, .iadd, 1, .null, [], z_g0),
  (25, .ireturn, 1, .null, [], z_g0)]
set_option maxRecDepth 100000 in
theorem r_X12_numberOf (v0 : Nat) (v1 : Int32) (S : z_St) : z_seg z_rI (c_X12_numberOf) [] (fun pc => fun _ _ _ => none) 21 (c_X12_numberOf) [(0, .ref v0), (1, .int v1)] [] S = b_X12_numberOf v0 v1 S := rfl
def l_X12_isWhole_39 : Nat → Nat → Int32 → Int32 → Int32 → Int32 → z_St → Option (Int32 × z_St)
  | 0 => fun _ _ _ _ _ _ => none
  | n + 1 => fun (v0 : Nat) (v1 : Int32) (v2 : Int32) (v3 : Int32) (v4 : Int32) (S : z_St) =>
if ((4 : Int32)) ≤ v4 then
(z_rb v3 S)
else
(if v3 = 0 then
(z_rb v3 S)
else
(z_chk S v0 13 (
z_onV (va_rf (z_r S v0 98)) fun b4 =>
z_inb S b4 101 (((((32 : Int32)) * v1) + ((28 : Int32))) + v4) (
if ((z_i S b4 (((((32 : Int32)) * v1) + ((28 : Int32))) + v4).toNatClampNeg)) = ((v2 >>> ((((24 : Int32)) - (((8 : Int32)) * v4)) &&& 31)) &&& ((255 : Int32))) then
(let x6 := v4 + (1 : Int32)
l_X12_isWhole_39 n v0 v1 v2 ((1 : Int32)) x6 S)
else
(let x5 := v4 + (1 : Int32)
l_X12_isWhole_39 n v0 v1 v2 ((0 : Int32)) x5 S)))))
def b_X12_isWhole (v0 : Nat) (v1 : Int32) (S : z_St) : Option (Int32 × z_St) :=
z_chk S v0 13 (
(f_X12_sumOf v0 v1 S).bind fun q1 =>
z_chk q1.2 v0 13 (
(f_X12_numberOf v0 v1 q1.2).bind fun q2 =>
if q2.1 = 0 then
(l_X12_isWhole_39 z_N v0 v1 q1.1 ((0 : Int32)) ((0 : Int32)) q2.2)
else
(z_chk q2.2 v0 13 (
z_onV (va_rf (z_r q2.2 v0 98)) fun b3 =>
z_inb q2.2 b3 101 ((((32 : Int32)) * v1) + ((2 : Int32))) (
if ((24 : Int32)) < ((z_i q2.2 b3 ((((32 : Int32)) * v1) + ((2 : Int32))).toNatClampNeg)) then
(l_X12_isWhole_39 z_N v0 v1 q1.1 ((0 : Int32)) ((0 : Int32)) q2.2)
else
(l_X12_isWhole_39 z_N v0 v1 q1.1 ((1 : Int32)) ((0 : Int32)) q2.2))))))
def f_X12_isWhole : Nat → Int32 → z_St → Option (Int32 × z_St) := z_op (b_X12_isWhole)
theorem e_X12_isWhole (v0 : Nat) (v1 : Int32) (S : z_St) : f_X12_isWhole v0 v1 S = b_X12_isWhole v0 v1 S := congrFun (congrFun (congrFun (z_op_eq (b_X12_isWhole)) v0) v1) S
def g_X12_isWhole : z_G := .inl (fun as S => match as with
  | [.ref v0, .int v1] => f_X12_isWhole v0 v1 S
  | _ => none)
def c_X12_isWhole : List z_E := [
  (0, .aload_n 0, 1, .null, [], z_g0),
  (1, .iload_n 1, 1, .null, [], z_g0),
  (2, .invokevirtual 649, 3, .null, [1, 13, 0], g_X12_sumOf),
  (5, .istore_n 2, 1, .null, [], z_g0),
  (6, .aload_n 0, 1, .null, [], z_g0),
  (7, .iload_n 1, 1, .null, [], z_g0),
  (8, .invokevirtual 656, 3, .null, [1, 13, 0], g_X12_numberOf),
  (11, .ifCond .eq 23, 3, .null, [34], z_g0),
  (14, .aload_n 0, 1, .null, [], z_g0),
  (15, .getfield 221, 3, .null, [13, 98, 3], z_g0),
  (18, .bipush 32, 2, .int ((32 : Int32)), [], z_g0),
  (20, .iload_n 1, 1, .null, [], z_g0),
  (21, .imul, 1, .null, [], z_g0),
  (22, .iconst 2, 1, .int ((2 : Int32)), [], z_g0),
  (23, .iadd, 1, .null, [], z_g0),
  (24, .iaload, 1, .null, [101], z_g0),
  (25, .bipush 24, 2, .int ((24 : Int32)), [], z_g0),
  (27, .if_icmp .gt 7, 3, .null, [34], z_g0),
  (30, .iconst 1, 1, .int ((1 : Int32)), [], z_g0),
  (31, .goto 4, 3, .null, [35], z_g0),
  (34, .iconst 0, 1, .int ((0 : Int32)), [], z_g0),
  (35, .istore_n 3, 1, .null, [], z_g0),
  (36, .iconst 0, 1, .int ((0 : Int32)), [], z_g0),
  (37, .istore 4, 2, .null, [], z_g0),
  (39, .iload 4, 2, .null, [], z_g0),
  (41, .iconst 4, 1, .int ((4 : Int32)), [], z_g0),
  (42, .if_icmp .ge 51, 3, .null, [93], z_g0),
  (45, .iload_n 3, 1, .null, [], z_g0),
  (46, .ifCond .eq 47, 3, .null, [93], z_g0),
  (49, .aload_n 0, 1, .null, [], z_g0),
  (50, .getfield 221, 3, .null, [13, 98, 3], z_g0),
  (53, .bipush 32, 2, .int ((32 : Int32)), [], z_g0),
  (55, .iload_n 1, 1, .null, [], z_g0),
  (56, .imul, 1, .null, [], z_g0),
  (57, .bipush 28, 2, .int ((28 : Int32)), [], z_g0),
  (59, .iadd, 1, .null, [], z_g0),
  (60, .iload 4, 2, .null, [], z_g0),
  (62, .iadd, 1, .null, [], z_g0),
  (63, .iaload, 1, .null, [101], z_g0),
  (64, .iload_n 2, 1, .null, [], z_g0),
  (65, .bipush 24, 2, .int ((24 : Int32)), [], z_g0),
  (67, .bipush 8, 2, .int ((8 : Int32)), [], z_g0),
  (69, .iload 4, 2, .null, [], z_g0),
  (71, .imul, 1, .null, [], z_g0),
  (72, .isub, 1, .null, [], z_g0),
  (73, .ishr, 1, .null, [], z_g0),
  (74, .sipush 255, 3, .int ((255 : Int32)), [], z_g0),
  (77, .iand, 1, .null, [], z_g0),
  (78, .if_icmp .ne 7, 3, .null, [85], z_g0),
  (81, .iconst 1, 1, .int ((1 : Int32)), [], z_g0),
  (82, .goto 4, 3, .null, [86], z_g0),
  (85, .iconst 0, 1, .int ((0 : Int32)), [], z_g0),
  (86, .istore_n 3, 1, .null, [], z_g0),
  (87, .iinc 4 1, 3, .int (1 : Int32), [], z_g0),
  (90, .goto (-51), 3, .null, [39], z_g0),
  (93, .iload_n 3, 1, .null, [], z_g0),
  (94, .ireturn, 1, .null, [], z_g0)]
def a_X12_isWhole_39 {ρ : Type} (k : Nat → Int32 → Int32 → Int32 → Int32 → z_St → Option ρ) (ls : z_Lv) (st : List Value) (S : z_St) : Option ρ := match z_lk ls 0, z_lk ls 1, z_lk ls 2, z_lk ls 3, z_lk ls 4, st with
  | .ref v0, .int v1, .int v2, .int v3, .int v4, [] => k v0 v1 v2 v3 v4 S
  | _, _, _, _, _, _ => none
set_option maxRecDepth 100000 in
theorem r_X12_isWhole_39 (n : Nat) (v0 : Nat) (v1 : Int32) (v2 : Int32) (v3 : Int32) (v4 : Int32) (S : z_St) : z_seg z_rZ (c_X12_isWhole) [39] (fun pc => cond (Nat.beq pc 39) (a_X12_isWhole_39 (l_X12_isWhole_39 n)) (fun _ _ _ => none)) 60 (z_to 39 (c_X12_isWhole)) [(0, .ref v0), (1, .int v1), (2, .int v2), (3, .int v3), (4, .int v4)] [] S = l_X12_isWhole_39 (n + 1) v0 v1 v2 v3 v4 S := rfl
set_option maxRecDepth 100000 in
theorem r_X12_isWhole (v0 : Nat) (v1 : Int32) (S : z_St) : z_seg z_rZ (c_X12_isWhole) [39] (fun pc => cond (Nat.beq pc 39) (a_X12_isWhole_39 (l_X12_isWhole_39 z_N)) (fun _ _ _ => none)) 60 (c_X12_isWhole) [(0, .ref v0), (1, .int v1)] [] S = b_X12_isWhole v0 v1 S := rfl
def l_X12_firstOf_4 : Nat → Nat → Int32 → Int32 → Int32 → z_St → Option (Int32 × z_St)
  | 0 => fun _ _ _ _ _ => none
  | n + 1 => fun (v0 : Nat) (v1 : Int32) (v2 : Int32) (v3 : Int32) (S : z_St) =>
if v3 < 0 then
(some (v2, S))
else
(z_chk S v0 13 (
(f_X12_isWhole v0 v3 S).bind fun q1 =>
if q1.1 = 0 then
(let x2 := v3 + (-1 : Int32)
l_X12_firstOf_4 n v0 v1 v2 x2 q1.2)
else
(z_chk q1.2 v0 13 (
(f_X12_numberOf v0 v3 q1.2).bind fun q3 =>
z_chk q3.2 v0 13 (
(f_X12_numberOf v0 v1 q3.2).bind fun q4 =>
if q3.1 = q4.1 then
(let x6 := v3 + (-1 : Int32)
l_X12_firstOf_4 n v0 v1 v3 x6 q4.2)
else
(let x5 := v3 + (-1 : Int32)
l_X12_firstOf_4 n v0 v1 v2 x5 q4.2))))))
def b_X12_firstOf (v0 : Nat) (v1 : Int32) (S : z_St) : Option (Int32 × z_St) :=
l_X12_firstOf_4 z_N v0 v1 v1 v1 S
def f_X12_firstOf : Nat → Int32 → z_St → Option (Int32 × z_St) := z_op (b_X12_firstOf)
theorem e_X12_firstOf (v0 : Nat) (v1 : Int32) (S : z_St) : f_X12_firstOf v0 v1 S = b_X12_firstOf v0 v1 S := congrFun (congrFun (congrFun (z_op_eq (b_X12_firstOf)) v0) v1) S
def g_X12_firstOf : z_G := .inl (fun as S => match as with
  | [.ref v0, .int v1] => f_X12_firstOf v0 v1 S
  | _ => none)
def c_X12_firstOf : List z_E := [
  (0, .iload_n 1, 1, .null, [], z_g0),
  (1, .istore_n 2, 1, .null, [], z_g0),
  (2, .iload_n 1, 1, .null, [], z_g0),
  (3, .istore_n 3, 1, .null, [], z_g0),
  (4, .iload_n 3, 1, .null, [], z_g0),
  (5, .ifCond .lt 36, 3, .null, [41], z_g0),
  (8, .aload_n 0, 1, .null, [], z_g0),
  (9, .iload_n 3, 1, .null, [], z_g0),
  (10, .invokevirtual 659, 3, .null, [1, 13, 0], g_X12_isWhole),
  (13, .ifCond .eq 20, 3, .null, [33], z_g0),
  (16, .aload_n 0, 1, .null, [], z_g0),
  (17, .iload_n 3, 1, .null, [], z_g0),
  (18, .invokevirtual 656, 3, .null, [1, 13, 0], g_X12_numberOf),
  (21, .aload_n 0, 1, .null, [], z_g0),
  (22, .iload_n 1, 1, .null, [], z_g0),
  (23, .invokevirtual 656, 3, .null, [1, 13, 0], g_X12_numberOf),
  (26, .if_icmp .ne 7, 3, .null, [33], z_g0),
  (29, .iload_n 3, 1, .null, [], z_g0),
  (30, .goto 4, 3, .null, [34], z_g0),
  (33, .iload_n 2, 1, .null, [], z_g0),
  (34, .istore_n 2, 1, .null, [], z_g0),
  (35, .iinc 3 (-1), 3, .int (-1 : Int32), [], z_g0),
  (38, .goto (-34), 3, .null, [4], z_g0),
  (41, .iload_n 2, 1, .null, [], z_g0),
  (42, .ireturn, 1, .null, [], z_g0)]
def a_X12_firstOf_4 {ρ : Type} (k : Nat → Int32 → Int32 → Int32 → z_St → Option ρ) (ls : z_Lv) (st : List Value) (S : z_St) : Option ρ := match z_lk ls 0, z_lk ls 1, z_lk ls 2, z_lk ls 3, st with
  | .ref v0, .int v1, .int v2, .int v3, [] => k v0 v1 v2 v3 S
  | _, _, _, _, _ => none
set_option maxRecDepth 100000 in
theorem r_X12_firstOf_4 (n : Nat) (v0 : Nat) (v1 : Int32) (v2 : Int32) (v3 : Int32) (S : z_St) : z_seg z_rI (c_X12_firstOf) [4] (fun pc => cond (Nat.beq pc 4) (a_X12_firstOf_4 (l_X12_firstOf_4 n)) (fun _ _ _ => none)) 28 (z_to 4 (c_X12_firstOf)) [(0, .ref v0), (1, .int v1), (2, .int v2), (3, .int v3)] [] S = l_X12_firstOf_4 (n + 1) v0 v1 v2 v3 S := rfl
set_option maxRecDepth 100000 in
theorem r_X12_firstOf (v0 : Nat) (v1 : Int32) (S : z_St) : z_seg z_rI (c_X12_firstOf) [4] (fun pc => cond (Nat.beq pc 4) (a_X12_firstOf_4 (l_X12_firstOf_4 z_N)) (fun _ _ _ => none)) 28 (c_X12_firstOf) [(0, .ref v0), (1, .int v1)] [] S = b_X12_firstOf v0 v1 S := rfl
end
