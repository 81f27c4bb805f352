noncomputable section
def b_X12_doStep (v0 : Nat) (v1 : Int32) (v2 : Int32) (S : z_St) : Option z_St :=
z_chk S v0 13 (
z_onV (va_rf (z_r S v0 30)) fun b1 =>
z_inb S b1 101 (v1 + ((1 : Int32))) (
let x2 := (z_i S b1 (v1 + ((1 : Int32))).toNatClampNeg)
z_chk S v0 13 (
z_onV (va_rf (z_r S v0 30)) fun b3 =>
z_inb S b3 101 (v1 + ((2 : Int32))) (
let x4 := (z_i S b3 (v1 + ((2 : Int32))).toNatClampNeg)
z_chk S v0 13 (
z_onV (va_rf (z_r S v0 30)) fun b5 =>
z_inb S b5 101 v1 (
if ((z_i S b5 v1.toNatClampNeg)) = (0 : Int32) then
(z_chk S v0 13 (
z_onV (va_rf (z_r S v0 30)) fun b6 =>
z_inb S b6 101 (v1 + ((3 : Int32))) (
z_chk S v0 13 (
(f_X12_putStep v0 x2 x4 ((z_i S b6 (v1 + ((3 : Int32))).toNatClampNeg)) S).bind fun q7 =>
some q7))))
else
if ((z_i S b5 v1.toNatClampNeg)) = (1 : Int32) then
(z_chk S v0 13 (
if 0 ≤ (lg_cmp ((z_l S v0 31)) x2.toInt64) then
(z_chk S v0 13 (
z_chk S v0 13 (
let S8 := z_wl S v0 31 (((z_l S v0 31)) - x2.toInt64)
some S8)))
else
(z_chk S v0 13 (
(f_X12_fail v0 ((8 : Int32)) ((1 : Int32)) S).bind fun q9 =>
some q9))))
else
if ((z_i S b5 v1.toNatClampNeg)) = (2 : Int32) then
(if x2 ≤ ((6 : Int32)) then
(z_chk S v0 13 (
(f_X12_fail v0 x2 ((0 : Int32)) S).bind fun q10 =>
some q10))
else
(z_chk S v0 13 (
(f_X12_fail v0 x2 x4 S).bind fun q11 =>
some q11)))
else
if ((z_i S b5 v1.toNatClampNeg)) = (3 : Int32) then
(z_chk S v0 13 (
z_onV (va_rf (z_r S v0 32)) fun b12 =>
z_inb S b12 101 x2 (
z_inb S b12 101 x2 (
let S13 := z_wi S b12 x2.toNatClampNeg (((z_i S b12 x2.toNatClampNeg)) + ((1 : Int32)))
z_chk S13 v0 13 (
z_chk S13 v0 13 (
z_onV (va_rf (z_r S13 v0 45)) fun b14 =>
z_inb S13 b14 101 ((z_i S13 v0 44)) (
let S15 := z_wi S13 b14 ((z_i S13 v0 44)).toNatClampNeg x2
z_chk S15 v0 13 (
z_chk S15 v0 13 (
let S16 := z_wi S15 v0 44 (((z_i S15 v0 44)) + ((1 : Int32)))
some S16)))))))))
else
if ((z_i S b5 v1.toNatClampNeg)) = (4 : Int32) then
(z_chk S v0 13 (
z_onV (va_rf (z_r S v0 32)) fun b17 =>
z_inb S b17 101 x2 (
if ((z_i S b17 x2.toNatClampNeg)) = 0 then
(z_chk S v0 13 (
(f_X12_fail v0 ((7 : Int32)) ((0 : Int32)) S).bind fun q26 =>
some q26))
else
(z_chk S v0 13 (
z_onV (va_rf (z_r S v0 33)) fun b18 =>
z_inb S b18 101 x2 (
let x19 := (((z_i S b18 x2.toNatClampNeg)).toInt64) + x4.toInt64
z_chk S v0 13 (
if 0 ≤ (lg_cmp x19 ((0 : Int64))) then
(if (lg_cmp x19 ((100 : Int64))) ≤ 0 then
(z_onV (va_rf (z_r S v0 33)) fun b20 =>
z_inb S b20 101 x2 (
let S21 := z_wi S b20 x2.toNatClampNeg x19.toInt32
some S21))
else
(z_onV (va_rf (z_r S v0 33)) fun b22 =>
z_inb S b22 101 x2 (
let S23 := z_wi S b22 x2.toNatClampNeg ((100 : Int32))
some S23)))
else
(z_onV (va_rf (z_r S v0 33)) fun b24 =>
z_inb S b24 101 x2 (
let S25 := z_wi S b24 x2.toNatClampNeg ((0 : Int32))
some S25)))))))))
else
if ((z_i S b5 v1.toNatClampNeg)) = (5 : Int32) then
(z_chk S v0 13 (
if ((60 : Int32)) ≤ ((z_i S v0 34)) then
(some S)
else
(z_chk S v0 13 (
z_chk S v0 13 (
z_onV (va_rf (z_r S v0 35)) fun b27 =>
z_inb S b27 101 ((z_i S v0 34)) (
let S28 := z_wi S b27 ((z_i S v0 34)).toNatClampNeg x2
z_chk S28 v0 13 (
z_chk S28 v0 13 (
let S29 := z_wi S28 v0 34 (((z_i S28 v0 34)) + ((1 : Int32)))
some S29))))))))
else
if ((z_i S b5 v1.toNatClampNeg)) = (6 : Int32) then
(z_chk S v0 13 (
z_onV (va_rf (z_r S v0 39)) fun b30 =>
z_inb S b30 101 v2 (
let S31 := z_wi S b30 v2.toNatClampNeg ((1 : Int32))
z_chk S31 v0 13 (
(f_X12_call v0 x2 S31).bind fun q32 =>
some q32))))
else
if ((z_i S b5 v1.toNatClampNeg)) = (7 : Int32) then
(z_chk S v0 13 (
z_onV (va_rf (z_r S v0 39)) fun b33 =>
z_inb S b33 101 v2 (
let S34 := z_wi S b33 v2.toNatClampNeg ((2 : Int32))
z_chk S34 v0 13 (
(f_X12_call v0 x2 S34).bind fun q35 =>
some q35))))
else
if ((z_i S b5 v1.toNatClampNeg)) = (8 : Int32) then
(z_chk S v0 13 (
(f_X12_leave v0 ((2 : Int32)) ((0 : Int32)) x2 S).bind fun q36 =>
some q36))
else
(z_chk S v0 13 (
(f_X12_sumStep v0 x2 x4 S).bind fun q37 =>
some q37))))))))
def f_X12_doStep : Nat → Int32 → Int32 → z_St → Option z_St := z_op (b_X12_doStep)
theorem e_X12_doStep (v0 : Nat) (v1 : Int32) (v2 : Int32) (S : z_St) : f_X12_doStep v0 v1 v2 S = b_X12_doStep v0 v1 v2 S := congrFun (congrFun (congrFun (congrFun (z_op_eq (b_X12_doStep)) v0) v1) v2) S
def g_X12_doStep : z_G := .inr (.inr (.inr (fun as S => match as with
  | [.ref v0, .int v1, .int v2] => f_X12_doStep v0 v1 v2 S
  | _ => none)))
def c_X12_doStep : List z_E := [
  (0, .aload_n 0, 1, .null, [], z_g0),
  (1, .getfield 79, 3, .null, [13, 30, 3], z_g0),
  (4, .iload_n 1, 1, .null, [], z_g0),
  (5, .iconst 1, 1, .int ((1 : Int32)), [], z_g0),
  (6, .iadd, 1, .null, [], z_g0),
  (7, .iaload, 1, .null, [101], z_g0),
  (8, .istore_n 3, 1, .null, [], z_g0),
  (9, .aload_n 0, 1, .null, [], z_g0),
  (10, .getfield 79, 3, .null, [13, 30, 3], z_g0),
  (13, .iload_n 1, 1, .null, [], z_g0),
  (14, .iconst 2, 1, .int ((2 : Int32)), [], z_g0),
  (15, .iadd, 1, .null, [], z_g0),
  (16, .iaload, 1, .null, [101], z_g0),
  (17, .istore 4, 2, .null, [], z_g0),
  (19, .aload_n 0, 1, .null, [], z_g0),
  (20, .getfield 79, 3, .null, [13, 30, 3], z_g0),
  (23, .iload_n 1, 1, .null, [], z_g0),
  (24, .iaload, 1, .null, [101], z_g0),
  (25, .tableswitch 297 0 8 #[51, 69, 103, 123, 156, 225, 257, 272, 287], 51, .null, [322, 0, 76, 94, 128, 148, 181, 250, 282, 297, 312], z_g0),
  (76, .aload_n 0, 1, .null, [], z_g0),
  (77, .iload_n 3, 1, .null, [], z_g0),
  (78, .iload 4, 2, .null, [], z_g0),
  (80, .aload_n 0, 1, .null, [], z_g0),
  (81, .getfield 79, 3, .null, [13, 30, 3], z_g0),
  (84, .iload_n 1, 1, .null, [], z_g0),
  (85, .iconst 3, 1, .int ((3 : Int32)), [], z_g0),
  (86, .iadd, 1, .null, [], z_g0),
  (87, .iaload, 1, .null, [101], z_g0),
  (88, .invokevirtual 481, 3, .null, [1, 13, 0, 0, 0], g_X12_putStep),
  (91, .goto 238, 3, .null, [329], z_g0),
  (94, .aload_n 0, 1, .null, [], z_g0),
  (95, .getfield 484, 3, .null, [13, 31, 1], z_g0),
  (98, .iload_n 3, 1, .null, [], z_g0),
  (99, .i2l, 1, .null, [], z_g0),
  (100, .lcmp, 1, .null, [], z_g0),
  (101, .ifCond .ge 13, 3, .null, [114], z_g0),
  (104, .aload_n 0, 1, .null, [], z_g0),
  (105, .bipush 8, 2, .int ((8 : Int32)), [], z_g0),
  (107, .iconst 1, 1, .int ((1 : Int32)), [], z_g0),
  (108, .invokevirtual 474, 3, .null, [1, 13, 0, 0], g_X12_fail),
  (111, .goto 218, 3, .null, [329], z_g0),
  (114, .aload_n 0, 1, .null, [], z_g0),
  (115, .dup, 1, .null, [], z_g0),
  (116, .getfield 484, 3, .null, [13, 31, 1], z_g0),
  (119, .iload_n 3, 1, .null, [], z_g0),
  (120, .i2l, 1, .null, [], z_g0),
  (121, .lsub, 1, .null, [], z_g0),
  (122, .putfield 484, 3, .null, [13, 31, 1], z_g0),
  (125, .goto 204, 3, .null, [329], z_g0),
  (128, .aload_n 0, 1, .null, [], z_g0),
  (129, .iload_n 3, 1, .null, [], z_g0),
  (130, .iload_n 3, 1, .null, [], z_g0),
  (131, .bipush 6, 2, .int ((6 : Int32)), [], z_g0),
  (133, .if_icmp .le 8, 3, .null, [141], z_g0),
  (136, .iload 4, 2, .null, [], z_g0),
  (138, .goto 4, 3, .null, [142], z_g0),
  (141, .iconst 0, 1, .int ((0 : Int32)), [], z_g0),
  (142, .invokevirtual 474, 3, .null, [1, 13, 0, 0], g_X12_fail),
  (145, .goto 184, 3, .null, [329], z_g0),
  (148, .aload_n 0, 1, .null, [], z_g0),
  (149, .getfield 82, 3, .null, [13, 32, 3], z_g0),
  (152, .iload_n 3, 1, .null, [], z_g0),
  (153, .dup2, 1, .null, [1], z_g0),
  (154, .iaload, 1, .null, [101], z_g0),
  (155, .iconst 1, 1, .int ((1 : Int32)), [], z_g0),
  (156, .iadd, 1, .null, [], z_g0),
  (157, .iastore, 1, .null, [], z_g0),
  (158, .aload_n 0, 1, .null, [], z_g0),
  (159, .getfield 112, 3, .null, [13, 45, 3], z_g0),
  (162, .aload_n 0, 1, .null, [], z_g0),
  (163, .getfield 452, 3, .null, [13, 44, 0], z_g0),
  (166, .iload_n 3, 1, .null, [], z_g0),
  (167, .iastore, 1, .null, [], z_g0),
  (168, .aload_n 0, 1, .null, [], z_g0),
  (169, .dup, 1, .null, [], z_g0),
  (170, .getfield 452, 3, .null, [13, 44, 0], z_g0),
  (173, .iconst 1, 1, .int ((1 : Int32)), [], z_g0),
  (174, .iadd, 1, .null, [], z_g0),
  (175, .putfield 452, 3, .null, [13, 44, 0], z_g0),
  (178, .goto 151, 3, .null, [329], z_g0),
  (181, .aload_n 0, 1, .null, [], z_g0),
  (182, .getfield 82, 3, .null, [13, 32, 3], z_g0),
  (185, .iload_n 3, 1, .null, [], z_g0),
  (186, .iaload, 1, .null, [101], z_g0),
  (187, .ifCond .ne 13, 3, .null, [200], z_g0),
  (190, .aload_n 0, 1, .null, [], z_g0),
  (191, .bipush 7, 2, .int ((7 : Int32)), [], z_g0),
  (193, .iconst 0, 1, .int ((0 : Int32)), [], z_g0),
  (194, .invokevirtual 474, 3, .null, [1, 13, 0, 0], g_X12_fail),
  (197, .goto 132, 3, .null, [329], z_g0),
  (200, .aload_n 0, 1, .null, [], z_g0),
  (201, .getfield 85, 3, .null, [13, 33, 3], z_g0),
  (204, .iload_n 3, 1, .null, [], z_g0),
  (205, .iaload, 1, .null, [101], z_g0),
  (206, .i2l, 1, .null, [], z_g0),
  (207, .iload 4, 2, .null, [], z_g0),
  (209, .i2l, 1, .null, [], z_g0),
  (210, .ladd, 1, .null, [], z_g0),
  (211, .lstore 5, 2, .null, [], z_g0),
  (213, .aload_n 0, 1, .null, [], z_g0),
  (214, .getfield 85, 3, .null, [13, 33, 3], z_g0),
  (217, .iload_n 3, 1, .null, [], z_g0),
  (218, .lload 5, 2, .null, [], z_g0),
  (220, .lconst 0, 1, .long (0 : Int64), [], z_g0),
  (221, .lcmp, 1, .null, [], z_g0),
  (222, .ifCond .ge 7, 3, .null, [229], z_g0),
  (225, .iconst 0, 1, .int ((0 : Int32)), [], z_g0),
  (226, .goto 20, 3, .null, [246], z_g0),
  (229, .lload 5, 2, .null, [], z_g0),
  (231, .ldc2_w 386, 3, .long (100 : Int64), [], z_g0),
  (234, .lcmp, 1, .null, [], z_g0),
  (235, .ifCond .le 8, 3, .null, [243], z_g0),
  (238, .bipush 100, 2, .int ((100 : Int32)), [], z_g0),
  (240, .goto 6, 3, .null, [246], z_g0),
  (243, .lload 5, 2, .null, [], z_g0),
  (245, .l2i, 1, .null, [], z_g0),
  (246, .iastore, 1, .null, [], z_g0),
  (247, .goto 82, 3, .null, [329], z_g0),
  (250, .aload_n 0, 1, .null, [], z_g0),
  (251, .getfield 488, 3, .null, [13, 34, 0], z_g0),
  (254, .bipush 60, 2, .int ((60 : Int32)), [], z_g0),
  (256, .if_icmp .ge 73, 3, .null, [329], z_g0),
  (259, .aload_n 0, 1, .null, [], z_g0),
  (260, .getfield 88, 3, .null, [13, 35, 3], z_g0),
  (263, .aload_n 0, 1, .null, [], z_g0),
  (264, .getfield 488, 3, .null, [13, 34, 0], z_g0),
  (267, .iload_n 3, 1, .null, [], z_g0),
  (268, .iastore, 1, .null, [], z_g0),
  (269, .aload_n 0, 1, .null, [], z_g0),
  (270, .dup, 1, .null, [], z_g0),
  (271, .getfield 488, 3, .null, [13, 34, 0], z_g0),
  (274, .iconst 1, 1, .int ((1 : Int32)), [], z_g0),
  (275, .iadd, 1, .null, [], z_g0),
  (276, .putfield 488, 3, .null, [13, 34, 0], z_g0),
  (279, .goto 50, 3, .null, [329], z_g0),
  (282, .aload_n 0, 1, .null, [], z_g0),
  (283, .getfield 97, 3, .null, [13, 39, 3], z_g0),
  (286, .iload_n 2, 1, .null, [], z_g0),
  (287, .iconst 1, 1, .int ((1 : Int32)), [], z_g0),
  (288, .iastore, 1, .null, [], z_g0),
  (289, .aload_n 0, 1, .null, [], z_g0),
  (290, .iload_n 3, 1, .null, [], z_g0),
  (291, .invokevirtual 455, 3, .null, [1, 13, 0], g_X12_call),
  (294, .goto 35, 3, .null, [329], z_g0),
  (297, .aload_n 0, 1, .null, [], z_g0),
  (298, .getfield 97, 3, .null, [13, 39, 3], z_g0),
  (301, .iload_n 2, 1, .null, [], z_g0),
  (302, .iconst 2, 1, .int ((2 : Int32)), [], z_g0),
  (303, .iastore, 1, .null, [], z_g0),
  (304, .aload_n 0, 1, .null, [], z_g0),
  (305, .iload_n 3, 1, .null, [], z_g0),
  (306, .invokevirtual 455, 3, .null, [1, 13, 0], g_X12_call),
  (309, .goto 20, 3, .null, [329], z_g0),
  (312, .aload_n 0, 1, .null, [], z_g0),
  (313, .iconst 2, 1, .int ((2 : Int32)), [], z_g0),
  (314, .iconst 0, 1, .int ((0 : Int32)), [], z_g0),
  (315, .iload_n 3, 1, .null, [], z_g0),
  (316, .invokevirtual 462, 3, .null, [1, 13, 0, 0, 0], g_X12_leave),
  (319, .goto 10, 3, .null, [329], z_g0),
  (322, .aload_n 0, 1, .null, [], z_g0),
  (323, .iload_n 3, 1, .null, [], z_g0),
  (324, .iload 4, 2, .null, [], z_g0),
  (326, .invokevirtual 491, 3, .null, [1, 13, 0, 0], g_X12_sumStep),
  (329, .return_, 1, .null, [], z_g0)]
set_option maxRecDepth 100000 in
theorem r_X12_doStep (v0 : Nat) (v1 : Int32) (v2 : Int32) (S : z_St) : z_seg z_rV (c_X12_doStep) [] (fun pc => fun _ _ _ => none) 167 (c_X12_doStep) [(0, .ref v0), (1, .int v1), (2, .int v2)] [] S = b_X12_doStep v0 v1 v2 S := rfl
def b_X12_go (v0 : Nat) (S : z_St) : Option z_St :=
z_chk S v0 13 (
let x1 := ((z_i S v0 36)) - ((1 : Int32))
z_chk S v0 13 (
z_onV (va_rf (z_r S v0 38)) fun b2 =>
z_inb S b2 101 x1 (
z_chk S v0 13 (
z_chk S v0 13 (
z_onV (va_rf (z_r S v0 37)) fun b3 =>
z_inb S b3 101 x1 (
z_onV (va_rf (z_r S v0 29)) fun b4 =>
z_inb S b4 101 ((z_i S b3 x1.toNatClampNeg)) (
if ((z_i S b2 x1.toNatClampNeg)) = ((z_i S b4 ((z_i S b3 x1.toNatClampNeg)).toNatClampNeg)) then
(z_chk S v0 13 (
(f_X12_leave v0 ((0 : Int32)) ((0 : Int32)) ((0 : Int32)) S).bind fun q12 =>
some q12))
else
(z_chk S v0 13 (
if ((z_i S v0 50)) = ((48 : Int32)) then
(z_chk S v0 13 (
(f_X12_fail v0 ((8 : Int32)) ((3 : Int32)) S).bind fun q11 =>
some q11))
else
(z_chk S v0 13 (
z_chk S v0 13 (
let S5 := z_wi S v0 50 (((z_i S v0 50)) + ((1 : Int32)))
z_chk S5 v0 13 (
z_onV (va_rf (z_r S5 v0 38)) fun b6 =>
z_inb S5 b6 101 x1 (
z_inb S5 b6 101 x1 (
let S7 := z_wi S5 b6 x1.toNatClampNeg (((z_i S5 b6 x1.toNatClampNeg)) + ((1 : Int32)))
z_chk S7 v0 13 (
z_onV (va_rf (z_r S7 v0 37)) fun b8 =>
z_inb S7 b8 101 x1 (
z_chk S7 v0 13 (
z_onV (va_rf (z_r S7 v0 38)) fun b9 =>
z_inb S7 b9 101 x1 (
z_chk S7 v0 13 (
(f_X12_doStep v0 (((((60 : Int32)) * ((z_i S7 b8 x1.toNatClampNeg))) + (((5 : Int32)) * ((z_i S7 b9 x1.toNatClampNeg)))) - ((5 : Int32))) x1 S7).bind fun q10 =>
some q10))))))))))))))))))))
def f_X12_go : Nat → z_St → Option z_St := z_op (b_X12_go)
theorem e_X12_go (v0 : Nat) (S : z_St) : f_X12_go v0 S = b_X12_go v0 S := congrFun (congrFun (z_op_eq (b_X12_go)) v0) S
def g_X12_go : z_G := .inr (.inr (.inr (fun as S => match as with
  | [.ref v0] => f_X12_go v0 S
  | _ => none)))
def c_X12_go : List z_E := [
  (0, .aload_n 0, 1, .null, [], z_g0),
  (1, .getfield 446, 3, .null, [13, 36, 0], z_g0),
  (4, .iconst 1, 1, .int ((1 : Int32)), [], z_g0),
  (5, .isub, 1, .null, [], z_g0),
  (6, .istore_n 1, 1, .null, [], z_g0),
  (7, .aload_n 0, 1, .null, [], z_g0),
  (8, .getfield 94, 3, .null, [13, 38, 3], z_g0),
  (11, .iload_n 1, 1, .null, [], z_g0),
  (12, .iaload, 1, .null, [101], z_g0),
  (13, .aload_n 0, 1, .null, [], z_g0),
  (14, .getfield 76, 3, .null, [13, 29, 3], z_g0),
  (17, .aload_n 0, 1, .null, [], z_g0),
  (18, .getfield 91, 3, .null, [13, 37, 3], z_g0),
  (21, .iload_n 1, 1, .null, [], z_g0),
  (22, .iaload, 1, .null, [101], z_g0),
  (23, .iaload, 1, .null, [101], z_g0),
  (24, .if_icmp .ne 13, 3, .null, [37], z_g0),
  (27, .aload_n 0, 1, .null, [], z_g0),
  (28, .iconst 0, 1, .int ((0 : Int32)), [], z_g0),
  (29, .iconst 0, 1, .int ((0 : Int32)), [], z_g0),
  (30, .iconst 0, 1, .int ((0 : Int32)), [], z_g0),
  (31, .invokevirtual 462, 3, .null, [1, 13, 0, 0, 0], g_X12_leave),
  (34, .goto 67, 3, .null, [101], z_g0),
  (37, .aload_n 0, 1, .null, [], z_g0),
  (38, .getfield 471, 3, .null, [13, 50, 0], z_g0),
  (41, .bipush 48, 2, .int ((48 : Int32)), [], z_g0),
  (43, .if_icmp .ne 13, 3, .null, [56], z_g0),
  (46, .aload_n 0, 1, .null, [], z_g0),
  (47, .bipush 8, 2, .int ((8 : Int32)), [], z_g0),
  (49, .iconst 3, 1, .int ((3 : Int32)), [], z_g0),
  (50, .invokevirtual 474, 3, .null, [1, 13, 0, 0], g_X12_fail),
  (53, .goto 48, 3, .null, [101], z_g0),
  (56, .aload_n 0, 1, .null, [], z_g0),
  (57, .dup, 1, .null, [], z_g0),
  (58, .getfield 471, 3, .null, [13, 50, 0], z_g0),
  (61, .iconst 1, 1, .int ((1 : Int32)), [], z_g0),
  (62, .iadd, 1, .null, [], z_g0),
  (63, .putfield 471, 3, .null, [13, 50, 0], z_g0),
  (66, .aload_n 0, 1, .null, [], z_g0),
  (67, .getfield 94, 3, .null, [13, 38, 3], z_g0),
  (70, .iload_n 1, 1, .null, [], z_g0),
  (71, .dup2, 1, .null, [1], z_g0),
  (72, .iaload, 1, .null, [101], z_g0),
  (73, .iconst 1, 1, .int ((1 : Int32)), [], z_g0),
  (74, .iadd, 1, .null, [], z_g0),
  (75, .iastore, 1, .null, [], z_g0),
  (76, .aload_n 0, 1, .null, [], z_g0),
  (77, .bipush 60, 2, .int ((60 : Int32)), [], z_g0),
  (79, .aload_n 0, 1, .null, [], z_g0),
  (80, .getfield 91, 3, .null, [13, 37, 3], z_g0),
  (83, .iload_n 1, 1, .null, [], z_g0),
  (84, .iaload, 1, .null, [101], z_g0),
  (85, .imul, 1, .null, [], z_g0),
  (86, .iconst 5, 1, .int ((5 : Int32)), [], z_g0),
  (87, .aload_n 0, 1, .null, [], z_g0),
  (88, .getfield 94, 3, .null, [13, 38, 3], z_g0),
  (91, .iload_n 1, 1, .null, [], z_g0),
  (92, .iaload, 1, .null, [101], z_g0),
  (93, .imul, 1, .null, [], z_g0),
  (94, .iadd, 1, .null, [], z_g0),
  (95, .iconst 5, 1, .int ((5 : Int32)), [], z_g0),
  (96, .isub, 1, .null, [], z_g0),
  (97, .iload_n 1, 1, .null, [], z_g0),
  (98, .invokevirtual 478, 3, .null, [1, 13, 0, 0], g_X12_doStep),
  (101, .return_, 1, .null, [], z_g0)]
set_option maxRecDepth 100000 in
theorem r_X12_go (v0 : Nat) (S : z_St) : z_seg z_rV (c_X12_go) [] (fun pc => fun _ _ _ => none) 68 (c_X12_go) [(0, .ref v0)] [] S = b_X12_go v0 S := rfl
def j_X12_act_197 (v0 : Nat) (t0 : Nat) (t1 : Int32) (S : z_St) : Option (Int32 × z_St) :=
z_chk S t0 13 (
let S17 := z_wi S t0 51 t1
z_chk S17 v0 13 (
if ((z_i S17 v0 47)) = ((2 : Int32)) then
(some ((1 : Int32), S17))
else
(some ((0 : Int32), S17))))
def l_X12_act_122 : Nat → Nat → Int64 → Int32 → z_St → Option (Int32 × z_St)
  | 0 => fun _ _ _ _ => none
  | n + 1 => fun (v0 : Nat) (v2 : Int64) (v4 : Int32) (S : z_St) =>
if ((2560 : Int32)) ≤ v4 then
(z_chk S v0 13 (
let S18 := z_wl S v0 31 v2
z_chk S18 v0 13 (
z_chk S18 v0 13 (
(f_X12_fails v0 ((z_i S18 v0 48)) S18).bind fun q19 =>
z_chk q19.2 v0 13 (
z_chk q19.2 v0 13 (
let S20 := z_wi q19.2 v0 2 ((z_i q19.2 v0 49))
some (q19.1, S20)))))))
else
(z_chk S v0 13 (
z_chk S v0 13 (
z_onV (va_rf (z_r S v0 53)) fun b21 =>
z_inb S b21 102 v4 (
z_onV (va_rf (z_r S v0 6)) fun b22 =>
z_inb S b22 102 v4 (
let S23 := z_wl S b22 v4.toNatClampNeg ((z_l S b21 v4.toNatClampNeg))
let x24 := v4 + (1 : Int32)
l_X12_act_122 n v0 v2 x24 S23)))))
def l_X12_act_83 : Nat → Nat → Int64 → z_St → Option (Int32 × z_St)
  | 0 => fun _ _ _ => none
  | n + 1 => fun (v0 : Nat) (v2 : Int64) (S : z_St) =>
z_chk S v0 13 (
if ((z_i S v0 36)) ≤ 0 then
(z_chk S v0 13 (
if ((z_i S v0 47)) = ((1 : Int32)) then
(l_X12_act_122 z_N v0 v2 ((0 : Int32)) S)
else
(z_chk S v0 13 (
(f_X12_well v0 S).bind fun q14 =>
z_chk q14 v0 13 (
if ((z_i q14 v0 47)) = ((2 : Int32)) then
(z_chk q14 v0 13 (
j_X12_act_197 v0 v0 ((z_i q14 v0 49)) q14))
else
(j_X12_act_197 v0 v0 ((0 : Int32)) q14))))))
else
(z_chk S v0 13 (
if ((z_i S v0 46)) = 0 then
(z_chk S v0 13 (
(f_X12_go v0 S).bind fun q15 =>
l_X12_act_83 n v0 v2 q15))
else
(z_chk S v0 13 (
(f_X12_hear v0 S).bind fun q16 =>
l_X12_act_83 n v0 v2 q16)))))
def l_X12_act_23 : Nat → Nat → Int32 → Int32 → z_St → Option (Int32 × z_St)
  | 0 => fun _ _ _ _ => none
  | n + 1 => fun (v0 : Nat) (v1 : Int32) (v2 : Int32) (S : z_St) =>
if ((2560 : Int32)) ≤ v2 then
(z_chk S v0 13 (
let x3 := (z_l S v0 31)
z_chk S v0 13 (
let S4 := z_wi S v0 36 ((0 : Int32))
z_chk S4 v0 13 (
let S5 := z_wi S4 v0 44 ((0 : Int32))
z_chk S5 v0 13 (
let S6 := z_wi S5 v0 50 ((0 : Int32))
z_chk S6 v0 13 (
let S7 := z_wi S6 v0 51 ((0 : Int32))
z_chk S7 v0 13 (
let S8 := z_wi S7 v0 52 ((0 : Int32))
z_chk S8 v0 13 (
(f_X12_call v0 v1 S8).bind fun q9 =>
l_X12_act_83 z_N v0 x3 q9))))))))
else
(z_chk S v0 13 (
z_chk S v0 13 (
z_onV (va_rf (z_r S v0 6)) fun b10 =>
z_inb S b10 102 v2 (
z_onV (va_rf (z_r S v0 53)) fun b11 =>
z_inb S b11 102 v2 (
let S12 := z_wl S b11 v2.toNatClampNeg ((z_l S b10 v2.toNatClampNeg))
let x13 := v2 + (1 : Int32)
l_X12_act_23 n v0 v1 x13 S12)))))
def b_X12_act (v0 : Nat) (v1 : Int32) (S : z_St) : Option (Int32 × z_St) :=
z_chk S v0 13 (
let S1 := z_wi S v0 0 ((0 : Int32))
(f_X12_in v1.toInt64 ((0 : Int64)) ((11 : Int64)) S1).bind fun q2 =>
if q2.1 = 0 then
(some ((-2000000001 : Int32), q2.2))
else
(l_X12_act_23 z_N v0 v1 ((0 : Int32)) q2.2))
def f_X12_act : Nat → Int32 → z_St → Option (Int32 × z_St) := z_op (b_X12_act)
theorem e_X12_act (v0 : Nat) (v1 : Int32) (S : z_St) : f_X12_act v0 v1 S = b_X12_act v0 v1 S := congrFun (congrFun (congrFun (z_op_eq (b_X12_act)) v0) v1) S
def g_X12_act : z_G := .inl (fun as S => match as with
  | [.ref v0, .int v1] => f_X12_act v0 v1 S
  | _ => none)
def c_X12_act : List z_E := [
  (0, .aload_n 0, 1, .null, [], z_g0),
  (1, .iconst 0, 1, .int ((0 : Int32)), [], z_g0),
  (2, .putfield 224, 3, .null, [13, 0, 0], z_g0),
  (5, .iload_n 1, 1, .null, [], z_g0),
  (6, .i2l, 1, .null, [], z_g0),
  (7, .lconst 0, 1, .long (0 : Int64), [], z_g0),
  (8, .ldc2_w 425, 3, .long (11 : Int64), [], z_g0),
  (11, .invokestatic 274, 3, .null, [0, 0, 0, 0], g_X12_in),
  (14, .ifCond .ne 7, 3, .null, [21], z_g0),
  (17, .ldc_w 296, 3, .int (-2000000001 : Int32), [], z_g0),
  (20, .ireturn, 1, .null, [], z_g0),
  (21, .iconst 0, 1, .int ((0 : Int32)), [], z_g0),
  (22, .istore_n 2, 1, .null, [], z_g0),
  (23, .iload_n 2, 1, .null, [], z_g0),
  (24, .sipush 2560, 3, .int ((2560 : Int32)), [], z_g0),
  (27, .if_icmp .ge 21, 3, .null, [48], z_g0),
  (30, .aload_n 0, 1, .null, [], z_g0),
  (31, .getfield 115, 3, .null, [13, 53, 3], z_g0),
  (34, .iload_n 2, 1, .null, [], z_g0),
  (35, .aload_n 0, 1, .null, [], z_g0),
  (36, .getfield 16, 3, .null, [13, 6, 3], z_g0),
  (39, .iload_n 2, 1, .null, [], z_g0),
  (40, .laload, 1, .null, [], z_g0),
  (41, .lastore, 1, .null, [], z_g0),
  (42, .iinc 2 1, 3, .int (1 : Int32), [], z_g0),
  (45, .goto (-22), 3, .null, [23], z_g0),
  (48, .aload_n 0, 1, .null, [], z_g0),
  (49, .getfield 484, 3, .null, [13, 31, 1], z_g0),
  (52, .lstore_n 2, 1, .null, [], z_g0),
  (53, .aload_n 0, 1, .null, [], z_g0),
  (54, .iconst 0, 1, .int ((0 : Int32)), [], z_g0),
  (55, .putfield 446, 3, .null, [13, 36, 0], z_g0),
  (58, .aload_n 0, 1, .null, [], z_g0),
  (59, .iconst 0, 1, .int ((0 : Int32)), [], z_g0),
  (60, .putfield 452, 3, .null, [13, 44, 0], z_g0),
  (63, .aload_n 0, 1, .null, [], z_g0),
  (64, .iconst 0, 1, .int ((0 : Int32)), [], z_g0),
  (65, .putfield 471, 3, .null, [13, 50, 0], z_g0),
  (68, .aload_n 0, 1, .null, [], z_g0),
  (69, .iconst 0, 1, .int ((0 : Int32)), [], z_g0),
  (70, .putfield 496, 3, .null, [13, 51, 0], z_g0),
  (73, .aload_n 0, 1, .null, [], z_g0),
  (74, .iconst 0, 1, .int ((0 : Int32)), [], z_g0),
  (75, .putfield 468, 3, .null, [13, 52, 0], z_g0),
  (78, .aload_n 0, 1, .null, [], z_g0),
  (79, .iload_n 1, 1, .null, [], z_g0),
  (80, .invokevirtual 455, 3, .null, [1, 13, 0], g_X12_call),
  (83, .aload_n 0, 1, .null, [], z_g0),
  (84, .getfield 446, 3, .null, [13, 36, 0], z_g0),
  (87, .ifCond .le 24, 3, .null, [111], z_g0),
  (90, .aload_n 0, 1, .null, [], z_g0),
  (91, .getfield 433, 3, .null, [13, 46, 0], z_g0),
  (94, .ifCond .eq 10, 3, .null, [104], z_g0),
  (97, .aload_n 0, 1, .null, [], z_g0),
  (98, .invokevirtual 499, 3, .null, [1, 13], g_X12_hear),
  (101, .goto (-18), 3, .null, [83], z_g0),
  (104, .aload_n 0, 1, .null, [], z_g0),
  (105, .invokevirtual 502, 3, .null, [1, 13], g_X12_go),
  (108, .goto (-25), 3, .null, [83], z_g0),
  (111, .aload_n 0, 1, .null, [], z_g0),
  (112, .getfield 437, 3, .null, [13, 47, 0], z_g0),
  (115, .iconst 1, 1, .int ((1 : Int32)), [], z_g0),
  (116, .if_icmp .ne 60, 3, .null, [176], z_g0),
  (119, .iconst 0, 1, .int ((0 : Int32)), [], z_g0),
  (120, .istore 4, 2, .null, [], z_g0),
  (122, .iload 4, 2, .null, [], z_g0),
  (124, .sipush 2560, 3, .int ((2560 : Int32)), [], z_g0),
  (127, .if_icmp .ge 23, 3, .null, [150], z_g0),
  (130, .aload_n 0, 1, .null, [], z_g0),
  (131, .getfield 16, 3, .null, [13, 6, 3], z_g0),
  (134, .iload 4, 2, .null, [], z_g0),
  (136, .aload_n 0, 1, .null, [], z_g0),
  (137, .getfield 115, 3, .null, [13, 53, 3], z_g0),
  (140, .iload 4, 2, .null, [], z_g0),
  (142, .laload, 1, .null, [], z_g0),
  (143, .lastore, 1, .null, [], z_g0),
  (144, .iinc 4 1, 3, .int (1 : Int32), [], z_g0),
  (147, .goto (-25), 3, .null, [122], z_g0),
  (150, .aload_n 0, 1, .null, [], z_g0),
  (151, .lload_n 2, 1, .null, [], z_g0),
  (152, .putfield 484, 3, .null, [13, 31, 1], z_g0),
  (155, .aload_n 0, 1, .null, [], z_g0),
  (156, .aload_n 0, 1, .null, [], z_g0),
  (157, .getfield 440, 3, .null, [13, 48, 0], z_g0),
  (160, .invokevirtual 282, 3, .null, [1, 13, 0], g_X12_fails),
  (163, .istore 4, 2, .null, [], z_g0),
  (165, .aload_n 0, 1, .null, [], z_g0),
  (166, .aload_n 0, 1, .null, [], z_g0),
  (167, .getfield 443, 3, .null, [13, 49, 0], z_g0),
  (170, .putfield 230, 3, .null, [13, 2, 0], z_g0),
  (173, .iload 4, 2, .null, [], z_g0),
  (175, .ireturn, 1, .null, [], z_g0),
  (176, .aload_n 0, 1, .null, [], z_g0),
  (177, .invokevirtual 286, 3, .null, [1, 13], g_X12_well),
  (180, .aload_n 0, 1, .null, [], z_g0),
  (181, .aload_n 0, 1, .null, [], z_g0),
  (182, .getfield 437, 3, .null, [13, 47, 0], z_g0),
  (185, .iconst 2, 1, .int ((2 : Int32)), [], z_g0),
  (186, .if_icmp .ne 10, 3, .null, [196], z_g0),
  (189, .aload_n 0, 1, .null, [], z_g0),
  (190, .getfield 443, 3, .null, [13, 49, 0], z_g0),
  (193, .goto 4, 3, .null, [197], z_g0),
  (196, .iconst 0, 1, .int ((0 : Int32)), [], z_g0),
  (197, .putfield 496, 3, .null, [13, 51, 0], z_g0),
  (200, .aload_n 0, 1, .null, [], z_g0),
  (201, .getfield 437, 3, .null, [13, 47, 0], z_g0),
  (204, .iconst 2, 1, .int ((2 : Int32)), [], z_g0),
  (205, .if_icmp .ne 7, 3, .null, [212], z_g0),
  (208, .iconst 1, 1, .int ((1 : Int32)), [], z_g0),
  (209, .goto 4, 3, .null, [213], z_g0),
  (212, .iconst 0, 1, .int ((0 : Int32)), [], z_g0),
  (213, .ireturn, 1, .null, [], z_g0)]
def a_X12_act_23 {ρ : Type} (k : Nat → Int32 → Int32 → z_St → Option ρ) (ls : z_Lv) (st : List Value) (S : z_St) : Option ρ := z_gR ls 0 fun v0 => z_gI ls 1 fun v1 => z_gI ls 2 fun v2 => z_p0 st (k v0 v1 v2 S)
def a_X12_act_83 {ρ : Type} (k : Nat → Int64 → z_St → Option ρ) (ls : z_Lv) (st : List Value) (S : z_St) : Option ρ := z_gR ls 0 fun v0 => z_gJ ls 2 fun v2 => z_p0 st (k v0 v2 S)
def a_X12_act_122 {ρ : Type} (k : Nat → Int64 → Int32 → z_St → Option ρ) (ls : z_Lv) (st : List Value) (S : z_St) : Option ρ := z_gR ls 0 fun v0 => z_gJ ls 2 fun v2 => z_gI ls 4 fun v4 => z_p0 st (k v0 v2 v4 S)
def a_X12_act_197 {ρ : Type} (k : Nat → Nat → Int32 → z_St → Option ρ) (ls : z_Lv) (st : List Value) (S : z_St) : Option ρ := z_gR ls 0 fun v0 => z_pI st fun t1 s1 => z_pR s1 fun t0 s0 => z_p0 s0 (k v0 t0 t1 S)
set_option maxRecDepth 100000 in
theorem r_X12_act_197 (v0 : Nat) (t0 : Nat) (t1 : Int32) (S : z_St) : z_seg z_rI (c_X12_act) [23, 83, 122, 197] (fun pc => fun _ _ _ => none) 115 (z_to 197 (c_X12_act)) [(0, .ref v0)] [.int t1, .ref t0] S = j_X12_act_197 v0 t0 t1 S := rfl
set_option maxRecDepth 100000 in
theorem r_X12_act_122 (n : Nat) (v0 : Nat) (v2 : Int64) (v4 : Int32) (S : z_St) : z_seg z_rI (c_X12_act) [23, 83, 122, 197] (fun pc => cond (Nat.beq pc 122) (a_X12_act_122 (l_X12_act_122 n)) (fun _ _ _ => none)) 115 (z_to 122 (c_X12_act)) [(0, .ref v0), (2, .long v2), (4, .int v4)] [] S = l_X12_act_122 (n + 1) v0 v2 v4 S := rfl
set_option maxRecDepth 100000 in
theorem r_X12_act_83 (n : Nat) (v0 : Nat) (v2 : Int64) (S : z_St) : z_seg z_rI (c_X12_act) [23, 83, 122, 197] (fun pc => cond (Nat.beq pc 83) (a_X12_act_83 (l_X12_act_83 n)) (cond (Nat.beq pc 122) (a_X12_act_122 (l_X12_act_122 z_N)) (cond (Nat.beq pc 197) (a_X12_act_197 (j_X12_act_197)) (fun _ _ _ => none)))) 115 (z_to 83 (c_X12_act)) [(0, .ref v0), (2, .long v2)] [] S = l_X12_act_83 (n + 1) v0 v2 S := rfl
set_option maxRecDepth 100000 in
theorem r_X12_act_23 (n : Nat) (v0 : Nat) (v1 : Int32) (v2 : Int32) (S : z_St) : z_seg z_rI (c_X12_act) [23, 83, 122, 197] (fun pc => cond (Nat.beq pc 23) (a_X12_act_23 (l_X12_act_23 n)) (cond (Nat.beq pc 83) (a_X12_act_83 (l_X12_act_83 z_N)) (fun _ _ _ => none))) 115 (z_to 23 (c_X12_act)) [(0, .ref v0), (1, .int v1), (2, .int v2)] [] S = l_X12_act_23 (n + 1) v0 v1 v2 S := rfl
set_option maxRecDepth 100000 in
theorem r_X12_act (v0 : Nat) (v1 : Int32) (S : z_St) : z_seg z_rI (c_X12_act) [23, 83, 122, 197] (fun pc => cond (Nat.beq pc 23) (a_X12_act_23 (l_X12_act_23 z_N)) (fun _ _ _ => none)) 115 (c_X12_act) [(0, .ref v0), (1, .int v1)] [] S = b_X12_act v0 v1 S := rfl
def b_X12_raised (v0 : Nat) (v1 : Int32) (S : z_St) : Option (Int32 × z_St) :=
z_chk S v0 13 (
let S1 := z_wi S v0 0 ((0 : Int32))
if v1 = (0 : Int32) then
(z_chk S1 v0 13 (
some ((z_i S1 v0 1), S1)))
else
if v1 = (1 : Int32) then
(z_chk S1 v0 13 (
some ((z_i S1 v0 2), S1)))
else
if v1 = (2 : Int32) then
(z_chk S1 v0 13 (
some ((z_i S1 v0 51), S1)))
else
if v1 = (3 : Int32) then
(z_chk S1 v0 13 (
some ((z_i S1 v0 50), S1)))
else
if v1 = (4 : Int32) then
(z_chk S1 v0 13 (
some ((z_i S1 v0 52), S1)))
else
(some ((-2000000002 : Int32), S1)))
def f_X12_raised : Nat → Int32 → z_St → Option (Int32 × z_St) := z_op (b_X12_raised)
theorem e_X12_raised (v0 : Nat) (v1 : Int32) (S : z_St) : f_X12_raised v0 v1 S = b_X12_raised v0 v1 S := congrFun (congrFun (congrFun (z_op_eq (b_X12_raised)) v0) v1) S
def g_X12_raised : z_G := .inl (fun as S => match as with
  | [.ref v0, .int v1] => f_X12_raised v0 v1 S
  | _ => none)
def c_X12_raised : List z_E := [
  (0, .aload_n 0, 1, .null, [], z_g0),
  (1, .iconst 0, 1, .int ((0 : Int32)), [], z_g0),
  (2, .putfield 224, 3, .null, [13, 0, 0], z_g0),
  (5, .iload_n 1, 1, .null, [], z_g0),
  (6, .tableswitch 59 0 4 #[34, 39, 44, 49, 54], 34, .null, [65, 0, 40, 45, 50, 55, 60], z_g0),
  (40, .aload_n 0, 1, .null, [], z_g0),
  (41, .getfield 227, 3, .null, [13, 1, 0], z_g0),
  (44, .ireturn, 1, .null, [], z_g0),
  (45, .aload_n 0, 1, .null, [], z_g0),
  (46, .getfield 230, 3, .null, [13, 2, 0], z_g0),
  (49, .ireturn, 1, .null, [], z_g0),
  (50, .aload_n 0, 1, .null, [], z_g0),
  (51, .getfield 496, 3, .null, [13, 51, 0], z_g0),
  (54, .ireturn, 1, .null, [], z_g0),
  (55, .aload_n 0, 1, .null, [], z_g0),
  (56, .getfield 471, 3, .null, [13, 50, 0], z_g0),
  (59, .ireturn, 1, .null, [], z_g0),
  (60, .aload_n 0, 1, .null, [], z_g0),
  (61, .getfield 468, 3, .null, [13, 52, 0], z_g0),
  (64, .ireturn, 1, .null, [], z_g0),
  (65, .ldc_w 280, 3, .int (-2000000002 : Int32), [], z_g0),
  (68, .ireturn, 1, .null, [], z_g0)]
set_option maxRecDepth 100000 in
theorem r_X12_raised (v0 : Nat) (v1 : Int32) (S : z_St) : z_seg z_rI (c_X12_raised) [] (fun pc => fun _ _ _ => none) 25 (c_X12_raised) [(0, .ref v0), (1, .int v1)] [] S = b_X12_raised v0 v1 S := rfl
def b_X12_stock (v0 : Nat) (v1 : Int64) (S : z_St) : Option (Int64 × z_St) :=
z_chk S v0 13 (
let S1 := z_wi S v0 0 ((0 : Int32))
(f_X12_in v1 ((0 : Int64)) ((1000000000000000 : Int64)) S1).bind fun q2 =>
if q2.1 = 0 then
(some ((-2000000002 : Int64), q2.2))
else
(z_chk q2.2 v0 13 (
let x3 := (z_l q2.2 v0 31)
z_chk q2.2 v0 13 (
let S4 := z_wl q2.2 v0 31 v1
some (x3, S4)))))
def f_X12_stock : Nat → Int64 → z_St → Option (Int64 × z_St) := z_op (b_X12_stock)
theorem e_X12_stock (v0 : Nat) (v1 : Int64) (S : z_St) : f_X12_stock v0 v1 S = b_X12_stock v0 v1 S := congrFun (congrFun (congrFun (z_op_eq (b_X12_stock)) v0) v1) S
def g_X12_stock : z_G := .inr (.inl (fun as S => match as with
  | [.ref v0, .long v1] => f_X12_stock v0 v1 S
  | _ => none))
def c_X12_stock : List z_E := [
  (0, .aload_n 0, 1, .null, [], z_g0),
  (1, .iconst 0, 1, .int ((0 : Int32)), [], z_g0),
  (2, .putfield 224, 3, .null, [13, 0, 0], z_g0),
  (5, .lload_n 1, 1, .null, [], z_g0),
  (6, .lconst 0, 1, .long (0 : Int64), [], z_g0),
  (7, .ldc2_w 494, 3, .long (1000000000000000 : Int64), [], z_g0),
  (10, .invokestatic 274, 3, .null, [0, 0, 0, 0], g_X12_in),
  (13, .ifCond .ne 7, 3, .null, [20], z_g0),
  (16, .ldc2_w 398, 3, .long (-2000000002 : Int64), [], z_g0),
  (19, .lreturn, 1, .null, [], z_g0),
  (20, .aload_n 0, 1, .null, [], z_g0),
  (21, .getfield 484, 3, .null, [13, 31, 1], z_g0),
  (24, .lstore_n 3, 1, .null, [], z_g0),
  (25, .aload_n 0, 1, .null, [], z_g0),
  (26, .lload_n 1, 1, .null, [], z_g0),
  (27, .putfield 484, 3, .null, [13, 31, 1], z_g0),
  (30, .lload_n 3, 1, .null, [], z_g0),
  (31, .lreturn, 1, .null, [], z_g0)]
set_option maxRecDepth 100000 in
theorem r_X12_stock (v0 : Nat) (v1 : Int64) (S : z_St) : z_seg z_rL (c_X12_stock) [] (fun pc => fun _ _ _ => none) 21 (c_X12_stock) [(0, .ref v0), (1, .long v1)] [] S = b_X12_stock v0 v1 S := rfl
def b_X12_gate (v0 : Nat) (v1 : Int32) (v2 : Int32) (S : z_St) : Option (Int32 × z_St) :=
z_chk S v0 13 (
let S1 := z_wi S v0 0 ((0 : Int32))
(f_X12_in v1.toInt64 ((0 : Int64)) ((3 : Int64)) S1).bind fun q2 =>
if q2.1 = 0 then
(some ((-2000000001 : Int32), q2.2))
else
(if v2 = 0 then
(z_chk q2.2 v0 13 (
z_onV (va_rf (z_r q2.2 v0 32)) fun b4 =>
z_inb q2.2 b4 101 v1 (
some ((z_i q2.2 b4 v1.toNatClampNeg), q2.2))))
else
(if v2 = ((1 : Int32)) then
(z_chk q2.2 v0 13 (
z_onV (va_rf (z_r q2.2 v0 33)) fun b3 =>
z_inb q2.2 b3 101 v1 (
some ((z_i q2.2 b3 v1.toNatClampNeg), q2.2))))
else
(some ((-2000000002 : Int32), q2.2)))))
def f_X12_gate : Nat → Int32 → Int32 → z_St → Option (Int32 × z_St) := z_op (b_X12_gate)
theorem e_X12_gate (v0 : Nat) (v1 : Int32) (v2 : Int32) (S : z_St) : f_X12_gate v0 v1 v2 S = b_X12_gate v0 v1 v2 S := congrFun (congrFun (congrFun (congrFun (z_op_eq (b_X12_gate)) v0) v1) v2) S
def g_X12_gate : z_G := .inl (fun as S => match as with
  | [.ref v0, .int v1, .int v2] => f_X12_gate v0 v1 v2 S
  | _ => none)
def c_X12_gate : List z_E := [
  (0, .aload_n 0, 1, .null, [], z_g0),
  (1, .iconst 0, 1, .int ((0 : Int32)), [], z_g0),
  (2, .putfield 224, 3, .null, [13, 0, 0], z_g0),
  (5, .iload_n 1, 1, .null, [], z_g0),
  (6, .i2l, 1, .null, [], z_g0),
  (7, .lconst 0, 1, .long (0 : Int64), [], z_g0),
  (8, .ldc2_w 423, 3, .long (3 : Int64), [], z_g0),
  (11, .invokestatic 274, 3, .null, [0, 0, 0, 0], g_X12_in),
  (14, .ifCond .ne 9, 3, .null, [23], z_g0),
  (17, .ldc_w 296, 3, .int (-2000000001 : Int32), [], z_g0),
  (20, .goto 33, 3, .null, [53], z_g0),
  (23, .iload_n 2, 1, .null, [], z_g0),
  (24, .ifCond .ne 12, 3, .null, [36], z_g0),
  (27, .aload_n 0, 1, .null, [], z_g0),
  (28, .getfield 82, 3, .null, [13, 32, 3], z_g0),
  (31, .iload_n 1, 1, .null, [], z_g0),
  (32, .iaload, 1, .null, [101], z_g0),
  (33, .goto 20, 3, .null, [53], z_g0),
  (36, .iload_n 2, 1, .null, [], z_g0),
  (37, .iconst 1, 1, .int ((1 : Int32)), [], z_g0),
  (38, .if_icmp .ne 12, 3, .null, [50], z_g0),
  (41, .aload_n 0, 1, .null, [], z_g0),
  (42, .getfield 85, 3, .null, [13, 33, 3], z_g0),
  (45, .iload_n 1, 1, .null, [], z_g0),
  (46, .iaload, 1, .null, [101], z_g0),
  (47, .goto 6, 3, .null, [53], z_g0),
  (50, .ldc_w 280, 3, .int (-2000000002 : Int32), [], z_g0),
  (53, .ireturn, 1, .null, [], z_g0)]
set_option maxRecDepth 100000 in
theorem r_X12_gate (v0 : Nat) (v1 : Int32) (v2 : Int32) (S : z_St) : z_seg z_rI (c_X12_gate) [] (fun pc => fun _ _ _ => none) 31 (c_X12_gate) [(0, .ref v0), (1, .int v1), (2, .int v2)] [] S = b_X12_gate v0 v1 v2 S := rfl
def b_X12_signal (v0 : Nat) (v1 : Int32) (S : z_St) : Option (Int32 × z_St) :=
z_chk S v0 13 (
let S1 := z_wi S v0 0 ((0 : Int32))
z_chk S1 v0 13 (
(f_X12_in v1.toInt64 ((0 : Int64)) ((((z_i S1 v0 34)) - ((1 : Int32))).toInt64) S1).bind fun q2 =>
if q2.1 = 0 then
(some ((-1 : Int32), q2.2))
else
(z_chk q2.2 v0 13 (
z_onV (va_rf (z_r q2.2 v0 35)) fun b3 =>
z_inb q2.2 b3 101 v1 (
some ((z_i q2.2 b3 v1.toNatClampNeg), q2.2))))))
def f_X12_signal : Nat → Int32 → z_St → Option (Int32 × z_St) := z_op (b_X12_signal)
theorem e_X12_signal (v0 : Nat) (v1 : Int32) (S : z_St) : f_X12_signal v0 v1 S = b_X12_signal v0 v1 S := congrFun (congrFun (congrFun (z_op_eq (b_X12_signal)) v0) v1) S
def g_X12_signal : z_G := .inl (fun as S => match as with
  | [.ref v0, .int v1] => f_X12_signal v0 v1 S
  | _ => none)
def c_X12_signal : List z_E := [
  (0, .aload_n 0, 1, .null, [], z_g0),
  (1, .iconst 0, 1, .int ((0 : Int32)), [], z_g0),
  (2, .putfield 224, 3, .null, [13, 0, 0], z_g0),
  (5, .iload_n 1, 1, .null, [], z_g0),
  (6, .i2l, 1, .null, [], z_g0),
  (7, .lconst 0, 1, .long (0 : Int64), [], z_g0),
  (8, .aload_n 0, 1, .null, [], z_g0),
  (9, .getfield 488, 3, .null, [13, 34, 0], z_g0),
  (12, .iconst 1, 1, .int ((1 : Int32)), [], z_g0),
  (13, .isub, 1, .null, [], z_g0),
  (14, .i2l, 1, .null, [], z_g0),
  (15, .invokestatic 274, 3, .null, [0, 0, 0, 0], g_X12_in),
  (18, .ifCond .eq 12, 3, .null, [30], z_g0),
  (21, .aload_n 0, 1, .null, [], z_g0),
  (22, .getfield 88, 3, .null, [13, 35, 3], z_g0),
  (25, .iload_n 1, 1, .null, [], z_g0),
  (26, .iaload, 1, .null, [101], z_g0),
  (27, .goto 4, 3, .null, [31], z_g0),
  (30, .iconst (-1), 1, .int ((-1 : Int32)), [], z_g0),
  (31, .ireturn, 1, .null, [], z_g0)]
set_option maxRecDepth 100000 in
theorem r_X12_signal (v0 : Nat) (v1 : Int32) (S : z_St) : z_seg z_rI (c_X12_signal) [] (fun pc => fun _ _ _ => none) 23 (c_X12_signal) [(0, .ref v0), (1, .int v1)] [] S = b_X12_signal v0 v1 S := rfl
def b_X12_lineOf (v0 : Int32) (S : z_St) : Option (Int64 × z_St) :=
some (((((1000 : Int64)) * v0.toInt64) * v0.toInt64) + (((2000 : Int64)) * v0.toInt64), S)
def f_X12_lineOf : Int32 → z_St → Option (Int64 × z_St) := z_op (b_X12_lineOf)
theorem e_X12_lineOf (v0 : Int32) (S : z_St) : f_X12_lineOf v0 S = b_X12_lineOf v0 S := congrFun (congrFun (z_op_eq (b_X12_lineOf)) v0) S
def g_X12_lineOf : z_G := .inr (.inl (fun as S => match as with
  | [.int v0] => f_X12_lineOf v0 S
  | _ => none))
def c_X12_lineOf : List z_E := [
  (0, .ldc2_w 336, 3, .long (1000 : Int64), [], z_g0),
  (3, .iload_n 0, 1, .null, [], z_g0),
  (4, .i2l, 1, .null, [], z_g0),
  (5, .lmul, 1, .null, [], z_g0),
  (6, .iload_n 0, 1, .null, [], z_g0),
  (7, .i2l, 1, .null, [], z_g0),
  (8, .lmul, 1, .null, [], z_g0),
  (9, .ldc2_w 505, 3, .long (2000 : Int64), [], z_g0),
  (12, .iload_n 0, 1, .null, [], z_g0),
  (13, .i2l, 1, .null, [], z_g0),
  (14, .lmul, 1, .null, [], z_g0),
  (15, .ladd, 1, .null, [], z_g0),
  (16, .lreturn, 1, .null, [], z_g0)]
set_option maxRecDepth 100000 in
theorem r_X12_lineOf (v0 : Int32) (S : z_St) : z_seg z_rL (c_X12_lineOf) [] (fun pc => fun _ _ _ => none) 16 (c_X12_lineOf) [(0, .int v0)] [] S = b_X12_lineOf v0 S := rfl
def j_X12_levelOf_26 (v0 : UInt64) (v2 : Int32) (S : z_St) : Option (UInt64 × z_St) :=
(f_X12_lineOf v2 S).bind fun q3 =>
let x4 := FP.l2d q3.1
z_nn (FP.dsub v0 x4) (
(f_X12_lineOf (v2 + ((1 : Int32))) q3.2).bind fun q5 =>
z_nn (FP.dsub (FP.l2d q5.1) x4) (
z_nn (FP.ddiv (FP.dsub v0 x4) (FP.dsub (FP.l2d q5.1) x4)) (
z_nn (FP.dadd (FP.i2d v2) (FP.ddiv (FP.dsub v0 x4) (FP.dsub (FP.l2d q5.1) x4))) (
some (FP.dadd (FP.i2d v2) (FP.ddiv (FP.dsub v0 x4) (FP.dsub (FP.l2d q5.1) x4)), q5.2)))))
def l_X12_levelOf_2 : Nat → UInt64 → Int32 → z_St → Option (UInt64 × z_St)
  | 0 => fun _ _ _ => none
  | n + 1 => fun (v0 : UInt64) (v2 : Int32) (S : z_St) =>
if ((39 : Int32)) ≤ v2 then
(j_X12_levelOf_26 v0 v2 S)
else
((f_X12_lineOf (v2 + ((1 : Int32))) S).bind fun q1 =>
if 0 < (Op.cmpValue (FP.dcmp (FP.l2d q1.1) v0) .g) then
(j_X12_levelOf_26 v0 v2 q1.2)
else
(let x2 := v2 + (1 : Int32)
l_X12_levelOf_2 n v0 x2 q1.2))
def b_X12_levelOf (v0 : UInt64) (S : z_St) : Option (UInt64 × z_St) :=
l_X12_levelOf_2 z_N v0 ((0 : Int32)) S
def f_X12_levelOf : UInt64 → z_St → Option (UInt64 × z_St) := z_op (b_X12_levelOf)
theorem e_X12_levelOf (v0 : UInt64) (S : z_St) : f_X12_levelOf v0 S = b_X12_levelOf v0 S := congrFun (congrFun (z_op_eq (b_X12_levelOf)) v0) S
def g_X12_levelOf : z_G := .inr (.inr (.inl (fun as S => match as with
  | [.double v0] => f_X12_levelOf v0 S
  | _ => none)))
def c_X12_levelOf : List z_E := [
  (0, .iconst 0, 1, .int ((0 : Int32)), [], z_g0),
  (1, .istore_n 2, 1, .null, [], z_g0),
  (2, .iload_n 2, 1, .null, [], z_g0),
  (3, .bipush 39, 2, .int ((39 : Int32)), [], z_g0),
  (5, .if_icmp .ge 21, 3, .null, [26], z_g0),
  (8, .iload_n 2, 1, .null, [], z_g0),
  (9, .iconst 1, 1, .int ((1 : Int32)), [], z_g0),
  (10, .iadd, 1, .null, [], z_g0),
  (11, .invokestatic 507, 3, .null, [0, 0], g_X12_lineOf),
  (14, .l2d, 1, .null, [], z_g0),
  (15, .dload_n 0, 1, .null, [], z_g0),
  (16, .dcmp .g, 1, .null, [], z_g0),
  (17, .ifCond .gt 9, 3, .null, [26], z_g0),
  (20, .iinc 2 1, 3, .int (1 : Int32), [], z_g0),
  (23, .goto (-21), 3, .null, [2], z_g0),
  (26, .iload_n 2, 1, .null, [], z_g0),
  (27, .invokestatic 507, 3, .null, [0, 0], g_X12_lineOf),
  (30, .l2d, 1, .null, [], z_g0),
  (31, .dstore_n 3, 1, .null, [], z_g0),
  (32, .iload_n 2, 1, .null, [], z_g0),
  (33, .i2d, 1, .null, [], z_g0),
  (34, .dload_n 0, 1, .null, [], z_g0),
  (35, .dload_n 3, 1, .null, [], z_g0),
  (36, .dsub, 1, .null, [], z_g0),
  (37, .iload_n 2, 1, .null, [], z_g0),
  (38, .iconst 1, 1, .int ((1 : Int32)), [], z_g0),
  (39, .iadd, 1, .null, [], z_g0),
  (40, .invokestatic 507, 3, .null, [0, 0], g_X12_lineOf),
  (43, .l2d, 1, .null, [], z_g0),
  (44, .dload_n 3, 1, .null, [], z_g0),
  (45, .dsub, 1, .null, [], z_g0),
  (46, .ddiv, 1, .null, [], z_g0),
  (47, .dadd, 1, .null, [], z_g0),
  (48, .dreturn, 1, .null, [], z_g0)]
def a_X12_levelOf_2 {ρ : Type} (k : UInt64 → Int32 → z_St → Option ρ) (ls : z_Lv) (st : List Value) (S : z_St) : Option ρ := z_gD ls 0 fun v0 => z_gI ls 2 fun v2 => z_p0 st (k v0 v2 S)
def a_X12_levelOf_26 {ρ : Type} (k : UInt64 → Int32 → z_St → Option ρ) (ls : z_Lv) (st : List Value) (S : z_St) : Option ρ := z_gD ls 0 fun v0 => z_gI ls 2 fun v2 => z_p0 st (k v0 v2 S)
set_option maxRecDepth 100000 in
theorem r_X12_levelOf_26 (v0 : UInt64) (v2 : Int32) (S : z_St) : z_seg z_rD (c_X12_levelOf) [2, 26] (fun pc => fun _ _ _ => none) 37 (z_to 26 (c_X12_levelOf)) [(0, .double v0), (2, .int v2)] [] S = j_X12_levelOf_26 v0 v2 S := rfl
set_option maxRecDepth 100000 in
theorem r_X12_levelOf_2 (n : Nat) (v0 : UInt64) (v2 : Int32) (S : z_St) : z_seg z_rD (c_X12_levelOf) [2, 26] (fun pc => cond (Nat.beq pc 2) (a_X12_levelOf_2 (l_X12_levelOf_2 n)) (cond (Nat.beq pc 26) (a_X12_levelOf_26 (j_X12_levelOf_26)) (fun _ _ _ => none))) 37 (z_to 2 (c_X12_levelOf)) [(0, .double v0), (2, .int v2)] [] S = l_X12_levelOf_2 (n + 1) v0 v2 S := rfl
set_option maxRecDepth 100000 in
theorem r_X12_levelOf (v0 : UInt64) (S : z_St) : z_seg z_rD (c_X12_levelOf) [2, 26] (fun pc => cond (Nat.beq pc 2) (a_X12_levelOf_2 (l_X12_levelOf_2 z_N)) (fun _ _ _ => none)) 37 (c_X12_levelOf) [(0, .double v0)] [] S = b_X12_levelOf v0 S := rfl
def j_X12_root_227 (v4 : Int32) (t0 : Int64) (t1 : Int64) (S : z_St) : Option (UInt64 × z_St) :=
let x11 := t0 + t1
z_nz ((2 : Int32)) (
z_l2d ((((((v4 - ((54 : Int32))) / ((2 : Int32))) + ((1076 : Int32))).toInt64) <<< (((52 : Int32)).toInt64 &&& 63)) + (x11 - ((4503599627370496 : Int64)))) (
some (((((((v4 - ((54 : Int32))) / ((2 : Int32))) + ((1076 : Int32))).toInt64) <<< (((52 : Int32)).toInt64 &&& 63)) + (x11 - ((4503599627370496 : Int64)))).toUInt64, S)))
def j_X12_root_145 (k_109 : Int32 → Int64 → Int64 → Int64 → Int32 → z_St → Option (UInt64 × z_St)) (v4 : Int32) (v5 : Int64) (v9 : Int64) (v11 : Int32) (t0 : Int64) (t1 : Int64) (S : z_St) : Option (UInt64 × z_St) :=
let x12 := t0 ||| t1
let x13 := (v9 <<< (((2 : Int32)).toInt64 &&& 63)) ||| ((1 : Int64))
let x14 := v9 <<< (((1 : Int32)).toInt64 &&& 63)
if (lg_cmp x12 x13) < 0 then
(let x15 := v11 + (1 : Int32)
k_109 v4 v5 x12 x14 x15 S)
else
(let x16 := x12 - x13
let x17 := x14 ||| ((1 : Int64))
let x18 := v11 + (1 : Int32)
k_109 v4 v5 x16 x17 x18 S)
def l_X12_root_109 : Nat → Int32 → Int64 → Int64 → Int64 → Int32 → z_St → Option (UInt64 × z_St)
  | 0 => fun _ _ _ _ _ _ => none
  | n + 1 => fun (v4 : Int32) (v5 : Int64) (v7 : Int64) (v9 : Int64) (v11 : Int32) (S : z_St) =>
if ((54 : Int32)) ≤ v11 then
(let x10 := v9 >>> (((1 : Int32)).toInt64 &&& 63)
if (lg_cmp (v9 &&& ((1 : Int64))) ((1 : Int64))) = 0 then
(if (lg_cmp v7 ((0 : Int64))) = 0 then
(if (lg_cmp (x10 &&& ((1 : Int64))) ((1 : Int64))) = 0 then
(j_X12_root_227 v4 x10 ((1 : Int64)) S)
else
(j_X12_root_227 v4 x10 ((0 : Int64)) S))
else
(j_X12_root_227 v4 x10 ((1 : Int64)) S))
else
(j_X12_root_227 v4 x10 ((0 : Int64)) S))
else
(if ((27 : Int32)) ≤ v11 then
(j_X12_root_145 (l_X12_root_109 n) v4 v5 v9 v11 (v7 <<< (((2 : Int32)).toInt64 &&& 63)) ((0 : Int64)) S)
else
(j_X12_root_145 (l_X12_root_109 n) v4 v5 v9 v11 (v7 <<< (((2 : Int32)).toInt64 &&& 63)) ((v5 >>> ((((52 : Int32)) - (((2 : Int32)) * v11)).toInt64 &&& 63)) &&& ((3 : Int64))) S))
def l_X12_root_62 : Nat → Int32 → Int64 → z_St → Option (UInt64 × z_St)
  | 0 => fun _ _ _ => none
  | n + 1 => fun (v4 : Int32) (v5 : Int64) (S : z_St) =>
if 0 ≤ (lg_cmp v5 ((4503599627370496 : Int64))) then
(if (v4 &&& ((1 : Int32))) = ((1 : Int32)) then
(let x6 := v5 <<< (((1 : Int32)).toInt64 &&& 63)
let x7 := v4 + (-1 : Int32)
l_X12_root_109 z_N x7 x6 ((0 : Int64)) ((0 : Int64)) ((0 : Int32)) S)
else
(l_X12_root_109 z_N v4 v5 ((0 : Int64)) ((0 : Int64)) ((0 : Int32)) S))
else
(let x8 := v5 <<< (((1 : Int32)).toInt64 &&& 63)
let x9 := v4 + (-1 : Int32)
l_X12_root_62 n x9 x8 S)
def j_X12_root_43 (v4 : Int32) (t0 : Int64) (S : z_St) : Option (UInt64 × z_St) :=
if v4 ≤ 0 then
(let x4 := ((1 : Int32)) - ((1075 : Int32))
l_X12_root_62 z_N x4 t0 S)
else
(let x5 := v4 - ((1075 : Int32))
l_X12_root_62 z_N x5 t0 S)
def b_X12_root (v0 : UInt64) (S : z_St) : Option (UInt64 × z_St) :=
if 0 < (Op.cmpValue (FP.dcmp v0 FP.dconst0) .l) then
((f_Jxe99ae_doubleToLongBits_ccdee v0 S).bind fun q1 =>
let x2 := ((q1.1.toUInt64 >>> (((52 : Int32)).toInt64.toUInt64 &&& Int64.toUInt64 63)).toInt64).toInt32
let x3 := q1.1 &&& ((4503599627370495 : Int64))
if x2 ≤ 0 then
(j_X12_root_43 x2 x3 q1.2)
else
(j_X12_root_43 x2 (x3 ||| ((4503599627370496 : Int64))) q1.2))
else
(some (FP.dconst0, S))
def f_X12_root : UInt64 → z_St → Option (UInt64 × z_St) := z_op (b_X12_root)
theorem e_X12_root (v0 : UInt64) (S : z_St) : f_X12_root v0 S = b_X12_root v0 S := congrFun (congrFun (z_op_eq (b_X12_root)) v0) S
def g_X12_root : z_G := .inr (.inr (.inl (fun as S => match as with
  | [.double v0] => f_X12_root v0 S
  | _ => none)))
def c_X12_root : List z_E := [
  (0, .dload_n 0, 1, .null, [], z_g0),
  (1, .dconst 0, 1, .double FP.dconst0, [], z_g0),
  (2, .dcmp .l, 1, .null, [], z_g0),
  (3, .ifCond .gt 5, 3, .null, [8], z_g0),
  (6, .dconst 0, 1, .double FP.dconst0, [], z_g0),
  (7, .dreturn, 1, .null, [], z_g0),
  (8, .dload_n 0, 1, .null, [], z_g0),
  (9, .invokestatic 248, 3, .null, [0, 0], g_Jxe99ae_doubleToLongBits_ccdee),
  (12, .lstore_n 2, 1, .null, [], z_g0),
  (13, .lload_n 2, 1, .null, [], z_g0),
  (14, .bipush 52, 2, .int ((52 : Int32)), [], z_g0),
  (16, .lushr, 1, .null, [], z_g0),
  (17, .l2i, 1, .null, [], z_g0),
  (18, .istore 4, 2, .null, [], z_g0),
  (20, .lload_n 2, 1, .null, [], z_g0),
  (21, .ldc2_w 511, 3, .long (4503599627370495 : Int64), [], z_g0),
  (24, .land, 1, .null, [], z_g0),
  (25, .lstore 5, 2, .null, [], z_g0),
  (27, .iload 4, 2, .null, [], z_g0),
  (29, .ifCond .le 12, 3, .null, [41], z_g0),
  (32, .lload 5, 2, .null, [], z_g0),
  (34, .ldc2_w 513, 3, .long (4503599627370496 : Int64), [], z_g0),
  (37, .lor, 1, .null, [], z_g0),
  (38, .goto 5, 3, .null, [43], z_g0),
  (41, .lload 5, 2, .null, [], z_g0),
  (43, .lstore 5, 2, .null, [], z_g0),
  (45, .iload 4, 2, .null, [], z_g0),
  (47, .ifCond .le 8, 3, .null, [55], z_g0),
  (50, .iload 4, 2, .null, [], z_g0),
  (52, .goto 4, 3, .null, [56], z_g0),
  (55, .iconst 1, 1, .int ((1 : Int32)), [], z_g0),
  (56, .sipush 1075, 3, .int ((1075 : Int32)), [], z_g0),
  (59, .isub, 1, .null, [], z_g0),
  (60, .istore 4, 2, .null, [], z_g0),
  (62, .lload 5, 2, .null, [], z_g0),
  (64, .ldc2_w 513, 3, .long (4503599627370496 : Int64), [], z_g0),
  (67, .lcmp, 1, .null, [], z_g0),
  (68, .ifCond .ge 15, 3, .null, [83], z_g0),
  (71, .lload 5, 2, .null, [], z_g0),
  (73, .iconst 1, 1, .int ((1 : Int32)), [], z_g0),
  (74, .lshl, 1, .null, [], z_g0),
  (75, .lstore 5, 2, .null, [], z_g0),
  (77, .iinc 4 (-1), 3, .int (-1 : Int32), [], z_g0),
  (80, .goto (-18), 3, .null, [62], z_g0),
  (83, .iload 4, 2, .null, [], z_g0),
  (85, .iconst 1, 1, .int ((1 : Int32)), [], z_g0),
  (86, .iand, 1, .null, [], z_g0),
  (87, .iconst 1, 1, .int ((1 : Int32)), [], z_g0),
  (88, .if_icmp .ne 12, 3, .null, [100], z_g0),
  (91, .lload 5, 2, .null, [], z_g0),
  (93, .iconst 1, 1, .int ((1 : Int32)), [], z_g0),
  (94, .lshl, 1, .null, [], z_g0),
  (95, .lstore 5, 2, .null, [], z_g0),
  (97, .iinc 4 (-1), 3, .int (-1 : Int32), [], z_g0),
  (100, .lconst 0, 1, .long (0 : Int64), [], z_g0),
  (101, .lstore 7, 2, .null, [], z_g0),
  (103, .lconst 0, 1, .long (0 : Int64), [], z_g0),
  (104, .lstore 9, 2, .null, [], z_g0),
  (106, .iconst 0, 1, .int ((0 : Int32)), [], z_g0),
  (107, .istore 11, 2, .null, [], z_g0),
  (109, .iload 11, 2, .null, [], z_g0),
  (111, .bipush 54, 2, .int ((54 : Int32)), [], z_g0),
  (113, .if_icmp .ge 76, 3, .null, [189], z_g0),
  (116, .lload 7, 2, .null, [], z_g0),
  (118, .iconst 2, 1, .int ((2 : Int32)), [], z_g0),
  (119, .lshl, 1, .null, [], z_g0),
  (120, .iload 11, 2, .null, [], z_g0),
  (122, .bipush 27, 2, .int ((27 : Int32)), [], z_g0),
  (124, .if_icmp .ge 20, 3, .null, [144], z_g0),
  (127, .lload 5, 2, .null, [], z_g0),
  (129, .bipush 52, 2, .int ((52 : Int32)), [], z_g0),
  (131, .iconst 2, 1, .int ((2 : Int32)), [], z_g0),
  (132, .iload 11, 2, .null, [], z_g0),
  (134, .imul, 1, .null, [], z_g0),
  (135, .isub, 1, .null, [], z_g0),
  (136, .lshr, 1, .null, [], z_g0),
  (137, .ldc2_w 423, 3, .long (3 : Int64), [], z_g0),
  (140, .land, 1, .null, [], z_g0),
  (141, .goto 4, 3, .null, [145], z_g0),
  (144, .lconst 0, 1, .long (0 : Int64), [], z_g0),
  (145, .lor, 1, .null, [], z_g0),
  (146, .lstore 7, 2, .null, [], z_g0),
  (148, .lload 9, 2, .null, [], z_g0),
  (150, .iconst 2, 1, .int ((2 : Int32)), [], z_g0),
  (151, .lshl, 1, .null, [], z_g0),
  (152, .lconst 1, 1, .long (1 : Int64), [], z_g0),
  (153, .lor, 1, .null, [], z_g0),
  (154, .lstore 12, 2, .null, [], z_g0),
  (156, .lload 9, 2, .null, [], z_g0),
  (158, .iconst 1, 1, .int ((1 : Int32)), [], z_g0),
  (159, .lshl, 1, .null, [], z_g0),
  (160, .lstore 9, 2, .null, [], z_g0),
  (162, .lload 7, 2, .null, [], z_g0),
  (164, .lload 12, 2, .null, [], z_g0),
  (166, .lcmp, 1, .null, [], z_g0),
  (167, .ifCond .lt 16, 3, .null, [183], z_g0),
  (170, .lload 7, 2, .null, [], z_g0),
  (172, .lload 12, 2, .null, [], z_g0),
  (174, .lsub, 1, .null, [], z_g0),
  (175, .lstore 7, 2, .null, [], z_g0),
  (177, .lload 9, 2, .null, [], z_g0),
  (179, .lconst 1, 1, .long (1 : Int64), [], z_g0),
  (180, .lor, 1, .null, [], z_g0),
  (181, .lstore 9, 2, .null, [], z_g0),
  (183, .iinc 11 1, 3, .int (1 : Int32), [], z_g0),
  (186, .goto (-77), 3, .null, [109], z_g0),
  (189, .lload 9, 2, .null, [], z_g0),
  (191, .iconst 1, 1, .int ((1 : Int32)), [], z_g0),
  (192, .lshr, 1, .null, [], z_g0),
  (193, .lstore 11, 2, .null, [], z_g0),
  (195, .lload 11, 2, .null, [], z_g0),
  (197, .lload 9, 2, .null, [], z_g0),
  (199, .lconst 1, 1, .long (1 : Int64), [], z_g0),
  (200, .land, 1, .null, [], z_g0),
  (201, .lconst 1, 1, .long (1 : Int64), [], z_g0),
  (202, .lcmp, 1, .null, [], z_g0),
  (203, .ifCond .ne 23, 3, .null, [226], z_g0),
  (206, .lload 7, 2, .null, [], z_g0),
  (208, .lconst 0, 1, .long (0 : Int64), [], z_g0),
  (209, .lcmp, 1, .null, [], z_g0),
  (210, .ifCond .ne 12, 3, .null, [222], z_g0),
  (213, .lload 11, 2, .null, [], z_g0),
  (215, .lconst 1, 1, .long (1 : Int64), [], z_g0),
  (216, .land, 1, .null, [], z_g0),
  (217, .lconst 1, 1, .long (1 : Int64), [], z_g0),
  (218, .lcmp, 1, .null, [], z_g0),
  (219, .ifCond .ne 7, 3, .null, [226], z_g0),
  (222, .lconst 1, 1, .long (1 : Int64), [], z_g0),
  (223, .goto 4, 3, .null, [227], z_g0),
  (226, .lconst 0, 1, .long (0 : Int64), [], z_g0),
  (227, .ladd, 1, .null, [], z_g0),
  (228, .lstore 11, 2, .null, [], z_g0),
  (230, .iload 4, 2, .null, [], z_g0),
  (232, .bipush 54, 2, .int ((54 : Int32)), [], z_g0),
  (234, .isub, 1, .null, [], z_g0),
  (235, .iconst 2, 1, .int ((2 : Int32)), [], z_g0),
  (236, .idiv, 1, .null, [], z_g0),
  (237, .sipush 1076, 3, .int ((1076 : Int32)), [], z_g0),
  (240, .iadd, 1, .null, [], z_g0),
  (241, .i2l, 1, .null, [], z_g0),
  (242, .bipush 52, 2, .int ((52 : Int32)), [], z_g0),
  (244, .lshl, 1, .null, [], z_g0),
  (245, .lload 11, 2, .null, [], z_g0),
  (247, .ldc2_w 513, 3, .long (4503599627370496 : Int64), [], z_g0),
  (250, .lsub, 1, .null, [], z_g0),
  (251, .ladd, 1, .null, [], z_g0),
  (252, .invokestatic 238, 3, .null, [5], z_g0),
  (255, .dreturn, 1, .null, [], z_g0)]
def a_X12_root_43 {ρ : Type} (k : Int32 → Int64 → z_St → Option ρ) (ls : z_Lv) (st : List Value) (S : z_St) : Option ρ := z_gI ls 4 fun v4 => z_pJ st fun t0 s0 => z_p0 s0 (k v4 t0 S)
def a_X12_root_62 {ρ : Type} (k : Int32 → Int64 → z_St → Option ρ) (ls : z_Lv) (st : List Value) (S : z_St) : Option ρ := z_gI ls 4 fun v4 => z_gJ ls 5 fun v5 => z_p0 st (k v4 v5 S)
def a_X12_root_109 {ρ : Type} (k : Int32 → Int64 → Int64 → Int64 → Int32 → z_St → Option ρ) (ls : z_Lv) (st : List Value) (S : z_St) : Option ρ := z_gI ls 4 fun v4 => z_gJ ls 5 fun v5 => z_gJ ls 7 fun v7 => z_gJ ls 9 fun v9 => z_gI ls 11 fun v11 => z_p0 st (k v4 v5 v7 v9 v11 S)
def a_X12_root_145 {ρ : Type} (k : Int32 → Int64 → Int64 → Int32 → Int64 → Int64 → z_St → Option ρ) (ls : z_Lv) (st : List Value) (S : z_St) : Option ρ := z_gI ls 4 fun v4 => z_gJ ls 5 fun v5 => z_gJ ls 9 fun v9 => z_gI ls 11 fun v11 => z_pJ st fun t1 s1 => z_pJ s1 fun t0 s0 => z_p0 s0 (k v4 v5 v9 v11 t0 t1 S)
def a_X12_root_227 {ρ : Type} (k : Int32 → Int64 → Int64 → z_St → Option ρ) (ls : z_Lv) (st : List Value) (S : z_St) : Option ρ := z_gI ls 4 fun v4 => z_pJ st fun t1 s1 => z_pJ s1 fun t0 s0 => z_p0 s0 (k v4 t0 t1 S)
set_option maxRecDepth 100000 in
theorem r_X12_root_227 (v4 : Int32) (t0 : Int64) (t1 : Int64) (S : z_St) : z_seg z_rD (c_X12_root) [43, 62, 109, 145, 227] (fun pc => fun _ _ _ => none) 151 (z_to 227 (c_X12_root)) [(4, .int v4)] [.long t1, .long t0] S = j_X12_root_227 v4 t0 t1 S := rfl
set_option maxRecDepth 100000 in
theorem r_X12_root_145 (k_109 : Int32 → Int64 → Int64 → Int64 → Int32 → z_St → Option (UInt64 × z_St)) (v4 : Int32) (v5 : Int64) (v9 : Int64) (v11 : Int32) (t0 : Int64) (t1 : Int64) (S : z_St) : z_seg z_rD (c_X12_root) [43, 62, 109, 145, 227] (fun pc => cond (Nat.beq pc 109) (a_X12_root_109 k_109) (fun _ _ _ => none)) 151 (z_to 145 (c_X12_root)) [(4, .int v4), (5, .long v5), (9, .long v9), (11, .int v11)] [.long t1, .long t0] S = j_X12_root_145 k_109 v4 v5 v9 v11 t0 t1 S := rfl
set_option maxRecDepth 100000 in
theorem r_X12_root_109 (n : Nat) (v4 : Int32) (v5 : Int64) (v7 : Int64) (v9 : Int64) (v11 : Int32) (S : z_St) : z_seg z_rD (c_X12_root) [43, 62, 109, 145, 227] (fun pc => cond (Nat.beq pc 145) (a_X12_root_145 (j_X12_root_145 (l_X12_root_109 n))) (cond (Nat.beq pc 227) (a_X12_root_227 (j_X12_root_227)) (fun _ _ _ => none))) 151 (z_to 109 (c_X12_root)) [(4, .int v4), (5, .long v5), (7, .long v7), (9, .long v9), (11, .int v11)] [] S = l_X12_root_109 (n + 1) v4 v5 v7 v9 v11 S := rfl
set_option maxRecDepth 100000 in
theorem r_X12_root_62 (n : Nat) (v4 : Int32) (v5 : Int64) (S : z_St) : z_seg z_rD (c_X12_root) [43, 62, 109, 145, 227] (fun pc => cond (Nat.beq pc 62) (a_X12_root_62 (l_X12_root_62 n)) (cond (Nat.beq pc 109) (a_X12_root_109 (l_X12_root_109 z_N)) (fun _ _ _ => none))) 151 (z_to 62 (c_X12_root)) [(4, .int v4), (5, .long v5)] [] S = l_X12_root_62 (n + 1) v4 v5 S := rfl
set_option maxRecDepth 100000 in
theorem r_X12_root_43 (v4 : Int32) (t0 : Int64) (S : z_St) : z_seg z_rD (c_X12_root) [43, 62, 109, 145, 227] (fun pc => cond (Nat.beq pc 62) (a_X12_root_62 (l_X12_root_62 z_N)) (fun _ _ _ => none)) 151 (z_to 43 (c_X12_root)) [(4, .int v4)] [.long t0] S = j_X12_root_43 v4 t0 S := rfl
set_option maxRecDepth 100000 in
theorem r_X12_root (v0 : UInt64) (S : z_St) : z_seg z_rD (c_X12_root) [43, 62, 109, 145, 227] (fun pc => cond (Nat.beq pc 43) (a_X12_root_43 (j_X12_root_43)) (fun _ _ _ => none)) 151 (c_X12_root) [(0, .double v0)] [] S = b_X12_root v0 S := rfl
def b_X12_table (v0 : Nat) (v1 : Int32) (S : z_St) : Option (Int64 × z_St) :=
z_chk S v0 13 (
let S1 := z_wi S v0 0 ((0 : Int32))
(f_X12_in v1.toInt64 ((0 : Int64)) ((40 : Int64)) S1).bind fun q2 =>
if q2.1 = 0 then
(z_chk q2.2 v0 13 (
(f_X12_fails v0 ((2 : Int32)) q2.2).bind fun q5 =>
some (q5.1.toInt64, q5.2)))
else
(z_chk q2.2 v0 13 (
(f_X12_well v0 q2.2).bind fun q3 =>
(f_X12_lineOf v1 q3).bind fun q4 =>
some (q4.1, q4.2))))
def f_X12_table : Nat → Int32 → z_St → Option (Int64 × z_St) := z_op (b_X12_table)
theorem e_X12_table (v0 : Nat) (v1 : Int32) (S : z_St) : f_X12_table v0 v1 S = b_X12_table v0 v1 S := congrFun (congrFun (congrFun (z_op_eq (b_X12_table)) v0) v1) S
def g_X12_table : z_G := .inr (.inl (fun as S => match as with
  | [.ref v0, .int v1] => f_X12_table v0 v1 S
  | _ => none))
def c_X12_table : List z_E := [
  (0, .aload_n 0, 1, .null, [], z_g0),
  (1, .iconst 0, 1, .int ((0 : Int32)), [], z_g0),
  (2, .putfield 224, 3, .null, [13, 0, 0], z_g0),
  (5, .iload_n 1, 1, .null, [], z_g0),
  (6, .i2l, 1, .null, [], z_g0),
  (7, .lconst 0, 1, .long (0 : Int64), [], z_g0),
  (8, .ldc2_w 515, 3, .long (40 : Int64), [], z_g0),
  (11, .invokestatic 274, 3, .null, [0, 0, 0, 0], g_X12_in),
  (14, .ifCond .ne 10, 3, .null, [24], z_g0),
  (17, .aload_n 0, 1, .null, [], z_g0),
  (18, .iconst 2, 1, .int ((2 : Int32)), [], z_g0),
  (19, .invokevirtual 282, 3, .null, [1, 13, 0], g_X12_fails),
  (22, .i2l, 1, .null, [], z_g0),
  (23, .lreturn, 1, .null, [], z_g0),
  (24, .aload_n 0, 1, .null, [], z_g0),
  (25, .invokevirtual 286, 3, .null, [1, 13], g_X12_well),
  (28, .iload_n 1, 1, .null, [], z_g0),
  (29, .invokestatic 507, 3, .null, [0, 0], g_X12_lineOf),
  (32, .lreturn, 1, .null, [], z_g0)]
set_option maxRecDepth 100000 in
theorem r_X12_table (v0 : Nat) (v1 : Int32) (S : z_St) : z_seg z_rL (c_X12_table) [] (fun pc => fun _ _ _ => none) 22 (c_X12_table) [(0, .ref v0), (1, .int v1)] [] S = b_X12_table v0 v1 S := rfl
def b_X12_turned (v0 : Nat) (v1 : Int64) (S : z_St) : Option (Int64 × z_St) :=
z_chk S v0 13 (
let S1 := z_wi S v0 0 ((0 : Int32))
(f_X12_realOf v1 S1).bind fun q2 =>
if (Op.cmpValue (FP.dcmp q2.1 FP.dconst0) .l) < 0 then
(some ((-2000000002 : Int64), q2.2))
else
((f_X12_lineOf ((40 : Int32)) q2.2).bind fun q3 =>
if 0 < (Op.cmpValue (FP.dcmp q2.1 (FP.l2d q3.1)) .g) then
(some ((-2000000002 : Int64), q3.2))
else
((f_X12_levelOf q2.1 q3.2).bind fun q4 =>
(f_X12_bitsOf q4.1 q4.2).bind fun q5 =>
some (q5.1, q5.2))))
def f_X12_turned : Nat → Int64 → z_St → Option (Int64 × z_St) := z_op (b_X12_turned)
theorem e_X12_turned (v0 : Nat) (v1 : Int64) (S : z_St) : f_X12_turned v0 v1 S = b_X12_turned v0 v1 S := congrFun (congrFun (congrFun (z_op_eq (b_X12_turned)) v0) v1) S
def g_X12_turned : z_G := .inr (.inl (fun as S => match as with
  | [.ref v0, .long v1] => f_X12_turned v0 v1 S
  | _ => none))
def c_X12_turned : List z_E := [
  (0, .aload_n 0, 1, .null, [], z_g0),
  (1, .iconst 0, 1, .int ((0 : Int32)), [], z_g0),
  (2, .putfield 224, 3, .null, [13, 0, 0], z_g0),
  (5, .lload_n 1, 1, .null, [], z_g0),
  (6, .invokestatic 262, 3, .null, [0, 0], g_X12_realOf),
  (9, .dstore_n 3, 1, .null, [], z_g0),
  (10, .dload_n 3, 1, .null, [], z_g0),
  (11, .dconst 0, 1, .double FP.dconst0, [], z_g0),
  (12, .dcmp .l, 1, .null, [], z_g0),
  (13, .ifCond .lt 24, 3, .null, [37], z_g0),
  (16, .dload_n 3, 1, .null, [], z_g0),
  (17, .bipush 40, 2, .int ((40 : Int32)), [], z_g0),
  (19, .invokestatic 507, 3, .null, [0, 0], g_X12_lineOf),
  (22, .l2d, 1, .null, [], z_g0),
  (23, .dcmp .g, 1, .null, [], z_g0),
  (24, .ifCond .gt 13, 3, .null, [37], z_g0),
  (27, .dload_n 3, 1, .null, [], z_g0),
  (28, .invokestatic 517, 3, .null, [0, 0], g_X12_levelOf),
  (31, .invokestatic 252, 3, .null, [0, 0], g_X12_bitsOf),
  (34, .goto 6, 3, .null, [40], z_g0),
  (37, .ldc2_w 398, 3, .long (-2000000002 : Int64), [], z_g0),
  (40, .lreturn, 1, .null, [], z_g0)]
set_option maxRecDepth 100000 in
theorem r_X12_turned (v0 : Nat) (v1 : Int64) (S : z_St) : z_seg z_rL (c_X12_turned) [] (fun pc => fun _ _ _ => none) 25 (c_X12_turned) [(0, .ref v0), (1, .long v1)] [] S = b_X12_turned v0 v1 S := rfl
def j_X12_reading_75 (v0 : Nat) (v1 : Int32) (v2 : Int64) (t0 : Nat) (t1 : Int32) (t2 : Int32) (S : z_St) : Option (Int32 × z_St) :=
z_inb S t0 104 t1 (
let S6 := z_wi S t0 t1.toNatClampNeg (vp_nar .boolean t2)
z_chk S6 v0 13 (
z_onV (va_rf (z_r S6 v0 74)) fun b7 =>
z_inb S6 b7 102 v1 (
let S8 := z_wl S6 b7 v1.toNatClampNeg v2
some ((1 : Int32), S8))))
def j_X12_reading_57 (v0 : Nat) (v1 : Int32) (v2 : Int64) (v4 : UInt64) (S : z_St) : Option (Int32 × z_St) :=
z_chk S v0 13 (
if (Op.cmpValue (FP.dcmp v4 v4) .l) = 0 then
(z_onV (va_rf (z_r S v0 73)) fun b5 =>
j_X12_reading_75 v0 v1 v2 b5 v1 ((1 : Int32)) S)
else
(z_onV (va_rf (z_r S v0 73)) fun b4 =>
j_X12_reading_75 v0 v1 v2 b4 v1 ((0 : Int32)) S))
def b_X12_reading (v0 : Nat) (v1 : Int32) (v2 : Int64) (S : z_St) : Option (Int32 × z_St) :=
z_chk S v0 13 (
let S1 := z_wi S v0 0 ((0 : Int32))
(f_X12_in v1.toInt64 ((0 : Int64)) ((5 : Int64)) S1).bind fun q2 =>
if q2.1 = 0 then
(some ((-2000000001 : Int32), q2.2))
else
((f_X12_realOf v2 q2.2).bind fun q3 =>
if (Op.cmpValue (FP.dcmp q3.1 q3.1) .l) = 0 then
(if (Op.cmpValue (FP.dcmp q3.1 ((13875379345695965184 : UInt64))) .l) < 0 then
(some ((-2000000002 : Int32), q3.2))
else
(if (Op.cmpValue (FP.dcmp q3.1 ((4652007308841189376 : UInt64))) .g) ≤ 0 then
(j_X12_reading_57 v0 v1 v2 q3.1 q3.2)
else
(some ((-2000000002 : Int32), q3.2))))
else
(j_X12_reading_57 v0 v1 v2 q3.1 q3.2)))
def f_X12_reading : Nat → Int32 → Int64 → z_St → Option (Int32 × z_St) := z_op (b_X12_reading)
theorem e_X12_reading (v0 : Nat) (v1 : Int32) (v2 : Int64) (S : z_St) : f_X12_reading v0 v1 v2 S = b_X12_reading v0 v1 v2 S := congrFun (congrFun (congrFun (congrFun (z_op_eq (b_X12_reading)) v0) v1) v2) S
def g_X12_reading : z_G := .inl (fun as S => match as with
  | [.ref v0, .int v1, .long v2] => f_X12_reading v0 v1 v2 S
  | _ => none)
def c_X12_reading : List z_E := [
  (0, .aload_n 0, 1, .null, [], z_g0),
  (1, .iconst 0, 1, .int ((0 : Int32)), [], z_g0),
  (2, .putfield 224, 3, .null, [13, 0, 0], z_g0),
  (5, .iload_n 1, 1, .null, [], z_g0),
  (6, .i2l, 1, .null, [], z_g0),
  (7, .lconst 0, 1, .long (0 : Int64), [], z_g0),
  (8, .ldc2_w 334, 3, .long (5 : Int64), [], z_g0),
  (11, .invokestatic 274, 3, .null, [0, 0, 0, 0], g_X12_in),
  (14, .ifCond .ne 7, 3, .null, [21], z_g0),
  (17, .ldc_w 296, 3, .int (-2000000001 : Int32), [], z_g0),
  (20, .ireturn, 1, .null, [], z_g0),
  (21, .lload_n 2, 1, .null, [], z_g0),
  (22, .invokestatic 262, 3, .null, [0, 0], g_X12_realOf),
  (25, .dstore 4, 2, .null, [], z_g0),
  (27, .dload 4, 2, .null, [], z_g0),
  (29, .dload 4, 2, .null, [], z_g0),
  (31, .dcmp .l, 1, .null, [], z_g0),
  (32, .ifCond .ne 25, 3, .null, [57], z_g0),
  (35, .dload 4, 2, .null, [], z_g0),
  (37, .ldc2_w 521, 3, .double (13875379345695965184 : UInt64), [], z_g0),
  (40, .dcmp .l, 1, .null, [], z_g0),
  (41, .ifCond .lt 12, 3, .null, [53], z_g0),
  (44, .dload 4, 2, .null, [], z_g0),
  (46, .ldc2_w 523, 3, .double (4652007308841189376 : UInt64), [], z_g0),
  (49, .dcmp .g, 1, .null, [], z_g0),
  (50, .ifCond .le 7, 3, .null, [57], z_g0),
  (53, .ldc_w 280, 3, .int (-2000000002 : Int32), [], z_g0),
  (56, .ireturn, 1, .null, [], z_g0),
  (57, .aload_n 0, 1, .null, [], z_g0),
  (58, .getfield 160, 3, .null, [13, 73, 3], z_g0),
  (61, .iload_n 1, 1, .null, [], z_g0),
  (62, .dload 4, 2, .null, [], z_g0),
  (64, .dload 4, 2, .null, [], z_g0),
  (66, .dcmp .l, 1, .null, [], z_g0),
  (67, .ifCond .ne 7, 3, .null, [74], z_g0),
  (70, .iconst 1, 1, .int ((1 : Int32)), [], z_g0),
  (71, .goto 4, 3, .null, [75], z_g0),
  (74, .iconst 0, 1, .int ((0 : Int32)), [], z_g0),
  (75, .bastore, 1, .null, [104], z_g0),
  (76, .aload_n 0, 1, .null, [], z_g0),
  (77, .getfield 163, 3, .null, [13, 74, 3], z_g0),
  (80, .iload_n 1, 1, .null, [], z_g0),
  (81, .lload_n 2, 1, .null, [], z_g0),
  (82, .lastore, 1, .null, [], z_g0),
  (83, .iconst 1, 1, .int ((1 : Int32)), [], z_g0),
  (84, .ireturn, 1, .null, [], z_g0)]
def a_X12_reading_57 {ρ : Type} (k : Nat → Int32 → Int64 → UInt64 → z_St → Option ρ) (ls : z_Lv) (st : List Value) (S : z_St) : Option ρ := z_gR ls 0 fun v0 => z_gI ls 1 fun v1 => z_gJ ls 2 fun v2 => z_gD ls 4 fun v4 => z_p0 st (k v0 v1 v2 v4 S)
def a_X12_reading_75 {ρ : Type} (k : Nat → Int32 → Int64 → Nat → Int32 → Int32 → z_St → Option ρ) (ls : z_Lv) (st : List Value) (S : z_St) : Option ρ := z_gR ls 0 fun v0 => z_gI ls 1 fun v1 => z_gJ ls 2 fun v2 => z_pI st fun t2 s2 => z_pI s2 fun t1 s1 => z_pR s1 fun t0 s0 => z_p0 s0 (k v0 v1 v2 t0 t1 t2 S)
set_option maxRecDepth 100000 in
theorem r_X12_reading_75 (v0 : Nat) (v1 : Int32) (v2 : Int64) (t0 : Nat) (t1 : Int32) (t2 : Int32) (S : z_St) : z_seg z_rI (c_X12_reading) [57, 75] (fun pc => fun _ _ _ => none) 49 (z_to 75 (c_X12_reading)) [(0, .ref v0), (1, .int v1), (2, .long v2)] [.int t2, .int t1, .ref t0] S = j_X12_reading_75 v0 v1 v2 t0 t1 t2 S := rfl
set_option maxRecDepth 100000 in
theorem r_X12_reading_57 (v0 : Nat) (v1 : Int32) (v2 : Int64) (v4 : UInt64) (S : z_St) : z_seg z_rI (c_X12_reading) [57, 75] (fun pc => cond (Nat.beq pc 75) (a_X12_reading_75 (j_X12_reading_75)) (fun _ _ _ => none)) 49 (z_to 57 (c_X12_reading)) [(0, .ref v0), (1, .int v1), (2, .long v2), (4, .double v4)] [] S = j_X12_reading_57 v0 v1 v2 v4 S := rfl
set_option maxRecDepth 100000 in
theorem r_X12_reading (v0 : Nat) (v1 : Int32) (v2 : Int64) (S : z_St) : z_seg z_rI (c_X12_reading) [57, 75] (fun pc => cond (Nat.beq pc 57) (a_X12_reading_57 (j_X12_reading_57)) (fun _ _ _ => none)) 49 (c_X12_reading) [(0, .ref v0), (1, .int v1), (2, .long v2)] [] S = b_X12_reading v0 v1 v2 S := rfl
def j_X12_word_34 (v0 : Nat) (v3 : UInt64) (S : z_St) : Option (Int32 × z_St) :=
if (Op.cmpValue (FP.dcmp v3 v3) .l) = 0 then
(if ((1 : Int32)) = 0 ∨ ((1 : Int32)) = 1 then (
z_chk S v0 13 (
let S5 := z_wi S v0 75 ((1 : Int32))
z_chk S5 v0 13 (
let S6 := z_wd S5 v0 76 v3
some ((1 : Int32), S6)))) else none)
else
(if ((0 : Int32)) = 0 ∨ ((0 : Int32)) = 1 then (
z_chk S v0 13 (
let S3 := z_wi S v0 75 ((0 : Int32))
z_chk S3 v0 13 (
let S4 := z_wd S3 v0 76 v3
some ((1 : Int32), S4)))) else none)
def b_X12_word (v0 : Nat) (v1 : Int64) (S : z_St) : Option (Int32 × z_St) :=
z_chk S v0 13 (
let S1 := z_wi S v0 0 ((0 : Int32))
(f_X12_realOf v1 S1).bind fun q2 =>
if (Op.cmpValue (FP.dcmp q2.1 q2.1) .l) = 0 then
(if (Op.cmpValue (FP.dcmp q2.1 FP.dconst0) .l) < 0 then
(some ((-2000000002 : Int32), q2.2))
else
(if (Op.cmpValue (FP.dcmp q2.1 ((4636737291354636288 : UInt64))) .g) ≤ 0 then
(j_X12_word_34 v0 q2.1 q2.2)
else
(some ((-2000000002 : Int32), q2.2))))
else
(j_X12_word_34 v0 q2.1 q2.2))
def f_X12_word : Nat → Int64 → z_St → Option (Int32 × z_St) := z_op (b_X12_word)
theorem e_X12_word (v0 : Nat) (v1 : Int64) (S : z_St) : f_X12_word v0 v1 S = b_X12_word v0 v1 S := congrFun (congrFun (congrFun (z_op_eq (b_X12_word)) v0) v1) S
def g_X12_word : z_G := .inl (fun as S => match as with
  | [.ref v0, .long v1] => f_X12_word v0 v1 S
  | _ => none)
def c_X12_word : List z_E := [
  (0, .aload_n 0, 1, .null, [], z_g0),
  (1, .iconst 0, 1, .int ((0 : Int32)), [], z_g0),
  (2, .putfield 224, 3, .null, [13, 0, 0], z_g0),
  (5, .lload_n 1, 1, .null, [], z_g0),
  (6, .invokestatic 262, 3, .null, [0, 0], g_X12_realOf),
  (9, .dstore_n 3, 1, .null, [], z_g0),
  (10, .dload_n 3, 1, .null, [], z_g0),
  (11, .dload_n 3, 1, .null, [], z_g0),
  (12, .dcmp .l, 1, .null, [], z_g0),
  (13, .ifCond .ne 21, 3, .null, [34], z_g0),
  (16, .dload_n 3, 1, .null, [], z_g0),
  (17, .dconst 0, 1, .double FP.dconst0, [], z_g0),
  (18, .dcmp .l, 1, .null, [], z_g0),
  (19, .ifCond .lt 11, 3, .null, [30], z_g0),
  (22, .dload_n 3, 1, .null, [], z_g0),
  (23, .ldc2_w 525, 3, .double (4636737291354636288 : UInt64), [], z_g0),
  (26, .dcmp .g, 1, .null, [], z_g0),
  (27, .ifCond .le 7, 3, .null, [34], z_g0),
  (30, .ldc_w 280, 3, .int (-2000000002 : Int32), [], z_g0),
  (33, .ireturn, 1, .null, [], z_g0),
  (34, .aload_n 0, 1, .null, [], z_g0),
  (35, .dload_n 3, 1, .null, [], z_g0),
  (36, .dload_n 3, 1, .null, [], z_g0),
  (37, .dcmp .l, 1, .null, [], z_g0),
  (38, .ifCond .ne 7, 3, .null, [45], z_g0),
  (41, .iconst 1, 1, .int ((1 : Int32)), [], z_g0),
  (42, .goto 4, 3, .null, [46], z_g0),
  (45, .iconst 0, 1, .int ((0 : Int32)), [], z_g0),
  (46, .putfield 527, 3, .null, [13, 75, 4], z_g0),
  (49, .aload_n 0, 1, .null, [], z_g0),
  (50, .dload_n 3, 1, .null, [], z_g0),
  (51, .putfield 530, 3, .null, [13, 76, 2], z_g0),
  (54, .iconst 1, 1, .int ((1 : Int32)), [], z_g0),
  (55, .ireturn, 1, .null, [], z_g0)]
def a_X12_word_34 {ρ : Type} (k : Nat → UInt64 → z_St → Option ρ) (ls : z_Lv) (st : List Value) (S : z_St) : Option ρ := z_gR ls 0 fun v0 => z_gD ls 3 fun v3 => z_p0 st (k v0 v3 S)
set_option maxRecDepth 100000 in
theorem r_X12_word_34 (v0 : Nat) (v3 : UInt64) (S : z_St) : z_seg z_rI (c_X12_word) [34] (fun pc => fun _ _ _ => none) 37 (z_to 34 (c_X12_word)) [(0, .ref v0), (3, .double v3)] [] S = j_X12_word_34 v0 v3 S := rfl
set_option maxRecDepth 100000 in
theorem r_X12_word (v0 : Nat) (v1 : Int64) (S : z_St) : z_seg z_rI (c_X12_word) [34] (fun pc => cond (Nat.beq pc 34) (a_X12_word_34 (j_X12_word_34)) (fun _ _ _ => none)) 37 (c_X12_word) [(0, .ref v0), (1, .long v1)] [] S = b_X12_word v0 v1 S := rfl
def j_X12_stuck_35 (v0 : Nat) (v1 : Int32) (v2 : Int32) (t0 : Int32) (S : z_St) : Option (Int32 × z_St) :=
z_chk S v0 13 (
z_onV (va_rf (z_r S v0 66)) fun b4 =>
z_inb S b4 104 v1 (
let S5 := z_wi S b4 v1.toNatClampNeg (vp_nar .boolean v2)
some (t0, S5)))
def b_X12_stuck (v0 : Nat) (v1 : Int32) (v2 : Int32) (S : z_St) : Option (Int32 × z_St) :=
z_chk S v0 13 (
let S1 := z_wi S v0 0 ((0 : Int32))
(f_X12_in v1.toInt64 ((0 : Int64)) ((3 : Int64)) S1).bind fun q2 =>
if q2.1 = 0 then
(some ((-2000000001 : Int32), q2.2))
else
(z_chk q2.2 v0 13 (
z_onV (va_rf (z_r q2.2 v0 66)) fun b3 =>
z_inb q2.2 b3 104 v1 (
if ((z_i q2.2 b3 v1.toNatClampNeg)) = 0 then
(j_X12_stuck_35 v0 v1 v2 ((0 : Int32)) q2.2)
else
(j_X12_stuck_35 v0 v1 v2 ((1 : Int32)) q2.2)))))
def f_X12_stuck : Nat → Int32 → Int32 → z_St → Option (Int32 × z_St) := z_op (b_X12_stuck)
theorem e_X12_stuck (v0 : Nat) (v1 : Int32) (v2 : Int32) (S : z_St) : f_X12_stuck v0 v1 v2 S = b_X12_stuck v0 v1 v2 S := congrFun (congrFun (congrFun (congrFun (z_op_eq (b_X12_stuck)) v0) v1) v2) S
def g_X12_stuck : z_G := .inl (fun as S => match as with
  | [.ref v0, .int v1, .int v2] => f_X12_stuck v0 v1 v2 S
  | _ => none)
def c_X12_stuck : List z_E := [
  (0, .aload_n 0, 1, .null, [], z_g0),
  (1, .iconst 0, 1, .int ((0 : Int32)), [], z_g0),
  (2, .putfield 224, 3, .null, [13, 0, 0], z_g0),
  (5, .iload_n 1, 1, .null, [], z_g0),
  (6, .i2l, 1, .null, [], z_g0),
  (7, .lconst 0, 1, .long (0 : Int64), [], z_g0),
  (8, .ldc2_w 423, 3, .long (3 : Int64), [], z_g0),
  (11, .invokestatic 274, 3, .null, [0, 0, 0, 0], g_X12_in),
  (14, .ifCond .ne 7, 3, .null, [21], z_g0),
  (17, .ldc_w 296, 3, .int (-2000000001 : Int32), [], z_g0),
  (20, .ireturn, 1, .null, [], z_g0),
  (21, .aload_n 0, 1, .null, [], z_g0),
  (22, .getfield 139, 3, .null, [13, 66, 3], z_g0),
  (25, .iload_n 1, 1, .null, [], z_g0),
  (26, .baload, 1, .null, [104], z_g0),
  (27, .ifCond .eq 7, 3, .null, [34], z_g0),
  (30, .iconst 1, 1, .int ((1 : Int32)), [], z_g0),
  (31, .goto 4, 3, .null, [35], z_g0),
  (34, .iconst 0, 1, .int ((0 : Int32)), [], z_g0),
  (35, .istore_n 3, 1, .null, [], z_g0),
  (36, .aload_n 0, 1, .null, [], z_g0),
  (37, .getfield 139, 3, .null, [13, 66, 3], z_g0),
  (40, .iload_n 1, 1, .null, [], z_g0),
  (41, .iload_n 2, 1, .null, [], z_g0),
  (42, .bastore, 1, .null, [104], z_g0),
  (43, .iload_n 3, 1, .null, [], z_g0),
  (44, .ireturn, 1, .null, [], z_g0)]
def a_X12_stuck_35 {ρ : Type} (k : Nat → Int32 → Int32 → Int32 → z_St → Option ρ) (ls : z_Lv) (st : List Value) (S : z_St) : Option ρ := z_gR ls 0 fun v0 => z_gI ls 1 fun v1 => z_gI ls 2 fun v2 => z_pI st fun t0 s0 => z_p0 s0 (k v0 v1 v2 t0 S)
set_option maxRecDepth 100000 in
theorem r_X12_stuck_35 (v0 : Nat) (v1 : Int32) (v2 : Int32) (t0 : Int32) (S : z_St) : z_seg z_rI (c_X12_stuck) [35] (fun pc => fun _ _ _ => none) 30 (z_to 35 (c_X12_stuck)) [(0, .ref v0), (1, .int v1), (2, .int v2)] [.int t0] S = j_X12_stuck_35 v0 v1 v2 t0 S := rfl
set_option maxRecDepth 100000 in
theorem r_X12_stuck (v0 : Nat) (v1 : Int32) (v2 : Int32) (S : z_St) : z_seg z_rI (c_X12_stuck) [35] (fun pc => cond (Nat.beq pc 35) (a_X12_stuck_35 (j_X12_stuck_35)) (fun _ _ _ => none)) 30 (c_X12_stuck) [(0, .ref v0), (1, .int v1), (2, .int v2)] [] S = b_X12_stuck v0 v1 v2 S := rfl
def j_X12_hand_71 (v0 : Nat) (v1 : Int32) (v4 : UInt64) (t0 : Nat) (t1 : Int32) (t2 : Int32) (S : z_St) : Option (Int32 × z_St) :=
z_inb S t0 104 t1 (
let S6 := z_wi S t0 t1.toNatClampNeg (vp_nar .boolean t2)
z_chk S6 v0 13 (
z_onV (va_rf (z_r S6 v0 68)) fun b7 =>
z_inb S6 b7 103 v1 (
let S8 := z_wd S6 b7 v1.toNatClampNeg v4
some ((1 : Int32), S8))))
def j_X12_hand_53 (v0 : Nat) (v1 : Int32) (v4 : UInt64) (S : z_St) : Option (Int32 × z_St) :=
z_chk S v0 13 (
if (Op.cmpValue (FP.dcmp v4 v4) .l) = 0 then
(z_onV (va_rf (z_r S v0 67)) fun b5 =>
j_X12_hand_71 v0 v1 v4 b5 v1 ((1 : Int32)) S)
else
(z_onV (va_rf (z_r S v0 67)) fun b4 =>
j_X12_hand_71 v0 v1 v4 b4 v1 ((0 : Int32)) S))
def b_X12_hand (v0 : Nat) (v1 : Int32) (v2 : Int64) (S : z_St) : Option (Int32 × z_St) :=
z_chk S v0 13 (
let S1 := z_wi S v0 0 ((0 : Int32))
(f_X12_in v1.toInt64 ((0 : Int64)) ((3 : Int64)) S1).bind fun q2 =>
if q2.1 = 0 then
(some ((-2000000001 : Int32), q2.2))
else
((f_X12_realOf v2 q2.2).bind fun q3 =>
if (Op.cmpValue (FP.dcmp q3.1 q3.1) .l) = 0 then
(if (Op.cmpValue (FP.dcmp q3.1 FP.dconst0) .l) < 0 then
(some ((-2000000002 : Int32), q3.2))
else
(if (Op.cmpValue (FP.dcmp q3.1 FP.dconst1) .g) ≤ 0 then
(j_X12_hand_53 v0 v1 q3.1 q3.2)
else
(some ((-2000000002 : Int32), q3.2))))
else
(j_X12_hand_53 v0 v1 q3.1 q3.2)))
def f_X12_hand : Nat → Int32 → Int64 → z_St → Option (Int32 × z_St) := z_op (b_X12_hand)
theorem e_X12_hand (v0 : Nat) (v1 : Int32) (v2 : Int64) (S : z_St) : f_X12_hand v0 v1 v2 S = b_X12_hand v0 v1 v2 S := congrFun (congrFun (congrFun (congrFun (z_op_eq (b_X12_hand)) v0) v1) v2) S
def g_X12_hand : z_G := .inl (fun as S => match as with
  | [.ref v0, .int v1, .long v2] => f_X12_hand v0 v1 v2 S
  | _ => none)
def c_X12_hand : List z_E := [
  (0, .aload_n 0, 1, .null, [], z_g0),
  (1, .iconst 0, 1, .int ((0 : Int32)), [], z_g0),
  (2, .putfield 224, 3, .null, [13, 0, 0], z_g0),
  (5, .iload_n 1, 1, .null, [], z_g0),
  (6, .i2l, 1, .null, [], z_g0),
  (7, .lconst 0, 1, .long (0 : Int64), [], z_g0),
  (8, .ldc2_w 423, 3, .long (3 : Int64), [], z_g0),
  (11, .invokestatic 274, 3, .null, [0, 0, 0, 0], g_X12_in),
  (14, .ifCond .ne 7, 3, .null, [21], z_g0),
  (17, .ldc_w 296, 3, .int (-2000000001 : Int32), [], z_g0),
  (20, .ireturn, 1, .null, [], z_g0),
  (21, .lload_n 2, 1, .null, [], z_g0),
  (22, .invokestatic 262, 3, .null, [0, 0], g_X12_realOf),
  (25, .dstore 4, 2, .null, [], z_g0),
  (27, .dload 4, 2, .null, [], z_g0),
  (29, .dload 4, 2, .null, [], z_g0),
  (31, .dcmp .l, 1, .null, [], z_g0),
  (32, .ifCond .ne 21, 3, .null, [53], z_g0),
  (35, .dload 4, 2, .null, [], z_g0),
  (37, .dconst 0, 1, .double FP.dconst0, [], z_g0),
  (38, .dcmp .l, 1, .null, [], z_g0),
  (39, .ifCond .lt 10, 3, .null, [49], z_g0),
  (42, .dload 4, 2, .null, [], z_g0),
  (44, .dconst 1, 1, .double FP.dconst1, [], z_g0),
  (45, .dcmp .g, 1, .null, [], z_g0),
  (46, .ifCond .le 7, 3, .null, [53], z_g0),
  (49, .ldc_w 280, 3, .int (-2000000002 : Int32), [], z_g0),
  (52, .ireturn, 1, .null, [], z_g0),
  (53, .aload_n 0, 1, .null, [], z_g0),
  (54, .getfield 142, 3, .null, [13, 67, 3], z_g0),
  (57, .iload_n 1, 1, .null, [], z_g0),
  (58, .dload 4, 2, .null, [], z_g0),
  (60, .dload 4, 2, .null, [], z_g0),
  (62, .dcmp .l, 1, .null, [], z_g0),
  (63, .ifCond .ne 7, 3, .null, [70], z_g0),
  (66, .iconst 1, 1, .int ((1 : Int32)), [], z_g0),
  (67, .goto 4, 3, .null, [71], z_g0),
  (70, .iconst 0, 1, .int ((0 : Int32)), [], z_g0),
  (71, .bastore, 1, .null, [104], z_g0),
  (72, .aload_n 0, 1, .null, [], z_g0),
  (73, .getfield 145, 3, .null, [13, 68, 3], z_g0),
  (76, .iload_n 1, 1, .null, [], z_g0),
  (77, .dload 4, 2, .null, [], z_g0),
  (79, .dastore, 1, .null, [], z_g0),
  (80, .iconst 1, 1, .int ((1 : Int32)), [], z_g0),
  (81, .ireturn, 1, .null, [], z_g0)]
def a_X12_hand_53 {ρ : Type} (k : Nat → Int32 → UInt64 → z_St → Option ρ) (ls : z_Lv) (st : List Value) (S : z_St) : Option ρ := z_gR ls 0 fun v0 => z_gI ls 1 fun v1 => z_gD ls 4 fun v4 => z_p0 st (k v0 v1 v4 S)
def a_X12_hand_71 {ρ : Type} (k : Nat → Int32 → UInt64 → Nat → Int32 → Int32 → z_St → Option ρ) (ls : z_Lv) (st : List Value) (S : z_St) : Option ρ := z_gR ls 0 fun v0 => z_gI ls 1 fun v1 => z_gD ls 4 fun v4 => z_pI st fun t2 s2 => z_pI s2 fun t1 s1 => z_pR s1 fun t0 s0 => z_p0 s0 (k v0 v1 v4 t0 t1 t2 S)
set_option maxRecDepth 100000 in
theorem r_X12_hand_71 (v0 : Nat) (v1 : Int32) (v4 : UInt64) (t0 : Nat) (t1 : Int32) (t2 : Int32) (S : z_St) : z_seg z_rI (c_X12_hand) [53, 71] (fun pc => fun _ _ _ => none) 49 (z_to 71 (c_X12_hand)) [(0, .ref v0), (1, .int v1), (4, .double v4)] [.int t2, .int t1, .ref t0] S = j_X12_hand_71 v0 v1 v4 t0 t1 t2 S := rfl
set_option maxRecDepth 100000 in
theorem r_X12_hand_53 (v0 : Nat) (v1 : Int32) (v4 : UInt64) (S : z_St) : z_seg z_rI (c_X12_hand) [53, 71] (fun pc => cond (Nat.beq pc 71) (a_X12_hand_71 (j_X12_hand_71)) (fun _ _ _ => none)) 49 (z_to 53 (c_X12_hand)) [(0, .ref v0), (1, .int v1), (4, .double v4)] [] S = j_X12_hand_53 v0 v1 v4 S := rfl
set_option maxRecDepth 100000 in
theorem r_X12_hand (v0 : Nat) (v1 : Int32) (v2 : Int64) (S : z_St) : z_seg z_rI (c_X12_hand) [53, 71] (fun pc => cond (Nat.beq pc 53) (a_X12_hand_53 (j_X12_hand_53)) (fun _ _ _ => none)) 49 (c_X12_hand) [(0, .ref v0), (1, .int v1), (2, .long v2)] [] S = b_X12_hand v0 v1 v2 S := rfl
def b_X12_rate (v0 : Nat) (v1 : Int64) (S : z_St) : Option (Int32 × z_St) :=
z_chk S v0 13 (
let S1 := z_wi S v0 0 ((0 : Int32))
(f_X12_realOf v1 S1).bind fun q2 =>
if (Op.cmpValue (FP.dcmp q2.1 FP.dconst0) .l) < 0 then
(some ((-2000000002 : Int32), q2.2))
else
(if (Op.cmpValue (FP.dcmp q2.1 FP.dconst1) .g) ≤ 0 then
(z_chk q2.2 v0 13 (
let S3 := z_wd q2.2 v0 61 q2.1
some ((1 : Int32), S3)))
else
(some ((-2000000002 : Int32), q2.2))))
def f_X12_rate : Nat → Int64 → z_St → Option (Int32 × z_St) := z_op (b_X12_rate)
theorem e_X12_rate (v0 : Nat) (v1 : Int64) (S : z_St) : f_X12_rate v0 v1 S = b_X12_rate v0 v1 S := congrFun (congrFun (congrFun (z_op_eq (b_X12_rate)) v0) v1) S
def g_X12_rate : z_G := .inl (fun as S => match as with
  | [.ref v0, .long v1] => f_X12_rate v0 v1 S
  | _ => none)
def c_X12_rate : List z_E := [
  (0, .aload_n 0, 1, .null, [], z_g0),
  (1, .iconst 0, 1, .int ((0 : Int32)), [], z_g0),
  (2, .putfield 224, 3, .null, [13, 0, 0], z_g0),
  (5, .lload_n 1, 1, .null, [], z_g0),
  (6, .invokestatic 262, 3, .null, [0, 0], g_X12_realOf),
  (9, .dstore_n 3, 1, .null, [], z_g0),
  (10, .dload_n 3, 1, .null, [], z_g0),
  (11, .dconst 0, 1, .double FP.dconst0, [], z_g0),
  (12, .dcmp .l, 1, .null, [], z_g0),
  (13, .ifCond .lt 9, 3, .null, [22], z_g0),
  (16, .dload_n 3, 1, .null, [], z_g0),
  (17, .dconst 1, 1, .double FP.dconst1, [], z_g0),
  (18, .dcmp .g, 1, .null, [], z_g0),
  (19, .ifCond .le 7, 3, .null, [26], z_g0),
  (22, .ldc_w 280, 3, .int (-2000000002 : Int32), [], z_g0),
  (25, .ireturn, 1, .null, [], z_g0),
  (26, .aload_n 0, 1, .null, [], z_g0),
  (27, .dload_n 3, 1, .null, [], z_g0),
  (28, .putfield 126, 3, .null, [13, 61, 2], z_g0),
  (31, .iconst 1, 1, .int ((1 : Int32)), [], z_g0),
  (32, .ireturn, 1, .null, [], z_g0)]
set_option maxRecDepth 100000 in
theorem r_X12_rate (v0 : Nat) (v1 : Int64) (S : z_St) : z_seg z_rI (c_X12_rate) [] (fun pc => fun _ _ _ => none) 24 (c_X12_rate) [(0, .ref v0), (1, .long v1)] [] S = b_X12_rate v0 v1 S := rfl
def l_X12_hangsAt_84 (k_65 : Nat → Int32 → Int32 → Int32 → Int32 → z_St → Option (Int32 × z_St)) (k_75 : Nat → Int32 → Int32 → Int32 → Int32 → Int32 → z_St → Option (Int32 × z_St)) : Nat → Nat → Int32 → Int32 → Int32 → Int32 → Int32 → Int32 → z_St → Option (Int32 × z_St)
  | 0 => fun _ _ _ _ _ _ _ _ => none
  | n + 1 => fun (v0 : Nat) (v1 : Int32) (v2 : Int32) (v3 : Int32) (v4 : Int32) (v5 : Int32) (v6 : Int32) (S : z_St) =>
if v5 ≤ v6 then
(let x9 := v5 + (1 : Int32)
k_75 v0 v1 v2 v3 v4 x9 S)
else
(if v3 = 0 then
(if v4 = v1 then
(let x11 := v6 + (1 : Int32)
l_X12_hangsAt_84 k_65 k_75 n v0 v1 v2 ((0 : Int32)) v4 v5 x11 S)
else
(z_chk S v0 13 (
z_onV (va_rf (z_r S v0 70)) fun b12 =>
z_inb S b12 104 ((((4 : Int32)) * v4) + v5) (
if ((z_i S b12 ((((4 : Int32)) * v4) + v5).toNatClampNeg)) = 0 then
(let x13 := v6 + (1 : Int32)
l_X12_hangsAt_84 k_65 k_75 n v0 v1 v2 ((0 : Int32)) v4 v5 x13 S)
else
(z_chk S v0 13 (
z_onV (va_rf (z_r S v0 70)) fun b14 =>
z_inb S b14 104 ((((4 : Int32)) * v4) + v6) (
if ((z_i S b14 ((((4 : Int32)) * v4) + v6).toNatClampNeg)) = 0 then
(let x15 := v6 + (1 : Int32)
l_X12_hangsAt_84 k_65 k_75 n v0 v1 v2 ((0 : Int32)) v4 v5 x15 S)
else
(z_chk S v0 13 (
z_onV (va_rf (z_r S v0 71)) fun b16 =>
z_inb S b16 102 ((((4 : Int32)) * v4) + v5) (
z_chk S v0 13 (
z_onV (va_rf (z_r S v0 71)) fun b17 =>
z_inb S b17 102 ((((4 : Int32)) * v4) + v6) (
if (lg_cmp ((z_l S b16 ((((4 : Int32)) * v4) + v5).toNatClampNeg)) ((z_l S b17 ((((4 : Int32)) * v4) + v6).toNatClampNeg))) = 0 then
(let x18 := v6 + (1 : Int32)
l_X12_hangsAt_84 k_65 k_75 n v0 v1 v2 ((0 : Int32)) v4 v5 x18 S)
else
(let x19 := v6 + (1 : Int32)
l_X12_hangsAt_84 k_65 k_75 n v0 v1 v2 ((1 : Int32)) v4 v5 x19 S)))))))))))))
else
(let x10 := v6 + (1 : Int32)
l_X12_hangsAt_84 k_65 k_75 n v0 v1 v2 ((1 : Int32)) v4 v5 x10 S))
def l_X12_hangsAt_75 (k_65 : Nat → Int32 → Int32 → Int32 → Int32 → z_St → Option (Int32 × z_St)) : Nat → Nat → Int32 → Int32 → Int32 → Int32 → Int32 → z_St → Option (Int32 × z_St)
  | 0 => fun _ _ _ _ _ _ _ => none
  | n + 1 => fun (v0 : Nat) (v1 : Int32) (v2 : Int32) (v3 : Int32) (v4 : Int32) (v5 : Int32) (S : z_St) =>
if ((4 : Int32)) ≤ v5 then
(let x8 := v4 + (1 : Int32)
k_65 v0 v1 v2 v3 x8 S)
else
(l_X12_hangsAt_84 k_65 (l_X12_hangsAt_75 k_65 n) z_N v0 v1 v2 v3 v4 v5 ((0 : Int32)) S)
def l_X12_hangsAt_65 : Nat → Nat → Int32 → Int32 → Int32 → Int32 → z_St → Option (Int32 × z_St)
  | 0 => fun _ _ _ _ _ _ => none
  | n + 1 => fun (v0 : Nat) (v1 : Int32) (v2 : Int32) (v3 : Int32) (v4 : Int32) (S : z_St) =>
if ((6 : Int32)) ≤ v4 then
(if v2 = 0 then
(z_rb ((0 : Int32)) S)
else
(if v3 = 0 then
(z_rb ((0 : Int32)) S)
else
(z_rb ((1 : Int32)) S)))
else
(l_X12_hangsAt_75 (l_X12_hangsAt_65 n) z_N v0 v1 v2 v3 v4 ((0 : Int32)) S)
def l_X12_hangsAt_4 : Nat → Nat → Int32 → Int32 → Int32 → z_St → Option (Int32 × z_St)
  | 0 => fun _ _ _ _ _ => none
  | n + 1 => fun (v0 : Nat) (v1 : Int32) (v2 : Int32) (v3 : Int32) (S : z_St) =>
if ((4 : Int32)) ≤ v3 then
(l_X12_hangsAt_65 z_N v0 v1 v2 ((0 : Int32)) ((0 : Int32)) S)
else
(if v2 = 0 then
(let x1 := v3 + (1 : Int32)
l_X12_hangsAt_4 n v0 v1 ((0 : Int32)) x1 S)
else
(z_chk S v0 13 (
z_onV (va_rf (z_r S v0 70)) fun b2 =>
z_inb S b2 104 ((((4 : Int32)) * v1) + v3) (
if ((z_i S b2 ((((4 : Int32)) * v1) + v3).toNatClampNeg)) = 0 then
(let x3 := v3 + (1 : Int32)
l_X12_hangsAt_4 n v0 v1 ((0 : Int32)) x3 S)
else
(z_chk S v0 13 (
z_onV (va_rf (z_r S v0 71)) fun b4 =>
z_inb S b4 102 ((((4 : Int32)) * v1) + v3) (
z_chk S v0 13 (
z_onV (va_rf (z_r S v0 71)) fun b5 =>
z_inb S b5 102 (((4 : Int32)) * v1) (
if (lg_cmp ((z_l S b4 ((((4 : Int32)) * v1) + v3).toNatClampNeg)) ((z_l S b5 (((4 : Int32)) * v1).toNatClampNeg))) = 0 then
(let x7 := v3 + (1 : Int32)
l_X12_hangsAt_4 n v0 v1 ((1 : Int32)) x7 S)
else
(let x6 := v3 + (1 : Int32)
l_X12_hangsAt_4 n v0 v1 ((0 : Int32)) x6 S))))))))))
def b_X12_hangsAt (v0 : Nat) (v1 : Int32) (S : z_St) : Option (Int32 × z_St) :=
l_X12_hangsAt_4 z_N v0 v1 ((1 : Int32)) ((0 : Int32)) S
def f_X12_hangsAt : Nat → Int32 → z_St → Option (Int32 × z_St) := z_op (b_X12_hangsAt)
theorem e_X12_hangsAt (v0 : Nat) (v1 : Int32) (S : z_St) : f_X12_hangsAt v0 v1 S = b_X12_hangsAt v0 v1 S := congrFun (congrFun (congrFun (z_op_eq (b_X12_hangsAt)) v0) v1) S
def g_X12_hangsAt : z_G := .inl (fun as S => match as with
  | [.ref v0, .int v1] => f_X12_hangsAt v0 v1 S
  | _ => none)
def c_X12_hangsAt : List z_E := [
  (0, .iconst 1, 1, .int ((1 : Int32)), [], z_g0),
  (1, .istore_n 2, 1, .null, [], z_g0),
  (2, .iconst 0, 1, .int ((0 : Int32)), [], z_g0),
  (3, .istore_n 3, 1, .null, [], z_g0),
  (4, .iload_n 3, 1, .null, [], z_g0),
  (5, .iconst 4, 1, .int ((4 : Int32)), [], z_g0),
  (6, .if_icmp .ge 54, 3, .null, [60], z_g0),
  (9, .iload_n 2, 1, .null, [], z_g0),
  (10, .ifCond .eq 42, 3, .null, [52], z_g0),
  (13, .aload_n 0, 1, .null, [], z_g0),
  (14, .getfield 151, 3, .null, [13, 70, 3], z_g0),
  (17, .iconst 4, 1, .int ((4 : Int32)), [], z_g0),
  (18, .iload_n 1, 1, .null, [], z_g0),
  (19, .imul, 1, .null, [], z_g0),
  (20, .iload_n 3, 1, .null, [], z_g0),
  (21, .iadd, 1, .null, [], z_g0),
  (22, .baload, 1, .null, [104], z_g0),
  (23, .ifCond .eq 29, 3, .null, [52], z_g0),
  (26, .aload_n 0, 1, .null, [], z_g0),
  (27, .getfield 154, 3, .null, [13, 71, 3], z_g0),
  (30, .iconst 4, 1, .int ((4 : Int32)), [], z_g0),
  (31, .iload_n 1, 1, .null, [], z_g0),
  (32, .imul, 1, .null, [], z_g0),
  (33, .iload_n 3, 1, .null, [], z_g0),
  (34, .iadd, 1, .null, [], z_g0),
  (35, .laload, 1, .null, [], z_g0),
  (36, .aload_n 0, 1, .null, [], z_g0),
  (37, .getfield 154, 3, .null, [13, 71, 3], z_g0),
  (40, .iconst 4, 1, .int ((4 : Int32)), [], z_g0),
  (41, .iload_n 1, 1, .null, [], z_g0),
  (42, .imul, 1, .null, [], z_g0),
  (43, .laload, 1, .null, [], z_g0),
  (44, .lcmp, 1, .null, [], z_g0),
  (45, .ifCond .ne 7, 3, .null, [52], z_g0),
  (48, .iconst 1, 1, .int ((1 : Int32)), [], z_g0),
  (49, .goto 4, 3, .null, [53], z_g0),
  (52, .iconst 0, 1, .int ((0 : Int32)), [], z_g0),
  (53, .istore_n 2, 1, .null, [], z_g0),
  (54, .iinc 3 1, 3, .int (1 : Int32), [], z_g0),
  (57, .goto (-53), 3, .null, [4], z_g0),
  (60, .iconst 0, 1, .int ((0 : Int32)), [], z_g0),
  (61, .istore_n 3, 1, .null, [], z_g0),
  (62, .iconst 0, 1, .int ((0 : Int32)), [], z_g0),
  (63, .istore 4, 2, .null, [], z_g0),
  (65, .iload 4, 2, .null, [], z_g0),
  (67, .bipush 6, 2, .int ((6 : Int32)), [], z_g0),
  (69, .if_icmp .ge 114, 3, .null, [183], z_g0),
  (72, .iconst 0, 1, .int ((0 : Int32)), [], z_g0),
  (73, .istore 5, 2, .null, [], z_g0),
  (75, .iload 5, 2, .null, [], z_g0),
  (77, .iconst 4, 1, .int ((4 : Int32)), [], z_g0),
  (78, .if_icmp .ge 99, 3, .null, [177], z_g0),
  (81, .iconst 0, 1, .int ((0 : Int32)), [], z_g0),
  (82, .istore 6, 2, .null, [], z_g0),
  (84, .iload 6, 2, .null, [], z_g0),
  (86, .iload 5, 2, .null, [], z_g0),
  (88, .if_icmp .ge 83, 3, .null, [171], z_g0),
  (91, .iload_n 3, 1, .null, [], z_g0),
  (92, .ifCond .ne 67, 3, .null, [159], z_g0),
  (95, .iload 4, 2, .null, [], z_g0),
  (97, .iload_n 1, 1, .null, [], z_g0),
  (98, .if_icmp .eq 65, 3, .null, [163], z_g0),
  (101, .aload_n 0, 1, .null, [], z_g0),
  (102, .getfield 151, 3, .null, [13, 70, 3], z_g0),
  (105, .iconst 4, 1, .int ((4 : Int32)), [], z_g0),
  (106, .iload 4, 2, .null, [], z_g0),
  (108, .imul, 1, .null, [], z_g0),
  (109, .iload 5, 2, .null, [], z_g0),
  (111, .iadd, 1, .null, [], z_g0),
  (112, .baload, 1, .null, [104], z_g0),
  (113, .ifCond .eq 50, 3, .null, [163], z_g0),
  (116, .aload_n 0, 1, .null, [], z_g0),
  (117, .getfield 151, 3, .null, [13, 70, 3], z_g0),
  (120, .iconst 4, 1, .int ((4 : Int32)), [], z_g0),
  (121, .iload 4, 2, .null, [], z_g0),
  (123, .imul, 1, .null, [], z_g0),
  (124, .iload 6, 2, .null, [], z_g0),
  (126, .iadd, 1, .null, [], z_g0),
  (127, .baload, 1, .null, [104], z_g0),
  (128, .ifCond .eq 35, 3, .null, [163], z_g0),
  (131, .aload_n 0, 1, .null, [], z_g0),
  (132, .getfield 154, 3, .null, [13, 71, 3], z_g0),
  (135, .iconst 4, 1, .int ((4 : Int32)), [], z_g0),
  (136, .iload 4, 2, .null, [], z_g0),
  (138, .imul, 1, .null, [], z_g0),
  (139, .iload 5, 2, .null, [], z_g0),
  (141, .iadd, 1, .null, [], z_g0),
  (142, .laload, 1, .null, [], z_g0),
  (143, .aload_n 0, 1, .null, [], z_g0),
  (144, .getfield 154, 3, .null, [13, 71, 3], z_g0),
  (147, .iconst 4, 1, .int ((4 : Int32)), [], z_g0),
  (148, .iload 4, 2, .null, [], z_g0),
  (150, .imul, 1, .null, [], z_g0),
  (151, .iload 6, 2, .null, [], z_g0),
  (153, .iadd, 1, .null, [], z_g0),
  (154, .laload, 1, .null, [], z_g0),
  (155, .lcmp, 1, .null, [], z_g0),
  (156, .ifCond .eq 7, 3, .null, [163], z_g0),
  (159, .iconst 1, 1, .int ((1 : Int32)), [], z_g0),
  (160, .goto 4, 3, .null, [164], z_g0),
  (163, .iconst 0, 1, .int ((0 : Int32)), [], z_g0),
  (164, .istore_n 3, 1, .null, [], z_g0),
  (165, .iinc 6 1, 3, .int (1 : Int32), [], z_g0),
  (168, .goto (-84), 3, .null, [84], z_g0),
  (171, .iinc 5 1, 3, .int (1 : Int32), [], z_g0),
  (174, .goto (-99), 3, .null, [75], z_g0),
  (177, .iinc 4 1, 3, .int (1 : Int32), [], z_g0),
  (180, .goto (-115), 3, .null, [65], z_g0),
  (183, .iload_n 2, 1, .null, [], z_g0),
  (184, .ifCond .eq 11, 3, .null, [195], z_g0),
  (187, .iload_n 3, 1, .null, [], z_g0),
  (188, .ifCond .eq 7, 3, .null, [195], z_g0),
  (191, .iconst 1, 1, .int ((1 : Int32)), [], z_g0),
  (192, .goto 4, 3, .null, [196], z_g0),
  (195, .iconst 0, 1, .int ((0 : Int32)), [], z_g0),
  (196, .ireturn, 1, .null, [], z_g0)]
def a_X12_hangsAt_4 {ρ : Type} (k : Nat → Int32 → Int32 → Int32 → z_St → Option ρ) (ls : z_Lv) (st : List Value) (S : z_St) : Option ρ := z_gR ls 0 fun v0 => z_gI ls 1 fun v1 => z_gI ls 2 fun v2 => z_gI ls 3 fun v3 => z_p0 st (k v0 v1 v2 v3 S)
def a_X12_hangsAt_65 {ρ : Type} (k : Nat → Int32 → Int32 → Int32 → Int32 → z_St → Option ρ) (ls : z_Lv) (st : List Value) (S : z_St) : Option ρ := z_gR ls 0 fun v0 => z_gI ls 1 fun v1 => z_gI ls 2 fun v2 => z_gI ls 3 fun v3 => z_gI ls 4 fun v4 => z_p0 st (k v0 v1 v2 v3 v4 S)
def a_X12_hangsAt_75 {ρ : Type} (k : Nat → Int32 → Int32 → Int32 → Int32 → Int32 → z_St → Option ρ) (ls : z_Lv) (st : List Value) (S : z_St) : Option ρ := z_gR ls 0 fun v0 => z_gI ls 1 fun v1 => z_gI ls 2 fun v2 => z_gI ls 3 fun v3 => z_gI ls 4 fun v4 => z_gI ls 5 fun v5 => z_p0 st (k v0 v1 v2 v3 v4 v5 S)
def a_X12_hangsAt_84 {ρ : Type} (k : Nat → Int32 → Int32 → Int32 → Int32 → Int32 → Int32 → z_St → Option ρ) (ls : z_Lv) (st : List Value) (S : z_St) : Option ρ := z_gR ls 0 fun v0 => z_gI ls 1 fun v1 => z_gI ls 2 fun v2 => z_gI ls 3 fun v3 => z_gI ls 4 fun v4 => z_gI ls 5 fun v5 => z_gI ls 6 fun v6 => z_p0 st (k v0 v1 v2 v3 v4 v5 v6 S)
set_option maxRecDepth 100000 in
theorem r_X12_hangsAt_84 (k_65 : Nat → Int32 → Int32 → Int32 → Int32 → z_St → Option (Int32 × z_St)) (k_75 : Nat → Int32 → Int32 → Int32 → Int32 → Int32 → z_St → Option (Int32 × z_St)) (n : Nat) (v0 : Nat) (v1 : Int32) (v2 : Int32) (v3 : Int32) (v4 : Int32) (v5 : Int32) (v6 : Int32) (S : z_St) : z_seg z_rZ (c_X12_hangsAt) [4, 65, 75, 84] (fun pc => cond (Nat.beq pc 75) (a_X12_hangsAt_75 k_75) (cond (Nat.beq pc 84) (a_X12_hangsAt_84 (l_X12_hangsAt_84 k_65 k_75 n)) (fun _ _ _ => none))) 119 (z_to 84 (c_X12_hangsAt)) [(0, .ref v0), (1, .int v1), (2, .int v2), (3, .int v3), (4, .int v4), (5, .int v5), (6, .int v6)] [] S = l_X12_hangsAt_84 k_65 k_75 (n + 1) v0 v1 v2 v3 v4 v5 v6 S := rfl
set_option maxRecDepth 100000 in
theorem r_X12_hangsAt_75 (k_65 : Nat → Int32 → Int32 → Int32 → Int32 → z_St → Option (Int32 × z_St)) (n : Nat) (v0 : Nat) (v1 : Int32) (v2 : Int32) (v3 : Int32) (v4 : Int32) (v5 : Int32) (S : z_St) : z_seg z_rZ (c_X12_hangsAt) [4, 65, 75, 84] (fun pc => cond (Nat.beq pc 65) (a_X12_hangsAt_65 k_65) (cond (Nat.beq pc 84) (a_X12_hangsAt_84 (l_X12_hangsAt_84 k_65 (l_X12_hangsAt_75 k_65 n) z_N)) (fun _ _ _ => none))) 119 (z_to 75 (c_X12_hangsAt)) [(0, .ref v0), (1, .int v1), (2, .int v2), (3, .int v3), (4, .int v4), (5, .int v5)] [] S = l_X12_hangsAt_75 k_65 (n + 1) v0 v1 v2 v3 v4 v5 S := rfl
set_option maxRecDepth 100000 in
theorem r_X12_hangsAt_65 (n : Nat) (v0 : Nat) (v1 : Int32) (v2 : Int32) (v3 : Int32) (v4 : Int32) (S : z_St) : z_seg z_rZ (c_X12_hangsAt) [4, 65, 75, 84] (fun pc => cond (Nat.beq pc 75) (a_X12_hangsAt_75 (l_X12_hangsAt_75 (l_X12_hangsAt_65 n) z_N)) (fun _ _ _ => none)) 119 (z_to 65 (c_X12_hangsAt)) [(0, .ref v0), (1, .int v1), (2, .int v2), (3, .int v3), (4, .int v4)] [] S = l_X12_hangsAt_65 (n + 1) v0 v1 v2 v3 v4 S := rfl
set_option maxRecDepth 100000 in
theorem r_X12_hangsAt_4 (n : Nat) (v0 : Nat) (v1 : Int32) (v2 : Int32) (v3 : Int32) (S : z_St) : z_seg z_rZ (c_X12_hangsAt) [4, 65, 75, 84] (fun pc => cond (Nat.beq pc 4) (a_X12_hangsAt_4 (l_X12_hangsAt_4 n)) (cond (Nat.beq pc 65) (a_X12_hangsAt_65 (l_X12_hangsAt_65 z_N)) (fun _ _ _ => none))) 119 (z_to 4 (c_X12_hangsAt)) [(0, .ref v0), (1, .int v1), (2, .int v2), (3, .int v3)] [] S = l_X12_hangsAt_4 (n + 1) v0 v1 v2 v3 S := rfl
set_option maxRecDepth 100000 in
theorem r_X12_hangsAt (v0 : Nat) (v1 : Int32) (S : z_St) : z_seg z_rZ (c_X12_hangsAt) [4, 65, 75, 84] (fun pc => cond (Nat.beq pc 4) (a_X12_hangsAt_4 (l_X12_hangsAt_4 z_N)) (fun _ _ _ => none)) 119 (c_X12_hangsAt) [(0, .ref v0), (1, .int v1)] [] S = b_X12_hangsAt v0 v1 S := rfl
def j_X12_hear1_193 (k_2 : Nat → Int32 → z_St → Option z_St) (v0 : Nat) (v1 : Int32) (t0 : Nat) (t1 : Int32) (t2 : Int32) (S : z_St) : Option z_St :=
z_inb S t0 104 t1 (
let S26 := z_wi S t0 t1.toNatClampNeg (vp_nar .boolean t2)
z_chk S26 v0 13 (
z_onV (va_rf (z_r S26 v0 73)) fun b27 =>
z_inb S26 b27 104 v1 (
let S28 := z_wi S26 b27 v1.toNatClampNeg (vp_nar .boolean ((0 : Int32)))
let x29 := v1 + (1 : Int32)
k_2 v0 x29 S28)))
def j_X12_hear1_148 (k_2 : Nat → Int32 → z_St → Option z_St) (v0 : Nat) (v1 : Int32) (t0 : UInt64) (S : z_St) : Option z_St :=
z_chk S v0 13 (
z_chk S v0 13 (
if ((z_i S v0 62)) ≤ 0 then
(z_onV (va_rf (z_r S v0 72)) fun b20 =>
j_X12_hear1_193 k_2 v0 v1 b20 (((4 : Int32)) * v1) ((0 : Int32)) S)
else
(z_chk S v0 13 (
z_onV (va_rf (z_r S v0 73)) fun b21 =>
z_inb S b21 104 v1 (
if ((z_i S b21 v1.toNatClampNeg)) = 0 then
(z_onV (va_rf (z_r S v0 72)) fun b22 =>
j_X12_hear1_193 k_2 v0 v1 b22 (((4 : Int32)) * v1) ((0 : Int32)) S)
else
(if 0 < (Op.cmpValue (FP.dcmp t0 ((4602678819172646912 : UInt64))) .l) then
(z_onV (va_rf (z_r S v0 72)) fun b23 =>
j_X12_hear1_193 k_2 v0 v1 b23 (((4 : Int32)) * v1) ((1 : Int32)) S)
else
(if 0 ≤ (Op.cmpValue (FP.dcmp t0 ((13826050856027422720 : UInt64))) .g) then
(z_onV (va_rf (z_r S v0 72)) fun b24 =>
j_X12_hear1_193 k_2 v0 v1 b24 (((4 : Int32)) * v1) ((0 : Int32)) S)
else
(z_onV (va_rf (z_r S v0 72)) fun b25 =>
j_X12_hear1_193 k_2 v0 v1 b25 (((4 : Int32)) * v1) ((1 : Int32)) S))))))))
def l_X12_hear1_10 (k_2 : Nat → Int32 → z_St → Option z_St) : Nat → Nat → Int32 → Int32 → z_St → Option z_St
  | 0 => fun _ _ _ _ => none
  | n + 1 => fun (v0 : Nat) (v1 : Int32) (v2 : Int32) (S : z_St) =>
if v2 ≤ 0 then
(z_chk S v0 13 (
z_chk S v0 13 (
z_onV (va_rf (z_r S v0 73)) fun b1 =>
z_inb S b1 104 v1 (
z_onV (va_rf (z_r S v0 70)) fun b2 =>
z_inb S b2 104 (((4 : Int32)) * v1) (
let S3 := z_wi S b2 (((4 : Int32)) * v1).toNatClampNeg (vp_nar .boolean ((z_i S b1 v1.toNatClampNeg)))
z_chk S3 v0 13 (
z_chk S3 v0 13 (
z_onV (va_rf (z_r S3 v0 74)) fun b4 =>
z_inb S3 b4 102 v1 (
z_onV (va_rf (z_r S3 v0 71)) fun b5 =>
z_inb S3 b5 102 (((4 : Int32)) * v1) (
let S6 := z_wl S3 b5 (((4 : Int32)) * v1).toNatClampNeg ((z_l S3 b4 v1.toNatClampNeg))
z_chk S6 v0 13 (
if ((z_i S6 v0 62)) ≤ 0 then
(j_X12_hear1_148 k_2 v0 v1 FP.dconst0 S6)
else
(z_chk S6 v0 13 (
z_onV (va_rf (z_r S6 v0 73)) fun b7 =>
z_inb S6 b7 104 v1 (
if ((z_i S6 b7 v1.toNatClampNeg)) = 0 then
(j_X12_hear1_148 k_2 v0 v1 FP.dconst0 S6)
else
(z_chk S6 v0 13 (
z_onV (va_rf (z_r S6 v0 74)) fun b8 =>
z_inb S6 b8 102 v1 (
(f_X12_realOf ((z_l S6 b8 v1.toNatClampNeg)) S6).bind fun q9 =>
z_chk q9.2 v0 13 (
z_nn (FP.dsub q9.1 ((z_d q9.2 v0 64))) (
j_X12_hear1_148 k_2 v0 v1 (FP.dsub q9.1 ((z_d q9.2 v0 64))) q9.2))))))))))))))))))
else
(z_chk S v0 13 (
z_chk S v0 13 (
z_onV (va_rf (z_r S v0 70)) fun b10 =>
z_inb S b10 104 (((((4 : Int32)) * v1) + v2) - ((1 : Int32))) (
z_onV (va_rf (z_r S v0 70)) fun b11 =>
z_inb S b11 104 ((((4 : Int32)) * v1) + v2) (
let S12 := z_wi S b11 ((((4 : Int32)) * v1) + v2).toNatClampNeg (vp_nar .boolean ((z_i S b10 (((((4 : Int32)) * v1) + v2) - ((1 : Int32))).toNatClampNeg)))
z_chk S12 v0 13 (
z_chk S12 v0 13 (
z_onV (va_rf (z_r S12 v0 71)) fun b13 =>
z_inb S12 b13 102 (((((4 : Int32)) * v1) + v2) - ((1 : Int32))) (
z_onV (va_rf (z_r S12 v0 71)) fun b14 =>
z_inb S12 b14 102 ((((4 : Int32)) * v1) + v2) (
let S15 := z_wl S12 b14 ((((4 : Int32)) * v1) + v2).toNatClampNeg ((z_l S12 b13 (((((4 : Int32)) * v1) + v2) - ((1 : Int32))).toNatClampNeg))
z_chk S15 v0 13 (
z_chk S15 v0 13 (
z_onV (va_rf (z_r S15 v0 72)) fun b16 =>
z_inb S15 b16 104 (((((4 : Int32)) * v1) + v2) - ((1 : Int32))) (
z_onV (va_rf (z_r S15 v0 72)) fun b17 =>
z_inb S15 b17 104 ((((4 : Int32)) * v1) + v2) (
let S18 := z_wi S15 b17 ((((4 : Int32)) * v1) + v2).toNatClampNeg (vp_nar .boolean ((z_i S15 b16 (((((4 : Int32)) * v1) + v2) - ((1 : Int32))).toNatClampNeg)))
let x19 := v2 + (-1 : Int32)
l_X12_hear1_10 k_2 n v0 v1 x19 S18)))))))))))))
def l_X12_hear1_2 : Nat → Nat → Int32 → z_St → Option z_St
  | 0 => fun _ _ _ => none
  | n + 1 => fun (v0 : Nat) (v1 : Int32) (S : z_St) =>
if ((6 : Int32)) ≤ v1 then
(some S)
else
(l_X12_hear1_10 (l_X12_hear1_2 n) z_N v0 v1 ((3 : Int32)) S)
def b_X12_hear1 (v0 : Nat) (S : z_St) : Option z_St :=
l_X12_hear1_2 z_N v0 ((0 : Int32)) S
def f_X12_hear1 : Nat → z_St → Option z_St := z_op (b_X12_hear1)
theorem e_X12_hear1 (v0 : Nat) (S : z_St) : f_X12_hear1 v0 S = b_X12_hear1 v0 S := congrFun (congrFun (z_op_eq (b_X12_hear1)) v0) S
def g_X12_hear1 : z_G := .inr (.inr (.inr (fun as S => match as with
  | [.ref v0] => f_X12_hear1 v0 S
  | _ => none)))
def c_X12_hear1 : List z_E := [
  (0, .iconst 0, 1, .int ((0 : Int32)), [], z_g0),
  (1, .istore_n 1, 1, .null, [], z_g0),
  (2, .iload_n 1, 1, .null, [], z_g0),
  (3, .bipush 6, 2, .int ((6 : Int32)), [], z_g0),
  (5, .if_icmp .ge 202, 3, .null, [207], z_g0),
  (8, .iconst 3, 1, .int ((3 : Int32)), [], z_g0),
  (9, .istore_n 2, 1, .null, [], z_g0),
  (10, .iload_n 2, 1, .null, [], z_g0),
  (11, .ifCond .le 75, 3, .null, [86], z_g0),
  (14, .aload_n 0, 1, .null, [], z_g0),
  (15, .getfield 151, 3, .null, [13, 70, 3], z_g0),
  (18, .iconst 4, 1, .int ((4 : Int32)), [], z_g0),
  (19, .iload_n 1, 1, .null, [], z_g0),
  (20, .imul, 1, .null, [], z_g0),
  (21, .iload_n 2, 1, .null, [], z_g0),
  (22, .iadd, 1, .null, [], z_g0),
  (23, .aload_n 0, 1, .null, [], z_g0),
  (24, .getfield 151, 3, .null, [13, 70, 3], z_g0),
  (27, .iconst 4, 1, .int ((4 : Int32)), [], z_g0),
  (28, .iload_n 1, 1, .null, [], z_g0),
  (29, .imul, 1, .null, [], z_g0),
  (30, .iload_n 2, 1, .null, [], z_g0),
  (31, .iadd, 1, .null, [], z_g0),
  (32, .iconst 1, 1, .int ((1 : Int32)), [], z_g0),
  (33, .isub, 1, .null, [], z_g0),
  (34, .baload, 1, .null, [104], z_g0),
  (35, .bastore, 1, .null, [104], z_g0),
  (36, .aload_n 0, 1, .null, [], z_g0),
  (37, .getfield 154, 3, .null, [13, 71, 3], z_g0),
  (40, .iconst 4, 1, .int ((4 : Int32)), [], z_g0),
  (41, .iload_n 1, 1, .null, [], z_g0),
  (42, .imul, 1, .null, [], z_g0),
  (43, .iload_n 2, 1, .null, [], z_g0),
  (44, .iadd, 1, .null, [], z_g0),
  (45, .aload_n 0, 1, .null, [], z_g0),
  (46, .getfield 154, 3, .null, [13, 71, 3], z_g0),
  (49, .iconst 4, 1, .int ((4 : Int32)), [], z_g0),
  (50, .iload_n 1, 1, .null, [], z_g0),
  (51, .imul, 1, .null, [], z_g0),
  (52, .iload_n 2, 1, .null, [], z_g0),
  (53, .iadd, 1, .null, [], z_g0),
  (54, .iconst 1, 1, .int ((1 : Int32)), [], z_g0),
  (55, .isub, 1, .null, [], z_g0),
  (56, .laload, 1, .null, [], z_g0),
  (57, .lastore, 1, .null, [], z_g0),
  (58, .aload_n 0, 1, .null, [], z_g0),
  (59, .getfield 157, 3, .null, [13, 72, 3], z_g0),
  (62, .iconst 4, 1, .int ((4 : Int32)), [], z_g0),
  (63, .iload_n 1, 1, .null, [], z_g0),
  (64, .imul, 1, .null, [], z_g0),
  (65, .iload_n 2, 1, .null, [], z_g0),
  (66, .iadd, 1, .null, [], z_g0),
  (67, .aload_n 0, 1, .null, [], z_g0),
  (68, .getfield 157, 3, .null, [13, 72, 3], z_g0),
  (71, .iconst 4, 1, .int ((4 : Int32)), [], z_g0),
  (72, .iload_n 1, 1, .null, [], z_g0),
  (73, .imul, 1, .null, [], z_g0),
  (74, .iload_n 2, 1, .null, [], z_g0),
  (75, .iadd, 1, .null, [], z_g0),
  (76, .iconst 1, 1, .int ((1 : Int32)), [], z_g0),
  (77, .isub, 1, .null, [], z_g0),
  (78, .baload, 1, .null, [104], z_g0),
  (79, .bastore, 1, .null, [104], z_g0),
  (80, .iinc 2 (-1), 3, .int (-1 : Int32), [], z_g0),
  (83, .goto (-73), 3, .null, [10], z_g0),
  (86, .aload_n 0, 1, .null, [], z_g0),
  (87, .getfield 151, 3, .null, [13, 70, 3], z_g0),
  (90, .iconst 4, 1, .int ((4 : Int32)), [], z_g0),
  (91, .iload_n 1, 1, .null, [], z_g0),
  (92, .imul, 1, .null, [], z_g0),
  (93, .aload_n 0, 1, .null, [], z_g0),
  (94, .getfield 160, 3, .null, [13, 73, 3], z_g0),
  (97, .iload_n 1, 1, .null, [], z_g0),
  (98, .baload, 1, .null, [104], z_g0),
  (99, .bastore, 1, .null, [104], z_g0),
  (100, .aload_n 0, 1, .null, [], z_g0),
  (101, .getfield 154, 3, .null, [13, 71, 3], z_g0),
  (104, .iconst 4, 1, .int ((4 : Int32)), [], z_g0),
  (105, .iload_n 1, 1, .null, [], z_g0),
  (106, .imul, 1, .null, [], z_g0),
  (107, .aload_n 0, 1, .null, [], z_g0),
  (108, .getfield 163, 3, .null, [13, 74, 3], z_g0),
  (111, .iload_n 1, 1, .null, [], z_g0),
  (112, .laload, 1, .null, [], z_g0),
  (113, .lastore, 1, .null, [], z_g0),
  (114, .aload_n 0, 1, .null, [], z_g0),
  (115, .getfield 533, 3, .null, [13, 62, 0], z_g0),
  (118, .ifCond .le 29, 3, .null, [147], z_g0),
  (121, .aload_n 0, 1, .null, [], z_g0),
  (122, .getfield 160, 3, .null, [13, 73, 3], z_g0),
  (125, .iload_n 1, 1, .null, [], z_g0),
  (126, .baload, 1, .null, [104], z_g0),
  (127, .ifCond .eq 20, 3, .null, [147], z_g0),
  (130, .aload_n 0, 1, .null, [], z_g0),
  (131, .getfield 163, 3, .null, [13, 74, 3], z_g0),
  (134, .iload_n 1, 1, .null, [], z_g0),
  (135, .laload, 1, .null, [], z_g0),
  (136, .invokestatic 262, 3, .null, [0, 0], g_X12_realOf),
  (139, .aload_n 0, 1, .null, [], z_g0),
  (140, .getfield 133, 3, .null, [13, 64, 2], z_g0),
  (143, .dsub, 1, .null, [], z_g0),
  (144, .goto 4, 3, .null, [148], z_g0),
  (147, .dconst 0, 1, .double FP.dconst0, [], z_g0),
  (148, .dstore_n 2, 1, .null, [], z_g0),
  (149, .aload_n 0, 1, .null, [], z_g0),
  (150, .getfield 157, 3, .null, [13, 72, 3], z_g0),
  (153, .iconst 4, 1, .int ((4 : Int32)), [], z_g0),
  (154, .iload_n 1, 1, .null, [], z_g0),
  (155, .imul, 1, .null, [], z_g0),
  (156, .aload_n 0, 1, .null, [], z_g0),
  (157, .getfield 533, 3, .null, [13, 62, 0], z_g0),
  (160, .ifCond .le 32, 3, .null, [192], z_g0),
  (163, .aload_n 0, 1, .null, [], z_g0),
  (164, .getfield 160, 3, .null, [13, 73, 3], z_g0),
  (167, .iload_n 1, 1, .null, [], z_g0),
  (168, .baload, 1, .null, [104], z_g0),
  (169, .ifCond .eq 23, 3, .null, [192], z_g0),
  (172, .dload_n 2, 1, .null, [], z_g0),
  (173, .ldc2_w 536, 3, .double (4602678819172646912 : UInt64), [], z_g0),
  (176, .dcmp .l, 1, .null, [], z_g0),
  (177, .ifCond .gt 11, 3, .null, [188], z_g0),
  (180, .dload_n 2, 1, .null, [], z_g0),
  (181, .ldc2_w 538, 3, .double (13826050856027422720 : UInt64), [], z_g0),
  (184, .dcmp .g, 1, .null, [], z_g0),
  (185, .ifCond .ge 7, 3, .null, [192], z_g0),
  (188, .iconst 1, 1, .int ((1 : Int32)), [], z_g0),
  (189, .goto 4, 3, .null, [193], z_g0),
  (192, .iconst 0, 1, .int ((0 : Int32)), [], z_g0),
  (193, .bastore, 1, .null, [104], z_g0),
  (194, .aload_n 0, 1, .null, [], z_g0),
  (195, .getfield 160, 3, .null, [13, 73, 3], z_g0),
  (198, .iload_n 1, 1, .null, [], z_g0),
  (199, .iconst 0, 1, .int ((0 : Int32)), [], z_g0),
  (200, .bastore, 1, .null, [104], z_g0),
  (201, .iinc 1 1, 3, .int (1 : Int32), [], z_g0),
  (204, .goto (-202), 3, .null, [2], z_g0),
  (207, .return_, 1, .null, [], z_g0)]
def a_X12_hear1_2 {ρ : Type} (k : Nat → Int32 → z_St → Option ρ) (ls : z_Lv) (st : List Value) (S : z_St) : Option ρ := z_gR ls 0 fun v0 => z_gI ls 1 fun v1 => z_p0 st (k v0 v1 S)
def a_X12_hear1_10 {ρ : Type} (k : Nat → Int32 → Int32 → z_St → Option ρ) (ls : z_Lv) (st : List Value) (S : z_St) : Option ρ := z_gR ls 0 fun v0 => z_gI ls 1 fun v1 => z_gI ls 2 fun v2 => z_p0 st (k v0 v1 v2 S)
def a_X12_hear1_148 {ρ : Type} (k : Nat → Int32 → UInt64 → z_St → Option ρ) (ls : z_Lv) (st : List Value) (S : z_St) : Option ρ := z_gR ls 0 fun v0 => z_gI ls 1 fun v1 => z_pD st fun t0 s0 => z_p0 s0 (k v0 v1 t0 S)
def a_X12_hear1_193 {ρ : Type} (k : Nat → Int32 → Nat → Int32 → Int32 → z_St → Option ρ) (ls : z_Lv) (st : List Value) (S : z_St) : Option ρ := z_gR ls 0 fun v0 => z_gI ls 1 fun v1 => z_pI st fun t2 s2 => z_pI s2 fun t1 s1 => z_pR s1 fun t0 s0 => z_p0 s0 (k v0 v1 t0 t1 t2 S)
set_option maxRecDepth 100000 in
theorem r_X12_hear1_193 (k_2 : Nat → Int32 → z_St → Option z_St) (v0 : Nat) (v1 : Int32) (t0 : Nat) (t1 : Int32) (t2 : Int32) (S : z_St) : z_seg z_rV (c_X12_hear1) [2, 10, 148, 193] (fun pc => cond (Nat.beq pc 2) (a_X12_hear1_2 k_2) (fun _ _ _ => none)) 140 (z_to 193 (c_X12_hear1)) [(0, .ref v0), (1, .int v1)] [.int t2, .int t1, .ref t0] S = j_X12_hear1_193 k_2 v0 v1 t0 t1 t2 S := rfl
set_option maxRecDepth 100000 in
theorem r_X12_hear1_148 (k_2 : Nat → Int32 → z_St → Option z_St) (v0 : Nat) (v1 : Int32) (t0 : UInt64) (S : z_St) : z_seg z_rV (c_X12_hear1) [2, 10, 148, 193] (fun pc => cond (Nat.beq pc 193) (a_X12_hear1_193 (j_X12_hear1_193 k_2)) (fun _ _ _ => none)) 140 (z_to 148 (c_X12_hear1)) [(0, .ref v0), (1, .int v1)] [.double t0] S = j_X12_hear1_148 k_2 v0 v1 t0 S := rfl
set_option maxRecDepth 100000 in
theorem r_X12_hear1_10 (k_2 : Nat → Int32 → z_St → Option z_St) (n : Nat) (v0 : Nat) (v1 : Int32) (v2 : Int32) (S : z_St) : z_seg z_rV (c_X12_hear1) [2, 10, 148, 193] (fun pc => cond (Nat.beq pc 10) (a_X12_hear1_10 (l_X12_hear1_10 k_2 n)) (cond (Nat.beq pc 148) (a_X12_hear1_148 (j_X12_hear1_148 k_2)) (fun _ _ _ => none))) 140 (z_to 10 (c_X12_hear1)) [(0, .ref v0), (1, .int v1), (2, .int v2)] [] S = l_X12_hear1_10 k_2 (n + 1) v0 v1 v2 S := rfl
set_option maxRecDepth 100000 in
theorem r_X12_hear1_2 (n : Nat) (v0 : Nat) (v1 : Int32) (S : z_St) : z_seg z_rV (c_X12_hear1) [2, 10, 148, 193] (fun pc => cond (Nat.beq pc 10) (a_X12_hear1_10 (l_X12_hear1_10 (l_X12_hear1_2 n) z_N)) (fun _ _ _ => none)) 140 (z_to 2 (c_X12_hear1)) [(0, .ref v0), (1, .int v1)] [] S = l_X12_hear1_2 (n + 1) v0 v1 S := rfl
set_option maxRecDepth 100000 in
theorem r_X12_hear1 (v0 : Nat) (S : z_St) : z_seg z_rV (c_X12_hear1) [2, 10, 148, 193] (fun pc => cond (Nat.beq pc 2) (a_X12_hear1_2 (l_X12_hear1_2 z_N)) (fun _ _ _ => none)) 140 (c_X12_hear1) [(0, .ref v0)] [] S = b_X12_hear1 v0 S := rfl
def j_X12_voice_175 (k_4 : Nat → Int32 → Int32 → z_St → Option (UInt64 × z_St)) (v0 : Nat) (v1 : Int32) (v2 : Int32) (v4 : UInt64) (v6 : Int32) (S : z_St) : Option (UInt64 × z_St) :=
z_chk S v0 13 (
z_onV (va_rf (z_r S v0 78)) fun b22 =>
z_inb S b22 103 v6 (
let S23 := z_wd S b22 v6.toNatClampNeg v4
let x24 := v1 + (1 : Int32)
let x25 := v2 + (1 : Int32)
k_4 v0 x24 x25 S23))
def l_X12_voice_133 (k_4 : Nat → Int32 → Int32 → z_St → Option (UInt64 × z_St)) : Nat → Nat → Int32 → Int32 → UInt64 → Int32 → z_St → Option (UInt64 × z_St)
  | 0 => fun _ _ _ _ _ _ => none
  | n + 1 => fun (v0 : Nat) (v1 : Int32) (v2 : Int32) (v4 : UInt64) (v6 : Int32) (S : z_St) =>
if v6 ≤ 0 then
(j_X12_voice_175 k_4 v0 v1 v2 v4 v6 S)
else
(z_chk S v0 13 (
z_onV (va_rf (z_r S v0 78)) fun b17 =>
z_inb S b17 103 (v6 - ((1 : Int32))) (
if 0 ≤ (Op.cmpValue (FP.dcmp v4 ((z_d S b17 (v6 - ((1 : Int32))).toNatClampNeg))) .g) then
(j_X12_voice_175 k_4 v0 v1 v2 v4 v6 S)
else
(z_chk S v0 13 (
z_chk S v0 13 (
z_onV (va_rf (z_r S v0 78)) fun b18 =>
z_inb S b18 103 (v6 - ((1 : Int32))) (
z_onV (va_rf (z_r S v0 78)) fun b19 =>
z_inb S b19 103 v6 (
let S20 := z_wd S b19 v6.toNatClampNeg ((z_d S b18 (v6 - ((1 : Int32))).toNatClampNeg))
let x21 := v6 + (-1 : Int32)
l_X12_voice_133 k_4 n v0 v1 v2 v4 x21 S20))))))))
def j_X12_voice_107 (k_4 : Nat → Int32 → Int32 → z_St → Option (UInt64 × z_St)) (v0 : Nat) (v1 : Int32) (v2 : Int32) (t0 : Nat) (t1 : Int32) (t2 : Int32) (S : z_St) : Option (UInt64 × z_St) :=
z_inb S t0 101 t1 (
let S12 := z_wi S t0 t1.toNatClampNeg t2
z_chk S12 v0 13 (
z_onV (va_rf (z_r S12 v0 77)) fun b13 =>
z_inb S12 b13 101 v2 (
if ((z_i S12 b13 v2.toNatClampNeg)) = 0 then
(z_chk S12 v0 13 (
z_onV (va_rf (z_r S12 v0 71)) fun b15 =>
z_inb S12 b15 102 (((4 : Int32)) * v2) (
(f_X12_realOf ((z_l S12 b15 (((4 : Int32)) * v2).toNatClampNeg)) S12).bind fun q16 =>
l_X12_voice_133 k_4 z_N v0 v1 v2 q16.1 v1 q16.2)))
else
(let x14 := v2 + (1 : Int32)
k_4 v0 v1 x14 S12))))
def j_X12_voice_65 (k_4 : Nat → Int32 → Int32 → z_St → Option (UInt64 × z_St)) (v0 : Nat) (v1 : Int32) (v2 : Int32) (t0 : Int32) (S : z_St) : Option (UInt64 × z_St) :=
z_chk S v0 13 (
z_chk S v0 13 (
z_onV (va_rf (z_r S v0 70)) fun b6 =>
z_inb S b6 104 (((4 : Int32)) * v2) (
if ((z_i S b6 (((4 : Int32)) * v2).toNatClampNeg)) = 0 then
(z_onV (va_rf (z_r S v0 77)) fun b11 =>
j_X12_voice_107 k_4 v0 v1 v2 b11 v2 ((1 : Int32)) S)
else
(z_chk S v0 13 (
(f_X12_hangsAt v0 v2 S).bind fun q7 =>
if q7.1 = 0 then
(if t0 = 0 then
(z_onV (va_rf (z_r S v0 77)) fun b8 =>
j_X12_voice_107 k_4 v0 v1 v2 b8 v2 ((0 : Int32)) q7.2)
else
(z_onV (va_rf (z_r S v0 77)) fun b9 =>
j_X12_voice_107 k_4 v0 v1 v2 b9 v2 ((3 : Int32)) q7.2))
else
(z_onV (va_rf (z_r S v0 77)) fun b10 =>
j_X12_voice_107 k_4 v0 v1 v2 b10 v2 ((2 : Int32)) q7.2))))))
def l_X12_voice_4 : Nat → Nat → Int32 → Int32 → z_St → Option (UInt64 × z_St)
  | 0 => fun _ _ _ _ => none
  | n + 1 => fun (v0 : Nat) (v1 : Int32) (v2 : Int32) (S : z_St) =>
if ((6 : Int32)) ≤ v2 then
(if v1 = 0 then
(some ((9221120237041090560 : UInt64), S))
else
(z_chk S v0 13 (
z_nz ((2 : Int32)) (
z_onV (va_rf (z_r S v0 78)) fun b1 =>
z_inb S b1 103 ((v1 - ((1 : Int32))) / ((2 : Int32))) (
some ((z_d S b1 ((v1 - ((1 : Int32))) / ((2 : Int32))).toNatClampNeg), S))))))
else
(z_chk S v0 13 (
z_onV (va_rf (z_r S v0 72)) fun b2 =>
z_inb S b2 104 (((4 : Int32)) * v2) (
if ((z_i S b2 (((4 : Int32)) * v2).toNatClampNeg)) = 0 then
(j_X12_voice_65 (l_X12_voice_4 n) v0 v1 v2 ((0 : Int32)) S)
else
(z_chk S v0 13 (
z_onV (va_rf (z_r S v0 72)) fun b3 =>
z_inb S b3 104 ((((4 : Int32)) * v2) + ((1 : Int32))) (
if ((z_i S b3 ((((4 : Int32)) * v2) + ((1 : Int32))).toNatClampNeg)) = 0 then
(j_X12_voice_65 (l_X12_voice_4 n) v0 v1 v2 ((1 : Int32)) S)
else
(z_chk S v0 13 (
z_onV (va_rf (z_r S v0 72)) fun b4 =>
z_inb S b4 104 ((((4 : Int32)) * v2) + ((2 : Int32))) (
if ((z_i S b4 ((((4 : Int32)) * v2) + ((2 : Int32))).toNatClampNeg)) = 0 then
(j_X12_voice_65 (l_X12_voice_4 n) v0 v1 v2 ((1 : Int32)) S)
else
(z_chk S v0 13 (
z_onV (va_rf (z_r S v0 72)) fun b5 =>
z_inb S b5 104 ((((4 : Int32)) * v2) + ((3 : Int32))) (
if ((z_i S b5 ((((4 : Int32)) * v2) + ((3 : Int32))).toNatClampNeg)) = 0 then
(j_X12_voice_65 (l_X12_voice_4 n) v0 v1 v2 ((1 : Int32)) S)
else
(j_X12_voice_65 (l_X12_voice_4 n) v0 v1 v2 ((0 : Int32)) S)))))))))))))
def b_X12_voice (v0 : Nat) (S : z_St) : Option (UInt64 × z_St) :=
l_X12_voice_4 z_N v0 ((0 : Int32)) ((0 : Int32)) S
def f_X12_voice : Nat → z_St → Option (UInt64 × z_St) := z_op (b_X12_voice)
theorem e_X12_voice (v0 : Nat) (S : z_St) : f_X12_voice v0 S = b_X12_voice v0 S := congrFun (congrFun (z_op_eq (b_X12_voice)) v0) S
def g_X12_voice : z_G := .inr (.inr (.inl (fun as S => match as with
  | [.ref v0] => f_X12_voice v0 S
  | _ => none)))
def c_X12_voice : List z_E := [
  (0, .iconst 0, 1, .int ((0 : Int32)), [], z_g0),
  (1, .istore_n 1, 1, .null, [], z_g0),
  (2, .iconst 0, 1, .int ((0 : Int32)), [], z_g0),
  (3, .istore_n 2, 1, .null, [], z_g0),
  (4, .iload_n 2, 1, .null, [], z_g0),
  (5, .bipush 6, 2, .int ((6 : Int32)), [], z_g0),
  (7, .if_icmp .ge 186, 3, .null, [193], z_g0),
  (10, .aload_n 0, 1, .null, [], z_g0),
  (11, .getfield 157, 3, .null, [13, 72, 3], z_g0),
  (14, .iconst 4, 1, .int ((4 : Int32)), [], z_g0),
  (15, .iload_n 2, 1, .null, [], z_g0),
  (16, .imul, 1, .null, [], z_g0),
  (17, .baload, 1, .null, [104], z_g0),
  (18, .ifCond .eq 46, 3, .null, [64], z_g0),
  (21, .aload_n 0, 1, .null, [], z_g0),
  (22, .getfield 157, 3, .null, [13, 72, 3], z_g0),
  (25, .iconst 4, 1, .int ((4 : Int32)), [], z_g0),
  (26, .iload_n 2, 1, .null, [], z_g0),
  (27, .imul, 1, .null, [], z_g0),
  (28, .iconst 1, 1, .int ((1 : Int32)), [], z_g0),
  (29, .iadd, 1, .null, [], z_g0),
  (30, .baload, 1, .null, [104], z_g0),
  (31, .ifCond .eq 29, 3, .null, [60], z_g0),
  (34, .aload_n 0, 1, .null, [], z_g0),
  (35, .getfield 157, 3, .null, [13, 72, 3], z_g0),
  (38, .iconst 4, 1, .int ((4 : Int32)), [], z_g0),
  (39, .iload_n 2, 1, .null, [], z_g0),
  (40, .imul, 1, .null, [], z_g0),
  (41, .iconst 2, 1, .int ((2 : Int32)), [], z_g0),
  (42, .iadd, 1, .null, [], z_g0),
  (43, .baload, 1, .null, [104], z_g0),
  (44, .ifCond .eq 16, 3, .null, [60], z_g0),
  (47, .aload_n 0, 1, .null, [], z_g0),
  (48, .getfield 157, 3, .null, [13, 72, 3], z_g0),
  (51, .iconst 4, 1, .int ((4 : Int32)), [], z_g0),
  (52, .iload_n 2, 1, .null, [], z_g0),
  (53, .imul, 1, .null, [], z_g0),
  (54, .iconst 3, 1, .int ((3 : Int32)), [], z_g0),
  (55, .iadd, 1, .null, [], z_g0),
  (56, .baload, 1, .null, [104], z_g0),
  (57, .ifCond .ne 7, 3, .null, [64], z_g0),
  (60, .iconst 1, 1, .int ((1 : Int32)), [], z_g0),
  (61, .goto 4, 3, .null, [65], z_g0),
  (64, .iconst 0, 1, .int ((0 : Int32)), [], z_g0),
  (65, .istore_n 3, 1, .null, [], z_g0),
  (66, .aload_n 0, 1, .null, [], z_g0),
  (67, .getfield 166, 3, .null, [13, 77, 3], z_g0),
  (70, .iload_n 2, 1, .null, [], z_g0),
  (71, .aload_n 0, 1, .null, [], z_g0),
  (72, .getfield 151, 3, .null, [13, 70, 3], z_g0),
  (75, .iconst 4, 1, .int ((4 : Int32)), [], z_g0),
  (76, .iload_n 2, 1, .null, [], z_g0),
  (77, .imul, 1, .null, [], z_g0),
  (78, .baload, 1, .null, [104], z_g0),
  (79, .ifCond .ne 7, 3, .null, [86], z_g0),
  (82, .iconst 1, 1, .int ((1 : Int32)), [], z_g0),
  (83, .goto 24, 3, .null, [107], z_g0),
  (86, .aload_n 0, 1, .null, [], z_g0),
  (87, .iload_n 2, 1, .null, [], z_g0),
  (88, .invokevirtual 540, 3, .null, [1, 13, 0], g_X12_hangsAt),
  (91, .ifCond .eq 7, 3, .null, [98], z_g0),
  (94, .iconst 2, 1, .int ((2 : Int32)), [], z_g0),
  (95, .goto 12, 3, .null, [107], z_g0),
  (98, .iload_n 3, 1, .null, [], z_g0),
  (99, .ifCond .eq 7, 3, .null, [106], z_g0),
  (102, .iconst 3, 1, .int ((3 : Int32)), [], z_g0),
  (103, .goto 4, 3, .null, [107], z_g0),
  (106, .iconst 0, 1, .int ((0 : Int32)), [], z_g0),
  (107, .iastore, 1, .null, [], z_g0),
  (108, .aload_n 0, 1, .null, [], z_g0),
  (109, .getfield 166, 3, .null, [13, 77, 3], z_g0),
  (112, .iload_n 2, 1, .null, [], z_g0),
  (113, .iaload, 1, .null, [101], z_g0),
  (114, .ifCond .ne 73, 3, .null, [187], z_g0),
  (117, .aload_n 0, 1, .null, [], z_g0),
  (118, .getfield 154, 3, .null, [13, 71, 3], z_g0),
  (121, .iconst 4, 1, .int ((4 : Int32)), [], z_g0),
  (122, .iload_n 2, 1, .null, [], z_g0),
  (123, .imul, 1, .null, [], z_g0),
  (124, .laload, 1, .null, [], z_g0),
  (125, .invokestatic 262, 3, .null, [0, 0], g_X12_realOf),
  (128, .dstore 4, 2, .null, [], z_g0),
  (130, .iload_n 1, 1, .null, [], z_g0),
  (131, .istore 6, 2, .null, [], z_g0),
  (133, .iload 6, 2, .null, [], z_g0),
  (135, .ifCond .le 40, 3, .null, [175], z_g0),
  (138, .dload 4, 2, .null, [], z_g0),
  (140, .aload_n 0, 1, .null, [], z_g0),
  (141, .getfield 169, 3, .null, [13, 78, 3], z_g0),
  (144, .iload 6, 2, .null, [], z_g0),
  (146, .iconst 1, 1, .int ((1 : Int32)), [], z_g0),
  (147, .isub, 1, .null, [], z_g0),
  (148, .daload, 1, .null, [], z_g0),
  (149, .dcmp .g, 1, .null, [], z_g0),
  (150, .ifCond .ge 25, 3, .null, [175], z_g0),
  (153, .aload_n 0, 1, .null, [], z_g0),
  (154, .getfield 169, 3, .null, [13, 78, 3], z_g0),
  (157, .iload 6, 2, .null, [], z_g0),
  (159, .aload_n 0, 1, .null, [], z_g0),
  (160, .getfield 169, 3, .null, [13, 78, 3], z_g0),
  (163, .iload 6, 2, .null, [], z_g0),
  (165, .iconst 1, 1, .int ((1 : Int32)), [], z_g0),
  (166, .isub, 1, .null, [], z_g0),
  (167, .daload, 1, .null, [], z_g0),
  (168, .dastore, 1, .null, [], z_g0),
  (169, .iinc 6 (-1), 3, .int (-1 : Int32), [], z_g0),
  (172, .goto (-39), 3, .null, [133], z_g0),
  (175, .aload_n 0, 1, .null, [], z_g0),
  (176, .getfield 169, 3, .null, [13, 78, 3], z_g0),
  (179, .iload 6, 2, .null, [], z_g0),
  (181, .dload 4, 2, .null, [], z_g0),
  (183, .dastore, 1, .null, [], z_g0),
  (184, .iinc 1 1, 3, .int (1 : Int32), [], z_g0),
  (187, .iinc 2 1, 3, .int (1 : Int32), [], z_g0),
  (190, .goto (-186), 3, .null, [4], z_g0),
  (193, .iload_n 1, 1, .null, [], z_g0),
  (194, .ifCond .ne 9, 3, .null, [203], z_g0),
  (197, .ldc2_w 131, 3, .double (9221120237041090560 : UInt64), [], z_g0),
  (200, .goto 13, 3, .null, [213], z_g0),
  (203, .aload_n 0, 1, .null, [], z_g0),
  (204, .getfield 169, 3, .null, [13, 78, 3], z_g0),
  (207, .iload_n 1, 1, .null, [], z_g0),
  (208, .iconst 1, 1, .int ((1 : Int32)), [], z_g0),
  (209, .isub, 1, .null, [], z_g0),
  (210, .iconst 2, 1, .int ((2 : Int32)), [], z_g0),
  (211, .idiv, 1, .null, [], z_g0),
  (212, .daload, 1, .null, [], z_g0),
  (213, .dreturn, 1, .null, [], z_g0)]
def a_X12_voice_4 {ρ : Type} (k : Nat → Int32 → Int32 → z_St → Option ρ) (ls : z_Lv) (st : List Value) (S : z_St) : Option ρ := z_gR ls 0 fun v0 => z_gI ls 1 fun v1 => z_gI ls 2 fun v2 => z_p0 st (k v0 v1 v2 S)
def a_X12_voice_65 {ρ : Type} (k : Nat → Int32 → Int32 → Int32 → z_St → Option ρ) (ls : z_Lv) (st : List Value) (S : z_St) : Option ρ := z_gR ls 0 fun v0 => z_gI ls 1 fun v1 => z_gI ls 2 fun v2 => z_pI st fun t0 s0 => z_p0 s0 (k v0 v1 v2 t0 S)
def a_X12_voice_107 {ρ : Type} (k : Nat → Int32 → Int32 → Nat → Int32 → Int32 → z_St → Option ρ) (ls : z_Lv) (st : List Value) (S : z_St) : Option ρ := z_gR ls 0 fun v0 => z_gI ls 1 fun v1 => z_gI ls 2 fun v2 => z_pI st fun t2 s2 => z_pI s2 fun t1 s1 => z_pR s1 fun t0 s0 => z_p0 s0 (k v0 v1 v2 t0 t1 t2 S)
def a_X12_voice_133 {ρ : Type} (k : Nat → Int32 → Int32 → UInt64 → Int32 → z_St → Option ρ) (ls : z_Lv) (st : List Value) (S : z_St) : Option ρ := z_gR ls 0 fun v0 => z_gI ls 1 fun v1 => z_gI ls 2 fun v2 => z_gD ls 4 fun v4 => z_gI ls 6 fun v6 => z_p0 st (k v0 v1 v2 v4 v6 S)
def a_X12_voice_175 {ρ : Type} (k : Nat → Int32 → Int32 → UInt64 → Int32 → z_St → Option ρ) (ls : z_Lv) (st : List Value) (S : z_St) : Option ρ := z_gR ls 0 fun v0 => z_gI ls 1 fun v1 => z_gI ls 2 fun v2 => z_gD ls 4 fun v4 => z_gI ls 6 fun v6 => z_p0 st (k v0 v1 v2 v4 v6 S)
set_option maxRecDepth 100000 in
theorem r_X12_voice_175 (k_4 : Nat → Int32 → Int32 → z_St → Option (UInt64 × z_St)) (v0 : Nat) (v1 : Int32) (v2 : Int32) (v4 : UInt64) (v6 : Int32) (S : z_St) : z_seg z_rD (c_X12_voice) [4, 65, 107, 133, 175] (fun pc => cond (Nat.beq pc 4) (a_X12_voice_4 k_4) (fun _ _ _ => none)) 131 (z_to 175 (c_X12_voice)) [(0, .ref v0), (1, .int v1), (2, .int v2), (4, .double v4), (6, .int v6)] [] S = j_X12_voice_175 k_4 v0 v1 v2 v4 v6 S := rfl
set_option maxRecDepth 100000 in
theorem r_X12_voice_133 (k_4 : Nat → Int32 → Int32 → z_St → Option (UInt64 × z_St)) (n : Nat) (v0 : Nat) (v1 : Int32) (v2 : Int32) (v4 : UInt64) (v6 : Int32) (S : z_St) : z_seg z_rD (c_X12_voice) [4, 65, 107, 133, 175] (fun pc => cond (Nat.beq pc 133) (a_X12_voice_133 (l_X12_voice_133 k_4 n)) (cond (Nat.beq pc 175) (a_X12_voice_175 (j_X12_voice_175 k_4)) (fun _ _ _ => none))) 131 (z_to 133 (c_X12_voice)) [(0, .ref v0), (1, .int v1), (2, .int v2), (4, .double v4), (6, .int v6)] [] S = l_X12_voice_133 k_4 (n + 1) v0 v1 v2 v4 v6 S := rfl
set_option maxRecDepth 100000 in
theorem r_X12_voice_107 (k_4 : Nat → Int32 → Int32 → z_St → Option (UInt64 × z_St)) (v0 : Nat) (v1 : Int32) (v2 : Int32) (t0 : Nat) (t1 : Int32) (t2 : Int32) (S : z_St) : z_seg z_rD (c_X12_voice) [4, 65, 107, 133, 175] (fun pc => cond (Nat.beq pc 4) (a_X12_voice_4 k_4) (cond (Nat.beq pc 133) (a_X12_voice_133 (l_X12_voice_133 k_4 z_N)) (fun _ _ _ => none))) 131 (z_to 107 (c_X12_voice)) [(0, .ref v0), (1, .int v1), (2, .int v2)] [.int t2, .int t1, .ref t0] S = j_X12_voice_107 k_4 v0 v1 v2 t0 t1 t2 S := rfl
set_option maxRecDepth 100000 in
theorem r_X12_voice_65 (k_4 : Nat → Int32 → Int32 → z_St → Option (UInt64 × z_St)) (v0 : Nat) (v1 : Int32) (v2 : Int32) (t0 : Int32) (S : z_St) : z_seg z_rD (c_X12_voice) [4, 65, 107, 133, 175] (fun pc => cond (Nat.beq pc 107) (a_X12_voice_107 (j_X12_voice_107 k_4)) (fun _ _ _ => none)) 131 (z_to 65 (c_X12_voice)) [(0, .ref v0), (1, .int v1), (2, .int v2)] [.int t0] S = j_X12_voice_65 k_4 v0 v1 v2 t0 S := rfl
set_option maxRecDepth 100000 in
theorem r_X12_voice_4 (n : Nat) (v0 : Nat) (v1 : Int32) (v2 : Int32) (S : z_St) : z_seg z_rD (c_X12_voice) [4, 65, 107, 133, 175] (fun pc => cond (Nat.beq pc 65) (a_X12_voice_65 (j_X12_voice_65 (l_X12_voice_4 n))) (fun _ _ _ => none)) 131 (z_to 4 (c_X12_voice)) [(0, .ref v0), (1, .int v1), (2, .int v2)] [] S = l_X12_voice_4 (n + 1) v0 v1 v2 S := rfl
set_option maxRecDepth 100000 in
theorem r_X12_voice (v0 : Nat) (S : z_St) : z_seg z_rD (c_X12_voice) [4, 65, 107, 133, 175] (fun pc => cond (Nat.beq pc 4) (a_X12_voice_4 (l_X12_voice_4 z_N)) (fun _ _ _ => none)) 131 (c_X12_voice) [(0, .ref v0)] [] S = b_X12_voice v0 S := rfl
def l_X12_nextGate_4 : Nat → Nat → Int32 → Int32 → Int32 → z_St → Option (Int32 × z_St)
  | 0 => fun _ _ _ _ _ => none
  | n + 1 => fun (v0 : Nat) (v1 : Int32) (v2 : Int32) (v3 : Int32) (S : z_St) =>
if ((4 : Int32)) ≤ v3 then
(some (v2, S))
else
(if ((v1 >>> (v3 &&& 31)) &&& ((1 : Int32))) = 0 then
(if v2 = ((-1 : Int32)) then
(let x2 := v3 + (1 : Int32)
l_X12_nextGate_4 n v0 v1 v3 x2 S)
else
(z_chk S v0 13 (
z_onV (va_rf (z_r S v0 69)) fun b3 =>
z_inb S b3 101 v3 (
z_chk S v0 13 (
z_onV (va_rf (z_r S v0 69)) fun b4 =>
z_inb S b4 101 v2 (
if ((z_i S b4 v2.toNatClampNeg)) ≤ ((z_i S b3 v3.toNatClampNeg)) then
(let x5 := v3 + (1 : Int32)
l_X12_nextGate_4 n v0 v1 v2 x5 S)
else
(let x6 := v3 + (1 : Int32)
l_X12_nextGate_4 n v0 v1 v3 x6 S)))))))
else
(let x1 := v3 + (1 : Int32)
l_X12_nextGate_4 n v0 v1 v2 x1 S))
def b_X12_nextGate (v0 : Nat) (v1 : Int32) (S : z_St) : Option (Int32 × z_St) :=
l_X12_nextGate_4 z_N v0 v1 ((-1 : Int32)) ((0 : Int32)) S
def f_X12_nextGate : Nat → Int32 → z_St → Option (Int32 × z_St) := z_op (b_X12_nextGate)
theorem e_X12_nextGate (v0 : Nat) (v1 : Int32) (S : z_St) : f_X12_nextGate v0 v1 S = b_X12_nextGate v0 v1 S := congrFun (congrFun (congrFun (z_op_eq (b_X12_nextGate)) v0) v1) S
def g_X12_nextGate : z_G := .inl (fun as S => match as with
  | [.ref v0, .int v1] => f_X12_nextGate v0 v1 S
  | _ => none)
def c_X12_nextGate : List z_E := [
  (0, .iconst (-1), 1, .int ((-1 : Int32)), [], z_g0),
  (1, .istore_n 2, 1, .null, [], z_g0),
  (2, .iconst 0, 1, .int ((0 : Int32)), [], z_g0),
  (3, .istore_n 3, 1, .null, [], z_g0),
  (4, .iload_n 3, 1, .null, [], z_g0),
  (5, .iconst 4, 1, .int ((4 : Int32)), [], z_g0),
  (6, .if_icmp .ge 43, 3, .null, [49], z_g0),
  (9, .iload_n 1, 1, .null, [], z_g0),
  (10, .iload_n 3, 1, .null, [], z_g0),
  (11, .ishr, 1, .null, [], z_g0),
  (12, .iconst 1, 1, .int ((1 : Int32)), [], z_g0),
  (13, .iand, 1, .null, [], z_g0),
  (14, .ifCond .ne 27, 3, .null, [41], z_g0),
  (17, .iload_n 2, 1, .null, [], z_g0),
  (18, .iconst (-1), 1, .int ((-1 : Int32)), [], z_g0),
  (19, .if_icmp .eq 18, 3, .null, [37], z_g0),
  (22, .aload_n 0, 1, .null, [], z_g0),
  (23, .getfield 148, 3, .null, [13, 69, 3], z_g0),
  (26, .iload_n 3, 1, .null, [], z_g0),
  (27, .iaload, 1, .null, [101], z_g0),
  (28, .aload_n 0, 1, .null, [], z_g0),
  (29, .getfield 148, 3, .null, [13, 69, 3], z_g0),
  (32, .iload_n 2, 1, .null, [], z_g0),
  (33, .iaload, 1, .null, [101], z_g0),
  (34, .if_icmp .ge 7, 3, .null, [41], z_g0),
  (37, .iload_n 3, 1, .null, [], z_g0),
  (38, .goto 4, 3, .null, [42], z_g0),
  (41, .iload_n 2, 1, .null, [], z_g0),
  (42, .istore_n 2, 1, .null, [], z_g0),
  (43, .iinc 3 1, 3, .int (1 : Int32), [], z_g0),
  (46, .goto (-42), 3, .null, [4], z_g0),
  (49, .iload_n 2, 1, .null, [], z_g0),
  (50, .ireturn, 1, .null, [], z_g0)]
def a_X12_nextGate_4 {ρ : Type} (k : Nat → Int32 → Int32 → Int32 → z_St → Option ρ) (ls : z_Lv) (st : List Value) (S : z_St) : Option ρ := z_gR ls 0 fun v0 => z_gI ls 1 fun v1 => z_gI ls 2 fun v2 => z_gI ls 3 fun v3 => z_p0 st (k v0 v1 v2 v3 S)
set_option maxRecDepth 100000 in
theorem r_X12_nextGate_4 (n : Nat) (v0 : Nat) (v1 : Int32) (v2 : Int32) (v3 : Int32) (S : z_St) : z_seg z_rI (c_X12_nextGate) [4] (fun pc => cond (Nat.beq pc 4) (a_X12_nextGate_4 (l_X12_nextGate_4 n)) (fun _ _ _ => none)) 36 (z_to 4 (c_X12_nextGate)) [(0, .ref v0), (1, .int v1), (2, .int v2), (3, .int v3)] [] S = l_X12_nextGate_4 (n + 1) v0 v1 v2 v3 S := rfl
set_option maxRecDepth 100000 in
theorem r_X12_nextGate (v0 : Nat) (v1 : Int32) (S : z_St) : z_seg z_rI (c_X12_nextGate) [4] (fun pc => cond (Nat.beq pc 4) (a_X12_nextGate_4 (l_X12_nextGate_4 z_N)) (fun _ _ _ => none)) 36 (c_X12_nextGate) [(0, .ref v0), (1, .int v1)] [] S = b_X12_nextGate v0 v1 S := rfl
def b_X12_targetOf (v0 : Nat) (v1 : UInt64) (v3 : UInt64) (S : z_St) : Option (UInt64 × z_St) :=
z_chk S v0 13 (
if ((z_i S v0 63)) < ((3 : Int32)) then
(if (Op.cmpValue (FP.dcmp v1 FP.dconst0) .l) = 0 then
(some (FP.dconst0, S))
else
(if 0 < (Op.cmpValue (FP.dcmp v3 FP.dconst0) .l) then
(z_nn (FP.ddiv v3 v1) (
let x1 := FP.ddiv v3 v1
if (Op.cmpValue (FP.dcmp x1 FP.dconst1) .l) ≤ 0 then
(some (x1, S))
else
(some (FP.dconst1, S))))
else
(some (FP.dconst0, S))))
else
(some ((4602678819172646912 : UInt64), S)))
def f_X12_targetOf : Nat → UInt64 → UInt64 → z_St → Option (UInt64 × z_St) := z_op (b_X12_targetOf)
theorem e_X12_targetOf (v0 : Nat) (v1 : UInt64) (v3 : UInt64) (S : z_St) : f_X12_targetOf v0 v1 v3 S = b_X12_targetOf v0 v1 v3 S := congrFun (congrFun (congrFun (congrFun (z_op_eq (b_X12_targetOf)) v0) v1) v3) S
def g_X12_targetOf : z_G := .inr (.inr (.inl (fun as S => match as with
  | [.ref v0, .double v1, .double v3] => f_X12_targetOf v0 v1 v3 S
  | _ => none)))
def c_X12_targetOf : List z_E := [
  (0, .aload_n 0, 1, .null, [], z_g0),
  (1, .getfield 543, 3, .null, [13, 63, 0], z_g0),
  (4, .iconst 3, 1, .int ((3 : Int32)), [], z_g0),
  (5, .if_icmp .lt 7, 3, .null, [12], z_g0),
  (8, .ldc2_w 536, 3, .double (4602678819172646912 : UInt64), [], z_g0),
  (11, .dreturn, 1, .null, [], z_g0),
  (12, .dload_n 1, 1, .null, [], z_g0),
  (13, .dconst 0, 1, .double FP.dconst0, [], z_g0),
  (14, .dcmp .l, 1, .null, [], z_g0),
  (15, .ifCond .eq 9, 3, .null, [24], z_g0),
  (18, .dload_n 3, 1, .null, [], z_g0),
  (19, .dconst 0, 1, .double FP.dconst0, [], z_g0),
  (20, .dcmp .l, 1, .null, [], z_g0),
  (21, .ifCond .gt 5, 3, .null, [26], z_g0),
  (24, .dconst 0, 1, .double FP.dconst0, [], z_g0),
  (25, .dreturn, 1, .null, [], z_g0),
  (26, .dload_n 3, 1, .null, [], z_g0),
  (27, .dload_n 1, 1, .null, [], z_g0),
  (28, .ddiv, 1, .null, [], z_g0),
  (29, .dstore 5, 2, .null, [], z_g0),
  (31, .dload 5, 2, .null, [], z_g0),
  (33, .dconst 1, 1, .double FP.dconst1, [], z_g0),
  (34, .dcmp .l, 1, .null, [], z_g0),
  (35, .ifCond .le 7, 3, .null, [42], z_g0),
  (38, .dconst 1, 1, .double FP.dconst1, [], z_g0),
  (39, .goto 5, 3, .null, [44], z_g0),
  (42, .dload 5, 2, .null, [], z_g0),
  (44, .dreturn, 1, .null, [], z_g0)]
set_option maxRecDepth 100000 in
theorem r_X12_targetOf (v0 : Nat) (v1 : UInt64) (v3 : UInt64) (S : z_St) : z_seg z_rD (c_X12_targetOf) [] (fun pc => fun _ _ _ => none) 31 (c_X12_targetOf) [(0, .ref v0), (1, .double v1), (3, .double v3)] [] S = b_X12_targetOf v0 v1 v3 S := rfl
end
