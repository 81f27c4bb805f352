noncomputable section
def b_X0_init (v0 : Nat) (S : z_St) : Option z_St :=
z_len ((720 : Int32)) 30000 (
let a1 := z_x S
let S2 := z_new S 101 ((720 : Int32)).toNatClampNeg
z_chk S2 v0 1 (
let S3 := z_wr S2 v0 0 (some a1)
z_len ((12 : Int32)) 30000 (
let a4 := z_x S3
let S5 := z_new S3 101 ((12 : Int32)).toNatClampNeg
z_chk S5 v0 1 (
let S6 := z_wr S5 v0 1 (some a4)
z_len ((4 : Int32)) 30000 (
let a7 := z_x S6
let S8 := z_new S6 101 ((4 : Int32)).toNatClampNeg
z_chk S8 v0 1 (
let S9 := z_wr S8 v0 3 (some a7)
z_len ((4 : Int32)) 30000 (
let a10 := z_x S9
let S11 := z_new S9 101 ((4 : Int32)).toNatClampNeg
z_chk S11 v0 1 (
let S12 := z_wr S11 v0 4 (some a10)
z_len ((60 : Int32)) 30000 (
let a13 := z_x S12
let S14 := z_new S12 101 ((60 : Int32)).toNatClampNeg
z_chk S14 v0 1 (
let S15 := z_wr S14 v0 5 (some a13)
z_len ((48 : Int32)) 30000 (
let a16 := z_x S15
let S17 := z_new S15 101 ((48 : Int32)).toNatClampNeg
z_chk S17 v0 1 (
let S18 := z_wr S17 v0 10 (some a16)
z_len ((48 : Int32)) 30000 (
let a19 := z_x S18
let S20 := z_new S18 101 ((48 : Int32)).toNatClampNeg
z_chk S20 v0 1 (
let S21 := z_wr S20 v0 11 (some a19)
z_len ((48 : Int32)) 30000 (
let a22 := z_x S21
let S23 := z_new S21 102 ((48 : Int32)).toNatClampNeg
z_chk S23 v0 1 (
let S24 := z_wr S23 v0 12 (some a22)
some S24))))))))))))))))
def f_X0_init : Nat → z_St → Option z_St := z_op (b_X0_init)
theorem e_X0_init (v0 : Nat) (S : z_St) : f_X0_init v0 S = b_X0_init v0 S := congrFun (congrFun (z_op_eq (b_X0_init)) v0) S
def g_X0_init : z_G := .inr (.inr (.inr (fun as S => match as with
  | [.ref v0] => f_X0_init v0 S
  | _ => none)))
def c_X0_init : List z_E := [
  (0, .aload_n 0, 1, .null, [], z_g0),
  (1, .invokespecial 3, 3, .null, [2], z_g0),
  (4, .aload_n 0, 1, .null, [], z_g0),
  (5, .sipush 720, 3, .int ((720 : Int32)), [], z_g0),
  (8, .newarray .int, 2, .null, [101], z_g0),
  (10, .putfield 11, 3, .null, [1, 0, 3], z_g0),
  (13, .aload_n 0, 1, .null, [], z_g0),
  (14, .bipush 12, 2, .int ((12 : Int32)), [], z_g0),
  (16, .newarray .int, 2, .null, [101], z_g0),
  (18, .putfield 15, 3, .null, [1, 1, 3], z_g0),
  (21, .aload_n 0, 1, .null, [], z_g0),
  (22, .iconst 4, 1, .int ((4 : Int32)), [], z_g0),
  (23, .newarray .int, 2, .null, [101], z_g0),
  (25, .putfield 18, 3, .null, [1, 3, 3], z_g0),
  (28, .aload_n 0, 1, .null, [], z_g0),
  (29, .iconst 4, 1, .int ((4 : Int32)), [], z_g0),
  (30, .newarray .int, 2, .null, [101], z_g0),
  (32, .putfield 21, 3, .null, [1, 4, 3], z_g0),
  (35, .aload_n 0, 1, .null, [], z_g0),
  (36, .bipush 60, 2, .int ((60 : Int32)), [], z_g0),
  (38, .newarray .int, 2, .null, [101], z_g0),
  (40, .putfield 24, 3, .null, [1, 5, 3], z_g0),
  (43, .aload_n 0, 1, .null, [], z_g0),
  (44, .bipush 48, 2, .int ((48 : Int32)), [], z_g0),
  (46, .newarray .int, 2, .null, [101], z_g0),
  (48, .putfield 27, 3, .null, [1, 10, 3], z_g0),
  (51, .aload_n 0, 1, .null, [], z_g0),
  (52, .bipush 48, 2, .int ((48 : Int32)), [], z_g0),
  (54, .newarray .int, 2, .null, [101], z_g0),
  (56, .putfield 30, 3, .null, [1, 11, 3], z_g0),
  (59, .aload_n 0, 1, .null, [], z_g0),
  (60, .bipush 48, 2, .int ((48 : Int32)), [], z_g0),
  (62, .newarray .long, 2, .null, [102], z_g0),
  (64, .putfield 33, 3, .null, [1, 12, 3], z_g0),
  (67, .return_, 1, .null, [], z_g0)]
set_option maxRecDepth 100000 in
theorem r_X0_init (v0 : Nat) (S : z_St) : z_seg z_rV (c_X0_init) [] (fun pc => fun _ _ _ => none) 38 (c_X0_init) [(0, .ref v0)] [] S = b_X0_init v0 S := rfl
def b_X11_outOf (v0 : Int32) (v1 : Int32) (v2 : Int32) (S : z_St) : Option (Int32 × z_St) :=
if v0 < v1 then
(z_rb ((1 : Int32)) S)
else
(if v0 ≤ v2 then
(z_rb ((0 : Int32)) S)
else
(z_rb ((1 : Int32)) S))
def f_X11_outOf : Int32 → Int32 → Int32 → z_St → Option (Int32 × z_St) := z_op (b_X11_outOf)
theorem e_X11_outOf (v0 : Int32) (v1 : Int32) (v2 : Int32) (S : z_St) : f_X11_outOf v0 v1 v2 S = b_X11_outOf v0 v1 v2 S := congrFun (congrFun (congrFun (congrFun (z_op_eq (b_X11_outOf)) v0) v1) v2) S
def g_X11_outOf : z_G := .inl (fun as S => match as with
  | [.int v0, .int v1, .int v2] => f_X11_outOf v0 v1 v2 S
  | _ => none)
def c_X11_outOf : List z_E := [
  (0, .iload_n 0, 1, .null, [], z_g0),
  (1, .iload_n 1, 1, .null, [], z_g0),
  (2, .if_icmp .lt 8, 3, .null, [10], z_g0),
  (5, .iload_n 0, 1, .null, [], z_g0),
  (6, .iload_n 2, 1, .null, [], z_g0),
  (7, .if_icmp .le 7, 3, .null, [14], z_g0),
  (10, .iconst 1, 1, .int ((1 : Int32)), [], z_g0),
  (11, .goto 4, 3, .null, [15], z_g0),
  (14, .iconst 0, 1, .int ((0 : Int32)), [], z_g0),
  (15, .ireturn, 1, .null, [], z_g0)]
set_option maxRecDepth 100000 in
theorem r_X11_outOf (v0 : Int32) (v1 : Int32) (v2 : Int32) (S : z_St) : z_seg z_rZ (c_X11_outOf) [] (fun pc => fun _ _ _ => none) 13 (c_X11_outOf) [(0, .int v0), (1, .int v1), (2, .int v2)] [] S = b_X11_outOf v0 v1 v2 S := rfl
def j_X0_isStep_100 (v1 : Int32) (S : z_St) : Option (Int32 × z_St) :=
(f_X11_outOf v1 ((0 : Int32)) ((3 : Int32)) S).bind fun q9 =>
if q9.1 = 0 then
(z_rb ((1 : Int32)) q9.2)
else
(z_rb ((0 : Int32)) q9.2)
def b_X0_isStep (v0 : Int32) (v1 : Int32) (v2 : Int32) (v3 : Int32) (v4 : Int32) (S : z_St) : Option (Int32 × z_St) :=
if v0 = (0 : Int32) then
(z_rb ((1 : Int32)) S)
else
if v0 = (1 : Int32) then
((f_X11_outOf v1 ((0 : Int32)) ((1000000000 : Int32)) S).bind fun q1 =>
if q1.1 = 0 then
(z_rb ((1 : Int32)) q1.2)
else
(z_rb ((0 : Int32)) q1.2))
else
if v0 = (2 : Int32) then
((f_X11_outOf v1 ((1 : Int32)) ((8 : Int32)) S).bind fun q2 =>
if q2.1 = 0 then
((f_X11_outOf v2 ((0 : Int32)) ((99 : Int32)) q2.2).bind fun q3 =>
if q3.1 = 0 then
(z_rb ((1 : Int32)) q3.2)
else
(z_rb ((0 : Int32)) q3.2))
else
(z_rb ((0 : Int32)) q2.2))
else
if v0 = (3 : Int32) then
(j_X0_isStep_100 v1 S)
else
if v0 = (4 : Int32) then
(j_X0_isStep_100 v1 S)
else
if v0 = (5 : Int32) then
(z_rb ((1 : Int32)) S)
else
if v0 = (6 : Int32) then
((f_X11_outOf v1 ((0 : Int32)) ((11 : Int32)) S).bind fun q4 =>
if q4.1 = 0 then
(z_rb ((1 : Int32)) q4.2)
else
(z_rb ((0 : Int32)) q4.2))
else
if v0 = (7 : Int32) then
((f_X11_outOf v1 ((0 : Int32)) ((11 : Int32)) S).bind fun q5 =>
if q5.1 = 0 then
((f_X11_outOf v2 ((0 : Int32)) ((9 : Int32)) q5.2).bind fun q6 =>
if q6.1 = 0 then
((f_X11_outOf v3 ((-1 : Int32)) ((11 : Int32)) q6.2).bind fun q7 =>
if q7.1 = 0 then
((f_X11_outOf v4 ((-1 : Int32)) ((11 : Int32)) q7.2).bind fun q8 =>
if q8.1 = 0 then
(z_rb ((1 : Int32)) q8.2)
else
(z_rb ((0 : Int32)) q8.2))
else
(z_rb ((0 : Int32)) q7.2))
else
(z_rb ((0 : Int32)) q6.2))
else
(z_rb ((0 : Int32)) q5.2))
else
if v0 = (8 : Int32) then
(z_rb ((1 : Int32)) S)
else
if v0 = (9 : Int32) then
(z_rb ((1 : Int32)) S)
else
(z_rb ((0 : Int32)) S)
def f_X0_isStep : Int32 → Int32 → Int32 → Int32 → Int32 → z_St → Option (Int32 × z_St) := z_op (b_X0_isStep)
theorem e_X0_isStep (v0 : Int32) (v1 : Int32) (v2 : Int32) (v3 : Int32) (v4 : Int32) (S : z_St) : f_X0_isStep v0 v1 v2 v3 v4 S = b_X0_isStep v0 v1 v2 v3 v4 S := congrFun (congrFun (congrFun (congrFun (congrFun (congrFun (z_op_eq (b_X0_isStep)) v0) v1) v2) v3) v4) S
def g_X0_isStep : z_G := .inl (fun as S => match as with
  | [.int v0, .int v1, .int v2, .int v3, .int v4] => f_X0_isStep v0 v1 v2 v3 v4 S
  | _ => none)
def c_X0_isStep : List z_E := [
  (0, .iload_n 0, 1, .null, [], z_g0),
  (1, .tableswitch 177 0 9 #[55, 57, 73, 99, 99, 55, 114, 130, 55, 55], 55, .null, [178, 0, 56, 58, 74, 100, 100, 56, 115, 131, 56, 56], z_g0),
  (56, .iconst 1, 1, .int ((1 : Int32)), [], z_g0),
  (57, .ireturn, 1, .null, [], z_g0),
  (58, .iload_n 1, 1, .null, [], z_g0),
  (59, .iconst 0, 1, .int ((0 : Int32)), [], z_g0),
  (60, .ldc 37, 2, .int (1000000000 : Int32), [], z_g0),
  (62, .invokestatic 38, 3, .null, [0, 0, 0, 0], g_X11_outOf),
  (65, .ifCond .ne 7, 3, .null, [72], z_g0),
  (68, .iconst 1, 1, .int ((1 : Int32)), [], z_g0),
  (69, .goto 4, 3, .null, [73], z_g0),
  (72, .iconst 0, 1, .int ((0 : Int32)), [], z_g0),
  (73, .ireturn, 1, .null, [], z_g0),
  (74, .iload_n 1, 1, .null, [], z_g0),
  (75, .iconst 1, 1, .int ((1 : Int32)), [], z_g0),
  (76, .bipush 8, 2, .int ((8 : Int32)), [], z_g0),
  (78, .invokestatic 38, 3, .null, [0, 0, 0, 0], g_X11_outOf),
  (81, .ifCond .ne 17, 3, .null, [98], z_g0),
  (84, .iload_n 2, 1, .null, [], z_g0),
  (85, .iconst 0, 1, .int ((0 : Int32)), [], z_g0),
  (86, .bipush 99, 2, .int ((99 : Int32)), [], z_g0),
  (88, .invokestatic 38, 3, .null, [0, 0, 0, 0], g_X11_outOf),
  (91, .ifCond .ne 7, 3, .null, [98], z_g0),
  (94, .iconst 1, 1, .int ((1 : Int32)), [], z_g0),
  (95, .goto 4, 3, .null, [99], z_g0),
  (98, .iconst 0, 1, .int ((0 : Int32)), [], z_g0),
  (99, .ireturn, 1, .null, [], z_g0),
  (100, .iload_n 1, 1, .null, [], z_g0),
  (101, .iconst 0, 1, .int ((0 : Int32)), [], z_g0),
  (102, .iconst 3, 1, .int ((3 : Int32)), [], z_g0),
  (103, .invokestatic 38, 3, .null, [0, 0, 0, 0], g_X11_outOf),
  (106, .ifCond .ne 7, 3, .null, [113], z_g0),
  (109, .iconst 1, 1, .int ((1 : Int32)), [], z_g0),
  (110, .goto 4, 3, .null, [114], z_g0),
  (113, .iconst 0, 1, .int ((0 : Int32)), [], z_g0),
  (114, .ireturn, 1, .null, [], z_g0),
  (115, .iload_n 1, 1, .null, [], z_g0),
  (116, .iconst 0, 1, .int ((0 : Int32)), [], z_g0),
  (117, .bipush 11, 2, .int ((11 : Int32)), [], z_g0),
  (119, .invokestatic 38, 3, .null, [0, 0, 0, 0], g_X11_outOf),
  (122, .ifCond .ne 7, 3, .null, [129], z_g0),
  (125, .iconst 1, 1, .int ((1 : Int32)), [], z_g0),
  (126, .goto 4, 3, .null, [130], z_g0),
  (129, .iconst 0, 1, .int ((0 : Int32)), [], z_g0),
  (130, .ireturn, 1, .null, [], z_g0),
  (131, .iload_n 1, 1, .null, [], z_g0),
  (132, .iconst 0, 1, .int ((0 : Int32)), [], z_g0),
  (133, .bipush 11, 2, .int ((11 : Int32)), [], z_g0),
  (135, .invokestatic 38, 3, .null, [0, 0, 0, 0], g_X11_outOf),
  (138, .ifCond .ne 38, 3, .null, [176], z_g0),
  (141, .iload_n 2, 1, .null, [], z_g0),
  (142, .iconst 0, 1, .int ((0 : Int32)), [], z_g0),
  (143, .bipush 9, 2, .int ((9 : Int32)), [], z_g0),
  (145, .invokestatic 38, 3, .null, [0, 0, 0, 0], g_X11_outOf),
  (148, .ifCond .ne 28, 3, .null, [176], z_g0),
  (151, .iload_n 3, 1, .null, [], z_g0),
  (152, .iconst (-1), 1, .int ((-1 : Int32)), [], z_g0),
  (153, .bipush 11, 2, .int ((11 : Int32)), [], z_g0),
  (155, .invokestatic 38, 3, .null, [0, 0, 0, 0], g_X11_outOf),
  (158, .ifCond .ne 18, 3, .null, [176], z_g0),
  (161, .iload 4, 2, .null, [], z_g0),
  (163, .iconst (-1), 1, .int ((-1 : Int32)), [], z_g0),
  (164, .bipush 11, 2, .int ((11 : Int32)), [], z_g0),
  (166, .invokestatic 38, 3, .null, [0, 0, 0, 0], g_X11_outOf),
  (169, .ifCond .ne 7, 3, .null, [176], z_g0),
  (172, .iconst 1, 1, .int ((1 : Int32)), [], z_g0),
  (173, .goto 4, 3, .null, [177], z_g0),
  (176, .iconst 0, 1, .int ((0 : Int32)), [], z_g0),
  (177, .ireturn, 1, .null, [], z_g0),
  (178, .iconst 0, 1, .int ((0 : Int32)), [], z_g0),
  (179, .ireturn, 1, .null, [], z_g0)]
def a_X0_isStep_100 {ρ : Type} (k : Int32 → z_St → Option ρ) (ls : z_Lv) (st : List Value) (S : z_St) : Option ρ := z_gI ls 1 fun v1 => z_p0 st (k v1 S)
set_option maxRecDepth 100000 in
theorem r_X0_isStep_100 (v1 : Int32) (S : z_St) : z_seg z_rZ (c_X0_isStep) [100] (fun pc => fun _ _ _ => none) 74 (z_to 100 (c_X0_isStep)) [(1, .int v1)] [] S = j_X0_isStep_100 v1 S := rfl
set_option maxRecDepth 100000 in
theorem r_X0_isStep (v0 : Int32) (v1 : Int32) (v2 : Int32) (v3 : Int32) (v4 : Int32) (S : z_St) : z_seg z_rZ (c_X0_isStep) [100] (fun pc => cond (Nat.beq pc 100) (a_X0_isStep_100 (j_X0_isStep_100)) (fun _ _ _ => none)) 74 (c_X0_isStep) [(0, .int v0), (1, .int v1), (2, .int v2), (3, .int v3), (4, .int v4)] [] S = b_X0_isStep v0 v1 v2 v3 v4 S := rfl
def b_X0_stepAt (v0 : Int32) (v1 : Int32) (S : z_St) : Option (Int32 × z_St) :=
some (((v0 * ((12 : Int32))) + v1) * ((5 : Int32)), S)
def f_X0_stepAt : Int32 → Int32 → z_St → Option (Int32 × z_St) := z_op (b_X0_stepAt)
theorem e_X0_stepAt (v0 : Int32) (v1 : Int32) (S : z_St) : f_X0_stepAt v0 v1 S = b_X0_stepAt v0 v1 S := congrFun (congrFun (congrFun (z_op_eq (b_X0_stepAt)) v0) v1) S
def g_X0_stepAt : z_G := .inl (fun as S => match as with
  | [.int v0, .int v1] => f_X0_stepAt v0 v1 S
  | _ => none)
def c_X0_stepAt : List z_E := [
  (0, .iload_n 0, 1, .null, [], z_g0),
  (1, .bipush 12, 2, .int ((12 : Int32)), [], z_g0),
  (3, .imul, 1, .null, [], z_g0),
  (4, .iload_n 1, 1, .null, [], z_g0),
  (5, .iadd, 1, .null, [], z_g0),
  (6, .iconst 5, 1, .int ((5 : Int32)), [], z_g0),
  (7, .imul, 1, .null, [], z_g0),
  (8, .ireturn, 1, .null, [], z_g0)]
set_option maxRecDepth 100000 in
theorem r_X0_stepAt (v0 : Int32) (v1 : Int32) (S : z_St) : z_seg z_rI (c_X0_stepAt) [] (fun pc => fun _ _ _ => none) 11 (c_X0_stepAt) [(0, .int v0), (1, .int v1)] [] S = b_X0_stepAt v0 v1 S := rfl
def b_X0_keepStep (v0 : Nat) (v1 : Int32) (v2 : Int32) (v3 : Int32) (v4 : Int32) (v5 : Int32) (v6 : Int32) (S : z_St) : Option z_St :=
z_chk S v0 1 (
z_onV (va_rf (z_r S v0 1)) fun b1 =>
z_inb S b1 101 v1 (
(f_X0_stepAt v1 ((z_i S b1 v1.toNatClampNeg)) S).bind fun q2 =>
z_chk q2.2 v0 1 (
z_onV (va_rf (z_r q2.2 v0 0)) fun b3 =>
z_inb q2.2 b3 101 q2.1 (
let S4 := z_wi q2.2 b3 q2.1.toNatClampNeg v2
z_chk S4 v0 1 (
z_onV (va_rf (z_r S4 v0 0)) fun b5 =>
z_inb S4 b5 101 (q2.1 + ((1 : Int32))) (
let S6 := z_wi S4 b5 (q2.1 + ((1 : Int32))).toNatClampNeg v3
z_chk S6 v0 1 (
z_onV (va_rf (z_r S6 v0 0)) fun b7 =>
z_inb S6 b7 101 (q2.1 + ((2 : Int32))) (
let S8 := z_wi S6 b7 (q2.1 + ((2 : Int32))).toNatClampNeg v4
z_chk S8 v0 1 (
z_onV (va_rf (z_r S8 v0 0)) fun b9 =>
z_inb S8 b9 101 (q2.1 + ((3 : Int32))) (
let S10 := z_wi S8 b9 (q2.1 + ((3 : Int32))).toNatClampNeg v5
z_chk S10 v0 1 (
z_onV (va_rf (z_r S10 v0 0)) fun b11 =>
z_inb S10 b11 101 (q2.1 + ((4 : Int32))) (
let S12 := z_wi S10 b11 (q2.1 + ((4 : Int32))).toNatClampNeg v6
z_chk S12 v0 1 (
z_onV (va_rf (z_r S12 v0 1)) fun b13 =>
z_inb S12 b13 101 v1 (
z_inb S12 b13 101 v1 (
let S14 := z_wi S12 b13 v1.toNatClampNeg (((z_i S12 b13 v1.toNatClampNeg)) + ((1 : Int32)))
some S14)))))))))))))))
def f_X0_keepStep : Nat → Int32 → Int32 → Int32 → Int32 → Int32 → Int32 → z_St → Option z_St := z_op (b_X0_keepStep)
theorem e_X0_keepStep (v0 : Nat) (v1 : Int32) (v2 : Int32) (v3 : Int32) (v4 : Int32) (v5 : Int32) (v6 : Int32) (S : z_St) : f_X0_keepStep v0 v1 v2 v3 v4 v5 v6 S = b_X0_keepStep v0 v1 v2 v3 v4 v5 v6 S := congrFun (congrFun (congrFun (congrFun (congrFun (congrFun (congrFun (congrFun (z_op_eq (b_X0_keepStep)) v0) v1) v2) v3) v4) v5) v6) S
def g_X0_keepStep : z_G := .inr (.inr (.inr (fun as S => match as with
  | [.ref v0, .int v1, .int v2, .int v3, .int v4, .int v5, .int v6] => f_X0_keepStep v0 v1 v2 v3 v4 v5 v6 S
  | _ => none)))
def c_X0_keepStep : List z_E := [
  (0, .iload_n 1, 1, .null, [], z_g0),
  (1, .aload_n 0, 1, .null, [], z_g0),
  (2, .getfield 15, 3, .null, [1, 1, 3], z_g0),
  (5, .iload_n 1, 1, .null, [], z_g0),
  (6, .iaload, 1, .null, [101], z_g0),
  (7, .invokestatic 42, 3, .null, [0, 0, 0], g_X0_stepAt),
  (10, .istore 7, 2, .null, [], z_g0),
  (12, .aload_n 0, 1, .null, [], z_g0),
  (13, .getfield 11, 3, .null, [1, 0, 3], z_g0),
  (16, .iload 7, 2, .null, [], z_g0),
  (18, .iload_n 2, 1, .null, [], z_g0),
  (19, .iastore, 1, .null, [], z_g0),
  (20, .aload_n 0, 1, .null, [], z_g0),
  (21, .getfield 11, 3, .null, [1, 0, 3], z_g0),
  (24, .iload 7, 2, .null, [], z_g0),
  (26, .iconst 1, 1, .int ((1 : Int32)), [], z_g0),
  (27, .iadd, 1, .null, [], z_g0),
  (28, .iload_n 3, 1, .null, [], z_g0),
  (29, .iastore, 1, .null, [], z_g0),
  (30, .aload_n 0, 1, .null, [], z_g0),
  (31, .getfield 11, 3, .null, [1, 0, 3], z_g0),
  (34, .iload 7, 2, .null, [], z_g0),
  (36, .iconst 2, 1, .int ((2 : Int32)), [], z_g0),
  (37, .iadd, 1, .null, [], z_g0),
  (38, .iload 4, 2, .null, [], z_g0),
  (40, .iastore, 1, .null, [], z_g0),
  (41, .aload_n 0, 1, .null, [], z_g0),
  (42, .getfield 11, 3, .null, [1, 0, 3], z_g0),
  (45, .iload 7, 2, .null, [], z_g0),
  (47, .iconst 3, 1, .int ((3 : Int32)), [], z_g0),
  (48, .iadd, 1, .null, [], z_g0),
  (49, .iload 5, 2, .null, [], z_g0),
  (51, .iastore, 1, .null, [], z_g0),
  (52, .aload_n 0, 1, .null, [], z_g0),
  (53, .getfield 11, 3, .null, [1, 0, 3], z_g0),
  (56, .iload 7, 2, .null, [], z_g0),
  (58, .iconst 4, 1, .int ((4 : Int32)), [], z_g0),
  (59, .iadd, 1, .null, [], z_g0),
  (60, .iload 6, 2, .null, [], z_g0),
  (62, .iastore, 1, .null, [], z_g0),
  (63, .aload_n 0, 1, .null, [], z_g0),
  (64, .getfield 15, 3, .null, [1, 1, 3], z_g0),
  (67, .iload_n 1, 1, .null, [], z_g0),
  (68, .dup2, 1, .null, [1], z_g0),
  (69, .iaload, 1, .null, [101], z_g0),
  (70, .iconst 1, 1, .int ((1 : Int32)), [], z_g0),
  (71, .iadd, 1, .null, [], z_g0),
  (72, .iastore, 1, .null, [], z_g0),
  (73, .return_, 1, .null, [], z_g0)]
set_option maxRecDepth 100000 in
theorem r_X0_keepStep (v0 : Nat) (v1 : Int32) (v2 : Int32) (v3 : Int32) (v4 : Int32) (v5 : Int32) (v6 : Int32) (S : z_St) : z_seg z_rV (c_X0_keepStep) [] (fun pc => fun _ _ _ => none) 52 (c_X0_keepStep) [(0, .ref v0), (1, .int v1), (2, .int v2), (3, .int v3), (4, .int v4), (5, .int v5), (6, .int v6)] [] S = b_X0_keepStep v0 v1 v2 v3 v4 v5 v6 S := rfl
def b_X0_wayOf (v0 : Int64) (S : z_St) : Option (Int32 × z_St) :=
some (((v0.toUInt64 >>> (((32 : Int32)).toInt64.toUInt64 &&& Int64.toUInt64 63)).toInt64).toInt32, S)
def f_X0_wayOf : Int64 → z_St → Option (Int32 × z_St) := z_op (b_X0_wayOf)
theorem e_X0_wayOf (v0 : Int64) (S : z_St) : f_X0_wayOf v0 S = b_X0_wayOf v0 S := congrFun (congrFun (z_op_eq (b_X0_wayOf)) v0) S
def g_X0_wayOf : z_G := .inl (fun as S => match as with
  | [.long v0] => f_X0_wayOf v0 S
  | _ => none)
def c_X0_wayOf : List z_E := [
  (0, .lload_n 0, 1, .null, [], z_g0),
  (1, .bipush 32, 2, .int ((32 : Int32)), [], z_g0),
  (3, .lushr, 1, .null, [], z_g0),
  (4, .l2i, 1, .null, [], z_g0),
  (5, .ireturn, 1, .null, [], z_g0)]
set_option maxRecDepth 100000 in
theorem r_X0_wayOf (v0 : Int64) (S : z_St) : z_seg z_rI (c_X0_wayOf) [] (fun pc => fun _ _ _ => none) 8 (c_X0_wayOf) [(0, .long v0)] [] S = b_X0_wayOf v0 S := rfl
def b_X0_loadOf (v0 : Int64) (S : z_St) : Option (Int32 × z_St) :=
some (v0.toInt32, S)
def f_X0_loadOf : Int64 → z_St → Option (Int32 × z_St) := z_op (b_X0_loadOf)
theorem e_X0_loadOf (v0 : Int64) (S : z_St) : f_X0_loadOf v0 S = b_X0_loadOf v0 S := congrFun (congrFun (z_op_eq (b_X0_loadOf)) v0) S
def g_X0_loadOf : z_G := .inl (fun as S => match as with
  | [.long v0] => f_X0_loadOf v0 S
  | _ => none)
def c_X0_loadOf : List z_E := [
  (0, .lload_n 0, 1, .null, [], z_g0),
  (1, .l2i, 1, .null, [], z_g0),
  (2, .ireturn, 1, .null, [], z_g0)]
set_option maxRecDepth 100000 in
theorem r_X0_loadOf (v0 : Int64) (S : z_St) : z_seg z_rI (c_X0_loadOf) [] (fun pc => fun _ _ _ => none) 6 (c_X0_loadOf) [(0, .long v0)] [] S = b_X0_loadOf v0 S := rfl
def b_X0_outcomeOf (v0 : Int32) (v1 : Int32) (S : z_St) : Option (Int64 × z_St) :=
some ((v0.toInt64 <<< (((32 : Int32)).toInt64 &&& 63)) ||| (v1.toInt64 &&& ((4294967295 : Int64))), S)
def f_X0_outcomeOf : Int32 → Int32 → z_St → Option (Int64 × z_St) := z_op (b_X0_outcomeOf)
theorem e_X0_outcomeOf (v0 : Int32) (v1 : Int32) (S : z_St) : f_X0_outcomeOf v0 v1 S = b_X0_outcomeOf v0 v1 S := congrFun (congrFun (congrFun (z_op_eq (b_X0_outcomeOf)) v0) v1) S
def g_X0_outcomeOf : z_G := .inr (.inl (fun as S => match as with
  | [.int v0, .int v1] => f_X0_outcomeOf v0 v1 S
  | _ => none))
def c_X0_outcomeOf : List z_E := [
  (0, .iload_n 0, 1, .null, [], z_g0),
  (1, .i2l, 1, .null, [], z_g0),
  (2, .bipush 32, 2, .int ((32 : Int32)), [], z_g0),
  (4, .lshl, 1, .null, [], z_g0),
  (5, .iload_n 1, 1, .null, [], z_g0),
  (6, .i2l, 1, .null, [], z_g0),
  (7, .ldc2_w 46, 3, .long (4294967295 : Int64), [], z_g0),
  (10, .land, 1, .null, [], z_g0),
  (11, .lor, 1, .null, [], z_g0),
  (12, .lreturn, 1, .null, [], z_g0)]
set_option maxRecDepth 100000 in
theorem r_X0_outcomeOf (v0 : Int32) (v1 : Int32) (S : z_St) : z_seg z_rL (c_X0_outcomeOf) [] (fun pc => fun _ _ _ => none) 13 (c_X0_outcomeOf) [(0, .int v0), (1, .int v1)] [] S = b_X0_outcomeOf v0 v1 S := rfl
def l_X0_undoCells_7 : Nat → Nat → Nat → Int32 → z_St → Option z_St
  | 0 => fun _ _ _ _ => none
  | n + 1 => fun (v0 : Nat) (v1 : Nat) (v2 : Int32) (S : z_St) =>
if v2 < 0 then
(some S)
else
(z_chk S v0 1 (
z_onV (va_rf (z_r S v0 10)) fun b2 =>
z_inb S b2 101 v2 (
z_inb S v1 110 ((z_i S b2 v2.toNatClampNeg)) (
z_onV (va_rf (z_r S v1 ((z_i S b2 v2.toNatClampNeg)).toNatClampNeg)) fun b3 =>
z_chk S b3 9 (
z_chk S v0 1 (
z_onV (va_rf (z_r S v0 11)) fun b4 =>
z_inb S b4 101 v2 (
z_chk S v0 1 (
z_onV (va_rf (z_r S v0 12)) fun b5 =>
z_inb S b5 102 v2 (
z_onV (va_rf (z_r S b3 1)) fun b6 =>
z_inb S b6 102 ((z_i S b4 v2.toNatClampNeg)) (
let S7 := z_wl S b6 ((z_i S b4 v2.toNatClampNeg)).toNatClampNeg ((z_l S b5 v2.toNatClampNeg))
let x8 := v2 + (-1 : Int32)
l_X0_undoCells_7 n v0 v1 x8 S7))))))))))
def b_X0_undoCells (v0 : Nat) (v1 : Nat) (S : z_St) : Option z_St :=
z_chk S v0 1 (
let x1 := ((z_i S v0 13)) - ((1 : Int32))
l_X0_undoCells_7 z_N v0 v1 x1 S)
def f_X0_undoCells : Nat → Nat → z_St → Option z_St := z_op (b_X0_undoCells)
theorem e_X0_undoCells (v0 : Nat) (v1 : Nat) (S : z_St) : f_X0_undoCells v0 v1 S = b_X0_undoCells v0 v1 S := congrFun (congrFun (congrFun (z_op_eq (b_X0_undoCells)) v0) v1) S
def g_X0_undoCells : z_G := .inr (.inr (.inr (fun as S => match as with
  | [.ref v0, .ref v1] => f_X0_undoCells v0 v1 S
  | _ => none)))
def c_X0_undoCells : List z_E := [
  (0, .aload_n 0, 1, .null, [], z_g0),
  (1, .getfield 55, 3, .null, [1, 13, 0], z_g0),
  (4, .iconst 1, 1, .int ((1 : Int32)), [], z_g0),
  (5, .isub, 1, .null, [], z_g0),
  (6, .istore_n 2, 1, .null, [], z_g0),
  (7, .iload_n 2, 1, .null, [], z_g0),
  (8, .ifCond .lt 33, 3, .null, [41], z_g0),
  (11, .aload_n 1, 1, .null, [], z_g0),
  (12, .aload_n 0, 1, .null, [], z_g0),
  (13, .getfield 27, 3, .null, [1, 10, 3], z_g0),
  (16, .iload_n 2, 1, .null, [], z_g0),
  (17, .iaload, 1, .null, [101], z_g0),
  (18, .aaload, 1, .null, [110], z_g0),
  (19, .getfield 79, 3, .null, [9, 1, 3], z_g0),
  (22, .aload_n 0, 1, .null, [], z_g0),
  (23, .getfield 30, 3, .null, [1, 11, 3], z_g0),
  (26, .iload_n 2, 1, .null, [], z_g0),
  (27, .iaload, 1, .null, [101], z_g0),
  (28, .aload_n 0, 1, .null, [], z_g0),
  (29, .getfield 33, 3, .null, [1, 12, 3], z_g0),
  (32, .iload_n 2, 1, .null, [], z_g0),
  (33, .laload, 1, .null, [], z_g0),
  (34, .lastore, 1, .null, [], z_g0),
  (35, .iinc 2 (-1), 3, .int (-1 : Int32), [], z_g0),
  (38, .goto (-31), 3, .null, [7], z_g0),
  (41, .return_, 1, .null, [], z_g0)]
def a_X0_undoCells_7 {ρ : Type} (k : Nat → Nat → Int32 → z_St → Option ρ) (ls : z_Lv) (st : List Value) (S : z_St) : Option ρ := z_gR ls 0 fun v0 => z_gR ls 1 fun v1 => z_gI ls 2 fun v2 => z_p0 st (k v0 v1 v2 S)
set_option maxRecDepth 100000 in
theorem r_X0_undoCells_7 (n : Nat) (v0 : Nat) (v1 : Nat) (v2 : Int32) (S : z_St) : z_seg z_rV (c_X0_undoCells) [7] (fun pc => cond (Nat.beq pc 7) (a_X0_undoCells_7 (l_X0_undoCells_7 n)) (fun _ _ _ => none)) 29 (z_to 7 (c_X0_undoCells)) [(0, .ref v0), (1, .ref v1), (2, .int v2)] [] S = l_X0_undoCells_7 (n + 1) v0 v1 v2 S := rfl
set_option maxRecDepth 100000 in
theorem r_X0_undoCells (v0 : Nat) (v1 : Nat) (S : z_St) : z_seg z_rV (c_X0_undoCells) [7] (fun pc => cond (Nat.beq pc 7) (a_X0_undoCells_7 (l_X0_undoCells_7 z_N)) (fun _ _ _ => none)) 29 (c_X0_undoCells) [(0, .ref v0), (1, .ref v1)] [] S = b_X0_undoCells v0 v1 S := rfl
def l_X0_letGo_4 : Nat → Nat → Int32 → Int32 → z_St → Option z_St
  | 0 => fun _ _ _ _ => none
  | n + 1 => fun (v0 : Nat) (v1 : Int32) (v3 : Int32) (S : z_St) =>
if v3 < 0 then
(some S)
else
((f_X0_stepAt v1 v3 S).bind fun q2 =>
z_chk q2.2 v0 1 (
z_onV (va_rf (z_r q2.2 v0 0)) fun b3 =>
z_inb q2.2 b3 101 q2.1 (
if ((z_i q2.2 b3 q2.1.toNatClampNeg)) = ((3 : Int32)) then
(z_chk q2.2 v0 1 (
z_chk q2.2 v0 1 (
z_onV (va_rf (z_r q2.2 v0 0)) fun b5 =>
z_inb q2.2 b5 101 (q2.1 + ((1 : Int32))) (
z_onV (va_rf (z_r q2.2 v0 3)) fun b6 =>
z_inb q2.2 b6 101 ((z_i q2.2 b5 (q2.1 + ((1 : Int32))).toNatClampNeg)) (
z_inb q2.2 b6 101 ((z_i q2.2 b5 (q2.1 + ((1 : Int32))).toNatClampNeg)) (
let S7 := z_wi q2.2 b6 ((z_i q2.2 b5 (q2.1 + ((1 : Int32))).toNatClampNeg)).toNatClampNeg (((z_i q2.2 b6 ((z_i q2.2 b5 (q2.1 + ((1 : Int32))).toNatClampNeg)).toNatClampNeg)) - ((1 : Int32)))
let x8 := v3 + (-1 : Int32)
l_X0_letGo_4 n v0 v1 x8 S7))))))
else
(let x4 := v3 + (-1 : Int32)
l_X0_letGo_4 n v0 v1 x4 q2.2))))
def b_X0_letGo (v0 : Nat) (v1 : Int32) (v2 : Int32) (S : z_St) : Option z_St :=
let x1 := v2 - ((1 : Int32))
l_X0_letGo_4 z_N v0 v1 x1 S
def f_X0_letGo : Nat → Int32 → Int32 → z_St → Option z_St := z_op (b_X0_letGo)
theorem e_X0_letGo (v0 : Nat) (v1 : Int32) (v2 : Int32) (S : z_St) : f_X0_letGo v0 v1 v2 S = b_X0_letGo v0 v1 v2 S := congrFun (congrFun (congrFun (congrFun (z_op_eq (b_X0_letGo)) v0) v1) v2) S
def g_X0_letGo : z_G := .inr (.inr (.inr (fun as S => match as with
  | [.ref v0, .int v1, .int v2] => f_X0_letGo v0 v1 v2 S
  | _ => none)))
def c_X0_letGo : List z_E := [
  (0, .iload_n 2, 1, .null, [], z_g0),
  (1, .iconst 1, 1, .int ((1 : Int32)), [], z_g0),
  (2, .isub, 1, .null, [], z_g0),
  (3, .istore_n 3, 1, .null, [], z_g0),
  (4, .iload_n 3, 1, .null, [], z_g0),
  (5, .ifCond .lt 45, 3, .null, [50], z_g0),
  (8, .iload_n 1, 1, .null, [], z_g0),
  (9, .iload_n 3, 1, .null, [], z_g0),
  (10, .invokestatic 42, 3, .null, [0, 0, 0], g_X0_stepAt),
  (13, .istore 4, 2, .null, [], z_g0),
  (15, .aload_n 0, 1, .null, [], z_g0),
  (16, .getfield 11, 3, .null, [1, 0, 3], z_g0),
  (19, .iload 4, 2, .null, [], z_g0),
  (21, .iaload, 1, .null, [101], z_g0),
  (22, .iconst 3, 1, .int ((3 : Int32)), [], z_g0),
  (23, .if_icmp .ne 21, 3, .null, [44], z_g0),
  (26, .aload_n 0, 1, .null, [], z_g0),
  (27, .getfield 18, 3, .null, [1, 3, 3], z_g0),
  (30, .aload_n 0, 1, .null, [], z_g0),
  (31, .getfield 11, 3, .null, [1, 0, 3], z_g0),
  (34, .iload 4, 2, .null, [], z_g0),
  (36, .iconst 1, 1, .int ((1 : Int32)), [], z_g0),
  (37, .iadd, 1, .null, [], z_g0),
  (38, .iaload, 1, .null, [101], z_g0),
  (39, .dup2, 1, .null, [1], z_g0),
  (40, .iaload, 1, .null, [101], z_g0),
  (41, .iconst 1, 1, .int ((1 : Int32)), [], z_g0),
  (42, .isub, 1, .null, [], z_g0),
  (43, .iastore, 1, .null, [], z_g0),
  (44, .iinc 3 (-1), 3, .int (-1 : Int32), [], z_g0),
  (47, .goto (-43), 3, .null, [4], z_g0),
  (50, .return_, 1, .null, [], z_g0)]
def a_X0_letGo_4 {ρ : Type} (k : Nat → Int32 → Int32 → z_St → Option ρ) (ls : z_Lv) (st : List Value) (S : z_St) : Option ρ := z_gR ls 0 fun v0 => z_gI ls 1 fun v1 => z_gI ls 3 fun v3 => z_p0 st (k v0 v1 v3 S)
set_option maxRecDepth 100000 in
theorem r_X0_letGo_4 (n : Nat) (v0 : Nat) (v1 : Int32) (v3 : Int32) (S : z_St) : z_seg z_rV (c_X0_letGo) [4] (fun pc => cond (Nat.beq pc 4) (a_X0_letGo_4 (l_X0_letGo_4 n)) (fun _ _ _ => none)) 35 (z_to 4 (c_X0_letGo)) [(0, .ref v0), (1, .int v1), (3, .int v3)] [] S = l_X0_letGo_4 (n + 1) v0 v1 v3 S := rfl
set_option maxRecDepth 100000 in
theorem r_X0_letGo (v0 : Nat) (v1 : Int32) (v2 : Int32) (S : z_St) : z_seg z_rV (c_X0_letGo) [4] (fun pc => cond (Nat.beq pc 4) (a_X0_letGo_4 (l_X0_letGo_4 z_N)) (fun _ _ _ => none)) 35 (c_X0_letGo) [(0, .ref v0), (1, .int v1), (2, .int v2)] [] S = b_X0_letGo v0 v1 v2 S := rfl
def j_X11_bitsOf_217 (v2 : Int64) (v6 : Int32) (v9 : Int32) (t0 : UInt64) (S : z_St) : Option (Int64 × z_St) :=
let x12 := FP.d2l t0
let x13 := v6 + v9
if ((-1022 : Int32)) ≤ x13 then
(some ((v2 ||| (((x13 + ((1023 : Int32))).toInt64) <<< (((52 : Int32)).toInt64 &&& 63))) ||| (x12 &&& ((4503599627370495 : Int64))), S))
else
(some (v2 ||| (x12 >>> ((((-1022 : Int32)) - x13).toInt64 &&& 63)), S))
def l_X11_bitsOf_150 : Nat → Int64 → UInt64 → Int32 → Int64 → Int32 → Int32 → z_St → Option (Int64 × z_St)
  | 0 => fun _ _ _ _ _ _ _ => none
  | n + 1 => fun (v2 : Int64) (v4 : UInt64) (v6 : Int32) (v7 : Int64) (v9 : Int32) (v10 : Int32) (S : z_St) =>
if v10 < ((1 : Int32)) then
(if ((52 : Int32)) < v9 then
(z_nn (FP.ddiv v4 (FP.l2d (((1 : Int64)) <<< ((v9 - ((52 : Int32))).toInt64 &&& 63)))) (
j_X11_bitsOf_217 v2 v6 v9 (FP.ddiv v4 (FP.l2d (((1 : Int64)) <<< ((v9 - ((52 : Int32))).toInt64 &&& 63)))) S))
else
(z_nn (FP.dmul v4 (FP.l2d (((1 : Int64)) <<< ((((52 : Int32)) - v9).toInt64 &&& 63)))) (
j_X11_bitsOf_217 v2 v6 v9 (FP.dmul v4 (FP.l2d (((1 : Int64)) <<< ((((52 : Int32)) - v9).toInt64 &&& 63)))) S)))
else
(if (lg_cmp (v7 >>> ((v9 + v10).toInt64 &&& 63)) ((0 : Int64))) = 0 then
(let x9 := v10 >>> (((1 : Int32)) &&& 31)
l_X11_bitsOf_150 n v2 v4 v6 v7 v9 x9 S)
else
(let x10 := v9 + v10
let x11 := v10 >>> (((1 : Int32)) &&& 31)
l_X11_bitsOf_150 n v2 v4 v6 v7 x10 x11 S))
def l_X11_bitsOf_107 : Nat → Int64 → UInt64 → Int32 → Int32 → z_St → Option (Int64 × z_St)
  | 0 => fun _ _ _ _ _ => none
  | n + 1 => fun (v2 : Int64) (v4 : UInt64) (v6 : Int32) (v7 : Int32) (S : z_St) =>
if ((20 : Int32)) ≤ v7 then
(let x4 := FP.d2l v4
l_X11_bitsOf_150 z_N v2 v4 v6 x4 ((0 : Int32)) ((32 : Int32)) S)
else
(if 0 ≤ (Op.cmpValue (FP.dcmp v4 FP.dconst1) .g) then
(let x5 := FP.d2l v4
l_X11_bitsOf_150 z_N v2 v4 v6 x5 ((0 : Int32)) ((32 : Int32)) S)
else
(z_nn (FP.dmul v4 ((4877398396442247168 : UInt64))) (
let x6 := FP.dmul v4 ((4877398396442247168 : UInt64))
let x7 := v6 + (-60 : Int32)
let x8 := v7 + (1 : Int32)
l_X11_bitsOf_107 n v2 x6 x7 x8 S)))
def l_X11_bitsOf_71 : Nat → Int64 → UInt64 → Int32 → Int32 → z_St → Option (Int64 × z_St)
  | 0 => fun _ _ _ _ _ => none
  | n + 1 => fun (v2 : Int64) (v4 : UInt64) (v6 : Int32) (v7 : Int32) (S : z_St) =>
if ((20 : Int32)) ≤ v7 then
(l_X11_bitsOf_107 z_N v2 v4 v6 ((0 : Int32)) S)
else
(if (Op.cmpValue (FP.dcmp v4 ((4877398396442247168 : UInt64))) .l) < 0 then
(l_X11_bitsOf_107 z_N v2 v4 v6 ((0 : Int32)) S)
else
(z_nn (FP.dmul v4 ((4336966441157787648 : UInt64))) (
let x1 := FP.dmul v4 ((4336966441157787648 : UInt64))
let x2 := v6 + (60 : Int32)
let x3 := v7 + (1 : Int32)
l_X11_bitsOf_71 n v2 x1 x2 x3 S)))
def j_X11_bitsOf_48 (v2 : Int64) (t0 : UInt64) (S : z_St) : Option (Int64 × z_St) :=
if (Op.cmpValue (FP.dcmp t0 ((9218868437227405311 : UInt64))) .l) ≤ 0 then
(l_X11_bitsOf_71 z_N v2 t0 ((0 : Int32)) ((0 : Int32)) S)
else
(some (v2 ||| ((9218868437227405312 : Int64)), S))
def j_X11_bitsOf_35 (v0 : UInt64) (t0 : Int64) (S : z_St) : Option (Int64 × z_St) :=
if 0 ≤ (Op.cmpValue (FP.dcmp v0 FP.dconst0) .g) then
(j_X11_bitsOf_48 t0 v0 S)
else
(j_X11_bitsOf_48 t0 (FP.dneg v0) S)
def b_X11_bitsOf (v0 : UInt64) (S : z_St) : Option (Int64 × z_St) :=
if (Op.cmpValue (FP.dcmp v0 FP.dconst0) .l) = 0 then
(z_nn (FP.ddiv FP.dconst1 v0) (
if 0 ≤ (Op.cmpValue (FP.dcmp (FP.ddiv FP.dconst1 v0) FP.dconst0) .g) then
(some ((0 : Int64), S))
else
(some ((-9223372036854775808 : Int64), S))))
else
(if 0 ≤ (Op.cmpValue (FP.dcmp v0 FP.dconst0) .g) then
(j_X11_bitsOf_35 v0 ((0 : Int64)) S)
else
(j_X11_bitsOf_35 v0 ((-9223372036854775808 : Int64)) S))
def f_X11_bitsOf : UInt64 → z_St → Option (Int64 × z_St) := z_op (b_X11_bitsOf)
theorem e_X11_bitsOf (v0 : UInt64) (S : z_St) : f_X11_bitsOf v0 S = b_X11_bitsOf v0 S := congrFun (congrFun (z_op_eq (b_X11_bitsOf)) v0) S
def g_X11_bitsOf : z_G := .inr (.inl (fun as S => match as with
  | [.double v0] => f_X11_bitsOf v0 S
  | _ => none))
def c_X11_bitsOf : List z_E := [
  (0, .dload_n 0, 1, .null, [], z_g0),
  (1, .dconst 0, 1, .double FP.dconst0, [], z_g0),
  (2, .dcmp .l, 1, .null, [], z_g0),
  (3, .ifCond .ne 19, 3, .null, [22], z_g0),
  (6, .dconst 1, 1, .double FP.dconst1, [], z_g0),
  (7, .dload_n 0, 1, .null, [], z_g0),
  (8, .ddiv, 1, .null, [], z_g0),
  (9, .dconst 0, 1, .double FP.dconst0, [], z_g0),
  (10, .dcmp .g, 1, .null, [], z_g0),
  (11, .ifCond .ge 9, 3, .null, [20], z_g0),
  (14, .ldc2_w 537, 3, .long (-9223372036854775808 : Int64), [], z_g0),
  (17, .goto 4, 3, .null, [21], z_g0),
  (20, .lconst 0, 1, .long (0 : Int64), [], z_g0),
  (21, .lreturn, 1, .null, [], z_g0),
  (22, .dload_n 0, 1, .null, [], z_g0),
  (23, .dconst 0, 1, .double FP.dconst0, [], z_g0),
  (24, .dcmp .g, 1, .null, [], z_g0),
  (25, .ifCond .ge 9, 3, .null, [34], z_g0),
  (28, .ldc2_w 537, 3, .long (-9223372036854775808 : Int64), [], z_g0),
  (31, .goto 4, 3, .null, [35], z_g0),
  (34, .lconst 0, 1, .long (0 : Int64), [], z_g0),
  (35, .lstore_n 2, 1, .null, [], z_g0),
  (36, .dload_n 0, 1, .null, [], z_g0),
  (37, .dconst 0, 1, .double FP.dconst0, [], z_g0),
  (38, .dcmp .g, 1, .null, [], z_g0),
  (39, .ifCond .ge 8, 3, .null, [47], z_g0),
  (42, .dload_n 0, 1, .null, [], z_g0),
  (43, .dneg, 1, .null, [], z_g0),
  (44, .goto 4, 3, .null, [48], z_g0),
  (47, .dload_n 0, 1, .null, [], z_g0),
  (48, .dstore 4, 2, .null, [], z_g0),
  (50, .dload 4, 2, .null, [], z_g0),
  (52, .ldc2_w 562, 3, .double (9218868437227405311 : UInt64), [], z_g0),
  (55, .dcmp .l, 1, .null, [], z_g0),
  (56, .ifCond .le 9, 3, .null, [65], z_g0),
  (59, .lload_n 2, 1, .null, [], z_g0),
  (60, .ldc2_w 541, 3, .long (9218868437227405312 : Int64), [], z_g0),
  (63, .lor, 1, .null, [], z_g0),
  (64, .lreturn, 1, .null, [], z_g0),
  (65, .iconst 0, 1, .int ((0 : Int32)), [], z_g0),
  (66, .istore 6, 2, .null, [], z_g0),
  (68, .iconst 0, 1, .int ((0 : Int32)), [], z_g0),
  (69, .istore 7, 2, .null, [], z_g0),
  (71, .iload 7, 2, .null, [], z_g0),
  (73, .bipush 20, 2, .int ((20 : Int32)), [], z_g0),
  (75, .if_icmp .ge 29, 3, .null, [104], z_g0),
  (78, .dload 4, 2, .null, [], z_g0),
  (80, .ldc2_w 558, 3, .double (4877398396442247168 : UInt64), [], z_g0),
  (83, .dcmp .l, 1, .null, [], z_g0),
  (84, .ifCond .lt 20, 3, .null, [104], z_g0),
  (87, .dload 4, 2, .null, [], z_g0),
  (89, .ldc2_w 560, 3, .double (4336966441157787648 : UInt64), [], z_g0),
  (92, .dmul, 1, .null, [], z_g0),
  (93, .dstore 4, 2, .null, [], z_g0),
  (95, .iinc 6 60, 3, .int (60 : Int32), [], z_g0),
  (98, .iinc 7 1, 3, .int (1 : Int32), [], z_g0),
  (101, .goto (-30), 3, .null, [71], z_g0),
  (104, .iconst 0, 1, .int ((0 : Int32)), [], z_g0),
  (105, .istore 7, 2, .null, [], z_g0),
  (107, .iload 7, 2, .null, [], z_g0),
  (109, .bipush 20, 2, .int ((20 : Int32)), [], z_g0),
  (111, .if_icmp .ge 27, 3, .null, [138], z_g0),
  (114, .dload 4, 2, .null, [], z_g0),
  (116, .dconst 1, 1, .double FP.dconst1, [], z_g0),
  (117, .dcmp .g, 1, .null, [], z_g0),
  (118, .ifCond .ge 20, 3, .null, [138], z_g0),
  (121, .dload 4, 2, .null, [], z_g0),
  (123, .ldc2_w 558, 3, .double (4877398396442247168 : UInt64), [], z_g0),
  (126, .dmul, 1, .null, [], z_g0),
  (127, .dstore 4, 2, .null, [], z_g0),
  (129, .iinc 6 (-60), 3, .int (-60 : Int32), [], z_g0),
  (132, .iinc 7 1, 3, .int (1 : Int32), [], z_g0),
  (135, .goto (-28), 3, .null, [107], z_g0),
  (138, .dload 4, 2, .null, [], z_g0),
  (140, .d2l, 1, .null, [], z_g0),
  (141, .lstore 7, 2, .null, [], z_g0),
  (143, .iconst 0, 1, .int ((0 : Int32)), [], z_g0),
  (144, .istore 9, 2, .null, [], z_g0),
  (146, .bipush 32, 2, .int ((32 : Int32)), [], z_g0),
  (148, .istore 10, 2, .null, [], z_g0),
  (150, .iload 10, 2, .null, [], z_g0),
  (152, .iconst 1, 1, .int ((1 : Int32)), [], z_g0),
  (153, .if_icmp .lt 32, 3, .null, [185], z_g0),
  (156, .lload 7, 2, .null, [], z_g0),
  (158, .iload 9, 2, .null, [], z_g0),
  (160, .iload 10, 2, .null, [], z_g0),
  (162, .iadd, 1, .null, [], z_g0),
  (163, .lshr, 1, .null, [], z_g0),
  (164, .lconst 0, 1, .long (0 : Int64), [], z_g0),
  (165, .lcmp, 1, .null, [], z_g0),
  (166, .ifCond .eq 10, 3, .null, [176], z_g0),
  (169, .iload 9, 2, .null, [], z_g0),
  (171, .iload 10, 2, .null, [], z_g0),
  (173, .iadd, 1, .null, [], z_g0),
  (174, .istore 9, 2, .null, [], z_g0),
  (176, .iload 10, 2, .null, [], z_g0),
  (178, .iconst 1, 1, .int ((1 : Int32)), [], z_g0),
  (179, .ishr, 1, .null, [], z_g0),
  (180, .istore 10, 2, .null, [], z_g0),
  (182, .goto (-32), 3, .null, [150], z_g0),
  (185, .iload 9, 2, .null, [], z_g0),
  (187, .bipush 52, 2, .int ((52 : Int32)), [], z_g0),
  (189, .if_icmp .gt 17, 3, .null, [206], z_g0),
  (192, .dload 4, 2, .null, [], z_g0),
  (194, .lconst 1, 1, .long (1 : Int64), [], z_g0),
  (195, .bipush 52, 2, .int ((52 : Int32)), [], z_g0),
  (197, .iload 9, 2, .null, [], z_g0),
  (199, .isub, 1, .null, [], z_g0),
  (200, .lshl, 1, .null, [], z_g0),
  (201, .l2d, 1, .null, [], z_g0),
  (202, .dmul, 1, .null, [], z_g0),
  (203, .goto 14, 3, .null, [217], z_g0),
  (206, .dload 4, 2, .null, [], z_g0),
  (208, .lconst 1, 1, .long (1 : Int64), [], z_g0),
  (209, .iload 9, 2, .null, [], z_g0),
  (211, .bipush 52, 2, .int ((52 : Int32)), [], z_g0),
  (213, .isub, 1, .null, [], z_g0),
  (214, .lshl, 1, .null, [], z_g0),
  (215, .l2d, 1, .null, [], z_g0),
  (216, .ddiv, 1, .null, [], z_g0),
  (217, .d2l, 1, .null, [], z_g0),
  (218, .lstore 10, 2, .null, [], z_g0),
  (220, .iload 6, 2, .null, [], z_g0),
  (222, .iload 9, 2, .null, [], z_g0),
  (224, .iadd, 1, .null, [], z_g0),
  (225, .istore 6, 2, .null, [], z_g0),
  (227, .iload 6, 2, .null, [], z_g0),
  (229, .sipush (-1022), 3, .int ((-1022 : Int32)), [], z_g0),
  (232, .if_icmp .ge 15, 3, .null, [247], z_g0),
  (235, .lload_n 2, 1, .null, [], z_g0),
  (236, .lload 10, 2, .null, [], z_g0),
  (238, .sipush (-1022), 3, .int ((-1022 : Int32)), [], z_g0),
  (241, .iload 6, 2, .null, [], z_g0),
  (243, .isub, 1, .null, [], z_g0),
  (244, .lshr, 1, .null, [], z_g0),
  (245, .lor, 1, .null, [], z_g0),
  (246, .lreturn, 1, .null, [], z_g0),
  (247, .lload_n 2, 1, .null, [], z_g0),
  (248, .iload 6, 2, .null, [], z_g0),
  (250, .sipush 1023, 3, .int ((1023 : Int32)), [], z_g0),
  (253, .iadd, 1, .null, [], z_g0),
  (254, .i2l, 1, .null, [], z_g0),
  (255, .bipush 52, 2, .int ((52 : Int32)), [], z_g0),
  (257, .lshl, 1, .null, [], z_g0),
  (258, .lor, 1, .null, [], z_g0),
  (259, .lload 10, 2, .null, [], z_g0),
  (261, .ldc2_w 543, 3, .long (4503599627370495 : Int64), [], z_g0),
  (264, .land, 1, .null, [], z_g0),
  (265, .lor, 1, .null, [], z_g0),
  (266, .lreturn, 1, .null, [], z_g0)]
def a_X11_bitsOf_35 {ρ : Type} (k : UInt64 → Int64 → z_St → Option ρ) (ls : z_Lv) (st : List Value) (S : z_St) : Option ρ := z_gD ls 0 fun v0 => z_pJ st fun t0 s0 => z_p0 s0 (k v0 t0 S)
def a_X11_bitsOf_48 {ρ : Type} (k : Int64 → UInt64 → z_St → Option ρ) (ls : z_Lv) (st : List Value) (S : z_St) : Option ρ := z_gJ ls 2 fun v2 => z_pD st fun t0 s0 => z_p0 s0 (k v2 t0 S)
def a_X11_bitsOf_71 {ρ : Type} (k : Int64 → UInt64 → Int32 → Int32 → z_St → Option ρ) (ls : z_Lv) (st : List Value) (S : z_St) : Option ρ := z_gJ ls 2 fun v2 => z_gD ls 4 fun v4 => z_gI ls 6 fun v6 => z_gI ls 7 fun v7 => z_p0 st (k v2 v4 v6 v7 S)
def a_X11_bitsOf_107 {ρ : Type} (k : Int64 → UInt64 → Int32 → Int32 → z_St → Option ρ) (ls : z_Lv) (st : List Value) (S : z_St) : Option ρ := z_gJ ls 2 fun v2 => z_gD ls 4 fun v4 => z_gI ls 6 fun v6 => z_gI ls 7 fun v7 => z_p0 st (k v2 v4 v6 v7 S)
def a_X11_bitsOf_150 {ρ : Type} (k : Int64 → UInt64 → Int32 → Int64 → Int32 → Int32 → z_St → Option ρ) (ls : z_Lv) (st : List Value) (S : z_St) : Option ρ := z_gJ ls 2 fun v2 => z_gD ls 4 fun v4 => z_gI ls 6 fun v6 => z_gJ ls 7 fun v7 => z_gI ls 9 fun v9 => z_gI ls 10 fun v10 => z_p0 st (k v2 v4 v6 v7 v9 v10 S)
def a_X11_bitsOf_217 {ρ : Type} (k : Int64 → Int32 → Int32 → UInt64 → z_St → Option ρ) (ls : z_Lv) (st : List Value) (S : z_St) : Option ρ := z_gJ ls 2 fun v2 => z_gI ls 6 fun v6 => z_gI ls 9 fun v9 => z_pD st fun t0 s0 => z_p0 s0 (k v2 v6 v9 t0 S)
set_option maxRecDepth 100000 in
theorem r_X11_bitsOf_217 (v2 : Int64) (v6 : Int32) (v9 : Int32) (t0 : UInt64) (S : z_St) : z_seg z_rL (c_X11_bitsOf) [35, 48, 71, 107, 150, 217] (fun pc => fun _ _ _ => none) 153 (z_to 217 (c_X11_bitsOf)) [(2, .long v2), (6, .int v6), (9, .int v9)] [.double t0] S = j_X11_bitsOf_217 v2 v6 v9 t0 S := rfl
set_option maxRecDepth 100000 in
theorem r_X11_bitsOf_150 (n : Nat) (v2 : Int64) (v4 : UInt64) (v6 : Int32) (v7 : Int64) (v9 : Int32) (v10 : Int32) (S : z_St) : z_seg z_rL (c_X11_bitsOf) [35, 48, 71, 107, 150, 217] (fun pc => cond (Nat.beq pc 150) (a_X11_bitsOf_150 (l_X11_bitsOf_150 n)) (cond (Nat.beq pc 217) (a_X11_bitsOf_217 (j_X11_bitsOf_217)) (fun _ _ _ => none))) 153 (z_to 150 (c_X11_bitsOf)) [(2, .long v2), (4, .double v4), (6, .int v6), (7, .long v7), (9, .int v9), (10, .int v10)] [] S = l_X11_bitsOf_150 (n + 1) v2 v4 v6 v7 v9 v10 S := rfl
set_option maxRecDepth 100000 in
theorem r_X11_bitsOf_107 (n : Nat) (v2 : Int64) (v4 : UInt64) (v6 : Int32) (v7 : Int32) (S : z_St) : z_seg z_rL (c_X11_bitsOf) [35, 48, 71, 107, 150, 217] (fun pc => cond (Nat.beq pc 107) (a_X11_bitsOf_107 (l_X11_bitsOf_107 n)) (cond (Nat.beq pc 150) (a_X11_bitsOf_150 (l_X11_bitsOf_150 z_N)) (fun _ _ _ => none))) 153 (z_to 107 (c_X11_bitsOf)) [(2, .long v2), (4, .double v4), (6, .int v6), (7, .int v7)] [] S = l_X11_bitsOf_107 (n + 1) v2 v4 v6 v7 S := rfl
set_option maxRecDepth 100000 in
theorem r_X11_bitsOf_71 (n : Nat) (v2 : Int64) (v4 : UInt64) (v6 : Int32) (v7 : Int32) (S : z_St) : z_seg z_rL (c_X11_bitsOf) [35, 48, 71, 107, 150, 217] (fun pc => cond (Nat.beq pc 71) (a_X11_bitsOf_71 (l_X11_bitsOf_71 n)) (cond (Nat.beq pc 107) (a_X11_bitsOf_107 (l_X11_bitsOf_107 z_N)) (fun _ _ _ => none))) 153 (z_to 71 (c_X11_bitsOf)) [(2, .long v2), (4, .double v4), (6, .int v6), (7, .int v7)] [] S = l_X11_bitsOf_71 (n + 1) v2 v4 v6 v7 S := rfl
set_option maxRecDepth 100000 in
theorem r_X11_bitsOf_48 (v2 : Int64) (t0 : UInt64) (S : z_St) : z_seg z_rL (c_X11_bitsOf) [35, 48, 71, 107, 150, 217] (fun pc => cond (Nat.beq pc 71) (a_X11_bitsOf_71 (l_X11_bitsOf_71 z_N)) (fun _ _ _ => none)) 153 (z_to 48 (c_X11_bitsOf)) [(2, .long v2)] [.double t0] S = j_X11_bitsOf_48 v2 t0 S := rfl
set_option maxRecDepth 100000 in
theorem r_X11_bitsOf_35 (v0 : UInt64) (t0 : Int64) (S : z_St) : z_seg z_rL (c_X11_bitsOf) [35, 48, 71, 107, 150, 217] (fun pc => cond (Nat.beq pc 48) (a_X11_bitsOf_48 (j_X11_bitsOf_48)) (fun _ _ _ => none)) 153 (z_to 35 (c_X11_bitsOf)) [(0, .double v0)] [.long t0] S = j_X11_bitsOf_35 v0 t0 S := rfl
set_option maxRecDepth 100000 in
theorem r_X11_bitsOf (v0 : UInt64) (S : z_St) : z_seg z_rL (c_X11_bitsOf) [35, 48, 71, 107, 150, 217] (fun pc => cond (Nat.beq pc 35) (a_X11_bitsOf_35 (j_X11_bitsOf_35)) (fun _ _ _ => none)) 153 (c_X11_bitsOf) [(0, .double v0)] [] S = b_X11_bitsOf v0 S := rfl
def b_X8_cellOfWhole (v0 : Int32) (v1 : Int64) (S : z_St) : Option (Int64 × z_St) :=
if v0 = (0 : Int32) then
(some (v1.toInt32.toInt16.toInt32.toInt64, S))
else
if v0 = (1 : Int32) then
(some (v1.toInt32.toInt64, S))
else
if v0 = (2 : Int32) then
(z_nn (FP.f2d (FP.l2f v1)) (
(f_X11_bitsOf (FP.f2d (FP.l2f v1)) S).bind fun q1 =>
some (q1.1, q1.2)))
else
if v0 = (3 : Int32) then
((f_X11_bitsOf (FP.l2d v1) S).bind fun q2 =>
some (q2.1, q2.2))
else
if v0 = (4 : Int32) then
(some (((v1.toInt32.toUInt32 % 65536).toInt32).toInt64, S))
else
if v0 = (5 : Int32) then
(some (v1.toInt32.toInt8.toInt32.toInt64, S))
else
if v0 = (6 : Int32) then
(if (lg_cmp v1 ((0 : Int64))) = 0 then
(some ((0 : Int64), S))
else
(some ((1 : Int64), S)))
else
(some (v1, S))
def f_X8_cellOfWhole : Int32 → Int64 → z_St → Option (Int64 × z_St) := z_op (b_X8_cellOfWhole)
theorem e_X8_cellOfWhole (v0 : Int32) (v1 : Int64) (S : z_St) : f_X8_cellOfWhole v0 v1 S = b_X8_cellOfWhole v0 v1 S := congrFun (congrFun (congrFun (z_op_eq (b_X8_cellOfWhole)) v0) v1) S
def g_X8_cellOfWhole : z_G := .inr (.inl (fun as S => match as with
  | [.int v0, .long v1] => f_X8_cellOfWhole v0 v1 S
  | _ => none))
def c_X8_cellOfWhole : List z_E := [
  (0, .iload_n 0, 1, .null, [], z_g0),
  (1, .tableswitch 87 0 6 #[43, 48, 52, 59, 65, 70, 75], 43, .null, [88, 0, 44, 49, 53, 60, 66, 71, 76], z_g0),
  (44, .lload_n 1, 1, .null, [], z_g0),
  (45, .l2i, 1, .null, [], z_g0),
  (46, .i2s, 1, .null, [], z_g0),
  (47, .i2l, 1, .null, [], z_g0),
  (48, .lreturn, 1, .null, [], z_g0),
  (49, .lload_n 1, 1, .null, [], z_g0),
  (50, .l2i, 1, .null, [], z_g0),
  (51, .i2l, 1, .null, [], z_g0),
  (52, .lreturn, 1, .null, [], z_g0),
  (53, .lload_n 1, 1, .null, [], z_g0),
  (54, .l2f, 1, .null, [], z_g0),
  (55, .f2d, 1, .null, [], z_g0),
  (56, .invokestatic 19, 3, .null, [0, 0], g_X11_bitsOf),
  (59, .lreturn, 1, .null, [], z_g0),
  (60, .lload_n 1, 1, .null, [], z_g0),
  (61, .l2d, 1, .null, [], z_g0),
  (62, .invokestatic 19, 3, .null, [0, 0], g_X11_bitsOf),
  (65, .lreturn, 1, .null, [], z_g0),
  (66, .lload_n 1, 1, .null, [], z_g0),
  (67, .l2i, 1, .null, [], z_g0),
  (68, .i2c, 1, .null, [], z_g0),
  (69, .i2l, 1, .null, [], z_g0),
  (70, .lreturn, 1, .null, [], z_g0),
  (71, .lload_n 1, 1, .null, [], z_g0),
  (72, .l2i, 1, .null, [], z_g0),
  (73, .i2b, 1, .null, [], z_g0),
  (74, .i2l, 1, .null, [], z_g0),
  (75, .lreturn, 1, .null, [], z_g0),
  (76, .lload_n 1, 1, .null, [], z_g0),
  (77, .lconst 0, 1, .long (0 : Int64), [], z_g0),
  (78, .lcmp, 1, .null, [], z_g0),
  (79, .ifCond .eq 7, 3, .null, [86], z_g0),
  (82, .lconst 1, 1, .long (1 : Int64), [], z_g0),
  (83, .goto 4, 3, .null, [87], z_g0),
  (86, .lconst 0, 1, .long (0 : Int64), [], z_g0),
  (87, .lreturn, 1, .null, [], z_g0),
  (88, .lload_n 1, 1, .null, [], z_g0),
  (89, .lreturn, 1, .null, [], z_g0)]
set_option maxRecDepth 100000 in
theorem r_X8_cellOfWhole (v0 : Int32) (v1 : Int64) (S : z_St) : z_seg z_rL (c_X8_cellOfWhole) [] (fun pc => fun _ _ _ => none) 43 (c_X8_cellOfWhole) [(0, .int v0), (1, .long v1)] [] S = b_X8_cellOfWhole v0 v1 S := rfl
def b_X8_hasCell (v0 : Nat) (v1 : Int32) (S : z_St) : Option (Int32 × z_St) :=
if v1 < 0 then
(z_rb ((0 : Int32)) S)
else
(z_chk S v0 9 (
z_onV (va_rf (z_r S v0 1)) fun b1 =>
z_chk S b1 102 (
if (Int32.ofNat (z_n S b1)) ≤ v1 then
(z_rb ((0 : Int32)) S)
else
(z_rb ((1 : Int32)) S))))
def f_X8_hasCell : Nat → Int32 → z_St → Option (Int32 × z_St) := z_op (b_X8_hasCell)
theorem e_X8_hasCell (v0 : Nat) (v1 : Int32) (S : z_St) : f_X8_hasCell v0 v1 S = b_X8_hasCell v0 v1 S := congrFun (congrFun (congrFun (z_op_eq (b_X8_hasCell)) v0) v1) S
def g_X8_hasCell : z_G := .inl (fun as S => match as with
  | [.ref v0, .int v1] => f_X8_hasCell v0 v1 S
  | _ => none)
def c_X8_hasCell : List z_E := [
  (0, .iload_n 1, 1, .null, [], z_g0),
  (1, .ifCond .lt 16, 3, .null, [17], z_g0),
  (4, .iload_n 1, 1, .null, [], z_g0),
  (5, .aload_n 0, 1, .null, [], z_g0),
  (6, .getfield 15, 3, .null, [9, 1, 3], z_g0),
  (9, .arraylength, 1, .null, [102], z_g0),
  (10, .if_icmp .ge 7, 3, .null, [17], z_g0),
  (13, .iconst 1, 1, .int ((1 : Int32)), [], z_g0),
  (14, .goto 4, 3, .null, [18], z_g0),
  (17, .iconst 0, 1, .int ((0 : Int32)), [], z_g0),
  (18, .ireturn, 1, .null, [], z_g0)]
set_option maxRecDepth 100000 in
theorem r_X8_hasCell (v0 : Nat) (v1 : Int32) (S : z_St) : z_seg z_rZ (c_X8_hasCell) [] (fun pc => fun _ _ _ => none) 14 (c_X8_hasCell) [(0, .ref v0), (1, .int v1)] [] S = b_X8_hasCell v0 v1 S := rfl
def b_X0_putCell (v0 : Nat) (v1 : Nat) (v2 : Int32) (v3 : Int32) (v4 : Int32) (S : z_St) : Option (Int64 × z_St) :=
if v2 < 0 then
((f_X0_outcomeOf ((1 : Int32)) ((0 : Int32)) S).bind fun q1 =>
some (q1.1, q1.2))
else
(z_chk S v1 110 (
if (Int32.ofNat (z_n S v1)) ≤ v2 then
((f_X0_outcomeOf ((1 : Int32)) ((0 : Int32)) S).bind fun q2 =>
some (q2.1, q2.2))
else
(z_inb S v1 110 v2 (
z_nul (va_rf (z_r S v1 v2.toNatClampNeg)) (
(f_X0_outcomeOf ((1 : Int32)) ((0 : Int32)) S).bind fun q20 =>
some (q20.1, q20.2)) (
z_inb S v1 110 v2 (
z_onV (va_rf (z_r S v1 v2.toNatClampNeg)) fun b3 =>
z_chk S b3 9 (
(f_X8_hasCell b3 v3 S).bind fun q4 =>
if q4.1 = 0 then
((f_X0_outcomeOf ((2 : Int32)) ((0 : Int32)) q4.2).bind fun q19 =>
some (q19.1, q19.2))
else
(z_chk q4.2 v0 1 (
z_chk q4.2 v0 1 (
z_onV (va_rf (z_r q4.2 v0 10)) fun b5 =>
z_inb q4.2 b5 101 ((z_i q4.2 v0 13)) (
let S6 := z_wi q4.2 b5 ((z_i q4.2 v0 13)).toNatClampNeg v2
z_chk S6 v0 1 (
z_chk S6 v0 1 (
z_onV (va_rf (z_r S6 v0 11)) fun b7 =>
z_inb S6 b7 101 ((z_i S6 v0 13)) (
let S8 := z_wi S6 b7 ((z_i S6 v0 13)).toNatClampNeg v3
z_chk S8 v0 1 (
z_chk S8 v0 1 (
z_inb S8 v1 110 v2 (
z_onV (va_rf (z_r S8 v1 v2.toNatClampNeg)) fun b9 =>
z_chk S8 b9 9 (
z_onV (va_rf (z_r S8 b9 1)) fun b10 =>
z_inb S8 b10 102 v3 (
z_onV (va_rf (z_r S8 v0 12)) fun b11 =>
z_inb S8 b11 102 ((z_i S8 v0 13)) (
let S12 := z_wl S8 b11 ((z_i S8 v0 13)).toNatClampNeg ((z_l S8 b10 v3.toNatClampNeg))
z_chk S12 v0 1 (
z_chk S12 v0 1 (
let S13 := z_wi S12 v0 13 (((z_i S12 v0 13)) + ((1 : Int32)))
z_inb S13 v1 110 v2 (
z_onV (va_rf (z_r S13 v1 v2.toNatClampNeg)) fun b14 =>
z_chk S13 b14 9 (
z_inb S13 v1 110 v2 (
z_onV (va_rf (z_r S13 v1 v2.toNatClampNeg)) fun b15 =>
z_chk S13 b15 9 (
(f_X8_cellOfWhole ((z_i S13 b15 0)) v4.toInt64 S13).bind fun q16 =>
z_onV (va_rf (z_r S13 b14 1)) fun b17 =>
z_inb q16.2 b17 102 v3 (
let S18 := z_wl q16.2 b17 v3.toNatClampNeg q16.1
some ((0 : Int64), S18))))))))))))))))))))))))))))
def f_X0_putCell : Nat → Nat → Int32 → Int32 → Int32 → z_St → Option (Int64 × z_St) := z_op (b_X0_putCell)
theorem e_X0_putCell (v0 : Nat) (v1 : Nat) (v2 : Int32) (v3 : Int32) (v4 : Int32) (S : z_St) : f_X0_putCell v0 v1 v2 v3 v4 S = b_X0_putCell v0 v1 v2 v3 v4 S := congrFun (congrFun (congrFun (congrFun (congrFun (congrFun (z_op_eq (b_X0_putCell)) v0) v1) v2) v3) v4) S
def g_X0_putCell : z_G := .inr (.inl (fun as S => match as with
  | [.ref v0, .ref v1, .int v2, .int v3, .int v4] => f_X0_putCell v0 v1 v2 v3 v4 S
  | _ => none))
def c_X0_putCell : List z_E := [
  (0, .iload_n 2, 1, .null, [], z_g0),
  (1, .ifCond .lt 15, 3, .null, [16], z_g0),
  (4, .iload_n 2, 1, .null, [], z_g0),
  (5, .aload_n 1, 1, .null, [], z_g0),
  (6, .arraylength, 1, .null, [110], z_g0),
  (7, .if_icmp .ge 9, 3, .null, [16], z_g0),
  (10, .aload_n 1, 1, .null, [], z_g0),
  (11, .iload_n 2, 1, .null, [], z_g0),
  (12, .aaload, 1, .null, [110], z_g0),
  (13, .ifnonnull 9, 3, .null, [22], z_g0),
  (16, .iconst 1, 1, .int ((1 : Int32)), [], z_g0),
  (17, .iconst 0, 1, .int ((0 : Int32)), [], z_g0),
  (18, .invokestatic 84, 3, .null, [0, 0, 0], g_X0_outcomeOf),
  (21, .lreturn, 1, .null, [], z_g0),
  (22, .aload_n 1, 1, .null, [], z_g0),
  (23, .iload_n 2, 1, .null, [], z_g0),
  (24, .aaload, 1, .null, [110], z_g0),
  (25, .iload_n 3, 1, .null, [], z_g0),
  (26, .invokevirtual 116, 3, .null, [1, 9, 0], g_X8_hasCell),
  (29, .ifCond .ne 9, 3, .null, [38], z_g0),
  (32, .iconst 2, 1, .int ((2 : Int32)), [], z_g0),
  (33, .iconst 0, 1, .int ((0 : Int32)), [], z_g0),
  (34, .invokestatic 84, 3, .null, [0, 0, 0], g_X0_outcomeOf),
  (37, .lreturn, 1, .null, [], z_g0),
  (38, .aload_n 0, 1, .null, [], z_g0),
  (39, .getfield 27, 3, .null, [1, 10, 3], z_g0),
  (42, .aload_n 0, 1, .null, [], z_g0),
  (43, .getfield 55, 3, .null, [1, 13, 0], z_g0),
  (46, .iload_n 2, 1, .null, [], z_g0),
  (47, .iastore, 1, .null, [], z_g0),
  (48, .aload_n 0, 1, .null, [], z_g0),
  (49, .getfield 30, 3, .null, [1, 11, 3], z_g0),
  (52, .aload_n 0, 1, .null, [], z_g0),
  (53, .getfield 55, 3, .null, [1, 13, 0], z_g0),
  (56, .iload_n 3, 1, .null, [], z_g0),
  (57, .iastore, 1, .null, [], z_g0),
  (58, .aload_n 0, 1, .null, [], z_g0),
  (59, .getfield 33, 3, .null, [1, 12, 3], z_g0),
  (62, .aload_n 0, 1, .null, [], z_g0),
  (63, .getfield 55, 3, .null, [1, 13, 0], z_g0),
  (66, .aload_n 1, 1, .null, [], z_g0),
  (67, .iload_n 2, 1, .null, [], z_g0),
  (68, .aaload, 1, .null, [110], z_g0),
  (69, .getfield 79, 3, .null, [9, 1, 3], z_g0),
  (72, .iload_n 3, 1, .null, [], z_g0),
  (73, .laload, 1, .null, [], z_g0),
  (74, .lastore, 1, .null, [], z_g0),
  (75, .aload_n 0, 1, .null, [], z_g0),
  (76, .dup, 1, .null, [], z_g0),
  (77, .getfield 55, 3, .null, [1, 13, 0], z_g0),
  (80, .iconst 1, 1, .int ((1 : Int32)), [], z_g0),
  (81, .iadd, 1, .null, [], z_g0),
  (82, .putfield 55, 3, .null, [1, 13, 0], z_g0),
  (85, .aload_n 1, 1, .null, [], z_g0),
  (86, .iload_n 2, 1, .null, [], z_g0),
  (87, .aaload, 1, .null, [110], z_g0),
  (88, .getfield 79, 3, .null, [9, 1, 3], z_g0),
  (91, .iload_n 3, 1, .null, [], z_g0),
  (92, .aload_n 1, 1, .null, [], z_g0),
  (93, .iload_n 2, 1, .null, [], z_g0),
  (94, .aaload, 1, .null, [110], z_g0),
  (95, .getfield 120, 3, .null, [9, 0, 0], z_g0),
  (98, .iload 4, 2, .null, [], z_g0),
  (100, .i2l, 1, .null, [], z_g0),
  (101, .invokestatic 123, 3, .null, [0, 0, 0], g_X8_cellOfWhole),
  (104, .lastore, 1, .null, [], z_g0),
  (105, .lconst 0, 1, .long (0 : Int64), [], z_g0),
  (106, .lreturn, 1, .null, [], z_g0)]
set_option maxRecDepth 100000 in
theorem r_X0_putCell (v0 : Nat) (v1 : Nat) (v2 : Int32) (v3 : Int32) (v4 : Int32) (S : z_St) : z_seg z_rL (c_X0_putCell) [] (fun pc => fun _ _ _ => none) 71 (c_X0_putCell) [(0, .ref v0), (1, .ref v1), (2, .int v2), (3, .int v3), (4, .int v4)] [] S = b_X0_putCell v0 v1 v2 v3 v4 S := rfl
def b_X0_takeLitres (v0 : Nat) (v1 : Int32) (S : z_St) : Option (Int64 × z_St) :=
z_chk S v0 1 (
if (lg_cmp v1.toInt64 ((z_l S v0 2))) ≤ 0 then
(z_chk S v0 1 (
z_chk S v0 1 (
let S1 := z_wl S v0 2 (((z_l S v0 2)) - v1.toInt64)
some ((0 : Int64), S1))))
else
((f_X0_outcomeOf ((8 : Int32)) ((1 : Int32)) S).bind fun q2 =>
some (q2.1, q2.2)))
def f_X0_takeLitres : Nat → Int32 → z_St → Option (Int64 × z_St) := z_op (b_X0_takeLitres)
theorem e_X0_takeLitres (v0 : Nat) (v1 : Int32) (S : z_St) : f_X0_takeLitres v0 v1 S = b_X0_takeLitres v0 v1 S := congrFun (congrFun (congrFun (z_op_eq (b_X0_takeLitres)) v0) v1) S
def g_X0_takeLitres : z_G := .inr (.inl (fun as S => match as with
  | [.ref v0, .int v1] => f_X0_takeLitres v0 v1 S
  | _ => none))
def c_X0_takeLitres : List z_E := [
  (0, .iload_n 1, 1, .null, [], z_g0),
  (1, .i2l, 1, .null, [], z_g0),
  (2, .aload_n 0, 1, .null, [], z_g0),
  (3, .getfield 58, 3, .null, [1, 2, 1], z_g0),
  (6, .lcmp, 1, .null, [], z_g0),
  (7, .ifCond .le 10, 3, .null, [17], z_g0),
  (10, .bipush 8, 2, .int ((8 : Int32)), [], z_g0),
  (12, .iconst 1, 1, .int ((1 : Int32)), [], z_g0),
  (13, .invokestatic 84, 3, .null, [0, 0, 0], g_X0_outcomeOf),
  (16, .lreturn, 1, .null, [], z_g0),
  (17, .aload_n 0, 1, .null, [], z_g0),
  (18, .dup, 1, .null, [], z_g0),
  (19, .getfield 58, 3, .null, [1, 2, 1], z_g0),
  (22, .iload_n 1, 1, .null, [], z_g0),
  (23, .i2l, 1, .null, [], z_g0),
  (24, .lsub, 1, .null, [], z_g0),
  (25, .putfield 58, 3, .null, [1, 2, 1], z_g0),
  (28, .lconst 0, 1, .long (0 : Int64), [], z_g0),
  (29, .lreturn, 1, .null, [], z_g0)]
set_option maxRecDepth 100000 in
theorem r_X0_takeLitres (v0 : Nat) (v1 : Int32) (S : z_St) : z_seg z_rL (c_X0_takeLitres) [] (fun pc => fun _ _ _ => none) 22 (c_X0_takeLitres) [(0, .ref v0), (1, .int v1)] [] S = b_X0_takeLitres v0 v1 S := rfl
def b_J9_max_f86c9 (v0 : Int64) (v2 : Int64) (S : z_St) : Option (Int64 × z_St) :=
if (lg_cmp v0 v2) < 0 then
(some (v2, S))
else
(some (v0, S))
def f_J9_max_f86c9 : Int64 → Int64 → z_St → Option (Int64 × z_St) := z_op (b_J9_max_f86c9)
theorem e_J9_max_f86c9 (v0 : Int64) (v2 : Int64) (S : z_St) : f_J9_max_f86c9 v0 v2 S = b_J9_max_f86c9 v0 v2 S := congrFun (congrFun (congrFun (z_op_eq (b_J9_max_f86c9)) v0) v2) S
def g_J9_max_f86c9 : z_G := .inr (.inl (fun as S => match as with
  | [.long v0, .long v2] => f_J9_max_f86c9 v0 v2 S
  | _ => none))
def c_J9_max_f86c9 : List z_E := [
  (0, .lload_n 0, 1, .null, [], z_g0),
  (1, .lload_n 2, 1, .null, [], z_g0),
  (2, .lcmp, 1, .null, [], z_g0),
  (3, .ifCond .lt 7, 3, .null, [10], z_g0),
  (6, .lload_n 0, 1, .null, [], z_g0),
  (7, .goto 4, 3, .null, [11], z_g0),
  (10, .lload_n 2, 1, .null, [], z_g0),
  (11, .lreturn, 1, .null, [], z_g0)]
set_option maxRecDepth 100000 in
theorem r_J9_max_f86c9 (v0 : Int64) (v2 : Int64) (S : z_St) : z_seg z_rL (c_J9_max_f86c9) [] (fun pc => fun _ _ _ => none) 11 (c_J9_max_f86c9) [(0, .long v0), (2, .long v2)] [] S = b_J9_max_f86c9 v0 v2 S := rfl
def b_J9_min_f86c9 (v0 : Int64) (v2 : Int64) (S : z_St) : Option (Int64 × z_St) :=
if 0 < (lg_cmp v0 v2) then
(some (v2, S))
else
(some (v0, S))
def f_J9_min_f86c9 : Int64 → Int64 → z_St → Option (Int64 × z_St) := z_op (b_J9_min_f86c9)
theorem e_J9_min_f86c9 (v0 : Int64) (v2 : Int64) (S : z_St) : f_J9_min_f86c9 v0 v2 S = b_J9_min_f86c9 v0 v2 S := congrFun (congrFun (congrFun (z_op_eq (b_J9_min_f86c9)) v0) v2) S
def g_J9_min_f86c9 : z_G := .inr (.inl (fun as S => match as with
  | [.long v0, .long v2] => f_J9_min_f86c9 v0 v2 S
  | _ => none))
def c_J9_min_f86c9 : List z_E := [
  (0, .lload_n 0, 1, .null, [], z_g0),
  (1, .lload_n 2, 1, .null, [], z_g0),
  (2, .lcmp, 1, .null, [], z_g0),
  (3, .ifCond .gt 7, 3, .null, [10], z_g0),
  (6, .lload_n 0, 1, .null, [], z_g0),
  (7, .goto 4, 3, .null, [11], z_g0),
  (10, .lload_n 2, 1, .null, [], z_g0),
  (11, .lreturn, 1, .null, [], z_g0)]
set_option maxRecDepth 100000 in
theorem r_J9_min_f86c9 (v0 : Int64) (v2 : Int64) (S : z_St) : z_seg z_rL (c_J9_min_f86c9) [] (fun pc => fun _ _ _ => none) 11 (c_J9_min_f86c9) [(0, .long v0), (2, .long v2)] [] S = b_J9_min_f86c9 v0 v2 S := rfl
def b_X0_turnGate (v0 : Nat) (v1 : Int32) (v2 : Int32) (S : z_St) : Option (Int64 × z_St) :=
z_chk S v0 1 (
z_onV (va_rf (z_r S v0 3)) fun b1 =>
z_inb S b1 101 v1 (
if ((z_i S b1 v1.toNatClampNeg)) = 0 then
((f_X0_outcomeOf ((7 : Int32)) ((0 : Int32)) S).bind fun q7 =>
some (q7.1, q7.2))
else
(z_chk S v0 1 (
z_chk S v0 1 (
z_onV (va_rf (z_r S v0 4)) fun b2 =>
z_inb S b2 101 v1 (
(f_J9_min_f86c9 ((100 : Int64)) ((((z_i S b2 v1.toNatClampNeg)).toInt64) + v2.toInt64) S).bind fun q3 =>
(f_J9_max_f86c9 ((0 : Int64)) q3.1 q3.2).bind fun q4 =>
z_onV (va_rf (z_r S v0 4)) fun b5 =>
z_inb q4.2 b5 101 v1 (
let S6 := z_wi q4.2 b5 v1.toNatClampNeg q4.1.toInt32
some ((0 : Int64), S6))))))))
def f_X0_turnGate : Nat → Int32 → Int32 → z_St → Option (Int64 × z_St) := z_op (b_X0_turnGate)
theorem e_X0_turnGate (v0 : Nat) (v1 : Int32) (v2 : Int32) (S : z_St) : f_X0_turnGate v0 v1 v2 S = b_X0_turnGate v0 v1 v2 S := congrFun (congrFun (congrFun (congrFun (z_op_eq (b_X0_turnGate)) v0) v1) v2) S
def g_X0_turnGate : z_G := .inr (.inl (fun as S => match as with
  | [.ref v0, .int v1, .int v2] => f_X0_turnGate v0 v1 v2 S
  | _ => none))
def c_X0_turnGate : List z_E := [
  (0, .aload_n 0, 1, .null, [], z_g0),
  (1, .getfield 18, 3, .null, [1, 3, 3], z_g0),
  (4, .iload_n 1, 1, .null, [], z_g0),
  (5, .iaload, 1, .null, [101], z_g0),
  (6, .ifCond .ne 10, 3, .null, [16], z_g0),
  (9, .bipush 7, 2, .int ((7 : Int32)), [], z_g0),
  (11, .iconst 0, 1, .int ((0 : Int32)), [], z_g0),
  (12, .invokestatic 84, 3, .null, [0, 0, 0], g_X0_outcomeOf),
  (15, .lreturn, 1, .null, [], z_g0),
  (16, .aload_n 0, 1, .null, [], z_g0),
  (17, .getfield 21, 3, .null, [1, 4, 3], z_g0),
  (20, .iload_n 1, 1, .null, [], z_g0),
  (21, .lconst 0, 1, .long (0 : Int64), [], z_g0),
  (22, .ldc2_w 127, 3, .long (100 : Int64), [], z_g0),
  (25, .aload_n 0, 1, .null, [], z_g0),
  (26, .getfield 21, 3, .null, [1, 4, 3], z_g0),
  (29, .iload_n 1, 1, .null, [], z_g0),
  (30, .iaload, 1, .null, [101], z_g0),
  (31, .i2l, 1, .null, [], z_g0),
  (32, .iload_n 2, 1, .null, [], z_g0),
  (33, .i2l, 1, .null, [], z_g0),
  (34, .ladd, 1, .null, [], z_g0),
  (35, .invokestatic 129, 3, .null, [0, 0, 0], g_J9_min_f86c9),
  (38, .invokestatic 135, 3, .null, [0, 0, 0], g_J9_max_f86c9),
  (41, .l2i, 1, .null, [], z_g0),
  (42, .iastore, 1, .null, [], z_g0),
  (43, .lconst 0, 1, .long (0 : Int64), [], z_g0),
  (44, .lreturn, 1, .null, [], z_g0)]
set_option maxRecDepth 100000 in
theorem r_X0_turnGate (v0 : Nat) (v1 : Int32) (v2 : Int32) (S : z_St) : z_seg z_rL (c_X0_turnGate) [] (fun pc => fun _ _ _ => none) 31 (c_X0_turnGate) [(0, .ref v0), (1, .int v1), (2, .int v2)] [] S = b_X0_turnGate v0 v1 v2 S := rfl
def b_X0_keepSignal (v0 : Nat) (v1 : Int32) (S : z_St) : Option z_St :=
z_chk S v0 1 (
if ((z_i S v0 6)) < ((60 : Int32)) then
(z_chk S v0 1 (
z_chk S v0 1 (
z_onV (va_rf (z_r S v0 5)) fun b1 =>
z_inb S b1 101 ((z_i S v0 6)) (
let S2 := z_wi S b1 ((z_i S v0 6)).toNatClampNeg v1
z_chk S2 v0 1 (
z_chk S2 v0 1 (
let S3 := z_wi S2 v0 6 (((z_i S2 v0 6)) + ((1 : Int32)))
some S3))))))
else
(some S))
def f_X0_keepSignal : Nat → Int32 → z_St → Option z_St := z_op (b_X0_keepSignal)
theorem e_X0_keepSignal (v0 : Nat) (v1 : Int32) (S : z_St) : f_X0_keepSignal v0 v1 S = b_X0_keepSignal v0 v1 S := congrFun (congrFun (congrFun (z_op_eq (b_X0_keepSignal)) v0) v1) S
def g_X0_keepSignal : z_G := .inr (.inr (.inr (fun as S => match as with
  | [.ref v0, .int v1] => f_X0_keepSignal v0 v1 S
  | _ => none)))
def c_X0_keepSignal : List z_E := [
  (0, .aload_n 0, 1, .null, [], z_g0),
  (1, .getfield 138, 3, .null, [1, 6, 0], z_g0),
  (4, .bipush 60, 2, .int ((60 : Int32)), [], z_g0),
  (6, .if_icmp .lt 4, 3, .null, [10], z_g0),
  (9, .return_, 1, .null, [], z_g0),
  (10, .aload_n 0, 1, .null, [], z_g0),
  (11, .getfield 24, 3, .null, [1, 5, 3], z_g0),
  (14, .aload_n 0, 1, .null, [], z_g0),
  (15, .getfield 138, 3, .null, [1, 6, 0], z_g0),
  (18, .iload_n 1, 1, .null, [], z_g0),
  (19, .iastore, 1, .null, [], z_g0),
  (20, .aload_n 0, 1, .null, [], z_g0),
  (21, .dup, 1, .null, [], z_g0),
  (22, .getfield 138, 3, .null, [1, 6, 0], z_g0),
  (25, .iconst 1, 1, .int ((1 : Int32)), [], z_g0),
  (26, .iadd, 1, .null, [], z_g0),
  (27, .putfield 138, 3, .null, [1, 6, 0], z_g0),
  (30, .return_, 1, .null, [], z_g0)]
set_option maxRecDepth 100000 in
theorem r_X0_keepSignal (v0 : Nat) (v1 : Int32) (S : z_St) : z_seg z_rV (c_X0_keepSignal) [] (fun pc => fun _ _ _ => none) 21 (c_X0_keepSignal) [(0, .ref v0), (1, .int v1)] [] S = b_X0_keepSignal v0 v1 S := rfl
def b_X0_sumInto (v0 : Nat) (v1 : Int32) (v2 : Int32) (S : z_St) : Option (Int64 × z_St) :=
if v2 = 0 then
((f_X0_outcomeOf ((6 : Int32)) ((0 : Int32)) S).bind fun q5 =>
some (q5.1, q5.2))
else
(z_chk S v0 1 (
z_nzl v2.toInt64 (
let x1 := ((z_l S v0 2)) + (v1.toInt64 / v2.toInt64)
if (lg_cmp x1 ((0 : Int64))) < 0 then
((f_X0_outcomeOf ((8 : Int32)) ((2 : Int32)) S).bind fun q2 =>
some (q2.1, q2.2))
else
(if (lg_cmp x1 ((1000000000000000 : Int64))) ≤ 0 then
(z_chk S v0 1 (
let S3 := z_wl S v0 2 x1
some ((0 : Int64), S3)))
else
((f_X0_outcomeOf ((8 : Int32)) ((2 : Int32)) S).bind fun q4 =>
some (q4.1, q4.2))))))
def f_X0_sumInto : Nat → Int32 → Int32 → z_St → Option (Int64 × z_St) := z_op (b_X0_sumInto)
theorem e_X0_sumInto (v0 : Nat) (v1 : Int32) (v2 : Int32) (S : z_St) : f_X0_sumInto v0 v1 v2 S = b_X0_sumInto v0 v1 v2 S := congrFun (congrFun (congrFun (congrFun (z_op_eq (b_X0_sumInto)) v0) v1) v2) S
def g_X0_sumInto : z_G := .inr (.inl (fun as S => match as with
  | [.ref v0, .int v1, .int v2] => f_X0_sumInto v0 v1 v2 S
  | _ => none))
def c_X0_sumInto : List z_E := [
  (0, .iload_n 2, 1, .null, [], z_g0),
  (1, .ifCond .ne 10, 3, .null, [11], z_g0),
  (4, .bipush 6, 2, .int ((6 : Int32)), [], z_g0),
  (6, .iconst 0, 1, .int ((0 : Int32)), [], z_g0),
  (7, .invokestatic 84, 3, .null, [0, 0, 0], g_X0_outcomeOf),
  (10, .lreturn, 1, .null, [], z_g0),
  (11, .aload_n 0, 1, .null, [], z_g0),
  (12, .getfield 58, 3, .null, [1, 2, 1], z_g0),
  (15, .iload_n 1, 1, .null, [], z_g0),
  (16, .i2l, 1, .null, [], z_g0),
  (17, .iload_n 2, 1, .null, [], z_g0),
  (18, .i2l, 1, .null, [], z_g0),
  (19, .ldiv, 1, .null, [], z_g0),
  (20, .ladd, 1, .null, [], z_g0),
  (21, .lstore_n 3, 1, .null, [], z_g0),
  (22, .lload_n 3, 1, .null, [], z_g0),
  (23, .lconst 0, 1, .long (0 : Int64), [], z_g0),
  (24, .lcmp, 1, .null, [], z_g0),
  (25, .ifCond .lt 11, 3, .null, [36], z_g0),
  (28, .lload_n 3, 1, .null, [], z_g0),
  (29, .ldc2_w 141, 3, .long (1000000000000000 : Int64), [], z_g0),
  (32, .lcmp, 1, .null, [], z_g0),
  (33, .ifCond .le 10, 3, .null, [43], z_g0),
  (36, .bipush 8, 2, .int ((8 : Int32)), [], z_g0),
  (38, .iconst 2, 1, .int ((2 : Int32)), [], z_g0),
  (39, .invokestatic 84, 3, .null, [0, 0, 0], g_X0_outcomeOf),
  (42, .lreturn, 1, .null, [], z_g0),
  (43, .aload_n 0, 1, .null, [], z_g0),
  (44, .lload_n 3, 1, .null, [], z_g0),
  (45, .putfield 58, 3, .null, [1, 2, 1], z_g0),
  (48, .lconst 0, 1, .long (0 : Int64), [], z_g0),
  (49, .lreturn, 1, .null, [], z_g0)]
set_option maxRecDepth 100000 in
theorem r_X0_sumInto (v0 : Nat) (v1 : Int32) (v2 : Int32) (S : z_St) : z_seg z_rL (c_X0_sumInto) [] (fun pc => fun _ _ _ => none) 35 (c_X0_sumInto) [(0, .ref v0), (1, .int v1), (2, .int v2)] [] S = b_X0_sumInto v0 v1 v2 S := rfl
def b_X0_isCaught (v0 : Int32) (v1 : Int32) (S : z_St) : Option (Int32 × z_St) :=
if v0 = 0 then
(z_rb ((0 : Int32)) S)
else
(if v0 = ((9 : Int32)) then
(z_rb ((0 : Int32)) S)
else
(if v1 = 0 then
(z_rb ((1 : Int32)) S)
else
(if v1 = v0 then
(z_rb ((1 : Int32)) S)
else
(if v1 = ((9 : Int32)) then
(if v0 = ((8 : Int32)) then
(z_rb ((0 : Int32)) S)
else
(z_rb ((1 : Int32)) S))
else
(z_rb ((0 : Int32)) S)))))
def f_X0_isCaught : Int32 → Int32 → z_St → Option (Int32 × z_St) := z_op (b_X0_isCaught)
theorem e_X0_isCaught (v0 : Int32) (v1 : Int32) (S : z_St) : f_X0_isCaught v0 v1 S = b_X0_isCaught v0 v1 S := congrFun (congrFun (congrFun (z_op_eq (b_X0_isCaught)) v0) v1) S
def g_X0_isCaught : z_G := .inl (fun as S => match as with
  | [.int v0, .int v1] => f_X0_isCaught v0 v1 S
  | _ => none)
def c_X0_isCaught : List z_E := [
  (0, .iload_n 0, 1, .null, [], z_g0),
  (1, .ifCond .eq 9, 3, .null, [10], z_g0),
  (4, .iload_n 0, 1, .null, [], z_g0),
  (5, .bipush 9, 2, .int ((9 : Int32)), [], z_g0),
  (7, .if_icmp .ne 5, 3, .null, [12], z_g0),
  (10, .iconst 0, 1, .int ((0 : Int32)), [], z_g0),
  (11, .ireturn, 1, .null, [], z_g0),
  (12, .iload_n 1, 1, .null, [], z_g0),
  (13, .ifCond .eq 20, 3, .null, [33], z_g0),
  (16, .iload_n 1, 1, .null, [], z_g0),
  (17, .iload_n 0, 1, .null, [], z_g0),
  (18, .if_icmp .eq 15, 3, .null, [33], z_g0),
  (21, .iload_n 1, 1, .null, [], z_g0),
  (22, .bipush 9, 2, .int ((9 : Int32)), [], z_g0),
  (24, .if_icmp .ne 13, 3, .null, [37], z_g0),
  (27, .iload_n 0, 1, .null, [], z_g0),
  (28, .bipush 8, 2, .int ((8 : Int32)), [], z_g0),
  (30, .if_icmp .eq 7, 3, .null, [37], z_g0),
  (33, .iconst 1, 1, .int ((1 : Int32)), [], z_g0),
  (34, .goto 4, 3, .null, [38], z_g0),
  (37, .iconst 0, 1, .int ((0 : Int32)), [], z_g0),
  (38, .ireturn, 1, .null, [], z_g0)]
set_option maxRecDepth 100000 in
theorem r_X0_isCaught (v0 : Int32) (v1 : Int32) (S : z_St) : z_seg z_rZ (c_X0_isCaught) [] (fun pc => fun _ _ _ => none) 25 (c_X0_isCaught) [(0, .int v0), (1, .int v1)] [] S = b_X0_isCaught v0 v1 S := rfl
def b_X1_init (v0 : Nat) (v1 : Int32) (v2 : Int32) (S : z_St) : Option z_St :=
z_chk S v0 2 (
let S1 := z_wi S v0 0 v1
z_len v2 30000 (
let a2 := z_x S1
let S3 := z_new S1 110 v2.toNatClampNeg
z_chk S3 v0 2 (
let S4 := z_wr S3 v0 1 (some a2)
some S4)))
def f_X1_init : Nat → Int32 → Int32 → z_St → Option z_St := z_op (b_X1_init)
theorem e_X1_init (v0 : Nat) (v1 : Int32) (v2 : Int32) (S : z_St) : f_X1_init v0 v1 v2 S = b_X1_init v0 v1 v2 S := congrFun (congrFun (congrFun (congrFun (z_op_eq (b_X1_init)) v0) v1) v2) S
def g_X1_init : z_G := .inr (.inr (.inr (fun as S => match as with
  | [.ref v0, .int v1, .int v2] => f_X1_init v0 v1 v2 S
  | _ => none)))
def c_X1_init : List z_E := [
  (0, .aload_n 0, 1, .null, [], z_g0),
  (1, .invokespecial 3, 3, .null, [2], z_g0),
  (4, .aload_n 0, 1, .null, [], z_g0),
  (5, .iload_n 1, 1, .null, [], z_g0),
  (6, .putfield 9, 3, .null, [2, 0, 0], z_g0),
  (9, .aload_n 0, 1, .null, [], z_g0),
  (10, .iload_n 2, 1, .null, [], z_g0),
  (11, .anewarray 15, 3, .null, [110], z_g0),
  (14, .putfield 17, 3, .null, [2, 1, 3], z_g0),
  (17, .return_, 1, .null, [], z_g0)]
set_option maxRecDepth 100000 in
theorem r_X1_init (v0 : Nat) (v1 : Int32) (v2 : Int32) (S : z_St) : z_seg z_rV (c_X1_init) [] (fun pc => fun _ _ _ => none) 13 (c_X1_init) [(0, .ref v0), (1, .int v1), (2, .int v2)] [] S = b_X1_init v0 v1 v2 S := rfl
def b_X8_init (v0 : Nat) (v1 : Int32) (v2 : Int32) (S : z_St) : Option z_St :=
z_chk S v0 9 (
let S1 := z_wi S v0 0 v1
z_len v2 30000 (
let a2 := z_x S1
let S3 := z_new S1 102 v2.toNatClampNeg
z_chk S3 v0 9 (
let S4 := z_wr S3 v0 1 (some a2)
some S4)))
def f_X8_init : Nat → Int32 → Int32 → z_St → Option z_St := z_op (b_X8_init)
theorem e_X8_init (v0 : Nat) (v1 : Int32) (v2 : Int32) (S : z_St) : f_X8_init v0 v1 v2 S = b_X8_init v0 v1 v2 S := congrFun (congrFun (congrFun (congrFun (z_op_eq (b_X8_init)) v0) v1) v2) S
def g_X8_init : z_G := .inr (.inr (.inr (fun as S => match as with
  | [.ref v0, .int v1, .int v2] => f_X8_init v0 v1 v2 S
  | _ => none)))
def c_X8_init : List z_E := [
  (0, .aload_n 0, 1, .null, [], z_g0),
  (1, .invokespecial 3, 3, .null, [2], z_g0),
  (4, .aload_n 0, 1, .null, [], z_g0),
  (5, .iload_n 1, 1, .null, [], z_g0),
  (6, .putfield 9, 3, .null, [9, 0, 0], z_g0),
  (9, .aload_n 0, 1, .null, [], z_g0),
  (10, .iload_n 2, 1, .null, [], z_g0),
  (11, .newarray .long, 2, .null, [102], z_g0),
  (13, .putfield 15, 3, .null, [9, 1, 3], z_g0),
  (16, .return_, 1, .null, [], z_g0)]
set_option maxRecDepth 100000 in
theorem r_X8_init (v0 : Nat) (v1 : Int32) (v2 : Int32) (S : z_St) : z_seg z_rV (c_X8_init) [] (fun pc => fun _ _ _ => none) 13 (c_X8_init) [(0, .ref v0), (1, .int v1), (2, .int v2)] [] S = b_X8_init v0 v1 v2 S := rfl
def l_X1_fill_2 : Nat → Nat → Int32 → Int32 → z_St → Option z_St
  | 0 => fun _ _ _ _ => none
  | n + 1 => fun (v0 : Nat) (v1 : Int32) (v2 : Int32) (S : z_St) =>
z_chk S v0 2 (
z_onV (va_rf (z_r S v0 1)) fun b1 =>
z_chk S b1 110 (
if (Int32.ofNat (z_n S b1)) ≤ v2 then
(some S)
else
(z_chk S v0 2 (
let a2 := z_x S
let S3 := z_new S 9 2
z_chk S3 v0 2 (
z_chk S3 a2 9 (
(f_X8_init a2 ((z_i S3 v0 0)) v1 S3).bind fun q4 =>
z_onV (va_rf (z_r S v0 1)) fun b5 =>
z_inb q4 b5 110 v2 (
z_chk q4 a2 9 (
let S6 := z_wr q4 b5 v2.toNatClampNeg (some a2)
let x7 := v2 + (1 : Int32)
l_X1_fill_2 n v0 v1 x7 S6))))))))
def b_X1_fill (v0 : Nat) (v1 : Int32) (S : z_St) : Option z_St :=
l_X1_fill_2 z_N v0 v1 ((0 : Int32)) S
def f_X1_fill : Nat → Int32 → z_St → Option z_St := z_op (b_X1_fill)
theorem e_X1_fill (v0 : Nat) (v1 : Int32) (S : z_St) : f_X1_fill v0 v1 S = b_X1_fill v0 v1 S := congrFun (congrFun (congrFun (z_op_eq (b_X1_fill)) v0) v1) S
def g_X1_fill : z_G := .inr (.inr (.inr (fun as S => match as with
  | [.ref v0, .int v1] => f_X1_fill v0 v1 S
  | _ => none)))
def c_X1_fill : List z_E := [
  (0, .iconst 0, 1, .int ((0 : Int32)), [], z_g0),
  (1, .istore_n 2, 1, .null, [], z_g0),
  (2, .iload_n 2, 1, .null, [], z_g0),
  (3, .aload_n 0, 1, .null, [], z_g0),
  (4, .getfield 17, 3, .null, [2, 1, 3], z_g0),
  (7, .arraylength, 1, .null, [110], z_g0),
  (8, .if_icmp .ge 27, 3, .null, [35], z_g0),
  (11, .aload_n 0, 1, .null, [], z_g0),
  (12, .getfield 17, 3, .null, [2, 1, 3], z_g0),
  (15, .iload_n 2, 1, .null, [], z_g0),
  (16, .new 15, 3, .null, [9, 2], z_g0),
  (19, .dup, 1, .null, [], z_g0),
  (20, .aload_n 0, 1, .null, [], z_g0),
  (21, .getfield 9, 3, .null, [2, 0, 0], z_g0),
  (24, .iload_n 1, 1, .null, [], z_g0),
  (25, .invokespecial 21, 3, .null, [1, 9, 0, 0], g_X8_init),
  (28, .aastore, 1, .null, [110, 9], z_g0),
  (29, .iinc 2 1, 3, .int (1 : Int32), [], z_g0),
  (32, .goto (-30), 3, .null, [2], z_g0),
  (35, .return_, 1, .null, [], z_g0)]
def a_X1_fill_2 {ρ : Type} (k : Nat → Int32 → Int32 → z_St → Option ρ) (ls : z_Lv) (st : List Value) (S : z_St) : Option ρ := z_gR ls 0 fun v0 => z_gI ls 1 fun v1 => z_gI ls 2 fun v2 => z_p0 st (k v0 v1 v2 S)
set_option maxRecDepth 100000 in
theorem r_X1_fill_2 (n : Nat) (v0 : Nat) (v1 : Int32) (v2 : Int32) (S : z_St) : z_seg z_rV (c_X1_fill) [2] (fun pc => cond (Nat.beq pc 2) (a_X1_fill_2 (l_X1_fill_2 n)) (fun _ _ _ => none)) 23 (z_to 2 (c_X1_fill)) [(0, .ref v0), (1, .int v1), (2, .int v2)] [] S = l_X1_fill_2 (n + 1) v0 v1 v2 S := rfl
set_option maxRecDepth 100000 in
theorem r_X1_fill (v0 : Nat) (v1 : Int32) (S : z_St) : z_seg z_rV (c_X1_fill) [2] (fun pc => cond (Nat.beq pc 2) (a_X1_fill_2 (l_X1_fill_2 z_N)) (fun _ _ _ => none)) 23 (c_X1_fill) [(0, .ref v0), (1, .int v1)] [] S = b_X1_fill v0 v1 S := rfl
def b_X1_spotFailure (v0 : Nat) (v1 : Int32) (v2 : Int32) (S : z_St) : Option (Int32 × z_St) :=
if v1 < 0 then
(some ((2 : Int32), S))
else
(z_chk S v0 2 (
z_onV (va_rf (z_r S v0 1)) fun b1 =>
z_chk S b1 110 (
if v1 < (Int32.ofNat (z_n S b1)) then
(z_chk S v0 2 (
z_onV (va_rf (z_r S v0 1)) fun b2 =>
z_inb S b2 110 v1 (
z_nul (va_rf (z_r S b2 v1.toNatClampNeg)) (
some ((1 : Int32), S)) (
z_chk S v0 2 (
z_onV (va_rf (z_r S v0 1)) fun b3 =>
z_inb S b3 110 v1 (
z_onV (va_rf (z_r S b3 v1.toNatClampNeg)) fun b4 =>
z_chk S b4 9 (
(f_X8_hasCell b4 v2 S).bind fun q5 =>
if q5.1 = 0 then
(some ((2 : Int32), q5.2))
else
(some ((0 : Int32), q5.2)))))))))
else
(some ((2 : Int32), S)))))
def f_X1_spotFailure : Nat → Int32 → Int32 → z_St → Option (Int32 × z_St) := z_op (b_X1_spotFailure)
theorem e_X1_spotFailure (v0 : Nat) (v1 : Int32) (v2 : Int32) (S : z_St) : f_X1_spotFailure v0 v1 v2 S = b_X1_spotFailure v0 v1 v2 S := congrFun (congrFun (congrFun (congrFun (z_op_eq (b_X1_spotFailure)) v0) v1) v2) S
def g_X1_spotFailure : z_G := .inl (fun as S => match as with
  | [.ref v0, .int v1, .int v2] => f_X1_spotFailure v0 v1 v2 S
  | _ => none)
def c_X1_spotFailure : List z_E := [
  (0, .iload_n 1, 1, .null, [], z_g0),
  (1, .ifCond .lt 12, 3, .null, [13], z_g0),
  (4, .iload_n 1, 1, .null, [], z_g0),
  (5, .aload_n 0, 1, .null, [], z_g0),
  (6, .getfield 17, 3, .null, [2, 1, 3], z_g0),
  (9, .arraylength, 1, .null, [110], z_g0),
  (10, .if_icmp .lt 5, 3, .null, [15], z_g0),
  (13, .iconst 2, 1, .int ((2 : Int32)), [], z_g0),
  (14, .ireturn, 1, .null, [], z_g0),
  (15, .aload_n 0, 1, .null, [], z_g0),
  (16, .getfield 17, 3, .null, [2, 1, 3], z_g0),
  (19, .iload_n 1, 1, .null, [], z_g0),
  (20, .aaload, 1, .null, [110], z_g0),
  (21, .ifnonnull 5, 3, .null, [26], z_g0),
  (24, .iconst 1, 1, .int ((1 : Int32)), [], z_g0),
  (25, .ireturn, 1, .null, [], z_g0),
  (26, .aload_n 0, 1, .null, [], z_g0),
  (27, .getfield 17, 3, .null, [2, 1, 3], z_g0),
  (30, .iload_n 1, 1, .null, [], z_g0),
  (31, .aaload, 1, .null, [110], z_g0),
  (32, .iload_n 2, 1, .null, [], z_g0),
  (33, .invokevirtual 24, 3, .null, [1, 9, 0], g_X8_hasCell),
  (36, .ifCond .eq 7, 3, .null, [43], z_g0),
  (39, .iconst 0, 1, .int ((0 : Int32)), [], z_g0),
  (40, .goto 4, 3, .null, [44], z_g0),
  (43, .iconst 2, 1, .int ((2 : Int32)), [], z_g0),
  (44, .ireturn, 1, .null, [], z_g0)]
set_option maxRecDepth 100000 in
theorem r_X1_spotFailure (v0 : Nat) (v1 : Int32) (v2 : Int32) (S : z_St) : z_seg z_rI (c_X1_spotFailure) [] (fun pc => fun _ _ _ => none) 30 (c_X1_spotFailure) [(0, .ref v0), (1, .int v1), (2, .int v2)] [] S = b_X1_spotFailure v0 v1 v2 S := rfl
def l_X1_bareStrip_4 : Nat → Nat → Int32 → Int32 → Int32 → z_St → Option (Int32 × z_St)
  | 0 => fun _ _ _ _ _ => none
  | n + 1 => fun (v0 : Nat) (v1 : Int32) (v2 : Int32) (v3 : Int32) (S : z_St) =>
z_chk S v0 2 (
z_onV (va_rf (z_r S v0 1)) fun b1 =>
z_chk S b1 110 (
if (Int32.ofNat (z_n S b1)) ≤ v3 then
(if v1 = ((-1 : Int32)) then
(some (v2, S))
else
(some ((-1 : Int32), S)))
else
(z_chk S v0 2 (
z_onV (va_rf (z_r S v0 1)) fun b2 =>
z_inb S b2 110 v3 (
z_nul (va_rf (z_r S b2 v3.toNatClampNeg)) (
if v2 = v1 then
(some (v3, S))
else
(let x3 := v2 + (1 : Int32)
let x4 := v3 + (1 : Int32)
l_X1_bareStrip_4 n v0 v1 x3 x4 S)) (
let x5 := v3 + (1 : Int32)
l_X1_bareStrip_4 n v0 v1 v2 x5 S))))))
def b_X1_bareStrip (v0 : Nat) (v1 : Int32) (S : z_St) : Option (Int32 × z_St) :=
l_X1_bareStrip_4 z_N v0 v1 ((0 : Int32)) ((0 : Int32)) S
def f_X1_bareStrip : Nat → Int32 → z_St → Option (Int32 × z_St) := z_op (b_X1_bareStrip)
theorem e_X1_bareStrip (v0 : Nat) (v1 : Int32) (S : z_St) : f_X1_bareStrip v0 v1 S = b_X1_bareStrip v0 v1 S := congrFun (congrFun (congrFun (z_op_eq (b_X1_bareStrip)) v0) v1) S
def g_X1_bareStrip : z_G := .inl (fun as S => match as with
  | [.ref v0, .int v1] => f_X1_bareStrip v0 v1 S
  | _ => none)
def c_X1_bareStrip : List z_E := [
  (0, .iconst 0, 1, .int ((0 : Int32)), [], z_g0),
  (1, .istore_n 2, 1, .null, [], z_g0),
  (2, .iconst 0, 1, .int ((0 : Int32)), [], z_g0),
  (3, .istore_n 3, 1, .null, [], z_g0),
  (4, .iload_n 3, 1, .null, [], z_g0),
  (5, .aload_n 0, 1, .null, [], z_g0),
  (6, .getfield 17, 3, .null, [2, 1, 3], z_g0),
  (9, .arraylength, 1, .null, [110], z_g0),
  (10, .if_icmp .ge 31, 3, .null, [41], z_g0),
  (13, .aload_n 0, 1, .null, [], z_g0),
  (14, .getfield 17, 3, .null, [2, 1, 3], z_g0),
  (17, .iload_n 3, 1, .null, [], z_g0),
  (18, .aaload, 1, .null, [110], z_g0),
  (19, .ifnull 6, 3, .null, [25], z_g0),
  (22, .goto 13, 3, .null, [35], z_g0),
  (25, .iload_n 2, 1, .null, [], z_g0),
  (26, .iload_n 1, 1, .null, [], z_g0),
  (27, .if_icmp .ne 5, 3, .null, [32], z_g0),
  (30, .iload_n 3, 1, .null, [], z_g0),
  (31, .ireturn, 1, .null, [], z_g0),
  (32, .iinc 2 1, 3, .int (1 : Int32), [], z_g0),
  (35, .iinc 3 1, 3, .int (1 : Int32), [], z_g0),
  (38, .goto (-34), 3, .null, [4], z_g0),
  (41, .iload_n 1, 1, .null, [], z_g0),
  (42, .iconst (-1), 1, .int ((-1 : Int32)), [], z_g0),
  (43, .if_icmp .ne 7, 3, .null, [50], z_g0),
  (46, .iload_n 2, 1, .null, [], z_g0),
  (47, .goto 4, 3, .null, [51], z_g0),
  (50, .iconst (-1), 1, .int ((-1 : Int32)), [], z_g0),
  (51, .ireturn, 1, .null, [], z_g0)]
def a_X1_bareStrip_4 {ρ : Type} (k : Nat → Int32 → Int32 → Int32 → z_St → Option ρ) (ls : z_Lv) (st : List Value) (S : z_St) : Option ρ := z_gR ls 0 fun v0 => z_gI ls 1 fun v1 => z_gI ls 2 fun v2 => z_gI ls 3 fun v3 => z_p0 st (k v0 v1 v2 v3 S)
set_option maxRecDepth 100000 in
theorem r_X1_bareStrip_4 (n : Nat) (v0 : Nat) (v1 : Int32) (v2 : Int32) (v3 : Int32) (S : z_St) : z_seg z_rI (c_X1_bareStrip) [4] (fun pc => cond (Nat.beq pc 4) (a_X1_bareStrip_4 (l_X1_bareStrip_4 n)) (fun _ _ _ => none)) 33 (z_to 4 (c_X1_bareStrip)) [(0, .ref v0), (1, .int v1), (2, .int v2), (3, .int v3)] [] S = l_X1_bareStrip_4 (n + 1) v0 v1 v2 v3 S := rfl
set_option maxRecDepth 100000 in
theorem r_X1_bareStrip (v0 : Nat) (v1 : Int32) (S : z_St) : z_seg z_rI (c_X1_bareStrip) [4] (fun pc => cond (Nat.beq pc 4) (a_X1_bareStrip_4 (l_X1_bareStrip_4 z_N)) (fun _ _ _ => none)) 33 (c_X1_bareStrip) [(0, .ref v0), (1, .int v1)] [] S = b_X1_bareStrip v0 v1 S := rfl
def b_X2_init (v0 : Nat) (S : z_St) : Option z_St :=
z_len ((1024 : Int32)) 30000 (
let a1 := z_x S
let S2 := z_new S 105 ((1024 : Int32)).toNatClampNeg
z_chk S2 v0 3 (
let S3 := z_wr S2 v0 0 (some a1)
z_len ((32 : Int32)) 30000 (
let a4 := z_x S3
let S5 := z_new S3 101 ((32 : Int32)).toNatClampNeg
z_chk S5 v0 3 (
let S6 := z_wr S5 v0 1 (some a4)
some S6))))
def f_X2_init : Nat → z_St → Option z_St := z_op (b_X2_init)
theorem e_X2_init (v0 : Nat) (S : z_St) : f_X2_init v0 S = b_X2_init v0 S := congrFun (congrFun (z_op_eq (b_X2_init)) v0) S
def g_X2_init : z_G := .inr (.inr (.inr (fun as S => match as with
  | [.ref v0] => f_X2_init v0 S
  | _ => none)))
def c_X2_init : List z_E := [
  (0, .aload_n 0, 1, .null, [], z_g0),
  (1, .invokespecial 3, 3, .null, [2], z_g0),
  (4, .aload_n 0, 1, .null, [], z_g0),
  (5, .sipush 1024, 3, .int ((1024 : Int32)), [], z_g0),
  (8, .newarray .byte, 2, .null, [105], z_g0),
  (10, .putfield 11, 3, .null, [3, 0, 3], z_g0),
  (13, .aload_n 0, 1, .null, [], z_g0),
  (14, .bipush 32, 2, .int ((32 : Int32)), [], z_g0),
  (16, .newarray .int, 2, .null, [101], z_g0),
  (18, .putfield 15, 3, .null, [3, 1, 3], z_g0),
  (21, .return_, 1, .null, [], z_g0)]
set_option maxRecDepth 100000 in
theorem r_X2_init (v0 : Nat) (S : z_St) : z_seg z_rV (c_X2_init) [] (fun pc => fun _ _ _ => none) 14 (c_X2_init) [(0, .ref v0)] [] S = b_X2_init v0 S := rfl
def b_X2_byteAt (v0 : Nat) (v1 : Int32) (v2 : Int32) (S : z_St) : Option (Int32 × z_St) :=
z_chk S v0 3 (
z_onV (va_rf (z_r S v0 0)) fun b1 =>
z_inb S b1 105 ((v1 * ((32 : Int32))) + v2) (
some (((z_i S b1 ((v1 * ((32 : Int32))) + v2).toNatClampNeg)) &&& ((255 : Int32)), S)))
def f_X2_byteAt : Nat → Int32 → Int32 → z_St → Option (Int32 × z_St) := z_op (b_X2_byteAt)
theorem e_X2_byteAt (v0 : Nat) (v1 : Int32) (v2 : Int32) (S : z_St) : f_X2_byteAt v0 v1 v2 S = b_X2_byteAt v0 v1 v2 S := congrFun (congrFun (congrFun (congrFun (z_op_eq (b_X2_byteAt)) v0) v1) v2) S
def g_X2_byteAt : z_G := .inl (fun as S => match as with
  | [.ref v0, .int v1, .int v2] => f_X2_byteAt v0 v1 v2 S
  | _ => none)
def c_X2_byteAt : List z_E := [
  (0, .aload_n 0, 1, .null, [], z_g0),
  (1, .getfield 11, 3, .null, [3, 0, 3], z_g0),
  (4, .iload_n 1, 1, .null, [], z_g0),
  (5, .bipush 32, 2, .int ((32 : Int32)), [], z_g0),
  (7, .imul, 1, .null, [], z_g0),
  (8, .iload_n 2, 1, .null, [], z_g0),
  (9, .iadd, 1, .null, [], z_g0),
  (10, .baload, 1, .null, [105], z_g0),
  (11, .sipush 255, 3, .int ((255 : Int32)), [], z_g0),
  (14, .iand, 1, .null, [], z_g0),
  (15, .ireturn, 1, .null, [], z_g0)]
set_option maxRecDepth 100000 in
theorem r_X2_byteAt (v0 : Nat) (v1 : Int32) (v2 : Int32) (S : z_St) : z_seg z_rI (c_X2_byteAt) [] (fun pc => fun _ _ _ => none) 14 (c_X2_byteAt) [(0, .ref v0), (1, .int v1), (2, .int v2)] [] S = b_X2_byteAt v0 v1 v2 S := rfl
def b_X2_setByte (v0 : Nat) (v1 : Int32) (v2 : Int32) (v3 : Int32) (S : z_St) : Option z_St :=
z_chk S v0 3 (
z_onV (va_rf (z_r S v0 0)) fun b1 =>
z_inb S b1 105 ((v1 * ((32 : Int32))) + v2) (
let S2 := z_wi S b1 ((v1 * ((32 : Int32))) + v2).toNatClampNeg (vp_nar .byte v3.toInt8.toInt32)
some S2))
def f_X2_setByte : Nat → Int32 → Int32 → Int32 → z_St → Option z_St := z_op (b_X2_setByte)
theorem e_X2_setByte (v0 : Nat) (v1 : Int32) (v2 : Int32) (v3 : Int32) (S : z_St) : f_X2_setByte v0 v1 v2 v3 S = b_X2_setByte v0 v1 v2 v3 S := congrFun (congrFun (congrFun (congrFun (congrFun (z_op_eq (b_X2_setByte)) v0) v1) v2) v3) S
def g_X2_setByte : z_G := .inr (.inr (.inr (fun as S => match as with
  | [.ref v0, .int v1, .int v2, .int v3] => f_X2_setByte v0 v1 v2 v3 S
  | _ => none)))
def c_X2_setByte : List z_E := [
  (0, .aload_n 0, 1, .null, [], z_g0),
  (1, .getfield 11, 3, .null, [3, 0, 3], z_g0),
  (4, .iload_n 1, 1, .null, [], z_g0),
  (5, .bipush 32, 2, .int ((32 : Int32)), [], z_g0),
  (7, .imul, 1, .null, [], z_g0),
  (8, .iload_n 2, 1, .null, [], z_g0),
  (9, .iadd, 1, .null, [], z_g0),
  (10, .iload_n 3, 1, .null, [], z_g0),
  (11, .i2b, 1, .null, [], z_g0),
  (12, .bastore, 1, .null, [105], z_g0),
  (13, .return_, 1, .null, [], z_g0)]
set_option maxRecDepth 100000 in
theorem r_X2_setByte (v0 : Nat) (v1 : Int32) (v2 : Int32) (v3 : Int32) (S : z_St) : z_seg z_rV (c_X2_setByte) [] (fun pc => fun _ _ _ => none) 14 (c_X2_setByte) [(0, .ref v0), (1, .int v1), (2, .int v2), (3, .int v3)] [] S = b_X2_setByte v0 v1 v2 v3 S := rfl
def l_X2_sumOf_4 : Nat → Nat → Int32 → Int32 → Int32 → z_St → Option (Int32 × z_St)
  | 0 => fun _ _ _ _ _ => none
  | n + 1 => fun (v0 : Nat) (v1 : Int32) (v2 : Int32) (v3 : Int32) (S : z_St) =>
if ((28 : Int32)) ≤ v3 then
(some (v2, S))
else
(z_chk S v0 3 (
(f_X2_byteAt v0 v1 v3 S).bind fun q1 =>
let x2 := v2 ^^^ q1.1
let x3 := (x2 <<< (((7 : Int32)) &&& 31)) ||| ((x2.toUInt32 >>> (((25 : Int32)).toUInt32 &&& Int32.toUInt32 31)).toInt32)
let x4 := x3 * ((-1028477379 : Int32))
let x5 := v3 + (1 : Int32)
l_X2_sumOf_4 n v0 v1 x4 x5 q1.2))
def b_X2_sumOf (v0 : Nat) (v1 : Int32) (S : z_St) : Option (Int32 × z_St) :=
l_X2_sumOf_4 z_N v0 v1 ((0 : Int32)) ((0 : Int32)) S
def f_X2_sumOf : Nat → Int32 → z_St → Option (Int32 × z_St) := z_op (b_X2_sumOf)
theorem e_X2_sumOf (v0 : Nat) (v1 : Int32) (S : z_St) : f_X2_sumOf v0 v1 S = b_X2_sumOf v0 v1 S := congrFun (congrFun (congrFun (z_op_eq (b_X2_sumOf)) v0) v1) S
def g_X2_sumOf : z_G := .inl (fun as S => match as with
  | [.ref v0, .int v1] => f_X2_sumOf v0 v1 S
  | _ => none)
def c_X2_sumOf : List z_E := [
  (0, .iconst 0, 1, .int ((0 : Int32)), [], z_g0),
  (1, .istore_n 2, 1, .null, [], z_g0),
  (2, .iconst 0, 1, .int ((0 : Int32)), [], z_g0),
  (3, .istore_n 3, 1, .null, [], z_g0),
  (4, .iload_n 3, 1, .null, [], z_g0),
  (5, .bipush 28, 2, .int ((28 : Int32)), [], z_g0),
  (7, .if_icmp .ge 33, 3, .null, [40], z_g0),
  (10, .iload_n 2, 1, .null, [], z_g0),
  (11, .aload_n 0, 1, .null, [], z_g0),
  (12, .iload_n 1, 1, .null, [], z_g0),
  (13, .iload_n 3, 1, .null, [], z_g0),
  (14, .invokevirtual 49, 3, .null, [1, 3, 0, 0], g_X2_byteAt),
  (17, .ixor, 1, .null, [], z_g0),
  (18, .istore_n 2, 1, .null, [], z_g0),
  (19, .iload_n 2, 1, .null, [], z_g0),
  (20, .bipush 7, 2, .int ((7 : Int32)), [], z_g0),
  (22, .ishl, 1, .null, [], z_g0),
  (23, .iload_n 2, 1, .null, [], z_g0),
  (24, .bipush 25, 2, .int ((25 : Int32)), [], z_g0),
  (26, .iushr, 1, .null, [], z_g0),
  (27, .ior, 1, .null, [], z_g0),
  (28, .istore_n 2, 1, .null, [], z_g0),
  (29, .iload_n 2, 1, .null, [], z_g0),
  (30, .ldc 59, 2, .int (-1028477379 : Int32), [], z_g0),
  (32, .imul, 1, .null, [], z_g0),
  (33, .istore_n 2, 1, .null, [], z_g0),
  (34, .iinc 3 1, 3, .int (1 : Int32), [], z_g0),
  (37, .goto (-33), 3, .null, [4], z_g0),
  (40, .iload_n 2, 1, .null, [], z_g0),
  (41, .ireturn, 1, .null, [], z_g0)]
def a_X2_sumOf_4 {ρ : Type} (k : Nat → Int32 → Int32 → Int32 → z_St → Option ρ) (ls : z_Lv) (st : List Value) (S : z_St) : Option ρ := z_gR ls 0 fun v0 => z_gI ls 1 fun v1 => z_gI ls 2 fun v2 => z_gI ls 3 fun v3 => z_p0 st (k v0 v1 v2 v3 S)
set_option maxRecDepth 100000 in
theorem r_X2_sumOf_4 (n : Nat) (v0 : Nat) (v1 : Int32) (v2 : Int32) (v3 : Int32) (S : z_St) : z_seg z_rI (c_X2_sumOf) [4] (fun pc => cond (Nat.beq pc 4) (a_X2_sumOf_4 (l_X2_sumOf_4 n)) (fun _ _ _ => none)) 33 (z_to 4 (c_X2_sumOf)) [(0, .ref v0), (1, .int v1), (2, .int v2), (3, .int v3)] [] S = l_X2_sumOf_4 (n + 1) v0 v1 v2 v3 S := rfl
set_option maxRecDepth 100000 in
theorem r_X2_sumOf (v0 : Nat) (v1 : Int32) (S : z_St) : z_seg z_rI (c_X2_sumOf) [4] (fun pc => cond (Nat.beq pc 4) (a_X2_sumOf_4 (l_X2_sumOf_4 z_N)) (fun _ _ _ => none)) 33 (c_X2_sumOf) [(0, .ref v0), (1, .int v1)] [] S = b_X2_sumOf v0 v1 S := rfl
def l_X2_writtenSum_5 : Nat → Nat → Int32 → Int32 → Int32 → z_St → Option (Int32 × z_St)
  | 0 => fun _ _ _ _ _ => none
  | n + 1 => fun (v0 : Nat) (v1 : Int32) (v2 : Int32) (v3 : Int32) (S : z_St) =>
if ((32 : Int32)) ≤ v3 then
(some (v2, S))
else
(z_chk S v0 3 (
(f_X2_byteAt v0 v1 v3 S).bind fun q1 =>
let x2 := (v2 <<< (((8 : Int32)) &&& 31)) ||| q1.1
let x3 := v3 + (1 : Int32)
l_X2_writtenSum_5 n v0 v1 x2 x3 q1.2))
def b_X2_writtenSum (v0 : Nat) (v1 : Int32) (S : z_St) : Option (Int32 × z_St) :=
l_X2_writtenSum_5 z_N v0 v1 ((0 : Int32)) ((28 : Int32)) S
def f_X2_writtenSum : Nat → Int32 → z_St → Option (Int32 × z_St) := z_op (b_X2_writtenSum)
theorem e_X2_writtenSum (v0 : Nat) (v1 : Int32) (S : z_St) : f_X2_writtenSum v0 v1 S = b_X2_writtenSum v0 v1 S := congrFun (congrFun (congrFun (z_op_eq (b_X2_writtenSum)) v0) v1) S
def g_X2_writtenSum : z_G := .inl (fun as S => match as with
  | [.ref v0, .int v1] => f_X2_writtenSum v0 v1 S
  | _ => none)
def c_X2_writtenSum : List z_E := [
  (0, .iconst 0, 1, .int ((0 : Int32)), [], z_g0),
  (1, .istore_n 2, 1, .null, [], z_g0),
  (2, .bipush 28, 2, .int ((28 : Int32)), [], z_g0),
  (4, .istore_n 3, 1, .null, [], z_g0),
  (5, .iload_n 3, 1, .null, [], z_g0),
  (6, .bipush 32, 2, .int ((32 : Int32)), [], z_g0),
  (8, .if_icmp .ge 21, 3, .null, [29], z_g0),
  (11, .iload_n 2, 1, .null, [], z_g0),
  (12, .bipush 8, 2, .int ((8 : Int32)), [], z_g0),
  (14, .ishl, 1, .null, [], z_g0),
  (15, .aload_n 0, 1, .null, [], z_g0),
  (16, .iload_n 1, 1, .null, [], z_g0),
  (17, .iload_n 3, 1, .null, [], z_g0),
  (18, .invokevirtual 49, 3, .null, [1, 3, 0, 0], g_X2_byteAt),
  (21, .ior, 1, .null, [], z_g0),
  (22, .istore_n 2, 1, .null, [], z_g0),
  (23, .iinc 3 1, 3, .int (1 : Int32), [], z_g0),
  (26, .goto (-21), 3, .null, [5], z_g0),
  (29, .iload_n 2, 1, .null, [], z_g0),
  (30, .ireturn, 1, .null, [], z_g0)]
def a_X2_writtenSum_5 {ρ : Type} (k : Nat → Int32 → Int32 → Int32 → z_St → Option ρ) (ls : z_Lv) (st : List Value) (S : z_St) : Option ρ := z_gR ls 0 fun v0 => z_gI ls 1 fun v1 => z_gI ls 2 fun v2 => z_gI ls 3 fun v3 => z_p0 st (k v0 v1 v2 v3 S)
set_option maxRecDepth 100000 in
theorem r_X2_writtenSum_5 (n : Nat) (v0 : Nat) (v1 : Int32) (v2 : Int32) (v3 : Int32) (S : z_St) : z_seg z_rI (c_X2_writtenSum) [5] (fun pc => cond (Nat.beq pc 5) (a_X2_writtenSum_5 (l_X2_writtenSum_5 n)) (fun _ _ _ => none)) 23 (z_to 5 (c_X2_writtenSum)) [(0, .ref v0), (1, .int v1), (2, .int v2), (3, .int v3)] [] S = l_X2_writtenSum_5 (n + 1) v0 v1 v2 v3 S := rfl
set_option maxRecDepth 100000 in
theorem r_X2_writtenSum (v0 : Nat) (v1 : Int32) (S : z_St) : z_seg z_rI (c_X2_writtenSum) [5] (fun pc => cond (Nat.beq pc 5) (a_X2_writtenSum_5 (l_X2_writtenSum_5 z_N)) (fun _ _ _ => none)) 23 (c_X2_writtenSum) [(0, .ref v0), (1, .int v1)] [] S = b_X2_writtenSum v0 v1 S := rfl
def j_X2_look_29 (v0 : Nat) (v1 : Int32) (t0 : Int32) (S : z_St) : Option z_St :=
z_chk S v0 3 (
if t0 = 0 then
(z_onV (va_rf (z_r S v0 1)) fun b4 =>
z_inb S b4 101 v1 (
let S5 := z_wi S b4 v1.toNatClampNeg ((0 : Int32))
some S5))
else
(z_chk S v0 3 (
(f_X2_byteAt v0 v1 ((0 : Int32)) S).bind fun q6 =>
z_chk q6.2 v0 3 (
(f_X2_byteAt v0 v1 ((1 : Int32)) q6.2).bind fun q7 =>
z_onV (va_rf (z_r S v0 1)) fun b8 =>
z_inb q7.2 b8 101 v1 (
let S9 := z_wi q7.2 b8 v1.toNatClampNeg ((q6.1 <<< (((8 : Int32)) &&& 31)) ||| q7.1)
some S9)))))
def b_X2_look (v0 : Nat) (v1 : Int32) (S : z_St) : Option z_St :=
z_chk S v0 3 (
(f_X2_byteAt v0 v1 ((2 : Int32)) S).bind fun q1 =>
if ((24 : Int32)) < q1.1 then
(j_X2_look_29 v0 v1 ((0 : Int32)) q1.2)
else
(z_chk q1.2 v0 3 (
(f_X2_sumOf v0 v1 q1.2).bind fun q2 =>
z_chk q2.2 v0 3 (
(f_X2_writtenSum v0 v1 q2.2).bind fun q3 =>
if q2.1 = q3.1 then
(j_X2_look_29 v0 v1 ((1 : Int32)) q3.2)
else
(j_X2_look_29 v0 v1 ((0 : Int32)) q3.2)))))
def f_X2_look : Nat → Int32 → z_St → Option z_St := z_op (b_X2_look)
theorem e_X2_look (v0 : Nat) (v1 : Int32) (S : z_St) : f_X2_look v0 v1 S = b_X2_look v0 v1 S := congrFun (congrFun (congrFun (z_op_eq (b_X2_look)) v0) v1) S
def g_X2_look : z_G := .inr (.inr (.inr (fun as S => match as with
  | [.ref v0, .int v1] => f_X2_look v0 v1 S
  | _ => none)))
def c_X2_look : List z_E := [
  (0, .aload_n 0, 1, .null, [], z_g0),
  (1, .iload_n 1, 1, .null, [], z_g0),
  (2, .iconst 2, 1, .int ((2 : Int32)), [], z_g0),
  (3, .invokevirtual 49, 3, .null, [1, 3, 0, 0], g_X2_byteAt),
  (6, .bipush 24, 2, .int ((24 : Int32)), [], z_g0),
  (8, .if_icmp .gt 20, 3, .null, [28], z_g0),
  (11, .aload_n 0, 1, .null, [], z_g0),
  (12, .iload_n 1, 1, .null, [], z_g0),
  (13, .invokevirtual 41, 3, .null, [1, 3, 0], g_X2_sumOf),
  (16, .aload_n 0, 1, .null, [], z_g0),
  (17, .iload_n 1, 1, .null, [], z_g0),
  (18, .invokevirtual 60, 3, .null, [1, 3, 0], g_X2_writtenSum),
  (21, .if_icmp .ne 7, 3, .null, [28], z_g0),
  (24, .iconst 1, 1, .int ((1 : Int32)), [], z_g0),
  (25, .goto 4, 3, .null, [29], z_g0),
  (28, .iconst 0, 1, .int ((0 : Int32)), [], z_g0),
  (29, .istore_n 2, 1, .null, [], z_g0),
  (30, .aload_n 0, 1, .null, [], z_g0),
  (31, .getfield 15, 3, .null, [3, 1, 3], z_g0),
  (34, .iload_n 1, 1, .null, [], z_g0),
  (35, .iload_n 2, 1, .null, [], z_g0),
  (36, .ifCond .eq 22, 3, .null, [58], z_g0),
  (39, .aload_n 0, 1, .null, [], z_g0),
  (40, .iload_n 1, 1, .null, [], z_g0),
  (41, .iconst 0, 1, .int ((0 : Int32)), [], z_g0),
  (42, .invokevirtual 49, 3, .null, [1, 3, 0, 0], g_X2_byteAt),
  (45, .bipush 8, 2, .int ((8 : Int32)), [], z_g0),
  (47, .ishl, 1, .null, [], z_g0),
  (48, .aload_n 0, 1, .null, [], z_g0),
  (49, .iload_n 1, 1, .null, [], z_g0),
  (50, .iconst 1, 1, .int ((1 : Int32)), [], z_g0),
  (51, .invokevirtual 49, 3, .null, [1, 3, 0, 0], g_X2_byteAt),
  (54, .ior, 1, .null, [], z_g0),
  (55, .goto 4, 3, .null, [59], z_g0),
  (58, .iconst 0, 1, .int ((0 : Int32)), [], z_g0),
  (59, .iastore, 1, .null, [], z_g0),
  (60, .return_, 1, .null, [], z_g0)]
def a_X2_look_29 {ρ : Type} (k : Nat → Int32 → Int32 → z_St → Option ρ) (ls : z_Lv) (st : List Value) (S : z_St) : Option ρ := z_gR ls 0 fun v0 => z_gI ls 1 fun v1 => z_pI st fun t0 s0 => z_p0 s0 (k v0 v1 t0 S)
set_option maxRecDepth 100000 in
theorem r_X2_look_29 (v0 : Nat) (v1 : Int32) (t0 : Int32) (S : z_St) : z_seg z_rV (c_X2_look) [29] (fun pc => fun _ _ _ => none) 40 (z_to 29 (c_X2_look)) [(0, .ref v0), (1, .int v1)] [.int t0] S = j_X2_look_29 v0 v1 t0 S := rfl
set_option maxRecDepth 100000 in
theorem r_X2_look (v0 : Nat) (v1 : Int32) (S : z_St) : z_seg z_rV (c_X2_look) [29] (fun pc => cond (Nat.beq pc 29) (a_X2_look_29 (j_X2_look_29)) (fun _ _ _ => none)) 40 (c_X2_look) [(0, .ref v0), (1, .int v1)] [] S = b_X2_look v0 v1 S := rfl
def l_X2_clearFrom_2 : Nat → Nat → Int32 → Int32 → z_St → Option z_St
  | 0 => fun _ _ _ _ => none
  | n + 1 => fun (v0 : Nat) (v1 : Int32) (v3 : Int32) (S : z_St) =>
if ((32 : Int32)) ≤ v3 then
(z_chk S v0 3 (
(f_X2_look v0 v1 S).bind fun q1 =>
some q1))
else
(z_chk S v0 3 (
(f_X2_setByte v0 v1 v3 ((0 : Int32)) S).bind fun q2 =>
let x3 := v3 + (1 : Int32)
l_X2_clearFrom_2 n v0 v1 x3 q2))
def b_X2_clearFrom (v0 : Nat) (v1 : Int32) (v2 : Int32) (S : z_St) : Option z_St :=
l_X2_clearFrom_2 z_N v0 v1 v2 S
def f_X2_clearFrom : Nat → Int32 → Int32 → z_St → Option z_St := z_op (b_X2_clearFrom)
theorem e_X2_clearFrom (v0 : Nat) (v1 : Int32) (v2 : Int32) (S : z_St) : f_X2_clearFrom v0 v1 v2 S = b_X2_clearFrom v0 v1 v2 S := congrFun (congrFun (congrFun (congrFun (z_op_eq (b_X2_clearFrom)) v0) v1) v2) S
def g_X2_clearFrom : z_G := .inr (.inr (.inr (fun as S => match as with
  | [.ref v0, .int v1, .int v2] => f_X2_clearFrom v0 v1 v2 S
  | _ => none)))
def c_X2_clearFrom : List z_E := [
  (0, .iload_n 2, 1, .null, [], z_g0),
  (1, .istore_n 3, 1, .null, [], z_g0),
  (2, .iload_n 3, 1, .null, [], z_g0),
  (3, .bipush 32, 2, .int ((32 : Int32)), [], z_g0),
  (5, .if_icmp .ge 16, 3, .null, [21], z_g0),
  (8, .aload_n 0, 1, .null, [], z_g0),
  (9, .iload_n 1, 1, .null, [], z_g0),
  (10, .iload_n 3, 1, .null, [], z_g0),
  (11, .iconst 0, 1, .int ((0 : Int32)), [], z_g0),
  (12, .invokevirtual 27, 3, .null, [1, 3, 0, 0, 0], g_X2_setByte),
  (15, .iinc 3 1, 3, .int (1 : Int32), [], z_g0),
  (18, .goto (-16), 3, .null, [2], z_g0),
  (21, .aload_n 0, 1, .null, [], z_g0),
  (22, .iload_n 1, 1, .null, [], z_g0),
  (23, .invokevirtual 45, 3, .null, [1, 3, 0], g_X2_look),
  (26, .return_, 1, .null, [], z_g0)]
def a_X2_clearFrom_2 {ρ : Type} (k : Nat → Int32 → Int32 → z_St → Option ρ) (ls : z_Lv) (st : List Value) (S : z_St) : Option ρ := z_gR ls 0 fun v0 => z_gI ls 1 fun v1 => z_gI ls 3 fun v3 => z_p0 st (k v0 v1 v3 S)
set_option maxRecDepth 100000 in
theorem r_X2_clearFrom_2 (n : Nat) (v0 : Nat) (v1 : Int32) (v3 : Int32) (S : z_St) : z_seg z_rV (c_X2_clearFrom) [2] (fun pc => cond (Nat.beq pc 2) (a_X2_clearFrom_2 (l_X2_clearFrom_2 n)) (fun _ _ _ => none)) 19 (z_to 2 (c_X2_clearFrom)) [(0, .ref v0), (1, .int v1), (3, .int v3)] [] S = l_X2_clearFrom_2 (n + 1) v0 v1 v3 S := rfl
set_option maxRecDepth 100000 in
theorem r_X2_clearFrom (v0 : Nat) (v1 : Int32) (v2 : Int32) (S : z_St) : z_seg z_rV (c_X2_clearFrom) [2] (fun pc => cond (Nat.beq pc 2) (a_X2_clearFrom_2 (l_X2_clearFrom_2 z_N)) (fun _ _ _ => none)) 19 (c_X2_clearFrom) [(0, .ref v0), (1, .int v1), (2, .int v2)] [] S = b_X2_clearFrom v0 v1 v2 S := rfl
def b_X11_noNumber (v0 : Int64) (S : z_St) : Option (Int32 × z_St) :=
if (lg_cmp (v0 &&& ((9223372036854775807 : Int64))) ((9218868437227405312 : Int64))) ≤ 0 then
(z_rb ((0 : Int32)) S)
else
(z_rb ((1 : Int32)) S)
def f_X11_noNumber : Int64 → z_St → Option (Int32 × z_St) := z_op (b_X11_noNumber)
theorem e_X11_noNumber (v0 : Int64) (S : z_St) : f_X11_noNumber v0 S = b_X11_noNumber v0 S := congrFun (congrFun (z_op_eq (b_X11_noNumber)) v0) S
def g_X11_noNumber : z_G := .inl (fun as S => match as with
  | [.long v0] => f_X11_noNumber v0 S
  | _ => none)
def c_X11_noNumber : List z_E := [
  (0, .lload_n 0, 1, .null, [], z_g0),
  (1, .ldc2_w 539, 3, .long (9223372036854775807 : Int64), [], z_g0),
  (4, .land, 1, .null, [], z_g0),
  (5, .ldc2_w 541, 3, .long (9218868437227405312 : Int64), [], z_g0),
  (8, .lcmp, 1, .null, [], z_g0),
  (9, .ifCond .le 7, 3, .null, [16], z_g0),
  (12, .iconst 1, 1, .int ((1 : Int32)), [], z_g0),
  (13, .goto 4, 3, .null, [17], z_g0),
  (16, .iconst 0, 1, .int ((0 : Int32)), [], z_g0),
  (17, .ireturn, 1, .null, [], z_g0)]
set_option maxRecDepth 100000 in
theorem r_X11_noNumber (v0 : Int64) (S : z_St) : z_seg z_rZ (c_X11_noNumber) [] (fun pc => fun _ _ _ => none) 13 (c_X11_noNumber) [(0, .long v0)] [] S = b_X11_noNumber v0 S := rfl
def j_X11_scaled_70 (v3 : UInt64) (v5 : Int32) (S : z_St) : Option (UInt64 × z_St) :=
if v5 < 0 then
(z_nn (FP.ddiv v3 (FP.l2d (((1 : Int64)) <<< ((-v5).toInt64 &&& 63)))) (
some (FP.ddiv v3 (FP.l2d (((1 : Int64)) <<< ((-v5).toInt64 &&& 63))), S)))
else
(z_nn (FP.dmul v3 (FP.l2d (((1 : Int64)) <<< (v5.toInt64 &&& 63)))) (
some (FP.dmul v3 (FP.l2d (((1 : Int64)) <<< (v5.toInt64 &&& 63))), S)))
def l_X11_scaled_41 : Nat → UInt64 → Int32 → Int32 → z_St → Option (UInt64 × z_St)
  | 0 => fun _ _ _ _ => none
  | n + 1 => fun (v3 : UInt64) (v5 : Int32) (v6 : Int32) (S : z_St) =>
if ((20 : Int32)) ≤ v6 then
(j_X11_scaled_70 v3 v5 S)
else
(if ((-60 : Int32)) < v5 then
(j_X11_scaled_70 v3 v5 S)
else
(z_nn (FP.dmul v3 ((4336966441157787648 : UInt64))) (
let x5 := FP.dmul v3 ((4336966441157787648 : UInt64))
let x6 := v5 + (60 : Int32)
let x7 := v6 + (1 : Int32)
l_X11_scaled_41 n x5 x6 x7 S)))
def l_X11_scaled_9 : Nat → UInt64 → Int32 → Int32 → z_St → Option (UInt64 × z_St)
  | 0 => fun _ _ _ _ => none
  | n + 1 => fun (v3 : UInt64) (v5 : Int32) (v6 : Int32) (S : z_St) =>
if ((20 : Int32)) ≤ v6 then
(l_X11_scaled_41 z_N v3 v5 ((0 : Int32)) S)
else
(if v5 < ((60 : Int32)) then
(l_X11_scaled_41 z_N v3 v5 ((0 : Int32)) S)
else
(z_nn (FP.dmul v3 ((4877398396442247168 : UInt64))) (
let x2 := FP.dmul v3 ((4877398396442247168 : UInt64))
let x3 := v5 + (-60 : Int32)
let x4 := v6 + (1 : Int32)
l_X11_scaled_9 n x2 x3 x4 S)))
def b_X11_scaled (v0 : Int64) (v2 : Int32) (S : z_St) : Option (UInt64 × z_St) :=
let x1 := FP.l2d v0
l_X11_scaled_9 z_N x1 v2 ((0 : Int32)) S
def f_X11_scaled : Int64 → Int32 → z_St → Option (UInt64 × z_St) := z_op (b_X11_scaled)
theorem e_X11_scaled (v0 : Int64) (v2 : Int32) (S : z_St) : f_X11_scaled v0 v2 S = b_X11_scaled v0 v2 S := congrFun (congrFun (congrFun (z_op_eq (b_X11_scaled)) v0) v2) S
def g_X11_scaled : z_G := .inr (.inr (.inl (fun as S => match as with
  | [.long v0, .int v2] => f_X11_scaled v0 v2 S
  | _ => none)))
def c_X11_scaled : List z_E := [
  (0, .lload_n 0, 1, .null, [], z_g0),
  (1, .l2d, 1, .null, [], z_g0),
  (2, .dstore_n 3, 1, .null, [], z_g0),
  (3, .iload_n 2, 1, .null, [], z_g0),
  (4, .istore 5, 2, .null, [], z_g0),
  (6, .iconst 0, 1, .int ((0 : Int32)), [], z_g0),
  (7, .istore 6, 2, .null, [], z_g0),
  (9, .iload 6, 2, .null, [], z_g0),
  (11, .bipush 20, 2, .int ((20 : Int32)), [], z_g0),
  (13, .if_icmp .ge 25, 3, .null, [38], z_g0),
  (16, .iload 5, 2, .null, [], z_g0),
  (18, .bipush 60, 2, .int ((60 : Int32)), [], z_g0),
  (20, .if_icmp .lt 18, 3, .null, [38], z_g0),
  (23, .dload_n 3, 1, .null, [], z_g0),
  (24, .ldc2_w 558, 3, .double (4877398396442247168 : UInt64), [], z_g0),
  (27, .dmul, 1, .null, [], z_g0),
  (28, .dstore_n 3, 1, .null, [], z_g0),
  (29, .iinc 5 (-60), 3, .int (-60 : Int32), [], z_g0),
  (32, .iinc 6 1, 3, .int (1 : Int32), [], z_g0),
  (35, .goto (-26), 3, .null, [9], z_g0),
  (38, .iconst 0, 1, .int ((0 : Int32)), [], z_g0),
  (39, .istore 6, 2, .null, [], z_g0),
  (41, .iload 6, 2, .null, [], z_g0),
  (43, .bipush 20, 2, .int ((20 : Int32)), [], z_g0),
  (45, .if_icmp .ge 25, 3, .null, [70], z_g0),
  (48, .iload 5, 2, .null, [], z_g0),
  (50, .bipush (-60), 2, .int ((-60 : Int32)), [], z_g0),
  (52, .if_icmp .gt 18, 3, .null, [70], z_g0),
  (55, .dload_n 3, 1, .null, [], z_g0),
  (56, .ldc2_w 560, 3, .double (4336966441157787648 : UInt64), [], z_g0),
  (59, .dmul, 1, .null, [], z_g0),
  (60, .dstore_n 3, 1, .null, [], z_g0),
  (61, .iinc 5 60, 3, .int (60 : Int32), [], z_g0),
  (64, .iinc 6 1, 3, .int (1 : Int32), [], z_g0),
  (67, .goto (-26), 3, .null, [41], z_g0),
  (70, .iload 5, 2, .null, [], z_g0),
  (72, .ifCond .lt 13, 3, .null, [85], z_g0),
  (75, .dload_n 3, 1, .null, [], z_g0),
  (76, .lconst 1, 1, .long (1 : Int64), [], z_g0),
  (77, .iload 5, 2, .null, [], z_g0),
  (79, .lshl, 1, .null, [], z_g0),
  (80, .l2d, 1, .null, [], z_g0),
  (81, .dmul, 1, .null, [], z_g0),
  (82, .goto 11, 3, .null, [93], z_g0),
  (85, .dload_n 3, 1, .null, [], z_g0),
  (86, .lconst 1, 1, .long (1 : Int64), [], z_g0),
  (87, .iload 5, 2, .null, [], z_g0),
  (89, .ineg, 1, .null, [], z_g0),
  (90, .lshl, 1, .null, [], z_g0),
  (91, .l2d, 1, .null, [], z_g0),
  (92, .ddiv, 1, .null, [], z_g0),
  (93, .dreturn, 1, .null, [], z_g0)]
def a_X11_scaled_9 {ρ : Type} (k : UInt64 → Int32 → Int32 → z_St → Option ρ) (ls : z_Lv) (st : List Value) (S : z_St) : Option ρ := z_gD ls 3 fun v3 => z_gI ls 5 fun v5 => z_gI ls 6 fun v6 => z_p0 st (k v3 v5 v6 S)
def a_X11_scaled_41 {ρ : Type} (k : UInt64 → Int32 → Int32 → z_St → Option ρ) (ls : z_Lv) (st : List Value) (S : z_St) : Option ρ := z_gD ls 3 fun v3 => z_gI ls 5 fun v5 => z_gI ls 6 fun v6 => z_p0 st (k v3 v5 v6 S)
def a_X11_scaled_70 {ρ : Type} (k : UInt64 → Int32 → z_St → Option ρ) (ls : z_Lv) (st : List Value) (S : z_St) : Option ρ := z_gD ls 3 fun v3 => z_gI ls 5 fun v5 => z_p0 st (k v3 v5 S)
set_option maxRecDepth 100000 in
theorem r_X11_scaled_70 (v3 : UInt64) (v5 : Int32) (S : z_St) : z_seg z_rD (c_X11_scaled) [9, 41, 70] (fun pc => fun _ _ _ => none) 55 (z_to 70 (c_X11_scaled)) [(3, .double v3), (5, .int v5)] [] S = j_X11_scaled_70 v3 v5 S := rfl
set_option maxRecDepth 100000 in
theorem r_X11_scaled_41 (n : Nat) (v3 : UInt64) (v5 : Int32) (v6 : Int32) (S : z_St) : z_seg z_rD (c_X11_scaled) [9, 41, 70] (fun pc => cond (Nat.beq pc 41) (a_X11_scaled_41 (l_X11_scaled_41 n)) (cond (Nat.beq pc 70) (a_X11_scaled_70 (j_X11_scaled_70)) (fun _ _ _ => none))) 55 (z_to 41 (c_X11_scaled)) [(3, .double v3), (5, .int v5), (6, .int v6)] [] S = l_X11_scaled_41 (n + 1) v3 v5 v6 S := rfl
set_option maxRecDepth 100000 in
theorem r_X11_scaled_9 (n : Nat) (v3 : UInt64) (v5 : Int32) (v6 : Int32) (S : z_St) : z_seg z_rD (c_X11_scaled) [9, 41, 70] (fun pc => cond (Nat.beq pc 9) (a_X11_scaled_9 (l_X11_scaled_9 n)) (cond (Nat.beq pc 41) (a_X11_scaled_41 (l_X11_scaled_41 z_N)) (fun _ _ _ => none))) 55 (z_to 9 (c_X11_scaled)) [(3, .double v3), (5, .int v5), (6, .int v6)] [] S = l_X11_scaled_9 (n + 1) v3 v5 v6 S := rfl
set_option maxRecDepth 100000 in
theorem r_X11_scaled (v0 : Int64) (v2 : Int32) (S : z_St) : z_seg z_rD (c_X11_scaled) [9, 41, 70] (fun pc => cond (Nat.beq pc 9) (a_X11_scaled_9 (l_X11_scaled_9 z_N)) (fun _ _ _ => none)) 55 (c_X11_scaled) [(0, .long v0), (2, .int v2)] [] S = b_X11_scaled v0 v2 S := rfl
def b_J9_max_7cf53 (v0 : Int32) (v1 : Int32) (S : z_St) : Option (Int32 × z_St) :=
if v0 < v1 then
(some (v1, S))
else
(some (v0, S))
def f_J9_max_7cf53 : Int32 → Int32 → z_St → Option (Int32 × z_St) := z_op (b_J9_max_7cf53)
theorem e_J9_max_7cf53 (v0 : Int32) (v1 : Int32) (S : z_St) : f_J9_max_7cf53 v0 v1 S = b_J9_max_7cf53 v0 v1 S := congrFun (congrFun (congrFun (z_op_eq (b_J9_max_7cf53)) v0) v1) S
def g_J9_max_7cf53 : z_G := .inl (fun as S => match as with
  | [.int v0, .int v1] => f_J9_max_7cf53 v0 v1 S
  | _ => none)
def c_J9_max_7cf53 : List z_E := [
  (0, .iload_n 0, 1, .null, [], z_g0),
  (1, .iload_n 1, 1, .null, [], z_g0),
  (2, .if_icmp .lt 7, 3, .null, [9], z_g0),
  (5, .iload_n 0, 1, .null, [], z_g0),
  (6, .goto 4, 3, .null, [10], z_g0),
  (9, .iload_n 1, 1, .null, [], z_g0),
  (10, .ireturn, 1, .null, [], z_g0)]
set_option maxRecDepth 100000 in
theorem r_J9_max_7cf53 (v0 : Int32) (v1 : Int32) (S : z_St) : z_seg z_rI (c_J9_max_7cf53) [] (fun pc => fun _ _ _ => none) 10 (c_J9_max_7cf53) [(0, .int v0), (1, .int v1)] [] S = b_J9_max_7cf53 v0 v1 S := rfl
def j_X11_realOf_63 (v0 : Int64) (t0 : UInt64) (S : z_St) : Option (UInt64 × z_St) :=
if 0 ≤ (lg_cmp v0 ((0 : Int64))) then
(some (t0, S))
else
(some (FP.dneg t0, S))
def b_X11_realOf (v0 : Int64) (S : z_St) : Option (UInt64 × z_St) :=
(f_X11_noNumber v0 S).bind fun q1 =>
if q1.1 = 0 then
(let x2 := (((v0.toUInt64 >>> (((52 : Int32)).toInt64.toUInt64 &&& Int64.toUInt64 63)).toInt64).toInt32) &&& ((2047 : Int32))
let x3 := v0 &&& ((4503599627370495 : Int64))
if x2 = ((2047 : Int32)) then
(j_X11_realOf_63 v0 ((9218868437227405312 : UInt64)) q1.2)
else
(if x2 = 0 then
((f_J9_max_7cf53 x2 ((1 : Int32)) q1.2).bind fun q6 =>
(f_X11_scaled x3 (q6.1 - ((1075 : Int32))) q6.2).bind fun q7 =>
j_X11_realOf_63 v0 q7.1 q7.2)
else
((f_J9_max_7cf53 x2 ((1 : Int32)) q1.2).bind fun q4 =>
(f_X11_scaled (x3 ||| ((4503599627370496 : Int64))) (q4.1 - ((1075 : Int32))) q4.2).bind fun q5 =>
j_X11_realOf_63 v0 q5.1 q5.2)))
else
(some (FP.dconst0, q1.2))
def f_X11_realOf : Int64 → z_St → Option (UInt64 × z_St) := z_op (b_X11_realOf)
theorem e_X11_realOf (v0 : Int64) (S : z_St) : f_X11_realOf v0 S = b_X11_realOf v0 S := congrFun (congrFun (z_op_eq (b_X11_realOf)) v0) S
def g_X11_realOf : z_G := .inr (.inr (.inl (fun as S => match as with
  | [.long v0] => f_X11_realOf v0 S
  | _ => none)))
def c_X11_realOf : List z_E := [
  (0, .lload_n 0, 1, .null, [], z_g0),
  (1, .invokestatic 405, 3, .null, [0, 0], g_X11_noNumber),
  (4, .ifCond .eq 5, 3, .null, [9], z_g0),
  (7, .dconst 0, 1, .double FP.dconst0, [], z_g0),
  (8, .dreturn, 1, .null, [], z_g0),
  (9, .lload_n 0, 1, .null, [], z_g0),
  (10, .bipush 52, 2, .int ((52 : Int32)), [], z_g0),
  (12, .lushr, 1, .null, [], z_g0),
  (13, .l2i, 1, .null, [], z_g0),
  (14, .sipush 2047, 3, .int ((2047 : Int32)), [], z_g0),
  (17, .iand, 1, .null, [], z_g0),
  (18, .istore_n 2, 1, .null, [], z_g0),
  (19, .lload_n 0, 1, .null, [], z_g0),
  (20, .ldc2_w 543, 3, .long (4503599627370495 : Int64), [], z_g0),
  (23, .land, 1, .null, [], z_g0),
  (24, .lstore_n 3, 1, .null, [], z_g0),
  (25, .iload_n 2, 1, .null, [], z_g0),
  (26, .sipush 2047, 3, .int ((2047 : Int32)), [], z_g0),
  (29, .if_icmp .ne 9, 3, .null, [38], z_g0),
  (32, .ldc2_w 545, 3, .double (9218868437227405312 : UInt64), [], z_g0),
  (35, .goto 28, 3, .null, [63], z_g0),
  (38, .iload_n 2, 1, .null, [], z_g0),
  (39, .ifCond .ne 7, 3, .null, [46], z_g0),
  (42, .lload_n 3, 1, .null, [], z_g0),
  (43, .goto 8, 3, .null, [51], z_g0),
  (46, .lload_n 3, 1, .null, [], z_g0),
  (47, .ldc2_w 547, 3, .long (4503599627370496 : Int64), [], z_g0),
  (50, .lor, 1, .null, [], z_g0),
  (51, .iload_n 2, 1, .null, [], z_g0),
  (52, .iconst 1, 1, .int ((1 : Int32)), [], z_g0),
  (53, .invokestatic 549, 3, .null, [0, 0, 0], g_J9_max_7cf53),
  (56, .sipush 1075, 3, .int ((1075 : Int32)), [], z_g0),
  (59, .isub, 1, .null, [], z_g0),
  (60, .invokestatic 554, 3, .null, [0, 0, 0], g_X11_scaled),
  (63, .dstore 5, 2, .null, [], z_g0),
  (65, .lload_n 0, 1, .null, [], z_g0),
  (66, .lconst 0, 1, .long (0 : Int64), [], z_g0),
  (67, .lcmp, 1, .null, [], z_g0),
  (68, .ifCond .ge 9, 3, .null, [77], z_g0),
  (71, .dload 5, 2, .null, [], z_g0),
  (73, .dneg, 1, .null, [], z_g0),
  (74, .goto 5, 3, .null, [79], z_g0),
  (77, .dload 5, 2, .null, [], z_g0),
  (79, .dreturn, 1, .null, [], z_g0)]
def a_X11_realOf_63 {ρ : Type} (k : Int64 → UInt64 → z_St → Option ρ) (ls : z_Lv) (st : List Value) (S : z_St) : Option ρ := z_gJ ls 0 fun v0 => z_pD st fun t0 s0 => z_p0 s0 (k v0 t0 S)
set_option maxRecDepth 100000 in
theorem r_X11_realOf_63 (v0 : Int64) (t0 : UInt64) (S : z_St) : z_seg z_rD (c_X11_realOf) [63] (fun pc => fun _ _ _ => none) 47 (z_to 63 (c_X11_realOf)) [(0, .long v0)] [.double t0] S = j_X11_realOf_63 v0 t0 S := rfl
set_option maxRecDepth 100000 in
theorem r_X11_realOf (v0 : Int64) (S : z_St) : z_seg z_rD (c_X11_realOf) [63] (fun pc => cond (Nat.beq pc 63) (a_X11_realOf_63 (j_X11_realOf_63)) (fun _ _ _ => none)) 47 (c_X11_realOf) [(0, .long v0)] [] S = b_X11_realOf v0 S := rfl
def j_X8_wholeOfCell_12 (v1 : Int64) (S : z_St) : Option (Int64 × z_St) :=
(f_X11_noNumber v1 S).bind fun q1 =>
if q1.1 = 0 then
((f_X11_realOf v1 q1.2).bind fun q2 =>
some (FP.d2l q2.1, q2.2))
else
(some ((0 : Int64), q1.2))
def b_X8_wholeOfCell (v0 : Int32) (v1 : Int64) (S : z_St) : Option (Int64 × z_St) :=
if v0 = ((2 : Int32)) then
(j_X8_wholeOfCell_12 v1 S)
else
(if v0 = ((3 : Int32)) then
(j_X8_wholeOfCell_12 v1 S)
else
(some (v1, S)))
def f_X8_wholeOfCell : Int32 → Int64 → z_St → Option (Int64 × z_St) := z_op (b_X8_wholeOfCell)
theorem e_X8_wholeOfCell (v0 : Int32) (v1 : Int64) (S : z_St) : f_X8_wholeOfCell v0 v1 S = b_X8_wholeOfCell v0 v1 S := congrFun (congrFun (congrFun (z_op_eq (b_X8_wholeOfCell)) v0) v1) S
def g_X8_wholeOfCell : z_G := .inr (.inl (fun as S => match as with
  | [.int v0, .long v1] => f_X8_wholeOfCell v0 v1 S
  | _ => none))
def c_X8_wholeOfCell : List z_E := [
  (0, .iload_n 0, 1, .null, [], z_g0),
  (1, .iconst 2, 1, .int ((2 : Int32)), [], z_g0),
  (2, .if_icmp .eq 10, 3, .null, [12], z_g0),
  (5, .iload_n 0, 1, .null, [], z_g0),
  (6, .iconst 3, 1, .int ((3 : Int32)), [], z_g0),
  (7, .if_icmp .eq 5, 3, .null, [12], z_g0),
  (10, .lload_n 1, 1, .null, [], z_g0),
  (11, .lreturn, 1, .null, [], z_g0),
  (12, .lload_n 1, 1, .null, [], z_g0),
  (13, .invokestatic 23, 3, .null, [0, 0], g_X11_noNumber),
  (16, .ifCond .eq 7, 3, .null, [23], z_g0),
  (19, .lconst 0, 1, .long (0 : Int64), [], z_g0),
  (20, .goto 8, 3, .null, [28], z_g0),
  (23, .lload_n 1, 1, .null, [], z_g0),
  (24, .invokestatic 29, 3, .null, [0, 0], g_X11_realOf),
  (27, .d2l, 1, .null, [], z_g0),
  (28, .lreturn, 1, .null, [], z_g0)]
def a_X8_wholeOfCell_12 {ρ : Type} (k : Int64 → z_St → Option ρ) (ls : z_Lv) (st : List Value) (S : z_St) : Option ρ := z_gJ ls 1 fun v1 => z_p0 st (k v1 S)
set_option maxRecDepth 100000 in
theorem r_X8_wholeOfCell_12 (v1 : Int64) (S : z_St) : z_seg z_rL (c_X8_wholeOfCell) [12] (fun pc => fun _ _ _ => none) 20 (z_to 12 (c_X8_wholeOfCell)) [(1, .long v1)] [] S = j_X8_wholeOfCell_12 v1 S := rfl
set_option maxRecDepth 100000 in
theorem r_X8_wholeOfCell (v0 : Int32) (v1 : Int64) (S : z_St) : z_seg z_rL (c_X8_wholeOfCell) [12] (fun pc => cond (Nat.beq pc 12) (a_X8_wholeOfCell_12 (j_X8_wholeOfCell_12)) (fun _ _ _ => none)) 20 (c_X8_wholeOfCell) [(0, .int v0), (1, .long v1)] [] S = b_X8_wholeOfCell v0 v1 S := rfl
def b_X8_wholeAt (v0 : Nat) (v1 : Int32) (S : z_St) : Option (Int64 × z_St) :=
z_chk S v0 9 (
z_chk S v0 9 (
z_onV (va_rf (z_r S v0 1)) fun b1 =>
z_inb S b1 102 v1 (
(f_X8_wholeOfCell ((z_i S v0 0)) ((z_l S b1 v1.toNatClampNeg)) S).bind fun q2 =>
some (q2.1, q2.2))))
def f_X8_wholeAt : Nat → Int32 → z_St → Option (Int64 × z_St) := z_op (b_X8_wholeAt)
theorem e_X8_wholeAt (v0 : Nat) (v1 : Int32) (S : z_St) : f_X8_wholeAt v0 v1 S = b_X8_wholeAt v0 v1 S := congrFun (congrFun (congrFun (z_op_eq (b_X8_wholeAt)) v0) v1) S
def g_X8_wholeAt : z_G := .inr (.inl (fun as S => match as with
  | [.ref v0, .int v1] => f_X8_wholeAt v0 v1 S
  | _ => none))
def c_X8_wholeAt : List z_E := [
  (0, .aload_n 0, 1, .null, [], z_g0),
  (1, .getfield 9, 3, .null, [9, 0, 0], z_g0),
  (4, .aload_n 0, 1, .null, [], z_g0),
  (5, .getfield 15, 3, .null, [9, 1, 3], z_g0),
  (8, .iload_n 1, 1, .null, [], z_g0),
  (9, .laload, 1, .null, [], z_g0),
  (10, .invokestatic 37, 3, .null, [0, 0, 0], g_X8_wholeOfCell),
  (13, .lreturn, 1, .null, [], z_g0)]
set_option maxRecDepth 100000 in
theorem r_X8_wholeAt (v0 : Nat) (v1 : Int32) (S : z_St) : z_seg z_rL (c_X8_wholeAt) [] (fun pc => fun _ _ _ => none) 11 (c_X8_wholeAt) [(0, .ref v0), (1, .int v1)] [] S = b_X8_wholeAt v0 v1 S := rfl
def l_X2_write_98 : Nat → Nat → Int32 → Int32 → Int32 → z_St → Option z_St
  | 0 => fun _ _ _ _ _ => none
  | n + 1 => fun (v0 : Nat) (v2 : Int32) (v3 : Int32) (v4 : Int32) (S : z_St) =>
if ((4 : Int32)) ≤ v4 then
(z_chk S v0 3 (
(f_X2_look v0 v2 S).bind fun q13 =>
some q13))
else
(z_chk S v0 3 (
(f_X2_setByte v0 v2 (((28 : Int32)) + v4) (v3 >>> ((((24 : Int32)) - (((8 : Int32)) * v4)) &&& 31)) S).bind fun q14 =>
let x15 := v4 + (1 : Int32)
l_X2_write_98 n v0 v2 v3 x15 q14))
def l_X2_write_60 : Nat → Nat → Nat → Int32 → Int32 → z_St → Option z_St
  | 0 => fun _ _ _ _ _ => none
  | n + 1 => fun (v0 : Nat) (v1 : Nat) (v2 : Int32) (v3 : Int32) (S : z_St) =>
z_chk S v1 9 (
z_onV (va_rf (z_r S v1 1)) fun b8 =>
z_chk S b8 102 (
if (Int32.ofNat (z_n S b8)) ≤ v3 then
(z_chk S v0 3 (
(f_X2_sumOf v0 v2 S).bind fun q9 =>
l_X2_write_98 z_N v0 v2 q9.1 ((0 : Int32)) q9.2))
else
(z_chk S v1 9 (
(f_X8_wholeAt v1 v3 S).bind fun q10 =>
z_chk q10.2 v0 3 (
(f_X2_setByte v0 v2 (((3 : Int32)) + v3) q10.1.toInt32 q10.2).bind fun q11 =>
let x12 := v3 + (1 : Int32)
l_X2_write_60 n v0 v1 v2 x12 q11)))))
def b_X2_write (v0 : Nat) (v1 : Nat) (S : z_St) : Option z_St :=
z_chk S v0 3 (
z_nz ((32 : Int32)) (
let x1 := ((z_i S v0 2)) - ((z_i S v0 2)) / ((32 : Int32)) * ((32 : Int32))
z_chk S v0 3 (
z_chk S v0 3 (
let S2 := z_wi S v0 2 (((z_i S v0 2)) + ((1 : Int32)))
z_chk S2 v0 3 (
(f_X2_clearFrom v0 x1 ((0 : Int32)) S2).bind fun q3 =>
z_chk q3 v0 3 (
z_chk q3 v0 3 (
(f_X2_setByte v0 x1 ((0 : Int32)) (((z_i q3 v0 2)) >>> (((8 : Int32)) &&& 31)) q3).bind fun q4 =>
z_chk q4 v0 3 (
z_chk q4 v0 3 (
(f_X2_setByte v0 x1 ((1 : Int32)) ((z_i q4 v0 2)) q4).bind fun q5 =>
z_chk q5 v1 9 (
z_onV (va_rf (z_r q5 v1 1)) fun b6 =>
z_chk q5 b6 102 (
z_chk q5 v0 3 (
(f_X2_setByte v0 x1 ((2 : Int32)) (Int32.ofNat (z_n q5 b6)) q5).bind fun q7 =>
l_X2_write_60 z_N v0 v1 x1 ((0 : Int32)) q7))))))))))))
def f_X2_write : Nat → Nat → z_St → Option z_St := z_op (b_X2_write)
theorem e_X2_write (v0 : Nat) (v1 : Nat) (S : z_St) : f_X2_write v0 v1 S = b_X2_write v0 v1 S := congrFun (congrFun (congrFun (z_op_eq (b_X2_write)) v0) v1) S
def g_X2_write : z_G := .inr (.inr (.inr (fun as S => match as with
  | [.ref v0, .ref v1] => f_X2_write v0 v1 S
  | _ => none)))
def c_X2_write : List z_E := [
  (0, .aload_n 0, 1, .null, [], z_g0),
  (1, .getfield 19, 3, .null, [3, 2, 0], z_g0),
  (4, .bipush 32, 2, .int ((32 : Int32)), [], z_g0),
  (6, .irem, 1, .null, [], z_g0),
  (7, .istore_n 2, 1, .null, [], z_g0),
  (8, .aload_n 0, 1, .null, [], z_g0),
  (9, .dup, 1, .null, [], z_g0),
  (10, .getfield 19, 3, .null, [3, 2, 0], z_g0),
  (13, .iconst 1, 1, .int ((1 : Int32)), [], z_g0),
  (14, .iadd, 1, .null, [], z_g0),
  (15, .putfield 19, 3, .null, [3, 2, 0], z_g0),
  (18, .aload_n 0, 1, .null, [], z_g0),
  (19, .iload_n 2, 1, .null, [], z_g0),
  (20, .iconst 0, 1, .int ((0 : Int32)), [], z_g0),
  (21, .invokevirtual 23, 3, .null, [1, 3, 0, 0], g_X2_clearFrom),
  (24, .aload_n 0, 1, .null, [], z_g0),
  (25, .iload_n 2, 1, .null, [], z_g0),
  (26, .iconst 0, 1, .int ((0 : Int32)), [], z_g0),
  (27, .aload_n 0, 1, .null, [], z_g0),
  (28, .getfield 19, 3, .null, [3, 2, 0], z_g0),
  (31, .bipush 8, 2, .int ((8 : Int32)), [], z_g0),
  (33, .ishr, 1, .null, [], z_g0),
  (34, .invokevirtual 27, 3, .null, [1, 3, 0, 0, 0], g_X2_setByte),
  (37, .aload_n 0, 1, .null, [], z_g0),
  (38, .iload_n 2, 1, .null, [], z_g0),
  (39, .iconst 1, 1, .int ((1 : Int32)), [], z_g0),
  (40, .aload_n 0, 1, .null, [], z_g0),
  (41, .getfield 19, 3, .null, [3, 2, 0], z_g0),
  (44, .invokevirtual 27, 3, .null, [1, 3, 0, 0, 0], g_X2_setByte),
  (47, .aload_n 0, 1, .null, [], z_g0),
  (48, .iload_n 2, 1, .null, [], z_g0),
  (49, .iconst 2, 1, .int ((2 : Int32)), [], z_g0),
  (50, .aload_n 1, 1, .null, [], z_g0),
  (51, .getfield 31, 3, .null, [9, 1, 3], z_g0),
  (54, .arraylength, 1, .null, [102], z_g0),
  (55, .invokevirtual 27, 3, .null, [1, 3, 0, 0, 0], g_X2_setByte),
  (58, .iconst 0, 1, .int ((0 : Int32)), [], z_g0),
  (59, .istore_n 3, 1, .null, [], z_g0),
  (60, .iload_n 3, 1, .null, [], z_g0),
  (61, .aload_n 1, 1, .null, [], z_g0),
  (62, .getfield 31, 3, .null, [9, 1, 3], z_g0),
  (65, .arraylength, 1, .null, [102], z_g0),
  (66, .if_icmp .ge 23, 3, .null, [89], z_g0),
  (69, .aload_n 0, 1, .null, [], z_g0),
  (70, .iload_n 2, 1, .null, [], z_g0),
  (71, .iconst 3, 1, .int ((3 : Int32)), [], z_g0),
  (72, .iload_n 3, 1, .null, [], z_g0),
  (73, .iadd, 1, .null, [], z_g0),
  (74, .aload_n 1, 1, .null, [], z_g0),
  (75, .iload_n 3, 1, .null, [], z_g0),
  (76, .invokevirtual 37, 3, .null, [1, 9, 0], g_X8_wholeAt),
  (79, .l2i, 1, .null, [], z_g0),
  (80, .invokevirtual 27, 3, .null, [1, 3, 0, 0, 0], g_X2_setByte),
  (83, .iinc 3 1, 3, .int (1 : Int32), [], z_g0),
  (86, .goto (-26), 3, .null, [60], z_g0),
  (89, .aload_n 0, 1, .null, [], z_g0),
  (90, .iload_n 2, 1, .null, [], z_g0),
  (91, .invokevirtual 41, 3, .null, [1, 3, 0], g_X2_sumOf),
  (94, .istore_n 3, 1, .null, [], z_g0),
  (95, .iconst 0, 1, .int ((0 : Int32)), [], z_g0),
  (96, .istore 4, 2, .null, [], z_g0),
  (98, .iload 4, 2, .null, [], z_g0),
  (100, .iconst 4, 1, .int ((4 : Int32)), [], z_g0),
  (101, .if_icmp .ge 29, 3, .null, [130], z_g0),
  (104, .aload_n 0, 1, .null, [], z_g0),
  (105, .iload_n 2, 1, .null, [], z_g0),
  (106, .bipush 28, 2, .int ((28 : Int32)), [], z_g0),
  (108, .iload 4, 2, .null, [], z_g0),
  (110, .iadd, 1, .null, [], z_g0),
  (111, .iload_n 3, 1, .null, [], z_g0),
  (112, .bipush 24, 2, .int ((24 : Int32)), [], z_g0),
  (114, .bipush 8, 2, .int ((8 : Int32)), [], z_g0),
  (116, .iload 4, 2, .null, [], z_g0),
  (118, .imul, 1, .null, [], z_g0),
  (119, .isub, 1, .null, [], z_g0),
  (120, .ishr, 1, .null, [], z_g0),
  (121, .invokevirtual 27, 3, .null, [1, 3, 0, 0, 0], g_X2_setByte),
  (124, .iinc 4 1, 3, .int (1 : Int32), [], z_g0),
  (127, .goto (-29), 3, .null, [98], z_g0),
  (130, .aload_n 0, 1, .null, [], z_g0),
  (131, .iload_n 2, 1, .null, [], z_g0),
  (132, .invokevirtual 45, 3, .null, [1, 3, 0], g_X2_look),
  (135, .return_, 1, .null, [], z_g0)]
def a_X2_write_60 {ρ : Type} (k : Nat → Nat → Int32 → Int32 → z_St → Option ρ) (ls : z_Lv) (st : List Value) (S : z_St) : Option ρ := z_gR ls 0 fun v0 => z_gR ls 1 fun v1 => z_gI ls 2 fun v2 => z_gI ls 3 fun v3 => z_p0 st (k v0 v1 v2 v3 S)
def a_X2_write_98 {ρ : Type} (k : Nat → Int32 → Int32 → Int32 → z_St → Option ρ) (ls : z_Lv) (st : List Value) (S : z_St) : Option ρ := z_gR ls 0 fun v0 => z_gI ls 2 fun v2 => z_gI ls 3 fun v3 => z_gI ls 4 fun v4 => z_p0 st (k v0 v2 v3 v4 S)
set_option maxRecDepth 100000 in
theorem r_X2_write_98 (n : Nat) (v0 : Nat) (v2 : Int32) (v3 : Int32) (v4 : Int32) (S : z_St) : z_seg z_rV (c_X2_write) [60, 98] (fun pc => cond (Nat.beq pc 98) (a_X2_write_98 (l_X2_write_98 n)) (fun _ _ _ => none)) 86 (z_to 98 (c_X2_write)) [(0, .ref v0), (2, .int v2), (3, .int v3), (4, .int v4)] [] S = l_X2_write_98 (n + 1) v0 v2 v3 v4 S := rfl
set_option maxRecDepth 100000 in
theorem r_X2_write_60 (n : Nat) (v0 : Nat) (v1 : Nat) (v2 : Int32) (v3 : Int32) (S : z_St) : z_seg z_rV (c_X2_write) [60, 98] (fun pc => cond (Nat.beq pc 60) (a_X2_write_60 (l_X2_write_60 n)) (cond (Nat.beq pc 98) (a_X2_write_98 (l_X2_write_98 z_N)) (fun _ _ _ => none))) 86 (z_to 60 (c_X2_write)) [(0, .ref v0), (1, .ref v1), (2, .int v2), (3, .int v3)] [] S = l_X2_write_60 (n + 1) v0 v1 v2 v3 S := rfl
set_option maxRecDepth 100000 in
theorem r_X2_write (v0 : Nat) (v1 : Nat) (S : z_St) : z_seg z_rV (c_X2_write) [60, 98] (fun pc => cond (Nat.beq pc 60) (a_X2_write_60 (l_X2_write_60 z_N)) (fun _ _ _ => none)) 86 (c_X2_write) [(0, .ref v0), (1, .ref v1)] [] S = b_X2_write v0 v1 S := rfl
def b_X2_alter (v0 : Nat) (v1 : Int32) (v2 : Int32) (v3 : Int32) (S : z_St) : Option z_St :=
z_chk S v0 3 (
(f_X2_byteAt v0 v1 v2 S).bind fun q1 =>
z_chk q1.2 v0 3 (
(f_X2_setByte v0 v1 v2 (q1.1 ^^^ v3) q1.2).bind fun q2 =>
z_chk q2 v0 3 (
(f_X2_look v0 v1 q2).bind fun q3 =>
some q3)))
def f_X2_alter : Nat → Int32 → Int32 → Int32 → z_St → Option z_St := z_op (b_X2_alter)
theorem e_X2_alter (v0 : Nat) (v1 : Int32) (v2 : Int32) (v3 : Int32) (S : z_St) : f_X2_alter v0 v1 v2 v3 S = b_X2_alter v0 v1 v2 v3 S := congrFun (congrFun (congrFun (congrFun (congrFun (z_op_eq (b_X2_alter)) v0) v1) v2) v3) S
def g_X2_alter : z_G := .inr (.inr (.inr (fun as S => match as with
  | [.ref v0, .int v1, .int v2, .int v3] => f_X2_alter v0 v1 v2 v3 S
  | _ => none)))
def c_X2_alter : List z_E := [
  (0, .aload_n 0, 1, .null, [], z_g0),
  (1, .iload_n 1, 1, .null, [], z_g0),
  (2, .iload_n 2, 1, .null, [], z_g0),
  (3, .aload_n 0, 1, .null, [], z_g0),
  (4, .iload_n 1, 1, .null, [], z_g0),
  (5, .iload_n 2, 1, .null, [], z_g0),
  (6, .invokevirtual 49, 3, .null, [1, 3, 0, 0], g_X2_byteAt),
  (9, .iload_n 3, 1, .null, [], z_g0),
  (10, .ixor, 1, .null, [], z_g0),
  (11, .invokevirtual 27, 3, .null, [1, 3, 0, 0, 0], g_X2_setByte),
  (14, .aload_n 0, 1, .null, [], z_g0),
  (15, .iload_n 1, 1, .null, [], z_g0),
  (16, .invokevirtual 45, 3, .null, [1, 3, 0], g_X2_look),
  (19, .return_, 1, .null, [], z_g0)]
set_option maxRecDepth 100000 in
theorem r_X2_alter (v0 : Nat) (v1 : Int32) (v2 : Int32) (v3 : Int32) (S : z_St) : z_seg z_rV (c_X2_alter) [] (fun pc => fun _ _ _ => none) 17 (c_X2_alter) [(0, .ref v0), (1, .int v1), (2, .int v2), (3, .int v3)] [] S = b_X2_alter v0 v1 v2 v3 S := rfl
def b_X2_copyPage (v0 : Nat) (v1 : Int32) (v2 : Int32) (S : z_St) : Option z_St :=
z_chk S v0 3 (
z_chk S v0 3 (
z_onV (va_rf (z_r S v0 0)) fun b1 =>
z_onV (va_rf (z_r S v0 0)) fun b2 =>
z_cpy S 105 b2 (v1 * ((32 : Int32))) b1 (v2 * ((32 : Int32))) ((32 : Int32)) (
let S3 := z_ci S b2 (v1 * ((32 : Int32))).toNatClampNeg b1 (v2 * ((32 : Int32))).toNatClampNeg ((32 : Int32)).toNatClampNeg
z_chk S3 v0 3 (
z_chk S3 v0 3 (
z_onV (va_rf (z_r S3 v0 1)) fun b4 =>
z_inb S3 b4 101 v1 (
z_onV (va_rf (z_r S3 v0 1)) fun b5 =>
z_inb S3 b5 101 v2 (
let S6 := z_wi S3 b5 v2.toNatClampNeg ((z_i S3 b4 v1.toNatClampNeg))
some S6)))))))
def f_X2_copyPage : Nat → Int32 → Int32 → z_St → Option z_St := z_op (b_X2_copyPage)
theorem e_X2_copyPage (v0 : Nat) (v1 : Int32) (v2 : Int32) (S : z_St) : f_X2_copyPage v0 v1 v2 S = b_X2_copyPage v0 v1 v2 S := congrFun (congrFun (congrFun (congrFun (z_op_eq (b_X2_copyPage)) v0) v1) v2) S
def g_X2_copyPage : z_G := .inr (.inr (.inr (fun as S => match as with
  | [.ref v0, .int v1, .int v2] => f_X2_copyPage v0 v1 v2 S
  | _ => none)))
def c_X2_copyPage : List z_E := [
  (0, .aload_n 0, 1, .null, [], z_g0),
  (1, .getfield 11, 3, .null, [3, 0, 3], z_g0),
  (4, .iload_n 1, 1, .null, [], z_g0),
  (5, .bipush 32, 2, .int ((32 : Int32)), [], z_g0),
  (7, .imul, 1, .null, [], z_g0),
  (8, .aload_n 0, 1, .null, [], z_g0),
  (9, .getfield 11, 3, .null, [3, 0, 3], z_g0),
  (12, .iload_n 2, 1, .null, [], z_g0),
  (13, .bipush 32, 2, .int ((32 : Int32)), [], z_g0),
  (15, .imul, 1, .null, [], z_g0),
  (16, .bipush 32, 2, .int ((32 : Int32)), [], z_g0),
  (18, .invokestatic 53, 3, .null, [3, 105], z_g0),
  (21, .aload_n 0, 1, .null, [], z_g0),
  (22, .getfield 15, 3, .null, [3, 1, 3], z_g0),
  (25, .iload_n 2, 1, .null, [], z_g0),
  (26, .aload_n 0, 1, .null, [], z_g0),
  (27, .getfield 15, 3, .null, [3, 1, 3], z_g0),
  (30, .iload_n 1, 1, .null, [], z_g0),
  (31, .iaload, 1, .null, [101], z_g0),
  (32, .iastore, 1, .null, [], z_g0),
  (33, .return_, 1, .null, [], z_g0)]
set_option maxRecDepth 100000 in
theorem r_X2_copyPage (v0 : Nat) (v1 : Int32) (v2 : Int32) (S : z_St) : z_seg z_rV (c_X2_copyPage) [] (fun pc => fun _ _ _ => none) 24 (c_X2_copyPage) [(0, .ref v0), (1, .int v1), (2, .int v2)] [] S = b_X2_copyPage v0 v1 v2 S := rfl
def l_X2_isEmpty_2 : Nat → Nat → Int32 → Int32 → z_St → Option (Int32 × z_St)
  | 0 => fun _ _ _ _ => none
  | n + 1 => fun (v0 : Nat) (v1 : Int32) (v2 : Int32) (S : z_St) =>
if ((32 : Int32)) ≤ v2 then
(z_rb ((1 : Int32)) S)
else
(z_chk S v0 3 (
(f_X2_byteAt v0 v1 v2 S).bind fun q1 =>
if q1.1 = 0 then
(let x2 := v2 + (1 : Int32)
l_X2_isEmpty_2 n v0 v1 x2 q1.2)
else
(z_rb ((0 : Int32)) q1.2)))
def b_X2_isEmpty (v0 : Nat) (v1 : Int32) (S : z_St) : Option (Int32 × z_St) :=
l_X2_isEmpty_2 z_N v0 v1 ((0 : Int32)) S
def f_X2_isEmpty : Nat → Int32 → z_St → Option (Int32 × z_St) := z_op (b_X2_isEmpty)
theorem e_X2_isEmpty (v0 : Nat) (v1 : Int32) (S : z_St) : f_X2_isEmpty v0 v1 S = b_X2_isEmpty v0 v1 S := congrFun (congrFun (congrFun (z_op_eq (b_X2_isEmpty)) v0) v1) S
def g_X2_isEmpty : z_G := .inl (fun as S => match as with
  | [.ref v0, .int v1] => f_X2_isEmpty v0 v1 S
  | _ => none)
def c_X2_isEmpty : List z_E := [
  (0, .iconst 0, 1, .int ((0 : Int32)), [], z_g0),
  (1, .istore_n 2, 1, .null, [], z_g0),
  (2, .iload_n 2, 1, .null, [], z_g0),
  (3, .bipush 32, 2, .int ((32 : Int32)), [], z_g0),
  (5, .if_icmp .ge 20, 3, .null, [25], z_g0),
  (8, .aload_n 0, 1, .null, [], z_g0),
  (9, .iload_n 1, 1, .null, [], z_g0),
  (10, .iload_n 2, 1, .null, [], z_g0),
  (11, .invokevirtual 49, 3, .null, [1, 3, 0, 0], g_X2_byteAt),
  (14, .ifCond .eq 5, 3, .null, [19], z_g0),
  (17, .iconst 0, 1, .int ((0 : Int32)), [], z_g0),
  (18, .ireturn, 1, .null, [], z_g0),
  (19, .iinc 2 1, 3, .int (1 : Int32), [], z_g0),
  (22, .goto (-20), 3, .null, [2], z_g0),
  (25, .iconst 1, 1, .int ((1 : Int32)), [], z_g0),
  (26, .ireturn, 1, .null, [], z_g0)]
def a_X2_isEmpty_2 {ρ : Type} (k : Nat → Int32 → Int32 → z_St → Option ρ) (ls : z_Lv) (st : List Value) (S : z_St) : Option ρ := z_gR ls 0 fun v0 => z_gI ls 1 fun v1 => z_gI ls 2 fun v2 => z_p0 st (k v0 v1 v2 S)
set_option maxRecDepth 100000 in
theorem r_X2_isEmpty_2 (n : Nat) (v0 : Nat) (v1 : Int32) (v2 : Int32) (S : z_St) : z_seg z_rZ (c_X2_isEmpty) [2] (fun pc => cond (Nat.beq pc 2) (a_X2_isEmpty_2 (l_X2_isEmpty_2 n)) (fun _ _ _ => none)) 19 (z_to 2 (c_X2_isEmpty)) [(0, .ref v0), (1, .int v1), (2, .int v2)] [] S = l_X2_isEmpty_2 (n + 1) v0 v1 v2 S := rfl
set_option maxRecDepth 100000 in
theorem r_X2_isEmpty (v0 : Nat) (v1 : Int32) (S : z_St) : z_seg z_rZ (c_X2_isEmpty) [2] (fun pc => cond (Nat.beq pc 2) (a_X2_isEmpty_2 (l_X2_isEmpty_2 z_N)) (fun _ _ _ => none)) 19 (c_X2_isEmpty) [(0, .ref v0), (1, .int v1)] [] S = b_X2_isEmpty v0 v1 S := rfl
def l_X2_isSame_2 : Nat → Nat → Int32 → Int32 → Int32 → z_St → Option (Int32 × z_St)
  | 0 => fun _ _ _ _ _ => none
  | n + 1 => fun (v0 : Nat) (v1 : Int32) (v2 : Int32) (v3 : Int32) (S : z_St) =>
if ((32 : Int32)) ≤ v3 then
(z_rb ((1 : Int32)) S)
else
(z_chk S v0 3 (
(f_X2_byteAt v0 v1 v3 S).bind fun q1 =>
z_chk q1.2 v0 3 (
(f_X2_byteAt v0 v2 v3 q1.2).bind fun q2 =>
if q1.1 = q2.1 then
(let x3 := v3 + (1 : Int32)
l_X2_isSame_2 n v0 v1 v2 x3 q2.2)
else
(z_rb ((0 : Int32)) q2.2))))
def b_X2_isSame (v0 : Nat) (v1 : Int32) (v2 : Int32) (S : z_St) : Option (Int32 × z_St) :=
l_X2_isSame_2 z_N v0 v1 v2 ((0 : Int32)) S
def f_X2_isSame : Nat → Int32 → Int32 → z_St → Option (Int32 × z_St) := z_op (b_X2_isSame)
theorem e_X2_isSame (v0 : Nat) (v1 : Int32) (v2 : Int32) (S : z_St) : f_X2_isSame v0 v1 v2 S = b_X2_isSame v0 v1 v2 S := congrFun (congrFun (congrFun (congrFun (z_op_eq (b_X2_isSame)) v0) v1) v2) S
def g_X2_isSame : z_G := .inl (fun as S => match as with
  | [.ref v0, .int v1, .int v2] => f_X2_isSame v0 v1 v2 S
  | _ => none)
def c_X2_isSame : List z_E := [
  (0, .iconst 0, 1, .int ((0 : Int32)), [], z_g0),
  (1, .istore_n 3, 1, .null, [], z_g0),
  (2, .iload_n 3, 1, .null, [], z_g0),
  (3, .bipush 32, 2, .int ((32 : Int32)), [], z_g0),
  (5, .if_icmp .ge 26, 3, .null, [31], z_g0),
  (8, .aload_n 0, 1, .null, [], z_g0),
  (9, .iload_n 1, 1, .null, [], z_g0),
  (10, .iload_n 3, 1, .null, [], z_g0),
  (11, .invokevirtual 49, 3, .null, [1, 3, 0, 0], g_X2_byteAt),
  (14, .aload_n 0, 1, .null, [], z_g0),
  (15, .iload_n 2, 1, .null, [], z_g0),
  (16, .iload_n 3, 1, .null, [], z_g0),
  (17, .invokevirtual 49, 3, .null, [1, 3, 0, 0], g_X2_byteAt),
  (20, .if_icmp .eq 5, 3, .null, [25], z_g0),
  (23, .iconst 0, 1, .int ((0 : Int32)), [], z_g0),
  (24, .ireturn, 1, .null, [], z_g0),
  (25, .iinc 3 1, 3, .int (1 : Int32), [], z_g0),
  (28, .goto (-26), 3, .null, [2], z_g0),
  (31, .iconst 1, 1, .int ((1 : Int32)), [], z_g0),
  (32, .ireturn, 1, .null, [], z_g0)]
def a_X2_isSame_2 {ρ : Type} (k : Nat → Int32 → Int32 → Int32 → z_St → Option ρ) (ls : z_Lv) (st : List Value) (S : z_St) : Option ρ := z_gR ls 0 fun v0 => z_gI ls 1 fun v1 => z_gI ls 2 fun v2 => z_gI ls 3 fun v3 => z_p0 st (k v0 v1 v2 v3 S)
set_option maxRecDepth 100000 in
theorem r_X2_isSame_2 (n : Nat) (v0 : Nat) (v1 : Int32) (v2 : Int32) (v3 : Int32) (S : z_St) : z_seg z_rZ (c_X2_isSame) [2] (fun pc => cond (Nat.beq pc 2) (a_X2_isSame_2 (l_X2_isSame_2 n)) (fun _ _ _ => none)) 23 (z_to 2 (c_X2_isSame)) [(0, .ref v0), (1, .int v1), (2, .int v2), (3, .int v3)] [] S = l_X2_isSame_2 (n + 1) v0 v1 v2 v3 S := rfl
set_option maxRecDepth 100000 in
theorem r_X2_isSame (v0 : Nat) (v1 : Int32) (v2 : Int32) (S : z_St) : z_seg z_rZ (c_X2_isSame) [2] (fun pc => cond (Nat.beq pc 2) (a_X2_isSame_2 (l_X2_isSame_2 z_N)) (fun _ _ _ => none)) 23 (c_X2_isSame) [(0, .ref v0), (1, .int v1), (2, .int v2)] [] S = b_X2_isSame v0 v1 v2 S := rfl
end
