noncomputable section
def b_X12_fails (v0 : Nat) (v1 : Int32) (S : z_St) : Option (Int32 × z_St) :=
z_chk S v0 13 (
let S1 := z_wi S v0 1 v1
z_chk S1 v0 13 (
let S2 := z_wi S1 v0 2 ((0 : Int32))
some (((-2000000010 : Int32)) - v1, S2)))
def f_X12_fails : Nat → Int32 → z_St → Option (Int32 × z_St) := z_op (b_X12_fails)
theorem e_X12_fails (v0 : Nat) (v1 : Int32) (S : z_St) : f_X12_fails v0 v1 S = b_X12_fails v0 v1 S := congrFun (congrFun (congrFun (z_op_eq (b_X12_fails)) v0) v1) S
def g_X12_fails : z_G := .inl (fun as S => match as with
  | [.ref v0, .int v1] => f_X12_fails v0 v1 S
  | _ => none)
def c_X12_fails : List z_E := [
  (0, .aload_n 0, 1, .null, [], z_g0),
  (1, .iload_n 1, 1, .null, [], z_g0),
  (2, .putfield 227, 3, .null, [13, 1, 0], z_g0),
  (5, .aload_n 0, 1, .null, [], z_g0),
  (6, .iconst 0, 1, .int ((0 : Int32)), [], z_g0),
  (7, .putfield 230, 3, .null, [13, 2, 0], z_g0),
  (10, .ldc 233, 2, .int (-2000000010 : Int32), [], z_g0),
  (12, .iload_n 1, 1, .null, [], z_g0),
  (13, .isub, 1, .null, [], z_g0),
  (14, .ireturn, 1, .null, [], z_g0)]
set_option maxRecDepth 100000 in
theorem r_X12_fails (v0 : Nat) (v1 : Int32) (S : z_St) : z_seg z_rI (c_X12_fails) [] (fun pc => fun _ _ _ => none) 13 (c_X12_fails) [(0, .ref v0), (1, .int v1)] [] S = b_X12_fails v0 v1 S := rfl
def b_X12_well (v0 : Nat) (S : z_St) : Option z_St :=
z_chk S v0 13 (
let S1 := z_wi S v0 1 ((0 : Int32))
z_chk S1 v0 13 (
let S2 := z_wi S1 v0 2 ((0 : Int32))
some S2))
def f_X12_well : Nat → z_St → Option z_St := z_op (b_X12_well)
theorem e_X12_well (v0 : Nat) (S : z_St) : f_X12_well v0 S = b_X12_well v0 S := congrFun (congrFun (z_op_eq (b_X12_well)) v0) S
def g_X12_well : z_G := .inr (.inr (.inr (fun as S => match as with
  | [.ref v0] => f_X12_well v0 S
  | _ => none)))
def c_X12_well : List z_E := [
  (0, .aload_n 0, 1, .null, [], z_g0),
  (1, .iconst 0, 1, .int ((0 : Int32)), [], z_g0),
  (2, .putfield 227, 3, .null, [13, 1, 0], z_g0),
  (5, .aload_n 0, 1, .null, [], z_g0),
  (6, .iconst 0, 1, .int ((0 : Int32)), [], z_g0),
  (7, .putfield 230, 3, .null, [13, 2, 0], z_g0),
  (10, .return_, 1, .null, [], z_g0)]
set_option maxRecDepth 100000 in
theorem r_X12_well (v0 : Nat) (S : z_St) : z_seg z_rV (c_X12_well) [] (fun pc => fun _ _ _ => none) 10 (c_X12_well) [(0, .ref v0)] [] S = b_X12_well v0 S := rfl
def b_X12_realOf (v0 : Int64) (S : z_St) : Option (UInt64 × z_St) :=
if (lg_cmp (v0 &&& ((9223372036854775807 : Int64))) ((9218868437227405312 : Int64))) ≤ 0 then
(z_l2d v0 (
some (v0.toUInt64, S)))
else
(some ((9221120237041090560 : UInt64), S))
def f_X12_realOf : Int64 → z_St → Option (UInt64 × z_St) := z_op (b_X12_realOf)
theorem e_X12_realOf (v0 : Int64) (S : z_St) : f_X12_realOf v0 S = b_X12_realOf v0 S := congrFun (congrFun (z_op_eq (b_X12_realOf)) v0) S
def g_X12_realOf : z_G := .inr (.inr (.inl (fun as S => match as with
  | [.long v0] => f_X12_realOf v0 S
  | _ => none)))
def c_X12_realOf : List z_E := [
  (0, .lload_n 0, 1, .null, [], z_g0),
  (1, .ldc2_w 234, 3, .long (9223372036854775807 : Int64), [], z_g0),
  (4, .land, 1, .null, [], z_g0),
  (5, .ldc2_w 236, 3, .long (9218868437227405312 : Int64), [], z_g0),
  (8, .lcmp, 1, .null, [], z_g0),
  (9, .ifCond .le 9, 3, .null, [18], z_g0),
  (12, .ldc2_w 131, 3, .double (9221120237041090560 : UInt64), [], z_g0),
  (15, .goto 7, 3, .null, [22], z_g0),
  (18, .lload_n 0, 1, .null, [], z_g0),
  (19, .invokestatic 238, 3, .null, [5], z_g0),
  (22, .dreturn, 1, .null, [], z_g0)]
set_option maxRecDepth 100000 in
theorem r_X12_realOf (v0 : Int64) (S : z_St) : z_seg z_rD (c_X12_realOf) [] (fun pc => fun _ _ _ => none) 14 (c_X12_realOf) [(0, .long v0)] [] S = b_X12_realOf v0 S := rfl
def b_X12_isEndless (v0 : UInt64) (S : z_St) : Option (Int32 × z_St) :=
if 0 < (Op.cmpValue (FP.dcmp v0 ((9218868437227405311 : UInt64))) .l) then
(z_rb ((1 : Int32)) S)
else
(if 0 ≤ (Op.cmpValue (FP.dcmp v0 ((18442240474082181119 : UInt64))) .g) then
(z_rb ((0 : Int32)) S)
else
(z_rb ((1 : Int32)) S))
def f_X12_isEndless : UInt64 → z_St → Option (Int32 × z_St) := z_op (b_X12_isEndless)
theorem e_X12_isEndless (v0 : UInt64) (S : z_St) : f_X12_isEndless v0 S = b_X12_isEndless v0 S := congrFun (congrFun (z_op_eq (b_X12_isEndless)) v0) S
def g_X12_isEndless : z_G := .inl (fun as S => match as with
  | [.double v0] => f_X12_isEndless v0 S
  | _ => none)
def c_X12_isEndless : List z_E := [
  (0, .dload_n 0, 1, .null, [], z_g0),
  (1, .ldc2_w 242, 3, .double (9218868437227405311 : UInt64), [], z_g0),
  (4, .dcmp .l, 1, .null, [], z_g0),
  (5, .ifCond .gt 11, 3, .null, [16], z_g0),
  (8, .dload_n 0, 1, .null, [], z_g0),
  (9, .ldc2_w 244, 3, .double (18442240474082181119 : UInt64), [], z_g0),
  (12, .dcmp .g, 1, .null, [], z_g0),
  (13, .ifCond .ge 7, 3, .null, [20], z_g0),
  (16, .iconst 1, 1, .int ((1 : Int32)), [], z_g0),
  (17, .goto 4, 3, .null, [21], z_g0),
  (20, .iconst 0, 1, .int ((0 : Int32)), [], z_g0),
  (21, .ireturn, 1, .null, [], z_g0)]
set_option maxRecDepth 100000 in
theorem r_X12_isEndless (v0 : UInt64) (S : z_St) : z_seg z_rZ (c_X12_isEndless) [] (fun pc => fun _ _ _ => none) 15 (c_X12_isEndless) [(0, .double v0)] [] S = b_X12_isEndless v0 S := rfl
def b_Jxe99ae_isNaN_b9ae7 (v0 : UInt64) (S : z_St) : Option (Int32 × z_St) :=
if (Op.cmpValue (FP.dcmp v0 v0) .l) = 0 then
(z_rb ((0 : Int32)) S)
else
(z_rb ((1 : Int32)) S)
def f_Jxe99ae_isNaN_b9ae7 : UInt64 → z_St → Option (Int32 × z_St) := z_op (b_Jxe99ae_isNaN_b9ae7)
theorem e_Jxe99ae_isNaN_b9ae7 (v0 : UInt64) (S : z_St) : f_Jxe99ae_isNaN_b9ae7 v0 S = b_Jxe99ae_isNaN_b9ae7 v0 S := congrFun (congrFun (z_op_eq (b_Jxe99ae_isNaN_b9ae7)) v0) S
def g_Jxe99ae_isNaN_b9ae7 : z_G := .inl (fun as S => match as with
  | [.double v0] => f_Jxe99ae_isNaN_b9ae7 v0 S
  | _ => none)
def c_Jxe99ae_isNaN_b9ae7 : List z_E := [
  (0, .dload_n 0, 1, .null, [], z_g0),
  (1, .dload_n 0, 1, .null, [], z_g0),
  (2, .dcmp .l, 1, .null, [], z_g0),
  (3, .ifCond .eq 7, 3, .null, [10], z_g0),
  (6, .iconst 1, 1, .int ((1 : Int32)), [], z_g0),
  (7, .goto 4, 3, .null, [11], z_g0),
  (10, .iconst 0, 1, .int ((0 : Int32)), [], z_g0),
  (11, .ireturn, 1, .null, [], z_g0)]
set_option maxRecDepth 100000 in
theorem r_Jxe99ae_isNaN_b9ae7 (v0 : UInt64) (S : z_St) : z_seg z_rZ (c_Jxe99ae_isNaN_b9ae7) [] (fun pc => fun _ _ _ => none) 11 (c_Jxe99ae_isNaN_b9ae7) [(0, .double v0)] [] S = b_Jxe99ae_isNaN_b9ae7 v0 S := rfl
def b_Jxe99ae_doubleToLongBits_ccdee (v0 : UInt64) (S : z_St) : Option (Int64 × z_St) :=
(f_Jxe99ae_isNaN_b9ae7 v0 S).bind fun q1 =>
if q1.1 = 0 then
(some (v0.toInt64, q1.2))
else
(some ((9221120237041090560 : Int64), q1.2))
def f_Jxe99ae_doubleToLongBits_ccdee : UInt64 → z_St → Option (Int64 × z_St) := z_op (b_Jxe99ae_doubleToLongBits_ccdee)
theorem e_Jxe99ae_doubleToLongBits_ccdee (v0 : UInt64) (S : z_St) : f_Jxe99ae_doubleToLongBits_ccdee v0 S = b_Jxe99ae_doubleToLongBits_ccdee v0 S := congrFun (congrFun (z_op_eq (b_Jxe99ae_doubleToLongBits_ccdee)) v0) S
def g_Jxe99ae_doubleToLongBits_ccdee : z_G := .inr (.inl (fun as S => match as with
  | [.double v0] => f_Jxe99ae_doubleToLongBits_ccdee v0 S
  | _ => none))
def c_Jxe99ae_doubleToLongBits_ccdee : List z_E := [
  (0, .dload_n 0, 1, .null, [], z_g0),
  (1, .invokestatic 122, 3, .null, [0, 0], g_Jxe99ae_isNaN_b9ae7),
  (4, .ifCond .ne 8, 3, .null, [12], z_g0),
  (7, .dload_n 0, 1, .null, [], z_g0),
  (8, .invokestatic 134, 3, .null, [4], z_g0),
  (11, .lreturn, 1, .null, [], z_g0),
  (12, .ldc2_w 137, 3, .long (9221120237041090560 : Int64), [], z_g0),
  (15, .lreturn, 1, .null, [], z_g0)]
set_option maxRecDepth 100000 in
theorem r_Jxe99ae_doubleToLongBits_ccdee (v0 : UInt64) (S : z_St) : z_seg z_rL (c_Jxe99ae_doubleToLongBits_ccdee) [] (fun pc => fun _ _ _ => none) 11 (c_Jxe99ae_doubleToLongBits_ccdee) [(0, .double v0)] [] S = b_Jxe99ae_doubleToLongBits_ccdee v0 S := rfl
def b_X12_bitsOf (v0 : UInt64) (S : z_St) : Option (Int64 × z_St) :=
if (Op.cmpValue (FP.dcmp v0 v0) .l) = 0 then
((f_Jxe99ae_doubleToLongBits_ccdee v0 S).bind fun q1 =>
some (q1.1, q1.2))
else
(some ((9221120237041090560 : Int64), S))
def f_X12_bitsOf : UInt64 → z_St → Option (Int64 × z_St) := z_op (b_X12_bitsOf)
theorem e_X12_bitsOf (v0 : UInt64) (S : z_St) : f_X12_bitsOf v0 S = b_X12_bitsOf v0 S := congrFun (congrFun (z_op_eq (b_X12_bitsOf)) v0) S
def g_X12_bitsOf : z_G := .inr (.inl (fun as S => match as with
  | [.double v0] => f_X12_bitsOf v0 S
  | _ => none))
def c_X12_bitsOf : List z_E := [
  (0, .dload_n 0, 1, .null, [], z_g0),
  (1, .dload_n 0, 1, .null, [], z_g0),
  (2, .dcmp .l, 1, .null, [], z_g0),
  (3, .ifCond .eq 9, 3, .null, [12], z_g0),
  (6, .ldc2_w 246, 3, .long (9221120237041090560 : Int64), [], z_g0),
  (9, .goto 7, 3, .null, [16], z_g0),
  (12, .dload_n 0, 1, .null, [], z_g0),
  (13, .invokestatic 248, 3, .null, [0, 0], g_Jxe99ae_doubleToLongBits_ccdee),
  (16, .lreturn, 1, .null, [], z_g0)]
set_option maxRecDepth 100000 in
theorem r_X12_bitsOf (v0 : UInt64) (S : z_St) : z_seg z_rL (c_X12_bitsOf) [] (fun pc => fun _ _ _ => none) 12 (c_X12_bitsOf) [(0, .double v0)] [] S = b_X12_bitsOf v0 S := rfl
def b_X12_cellOfWhole (v0 : Int32) (v1 : Int64) (S : z_St) : Option (Int64 × z_St) :=
if v0 = (0 : Int32) then
(some (v1.toInt32.toInt16.toInt32.toInt64, S))
else
if v0 = (1 : Int32) then
(some (v1.toInt32.toInt64, S))
else
if v0 = (2 : Int32) then
(z_nn (FP.f2d (FP.l2f v1)) (
(f_X12_bitsOf (FP.f2d (FP.l2f v1)) S).bind fun q1 =>
some (q1.1, q1.2)))
else
if v0 = (3 : Int32) then
((f_X12_bitsOf (FP.l2d v1) S).bind fun q2 =>
some (q2.1, q2.2))
else
if v0 = (4 : Int32) then
(some (v1 &&& ((65535 : Int64)), S))
else
if v0 = (5 : Int32) then
(some (v1.toInt32.toInt8.toInt32.toInt64, S))
else
if v0 = (6 : Int32) then
(if (lg_cmp v1 ((0 : Int64))) = 0 then
(some ((0 : Int64), S))
else
(some ((1 : Int64), S)))
else
(some (v1, S))
def f_X12_cellOfWhole : Int32 → Int64 → z_St → Option (Int64 × z_St) := z_op (b_X12_cellOfWhole)
theorem e_X12_cellOfWhole (v0 : Int32) (v1 : Int64) (S : z_St) : f_X12_cellOfWhole v0 v1 S = b_X12_cellOfWhole v0 v1 S := congrFun (congrFun (congrFun (z_op_eq (b_X12_cellOfWhole)) v0) v1) S
def g_X12_cellOfWhole : z_G := .inr (.inl (fun as S => match as with
  | [.int v0, .long v1] => f_X12_cellOfWhole v0 v1 S
  | _ => none))
def c_X12_cellOfWhole : List z_E := [
  (0, .iload_n 0, 1, .null, [], z_g0),
  (1, .tableswitch 88 0 6 #[43, 48, 52, 59, 65, 71, 76], 43, .null, [89, 0, 44, 49, 53, 60, 66, 72, 77], z_g0),
  (44, .lload_n 1, 1, .null, [], z_g0),
  (45, .l2i, 1, .null, [], z_g0),
  (46, .i2s, 1, .null, [], z_g0),
  (47, .i2l, 1, .null, [], z_g0),
  (48, .lreturn, 1, .null, [], z_g0),
  (49, .lload_n 1, 1, .null, [], z_g0),
  (50, .l2i, 1, .null, [], z_g0),
  (51, .i2l, 1, .null, [], z_g0),
  (52, .lreturn, 1, .null, [], z_g0),
  (53, .lload_n 1, 1, .null, [], z_g0),
  (54, .l2f, 1, .null, [], z_g0),
  (55, .f2d, 1, .null, [], z_g0),
  (56, .invokestatic 252, 3, .null, [0, 0], g_X12_bitsOf),
  (59, .lreturn, 1, .null, [], z_g0),
  (60, .lload_n 1, 1, .null, [], z_g0),
  (61, .l2d, 1, .null, [], z_g0),
  (62, .invokestatic 252, 3, .null, [0, 0], g_X12_bitsOf),
  (65, .lreturn, 1, .null, [], z_g0),
  (66, .lload_n 1, 1, .null, [], z_g0),
  (67, .ldc2_w 255, 3, .long (65535 : Int64), [], z_g0),
  (70, .land, 1, .null, [], z_g0),
  (71, .lreturn, 1, .null, [], z_g0),
  (72, .lload_n 1, 1, .null, [], z_g0),
  (73, .l2i, 1, .null, [], z_g0),
  (74, .i2b, 1, .null, [], z_g0),
  (75, .i2l, 1, .null, [], z_g0),
  (76, .lreturn, 1, .null, [], z_g0),
  (77, .lload_n 1, 1, .null, [], z_g0),
  (78, .lconst 0, 1, .long (0 : Int64), [], z_g0),
  (79, .lcmp, 1, .null, [], z_g0),
  (80, .ifCond .eq 7, 3, .null, [87], z_g0),
  (83, .lconst 1, 1, .long (1 : Int64), [], z_g0),
  (84, .goto 4, 3, .null, [88], z_g0),
  (87, .lconst 0, 1, .long (0 : Int64), [], z_g0),
  (88, .lreturn, 1, .null, [], z_g0),
  (89, .lload_n 1, 1, .null, [], z_g0),
  (90, .lreturn, 1, .null, [], z_g0)]
set_option maxRecDepth 100000 in
theorem r_X12_cellOfWhole (v0 : Int32) (v1 : Int64) (S : z_St) : z_seg z_rL (c_X12_cellOfWhole) [] (fun pc => fun _ _ _ => none) 42 (c_X12_cellOfWhole) [(0, .int v0), (1, .long v1)] [] S = b_X12_cellOfWhole v0 v1 S := rfl
def b_X12_isReal (v0 : Int32) (S : z_St) : Option (Int32 × z_St) :=
if v0 = ((2 : Int32)) then
(z_rb ((1 : Int32)) S)
else
(if v0 = ((3 : Int32)) then
(z_rb ((1 : Int32)) S)
else
(z_rb ((0 : Int32)) S))
def f_X12_isReal : Int32 → z_St → Option (Int32 × z_St) := z_op (b_X12_isReal)
theorem e_X12_isReal (v0 : Int32) (S : z_St) : f_X12_isReal v0 S = b_X12_isReal v0 S := congrFun (congrFun (z_op_eq (b_X12_isReal)) v0) S
def g_X12_isReal : z_G := .inl (fun as S => match as with
  | [.int v0] => f_X12_isReal v0 S
  | _ => none)
def c_X12_isReal : List z_E := [
  (0, .iload_n 0, 1, .null, [], z_g0),
  (1, .iconst 2, 1, .int ((2 : Int32)), [], z_g0),
  (2, .if_icmp .eq 8, 3, .null, [10], z_g0),
  (5, .iload_n 0, 1, .null, [], z_g0),
  (6, .iconst 3, 1, .int ((3 : Int32)), [], z_g0),
  (7, .if_icmp .ne 7, 3, .null, [14], z_g0),
  (10, .iconst 1, 1, .int ((1 : Int32)), [], z_g0),
  (11, .goto 4, 3, .null, [15], z_g0),
  (14, .iconst 0, 1, .int ((0 : Int32)), [], z_g0),
  (15, .ireturn, 1, .null, [], z_g0)]
set_option maxRecDepth 100000 in
theorem r_X12_isReal (v0 : Int32) (S : z_St) : z_seg z_rZ (c_X12_isReal) [] (fun pc => fun _ _ _ => none) 13 (c_X12_isReal) [(0, .int v0)] [] S = b_X12_isReal v0 S := rfl
def b_X12_cellOfReal (v0 : Int32) (v1 : UInt64) (S : z_St) : Option (Int64 × z_St) :=
if (Op.cmpValue (FP.dcmp v1 v1) .l) = 0 then
(if v0 = (0 : Int32) then
(some (((FP.d2i v1).toInt16.toInt32).toInt64, S))
else
if v0 = (1 : Int32) then
(some ((FP.d2i v1).toInt64, S))
else
if v0 = (2 : Int32) then
(z_nf (FP.d2f v1) (
z_nn (FP.f2d (FP.d2f v1)) (
(f_X12_bitsOf (FP.f2d (FP.d2f v1)) S).bind fun q1 =>
some (q1.1, q1.2))))
else
if v0 = (3 : Int32) then
((f_X12_bitsOf v1 S).bind fun q2 =>
some (q2.1, q2.2))
else
if v0 = (4 : Int32) then
(some (((FP.d2i v1) &&& ((65535 : Int32))).toInt64, S))
else
if v0 = (5 : Int32) then
(some (((FP.d2i v1).toInt8.toInt32).toInt64, S))
else
if v0 = (6 : Int32) then
(if (Op.cmpValue (FP.dcmp v1 FP.dconst0) .l) = 0 then
(some ((0 : Int64), S))
else
(some ((1 : Int64), S)))
else
(some (FP.d2l v1, S)))
else
(if v0 = ((6 : Int32)) then
(some ((1 : Int64), S))
else
((f_X12_isReal v0 S).bind fun q3 =>
if q3.1 = 0 then
(some ((0 : Int64), q3.2))
else
(some ((9221120237041090560 : Int64), q3.2))))
def f_X12_cellOfReal : Int32 → UInt64 → z_St → Option (Int64 × z_St) := z_op (b_X12_cellOfReal)
theorem e_X12_cellOfReal (v0 : Int32) (v1 : UInt64) (S : z_St) : f_X12_cellOfReal v0 v1 S = b_X12_cellOfReal v0 v1 S := congrFun (congrFun (congrFun (z_op_eq (b_X12_cellOfReal)) v0) v1) S
def g_X12_cellOfReal : z_G := .inr (.inl (fun as S => match as with
  | [.int v0, .double v1] => f_X12_cellOfReal v0 v1 S
  | _ => none))
def c_X12_cellOfReal : List z_E := [
  (0, .dload_n 1, 1, .null, [], z_g0),
  (1, .dload_n 1, 1, .null, [], z_g0),
  (2, .dcmp .l, 1, .null, [], z_g0),
  (3, .ifCond .eq 28, 3, .null, [31], z_g0),
  (6, .iload_n 0, 1, .null, [], z_g0),
  (7, .bipush 6, 2, .int ((6 : Int32)), [], z_g0),
  (9, .if_icmp .ne 7, 3, .null, [16], z_g0),
  (12, .lconst 1, 1, .long (1 : Int64), [], z_g0),
  (13, .goto 17, 3, .null, [30], z_g0),
  (16, .iload_n 0, 1, .null, [], z_g0),
  (17, .invokestatic 257, 3, .null, [0, 0], g_X12_isReal),
  (20, .ifCond .eq 9, 3, .null, [29], z_g0),
  (23, .ldc2_w 246, 3, .long (9221120237041090560 : Int64), [], z_g0),
  (26, .goto 4, 3, .null, [30], z_g0),
  (29, .lconst 0, 1, .long (0 : Int64), [], z_g0),
  (30, .lreturn, 1, .null, [], z_g0),
  (31, .iload_n 0, 1, .null, [], z_g0),
  (32, .tableswitch 90 0 6 #[44, 49, 53, 60, 65, 73, 78], 44, .null, [122, 0, 76, 81, 85, 92, 97, 105, 110], z_g0),
  (76, .dload_n 1, 1, .null, [], z_g0),
  (77, .d2i, 1, .null, [], z_g0),
  (78, .i2s, 1, .null, [], z_g0),
  (79, .i2l, 1, .null, [], z_g0),
  (80, .lreturn, 1, .null, [], z_g0),
  (81, .dload_n 1, 1, .null, [], z_g0),
  (82, .d2i, 1, .null, [], z_g0),
  (83, .i2l, 1, .null, [], z_g0),
  (84, .lreturn, 1, .null, [], z_g0),
  (85, .dload_n 1, 1, .null, [], z_g0),
  (86, .d2f, 1, .null, [], z_g0),
  (87, .f2d, 1, .null, [], z_g0),
  (88, .invokestatic 252, 3, .null, [0, 0], g_X12_bitsOf),
  (91, .lreturn, 1, .null, [], z_g0),
  (92, .dload_n 1, 1, .null, [], z_g0),
  (93, .invokestatic 252, 3, .null, [0, 0], g_X12_bitsOf),
  (96, .lreturn, 1, .null, [], z_g0),
  (97, .dload_n 1, 1, .null, [], z_g0),
  (98, .d2i, 1, .null, [], z_g0),
  (99, .ldc_w 261, 3, .int (65535 : Int32), [], z_g0),
  (102, .iand, 1, .null, [], z_g0),
  (103, .i2l, 1, .null, [], z_g0),
  (104, .lreturn, 1, .null, [], z_g0),
  (105, .dload_n 1, 1, .null, [], z_g0),
  (106, .d2i, 1, .null, [], z_g0),
  (107, .i2b, 1, .null, [], z_g0),
  (108, .i2l, 1, .null, [], z_g0),
  (109, .lreturn, 1, .null, [], z_g0),
  (110, .dload_n 1, 1, .null, [], z_g0),
  (111, .dconst 0, 1, .double FP.dconst0, [], z_g0),
  (112, .dcmp .l, 1, .null, [], z_g0),
  (113, .ifCond .ne 7, 3, .null, [120], z_g0),
  (116, .lconst 0, 1, .long (0 : Int64), [], z_g0),
  (117, .goto 4, 3, .null, [121], z_g0),
  (120, .lconst 1, 1, .long (1 : Int64), [], z_g0),
  (121, .lreturn, 1, .null, [], z_g0),
  (122, .dload_n 1, 1, .null, [], z_g0),
  (123, .d2l, 1, .null, [], z_g0),
  (124, .lreturn, 1, .null, [], z_g0)]
set_option maxRecDepth 100000 in
theorem r_X12_cellOfReal (v0 : Int32) (v1 : UInt64) (S : z_St) : z_seg z_rL (c_X12_cellOfReal) [] (fun pc => fun _ _ _ => none) 60 (c_X12_cellOfReal) [(0, .int v0), (1, .double v1)] [] S = b_X12_cellOfReal v0 v1 S := rfl
def b_X12_wholeOf (v0 : Int32) (v1 : Int64) (S : z_St) : Option (Int64 × z_St) :=
(f_X12_isReal v0 S).bind fun q1 =>
if q1.1 = 0 then
(some (v1, q1.2))
else
(if (lg_cmp v1 ((9221120237041090560 : Int64))) = 0 then
(some ((0 : Int64), q1.2))
else
((f_X12_realOf v1 q1.2).bind fun q2 =>
some (FP.d2l q2.1, q2.2)))
def f_X12_wholeOf : Int32 → Int64 → z_St → Option (Int64 × z_St) := z_op (b_X12_wholeOf)
theorem e_X12_wholeOf (v0 : Int32) (v1 : Int64) (S : z_St) : f_X12_wholeOf v0 v1 S = b_X12_wholeOf v0 v1 S := congrFun (congrFun (congrFun (z_op_eq (b_X12_wholeOf)) v0) v1) S
def g_X12_wholeOf : z_G := .inr (.inl (fun as S => match as with
  | [.int v0, .long v1] => f_X12_wholeOf v0 v1 S
  | _ => none))
def c_X12_wholeOf : List z_E := [
  (0, .iload_n 0, 1, .null, [], z_g0),
  (1, .invokestatic 257, 3, .null, [0, 0], g_X12_isReal),
  (4, .ifCond .ne 7, 3, .null, [11], z_g0),
  (7, .lload_n 1, 1, .null, [], z_g0),
  (8, .goto 20, 3, .null, [28], z_g0),
  (11, .lload_n 1, 1, .null, [], z_g0),
  (12, .ldc2_w 246, 3, .long (9221120237041090560 : Int64), [], z_g0),
  (15, .lcmp, 1, .null, [], z_g0),
  (16, .ifCond .ne 7, 3, .null, [23], z_g0),
  (19, .lconst 0, 1, .long (0 : Int64), [], z_g0),
  (20, .goto 8, 3, .null, [28], z_g0),
  (23, .lload_n 1, 1, .null, [], z_g0),
  (24, .invokestatic 262, 3, .null, [0, 0], g_X12_realOf),
  (27, .d2l, 1, .null, [], z_g0),
  (28, .lreturn, 1, .null, [], z_g0)]
set_option maxRecDepth 100000 in
theorem r_X12_wholeOf (v0 : Int32) (v1 : Int64) (S : z_St) : z_seg z_rL (c_X12_wholeOf) [] (fun pc => fun _ _ _ => none) 18 (c_X12_wholeOf) [(0, .int v0), (1, .long v1)] [] S = b_X12_wholeOf v0 v1 S := rfl
def b_X12_realBits (v0 : Int32) (v1 : Int64) (S : z_St) : Option (Int64 × z_St) :=
(f_X12_isReal v0 S).bind fun q1 =>
if q1.1 = 0 then
((f_X12_bitsOf (FP.l2d v1) q1.2).bind fun q2 =>
some (q2.1, q2.2))
else
(some (v1, q1.2))
def f_X12_realBits : Int32 → Int64 → z_St → Option (Int64 × z_St) := z_op (b_X12_realBits)
theorem e_X12_realBits (v0 : Int32) (v1 : Int64) (S : z_St) : f_X12_realBits v0 v1 S = b_X12_realBits v0 v1 S := congrFun (congrFun (congrFun (z_op_eq (b_X12_realBits)) v0) v1) S
def g_X12_realBits : z_G := .inr (.inl (fun as S => match as with
  | [.int v0, .long v1] => f_X12_realBits v0 v1 S
  | _ => none))
def c_X12_realBits : List z_E := [
  (0, .iload_n 0, 1, .null, [], z_g0),
  (1, .invokestatic 257, 3, .null, [0, 0], g_X12_isReal),
  (4, .ifCond .eq 7, 3, .null, [11], z_g0),
  (7, .lload_n 1, 1, .null, [], z_g0),
  (8, .goto 8, 3, .null, [16], z_g0),
  (11, .lload_n 1, 1, .null, [], z_g0),
  (12, .l2d, 1, .null, [], z_g0),
  (13, .invokestatic 252, 3, .null, [0, 0], g_X12_bitsOf),
  (16, .lreturn, 1, .null, [], z_g0)]
set_option maxRecDepth 100000 in
theorem r_X12_realBits (v0 : Int32) (v1 : Int64) (S : z_St) : z_seg z_rL (c_X12_realBits) [] (fun pc => fun _ _ _ => none) 12 (c_X12_realBits) [(0, .int v0), (1, .long v1)] [] S = b_X12_realBits v0 v1 S := rfl
def j_X12_raisedCell_17 (v0 : Int32) (v1 : Int64) (v3 : Int64) (S : z_St) : Option (Int64 × z_St) :=
if v0 = ((2 : Int32)) then
((f_X12_realOf v1 S).bind fun q5 =>
z_nf (FP.d2f q5.1) (
z_nf (FP.fadd (FP.d2f q5.1) (FP.l2f v3)) (
z_nn (FP.f2d (FP.fadd (FP.d2f q5.1) (FP.l2f v3))) (
(f_X12_bitsOf (FP.f2d (FP.fadd (FP.d2f q5.1) (FP.l2f v3))) q5.2).bind fun q6 =>
some (q6.1, q6.2)))))
else
(if v0 = ((3 : Int32)) then
((f_X12_realOf v1 S).bind fun q3 =>
z_nn (FP.dadd q3.1 (FP.l2d v3)) (
(f_X12_bitsOf (FP.dadd q3.1 (FP.l2d v3)) q3.2).bind fun q4 =>
some (q4.1, q4.2)))
else
(if v0 = ((6 : Int32)) then
(z_nzl ((2 : Int64)) (
if (lg_cmp (v3 - v3 / ((2 : Int64)) * ((2 : Int64))) ((0 : Int64))) = 0 then
(some (v1, S))
else
(some (((1 : Int64)) - v1, S))))
else
((f_X12_cellOfWhole v0 (v1 + v3) S).bind fun q2 =>
some (q2.1, q2.2))))
def b_X12_raisedCell (v0 : Int32) (v1 : Int64) (v3 : Int64) (S : z_St) : Option (Int64 × z_St) :=
(f_X12_isReal v0 S).bind fun q1 =>
if q1.1 = 0 then
(j_X12_raisedCell_17 v0 v1 v3 q1.2)
else
(if (lg_cmp v1 ((9221120237041090560 : Int64))) = 0 then
(some (v1, q1.2))
else
(j_X12_raisedCell_17 v0 v1 v3 q1.2))
def f_X12_raisedCell : Int32 → Int64 → Int64 → z_St → Option (Int64 × z_St) := z_op (b_X12_raisedCell)
theorem e_X12_raisedCell (v0 : Int32) (v1 : Int64) (v3 : Int64) (S : z_St) : f_X12_raisedCell v0 v1 v3 S = b_X12_raisedCell v0 v1 v3 S := congrFun (congrFun (congrFun (congrFun (z_op_eq (b_X12_raisedCell)) v0) v1) v3) S
def g_X12_raisedCell : z_G := .inr (.inl (fun as S => match as with
  | [.int v0, .long v1, .long v3] => f_X12_raisedCell v0 v1 v3 S
  | _ => none))
def c_X12_raisedCell : List z_E := [
  (0, .iload_n 0, 1, .null, [], z_g0),
  (1, .invokestatic 257, 3, .null, [0, 0], g_X12_isReal),
  (4, .ifCond .eq 13, 3, .null, [17], z_g0),
  (7, .lload_n 1, 1, .null, [], z_g0),
  (8, .ldc2_w 246, 3, .long (9221120237041090560 : Int64), [], z_g0),
  (11, .lcmp, 1, .null, [], z_g0),
  (12, .ifCond .ne 5, 3, .null, [17], z_g0),
  (15, .lload_n 1, 1, .null, [], z_g0),
  (16, .lreturn, 1, .null, [], z_g0),
  (17, .iload_n 0, 1, .null, [], z_g0),
  (18, .iconst 2, 1, .int ((2 : Int32)), [], z_g0),
  (19, .if_icmp .ne 16, 3, .null, [35], z_g0),
  (22, .lload_n 1, 1, .null, [], z_g0),
  (23, .invokestatic 262, 3, .null, [0, 0], g_X12_realOf),
  (26, .d2f, 1, .null, [], z_g0),
  (27, .lload_n 3, 1, .null, [], z_g0),
  (28, .l2f, 1, .null, [], z_g0),
  (29, .fadd, 1, .null, [], z_g0),
  (30, .f2d, 1, .null, [], z_g0),
  (31, .invokestatic 252, 3, .null, [0, 0], g_X12_bitsOf),
  (34, .lreturn, 1, .null, [], z_g0),
  (35, .iload_n 0, 1, .null, [], z_g0),
  (36, .iconst 3, 1, .int ((3 : Int32)), [], z_g0),
  (37, .if_icmp .ne 14, 3, .null, [51], z_g0),
  (40, .lload_n 1, 1, .null, [], z_g0),
  (41, .invokestatic 262, 3, .null, [0, 0], g_X12_realOf),
  (44, .lload_n 3, 1, .null, [], z_g0),
  (45, .l2d, 1, .null, [], z_g0),
  (46, .dadd, 1, .null, [], z_g0),
  (47, .invokestatic 252, 3, .null, [0, 0], g_X12_bitsOf),
  (50, .lreturn, 1, .null, [], z_g0),
  (51, .iload_n 0, 1, .null, [], z_g0),
  (52, .bipush 6, 2, .int ((6 : Int32)), [], z_g0),
  (54, .if_icmp .ne 21, 3, .null, [75], z_g0),
  (57, .lload_n 3, 1, .null, [], z_g0),
  (58, .ldc2_w 265, 3, .long (2 : Int64), [], z_g0),
  (61, .lrem, 1, .null, [], z_g0),
  (62, .lconst 0, 1, .long (0 : Int64), [], z_g0),
  (63, .lcmp, 1, .null, [], z_g0),
  (64, .ifCond .eq 9, 3, .null, [73], z_g0),
  (67, .lconst 1, 1, .long (1 : Int64), [], z_g0),
  (68, .lload_n 1, 1, .null, [], z_g0),
  (69, .lsub, 1, .null, [], z_g0),
  (70, .goto 4, 3, .null, [74], z_g0),
  (73, .lload_n 1, 1, .null, [], z_g0),
  (74, .lreturn, 1, .null, [], z_g0),
  (75, .iload_n 0, 1, .null, [], z_g0),
  (76, .lload_n 1, 1, .null, [], z_g0),
  (77, .lload_n 3, 1, .null, [], z_g0),
  (78, .ladd, 1, .null, [], z_g0),
  (79, .invokestatic 267, 3, .null, [0, 0, 0], g_X12_cellOfWhole),
  (82, .lreturn, 1, .null, [], z_g0)]
def a_X12_raisedCell_17 {ρ : Type} (k : Int32 → Int64 → Int64 → z_St → Option ρ) (ls : z_Lv) (st : List Value) (S : z_St) : Option ρ := z_gI ls 0 fun v0 => z_gJ ls 1 fun v1 => z_gJ ls 3 fun v3 => z_p0 st (k v0 v1 v3 S)
set_option maxRecDepth 100000 in
theorem r_X12_raisedCell_17 (v0 : Int32) (v1 : Int64) (v3 : Int64) (S : z_St) : z_seg z_rL (c_X12_raisedCell) [17] (fun pc => fun _ _ _ => none) 55 (z_to 17 (c_X12_raisedCell)) [(0, .int v0), (1, .long v1), (3, .long v3)] [] S = j_X12_raisedCell_17 v0 v1 v3 S := rfl
set_option maxRecDepth 100000 in
theorem r_X12_raisedCell (v0 : Int32) (v1 : Int64) (v3 : Int64) (S : z_St) : z_seg z_rL (c_X12_raisedCell) [17] (fun pc => cond (Nat.beq pc 17) (a_X12_raisedCell_17 (j_X12_raisedCell_17)) (fun _ _ _ => none)) 55 (c_X12_raisedCell) [(0, .int v0), (1, .long v1), (3, .long v3)] [] S = b_X12_raisedCell v0 v1 v3 S := rfl
def b_X12_noRow (v0 : Nat) (v1 : Int32) (S : z_St) : Option (Int32 × z_St) :=
if v1 = ((-1 : Int32)) then
(z_rb ((0 : Int32)) S)
else
(z_chk S v0 13 (
(f_X12_in v1.toInt64 ((0 : Int64)) ((((z_i S v0 3)) - ((1 : Int32))).toInt64) S).bind fun q1 =>
if q1.1 = 0 then
(z_rb ((1 : Int32)) q1.2)
else
(z_rb ((0 : Int32)) q1.2)))
def f_X12_noRow : Nat → Int32 → z_St → Option (Int32 × z_St) := z_op (b_X12_noRow)
theorem e_X12_noRow (v0 : Nat) (v1 : Int32) (S : z_St) : f_X12_noRow v0 v1 S = b_X12_noRow v0 v1 S := congrFun (congrFun (congrFun (z_op_eq (b_X12_noRow)) v0) v1) S
def g_X12_noRow : z_G := .inl (fun as S => match as with
  | [.ref v0, .int v1] => f_X12_noRow v0 v1 S
  | _ => none)
def c_X12_noRow : List z_E := [
  (0, .iload_n 1, 1, .null, [], z_g0),
  (1, .iconst (-1), 1, .int ((-1 : Int32)), [], z_g0),
  (2, .if_icmp .eq 23, 3, .null, [25], z_g0),
  (5, .iload_n 1, 1, .null, [], z_g0),
  (6, .i2l, 1, .null, [], z_g0),
  (7, .lconst 0, 1, .long (0 : Int64), [], z_g0),
  (8, .aload_n 0, 1, .null, [], z_g0),
  (9, .getfield 271, 3, .null, [13, 3, 0], z_g0),
  (12, .iconst 1, 1, .int ((1 : Int32)), [], z_g0),
  (13, .isub, 1, .null, [], z_g0),
  (14, .i2l, 1, .null, [], z_g0),
  (15, .invokestatic 274, 3, .null, [0, 0, 0, 0], g_X12_in),
  (18, .ifCond .ne 7, 3, .null, [25], z_g0),
  (21, .iconst 1, 1, .int ((1 : Int32)), [], z_g0),
  (22, .goto 4, 3, .null, [26], z_g0),
  (25, .iconst 0, 1, .int ((0 : Int32)), [], z_g0),
  (26, .ireturn, 1, .null, [], z_g0)]
set_option maxRecDepth 100000 in
theorem r_X12_noRow (v0 : Nat) (v1 : Int32) (S : z_St) : z_seg z_rZ (c_X12_noRow) [] (fun pc => fun _ _ _ => none) 20 (c_X12_noRow) [(0, .ref v0), (1, .int v1)] [] S = b_X12_noRow v0 v1 S := rfl
def l_X12_begin_17 : Nat → Nat → Int32 → Int32 → Int32 → z_St → Option z_St
  | 0 => fun _ _ _ _ _ => none
  | n + 1 => fun (v0 : Nat) (v1 : Int32) (v3 : Int32) (v4 : Int32) (S : z_St) =>
if v3 ≤ v4 then
(some S)
else
(z_chk S v0 13 (
z_onV (va_rf (z_r S v0 6)) fun b5 =>
z_inb S b5 102 ((((64 : Int32)) * v1) + v4) (
let S6 := z_wl S b5 ((((64 : Int32)) * v1) + v4).toNatClampNeg ((0 : Int64))
let x7 := v4 + (1 : Int32)
l_X12_begin_17 n v0 v1 v3 x7 S6)))
def b_X12_begin (v0 : Nat) (v1 : Int32) (v2 : Int32) (v3 : Int32) (S : z_St) : Option z_St :=
z_chk S v0 13 (
z_onV (va_rf (z_r S v0 4)) fun b1 =>
z_inb S b1 101 v1 (
let S2 := z_wi S b1 v1.toNatClampNeg v2
z_chk S2 v0 13 (
z_onV (va_rf (z_r S2 v0 5)) fun b3 =>
z_inb S2 b3 101 v1 (
let S4 := z_wi S2 b3 v1.toNatClampNeg v3
l_X12_begin_17 z_N v0 v1 v3 ((0 : Int32)) S4))))
def f_X12_begin : Nat → Int32 → Int32 → Int32 → z_St → Option z_St := z_op (b_X12_begin)
theorem e_X12_begin (v0 : Nat) (v1 : Int32) (v2 : Int32) (v3 : Int32) (S : z_St) : f_X12_begin v0 v1 v2 v3 S = b_X12_begin v0 v1 v2 v3 S := congrFun (congrFun (congrFun (congrFun (congrFun (z_op_eq (b_X12_begin)) v0) v1) v2) v3) S
def g_X12_begin : z_G := .inr (.inr (.inr (fun as S => match as with
  | [.ref v0, .int v1, .int v2, .int v3] => f_X12_begin v0 v1 v2 v3 S
  | _ => none)))
def c_X12_begin : List z_E := [
  (0, .aload_n 0, 1, .null, [], z_g0),
  (1, .getfield 7, 3, .null, [13, 4, 3], z_g0),
  (4, .iload_n 1, 1, .null, [], z_g0),
  (5, .iload_n 2, 1, .null, [], z_g0),
  (6, .iastore, 1, .null, [], z_g0),
  (7, .aload_n 0, 1, .null, [], z_g0),
  (8, .getfield 13, 3, .null, [13, 5, 3], z_g0),
  (11, .iload_n 1, 1, .null, [], z_g0),
  (12, .iload_n 3, 1, .null, [], z_g0),
  (13, .iastore, 1, .null, [], z_g0),
  (14, .iconst 0, 1, .int ((0 : Int32)), [], z_g0),
  (15, .istore 4, 2, .null, [], z_g0),
  (17, .iload 4, 2, .null, [], z_g0),
  (19, .iload_n 3, 1, .null, [], z_g0),
  (20, .if_icmp .ge 22, 3, .null, [42], z_g0),
  (23, .aload_n 0, 1, .null, [], z_g0),
  (24, .getfield 16, 3, .null, [13, 6, 3], z_g0),
  (27, .bipush 64, 2, .int ((64 : Int32)), [], z_g0),
  (29, .iload_n 1, 1, .null, [], z_g0),
  (30, .imul, 1, .null, [], z_g0),
  (31, .iload 4, 2, .null, [], z_g0),
  (33, .iadd, 1, .null, [], z_g0),
  (34, .lconst 0, 1, .long (0 : Int64), [], z_g0),
  (35, .lastore, 1, .null, [], z_g0),
  (36, .iinc 4 1, 3, .int (1 : Int32), [], z_g0),
  (39, .goto (-22), 3, .null, [17], z_g0),
  (42, .return_, 1, .null, [], z_g0)]
def a_X12_begin_17 {ρ : Type} (k : Nat → Int32 → Int32 → Int32 → z_St → Option ρ) (ls : z_Lv) (st : List Value) (S : z_St) : Option ρ := z_gR ls 0 fun v0 => z_gI ls 1 fun v1 => z_gI ls 3 fun v3 => z_gI ls 4 fun v4 => z_p0 st (k v0 v1 v3 v4 S)
set_option maxRecDepth 100000 in
theorem r_X12_begin_17 (n : Nat) (v0 : Nat) (v1 : Int32) (v3 : Int32) (v4 : Int32) (S : z_St) : z_seg z_rV (c_X12_begin) [17] (fun pc => cond (Nat.beq pc 17) (a_X12_begin_17 (l_X12_begin_17 n)) (fun _ _ _ => none)) 30 (z_to 17 (c_X12_begin)) [(0, .ref v0), (1, .int v1), (3, .int v3), (4, .int v4)] [] S = l_X12_begin_17 (n + 1) v0 v1 v3 v4 S := rfl
set_option maxRecDepth 100000 in
theorem r_X12_begin (v0 : Nat) (v1 : Int32) (v2 : Int32) (v3 : Int32) (S : z_St) : z_seg z_rV (c_X12_begin) [17] (fun pc => cond (Nat.beq pc 17) (a_X12_begin_17 (l_X12_begin_17 z_N)) (fun _ _ _ => none)) 30 (c_X12_begin) [(0, .ref v0), (1, .int v1), (2, .int v2), (3, .int v3)] [] S = b_X12_begin v0 v1 v2 v3 S := rfl
def b_X12_row (v0 : Nat) (v1 : Int32) (v2 : Int32) (S : z_St) : Option (Int32 × z_St) :=
z_chk S v0 13 (
let S1 := z_wi S v0 0 ((0 : Int32))
(f_X12_in v1.toInt64 ((0 : Int64)) ((7 : Int64)) S1).bind fun q2 =>
if q2.1 = 0 then
(some ((-2000000002 : Int32), q2.2))
else
(if v2 ≤ ((64 : Int32)) then
(z_chk q2.2 v0 13 (
if ((z_i q2.2 v0 3)) = ((40 : Int32)) then
(some ((-2000000004 : Int32), q2.2))
else
(if 0 ≤ v2 then
(z_chk q2.2 v0 13 (
(f_X12_well v0 q2.2).bind fun q3 =>
z_chk q3 v0 13 (
z_chk q3 v0 13 (
(f_X12_begin v0 ((z_i q3 v0 3)) v1 v2 q3).bind fun q4 =>
z_chk q4 v0 13 (
z_chk q4 v0 13 (
let S5 := z_wi q4 v0 3 (((z_i q4 v0 3)) + ((1 : Int32)))
z_chk S5 v0 13 (
some (((z_i S5 v0 3)) - ((1 : Int32)), S5))))))))
else
(z_chk q2.2 v0 13 (
(f_X12_fails v0 ((3 : Int32)) q2.2).bind fun q6 =>
some (q6.1, q6.2))))))
else
(some ((-2000000002 : Int32), q2.2))))
def f_X12_row : Nat → Int32 → Int32 → z_St → Option (Int32 × z_St) := z_op (b_X12_row)
theorem e_X12_row (v0 : Nat) (v1 : Int32) (v2 : Int32) (S : z_St) : f_X12_row v0 v1 v2 S = b_X12_row v0 v1 v2 S := congrFun (congrFun (congrFun (congrFun (z_op_eq (b_X12_row)) v0) v1) v2) S
def g_X12_row : z_G := .inl (fun as S => match as with
  | [.ref v0, .int v1, .int v2] => f_X12_row v0 v1 v2 S
  | _ => none)
def c_X12_row : List z_E := [
  (0, .aload_n 0, 1, .null, [], z_g0),
  (1, .iconst 0, 1, .int ((0 : Int32)), [], z_g0),
  (2, .putfield 224, 3, .null, [13, 0, 0], z_g0),
  (5, .iload_n 1, 1, .null, [], z_g0),
  (6, .i2l, 1, .null, [], z_g0),
  (7, .lconst 0, 1, .long (0 : Int64), [], z_g0),
  (8, .ldc2_w 278, 3, .long (7 : Int64), [], z_g0),
  (11, .invokestatic 274, 3, .null, [0, 0, 0, 0], g_X12_in),
  (14, .ifCond .eq 9, 3, .null, [23], z_g0),
  (17, .iload_n 2, 1, .null, [], z_g0),
  (18, .bipush 64, 2, .int ((64 : Int32)), [], z_g0),
  (20, .if_icmp .le 7, 3, .null, [27], z_g0),
  (23, .ldc_w 280, 3, .int (-2000000002 : Int32), [], z_g0),
  (26, .ireturn, 1, .null, [], z_g0),
  (27, .aload_n 0, 1, .null, [], z_g0),
  (28, .getfield 271, 3, .null, [13, 3, 0], z_g0),
  (31, .bipush 40, 2, .int ((40 : Int32)), [], z_g0),
  (33, .if_icmp .ne 7, 3, .null, [40], z_g0),
  (36, .ldc_w 281, 3, .int (-2000000004 : Int32), [], z_g0),
  (39, .ireturn, 1, .null, [], z_g0),
  (40, .iload_n 2, 1, .null, [], z_g0),
  (41, .ifCond .ge 9, 3, .null, [50], z_g0),
  (44, .aload_n 0, 1, .null, [], z_g0),
  (45, .iconst 3, 1, .int ((3 : Int32)), [], z_g0),
  (46, .invokevirtual 282, 3, .null, [1, 13, 0], g_X12_fails),
  (49, .ireturn, 1, .null, [], z_g0),
  (50, .aload_n 0, 1, .null, [], z_g0),
  (51, .invokevirtual 286, 3, .null, [1, 13], g_X12_well),
  (54, .aload_n 0, 1, .null, [], z_g0),
  (55, .aload_n 0, 1, .null, [], z_g0),
  (56, .getfield 271, 3, .null, [13, 3, 0], z_g0),
  (59, .iload_n 1, 1, .null, [], z_g0),
  (60, .iload_n 2, 1, .null, [], z_g0),
  (61, .invokevirtual 289, 3, .null, [1, 13, 0, 0, 0], g_X12_begin),
  (64, .aload_n 0, 1, .null, [], z_g0),
  (65, .dup, 1, .null, [], z_g0),
  (66, .getfield 271, 3, .null, [13, 3, 0], z_g0),
  (69, .iconst 1, 1, .int ((1 : Int32)), [], z_g0),
  (70, .iadd, 1, .null, [], z_g0),
  (71, .putfield 271, 3, .null, [13, 3, 0], z_g0),
  (74, .aload_n 0, 1, .null, [], z_g0),
  (75, .getfield 271, 3, .null, [13, 3, 0], z_g0),
  (78, .iconst 1, 1, .int ((1 : Int32)), [], z_g0),
  (79, .isub, 1, .null, [], z_g0),
  (80, .ireturn, 1, .null, [], z_g0)]
set_option maxRecDepth 100000 in
theorem r_X12_row (v0 : Nat) (v1 : Int32) (v2 : Int32) (S : z_St) : z_seg z_rI (c_X12_row) [] (fun pc => fun _ _ _ => none) 48 (c_X12_row) [(0, .ref v0), (1, .int v1), (2, .int v2)] [] S = b_X12_row v0 v1 v2 S := rfl
def b_X12_cellFault (v0 : Nat) (v1 : Int32) (v2 : Int32) (S : z_St) : Option (Int32 × z_St) :=
z_chk S v0 13 (
(f_X12_noRow v0 v1 S).bind fun q1 =>
if q1.1 = 0 then
(if v1 = ((-1 : Int32)) then
(z_chk q1.2 v0 13 (
(f_X12_fails v0 ((1 : Int32)) q1.2).bind fun q6 =>
some (q6.1, q6.2)))
else
(z_chk q1.2 v0 13 (
z_onV (va_rf (z_r q1.2 v0 5)) fun b2 =>
z_inb q1.2 b2 101 v1 (
(f_X12_in v2.toInt64 ((0 : Int64)) ((((z_i q1.2 b2 v1.toNatClampNeg)) - ((1 : Int32))).toInt64) q1.2).bind fun q3 =>
if q3.1 = 0 then
(z_chk q3.2 v0 13 (
(f_X12_fails v0 ((2 : Int32)) q3.2).bind fun q5 =>
some (q5.1, q5.2)))
else
(z_chk q3.2 v0 13 (
(f_X12_well v0 q3.2).bind fun q4 =>
some ((0 : Int32), q4)))))))
else
(some ((-2000000001 : Int32), q1.2)))
def f_X12_cellFault : Nat → Int32 → Int32 → z_St → Option (Int32 × z_St) := z_op (b_X12_cellFault)
theorem e_X12_cellFault (v0 : Nat) (v1 : Int32) (v2 : Int32) (S : z_St) : f_X12_cellFault v0 v1 v2 S = b_X12_cellFault v0 v1 v2 S := congrFun (congrFun (congrFun (congrFun (z_op_eq (b_X12_cellFault)) v0) v1) v2) S
def g_X12_cellFault : z_G := .inl (fun as S => match as with
  | [.ref v0, .int v1, .int v2] => f_X12_cellFault v0 v1 v2 S
  | _ => none)
def c_X12_cellFault : List z_E := [
  (0, .aload_n 0, 1, .null, [], z_g0),
  (1, .iload_n 1, 1, .null, [], z_g0),
  (2, .invokevirtual 293, 3, .null, [1, 13, 0], g_X12_noRow),
  (5, .ifCond .eq 7, 3, .null, [12], z_g0),
  (8, .ldc_w 296, 3, .int (-2000000001 : Int32), [], z_g0),
  (11, .ireturn, 1, .null, [], z_g0),
  (12, .iload_n 1, 1, .null, [], z_g0),
  (13, .iconst (-1), 1, .int ((-1 : Int32)), [], z_g0),
  (14, .if_icmp .ne 9, 3, .null, [23], z_g0),
  (17, .aload_n 0, 1, .null, [], z_g0),
  (18, .iconst 1, 1, .int ((1 : Int32)), [], z_g0),
  (19, .invokevirtual 282, 3, .null, [1, 13, 0], g_X12_fails),
  (22, .ireturn, 1, .null, [], z_g0),
  (23, .iload_n 2, 1, .null, [], z_g0),
  (24, .i2l, 1, .null, [], z_g0),
  (25, .lconst 0, 1, .long (0 : Int64), [], z_g0),
  (26, .aload_n 0, 1, .null, [], z_g0),
  (27, .getfield 13, 3, .null, [13, 5, 3], z_g0),
  (30, .iload_n 1, 1, .null, [], z_g0),
  (31, .iaload, 1, .null, [101], z_g0),
  (32, .iconst 1, 1, .int ((1 : Int32)), [], z_g0),
  (33, .isub, 1, .null, [], z_g0),
  (34, .i2l, 1, .null, [], z_g0),
  (35, .invokestatic 274, 3, .null, [0, 0, 0, 0], g_X12_in),
  (38, .ifCond .ne 9, 3, .null, [47], z_g0),
  (41, .aload_n 0, 1, .null, [], z_g0),
  (42, .iconst 2, 1, .int ((2 : Int32)), [], z_g0),
  (43, .invokevirtual 282, 3, .null, [1, 13, 0], g_X12_fails),
  (46, .ireturn, 1, .null, [], z_g0),
  (47, .aload_n 0, 1, .null, [], z_g0),
  (48, .invokevirtual 286, 3, .null, [1, 13], g_X12_well),
  (51, .iconst 0, 1, .int ((0 : Int32)), [], z_g0),
  (52, .ireturn, 1, .null, [], z_g0)]
set_option maxRecDepth 100000 in
theorem r_X12_cellFault (v0 : Nat) (v1 : Int32) (v2 : Int32) (S : z_St) : z_seg z_rI (c_X12_cellFault) [] (fun pc => fun _ _ _ => none) 36 (c_X12_cellFault) [(0, .ref v0), (1, .int v1), (2, .int v2)] [] S = b_X12_cellFault v0 v1 v2 S := rfl
def b_X12_put (v0 : Nat) (v1 : Int32) (v2 : Int32) (v3 : Int64) (S : z_St) : Option (Int32 × z_St) :=
z_chk S v0 13 (
let S1 := z_wi S v0 0 ((0 : Int32))
z_chk S1 v0 13 (
(f_X12_cellFault v0 v1 v2 S1).bind fun q2 =>
if q2.1 = 0 then
(z_chk q2.2 v0 13 (
z_chk q2.2 v0 13 (
z_onV (va_rf (z_r q2.2 v0 4)) fun b3 =>
z_inb q2.2 b3 101 v1 (
(f_X12_cellOfWhole ((z_i q2.2 b3 v1.toNatClampNeg)) v3 q2.2).bind fun q4 =>
z_onV (va_rf (z_r q2.2 v0 6)) fun b5 =>
z_inb q4.2 b5 102 ((((64 : Int32)) * v1) + v2) (
let S6 := z_wl q4.2 b5 ((((64 : Int32)) * v1) + v2).toNatClampNeg q4.1
some ((1 : Int32), S6))))))
else
(some (q2.1, q2.2))))
def f_X12_put : Nat → Int32 → Int32 → Int64 → z_St → Option (Int32 × z_St) := z_op (b_X12_put)
theorem e_X12_put (v0 : Nat) (v1 : Int32) (v2 : Int32) (v3 : Int64) (S : z_St) : f_X12_put v0 v1 v2 v3 S = b_X12_put v0 v1 v2 v3 S := congrFun (congrFun (congrFun (congrFun (congrFun (z_op_eq (b_X12_put)) v0) v1) v2) v3) S
def g_X12_put : z_G := .inl (fun as S => match as with
  | [.ref v0, .int v1, .int v2, .long v3] => f_X12_put v0 v1 v2 v3 S
  | _ => none)
def c_X12_put : List z_E := [
  (0, .aload_n 0, 1, .null, [], z_g0),
  (1, .iconst 0, 1, .int ((0 : Int32)), [], z_g0),
  (2, .putfield 224, 3, .null, [13, 0, 0], z_g0),
  (5, .aload_n 0, 1, .null, [], z_g0),
  (6, .iload_n 1, 1, .null, [], z_g0),
  (7, .iload_n 2, 1, .null, [], z_g0),
  (8, .invokevirtual 297, 3, .null, [1, 13, 0, 0], g_X12_cellFault),
  (11, .istore 5, 2, .null, [], z_g0),
  (13, .iload 5, 2, .null, [], z_g0),
  (15, .ifCond .eq 6, 3, .null, [21], z_g0),
  (18, .iload 5, 2, .null, [], z_g0),
  (20, .ireturn, 1, .null, [], z_g0),
  (21, .aload_n 0, 1, .null, [], z_g0),
  (22, .getfield 16, 3, .null, [13, 6, 3], z_g0),
  (25, .bipush 64, 2, .int ((64 : Int32)), [], z_g0),
  (27, .iload_n 1, 1, .null, [], z_g0),
  (28, .imul, 1, .null, [], z_g0),
  (29, .iload_n 2, 1, .null, [], z_g0),
  (30, .iadd, 1, .null, [], z_g0),
  (31, .aload_n 0, 1, .null, [], z_g0),
  (32, .getfield 7, 3, .null, [13, 4, 3], z_g0),
  (35, .iload_n 1, 1, .null, [], z_g0),
  (36, .iaload, 1, .null, [101], z_g0),
  (37, .lload_n 3, 1, .null, [], z_g0),
  (38, .invokestatic 267, 3, .null, [0, 0, 0], g_X12_cellOfWhole),
  (41, .lastore, 1, .null, [], z_g0),
  (42, .iconst 1, 1, .int ((1 : Int32)), [], z_g0),
  (43, .ireturn, 1, .null, [], z_g0)]
set_option maxRecDepth 100000 in
theorem r_X12_put (v0 : Nat) (v1 : Int32) (v2 : Int32) (v3 : Int64) (S : z_St) : z_seg z_rI (c_X12_put) [] (fun pc => fun _ _ _ => none) 31 (c_X12_put) [(0, .ref v0), (1, .int v1), (2, .int v2), (3, .long v3)] [] S = b_X12_put v0 v1 v2 v3 S := rfl
def b_X12_putReal (v0 : Nat) (v1 : Int32) (v2 : Int32) (v3 : Int64) (S : z_St) : Option (Int32 × z_St) :=
z_chk S v0 13 (
let S1 := z_wi S v0 0 ((0 : Int32))
z_chk S1 v0 13 (
(f_X12_cellFault v0 v1 v2 S1).bind fun q2 =>
if q2.1 = 0 then
(z_chk q2.2 v0 13 (
z_chk q2.2 v0 13 (
z_onV (va_rf (z_r q2.2 v0 4)) fun b3 =>
z_inb q2.2 b3 101 v1 (
(f_X12_realOf v3 q2.2).bind fun q4 =>
(f_X12_cellOfReal ((z_i q2.2 b3 v1.toNatClampNeg)) q4.1 q4.2).bind fun q5 =>
z_onV (va_rf (z_r q2.2 v0 6)) fun b6 =>
z_inb q5.2 b6 102 ((((64 : Int32)) * v1) + v2) (
let S7 := z_wl q5.2 b6 ((((64 : Int32)) * v1) + v2).toNatClampNeg q5.1
some ((1 : Int32), S7))))))
else
(some (q2.1, q2.2))))
def f_X12_putReal : Nat → Int32 → Int32 → Int64 → z_St → Option (Int32 × z_St) := z_op (b_X12_putReal)
theorem e_X12_putReal (v0 : Nat) (v1 : Int32) (v2 : Int32) (v3 : Int64) (S : z_St) : f_X12_putReal v0 v1 v2 v3 S = b_X12_putReal v0 v1 v2 v3 S := congrFun (congrFun (congrFun (congrFun (congrFun (z_op_eq (b_X12_putReal)) v0) v1) v2) v3) S
def g_X12_putReal : z_G := .inl (fun as S => match as with
  | [.ref v0, .int v1, .int v2, .long v3] => f_X12_putReal v0 v1 v2 v3 S
  | _ => none)
def c_X12_putReal : List z_E := [
  (0, .aload_n 0, 1, .null, [], z_g0),
  (1, .iconst 0, 1, .int ((0 : Int32)), [], z_g0),
  (2, .putfield 224, 3, .null, [13, 0, 0], z_g0),
  (5, .aload_n 0, 1, .null, [], z_g0),
  (6, .iload_n 1, 1, .null, [], z_g0),
  (7, .iload_n 2, 1, .null, [], z_g0),
  (8, .invokevirtual 297, 3, .null, [1, 13, 0, 0], g_X12_cellFault),
  (11, .istore 5, 2, .null, [], z_g0),
  (13, .iload 5, 2, .null, [], z_g0),
  (15, .ifCond .eq 6, 3, .null, [21], z_g0),
  (18, .iload 5, 2, .null, [], z_g0),
  (20, .ireturn, 1, .null, [], z_g0),
  (21, .aload_n 0, 1, .null, [], z_g0),
  (22, .getfield 16, 3, .null, [13, 6, 3], z_g0),
  (25, .bipush 64, 2, .int ((64 : Int32)), [], z_g0),
  (27, .iload_n 1, 1, .null, [], z_g0),
  (28, .imul, 1, .null, [], z_g0),
  (29, .iload_n 2, 1, .null, [], z_g0),
  (30, .iadd, 1, .null, [], z_g0),
  (31, .aload_n 0, 1, .null, [], z_g0),
  (32, .getfield 7, 3, .null, [13, 4, 3], z_g0),
  (35, .iload_n 1, 1, .null, [], z_g0),
  (36, .iaload, 1, .null, [101], z_g0),
  (37, .lload_n 3, 1, .null, [], z_g0),
  (38, .invokestatic 262, 3, .null, [0, 0], g_X12_realOf),
  (41, .invokestatic 301, 3, .null, [0, 0, 0], g_X12_cellOfReal),
  (44, .lastore, 1, .null, [], z_g0),
  (45, .iconst 1, 1, .int ((1 : Int32)), [], z_g0),
  (46, .ireturn, 1, .null, [], z_g0)]
set_option maxRecDepth 100000 in
theorem r_X12_putReal (v0 : Nat) (v1 : Int32) (v2 : Int32) (v3 : Int64) (S : z_St) : z_seg z_rI (c_X12_putReal) [] (fun pc => fun _ _ _ => none) 32 (c_X12_putReal) [(0, .ref v0), (1, .int v1), (2, .int v2), (3, .long v3)] [] S = b_X12_putReal v0 v1 v2 v3 S := rfl
def b_X12_get (v0 : Nat) (v1 : Int32) (v2 : Int32) (S : z_St) : Option (Int64 × z_St) :=
z_chk S v0 13 (
let S1 := z_wi S v0 0 ((0 : Int32))
z_chk S1 v0 13 (
(f_X12_cellFault v0 v1 v2 S1).bind fun q2 =>
if q2.1 = 0 then
(z_chk q2.2 v0 13 (
z_onV (va_rf (z_r q2.2 v0 4)) fun b3 =>
z_inb q2.2 b3 101 v1 (
z_chk q2.2 v0 13 (
z_onV (va_rf (z_r q2.2 v0 6)) fun b4 =>
z_inb q2.2 b4 102 ((((64 : Int32)) * v1) + v2) (
(f_X12_wholeOf ((z_i q2.2 b3 v1.toNatClampNeg)) ((z_l q2.2 b4 ((((64 : Int32)) * v1) + v2).toNatClampNeg)) q2.2).bind fun q5 =>
some (q5.1, q5.2))))))
else
(some (q2.1.toInt64, q2.2))))
def f_X12_get : Nat → Int32 → Int32 → z_St → Option (Int64 × z_St) := z_op (b_X12_get)
theorem e_X12_get (v0 : Nat) (v1 : Int32) (v2 : Int32) (S : z_St) : f_X12_get v0 v1 v2 S = b_X12_get v0 v1 v2 S := congrFun (congrFun (congrFun (congrFun (z_op_eq (b_X12_get)) v0) v1) v2) S
def g_X12_get : z_G := .inr (.inl (fun as S => match as with
  | [.ref v0, .int v1, .int v2] => f_X12_get v0 v1 v2 S
  | _ => none))
def c_X12_get : List z_E := [
  (0, .aload_n 0, 1, .null, [], z_g0),
  (1, .iconst 0, 1, .int ((0 : Int32)), [], z_g0),
  (2, .putfield 224, 3, .null, [13, 0, 0], z_g0),
  (5, .aload_n 0, 1, .null, [], z_g0),
  (6, .iload_n 1, 1, .null, [], z_g0),
  (7, .iload_n 2, 1, .null, [], z_g0),
  (8, .invokevirtual 297, 3, .null, [1, 13, 0, 0], g_X12_cellFault),
  (11, .istore_n 3, 1, .null, [], z_g0),
  (12, .iload_n 3, 1, .null, [], z_g0),
  (13, .ifCond .eq 8, 3, .null, [21], z_g0),
  (16, .iload_n 3, 1, .null, [], z_g0),
  (17, .i2l, 1, .null, [], z_g0),
  (18, .goto 23, 3, .null, [41], z_g0),
  (21, .aload_n 0, 1, .null, [], z_g0),
  (22, .getfield 7, 3, .null, [13, 4, 3], z_g0),
  (25, .iload_n 1, 1, .null, [], z_g0),
  (26, .iaload, 1, .null, [101], z_g0),
  (27, .aload_n 0, 1, .null, [], z_g0),
  (28, .getfield 16, 3, .null, [13, 6, 3], z_g0),
  (31, .bipush 64, 2, .int ((64 : Int32)), [], z_g0),
  (33, .iload_n 1, 1, .null, [], z_g0),
  (34, .imul, 1, .null, [], z_g0),
  (35, .iload_n 2, 1, .null, [], z_g0),
  (36, .iadd, 1, .null, [], z_g0),
  (37, .laload, 1, .null, [], z_g0),
  (38, .invokestatic 305, 3, .null, [0, 0, 0], g_X12_wholeOf),
  (41, .lreturn, 1, .null, [], z_g0)]
set_option maxRecDepth 100000 in
theorem r_X12_get (v0 : Nat) (v1 : Int32) (v2 : Int32) (S : z_St) : z_seg z_rL (c_X12_get) [] (fun pc => fun _ _ _ => none) 30 (c_X12_get) [(0, .ref v0), (1, .int v1), (2, .int v2)] [] S = b_X12_get v0 v1 v2 S := rfl
def b_X12_getReal (v0 : Nat) (v1 : Int32) (v2 : Int32) (S : z_St) : Option (Int64 × z_St) :=
z_chk S v0 13 (
let S1 := z_wi S v0 0 ((0 : Int32))
z_chk S1 v0 13 (
(f_X12_cellFault v0 v1 v2 S1).bind fun q2 =>
if q2.1 = 0 then
(z_chk q2.2 v0 13 (
z_onV (va_rf (z_r q2.2 v0 4)) fun b3 =>
z_inb q2.2 b3 101 v1 (
z_chk q2.2 v0 13 (
z_onV (va_rf (z_r q2.2 v0 6)) fun b4 =>
z_inb q2.2 b4 102 ((((64 : Int32)) * v1) + v2) (
(f_X12_realBits ((z_i q2.2 b3 v1.toNatClampNeg)) ((z_l q2.2 b4 ((((64 : Int32)) * v1) + v2).toNatClampNeg)) q2.2).bind fun q5 =>
some (q5.1, q5.2))))))
else
(some (q2.1.toInt64, q2.2))))
def f_X12_getReal : Nat → Int32 → Int32 → z_St → Option (Int64 × z_St) := z_op (b_X12_getReal)
theorem e_X12_getReal (v0 : Nat) (v1 : Int32) (v2 : Int32) (S : z_St) : f_X12_getReal v0 v1 v2 S = b_X12_getReal v0 v1 v2 S := congrFun (congrFun (congrFun (congrFun (z_op_eq (b_X12_getReal)) v0) v1) v2) S
def g_X12_getReal : z_G := .inr (.inl (fun as S => match as with
  | [.ref v0, .int v1, .int v2] => f_X12_getReal v0 v1 v2 S
  | _ => none))
def c_X12_getReal : List z_E := [
  (0, .aload_n 0, 1, .null, [], z_g0),
  (1, .iconst 0, 1, .int ((0 : Int32)), [], z_g0),
  (2, .putfield 224, 3, .null, [13, 0, 0], z_g0),
  (5, .aload_n 0, 1, .null, [], z_g0),
  (6, .iload_n 1, 1, .null, [], z_g0),
  (7, .iload_n 2, 1, .null, [], z_g0),
  (8, .invokevirtual 297, 3, .null, [1, 13, 0, 0], g_X12_cellFault),
  (11, .istore_n 3, 1, .null, [], z_g0),
  (12, .iload_n 3, 1, .null, [], z_g0),
  (13, .ifCond .eq 8, 3, .null, [21], z_g0),
  (16, .iload_n 3, 1, .null, [], z_g0),
  (17, .i2l, 1, .null, [], z_g0),
  (18, .goto 23, 3, .null, [41], z_g0),
  (21, .aload_n 0, 1, .null, [], z_g0),
  (22, .getfield 7, 3, .null, [13, 4, 3], z_g0),
  (25, .iload_n 1, 1, .null, [], z_g0),
  (26, .iaload, 1, .null, [101], z_g0),
  (27, .aload_n 0, 1, .null, [], z_g0),
  (28, .getfield 16, 3, .null, [13, 6, 3], z_g0),
  (31, .bipush 64, 2, .int ((64 : Int32)), [], z_g0),
  (33, .iload_n 1, 1, .null, [], z_g0),
  (34, .imul, 1, .null, [], z_g0),
  (35, .iload_n 2, 1, .null, [], z_g0),
  (36, .iadd, 1, .null, [], z_g0),
  (37, .laload, 1, .null, [], z_g0),
  (38, .invokestatic 308, 3, .null, [0, 0, 0], g_X12_realBits),
  (41, .lreturn, 1, .null, [], z_g0)]
set_option maxRecDepth 100000 in
theorem r_X12_getReal (v0 : Nat) (v1 : Int32) (v2 : Int32) (S : z_St) : z_seg z_rL (c_X12_getReal) [] (fun pc => fun _ _ _ => none) 30 (c_X12_getReal) [(0, .ref v0), (1, .int v1), (2, .int v2)] [] S = b_X12_getReal v0 v1 v2 S := rfl
def b_X12_raise (v0 : Nat) (v1 : Int32) (v2 : Int32) (v3 : Int64) (v5 : Int32) (S : z_St) : Option (Int64 × z_St) :=
z_chk S v0 13 (
let S1 := z_wi S v0 0 ((0 : Int32))
z_chk S1 v0 13 (
(f_X12_cellFault v0 v1 v2 S1).bind fun q2 =>
if q2.1 = 0 then
(z_chk q2.2 v0 13 (
z_onV (va_rf (z_r q2.2 v0 6)) fun b3 =>
z_inb q2.2 b3 102 ((((64 : Int32)) * v1) + v2) (
let x4 := (z_l q2.2 b3 ((((64 : Int32)) * v1) + v2).toNatClampNeg)
z_chk q2.2 v0 13 (
z_chk q2.2 v0 13 (
z_onV (va_rf (z_r q2.2 v0 4)) fun b5 =>
z_inb q2.2 b5 101 v1 (
(f_X12_raisedCell ((z_i q2.2 b5 v1.toNatClampNeg)) x4 v3 q2.2).bind fun q6 =>
z_onV (va_rf (z_r q2.2 v0 6)) fun b7 =>
z_inb q6.2 b7 102 ((((64 : Int32)) * v1) + v2) (
let S8 := z_wl q6.2 b7 ((((64 : Int32)) * v1) + v2).toNatClampNeg q6.1
z_chk S8 v0 13 (
z_onV (va_rf (z_r S8 v0 4)) fun b9 =>
z_inb S8 b9 101 v1 (
if v5 = 0 then
(z_chk S8 v0 13 (
z_onV (va_rf (z_r S8 v0 6)) fun b10 =>
z_inb S8 b10 102 ((((64 : Int32)) * v1) + v2) (
(f_X12_wholeOf ((z_i S8 b9 v1.toNatClampNeg)) ((z_l S8 b10 ((((64 : Int32)) * v1) + v2).toNatClampNeg)) S8).bind fun q11 =>
some (q11.1, q11.2))))
else
((f_X12_wholeOf ((z_i S8 b9 v1.toNatClampNeg)) x4 S8).bind fun q12 =>
some (q12.1, q12.2)))))))))))
else
(some (q2.1.toInt64, q2.2))))
def f_X12_raise : Nat → Int32 → Int32 → Int64 → Int32 → z_St → Option (Int64 × z_St) := z_op (b_X12_raise)
theorem e_X12_raise (v0 : Nat) (v1 : Int32) (v2 : Int32) (v3 : Int64) (v5 : Int32) (S : z_St) : f_X12_raise v0 v1 v2 v3 v5 S = b_X12_raise v0 v1 v2 v3 v5 S := congrFun (congrFun (congrFun (congrFun (congrFun (congrFun (z_op_eq (b_X12_raise)) v0) v1) v2) v3) v5) S
def g_X12_raise : z_G := .inr (.inl (fun as S => match as with
  | [.ref v0, .int v1, .int v2, .long v3, .int v5] => f_X12_raise v0 v1 v2 v3 v5 S
  | _ => none))
def c_X12_raise : List z_E := [
  (0, .aload_n 0, 1, .null, [], z_g0),
  (1, .iconst 0, 1, .int ((0 : Int32)), [], z_g0),
  (2, .putfield 224, 3, .null, [13, 0, 0], z_g0),
  (5, .aload_n 0, 1, .null, [], z_g0),
  (6, .iload_n 1, 1, .null, [], z_g0),
  (7, .iload_n 2, 1, .null, [], z_g0),
  (8, .invokevirtual 297, 3, .null, [1, 13, 0, 0], g_X12_cellFault),
  (11, .istore 6, 2, .null, [], z_g0),
  (13, .iload 6, 2, .null, [], z_g0),
  (15, .ifCond .eq 7, 3, .null, [22], z_g0),
  (18, .iload 6, 2, .null, [], z_g0),
  (20, .i2l, 1, .null, [], z_g0),
  (21, .lreturn, 1, .null, [], z_g0),
  (22, .aload_n 0, 1, .null, [], z_g0),
  (23, .getfield 16, 3, .null, [13, 6, 3], z_g0),
  (26, .bipush 64, 2, .int ((64 : Int32)), [], z_g0),
  (28, .iload_n 1, 1, .null, [], z_g0),
  (29, .imul, 1, .null, [], z_g0),
  (30, .iload_n 2, 1, .null, [], z_g0),
  (31, .iadd, 1, .null, [], z_g0),
  (32, .laload, 1, .null, [], z_g0),
  (33, .lstore 7, 2, .null, [], z_g0),
  (35, .aload_n 0, 1, .null, [], z_g0),
  (36, .getfield 16, 3, .null, [13, 6, 3], z_g0),
  (39, .bipush 64, 2, .int ((64 : Int32)), [], z_g0),
  (41, .iload_n 1, 1, .null, [], z_g0),
  (42, .imul, 1, .null, [], z_g0),
  (43, .iload_n 2, 1, .null, [], z_g0),
  (44, .iadd, 1, .null, [], z_g0),
  (45, .aload_n 0, 1, .null, [], z_g0),
  (46, .getfield 7, 3, .null, [13, 4, 3], z_g0),
  (49, .iload_n 1, 1, .null, [], z_g0),
  (50, .iaload, 1, .null, [101], z_g0),
  (51, .lload 7, 2, .null, [], z_g0),
  (53, .lload_n 3, 1, .null, [], z_g0),
  (54, .invokestatic 311, 3, .null, [0, 0, 0, 0], g_X12_raisedCell),
  (57, .lastore, 1, .null, [], z_g0),
  (58, .aload_n 0, 1, .null, [], z_g0),
  (59, .getfield 7, 3, .null, [13, 4, 3], z_g0),
  (62, .iload_n 1, 1, .null, [], z_g0),
  (63, .iaload, 1, .null, [101], z_g0),
  (64, .iload 5, 2, .null, [], z_g0),
  (66, .ifCond .eq 8, 3, .null, [74], z_g0),
  (69, .lload 7, 2, .null, [], z_g0),
  (71, .goto 14, 3, .null, [85], z_g0),
  (74, .aload_n 0, 1, .null, [], z_g0),
  (75, .getfield 16, 3, .null, [13, 6, 3], z_g0),
  (78, .bipush 64, 2, .int ((64 : Int32)), [], z_g0),
  (80, .iload_n 1, 1, .null, [], z_g0),
  (81, .imul, 1, .null, [], z_g0),
  (82, .iload_n 2, 1, .null, [], z_g0),
  (83, .iadd, 1, .null, [], z_g0),
  (84, .laload, 1, .null, [], z_g0),
  (85, .invokestatic 305, 3, .null, [0, 0, 0], g_X12_wholeOf),
  (88, .lreturn, 1, .null, [], z_g0)]
set_option maxRecDepth 100000 in
theorem r_X12_raise (v0 : Nat) (v1 : Int32) (v2 : Int32) (v3 : Int64) (v5 : Int32) (S : z_St) : z_seg z_rL (c_X12_raise) [] (fun pc => fun _ _ _ => none) 58 (c_X12_raise) [(0, .ref v0), (1, .int v1), (2, .int v2), (3, .long v3), (5, .int v5)] [] S = b_X12_raise v0 v1 v2 v3 v5 S := rfl
def l_X12_join_173 : Nat → Nat → Int32 → Int32 → Int32 → z_St → Option (Int32 × z_St)
  | 0 => fun _ _ _ _ _ => none
  | n + 1 => fun (v0 : Nat) (v1 : Int32) (v2 : Int32) (v3 : Int32) (S : z_St) =>
z_chk S v0 13 (
z_onV (va_rf (z_r S v0 5)) fun b21 =>
z_inb S b21 101 v2 (
if ((z_i S b21 v2.toNatClampNeg)) ≤ v3 then
(z_chk S v0 13 (
z_chk S v0 13 (
let S22 := z_wi S v0 3 (((z_i S v0 3)) + ((1 : Int32)))
z_chk S22 v0 13 (
some (((z_i S22 v0 3)) - ((1 : Int32)), S22)))))
else
(z_chk S v0 13 (
z_chk S v0 13 (
z_chk S v0 13 (
z_onV (va_rf (z_r S v0 5)) fun b23 =>
z_inb S b23 101 v1 (
z_chk S v0 13 (
z_onV (va_rf (z_r S v0 6)) fun b24 =>
z_inb S b24 102 ((((64 : Int32)) * v2) + v3) (
z_onV (va_rf (z_r S v0 6)) fun b25 =>
z_inb S b25 102 (((((64 : Int32)) * ((z_i S v0 3))) + ((z_i S b23 v1.toNatClampNeg))) + v3) (
let S26 := z_wl S b25 (((((64 : Int32)) * ((z_i S v0 3))) + ((z_i S b23 v1.toNatClampNeg))) + v3).toNatClampNeg ((z_l S b24 ((((64 : Int32)) * v2) + v3).toNatClampNeg))
let x27 := v3 + (1 : Int32)
l_X12_join_173 n v0 v1 v2 x27 S26))))))))))
def l_X12_join_130 : Nat → Nat → Int32 → Int32 → Int32 → z_St → Option (Int32 × z_St)
  | 0 => fun _ _ _ _ _ => none
  | n + 1 => fun (v0 : Nat) (v1 : Int32) (v2 : Int32) (v3 : Int32) (S : z_St) =>
z_chk S v0 13 (
z_onV (va_rf (z_r S v0 5)) fun b16 =>
z_inb S b16 101 v1 (
if ((z_i S b16 v1.toNatClampNeg)) ≤ v3 then
(l_X12_join_173 z_N v0 v1 v2 ((0 : Int32)) S)
else
(z_chk S v0 13 (
z_chk S v0 13 (
z_chk S v0 13 (
z_onV (va_rf (z_r S v0 6)) fun b17 =>
z_inb S b17 102 ((((64 : Int32)) * v1) + v3) (
z_onV (va_rf (z_r S v0 6)) fun b18 =>
z_inb S b18 102 ((((64 : Int32)) * ((z_i S v0 3))) + v3) (
let S19 := z_wl S b18 ((((64 : Int32)) * ((z_i S v0 3))) + v3).toNatClampNeg ((z_l S b17 ((((64 : Int32)) * v1) + v3).toNatClampNeg))
let x20 := v3 + (1 : Int32)
l_X12_join_130 n v0 v1 v2 x20 S19))))))))
def b_X12_join (v0 : Nat) (v1 : Int32) (v2 : Int32) (S : z_St) : Option (Int32 × z_St) :=
z_chk S v0 13 (
let S1 := z_wi S v0 0 ((0 : Int32))
z_chk S1 v0 13 (
(f_X12_noRow v0 v1 S1).bind fun q2 =>
if q2.1 = 0 then
(z_chk q2.2 v0 13 (
(f_X12_noRow v0 v2 q2.2).bind fun q3 =>
if q3.1 = 0 then
(if v1 = ((-1 : Int32)) then
(z_chk q3.2 v0 13 (
(f_X12_fails v0 ((1 : Int32)) q3.2).bind fun q4 =>
some (q4.1, q4.2)))
else
(if v2 = ((-1 : Int32)) then
(z_chk q3.2 v0 13 (
(f_X12_fails v0 ((1 : Int32)) q3.2).bind fun q15 =>
some (q15.1, q15.2)))
else
(z_chk q3.2 v0 13 (
z_onV (va_rf (z_r q3.2 v0 5)) fun b5 =>
z_inb q3.2 b5 101 v1 (
z_chk q3.2 v0 13 (
z_onV (va_rf (z_r q3.2 v0 5)) fun b6 =>
z_inb q3.2 b6 101 v2 (
if (((z_i q3.2 b5 v1.toNatClampNeg)) + ((z_i q3.2 b6 v2.toNatClampNeg))) ≤ ((64 : Int32)) then
(z_chk q3.2 v0 13 (
if ((z_i q3.2 v0 3)) = ((40 : Int32)) then
(some ((-2000000004 : Int32), q3.2))
else
(z_chk q3.2 v0 13 (
z_onV (va_rf (z_r q3.2 v0 4)) fun b7 =>
z_inb q3.2 b7 101 v1 (
z_chk q3.2 v0 13 (
z_onV (va_rf (z_r q3.2 v0 4)) fun b8 =>
z_inb q3.2 b8 101 v2 (
if ((z_i q3.2 b7 v1.toNatClampNeg)) = ((z_i q3.2 b8 v2.toNatClampNeg)) then
(z_chk q3.2 v0 13 (
(f_X12_well v0 q3.2).bind fun q9 =>
z_chk q9 v0 13 (
z_chk q9 v0 13 (
z_onV (va_rf (z_r q9 v0 4)) fun b10 =>
z_inb q9 b10 101 v1 (
z_chk q9 v0 13 (
z_onV (va_rf (z_r q9 v0 5)) fun b11 =>
z_inb q9 b11 101 v1 (
z_chk q9 v0 13 (
z_onV (va_rf (z_r q9 v0 5)) fun b12 =>
z_inb q9 b12 101 v2 (
z_chk q9 v0 13 (
(f_X12_begin v0 ((z_i q9 v0 3)) ((z_i q9 b10 v1.toNatClampNeg)) (((z_i q9 b11 v1.toNatClampNeg)) + ((z_i q9 b12 v2.toNatClampNeg))) q9).bind fun q13 =>
l_X12_join_130 z_N v0 v1 v2 ((0 : Int32)) q13))))))))))
else
(z_chk q3.2 v0 13 (
(f_X12_fails v0 ((5 : Int32)) q3.2).bind fun q14 =>
some (q14.1, q14.2))))))))))
else
(some ((-2000000002 : Int32), q3.2)))))))))
else
(some ((-2000000001 : Int32), q3.2))))
else
(some ((-2000000001 : Int32), q2.2))))
def f_X12_join : Nat → Int32 → Int32 → z_St → Option (Int32 × z_St) := z_op (b_X12_join)
theorem e_X12_join (v0 : Nat) (v1 : Int32) (v2 : Int32) (S : z_St) : f_X12_join v0 v1 v2 S = b_X12_join v0 v1 v2 S := congrFun (congrFun (congrFun (congrFun (z_op_eq (b_X12_join)) v0) v1) v2) S
def g_X12_join : z_G := .inl (fun as S => match as with
  | [.ref v0, .int v1, .int v2] => f_X12_join v0 v1 v2 S
  | _ => none)
def c_X12_join : List z_E := [
  (0, .aload_n 0, 1, .null, [], z_g0),
  (1, .iconst 0, 1, .int ((0 : Int32)), [], z_g0),
  (2, .putfield 224, 3, .null, [13, 0, 0], z_g0),
  (5, .aload_n 0, 1, .null, [], z_g0),
  (6, .iload_n 1, 1, .null, [], z_g0),
  (7, .invokevirtual 293, 3, .null, [1, 13, 0], g_X12_noRow),
  (10, .ifCond .ne 11, 3, .null, [21], z_g0),
  (13, .aload_n 0, 1, .null, [], z_g0),
  (14, .iload_n 2, 1, .null, [], z_g0),
  (15, .invokevirtual 293, 3, .null, [1, 13, 0], g_X12_noRow),
  (18, .ifCond .eq 7, 3, .null, [25], z_g0),
  (21, .ldc_w 296, 3, .int (-2000000001 : Int32), [], z_g0),
  (24, .ireturn, 1, .null, [], z_g0),
  (25, .iload_n 1, 1, .null, [], z_g0),
  (26, .iconst (-1), 1, .int ((-1 : Int32)), [], z_g0),
  (27, .if_icmp .eq 8, 3, .null, [35], z_g0),
  (30, .iload_n 2, 1, .null, [], z_g0),
  (31, .iconst (-1), 1, .int ((-1 : Int32)), [], z_g0),
  (32, .if_icmp .ne 9, 3, .null, [41], z_g0),
  (35, .aload_n 0, 1, .null, [], z_g0),
  (36, .iconst 1, 1, .int ((1 : Int32)), [], z_g0),
  (37, .invokevirtual 282, 3, .null, [1, 13, 0], g_X12_fails),
  (40, .ireturn, 1, .null, [], z_g0),
  (41, .aload_n 0, 1, .null, [], z_g0),
  (42, .getfield 13, 3, .null, [13, 5, 3], z_g0),
  (45, .iload_n 1, 1, .null, [], z_g0),
  (46, .iaload, 1, .null, [101], z_g0),
  (47, .aload_n 0, 1, .null, [], z_g0),
  (48, .getfield 13, 3, .null, [13, 5, 3], z_g0),
  (51, .iload_n 2, 1, .null, [], z_g0),
  (52, .iaload, 1, .null, [101], z_g0),
  (53, .iadd, 1, .null, [], z_g0),
  (54, .bipush 64, 2, .int ((64 : Int32)), [], z_g0),
  (56, .if_icmp .le 7, 3, .null, [63], z_g0),
  (59, .ldc_w 280, 3, .int (-2000000002 : Int32), [], z_g0),
  (62, .ireturn, 1, .null, [], z_g0),
  (63, .aload_n 0, 1, .null, [], z_g0),
  (64, .getfield 271, 3, .null, [13, 3, 0], z_g0),
  (67, .bipush 40, 2, .int ((40 : Int32)), [], z_g0),
  (69, .if_icmp .ne 7, 3, .null, [76], z_g0),
  (72, .ldc_w 281, 3, .int (-2000000004 : Int32), [], z_g0),
  (75, .ireturn, 1, .null, [], z_g0),
  (76, .aload_n 0, 1, .null, [], z_g0),
  (77, .getfield 7, 3, .null, [13, 4, 3], z_g0),
  (80, .iload_n 1, 1, .null, [], z_g0),
  (81, .iaload, 1, .null, [101], z_g0),
  (82, .aload_n 0, 1, .null, [], z_g0),
  (83, .getfield 7, 3, .null, [13, 4, 3], z_g0),
  (86, .iload_n 2, 1, .null, [], z_g0),
  (87, .iaload, 1, .null, [101], z_g0),
  (88, .if_icmp .eq 9, 3, .null, [97], z_g0),
  (91, .aload_n 0, 1, .null, [], z_g0),
  (92, .iconst 5, 1, .int ((5 : Int32)), [], z_g0),
  (93, .invokevirtual 282, 3, .null, [1, 13, 0], g_X12_fails),
  (96, .ireturn, 1, .null, [], z_g0),
  (97, .aload_n 0, 1, .null, [], z_g0),
  (98, .invokevirtual 286, 3, .null, [1, 13], g_X12_well),
  (101, .aload_n 0, 1, .null, [], z_g0),
  (102, .aload_n 0, 1, .null, [], z_g0),
  (103, .getfield 271, 3, .null, [13, 3, 0], z_g0),
  (106, .aload_n 0, 1, .null, [], z_g0),
  (107, .getfield 7, 3, .null, [13, 4, 3], z_g0),
  (110, .iload_n 1, 1, .null, [], z_g0),
  (111, .iaload, 1, .null, [101], z_g0),
  (112, .aload_n 0, 1, .null, [], z_g0),
  (113, .getfield 13, 3, .null, [13, 5, 3], z_g0),
  (116, .iload_n 1, 1, .null, [], z_g0),
  (117, .iaload, 1, .null, [101], z_g0),
  (118, .aload_n 0, 1, .null, [], z_g0),
  (119, .getfield 13, 3, .null, [13, 5, 3], z_g0),
  (122, .iload_n 2, 1, .null, [], z_g0),
  (123, .iaload, 1, .null, [101], z_g0),
  (124, .iadd, 1, .null, [], z_g0),
  (125, .invokevirtual 289, 3, .null, [1, 13, 0, 0, 0], g_X12_begin),
  (128, .iconst 0, 1, .int ((0 : Int32)), [], z_g0),
  (129, .istore_n 3, 1, .null, [], z_g0),
  (130, .iload_n 3, 1, .null, [], z_g0),
  (131, .aload_n 0, 1, .null, [], z_g0),
  (132, .getfield 13, 3, .null, [13, 5, 3], z_g0),
  (135, .iload_n 1, 1, .null, [], z_g0),
  (136, .iaload, 1, .null, [101], z_g0),
  (137, .if_icmp .ge 34, 3, .null, [171], z_g0),
  (140, .aload_n 0, 1, .null, [], z_g0),
  (141, .getfield 16, 3, .null, [13, 6, 3], z_g0),
  (144, .bipush 64, 2, .int ((64 : Int32)), [], z_g0),
  (146, .aload_n 0, 1, .null, [], z_g0),
  (147, .getfield 271, 3, .null, [13, 3, 0], z_g0),
  (150, .imul, 1, .null, [], z_g0),
  (151, .iload_n 3, 1, .null, [], z_g0),
  (152, .iadd, 1, .null, [], z_g0),
  (153, .aload_n 0, 1, .null, [], z_g0),
  (154, .getfield 16, 3, .null, [13, 6, 3], z_g0),
  (157, .bipush 64, 2, .int ((64 : Int32)), [], z_g0),
  (159, .iload_n 1, 1, .null, [], z_g0),
  (160, .imul, 1, .null, [], z_g0),
  (161, .iload_n 3, 1, .null, [], z_g0),
  (162, .iadd, 1, .null, [], z_g0),
  (163, .laload, 1, .null, [], z_g0),
  (164, .lastore, 1, .null, [], z_g0),
  (165, .iinc 3 1, 3, .int (1 : Int32), [], z_g0),
  (168, .goto (-38), 3, .null, [130], z_g0),
  (171, .iconst 0, 1, .int ((0 : Int32)), [], z_g0),
  (172, .istore_n 3, 1, .null, [], z_g0),
  (173, .iload_n 3, 1, .null, [], z_g0),
  (174, .aload_n 0, 1, .null, [], z_g0),
  (175, .getfield 13, 3, .null, [13, 5, 3], z_g0),
  (178, .iload_n 2, 1, .null, [], z_g0),
  (179, .iaload, 1, .null, [101], z_g0),
  (180, .if_icmp .ge 41, 3, .null, [221], z_g0),
  (183, .aload_n 0, 1, .null, [], z_g0),
  (184, .getfield 16, 3, .null, [13, 6, 3], z_g0),
  (187, .bipush 64, 2, .int ((64 : Int32)), [], z_g0),
  (189, .aload_n 0, 1, .null, [], z_g0),
  (190, .getfield 271, 3, .null, [13, 3, 0], z_g0),
  (193, .imul, 1, .null, [], z_g0),
  (194, .aload_n 0, 1, .null, [], z_g0),
  (195, .getfield 13, 3, .null, [13, 5, 3], z_g0),
  (198, .iload_n 1, 1, .null, [], z_g0),
  (199, .iaload, 1, .null, [101], z_g0),
  (200, .iadd, 1, .null, [], z_g0),
  (201, .iload_n 3, 1, .null, [], z_g0),
  (202, .iadd, 1, .null, [], z_g0),
  (203, .aload_n 0, 1, .null, [], z_g0),
  (204, .getfield 16, 3, .null, [13, 6, 3], z_g0),
  (207, .bipush 64, 2, .int ((64 : Int32)), [], z_g0),
  (209, .iload_n 2, 1, .null, [], z_g0),
  (210, .imul, 1, .null, [], z_g0),
  (211, .iload_n 3, 1, .null, [], z_g0),
  (212, .iadd, 1, .null, [], z_g0),
  (213, .laload, 1, .null, [], z_g0),
  (214, .lastore, 1, .null, [], z_g0),
  (215, .iinc 3 1, 3, .int (1 : Int32), [], z_g0),
  (218, .goto (-45), 3, .null, [173], z_g0),
  (221, .aload_n 0, 1, .null, [], z_g0),
  (222, .dup, 1, .null, [], z_g0),
  (223, .getfield 271, 3, .null, [13, 3, 0], z_g0),
  (226, .iconst 1, 1, .int ((1 : Int32)), [], z_g0),
  (227, .iadd, 1, .null, [], z_g0),
  (228, .putfield 271, 3, .null, [13, 3, 0], z_g0),
  (231, .aload_n 0, 1, .null, [], z_g0),
  (232, .getfield 271, 3, .null, [13, 3, 0], z_g0),
  (235, .iconst 1, 1, .int ((1 : Int32)), [], z_g0),
  (236, .isub, 1, .null, [], z_g0),
  (237, .ireturn, 1, .null, [], z_g0)]
def a_X12_join_130 {ρ : Type} (k : Nat → Int32 → Int32 → Int32 → z_St → Option ρ) (ls : z_Lv) (st : List Value) (S : z_St) : Option ρ := z_gR ls 0 fun v0 => z_gI ls 1 fun v1 => z_gI ls 2 fun v2 => z_gI ls 3 fun v3 => z_p0 st (k v0 v1 v2 v3 S)
def a_X12_join_173 {ρ : Type} (k : Nat → Int32 → Int32 → Int32 → z_St → Option ρ) (ls : z_Lv) (st : List Value) (S : z_St) : Option ρ := z_gR ls 0 fun v0 => z_gI ls 1 fun v1 => z_gI ls 2 fun v2 => z_gI ls 3 fun v3 => z_p0 st (k v0 v1 v2 v3 S)
set_option maxRecDepth 100000 in
theorem r_X12_join_173 (n : Nat) (v0 : Nat) (v1 : Int32) (v2 : Int32) (v3 : Int32) (S : z_St) : z_seg z_rI (c_X12_join) [130, 173] (fun pc => cond (Nat.beq pc 173) (a_X12_join_173 (l_X12_join_173 n)) (fun _ _ _ => none)) 147 (z_to 173 (c_X12_join)) [(0, .ref v0), (1, .int v1), (2, .int v2), (3, .int v3)] [] S = l_X12_join_173 (n + 1) v0 v1 v2 v3 S := rfl
set_option maxRecDepth 100000 in
theorem r_X12_join_130 (n : Nat) (v0 : Nat) (v1 : Int32) (v2 : Int32) (v3 : Int32) (S : z_St) : z_seg z_rI (c_X12_join) [130, 173] (fun pc => cond (Nat.beq pc 130) (a_X12_join_130 (l_X12_join_130 n)) (cond (Nat.beq pc 173) (a_X12_join_173 (l_X12_join_173 z_N)) (fun _ _ _ => none))) 147 (z_to 130 (c_X12_join)) [(0, .ref v0), (1, .int v1), (2, .int v2), (3, .int v3)] [] S = l_X12_join_130 (n + 1) v0 v1 v2 v3 S := rfl
set_option maxRecDepth 100000 in
theorem r_X12_join (v0 : Nat) (v1 : Int32) (v2 : Int32) (S : z_St) : z_seg z_rI (c_X12_join) [130, 173] (fun pc => cond (Nat.beq pc 130) (a_X12_join_130 (l_X12_join_130 z_N)) (fun _ _ _ => none)) 147 (c_X12_join) [(0, .ref v0), (1, .int v1), (2, .int v2)] [] S = b_X12_join v0 v1 v2 S := rfl
def b_X12_isSpan (v0 : Int32) (v1 : Int32) (v2 : Int32) (S : z_St) : Option (Int32 × z_St) :=
if v1 < 0 then
(z_rb ((0 : Int32)) S)
else
(if v0 < 0 then
(z_rb ((0 : Int32)) S)
else
(if 0 < (lg_cmp (v0.toInt64 + v1.toInt64) v2.toInt64) then
(z_rb ((0 : Int32)) S)
else
(z_rb ((1 : Int32)) S)))
def f_X12_isSpan : Int32 → Int32 → Int32 → z_St → Option (Int32 × z_St) := z_op (b_X12_isSpan)
theorem e_X12_isSpan (v0 : Int32) (v1 : Int32) (v2 : Int32) (S : z_St) : f_X12_isSpan v0 v1 v2 S = b_X12_isSpan v0 v1 v2 S := congrFun (congrFun (congrFun (congrFun (z_op_eq (b_X12_isSpan)) v0) v1) v2) S
def g_X12_isSpan : z_G := .inl (fun as S => match as with
  | [.int v0, .int v1, .int v2] => f_X12_isSpan v0 v1 v2 S
  | _ => none)
def c_X12_isSpan : List z_E := [
  (0, .iload_n 1, 1, .null, [], z_g0),
  (1, .ifCond .lt 22, 3, .null, [23], z_g0),
  (4, .iload_n 0, 1, .null, [], z_g0),
  (5, .ifCond .lt 18, 3, .null, [23], z_g0),
  (8, .iload_n 0, 1, .null, [], z_g0),
  (9, .i2l, 1, .null, [], z_g0),
  (10, .iload_n 1, 1, .null, [], z_g0),
  (11, .i2l, 1, .null, [], z_g0),
  (12, .ladd, 1, .null, [], z_g0),
  (13, .iload_n 2, 1, .null, [], z_g0),
  (14, .i2l, 1, .null, [], z_g0),
  (15, .lcmp, 1, .null, [], z_g0),
  (16, .ifCond .gt 7, 3, .null, [23], z_g0),
  (19, .iconst 1, 1, .int ((1 : Int32)), [], z_g0),
  (20, .goto 4, 3, .null, [24], z_g0),
  (23, .iconst 0, 1, .int ((0 : Int32)), [], z_g0),
  (24, .ireturn, 1, .null, [], z_g0)]
set_option maxRecDepth 100000 in
theorem r_X12_isSpan (v0 : Int32) (v1 : Int32) (v2 : Int32) (S : z_St) : z_seg z_rZ (c_X12_isSpan) [] (fun pc => fun _ _ _ => none) 20 (c_X12_isSpan) [(0, .int v0), (1, .int v1), (2, .int v2)] [] S = b_X12_isSpan v0 v1 v2 S := rfl
def l_X12_shift_143 : Nat → Nat → Int32 → Int32 → Int32 → Int32 → z_St → Option (Int32 × z_St)
  | 0 => fun _ _ _ _ _ _ => none
  | n + 1 => fun (v0 : Nat) (v3 : Int32) (v4 : Int32) (v5 : Int32) (v6 : Int32) (S : z_St) =>
if v5 ≤ v6 then
(some ((1 : Int32), S))
else
(z_chk S v0 13 (
z_chk S v0 13 (
z_onV (va_rf (z_r S v0 7)) fun b20 =>
z_inb S b20 102 v6 (
z_onV (va_rf (z_r S v0 6)) fun b21 =>
z_inb S b21 102 (((((64 : Int32)) * v3) + v4) + v6) (
let S22 := z_wl S b21 (((((64 : Int32)) * v3) + v4) + v6).toNatClampNeg ((z_l S b20 v6.toNatClampNeg))
let x23 := v6 + (1 : Int32)
l_X12_shift_143 n v0 v3 v4 v5 x23 S22)))))
def l_X12_shift_106 : Nat → Nat → Int32 → Int32 → Int32 → Int32 → Int32 → Int32 → z_St → Option (Int32 × z_St)
  | 0 => fun _ _ _ _ _ _ _ _ => none
  | n + 1 => fun (v0 : Nat) (v1 : Int32) (v2 : Int32) (v3 : Int32) (v4 : Int32) (v5 : Int32) (v6 : Int32) (S : z_St) =>
if v5 ≤ v6 then
(l_X12_shift_143 z_N v0 v3 v4 v5 ((0 : Int32)) S)
else
(z_chk S v0 13 (
z_chk S v0 13 (
z_onV (va_rf (z_r S v0 6)) fun b16 =>
z_inb S b16 102 (((((64 : Int32)) * v1) + v2) + v6) (
z_onV (va_rf (z_r S v0 7)) fun b17 =>
z_inb S b17 102 v6 (
let S18 := z_wl S b17 v6.toNatClampNeg ((z_l S b16 (((((64 : Int32)) * v1) + v2) + v6).toNatClampNeg))
let x19 := v6 + (1 : Int32)
l_X12_shift_106 n v0 v1 v2 v3 v4 v5 x19 S18)))))
def b_X12_shift (v0 : Nat) (v1 : Int32) (v2 : Int32) (v3 : Int32) (v4 : Int32) (v5 : Int32) (S : z_St) : Option (Int32 × z_St) :=
z_chk S v0 13 (
let S1 := z_wi S v0 0 ((0 : Int32))
z_chk S1 v0 13 (
(f_X12_noRow v0 v1 S1).bind fun q2 =>
if q2.1 = 0 then
(z_chk q2.2 v0 13 (
(f_X12_noRow v0 v3 q2.2).bind fun q3 =>
if q3.1 = 0 then
(if v1 = ((-1 : Int32)) then
(z_chk q3.2 v0 13 (
(f_X12_fails v0 ((1 : Int32)) q3.2).bind fun q4 =>
some (q4.1, q4.2)))
else
(if v3 = ((-1 : Int32)) then
(z_chk q3.2 v0 13 (
(f_X12_fails v0 ((1 : Int32)) q3.2).bind fun q15 =>
some (q15.1, q15.2)))
else
(z_chk q3.2 v0 13 (
z_onV (va_rf (z_r q3.2 v0 4)) fun b5 =>
z_inb q3.2 b5 101 v1 (
z_chk q3.2 v0 13 (
z_onV (va_rf (z_r q3.2 v0 4)) fun b6 =>
z_inb q3.2 b6 101 v3 (
if ((z_i q3.2 b5 v1.toNatClampNeg)) = ((z_i q3.2 b6 v3.toNatClampNeg)) then
(z_chk q3.2 v0 13 (
z_onV (va_rf (z_r q3.2 v0 5)) fun b7 =>
z_inb q3.2 b7 101 v1 (
(f_X12_isSpan v2 v5 ((z_i q3.2 b7 v1.toNatClampNeg)) q3.2).bind fun q8 =>
if q8.1 = 0 then
(z_chk q8.2 v0 13 (
(f_X12_fails v0 ((2 : Int32)) q8.2).bind fun q9 =>
some (q9.1, q9.2)))
else
(z_chk q8.2 v0 13 (
z_onV (va_rf (z_r q8.2 v0 5)) fun b10 =>
z_inb q8.2 b10 101 v3 (
(f_X12_isSpan v4 v5 ((z_i q8.2 b10 v3.toNatClampNeg)) q8.2).bind fun q11 =>
if q11.1 = 0 then
(z_chk q11.2 v0 13 (
(f_X12_fails v0 ((2 : Int32)) q11.2).bind fun q13 =>
some (q13.1, q13.2)))
else
(z_chk q11.2 v0 13 (
(f_X12_well v0 q11.2).bind fun q12 =>
l_X12_shift_106 z_N v0 v1 v2 v3 v4 v5 ((0 : Int32)) q12))))))))
else
(z_chk q3.2 v0 13 (
(f_X12_fails v0 ((5 : Int32)) q3.2).bind fun q14 =>
some (q14.1, q14.2))))))))))
else
(some ((-2000000001 : Int32), q3.2))))
else
(some ((-2000000001 : Int32), q2.2))))
def f_X12_shift : Nat → Int32 → Int32 → Int32 → Int32 → Int32 → z_St → Option (Int32 × z_St) := z_op (b_X12_shift)
theorem e_X12_shift (v0 : Nat) (v1 : Int32) (v2 : Int32) (v3 : Int32) (v4 : Int32) (v5 : Int32) (S : z_St) : f_X12_shift v0 v1 v2 v3 v4 v5 S = b_X12_shift v0 v1 v2 v3 v4 v5 S := congrFun (congrFun (congrFun (congrFun (congrFun (congrFun (congrFun (z_op_eq (b_X12_shift)) v0) v1) v2) v3) v4) v5) S
def g_X12_shift : z_G := .inl (fun as S => match as with
  | [.ref v0, .int v1, .int v2, .int v3, .int v4, .int v5] => f_X12_shift v0 v1 v2 v3 v4 v5 S
  | _ => none)
def c_X12_shift : List z_E := [
  (0, .aload_n 0, 1, .null, [], z_g0),
  (1, .iconst 0, 1, .int ((0 : Int32)), [], z_g0),
  (2, .putfield 224, 3, .null, [13, 0, 0], z_g0),
  (5, .aload_n 0, 1, .null, [], z_g0),
  (6, .iload_n 1, 1, .null, [], z_g0),
  (7, .invokevirtual 293, 3, .null, [1, 13, 0], g_X12_noRow),
  (10, .ifCond .ne 11, 3, .null, [21], z_g0),
  (13, .aload_n 0, 1, .null, [], z_g0),
  (14, .iload_n 3, 1, .null, [], z_g0),
  (15, .invokevirtual 293, 3, .null, [1, 13, 0], g_X12_noRow),
  (18, .ifCond .eq 7, 3, .null, [25], z_g0),
  (21, .ldc_w 296, 3, .int (-2000000001 : Int32), [], z_g0),
  (24, .ireturn, 1, .null, [], z_g0),
  (25, .iload_n 1, 1, .null, [], z_g0),
  (26, .iconst (-1), 1, .int ((-1 : Int32)), [], z_g0),
  (27, .if_icmp .eq 8, 3, .null, [35], z_g0),
  (30, .iload_n 3, 1, .null, [], z_g0),
  (31, .iconst (-1), 1, .int ((-1 : Int32)), [], z_g0),
  (32, .if_icmp .ne 9, 3, .null, [41], z_g0),
  (35, .aload_n 0, 1, .null, [], z_g0),
  (36, .iconst 1, 1, .int ((1 : Int32)), [], z_g0),
  (37, .invokevirtual 282, 3, .null, [1, 13, 0], g_X12_fails),
  (40, .ireturn, 1, .null, [], z_g0),
  (41, .aload_n 0, 1, .null, [], z_g0),
  (42, .getfield 7, 3, .null, [13, 4, 3], z_g0),
  (45, .iload_n 1, 1, .null, [], z_g0),
  (46, .iaload, 1, .null, [101], z_g0),
  (47, .aload_n 0, 1, .null, [], z_g0),
  (48, .getfield 7, 3, .null, [13, 4, 3], z_g0),
  (51, .iload_n 3, 1, .null, [], z_g0),
  (52, .iaload, 1, .null, [101], z_g0),
  (53, .if_icmp .eq 9, 3, .null, [62], z_g0),
  (56, .aload_n 0, 1, .null, [], z_g0),
  (57, .iconst 5, 1, .int ((5 : Int32)), [], z_g0),
  (58, .invokevirtual 282, 3, .null, [1, 13, 0], g_X12_fails),
  (61, .ireturn, 1, .null, [], z_g0),
  (62, .iload_n 2, 1, .null, [], z_g0),
  (63, .iload 5, 2, .null, [], z_g0),
  (65, .aload_n 0, 1, .null, [], z_g0),
  (66, .getfield 13, 3, .null, [13, 5, 3], z_g0),
  (69, .iload_n 1, 1, .null, [], z_g0),
  (70, .iaload, 1, .null, [101], z_g0),
  (71, .invokestatic 315, 3, .null, [0, 0, 0, 0], g_X12_isSpan),
  (74, .ifCond .eq 19, 3, .null, [93], z_g0),
  (77, .iload 4, 2, .null, [], z_g0),
  (79, .iload 5, 2, .null, [], z_g0),
  (81, .aload_n 0, 1, .null, [], z_g0),
  (82, .getfield 13, 3, .null, [13, 5, 3], z_g0),
  (85, .iload_n 3, 1, .null, [], z_g0),
  (86, .iaload, 1, .null, [101], z_g0),
  (87, .invokestatic 315, 3, .null, [0, 0, 0, 0], g_X12_isSpan),
  (90, .ifCond .ne 9, 3, .null, [99], z_g0),
  (93, .aload_n 0, 1, .null, [], z_g0),
  (94, .iconst 2, 1, .int ((2 : Int32)), [], z_g0),
  (95, .invokevirtual 282, 3, .null, [1, 13, 0], g_X12_fails),
  (98, .ireturn, 1, .null, [], z_g0),
  (99, .aload_n 0, 1, .null, [], z_g0),
  (100, .invokevirtual 286, 3, .null, [1, 13], g_X12_well),
  (103, .iconst 0, 1, .int ((0 : Int32)), [], z_g0),
  (104, .istore 6, 2, .null, [], z_g0),
  (106, .iload 6, 2, .null, [], z_g0),
  (108, .iload 5, 2, .null, [], z_g0),
  (110, .if_icmp .ge 30, 3, .null, [140], z_g0),
  (113, .aload_n 0, 1, .null, [], z_g0),
  (114, .getfield 20, 3, .null, [13, 7, 3], z_g0),
  (117, .iload 6, 2, .null, [], z_g0),
  (119, .aload_n 0, 1, .null, [], z_g0),
  (120, .getfield 16, 3, .null, [13, 6, 3], z_g0),
  (123, .bipush 64, 2, .int ((64 : Int32)), [], z_g0),
  (125, .iload_n 1, 1, .null, [], z_g0),
  (126, .imul, 1, .null, [], z_g0),
  (127, .iload_n 2, 1, .null, [], z_g0),
  (128, .iadd, 1, .null, [], z_g0),
  (129, .iload 6, 2, .null, [], z_g0),
  (131, .iadd, 1, .null, [], z_g0),
  (132, .laload, 1, .null, [], z_g0),
  (133, .lastore, 1, .null, [], z_g0),
  (134, .iinc 6 1, 3, .int (1 : Int32), [], z_g0),
  (137, .goto (-31), 3, .null, [106], z_g0),
  (140, .iconst 0, 1, .int ((0 : Int32)), [], z_g0),
  (141, .istore 6, 2, .null, [], z_g0),
  (143, .iload 6, 2, .null, [], z_g0),
  (145, .iload 5, 2, .null, [], z_g0),
  (147, .if_icmp .ge 31, 3, .null, [178], z_g0),
  (150, .aload_n 0, 1, .null, [], z_g0),
  (151, .getfield 16, 3, .null, [13, 6, 3], z_g0),
  (154, .bipush 64, 2, .int ((64 : Int32)), [], z_g0),
  (156, .iload_n 3, 1, .null, [], z_g0),
  (157, .imul, 1, .null, [], z_g0),
  (158, .iload 4, 2, .null, [], z_g0),
  (160, .iadd, 1, .null, [], z_g0),
  (161, .iload 6, 2, .null, [], z_g0),
  (163, .iadd, 1, .null, [], z_g0),
  (164, .aload_n 0, 1, .null, [], z_g0),
  (165, .getfield 20, 3, .null, [13, 7, 3], z_g0),
  (168, .iload 6, 2, .null, [], z_g0),
  (170, .laload, 1, .null, [], z_g0),
  (171, .lastore, 1, .null, [], z_g0),
  (172, .iinc 6 1, 3, .int (1 : Int32), [], z_g0),
  (175, .goto (-32), 3, .null, [143], z_g0),
  (178, .iconst 1, 1, .int ((1 : Int32)), [], z_g0),
  (179, .ireturn, 1, .null, [], z_g0)]
def a_X12_shift_106 {ρ : Type} (k : Nat → Int32 → Int32 → Int32 → Int32 → Int32 → Int32 → z_St → Option ρ) (ls : z_Lv) (st : List Value) (S : z_St) : Option ρ := z_gR ls 0 fun v0 => z_gI ls 1 fun v1 => z_gI ls 2 fun v2 => z_gI ls 3 fun v3 => z_gI ls 4 fun v4 => z_gI ls 5 fun v5 => z_gI ls 6 fun v6 => z_p0 st (k v0 v1 v2 v3 v4 v5 v6 S)
def a_X12_shift_143 {ρ : Type} (k : Nat → Int32 → Int32 → Int32 → Int32 → z_St → Option ρ) (ls : z_Lv) (st : List Value) (S : z_St) : Option ρ := z_gR ls 0 fun v0 => z_gI ls 3 fun v3 => z_gI ls 4 fun v4 => z_gI ls 5 fun v5 => z_gI ls 6 fun v6 => z_p0 st (k v0 v3 v4 v5 v6 S)
set_option maxRecDepth 100000 in
theorem r_X12_shift_143 (n : Nat) (v0 : Nat) (v3 : Int32) (v4 : Int32) (v5 : Int32) (v6 : Int32) (S : z_St) : z_seg z_rI (c_X12_shift) [106, 143] (fun pc => cond (Nat.beq pc 143) (a_X12_shift_143 (l_X12_shift_143 n)) (fun _ _ _ => none)) 105 (z_to 143 (c_X12_shift)) [(0, .ref v0), (3, .int v3), (4, .int v4), (5, .int v5), (6, .int v6)] [] S = l_X12_shift_143 (n + 1) v0 v3 v4 v5 v6 S := rfl
set_option maxRecDepth 100000 in
theorem r_X12_shift_106 (n : Nat) (v0 : Nat) (v1 : Int32) (v2 : Int32) (v3 : Int32) (v4 : Int32) (v5 : Int32) (v6 : Int32) (S : z_St) : z_seg z_rI (c_X12_shift) [106, 143] (fun pc => cond (Nat.beq pc 106) (a_X12_shift_106 (l_X12_shift_106 n)) (cond (Nat.beq pc 143) (a_X12_shift_143 (l_X12_shift_143 z_N)) (fun _ _ _ => none))) 105 (z_to 106 (c_X12_shift)) [(0, .ref v0), (1, .int v1), (2, .int v2), (3, .int v3), (4, .int v4), (5, .int v5), (6, .int v6)] [] S = l_X12_shift_106 (n + 1) v0 v1 v2 v3 v4 v5 v6 S := rfl
set_option maxRecDepth 100000 in
theorem r_X12_shift (v0 : Nat) (v1 : Int32) (v2 : Int32) (v3 : Int32) (v4 : Int32) (v5 : Int32) (S : z_St) : z_seg z_rI (c_X12_shift) [106, 143] (fun pc => cond (Nat.beq pc 106) (a_X12_shift_106 (l_X12_shift_106 z_N)) (fun _ _ _ => none)) 105 (c_X12_shift) [(0, .ref v0), (1, .int v1), (2, .int v2), (3, .int v3), (4, .int v4), (5, .int v5)] [] S = b_X12_shift v0 v1 v2 v3 v4 v5 S := rfl
def l_X12_like_85 : Nat → Nat → Int32 → Int32 → Int32 → Int32 → z_St → Option (Int32 × z_St)
  | 0 => fun _ _ _ _ _ _ => none
  | n + 1 => fun (v0 : Nat) (v1 : Int32) (v2 : Int32) (v3 : Int32) (v4 : Int32) (S : z_St) =>
z_chk S v0 13 (
z_onV (va_rf (z_r S v0 5)) fun b8 =>
z_inb S b8 101 v1 (
if ((z_i S b8 v1.toNatClampNeg)) ≤ v4 then
(if v3 = 0 then
(some ((0 : Int32), S))
else
(some ((1 : Int32), S)))
else
(if v3 = 0 then
(if v3 = 0 then
(some ((0 : Int32), S))
else
(some ((1 : Int32), S)))
else
(z_chk S v0 13 (
z_onV (va_rf (z_r S v0 6)) fun b9 =>
z_inb S b9 102 ((((64 : Int32)) * v1) + v4) (
z_chk S v0 13 (
z_onV (va_rf (z_r S v0 6)) fun b10 =>
z_inb S b10 102 ((((64 : Int32)) * v2) + v4) (
if (lg_cmp ((z_l S b9 ((((64 : Int32)) * v1) + v4).toNatClampNeg)) ((z_l S b10 ((((64 : Int32)) * v2) + v4).toNatClampNeg))) = 0 then
(let x12 := v4 + (1 : Int32)
l_X12_like_85 n v0 v1 v2 ((1 : Int32)) x12 S)
else
(let x11 := v4 + (1 : Int32)
l_X12_like_85 n v0 v1 v2 ((0 : Int32)) x11 S)))))))))
def j_X12_like_35 (v1 : Int32) (v2 : Int32) (S : z_St) : Option (Int32 × z_St) :=
if v1 = v2 then
(some ((1 : Int32), S))
else
(some ((0 : Int32), S))
def b_X12_like (v0 : Nat) (v1 : Int32) (v2 : Int32) (S : z_St) : Option (Int32 × z_St) :=
z_chk S v0 13 (
let S1 := z_wi S v0 0 ((0 : Int32))
z_chk S1 v0 13 (
(f_X12_noRow v0 v1 S1).bind fun q2 =>
if q2.1 = 0 then
(z_chk q2.2 v0 13 (
(f_X12_noRow v0 v2 q2.2).bind fun q3 =>
if q3.1 = 0 then
(if v1 = ((-1 : Int32)) then
(j_X12_like_35 v1 v2 q3.2)
else
(if v2 = ((-1 : Int32)) then
(j_X12_like_35 v1 v2 q3.2)
else
(z_chk q3.2 v0 13 (
z_onV (va_rf (z_r q3.2 v0 4)) fun b4 =>
z_inb q3.2 b4 101 v1 (
z_chk q3.2 v0 13 (
z_onV (va_rf (z_r q3.2 v0 4)) fun b5 =>
z_inb q3.2 b5 101 v2 (
if ((z_i q3.2 b4 v1.toNatClampNeg)) = ((z_i q3.2 b5 v2.toNatClampNeg)) then
(z_chk q3.2 v0 13 (
z_onV (va_rf (z_r q3.2 v0 5)) fun b6 =>
z_inb q3.2 b6 101 v1 (
z_chk q3.2 v0 13 (
z_onV (va_rf (z_r q3.2 v0 5)) fun b7 =>
z_inb q3.2 b7 101 v2 (
if ((z_i q3.2 b6 v1.toNatClampNeg)) = ((z_i q3.2 b7 v2.toNatClampNeg)) then
(l_X12_like_85 z_N v0 v1 v2 ((1 : Int32)) ((0 : Int32)) q3.2)
else
(l_X12_like_85 z_N v0 v1 v2 ((0 : Int32)) ((0 : Int32)) q3.2))))))
else
(l_X12_like_85 z_N v0 v1 v2 ((0 : Int32)) ((0 : Int32)) q3.2))))))))
else
(some ((-2000000001 : Int32), q3.2))))
else
(some ((-2000000001 : Int32), q2.2))))
def f_X12_like : Nat → Int32 → Int32 → z_St → Option (Int32 × z_St) := z_op (b_X12_like)
theorem e_X12_like (v0 : Nat) (v1 : Int32) (v2 : Int32) (S : z_St) : f_X12_like v0 v1 v2 S = b_X12_like v0 v1 v2 S := congrFun (congrFun (congrFun (congrFun (z_op_eq (b_X12_like)) v0) v1) v2) S
def g_X12_like : z_G := .inl (fun as S => match as with
  | [.ref v0, .int v1, .int v2] => f_X12_like v0 v1 v2 S
  | _ => none)
def c_X12_like : List z_E := [
  (0, .aload_n 0, 1, .null, [], z_g0),
  (1, .iconst 0, 1, .int ((0 : Int32)), [], z_g0),
  (2, .putfield 224, 3, .null, [13, 0, 0], z_g0),
  (5, .aload_n 0, 1, .null, [], z_g0),
  (6, .iload_n 1, 1, .null, [], z_g0),
  (7, .invokevirtual 293, 3, .null, [1, 13, 0], g_X12_noRow),
  (10, .ifCond .ne 11, 3, .null, [21], z_g0),
  (13, .aload_n 0, 1, .null, [], z_g0),
  (14, .iload_n 2, 1, .null, [], z_g0),
  (15, .invokevirtual 293, 3, .null, [1, 13, 0], g_X12_noRow),
  (18, .ifCond .eq 7, 3, .null, [25], z_g0),
  (21, .ldc_w 296, 3, .int (-2000000001 : Int32), [], z_g0),
  (24, .ireturn, 1, .null, [], z_g0),
  (25, .iload_n 1, 1, .null, [], z_g0),
  (26, .iconst (-1), 1, .int ((-1 : Int32)), [], z_g0),
  (27, .if_icmp .eq 8, 3, .null, [35], z_g0),
  (30, .iload_n 2, 1, .null, [], z_g0),
  (31, .iconst (-1), 1, .int ((-1 : Int32)), [], z_g0),
  (32, .if_icmp .ne 14, 3, .null, [46], z_g0),
  (35, .iload_n 1, 1, .null, [], z_g0),
  (36, .iload_n 2, 1, .null, [], z_g0),
  (37, .if_icmp .ne 7, 3, .null, [44], z_g0),
  (40, .iconst 1, 1, .int ((1 : Int32)), [], z_g0),
  (41, .goto 4, 3, .null, [45], z_g0),
  (44, .iconst 0, 1, .int ((0 : Int32)), [], z_g0),
  (45, .ireturn, 1, .null, [], z_g0),
  (46, .aload_n 0, 1, .null, [], z_g0),
  (47, .getfield 7, 3, .null, [13, 4, 3], z_g0),
  (50, .iload_n 1, 1, .null, [], z_g0),
  (51, .iaload, 1, .null, [101], z_g0),
  (52, .aload_n 0, 1, .null, [], z_g0),
  (53, .getfield 7, 3, .null, [13, 4, 3], z_g0),
  (56, .iload_n 2, 1, .null, [], z_g0),
  (57, .iaload, 1, .null, [101], z_g0),
  (58, .if_icmp .ne 22, 3, .null, [80], z_g0),
  (61, .aload_n 0, 1, .null, [], z_g0),
  (62, .getfield 13, 3, .null, [13, 5, 3], z_g0),
  (65, .iload_n 1, 1, .null, [], z_g0),
  (66, .iaload, 1, .null, [101], z_g0),
  (67, .aload_n 0, 1, .null, [], z_g0),
  (68, .getfield 13, 3, .null, [13, 5, 3], z_g0),
  (71, .iload_n 2, 1, .null, [], z_g0),
  (72, .iaload, 1, .null, [101], z_g0),
  (73, .if_icmp .ne 7, 3, .null, [80], z_g0),
  (76, .iconst 1, 1, .int ((1 : Int32)), [], z_g0),
  (77, .goto 4, 3, .null, [81], z_g0),
  (80, .iconst 0, 1, .int ((0 : Int32)), [], z_g0),
  (81, .istore_n 3, 1, .null, [], z_g0),
  (82, .iconst 0, 1, .int ((0 : Int32)), [], z_g0),
  (83, .istore 4, 2, .null, [], z_g0),
  (85, .iload 4, 2, .null, [], z_g0),
  (87, .aload_n 0, 1, .null, [], z_g0),
  (88, .getfield 13, 3, .null, [13, 5, 3], z_g0),
  (91, .iload_n 1, 1, .null, [], z_g0),
  (92, .iaload, 1, .null, [101], z_g0),
  (93, .if_icmp .ge 47, 3, .null, [140], z_g0),
  (96, .iload_n 3, 1, .null, [], z_g0),
  (97, .ifCond .eq 43, 3, .null, [140], z_g0),
  (100, .aload_n 0, 1, .null, [], z_g0),
  (101, .getfield 16, 3, .null, [13, 6, 3], z_g0),
  (104, .bipush 64, 2, .int ((64 : Int32)), [], z_g0),
  (106, .iload_n 1, 1, .null, [], z_g0),
  (107, .imul, 1, .null, [], z_g0),
  (108, .iload 4, 2, .null, [], z_g0),
  (110, .iadd, 1, .null, [], z_g0),
  (111, .laload, 1, .null, [], z_g0),
  (112, .aload_n 0, 1, .null, [], z_g0),
  (113, .getfield 16, 3, .null, [13, 6, 3], z_g0),
  (116, .bipush 64, 2, .int ((64 : Int32)), [], z_g0),
  (118, .iload_n 2, 1, .null, [], z_g0),
  (119, .imul, 1, .null, [], z_g0),
  (120, .iload 4, 2, .null, [], z_g0),
  (122, .iadd, 1, .null, [], z_g0),
  (123, .laload, 1, .null, [], z_g0),
  (124, .lcmp, 1, .null, [], z_g0),
  (125, .ifCond .ne 7, 3, .null, [132], z_g0),
  (128, .iconst 1, 1, .int ((1 : Int32)), [], z_g0),
  (129, .goto 4, 3, .null, [133], z_g0),
  (132, .iconst 0, 1, .int ((0 : Int32)), [], z_g0),
  (133, .istore_n 3, 1, .null, [], z_g0),
  (134, .iinc 4 1, 3, .int (1 : Int32), [], z_g0),
  (137, .goto (-52), 3, .null, [85], z_g0),
  (140, .iload_n 3, 1, .null, [], z_g0),
  (141, .ifCond .eq 7, 3, .null, [148], z_g0),
  (144, .iconst 1, 1, .int ((1 : Int32)), [], z_g0),
  (145, .goto 4, 3, .null, [149], z_g0),
  (148, .iconst 0, 1, .int ((0 : Int32)), [], z_g0),
  (149, .ireturn, 1, .null, [], z_g0)]
def a_X12_like_35 {ρ : Type} (k : Int32 → Int32 → z_St → Option ρ) (ls : z_Lv) (st : List Value) (S : z_St) : Option ρ := z_gI ls 1 fun v1 => z_gI ls 2 fun v2 => z_p0 st (k v1 v2 S)
def a_X12_like_85 {ρ : Type} (k : Nat → Int32 → Int32 → Int32 → Int32 → z_St → Option ρ) (ls : z_Lv) (st : List Value) (S : z_St) : Option ρ := z_gR ls 0 fun v0 => z_gI ls 1 fun v1 => z_gI ls 2 fun v2 => z_gI ls 3 fun v3 => z_gI ls 4 fun v4 => z_p0 st (k v0 v1 v2 v3 v4 S)
set_option maxRecDepth 100000 in
theorem r_X12_like_85 (n : Nat) (v0 : Nat) (v1 : Int32) (v2 : Int32) (v3 : Int32) (v4 : Int32) (S : z_St) : z_seg z_rI (c_X12_like) [35, 85] (fun pc => cond (Nat.beq pc 85) (a_X12_like_85 (l_X12_like_85 n)) (fun _ _ _ => none)) 91 (z_to 85 (c_X12_like)) [(0, .ref v0), (1, .int v1), (2, .int v2), (3, .int v3), (4, .int v4)] [] S = l_X12_like_85 (n + 1) v0 v1 v2 v3 v4 S := rfl
set_option maxRecDepth 100000 in
theorem r_X12_like_35 (v1 : Int32) (v2 : Int32) (S : z_St) : z_seg z_rI (c_X12_like) [35, 85] (fun pc => fun _ _ _ => none) 91 (z_to 35 (c_X12_like)) [(1, .int v1), (2, .int v2)] [] S = j_X12_like_35 v1 v2 S := rfl
set_option maxRecDepth 100000 in
theorem r_X12_like (v0 : Nat) (v1 : Int32) (v2 : Int32) (S : z_St) : z_seg z_rI (c_X12_like) [35, 85] (fun pc => cond (Nat.beq pc 35) (a_X12_like_35 (j_X12_like_35)) (cond (Nat.beq pc 85) (a_X12_like_85 (l_X12_like_85 z_N)) (fun _ _ _ => none))) 91 (c_X12_like) [(0, .ref v0), (1, .int v1), (2, .int v2)] [] S = b_X12_like v0 v1 v2 S := rfl
def l_X12_count_53 : Nat → Nat → Int32 → Int32 → Int32 → Int32 → z_St → Option (Int32 × z_St)
  | 0 => fun _ _ _ _ _ _ => none
  | n + 1 => fun (v0 : Nat) (v1 : Int32) (v2 : Int32) (v3 : Int32) (v4 : Int32) (S : z_St) =>
z_chk S v0 13 (
z_onV (va_rf (z_r S v0 5)) fun b6 =>
z_inb S b6 101 v1 (
if ((z_i S b6 v1.toNatClampNeg)) ≤ v4 then
(if v2 = 0 then
(z_chk S v0 13 (
z_onV (va_rf (z_r S v0 5)) fun b8 =>
z_inb S b8 101 v1 (
some ((z_i S b8 v1.toNatClampNeg), S))))
else
(if v2 = ((1 : Int32)) then
(z_chk S v0 13 (
z_onV (va_rf (z_r S v0 4)) fun b7 =>
z_inb S b7 101 v1 (
some ((z_i S b7 v1.toNatClampNeg), S))))
else
(some (v3, S))))
else
(z_chk S v0 13 (
z_onV (va_rf (z_r S v0 4)) fun b9 =>
z_inb S b9 101 v1 (
z_chk S v0 13 (
z_onV (va_rf (z_r S v0 6)) fun b10 =>
z_inb S b10 102 ((((64 : Int32)) * v1) + v4) (
(f_X12_wholeOf ((z_i S b9 v1.toNatClampNeg)) ((z_l S b10 ((((64 : Int32)) * v1) + v4).toNatClampNeg)) S).bind fun q11 =>
if (lg_cmp q11.1 ((0 : Int64))) = 0 then
(let x12 := v3 + ((0 : Int32))
let x13 := v4 + (1 : Int32)
l_X12_count_53 n v0 v1 v2 x12 x13 q11.2)
else
(let x14 := v3 + ((1 : Int32))
let x15 := v4 + (1 : Int32)
l_X12_count_53 n v0 v1 v2 x14 x15 q11.2))))))))
def b_X12_count (v0 : Nat) (v1 : Int32) (v2 : Int32) (S : z_St) : Option (Int32 × z_St) :=
z_chk S v0 13 (
let S1 := z_wi S v0 0 ((0 : Int32))
z_chk S1 v0 13 (
(f_X12_noRow v0 v1 S1).bind fun q2 =>
if q2.1 = 0 then
((f_X12_in v2.toInt64 ((0 : Int64)) ((2 : Int64)) q2.2).bind fun q3 =>
if q3.1 = 0 then
(some ((-2000000002 : Int32), q3.2))
else
(if v1 = ((-1 : Int32)) then
(z_chk q3.2 v0 13 (
(f_X12_fails v0 ((1 : Int32)) q3.2).bind fun q5 =>
some (q5.1, q5.2)))
else
(z_chk q3.2 v0 13 (
(f_X12_well v0 q3.2).bind fun q4 =>
l_X12_count_53 z_N v0 v1 v2 ((0 : Int32)) ((0 : Int32)) q4))))
else
(some ((-2000000001 : Int32), q2.2))))
def f_X12_count : Nat → Int32 → Int32 → z_St → Option (Int32 × z_St) := z_op (b_X12_count)
theorem e_X12_count (v0 : Nat) (v1 : Int32) (v2 : Int32) (S : z_St) : f_X12_count v0 v1 v2 S = b_X12_count v0 v1 v2 S := congrFun (congrFun (congrFun (congrFun (z_op_eq (b_X12_count)) v0) v1) v2) S
def g_X12_count : z_G := .inl (fun as S => match as with
  | [.ref v0, .int v1, .int v2] => f_X12_count v0 v1 v2 S
  | _ => none)
def c_X12_count : List z_E := [
  (0, .aload_n 0, 1, .null, [], z_g0),
  (1, .iconst 0, 1, .int ((0 : Int32)), [], z_g0),
  (2, .putfield 224, 3, .null, [13, 0, 0], z_g0),
  (5, .aload_n 0, 1, .null, [], z_g0),
  (6, .iload_n 1, 1, .null, [], z_g0),
  (7, .invokevirtual 293, 3, .null, [1, 13, 0], g_X12_noRow),
  (10, .ifCond .eq 7, 3, .null, [17], z_g0),
  (13, .ldc_w 296, 3, .int (-2000000001 : Int32), [], z_g0),
  (16, .ireturn, 1, .null, [], z_g0),
  (17, .iload_n 2, 1, .null, [], z_g0),
  (18, .i2l, 1, .null, [], z_g0),
  (19, .lconst 0, 1, .long (0 : Int64), [], z_g0),
  (20, .ldc2_w 265, 3, .long (2 : Int64), [], z_g0),
  (23, .invokestatic 274, 3, .null, [0, 0, 0, 0], g_X12_in),
  (26, .ifCond .ne 7, 3, .null, [33], z_g0),
  (29, .ldc_w 280, 3, .int (-2000000002 : Int32), [], z_g0),
  (32, .ireturn, 1, .null, [], z_g0),
  (33, .iload_n 1, 1, .null, [], z_g0),
  (34, .iconst (-1), 1, .int ((-1 : Int32)), [], z_g0),
  (35, .if_icmp .ne 9, 3, .null, [44], z_g0),
  (38, .aload_n 0, 1, .null, [], z_g0),
  (39, .iconst 1, 1, .int ((1 : Int32)), [], z_g0),
  (40, .invokevirtual 282, 3, .null, [1, 13, 0], g_X12_fails),
  (43, .ireturn, 1, .null, [], z_g0),
  (44, .aload_n 0, 1, .null, [], z_g0),
  (45, .invokevirtual 286, 3, .null, [1, 13], g_X12_well),
  (48, .iconst 0, 1, .int ((0 : Int32)), [], z_g0),
  (49, .istore_n 3, 1, .null, [], z_g0),
  (50, .iconst 0, 1, .int ((0 : Int32)), [], z_g0),
  (51, .istore 4, 2, .null, [], z_g0),
  (53, .iload 4, 2, .null, [], z_g0),
  (55, .aload_n 0, 1, .null, [], z_g0),
  (56, .getfield 13, 3, .null, [13, 5, 3], z_g0),
  (59, .iload_n 1, 1, .null, [], z_g0),
  (60, .iaload, 1, .null, [101], z_g0),
  (61, .if_icmp .ge 43, 3, .null, [104], z_g0),
  (64, .iload_n 3, 1, .null, [], z_g0),
  (65, .aload_n 0, 1, .null, [], z_g0),
  (66, .getfield 7, 3, .null, [13, 4, 3], z_g0),
  (69, .iload_n 1, 1, .null, [], z_g0),
  (70, .iaload, 1, .null, [101], z_g0),
  (71, .aload_n 0, 1, .null, [], z_g0),
  (72, .getfield 16, 3, .null, [13, 6, 3], z_g0),
  (75, .bipush 64, 2, .int ((64 : Int32)), [], z_g0),
  (77, .iload_n 1, 1, .null, [], z_g0),
  (78, .imul, 1, .null, [], z_g0),
  (79, .iload 4, 2, .null, [], z_g0),
  (81, .iadd, 1, .null, [], z_g0),
  (82, .laload, 1, .null, [], z_g0),
  (83, .invokestatic 305, 3, .null, [0, 0, 0], g_X12_wholeOf),
  (86, .lconst 0, 1, .long (0 : Int64), [], z_g0),
  (87, .lcmp, 1, .null, [], z_g0),
  (88, .ifCond .eq 7, 3, .null, [95], z_g0),
  (91, .iconst 1, 1, .int ((1 : Int32)), [], z_g0),
  (92, .goto 4, 3, .null, [96], z_g0),
  (95, .iconst 0, 1, .int ((0 : Int32)), [], z_g0),
  (96, .iadd, 1, .null, [], z_g0),
  (97, .istore_n 3, 1, .null, [], z_g0),
  (98, .iinc 4 1, 3, .int (1 : Int32), [], z_g0),
  (101, .goto (-48), 3, .null, [53], z_g0),
  (104, .iload_n 2, 1, .null, [], z_g0),
  (105, .ifCond .ne 12, 3, .null, [117], z_g0),
  (108, .aload_n 0, 1, .null, [], z_g0),
  (109, .getfield 13, 3, .null, [13, 5, 3], z_g0),
  (112, .iload_n 1, 1, .null, [], z_g0),
  (113, .iaload, 1, .null, [101], z_g0),
  (114, .goto 18, 3, .null, [132], z_g0),
  (117, .iload_n 2, 1, .null, [], z_g0),
  (118, .iconst 1, 1, .int ((1 : Int32)), [], z_g0),
  (119, .if_icmp .ne 12, 3, .null, [131], z_g0),
  (122, .aload_n 0, 1, .null, [], z_g0),
  (123, .getfield 7, 3, .null, [13, 4, 3], z_g0),
  (126, .iload_n 1, 1, .null, [], z_g0),
  (127, .iaload, 1, .null, [101], z_g0),
  (128, .goto 4, 3, .null, [132], z_g0),
  (131, .iload_n 3, 1, .null, [], z_g0),
  (132, .ireturn, 1, .null, [], z_g0)]
def a_X12_count_53 {ρ : Type} (k : Nat → Int32 → Int32 → Int32 → Int32 → z_St → Option ρ) (ls : z_Lv) (st : List Value) (S : z_St) : Option ρ := z_gR ls 0 fun v0 => z_gI ls 1 fun v1 => z_gI ls 2 fun v2 => z_gI ls 3 fun v3 => z_gI ls 4 fun v4 => z_p0 st (k v0 v1 v2 v3 v4 S)
set_option maxRecDepth 100000 in
theorem r_X12_count_53 (n : Nat) (v0 : Nat) (v1 : Int32) (v2 : Int32) (v3 : Int32) (v4 : Int32) (S : z_St) : z_seg z_rI (c_X12_count) [53] (fun pc => cond (Nat.beq pc 53) (a_X12_count_53 (l_X12_count_53 n)) (fun _ _ _ => none)) 80 (z_to 53 (c_X12_count)) [(0, .ref v0), (1, .int v1), (2, .int v2), (3, .int v3), (4, .int v4)] [] S = l_X12_count_53 (n + 1) v0 v1 v2 v3 v4 S := rfl
set_option maxRecDepth 100000 in
theorem r_X12_count (v0 : Nat) (v1 : Int32) (v2 : Int32) (S : z_St) : z_seg z_rI (c_X12_count) [53] (fun pc => cond (Nat.beq pc 53) (a_X12_count_53 (l_X12_count_53 z_N)) (fun _ _ _ => none)) 80 (c_X12_count) [(0, .ref v0), (1, .int v1), (2, .int v2)] [] S = b_X12_count v0 v1 v2 S := rfl
def l_X12_find_38 : Nat → Nat → Int32 → Int64 → Int32 → Int32 → z_St → Option (Int32 × z_St)
  | 0 => fun _ _ _ _ _ _ => none
  | n + 1 => fun (v0 : Nat) (v1 : Int32) (v2 : Int64) (v4 : Int32) (v5 : Int32) (S : z_St) =>
z_chk S v0 13 (
z_onV (va_rf (z_r S v0 5)) fun b5 =>
z_inb S b5 101 v1 (
if ((z_i S b5 v1.toNatClampNeg)) ≤ v5 then
(some (v4, S))
else
(z_chk S v0 13 (
z_onV (va_rf (z_r S v0 4)) fun b6 =>
z_inb S b6 101 v1 (
z_chk S v0 13 (
z_onV (va_rf (z_r S v0 6)) fun b7 =>
z_inb S b7 102 ((((64 : Int32)) * v1) + v5) (
(f_X12_wholeOf ((z_i S b6 v1.toNatClampNeg)) ((z_l S b7 ((((64 : Int32)) * v1) + v5).toNatClampNeg)) S).bind fun q8 =>
if (lg_cmp q8.1 v2) = 0 then
(let x10 := v5 + (1 : Int32)
l_X12_find_38 n v0 v1 v2 v5 x10 q8.2)
else
(let x9 := v5 + (1 : Int32)
l_X12_find_38 n v0 v1 v2 v4 x9 q8.2))))))))
def b_X12_find (v0 : Nat) (v1 : Int32) (v2 : Int64) (S : z_St) : Option (Int32 × z_St) :=
z_chk S v0 13 (
let S1 := z_wi S v0 0 ((0 : Int32))
z_chk S1 v0 13 (
(f_X12_noRow v0 v1 S1).bind fun q2 =>
if q2.1 = 0 then
(if v1 = ((-1 : Int32)) then
(z_chk q2.2 v0 13 (
(f_X12_fails v0 ((1 : Int32)) q2.2).bind fun q4 =>
some (q4.1, q4.2)))
else
(z_chk q2.2 v0 13 (
(f_X12_well v0 q2.2).bind fun q3 =>
l_X12_find_38 z_N v0 v1 v2 ((-1 : Int32)) ((0 : Int32)) q3)))
else
(some ((-2000000001 : Int32), q2.2))))
def f_X12_find : Nat → Int32 → Int64 → z_St → Option (Int32 × z_St) := z_op (b_X12_find)
theorem e_X12_find (v0 : Nat) (v1 : Int32) (v2 : Int64) (S : z_St) : f_X12_find v0 v1 v2 S = b_X12_find v0 v1 v2 S := congrFun (congrFun (congrFun (congrFun (z_op_eq (b_X12_find)) v0) v1) v2) S
def g_X12_find : z_G := .inl (fun as S => match as with
  | [.ref v0, .int v1, .long v2] => f_X12_find v0 v1 v2 S
  | _ => none)
def c_X12_find : List z_E := [
  (0, .aload_n 0, 1, .null, [], z_g0),
  (1, .iconst 0, 1, .int ((0 : Int32)), [], z_g0),
  (2, .putfield 224, 3, .null, [13, 0, 0], z_g0),
  (5, .aload_n 0, 1, .null, [], z_g0),
  (6, .iload_n 1, 1, .null, [], z_g0),
  (7, .invokevirtual 293, 3, .null, [1, 13, 0], g_X12_noRow),
  (10, .ifCond .eq 7, 3, .null, [17], z_g0),
  (13, .ldc_w 296, 3, .int (-2000000001 : Int32), [], z_g0),
  (16, .ireturn, 1, .null, [], z_g0),
  (17, .iload_n 1, 1, .null, [], z_g0),
  (18, .iconst (-1), 1, .int ((-1 : Int32)), [], z_g0),
  (19, .if_icmp .ne 9, 3, .null, [28], z_g0),
  (22, .aload_n 0, 1, .null, [], z_g0),
  (23, .iconst 1, 1, .int ((1 : Int32)), [], z_g0),
  (24, .invokevirtual 282, 3, .null, [1, 13, 0], g_X12_fails),
  (27, .ireturn, 1, .null, [], z_g0),
  (28, .aload_n 0, 1, .null, [], z_g0),
  (29, .invokevirtual 286, 3, .null, [1, 13], g_X12_well),
  (32, .iconst (-1), 1, .int ((-1 : Int32)), [], z_g0),
  (33, .istore 4, 2, .null, [], z_g0),
  (35, .iconst 0, 1, .int ((0 : Int32)), [], z_g0),
  (36, .istore 5, 2, .null, [], z_g0),
  (38, .iload 5, 2, .null, [], z_g0),
  (40, .aload_n 0, 1, .null, [], z_g0),
  (41, .getfield 13, 3, .null, [13, 5, 3], z_g0),
  (44, .iload_n 1, 1, .null, [], z_g0),
  (45, .iaload, 1, .null, [101], z_g0),
  (46, .if_icmp .ge 44, 3, .null, [90], z_g0),
  (49, .aload_n 0, 1, .null, [], z_g0),
  (50, .getfield 7, 3, .null, [13, 4, 3], z_g0),
  (53, .iload_n 1, 1, .null, [], z_g0),
  (54, .iaload, 1, .null, [101], z_g0),
  (55, .aload_n 0, 1, .null, [], z_g0),
  (56, .getfield 16, 3, .null, [13, 6, 3], z_g0),
  (59, .bipush 64, 2, .int ((64 : Int32)), [], z_g0),
  (61, .iload_n 1, 1, .null, [], z_g0),
  (62, .imul, 1, .null, [], z_g0),
  (63, .iload 5, 2, .null, [], z_g0),
  (65, .iadd, 1, .null, [], z_g0),
  (66, .laload, 1, .null, [], z_g0),
  (67, .invokestatic 305, 3, .null, [0, 0, 0], g_X12_wholeOf),
  (70, .lload_n 2, 1, .null, [], z_g0),
  (71, .lcmp, 1, .null, [], z_g0),
  (72, .ifCond .ne 8, 3, .null, [80], z_g0),
  (75, .iload 5, 2, .null, [], z_g0),
  (77, .goto 5, 3, .null, [82], z_g0),
  (80, .iload 4, 2, .null, [], z_g0),
  (82, .istore 4, 2, .null, [], z_g0),
  (84, .iinc 5 1, 3, .int (1 : Int32), [], z_g0),
  (87, .goto (-49), 3, .null, [38], z_g0),
  (90, .iload 4, 2, .null, [], z_g0),
  (92, .ireturn, 1, .null, [], z_g0)]
def a_X12_find_38 {ρ : Type} (k : Nat → Int32 → Int64 → Int32 → Int32 → z_St → Option ρ) (ls : z_Lv) (st : List Value) (S : z_St) : Option ρ := z_gR ls 0 fun v0 => z_gI ls 1 fun v1 => z_gJ ls 2 fun v2 => z_gI ls 4 fun v4 => z_gI ls 5 fun v5 => z_p0 st (k v0 v1 v2 v4 v5 S)
set_option maxRecDepth 100000 in
theorem r_X12_find_38 (n : Nat) (v0 : Nat) (v1 : Int32) (v2 : Int64) (v4 : Int32) (v5 : Int32) (S : z_St) : z_seg z_rI (c_X12_find) [38] (fun pc => cond (Nat.beq pc 38) (a_X12_find_38 (l_X12_find_38 n)) (fun _ _ _ => none)) 55 (z_to 38 (c_X12_find)) [(0, .ref v0), (1, .int v1), (2, .long v2), (4, .int v4), (5, .int v5)] [] S = l_X12_find_38 (n + 1) v0 v1 v2 v4 v5 S := rfl
set_option maxRecDepth 100000 in
theorem r_X12_find (v0 : Nat) (v1 : Int32) (v2 : Int64) (S : z_St) : z_seg z_rI (c_X12_find) [38] (fun pc => cond (Nat.beq pc 38) (a_X12_find_38 (l_X12_find_38 z_N)) (fun _ _ _ => none)) 55 (c_X12_find) [(0, .ref v0), (1, .int v1), (2, .long v2)] [] S = b_X12_find v0 v1 v2 S := rfl
def l_X12_mean_55 : Nat → Nat → Int32 → Int64 → Int32 → z_St → Option (Int64 × z_St)
  | 0 => fun _ _ _ _ _ => none
  | n + 1 => fun (v0 : Nat) (v1 : Int32) (v2 : Int64) (v4 : Int32) (S : z_St) =>
z_chk S v0 13 (
z_onV (va_rf (z_r S v0 5)) fun b7 =>
z_inb S b7 101 v1 (
if ((z_i S b7 v1.toNatClampNeg)) ≤ v4 then
(z_chk S v0 13 (
z_onV (va_rf (z_r S v0 5)) fun b8 =>
z_inb S b8 101 v1 (
z_nzl (((z_i S b8 v1.toNatClampNeg)).toInt64) (
some (v2 / (((z_i S b8 v1.toNatClampNeg)).toInt64), S)))))
else
(z_chk S v0 13 (
z_onV (va_rf (z_r S v0 4)) fun b9 =>
z_inb S b9 101 v1 (
z_chk S v0 13 (
z_onV (va_rf (z_r S v0 6)) fun b10 =>
z_inb S b10 102 ((((64 : Int32)) * v1) + v4) (
(f_X12_wholeOf ((z_i S b9 v1.toNatClampNeg)) ((z_l S b10 ((((64 : Int32)) * v1) + v4).toNatClampNeg)) S).bind fun q11 =>
let x12 := v2 + q11.1
let x13 := v4 + (1 : Int32)
l_X12_mean_55 n v0 v1 x12 x13 q11.2)))))))
def b_X12_mean (v0 : Nat) (v1 : Int32) (S : z_St) : Option (Int64 × z_St) :=
z_chk S v0 13 (
let S1 := z_wi S v0 0 ((0 : Int32))
z_chk S1 v0 13 (
(f_X12_noRow v0 v1 S1).bind fun q2 =>
if q2.1 = 0 then
(if v1 = ((-1 : Int32)) then
(z_chk q2.2 v0 13 (
(f_X12_fails v0 ((1 : Int32)) q2.2).bind fun q6 =>
some (q6.1.toInt64, q6.2)))
else
(z_chk q2.2 v0 13 (
z_onV (va_rf (z_r q2.2 v0 5)) fun b3 =>
z_inb q2.2 b3 101 v1 (
if ((z_i q2.2 b3 v1.toNatClampNeg)) = 0 then
(z_chk q2.2 v0 13 (
(f_X12_fails v0 ((6 : Int32)) q2.2).bind fun q5 =>
some (q5.1.toInt64, q5.2)))
else
(z_chk q2.2 v0 13 (
(f_X12_well v0 q2.2).bind fun q4 =>
l_X12_mean_55 z_N v0 v1 ((0 : Int64)) ((0 : Int32)) q4))))))
else
(some ((-2000000001 : Int64), q2.2))))
def f_X12_mean : Nat → Int32 → z_St → Option (Int64 × z_St) := z_op (b_X12_mean)
theorem e_X12_mean (v0 : Nat) (v1 : Int32) (S : z_St) : f_X12_mean v0 v1 S = b_X12_mean v0 v1 S := congrFun (congrFun (congrFun (z_op_eq (b_X12_mean)) v0) v1) S
def g_X12_mean : z_G := .inr (.inl (fun as S => match as with
  | [.ref v0, .int v1] => f_X12_mean v0 v1 S
  | _ => none))
def c_X12_mean : List z_E := [
  (0, .aload_n 0, 1, .null, [], z_g0),
  (1, .iconst 0, 1, .int ((0 : Int32)), [], z_g0),
  (2, .putfield 224, 3, .null, [13, 0, 0], z_g0),
  (5, .aload_n 0, 1, .null, [], z_g0),
  (6, .iload_n 1, 1, .null, [], z_g0),
  (7, .invokevirtual 293, 3, .null, [1, 13, 0], g_X12_noRow),
  (10, .ifCond .eq 7, 3, .null, [17], z_g0),
  (13, .ldc2_w 319, 3, .long (-2000000001 : Int64), [], z_g0),
  (16, .lreturn, 1, .null, [], z_g0),
  (17, .iload_n 1, 1, .null, [], z_g0),
  (18, .iconst (-1), 1, .int ((-1 : Int32)), [], z_g0),
  (19, .if_icmp .ne 10, 3, .null, [29], z_g0),
  (22, .aload_n 0, 1, .null, [], z_g0),
  (23, .iconst 1, 1, .int ((1 : Int32)), [], z_g0),
  (24, .invokevirtual 282, 3, .null, [1, 13, 0], g_X12_fails),
  (27, .i2l, 1, .null, [], z_g0),
  (28, .lreturn, 1, .null, [], z_g0),
  (29, .aload_n 0, 1, .null, [], z_g0),
  (30, .getfield 13, 3, .null, [13, 5, 3], z_g0),
  (33, .iload_n 1, 1, .null, [], z_g0),
  (34, .iaload, 1, .null, [101], z_g0),
  (35, .ifCond .ne 11, 3, .null, [46], z_g0),
  (38, .aload_n 0, 1, .null, [], z_g0),
  (39, .bipush 6, 2, .int ((6 : Int32)), [], z_g0),
  (41, .invokevirtual 282, 3, .null, [1, 13, 0], g_X12_fails),
  (44, .i2l, 1, .null, [], z_g0),
  (45, .lreturn, 1, .null, [], z_g0),
  (46, .aload_n 0, 1, .null, [], z_g0),
  (47, .invokevirtual 286, 3, .null, [1, 13], g_X12_well),
  (50, .lconst 0, 1, .long (0 : Int64), [], z_g0),
  (51, .lstore_n 2, 1, .null, [], z_g0),
  (52, .iconst 0, 1, .int ((0 : Int32)), [], z_g0),
  (53, .istore 4, 2, .null, [], z_g0),
  (55, .iload 4, 2, .null, [], z_g0),
  (57, .aload_n 0, 1, .null, [], z_g0),
  (58, .getfield 13, 3, .null, [13, 5, 3], z_g0),
  (61, .iload_n 1, 1, .null, [], z_g0),
  (62, .iaload, 1, .null, [101], z_g0),
  (63, .if_icmp .ge 33, 3, .null, [96], z_g0),
  (66, .lload_n 2, 1, .null, [], z_g0),
  (67, .aload_n 0, 1, .null, [], z_g0),
  (68, .getfield 7, 3, .null, [13, 4, 3], z_g0),
  (71, .iload_n 1, 1, .null, [], z_g0),
  (72, .iaload, 1, .null, [101], z_g0),
  (73, .aload_n 0, 1, .null, [], z_g0),
  (74, .getfield 16, 3, .null, [13, 6, 3], z_g0),
  (77, .bipush 64, 2, .int ((64 : Int32)), [], z_g0),
  (79, .iload_n 1, 1, .null, [], z_g0),
  (80, .imul, 1, .null, [], z_g0),
  (81, .iload 4, 2, .null, [], z_g0),
  (83, .iadd, 1, .null, [], z_g0),
  (84, .laload, 1, .null, [], z_g0),
  (85, .invokestatic 305, 3, .null, [0, 0, 0], g_X12_wholeOf),
  (88, .ladd, 1, .null, [], z_g0),
  (89, .lstore_n 2, 1, .null, [], z_g0),
  (90, .iinc 4 1, 3, .int (1 : Int32), [], z_g0),
  (93, .goto (-38), 3, .null, [55], z_g0),
  (96, .lload_n 2, 1, .null, [], z_g0),
  (97, .aload_n 0, 1, .null, [], z_g0),
  (98, .getfield 13, 3, .null, [13, 5, 3], z_g0),
  (101, .iload_n 1, 1, .null, [], z_g0),
  (102, .iaload, 1, .null, [101], z_g0),
  (103, .i2l, 1, .null, [], z_g0),
  (104, .ldiv, 1, .null, [], z_g0),
  (105, .lreturn, 1, .null, [], z_g0)]
def a_X12_mean_55 {ρ : Type} (k : Nat → Int32 → Int64 → Int32 → z_St → Option ρ) (ls : z_Lv) (st : List Value) (S : z_St) : Option ρ := z_gR ls 0 fun v0 => z_gI ls 1 fun v1 => z_gJ ls 2 fun v2 => z_gI ls 4 fun v4 => z_p0 st (k v0 v1 v2 v4 S)
set_option maxRecDepth 100000 in
theorem r_X12_mean_55 (n : Nat) (v0 : Nat) (v1 : Int32) (v2 : Int64) (v4 : Int32) (S : z_St) : z_seg z_rL (c_X12_mean) [55] (fun pc => cond (Nat.beq pc 55) (a_X12_mean_55 (l_X12_mean_55 n)) (fun _ _ _ => none)) 68 (z_to 55 (c_X12_mean)) [(0, .ref v0), (1, .int v1), (2, .long v2), (4, .int v4)] [] S = l_X12_mean_55 (n + 1) v0 v1 v2 v4 S := rfl
set_option maxRecDepth 100000 in
theorem r_X12_mean (v0 : Nat) (v1 : Int32) (S : z_St) : z_seg z_rL (c_X12_mean) [55] (fun pc => cond (Nat.beq pc 55) (a_X12_mean_55 (l_X12_mean_55 z_N)) (fun _ _ _ => none)) 68 (c_X12_mean) [(0, .ref v0), (1, .int v1)] [] S = b_X12_mean v0 v1 S := rfl
def b_X12_isBed (v0 : Nat) (v1 : Int32) (S : z_St) : Option (Int32 × z_St) :=
z_chk S v0 13 (
(f_X12_in v1.toInt64 ((0 : Int64)) ((((z_i S v0 8)) - ((1 : Int32))).toInt64) S).bind fun q1 =>
z_rb q1.1 q1.2)
def f_X12_isBed : Nat → Int32 → z_St → Option (Int32 × z_St) := z_op (b_X12_isBed)
theorem e_X12_isBed (v0 : Nat) (v1 : Int32) (S : z_St) : f_X12_isBed v0 v1 S = b_X12_isBed v0 v1 S := congrFun (congrFun (congrFun (z_op_eq (b_X12_isBed)) v0) v1) S
def g_X12_isBed : z_G := .inl (fun as S => match as with
  | [.ref v0, .int v1] => f_X12_isBed v0 v1 S
  | _ => none)
def c_X12_isBed : List z_E := [
  (0, .iload_n 1, 1, .null, [], z_g0),
  (1, .i2l, 1, .null, [], z_g0),
  (2, .lconst 0, 1, .long (0 : Int64), [], z_g0),
  (3, .aload_n 0, 1, .null, [], z_g0),
  (4, .getfield 321, 3, .null, [13, 8, 0], z_g0),
  (7, .iconst 1, 1, .int ((1 : Int32)), [], z_g0),
  (8, .isub, 1, .null, [], z_g0),
  (9, .i2l, 1, .null, [], z_g0),
  (10, .invokestatic 274, 3, .null, [0, 0, 0, 0], g_X12_in),
  (13, .ireturn, 1, .null, [], z_g0)]
set_option maxRecDepth 100000 in
theorem r_X12_isBed (v0 : Nat) (v1 : Int32) (S : z_St) : z_seg z_rZ (c_X12_isBed) [] (fun pc => fun _ _ _ => none) 13 (c_X12_isBed) [(0, .ref v0), (1, .int v1)] [] S = b_X12_isBed v0 v1 S := rfl
def j_X12_bed_129 (k_92 : Nat → Int32 → Int32 → Int32 → Int32 → z_St → Option (Int32 × z_St)) (v0 : Nat) (v1 : Int32) (v2 : Int32) (v3 : Int32) (v4 : Int32) (v5 : Int32) (t0 : Nat) (t1 : Int32) (t2 : Int32) (S : z_St) : Option (Int32 × z_St) :=
z_inb S t0 101 t1 (
let S13 := z_wi S t0 t1.toNatClampNeg t2
if v3 < 0 then
(let x14 := v4 + (1 : Int32)
k_92 v0 v1 v2 v3 x14 S13)
else
(z_chk S13 v0 13 (
(f_X12_begin v0 (((40 : Int32)) + v5) v1 v3 S13).bind fun q15 =>
let x16 := v4 + (1 : Int32)
k_92 v0 v1 v2 v3 x16 q15)))
def l_X12_bed_92 : Nat → Nat → Int32 → Int32 → Int32 → Int32 → z_St → Option (Int32 × z_St)
  | 0 => fun _ _ _ _ _ _ => none
  | n + 1 => fun (v0 : Nat) (v1 : Int32) (v2 : Int32) (v3 : Int32) (v4 : Int32) (S : z_St) =>
if v2 ≤ v4 then
(z_chk S v0 13 (
z_chk S v0 13 (
let S9 := z_wi S v0 8 (((z_i S v0 8)) + ((1 : Int32)))
z_chk S9 v0 13 (
some (((z_i S9 v0 8)) - ((1 : Int32)), S9)))))
else
(z_chk S v0 13 (
let x10 := (((16 : Int32)) * ((z_i S v0 8))) + v4
z_chk S v0 13 (
if 0 ≤ v3 then
(z_onV (va_rf (z_r S v0 11)) fun b11 =>
j_X12_bed_129 (l_X12_bed_92 n) v0 v1 v2 v3 v4 x10 b11 x10 (((40 : Int32)) + x10) S)
else
(z_onV (va_rf (z_r S v0 11)) fun b12 =>
j_X12_bed_129 (l_X12_bed_92 n) v0 v1 v2 v3 v4 x10 b12 x10 ((-1 : Int32)) S))))
def j_X12_bed_21 (v0 : Nat) (v1 : Int32) (v2 : Int32) (v3 : Int32) (S : z_St) : Option (Int32 × z_St) :=
if ((16 : Int32)) < v2 then
(some ((-2000000002 : Int32), S))
else
(if v3 ≤ ((64 : Int32)) then
(z_chk S v0 13 (
if ((z_i S v0 8)) = ((20 : Int32)) then
(some ((-2000000004 : Int32), S))
else
(if v2 < 0 then
(z_chk S v0 13 (
(f_X12_fails v0 ((3 : Int32)) S).bind fun q2 =>
some (q2.1, q2.2)))
else
(if ((-1 : Int32)) ≤ v3 then
(z_chk S v0 13 (
(f_X12_well v0 S).bind fun q3 =>
z_chk q3 v0 13 (
z_chk q3 v0 13 (
z_onV (va_rf (z_r q3 v0 9)) fun b4 =>
z_inb q3 b4 101 ((z_i q3 v0 8)) (
let S5 := z_wi q3 b4 ((z_i q3 v0 8)).toNatClampNeg v1
z_chk S5 v0 13 (
z_chk S5 v0 13 (
z_onV (va_rf (z_r S5 v0 10)) fun b6 =>
z_inb S5 b6 101 ((z_i S5 v0 8)) (
let S7 := z_wi S5 b6 ((z_i S5 v0 8)).toNatClampNeg v2
l_X12_bed_92 z_N v0 v1 v2 v3 ((0 : Int32)) S7))))))))
else
(z_chk S v0 13 (
(f_X12_fails v0 ((3 : Int32)) S).bind fun q8 =>
some (q8.1, q8.2)))))))
else
(some ((-2000000002 : Int32), S)))
def b_X12_bed (v0 : Nat) (v1 : Int32) (v2 : Int32) (v3 : Int32) (S : z_St) : Option (Int32 × z_St) :=
z_chk S v0 13 (
let S1 := z_wi S v0 0 ((0 : Int32))
if v1 = ((1 : Int32)) then
(j_X12_bed_21 v0 v1 v2 v3 S1)
else
(if v1 = ((3 : Int32)) then
(j_X12_bed_21 v0 v1 v2 v3 S1)
else
(if v1 = ((6 : Int32)) then
(j_X12_bed_21 v0 v1 v2 v3 S1)
else
(some ((-2000000002 : Int32), S1)))))
def f_X12_bed : Nat → Int32 → Int32 → Int32 → z_St → Option (Int32 × z_St) := z_op (b_X12_bed)
theorem e_X12_bed (v0 : Nat) (v1 : Int32) (v2 : Int32) (v3 : Int32) (S : z_St) : f_X12_bed v0 v1 v2 v3 S = b_X12_bed v0 v1 v2 v3 S := congrFun (congrFun (congrFun (congrFun (congrFun (z_op_eq (b_X12_bed)) v0) v1) v2) v3) S
def g_X12_bed : z_G := .inl (fun as S => match as with
  | [.ref v0, .int v1, .int v2, .int v3] => f_X12_bed v0 v1 v2 v3 S
  | _ => none)
def c_X12_bed : List z_E := [
  (0, .aload_n 0, 1, .null, [], z_g0),
  (1, .iconst 0, 1, .int ((0 : Int32)), [], z_g0),
  (2, .putfield 224, 3, .null, [13, 0, 0], z_g0),
  (5, .iload_n 1, 1, .null, [], z_g0),
  (6, .iconst 1, 1, .int ((1 : Int32)), [], z_g0),
  (7, .if_icmp .eq 14, 3, .null, [21], z_g0),
  (10, .iload_n 1, 1, .null, [], z_g0),
  (11, .iconst 3, 1, .int ((3 : Int32)), [], z_g0),
  (12, .if_icmp .eq 9, 3, .null, [21], z_g0),
  (15, .iload_n 1, 1, .null, [], z_g0),
  (16, .bipush 6, 2, .int ((6 : Int32)), [], z_g0),
  (18, .if_icmp .ne 15, 3, .null, [33], z_g0),
  (21, .iload_n 2, 1, .null, [], z_g0),
  (22, .bipush 16, 2, .int ((16 : Int32)), [], z_g0),
  (24, .if_icmp .gt 9, 3, .null, [33], z_g0),
  (27, .iload_n 3, 1, .null, [], z_g0),
  (28, .bipush 64, 2, .int ((64 : Int32)), [], z_g0),
  (30, .if_icmp .le 7, 3, .null, [37], z_g0),
  (33, .ldc_w 280, 3, .int (-2000000002 : Int32), [], z_g0),
  (36, .ireturn, 1, .null, [], z_g0),
  (37, .aload_n 0, 1, .null, [], z_g0),
  (38, .getfield 321, 3, .null, [13, 8, 0], z_g0),
  (41, .bipush 20, 2, .int ((20 : Int32)), [], z_g0),
  (43, .if_icmp .ne 7, 3, .null, [50], z_g0),
  (46, .ldc_w 281, 3, .int (-2000000004 : Int32), [], z_g0),
  (49, .ireturn, 1, .null, [], z_g0),
  (50, .iload_n 2, 1, .null, [], z_g0),
  (51, .ifCond .lt 8, 3, .null, [59], z_g0),
  (54, .iload_n 3, 1, .null, [], z_g0),
  (55, .iconst (-1), 1, .int ((-1 : Int32)), [], z_g0),
  (56, .if_icmp .ge 9, 3, .null, [65], z_g0),
  (59, .aload_n 0, 1, .null, [], z_g0),
  (60, .iconst 3, 1, .int ((3 : Int32)), [], z_g0),
  (61, .invokevirtual 282, 3, .null, [1, 13, 0], g_X12_fails),
  (64, .ireturn, 1, .null, [], z_g0),
  (65, .aload_n 0, 1, .null, [], z_g0),
  (66, .invokevirtual 286, 3, .null, [1, 13], g_X12_well),
  (69, .aload_n 0, 1, .null, [], z_g0),
  (70, .getfield 23, 3, .null, [13, 9, 3], z_g0),
  (73, .aload_n 0, 1, .null, [], z_g0),
  (74, .getfield 321, 3, .null, [13, 8, 0], z_g0),
  (77, .iload_n 1, 1, .null, [], z_g0),
  (78, .iastore, 1, .null, [], z_g0),
  (79, .aload_n 0, 1, .null, [], z_g0),
  (80, .getfield 26, 3, .null, [13, 10, 3], z_g0),
  (83, .aload_n 0, 1, .null, [], z_g0),
  (84, .getfield 321, 3, .null, [13, 8, 0], z_g0),
  (87, .iload_n 2, 1, .null, [], z_g0),
  (88, .iastore, 1, .null, [], z_g0),
  (89, .iconst 0, 1, .int ((0 : Int32)), [], z_g0),
  (90, .istore 4, 2, .null, [], z_g0),
  (92, .iload 4, 2, .null, [], z_g0),
  (94, .iload_n 2, 1, .null, [], z_g0),
  (95, .if_icmp .ge 56, 3, .null, [151], z_g0),
  (98, .bipush 16, 2, .int ((16 : Int32)), [], z_g0),
  (100, .aload_n 0, 1, .null, [], z_g0),
  (101, .getfield 321, 3, .null, [13, 8, 0], z_g0),
  (104, .imul, 1, .null, [], z_g0),
  (105, .iload 4, 2, .null, [], z_g0),
  (107, .iadd, 1, .null, [], z_g0),
  (108, .istore 5, 2, .null, [], z_g0),
  (110, .aload_n 0, 1, .null, [], z_g0),
  (111, .getfield 29, 3, .null, [13, 11, 3], z_g0),
  (114, .iload 5, 2, .null, [], z_g0),
  (116, .iload_n 3, 1, .null, [], z_g0),
  (117, .ifCond .ge 7, 3, .null, [124], z_g0),
  (120, .iconst (-1), 1, .int ((-1 : Int32)), [], z_g0),
  (121, .goto 8, 3, .null, [129], z_g0),
  (124, .bipush 40, 2, .int ((40 : Int32)), [], z_g0),
  (126, .iload 5, 2, .null, [], z_g0),
  (128, .iadd, 1, .null, [], z_g0),
  (129, .iastore, 1, .null, [], z_g0),
  (130, .iload_n 3, 1, .null, [], z_g0),
  (131, .ifCond .lt 14, 3, .null, [145], z_g0),
  (134, .aload_n 0, 1, .null, [], z_g0),
  (135, .bipush 40, 2, .int ((40 : Int32)), [], z_g0),
  (137, .iload 5, 2, .null, [], z_g0),
  (139, .iadd, 1, .null, [], z_g0),
  (140, .iload_n 1, 1, .null, [], z_g0),
  (141, .iload_n 3, 1, .null, [], z_g0),
  (142, .invokevirtual 289, 3, .null, [1, 13, 0, 0, 0], g_X12_begin),
  (145, .iinc 4 1, 3, .int (1 : Int32), [], z_g0),
  (148, .goto (-56), 3, .null, [92], z_g0),
  (151, .aload_n 0, 1, .null, [], z_g0),
  (152, .dup, 1, .null, [], z_g0),
  (153, .getfield 321, 3, .null, [13, 8, 0], z_g0),
  (156, .iconst 1, 1, .int ((1 : Int32)), [], z_g0),
  (157, .iadd, 1, .null, [], z_g0),
  (158, .putfield 321, 3, .null, [13, 8, 0], z_g0),
  (161, .aload_n 0, 1, .null, [], z_g0),
  (162, .getfield 321, 3, .null, [13, 8, 0], z_g0),
  (165, .iconst 1, 1, .int ((1 : Int32)), [], z_g0),
  (166, .isub, 1, .null, [], z_g0),
  (167, .ireturn, 1, .null, [], z_g0)]
def a_X12_bed_21 {ρ : Type} (k : Nat → Int32 → Int32 → Int32 → z_St → Option ρ) (ls : z_Lv) (st : List Value) (S : z_St) : Option ρ := z_gR ls 0 fun v0 => z_gI ls 1 fun v1 => z_gI ls 2 fun v2 => z_gI ls 3 fun v3 => z_p0 st (k v0 v1 v2 v3 S)
def a_X12_bed_92 {ρ : Type} (k : Nat → Int32 → Int32 → Int32 → Int32 → z_St → Option ρ) (ls : z_Lv) (st : List Value) (S : z_St) : Option ρ := z_gR ls 0 fun v0 => z_gI ls 1 fun v1 => z_gI ls 2 fun v2 => z_gI ls 3 fun v3 => z_gI ls 4 fun v4 => z_p0 st (k v0 v1 v2 v3 v4 S)
def a_X12_bed_129 {ρ : Type} (k : Nat → Int32 → Int32 → Int32 → Int32 → Int32 → Nat → Int32 → Int32 → z_St → Option ρ) (ls : z_Lv) (st : List Value) (S : z_St) : Option ρ := z_gR ls 0 fun v0 => z_gI ls 1 fun v1 => z_gI ls 2 fun v2 => z_gI ls 3 fun v3 => z_gI ls 4 fun v4 => z_gI ls 5 fun v5 => z_pI st fun t2 s2 => z_pI s2 fun t1 s1 => z_pR s1 fun t0 s0 => z_p0 s0 (k v0 v1 v2 v3 v4 v5 t0 t1 t2 S)
set_option maxRecDepth 100000 in
theorem r_X12_bed_129 (k_92 : Nat → Int32 → Int32 → Int32 → Int32 → z_St → Option (Int32 × z_St)) (v0 : Nat) (v1 : Int32) (v2 : Int32) (v3 : Int32) (v4 : Int32) (v5 : Int32) (t0 : Nat) (t1 : Int32) (t2 : Int32) (S : z_St) : z_seg z_rI (c_X12_bed) [21, 92, 129] (fun pc => cond (Nat.beq pc 92) (a_X12_bed_92 k_92) (fun _ _ _ => none)) 97 (z_to 129 (c_X12_bed)) [(0, .ref v0), (1, .int v1), (2, .int v2), (3, .int v3), (4, .int v4), (5, .int v5)] [.int t2, .int t1, .ref t0] S = j_X12_bed_129 k_92 v0 v1 v2 v3 v4 v5 t0 t1 t2 S := rfl
set_option maxRecDepth 100000 in
theorem r_X12_bed_92 (n : Nat) (v0 : Nat) (v1 : Int32) (v2 : Int32) (v3 : Int32) (v4 : Int32) (S : z_St) : z_seg z_rI (c_X12_bed) [21, 92, 129] (fun pc => cond (Nat.beq pc 129) (a_X12_bed_129 (j_X12_bed_129 (l_X12_bed_92 n))) (fun _ _ _ => none)) 97 (z_to 92 (c_X12_bed)) [(0, .ref v0), (1, .int v1), (2, .int v2), (3, .int v3), (4, .int v4)] [] S = l_X12_bed_92 (n + 1) v0 v1 v2 v3 v4 S := rfl
set_option maxRecDepth 100000 in
theorem r_X12_bed_21 (v0 : Nat) (v1 : Int32) (v2 : Int32) (v3 : Int32) (S : z_St) : z_seg z_rI (c_X12_bed) [21, 92, 129] (fun pc => cond (Nat.beq pc 92) (a_X12_bed_92 (l_X12_bed_92 z_N)) (fun _ _ _ => none)) 97 (z_to 21 (c_X12_bed)) [(0, .ref v0), (1, .int v1), (2, .int v2), (3, .int v3)] [] S = j_X12_bed_21 v0 v1 v2 v3 S := rfl
set_option maxRecDepth 100000 in
theorem r_X12_bed (v0 : Nat) (v1 : Int32) (v2 : Int32) (v3 : Int32) (S : z_St) : z_seg z_rI (c_X12_bed) [21, 92, 129] (fun pc => cond (Nat.beq pc 21) (a_X12_bed_21 (j_X12_bed_21)) (fun _ _ _ => none)) 97 (c_X12_bed) [(0, .ref v0), (1, .int v1), (2, .int v2), (3, .int v3)] [] S = b_X12_bed v0 v1 v2 v3 S := rfl
def j_X12_lay_75 (v0 : Nat) (v1 : Int32) (v2 : Int32) (v3 : Int32) (S : z_St) : Option (Int32 × z_St) :=
z_chk S v0 13 (
(f_X12_well v0 S).bind fun q10 =>
z_chk q10 v0 13 (
z_onV (va_rf (z_r q10 v0 11)) fun b11 =>
z_inb q10 b11 101 ((((16 : Int32)) * v1) + v2) (
let S12 := z_wi q10 b11 ((((16 : Int32)) * v1) + v2).toNatClampNeg v3
some ((1 : Int32), S12))))
def b_X12_lay (v0 : Nat) (v1 : Int32) (v2 : Int32) (v3 : Int32) (S : z_St) : Option (Int32 × z_St) :=
z_chk S v0 13 (
let S1 := z_wi S v0 0 ((0 : Int32))
z_chk S1 v0 13 (
(f_X12_isBed v0 v1 S1).bind fun q2 =>
if q2.1 = 0 then
(some ((-2000000001 : Int32), q2.2))
else
(z_chk q2.2 v0 13 (
(f_X12_noRow v0 v3 q2.2).bind fun q3 =>
if q3.1 = 0 then
(z_chk q3.2 v0 13 (
z_onV (va_rf (z_r q3.2 v0 10)) fun b4 =>
z_inb q3.2 b4 101 v1 (
(f_X12_in v2.toInt64 ((0 : Int64)) ((((z_i q3.2 b4 v1.toNatClampNeg)) - ((1 : Int32))).toInt64) q3.2).bind fun q5 =>
if q5.1 = 0 then
(z_chk q5.2 v0 13 (
(f_X12_fails v0 ((2 : Int32)) q5.2).bind fun q9 =>
some (q9.1, q9.2)))
else
(if v3 = ((-1 : Int32)) then
(j_X12_lay_75 v0 v1 v2 v3 q5.2)
else
(z_chk q5.2 v0 13 (
z_onV (va_rf (z_r q5.2 v0 4)) fun b6 =>
z_inb q5.2 b6 101 v3 (
z_chk q5.2 v0 13 (
z_onV (va_rf (z_r q5.2 v0 9)) fun b7 =>
z_inb q5.2 b7 101 v1 (
if ((z_i q5.2 b6 v3.toNatClampNeg)) = ((z_i q5.2 b7 v1.toNatClampNeg)) then
(j_X12_lay_75 v0 v1 v2 v3 q5.2)
else
(z_chk q5.2 v0 13 (
(f_X12_fails v0 ((5 : Int32)) q5.2).bind fun q8 =>
some (q8.1, q8.2))))))))))))
else
(some ((-2000000001 : Int32), q3.2))))))
def f_X12_lay : Nat → Int32 → Int32 → Int32 → z_St → Option (Int32 × z_St) := z_op (b_X12_lay)
theorem e_X12_lay (v0 : Nat) (v1 : Int32) (v2 : Int32) (v3 : Int32) (S : z_St) : f_X12_lay v0 v1 v2 v3 S = b_X12_lay v0 v1 v2 v3 S := congrFun (congrFun (congrFun (congrFun (congrFun (z_op_eq (b_X12_lay)) v0) v1) v2) v3) S
def g_X12_lay : z_G := .inl (fun as S => match as with
  | [.ref v0, .int v1, .int v2, .int v3] => f_X12_lay v0 v1 v2 v3 S
  | _ => none)
def c_X12_lay : List z_E := [
  (0, .aload_n 0, 1, .null, [], z_g0),
  (1, .iconst 0, 1, .int ((0 : Int32)), [], z_g0),
  (2, .putfield 224, 3, .null, [13, 0, 0], z_g0),
  (5, .aload_n 0, 1, .null, [], z_g0),
  (6, .iload_n 1, 1, .null, [], z_g0),
  (7, .invokevirtual 324, 3, .null, [1, 13, 0], g_X12_isBed),
  (10, .ifCond .eq 11, 3, .null, [21], z_g0),
  (13, .aload_n 0, 1, .null, [], z_g0),
  (14, .iload_n 3, 1, .null, [], z_g0),
  (15, .invokevirtual 293, 3, .null, [1, 13, 0], g_X12_noRow),
  (18, .ifCond .eq 7, 3, .null, [25], z_g0),
  (21, .ldc_w 296, 3, .int (-2000000001 : Int32), [], z_g0),
  (24, .ireturn, 1, .null, [], z_g0),
  (25, .iload_n 2, 1, .null, [], z_g0),
  (26, .i2l, 1, .null, [], z_g0),
  (27, .lconst 0, 1, .long (0 : Int64), [], z_g0),
  (28, .aload_n 0, 1, .null, [], z_g0),
  (29, .getfield 26, 3, .null, [13, 10, 3], z_g0),
  (32, .iload_n 1, 1, .null, [], z_g0),
  (33, .iaload, 1, .null, [101], z_g0),
  (34, .iconst 1, 1, .int ((1 : Int32)), [], z_g0),
  (35, .isub, 1, .null, [], z_g0),
  (36, .i2l, 1, .null, [], z_g0),
  (37, .invokestatic 274, 3, .null, [0, 0, 0, 0], g_X12_in),
  (40, .ifCond .ne 9, 3, .null, [49], z_g0),
  (43, .aload_n 0, 1, .null, [], z_g0),
  (44, .iconst 2, 1, .int ((2 : Int32)), [], z_g0),
  (45, .invokevirtual 282, 3, .null, [1, 13, 0], g_X12_fails),
  (48, .ireturn, 1, .null, [], z_g0),
  (49, .iload_n 3, 1, .null, [], z_g0),
  (50, .iconst (-1), 1, .int ((-1 : Int32)), [], z_g0),
  (51, .if_icmp .eq 24, 3, .null, [75], z_g0),
  (54, .aload_n 0, 1, .null, [], z_g0),
  (55, .getfield 7, 3, .null, [13, 4, 3], z_g0),
  (58, .iload_n 3, 1, .null, [], z_g0),
  (59, .iaload, 1, .null, [101], z_g0),
  (60, .aload_n 0, 1, .null, [], z_g0),
  (61, .getfield 23, 3, .null, [13, 9, 3], z_g0),
  (64, .iload_n 1, 1, .null, [], z_g0),
  (65, .iaload, 1, .null, [101], z_g0),
  (66, .if_icmp .eq 9, 3, .null, [75], z_g0),
  (69, .aload_n 0, 1, .null, [], z_g0),
  (70, .iconst 5, 1, .int ((5 : Int32)), [], z_g0),
  (71, .invokevirtual 282, 3, .null, [1, 13, 0], g_X12_fails),
  (74, .ireturn, 1, .null, [], z_g0),
  (75, .aload_n 0, 1, .null, [], z_g0),
  (76, .invokevirtual 286, 3, .null, [1, 13], g_X12_well),
  (79, .aload_n 0, 1, .null, [], z_g0),
  (80, .getfield 29, 3, .null, [13, 11, 3], z_g0),
  (83, .bipush 16, 2, .int ((16 : Int32)), [], z_g0),
  (85, .iload_n 1, 1, .null, [], z_g0),
  (86, .imul, 1, .null, [], z_g0),
  (87, .iload_n 2, 1, .null, [], z_g0),
  (88, .iadd, 1, .null, [], z_g0),
  (89, .iload_n 3, 1, .null, [], z_g0),
  (90, .iastore, 1, .null, [], z_g0),
  (91, .iconst 1, 1, .int ((1 : Int32)), [], z_g0),
  (92, .ireturn, 1, .null, [], z_g0)]
def a_X12_lay_75 {ρ : Type} (k : Nat → Int32 → Int32 → Int32 → z_St → Option ρ) (ls : z_Lv) (st : List Value) (S : z_St) : Option ρ := z_gR ls 0 fun v0 => z_gI ls 1 fun v1 => z_gI ls 2 fun v2 => z_gI ls 3 fun v3 => z_p0 st (k v0 v1 v2 v3 S)
set_option maxRecDepth 100000 in
theorem r_X12_lay_75 (v0 : Nat) (v1 : Int32) (v2 : Int32) (v3 : Int32) (S : z_St) : z_seg z_rI (c_X12_lay) [75] (fun pc => fun _ _ _ => none) 61 (z_to 75 (c_X12_lay)) [(0, .ref v0), (1, .int v1), (2, .int v2), (3, .int v3)] [] S = j_X12_lay_75 v0 v1 v2 v3 S := rfl
set_option maxRecDepth 100000 in
theorem r_X12_lay (v0 : Nat) (v1 : Int32) (v2 : Int32) (v3 : Int32) (S : z_St) : z_seg z_rI (c_X12_lay) [75] (fun pc => cond (Nat.beq pc 75) (a_X12_lay_75 (j_X12_lay_75)) (fun _ _ _ => none)) 61 (c_X12_lay) [(0, .ref v0), (1, .int v1), (2, .int v2), (3, .int v3)] [] S = b_X12_lay v0 v1 v2 v3 S := rfl
def b_X12_spotAt (v0 : Nat) (v1 : Int32) (v2 : Int32) (v3 : Int32) (S : z_St) : Option (Int32 × z_St) :=
z_chk S v0 13 (
(f_X12_isBed v0 v1 S).bind fun q1 =>
if q1.1 = 0 then
(some ((-2000000001 : Int32), q1.2))
else
(z_chk q1.2 v0 13 (
z_onV (va_rf (z_r q1.2 v0 10)) fun b2 =>
z_inb q1.2 b2 101 v1 (
(f_X12_in v2.toInt64 ((0 : Int64)) ((((z_i q1.2 b2 v1.toNatClampNeg)) - ((1 : Int32))).toInt64) q1.2).bind fun q3 =>
if q3.1 = 0 then
(z_chk q3.2 v0 13 (
(f_X12_fails v0 ((2 : Int32)) q3.2).bind fun q11 =>
some (q11.1, q11.2)))
else
(z_chk q3.2 v0 13 (
z_onV (va_rf (z_r q3.2 v0 11)) fun b4 =>
z_inb q3.2 b4 101 ((((16 : Int32)) * v1) + v2) (
let x5 := (z_i q3.2 b4 ((((16 : Int32)) * v1) + v2).toNatClampNeg)
if x5 = ((-1 : Int32)) then
(z_chk q3.2 v0 13 (
(f_X12_fails v0 ((1 : Int32)) q3.2).bind fun q10 =>
some (q10.1, q10.2)))
else
(z_chk q3.2 v0 13 (
z_onV (va_rf (z_r q3.2 v0 5)) fun b6 =>
z_inb q3.2 b6 101 x5 (
(f_X12_in v3.toInt64 ((0 : Int64)) ((((z_i q3.2 b6 x5.toNatClampNeg)) - ((1 : Int32))).toInt64) q3.2).bind fun q7 =>
if q7.1 = 0 then
(z_chk q7.2 v0 13 (
(f_X12_fails v0 ((2 : Int32)) q7.2).bind fun q9 =>
some (q9.1, q9.2)))
else
(z_chk q7.2 v0 13 (
(f_X12_well v0 q7.2).bind fun q8 =>
some ((((64 : Int32)) * x5) + v3, q8)))))))))))))
def f_X12_spotAt : Nat → Int32 → Int32 → Int32 → z_St → Option (Int32 × z_St) := z_op (b_X12_spotAt)
theorem e_X12_spotAt (v0 : Nat) (v1 : Int32) (v2 : Int32) (v3 : Int32) (S : z_St) : f_X12_spotAt v0 v1 v2 v3 S = b_X12_spotAt v0 v1 v2 v3 S := congrFun (congrFun (congrFun (congrFun (congrFun (z_op_eq (b_X12_spotAt)) v0) v1) v2) v3) S
def g_X12_spotAt : z_G := .inl (fun as S => match as with
  | [.ref v0, .int v1, .int v2, .int v3] => f_X12_spotAt v0 v1 v2 v3 S
  | _ => none)
def c_X12_spotAt : List z_E := [
  (0, .aload_n 0, 1, .null, [], z_g0),
  (1, .iload_n 1, 1, .null, [], z_g0),
  (2, .invokevirtual 324, 3, .null, [1, 13, 0], g_X12_isBed),
  (5, .ifCond .ne 7, 3, .null, [12], z_g0),
  (8, .ldc_w 296, 3, .int (-2000000001 : Int32), [], z_g0),
  (11, .ireturn, 1, .null, [], z_g0),
  (12, .iload_n 2, 1, .null, [], z_g0),
  (13, .i2l, 1, .null, [], z_g0),
  (14, .lconst 0, 1, .long (0 : Int64), [], z_g0),
  (15, .aload_n 0, 1, .null, [], z_g0),
  (16, .getfield 26, 3, .null, [13, 10, 3], z_g0),
  (19, .iload_n 1, 1, .null, [], z_g0),
  (20, .iaload, 1, .null, [101], z_g0),
  (21, .iconst 1, 1, .int ((1 : Int32)), [], z_g0),
  (22, .isub, 1, .null, [], z_g0),
  (23, .i2l, 1, .null, [], z_g0),
  (24, .invokestatic 274, 3, .null, [0, 0, 0, 0], g_X12_in),
  (27, .ifCond .ne 9, 3, .null, [36], z_g0),
  (30, .aload_n 0, 1, .null, [], z_g0),
  (31, .iconst 2, 1, .int ((2 : Int32)), [], z_g0),
  (32, .invokevirtual 282, 3, .null, [1, 13, 0], g_X12_fails),
  (35, .ireturn, 1, .null, [], z_g0),
  (36, .aload_n 0, 1, .null, [], z_g0),
  (37, .getfield 29, 3, .null, [13, 11, 3], z_g0),
  (40, .bipush 16, 2, .int ((16 : Int32)), [], z_g0),
  (42, .iload_n 1, 1, .null, [], z_g0),
  (43, .imul, 1, .null, [], z_g0),
  (44, .iload_n 2, 1, .null, [], z_g0),
  (45, .iadd, 1, .null, [], z_g0),
  (46, .iaload, 1, .null, [101], z_g0),
  (47, .istore 4, 2, .null, [], z_g0),
  (49, .iload 4, 2, .null, [], z_g0),
  (51, .iconst (-1), 1, .int ((-1 : Int32)), [], z_g0),
  (52, .if_icmp .ne 9, 3, .null, [61], z_g0),
  (55, .aload_n 0, 1, .null, [], z_g0),
  (56, .iconst 1, 1, .int ((1 : Int32)), [], z_g0),
  (57, .invokevirtual 282, 3, .null, [1, 13, 0], g_X12_fails),
  (60, .ireturn, 1, .null, [], z_g0),
  (61, .iload_n 3, 1, .null, [], z_g0),
  (62, .i2l, 1, .null, [], z_g0),
  (63, .lconst 0, 1, .long (0 : Int64), [], z_g0),
  (64, .aload_n 0, 1, .null, [], z_g0),
  (65, .getfield 13, 3, .null, [13, 5, 3], z_g0),
  (68, .iload 4, 2, .null, [], z_g0),
  (70, .iaload, 1, .null, [101], z_g0),
  (71, .iconst 1, 1, .int ((1 : Int32)), [], z_g0),
  (72, .isub, 1, .null, [], z_g0),
  (73, .i2l, 1, .null, [], z_g0),
  (74, .invokestatic 274, 3, .null, [0, 0, 0, 0], g_X12_in),
  (77, .ifCond .ne 9, 3, .null, [86], z_g0),
  (80, .aload_n 0, 1, .null, [], z_g0),
  (81, .iconst 2, 1, .int ((2 : Int32)), [], z_g0),
  (82, .invokevirtual 282, 3, .null, [1, 13, 0], g_X12_fails),
  (85, .ireturn, 1, .null, [], z_g0),
  (86, .aload_n 0, 1, .null, [], z_g0),
  (87, .invokevirtual 286, 3, .null, [1, 13], g_X12_well),
  (90, .bipush 64, 2, .int ((64 : Int32)), [], z_g0),
  (92, .iload 4, 2, .null, [], z_g0),
  (94, .imul, 1, .null, [], z_g0),
  (95, .iload_n 3, 1, .null, [], z_g0),
  (96, .iadd, 1, .null, [], z_g0),
  (97, .ireturn, 1, .null, [], z_g0)]
set_option maxRecDepth 100000 in
theorem r_X12_spotAt (v0 : Nat) (v1 : Int32) (v2 : Int32) (v3 : Int32) (S : z_St) : z_seg z_rI (c_X12_spotAt) [] (fun pc => fun _ _ _ => none) 65 (c_X12_spotAt) [(0, .ref v0), (1, .int v1), (2, .int v2), (3, .int v3)] [] S = b_X12_spotAt v0 v1 v2 v3 S := rfl
def b_X12_spot (v0 : Nat) (v1 : Int32) (v2 : Int32) (v3 : Int32) (S : z_St) : Option (Int64 × z_St) :=
z_chk S v0 13 (
let S1 := z_wi S v0 0 ((0 : Int32))
z_chk S1 v0 13 (
(f_X12_spotAt v0 v1 v2 v3 S1).bind fun q2 =>
if 0 ≤ q2.1 then
(z_chk q2.2 v0 13 (
z_onV (va_rf (z_r q2.2 v0 9)) fun b3 =>
z_inb q2.2 b3 101 v1 (
z_chk q2.2 v0 13 (
z_onV (va_rf (z_r q2.2 v0 6)) fun b4 =>
z_inb q2.2 b4 102 q2.1 (
(f_X12_wholeOf ((z_i q2.2 b3 v1.toNatClampNeg)) ((z_l q2.2 b4 q2.1.toNatClampNeg)) q2.2).bind fun q5 =>
some (q5.1, q5.2))))))
else
(some (q2.1.toInt64, q2.2))))
def f_X12_spot : Nat → Int32 → Int32 → Int32 → z_St → Option (Int64 × z_St) := z_op (b_X12_spot)
theorem e_X12_spot (v0 : Nat) (v1 : Int32) (v2 : Int32) (v3 : Int32) (S : z_St) : f_X12_spot v0 v1 v2 v3 S = b_X12_spot v0 v1 v2 v3 S := congrFun (congrFun (congrFun (congrFun (congrFun (z_op_eq (b_X12_spot)) v0) v1) v2) v3) S
def g_X12_spot : z_G := .inr (.inl (fun as S => match as with
  | [.ref v0, .int v1, .int v2, .int v3] => f_X12_spot v0 v1 v2 v3 S
  | _ => none))
def c_X12_spot : List z_E := [
  (0, .aload_n 0, 1, .null, [], z_g0),
  (1, .iconst 0, 1, .int ((0 : Int32)), [], z_g0),
  (2, .putfield 224, 3, .null, [13, 0, 0], z_g0),
  (5, .aload_n 0, 1, .null, [], z_g0),
  (6, .iload_n 1, 1, .null, [], z_g0),
  (7, .iload_n 2, 1, .null, [], z_g0),
  (8, .iload_n 3, 1, .null, [], z_g0),
  (9, .invokevirtual 327, 3, .null, [1, 13, 0, 0, 0], g_X12_spotAt),
  (12, .istore 4, 2, .null, [], z_g0),
  (14, .iload 4, 2, .null, [], z_g0),
  (16, .ifCond .ge 9, 3, .null, [25], z_g0),
  (19, .iload 4, 2, .null, [], z_g0),
  (21, .i2l, 1, .null, [], z_g0),
  (22, .goto 19, 3, .null, [41], z_g0),
  (25, .aload_n 0, 1, .null, [], z_g0),
  (26, .getfield 23, 3, .null, [13, 9, 3], z_g0),
  (29, .iload_n 1, 1, .null, [], z_g0),
  (30, .iaload, 1, .null, [101], z_g0),
  (31, .aload_n 0, 1, .null, [], z_g0),
  (32, .getfield 16, 3, .null, [13, 6, 3], z_g0),
  (35, .iload 4, 2, .null, [], z_g0),
  (37, .laload, 1, .null, [], z_g0),
  (38, .invokestatic 305, 3, .null, [0, 0, 0], g_X12_wholeOf),
  (41, .lreturn, 1, .null, [], z_g0)]
set_option maxRecDepth 100000 in
theorem r_X12_spot (v0 : Nat) (v1 : Int32) (v2 : Int32) (v3 : Int32) (S : z_St) : z_seg z_rL (c_X12_spot) [] (fun pc => fun _ _ _ => none) 27 (c_X12_spot) [(0, .ref v0), (1, .int v1), (2, .int v2), (3, .int v3)] [] S = b_X12_spot v0 v1 v2 v3 S := rfl
def b_X12_setSpot (v0 : Nat) (v1 : Int32) (v2 : Int32) (v3 : Int32) (v4 : Int64) (S : z_St) : Option (Int32 × z_St) :=
z_chk S v0 13 (
let S1 := z_wi S v0 0 ((0 : Int32))
z_chk S1 v0 13 (
(f_X12_spotAt v0 v1 v2 v3 S1).bind fun q2 =>
if 0 ≤ q2.1 then
(z_chk q2.2 v0 13 (
z_chk q2.2 v0 13 (
z_onV (va_rf (z_r q2.2 v0 9)) fun b3 =>
z_inb q2.2 b3 101 v1 (
(f_X12_cellOfWhole ((z_i q2.2 b3 v1.toNatClampNeg)) v4 q2.2).bind fun q4 =>
z_onV (va_rf (z_r q2.2 v0 6)) fun b5 =>
z_inb q4.2 b5 102 q2.1 (
let S6 := z_wl q4.2 b5 q2.1.toNatClampNeg q4.1
some ((1 : Int32), S6))))))
else
(some (q2.1, q2.2))))
def f_X12_setSpot : Nat → Int32 → Int32 → Int32 → Int64 → z_St → Option (Int32 × z_St) := z_op (b_X12_setSpot)
theorem e_X12_setSpot (v0 : Nat) (v1 : Int32) (v2 : Int32) (v3 : Int32) (v4 : Int64) (S : z_St) : f_X12_setSpot v0 v1 v2 v3 v4 S = b_X12_setSpot v0 v1 v2 v3 v4 S := congrFun (congrFun (congrFun (congrFun (congrFun (congrFun (z_op_eq (b_X12_setSpot)) v0) v1) v2) v3) v4) S
def g_X12_setSpot : z_G := .inl (fun as S => match as with
  | [.ref v0, .int v1, .int v2, .int v3, .long v4] => f_X12_setSpot v0 v1 v2 v3 v4 S
  | _ => none)
def c_X12_setSpot : List z_E := [
  (0, .aload_n 0, 1, .null, [], z_g0),
  (1, .iconst 0, 1, .int ((0 : Int32)), [], z_g0),
  (2, .putfield 224, 3, .null, [13, 0, 0], z_g0),
  (5, .aload_n 0, 1, .null, [], z_g0),
  (6, .iload_n 1, 1, .null, [], z_g0),
  (7, .iload_n 2, 1, .null, [], z_g0),
  (8, .iload_n 3, 1, .null, [], z_g0),
  (9, .invokevirtual 327, 3, .null, [1, 13, 0, 0, 0], g_X12_spotAt),
  (12, .istore 6, 2, .null, [], z_g0),
  (14, .iload 6, 2, .null, [], z_g0),
  (16, .ifCond .ge 6, 3, .null, [22], z_g0),
  (19, .iload 6, 2, .null, [], z_g0),
  (21, .ireturn, 1, .null, [], z_g0),
  (22, .aload_n 0, 1, .null, [], z_g0),
  (23, .getfield 16, 3, .null, [13, 6, 3], z_g0),
  (26, .iload 6, 2, .null, [], z_g0),
  (28, .aload_n 0, 1, .null, [], z_g0),
  (29, .getfield 23, 3, .null, [13, 9, 3], z_g0),
  (32, .iload_n 1, 1, .null, [], z_g0),
  (33, .iaload, 1, .null, [101], z_g0),
  (34, .lload 4, 2, .null, [], z_g0),
  (36, .invokestatic 267, 3, .null, [0, 0, 0], g_X12_cellOfWhole),
  (39, .lastore, 1, .null, [], z_g0),
  (40, .iconst 1, 1, .int ((1 : Int32)), [], z_g0),
  (41, .ireturn, 1, .null, [], z_g0)]
set_option maxRecDepth 100000 in
theorem r_X12_setSpot (v0 : Nat) (v1 : Int32) (v2 : Int32) (v3 : Int32) (v4 : Int64) (S : z_St) : z_seg z_rI (c_X12_setSpot) [] (fun pc => fun _ _ _ => none) 28 (c_X12_setSpot) [(0, .ref v0), (1, .int v1), (2, .int v2), (3, .int v3), (4, .long v4)] [] S = b_X12_setSpot v0 v1 v2 v3 v4 S := rfl
end
