noncomputable section
def b_X11_stock (v0 : Nat) (v1 : Int64) (S : z_St) : Option (Int64 × z_St) :=
if (lg_cmp v1 ((0 : Int64))) < 0 then
(some ((-2000000002 : Int64), S))
else
(if (lg_cmp v1 ((1000000000000000 : Int64))) ≤ 0 then
(z_chk S v0 12 (
z_onV (va_rf (z_r S v0 12)) fun b1 =>
z_chk S b1 1 (
let x2 := (z_l S b1 2)
z_chk S v0 12 (
z_onV (va_rf (z_r S v0 12)) fun b3 =>
z_chk S b3 1 (
let S4 := z_wl S b3 2 v1
some (x2, S4))))))
else
(some ((-2000000002 : Int64), S)))
def f_X11_stock : Nat → Int64 → z_St → Option (Int64 × z_St) := z_op (b_X11_stock)
theorem e_X11_stock (v0 : Nat) (v1 : Int64) (S : z_St) : f_X11_stock v0 v1 S = b_X11_stock v0 v1 S := congrFun (congrFun (congrFun (z_op_eq (b_X11_stock)) v0) v1) S
def g_X11_stock : z_G := .inr (.inl (fun as S => match as with
  | [.ref v0, .long v1] => f_X11_stock v0 v1 S
  | _ => none))
def c_X11_stock : List z_E := [
  (0, .lload_n 1, 1, .null, [], z_g0),
  (1, .lconst 0, 1, .long (0 : Int64), [], z_g0),
  (2, .lcmp, 1, .null, [], z_g0),
  (3, .ifCond .lt 11, 3, .null, [14], z_g0),
  (6, .lload_n 1, 1, .null, [], z_g0),
  (7, .ldc2_w 314, 3, .long (1000000000000000 : Int64), [], z_g0),
  (10, .lcmp, 1, .null, [], z_g0),
  (11, .ifCond .le 7, 3, .null, [18], z_g0),
  (14, .ldc2_w 244, 3, .long (-2000000002 : Int64), [], z_g0),
  (17, .lreturn, 1, .null, [], z_g0),
  (18, .aload_n 0, 1, .null, [], z_g0),
  (19, .getfield 49, 3, .null, [12, 12, 3], z_g0),
  (22, .getfield 316, 3, .null, [1, 2, 1], z_g0),
  (25, .lstore_n 3, 1, .null, [], z_g0),
  (26, .aload_n 0, 1, .null, [], z_g0),
  (27, .getfield 49, 3, .null, [12, 12, 3], z_g0),
  (30, .lload_n 1, 1, .null, [], z_g0),
  (31, .putfield 316, 3, .null, [1, 2, 1], z_g0),
  (34, .lload_n 3, 1, .null, [], z_g0),
  (35, .lreturn, 1, .null, [], z_g0)]
set_option maxRecDepth 100000 in
theorem r_X11_stock (v0 : Nat) (v1 : Int64) (S : z_St) : z_seg z_rL (c_X11_stock) [] (fun pc => fun _ _ _ => none) 23 (c_X11_stock) [(0, .ref v0), (1, .long v1)] [] S = b_X11_stock v0 v1 S := rfl
def b_X11_gate (v0 : Nat) (v1 : Int32) (v2 : Int32) (S : z_St) : Option (Int32 × z_St) :=
(f_X11_outOf v1 ((0 : Int32)) ((3 : Int32)) S).bind fun q1 =>
if q1.1 = 0 then
((f_X11_outOf v2 ((0 : Int32)) ((1 : Int32)) q1.2).bind fun q2 =>
if q2.1 = 0 then
(if v2 = 0 then
(z_chk q2.2 v0 12 (
z_onV (va_rf (z_r q2.2 v0 12)) fun b5 =>
z_chk q2.2 b5 1 (
z_onV (va_rf (z_r q2.2 b5 3)) fun b6 =>
z_inb q2.2 b6 101 v1 (
some ((z_i q2.2 b6 v1.toNatClampNeg), q2.2)))))
else
(z_chk q2.2 v0 12 (
z_onV (va_rf (z_r q2.2 v0 12)) fun b3 =>
z_chk q2.2 b3 1 (
z_onV (va_rf (z_r q2.2 b3 4)) fun b4 =>
z_inb q2.2 b4 101 v1 (
some ((z_i q2.2 b4 v1.toNatClampNeg), q2.2))))))
else
(some ((-2000000002 : Int32), q2.2)))
else
(some ((-2000000001 : Int32), q1.2))
def f_X11_gate : Nat → Int32 → Int32 → z_St → Option (Int32 × z_St) := z_op (b_X11_gate)
theorem e_X11_gate (v0 : Nat) (v1 : Int32) (v2 : Int32) (S : z_St) : f_X11_gate v0 v1 v2 S = b_X11_gate v0 v1 v2 S := congrFun (congrFun (congrFun (congrFun (z_op_eq (b_X11_gate)) v0) v1) v2) S
def g_X11_gate : z_G := .inl (fun as S => match as with
  | [.ref v0, .int v1, .int v2] => f_X11_gate v0 v1 v2 S
  | _ => none)
def c_X11_gate : List z_E := [
  (0, .iload_n 1, 1, .null, [], z_g0),
  (1, .iconst 0, 1, .int ((0 : Int32)), [], z_g0),
  (2, .iconst 3, 1, .int ((3 : Int32)), [], z_g0),
  (3, .invokestatic 81, 3, .null, [0, 0, 0, 0], g_X11_outOf),
  (6, .ifCond .eq 6, 3, .null, [12], z_g0),
  (9, .ldc 109, 2, .int (-2000000001 : Int32), [], z_g0),
  (11, .ireturn, 1, .null, [], z_g0),
  (12, .iload_n 2, 1, .null, [], z_g0),
  (13, .iconst 0, 1, .int ((0 : Int32)), [], z_g0),
  (14, .iconst 1, 1, .int ((1 : Int32)), [], z_g0),
  (15, .invokestatic 81, 3, .null, [0, 0, 0, 0], g_X11_outOf),
  (18, .ifCond .eq 6, 3, .null, [24], z_g0),
  (21, .ldc 85, 2, .int (-2000000002 : Int32), [], z_g0),
  (23, .ireturn, 1, .null, [], z_g0),
  (24, .iload_n 2, 1, .null, [], z_g0),
  (25, .ifCond .ne 15, 3, .null, [40], z_g0),
  (28, .aload_n 0, 1, .null, [], z_g0),
  (29, .getfield 49, 3, .null, [12, 12, 3], z_g0),
  (32, .getfield 320, 3, .null, [1, 3, 3], z_g0),
  (35, .iload_n 1, 1, .null, [], z_g0),
  (36, .iaload, 1, .null, [101], z_g0),
  (37, .goto 12, 3, .null, [49], z_g0),
  (40, .aload_n 0, 1, .null, [], z_g0),
  (41, .getfield 49, 3, .null, [12, 12, 3], z_g0),
  (44, .getfield 323, 3, .null, [1, 4, 3], z_g0),
  (47, .iload_n 1, 1, .null, [], z_g0),
  (48, .iaload, 1, .null, [101], z_g0),
  (49, .ireturn, 1, .null, [], z_g0)]
set_option maxRecDepth 100000 in
theorem r_X11_gate (v0 : Nat) (v1 : Int32) (v2 : Int32) (S : z_St) : z_seg z_rI (c_X11_gate) [] (fun pc => fun _ _ _ => none) 31 (c_X11_gate) [(0, .ref v0), (1, .int v1), (2, .int v2)] [] S = b_X11_gate v0 v1 v2 S := rfl
def b_X11_signal (v0 : Nat) (v1 : Int32) (S : z_St) : Option (Int32 × z_St) :=
z_chk S v0 12 (
z_onV (va_rf (z_r S v0 12)) fun b1 =>
z_chk S b1 1 (
(f_X11_outOf v1 ((0 : Int32)) (((z_i S b1 6)) - ((1 : Int32))) S).bind fun q2 =>
if q2.1 = 0 then
(z_chk q2.2 v0 12 (
z_onV (va_rf (z_r q2.2 v0 12)) fun b3 =>
z_chk q2.2 b3 1 (
z_onV (va_rf (z_r q2.2 b3 5)) fun b4 =>
z_inb q2.2 b4 101 v1 (
some ((z_i q2.2 b4 v1.toNatClampNeg), q2.2)))))
else
(some ((-1 : Int32), q2.2))))
def f_X11_signal : Nat → Int32 → z_St → Option (Int32 × z_St) := z_op (b_X11_signal)
theorem e_X11_signal (v0 : Nat) (v1 : Int32) (S : z_St) : f_X11_signal v0 v1 S = b_X11_signal v0 v1 S := congrFun (congrFun (congrFun (z_op_eq (b_X11_signal)) v0) v1) S
def g_X11_signal : z_G := .inl (fun as S => match as with
  | [.ref v0, .int v1] => f_X11_signal v0 v1 S
  | _ => none)
def c_X11_signal : List z_E := [
  (0, .iload_n 1, 1, .null, [], z_g0),
  (1, .iconst 0, 1, .int ((0 : Int32)), [], z_g0),
  (2, .aload_n 0, 1, .null, [], z_g0),
  (3, .getfield 49, 3, .null, [12, 12, 3], z_g0),
  (6, .getfield 326, 3, .null, [1, 6, 0], z_g0),
  (9, .iconst 1, 1, .int ((1 : Int32)), [], z_g0),
  (10, .isub, 1, .null, [], z_g0),
  (11, .invokestatic 81, 3, .null, [0, 0, 0, 0], g_X11_outOf),
  (14, .ifCond .eq 7, 3, .null, [21], z_g0),
  (17, .iconst (-1), 1, .int ((-1 : Int32)), [], z_g0),
  (18, .goto 12, 3, .null, [30], z_g0),
  (21, .aload_n 0, 1, .null, [], z_g0),
  (22, .getfield 49, 3, .null, [12, 12, 3], z_g0),
  (25, .getfield 329, 3, .null, [1, 5, 3], z_g0),
  (28, .iload_n 1, 1, .null, [], z_g0),
  (29, .iaload, 1, .null, [101], z_g0),
  (30, .ireturn, 1, .null, [], z_g0)]
set_option maxRecDepth 100000 in
theorem r_X11_signal (v0 : Nat) (v1 : Int32) (S : z_St) : z_seg z_rI (c_X11_signal) [] (fun pc => fun _ _ _ => none) 20 (c_X11_signal) [(0, .ref v0), (1, .int v1)] [] S = b_X11_signal v0 v1 S := rfl
def b_X11_table (v0 : Nat) (v1 : Int32) (S : z_St) : Option (Int64 × z_St) :=
(f_X11_outOf v1 ((0 : Int32)) ((40 : Int32)) S).bind fun q1 =>
if q1.1 = 0 then
((f_X6_unitsAt v1 q1.2).bind fun q2 =>
z_chk q2.2 v0 12 (
(f_X11_passesLong v0 q2.1.toInt64 q2.2).bind fun q3 =>
some (q3.1, q3.2)))
else
(z_chk q1.2 v0 12 (
(f_X11_fails v0 ((2 : Int32)) q1.2).bind fun q4 =>
some (q4.1.toInt64, q4.2)))
def f_X11_table : Nat → Int32 → z_St → Option (Int64 × z_St) := z_op (b_X11_table)
theorem e_X11_table (v0 : Nat) (v1 : Int32) (S : z_St) : f_X11_table v0 v1 S = b_X11_table v0 v1 S := congrFun (congrFun (congrFun (z_op_eq (b_X11_table)) v0) v1) S
def g_X11_table : z_G := .inr (.inl (fun as S => match as with
  | [.ref v0, .int v1] => f_X11_table v0 v1 S
  | _ => none))
def c_X11_table : List z_E := [
  (0, .iload_n 1, 1, .null, [], z_g0),
  (1, .iconst 0, 1, .int ((0 : Int32)), [], z_g0),
  (2, .bipush 40, 2, .int ((40 : Int32)), [], z_g0),
  (4, .invokestatic 81, 3, .null, [0, 0, 0, 0], g_X11_outOf),
  (7, .ifCond .eq 10, 3, .null, [17], z_g0),
  (10, .aload_n 0, 1, .null, [], z_g0),
  (11, .iconst 2, 1, .int ((2 : Int32)), [], z_g0),
  (12, .invokevirtual 91, 3, .null, [1, 12, 0], g_X11_fails),
  (15, .i2l, 1, .null, [], z_g0),
  (16, .lreturn, 1, .null, [], z_g0),
  (17, .aload_n 0, 1, .null, [], z_g0),
  (18, .iload_n 1, 1, .null, [], z_g0),
  (19, .invokestatic 332, 3, .null, [0, 0], g_X6_unitsAt),
  (22, .i2l, 1, .null, [], z_g0),
  (23, .invokevirtual 135, 3, .null, [1, 12, 0], g_X11_passesLong),
  (26, .lreturn, 1, .null, [], z_g0)]
set_option maxRecDepth 100000 in
theorem r_X11_table (v0 : Nat) (v1 : Int32) (S : z_St) : z_seg z_rL (c_X11_table) [] (fun pc => fun _ _ _ => none) 19 (c_X11_table) [(0, .ref v0), (1, .int v1)] [] S = b_X11_table v0 v1 S := rfl
def b_X11_within (v0 : Int64) (v2 : UInt64) (v4 : UInt64) (S : z_St) : Option (Int32 × z_St) :=
(f_X11_noNumber v0 S).bind fun q1 =>
if q1.1 = 0 then
((f_X11_realOf v0 q1.2).bind fun q2 =>
if (Op.cmpValue (FP.dcmp q2.1 v2) .l) < 0 then
(z_rb ((0 : Int32)) q2.2)
else
(if 0 < (Op.cmpValue (FP.dcmp q2.1 v4) .g) then
(z_rb ((0 : Int32)) q2.2)
else
(z_rb ((1 : Int32)) q2.2)))
else
(z_rb ((0 : Int32)) q1.2)
def f_X11_within : Int64 → UInt64 → UInt64 → z_St → Option (Int32 × z_St) := z_op (b_X11_within)
theorem e_X11_within (v0 : Int64) (v2 : UInt64) (v4 : UInt64) (S : z_St) : f_X11_within v0 v2 v4 S = b_X11_within v0 v2 v4 S := congrFun (congrFun (congrFun (congrFun (z_op_eq (b_X11_within)) v0) v2) v4) S
def g_X11_within : z_G := .inl (fun as S => match as with
  | [.long v0, .double v2, .double v4] => f_X11_within v0 v2 v4 S
  | _ => none)
def c_X11_within : List z_E := [
  (0, .lload_n 0, 1, .null, [], z_g0),
  (1, .invokestatic 405, 3, .null, [0, 0], g_X11_noNumber),
  (4, .ifCond .eq 5, 3, .null, [9], z_g0),
  (7, .iconst 0, 1, .int ((0 : Int32)), [], z_g0),
  (8, .ireturn, 1, .null, [], z_g0),
  (9, .lload_n 0, 1, .null, [], z_g0),
  (10, .invokestatic 339, 3, .null, [0, 0], g_X11_realOf),
  (13, .dstore 6, 2, .null, [], z_g0),
  (15, .dload 6, 2, .null, [], z_g0),
  (17, .dload_n 2, 1, .null, [], z_g0),
  (18, .dcmp .l, 1, .null, [], z_g0),
  (19, .ifCond .lt 15, 3, .null, [34], z_g0),
  (22, .dload 6, 2, .null, [], z_g0),
  (24, .dload 4, 2, .null, [], z_g0),
  (26, .dcmp .g, 1, .null, [], z_g0),
  (27, .ifCond .gt 7, 3, .null, [34], z_g0),
  (30, .iconst 1, 1, .int ((1 : Int32)), [], z_g0),
  (31, .goto 4, 3, .null, [35], z_g0),
  (34, .iconst 0, 1, .int ((0 : Int32)), [], z_g0),
  (35, .ireturn, 1, .null, [], z_g0)]
set_option maxRecDepth 100000 in
theorem r_X11_within (v0 : Int64) (v2 : UInt64) (v4 : UInt64) (S : z_St) : z_seg z_rZ (c_X11_within) [] (fun pc => fun _ _ _ => none) 23 (c_X11_within) [(0, .long v0), (2, .double v2), (4, .double v4)] [] S = b_X11_within v0 v2 v4 S := rfl
def b_X11_turned (v0 : Nat) (v1 : Int64) (S : z_St) : Option (Int64 × z_St) :=
(f_X6_unitsAt ((40 : Int32)) S).bind fun q1 =>
(f_X11_within v1 FP.dconst0 (FP.i2d q1.1) q1.2).bind fun q2 =>
if q2.1 = 0 then
(some ((-2000000002 : Int64), q2.2))
else
((f_X11_realOf v1 q2.2).bind fun q3 =>
(f_X6_levelOf q3.1 q3.2).bind fun q4 =>
(f_X11_bitsOf q4.1 q4.2).bind fun q5 =>
some (q5.1, q5.2))
def f_X11_turned : Nat → Int64 → z_St → Option (Int64 × z_St) := z_op (b_X11_turned)
theorem e_X11_turned (v0 : Nat) (v1 : Int64) (S : z_St) : f_X11_turned v0 v1 S = b_X11_turned v0 v1 S := congrFun (congrFun (congrFun (z_op_eq (b_X11_turned)) v0) v1) S
def g_X11_turned : z_G := .inr (.inl (fun as S => match as with
  | [.ref v0, .long v1] => f_X11_turned v0 v1 S
  | _ => none))
def c_X11_turned : List z_E := [
  (0, .lload_n 1, 1, .null, [], z_g0),
  (1, .dconst 0, 1, .double FP.dconst0, [], z_g0),
  (2, .bipush 40, 2, .int ((40 : Int32)), [], z_g0),
  (4, .invokestatic 332, 3, .null, [0, 0], g_X6_unitsAt),
  (7, .i2d, 1, .null, [], z_g0),
  (8, .invokestatic 335, 3, .null, [0, 0, 0, 0], g_X11_within),
  (11, .ifCond .ne 7, 3, .null, [18], z_g0),
  (14, .ldc2_w 244, 3, .long (-2000000002 : Int64), [], z_g0),
  (17, .lreturn, 1, .null, [], z_g0),
  (18, .lload_n 1, 1, .null, [], z_g0),
  (19, .invokestatic 339, 3, .null, [0, 0], g_X11_realOf),
  (22, .invokestatic 343, 3, .null, [0, 0], g_X6_levelOf),
  (25, .invokestatic 347, 3, .null, [0, 0], g_X11_bitsOf),
  (28, .lreturn, 1, .null, [], z_g0)]
set_option maxRecDepth 100000 in
theorem r_X11_turned (v0 : Nat) (v1 : Int64) (S : z_St) : z_seg z_rL (c_X11_turned) [] (fun pc => fun _ _ _ => none) 17 (c_X11_turned) [(0, .ref v0), (1, .long v1)] [] S = b_X11_turned v0 v1 S := rfl
def b_X11_oneNoNumber (v0 : Int64) (S : z_St) : Option (Int64 × z_St) :=
(f_X11_noNumber v0 S).bind fun q1 =>
if q1.1 = 0 then
(some (v0, q1.2))
else
(some ((9221120237041090560 : Int64), q1.2))
def f_X11_oneNoNumber : Int64 → z_St → Option (Int64 × z_St) := z_op (b_X11_oneNoNumber)
theorem e_X11_oneNoNumber (v0 : Int64) (S : z_St) : f_X11_oneNoNumber v0 S = b_X11_oneNoNumber v0 S := congrFun (congrFun (z_op_eq (b_X11_oneNoNumber)) v0) S
def g_X11_oneNoNumber : z_G := .inr (.inl (fun as S => match as with
  | [.long v0] => f_X11_oneNoNumber v0 S
  | _ => none))
def c_X11_oneNoNumber : List z_E := [
  (0, .lload_n 0, 1, .null, [], z_g0),
  (1, .invokestatic 405, 3, .null, [0, 0], g_X11_noNumber),
  (4, .ifCond .eq 9, 3, .null, [13], z_g0),
  (7, .ldc2_w 457, 3, .long (9221120237041090560 : Int64), [], z_g0),
  (10, .goto 4, 3, .null, [14], z_g0),
  (13, .lload_n 0, 1, .null, [], z_g0),
  (14, .lreturn, 1, .null, [], z_g0)]
set_option maxRecDepth 100000 in
theorem r_X11_oneNoNumber (v0 : Int64) (S : z_St) : z_seg z_rL (c_X11_oneNoNumber) [] (fun pc => fun _ _ _ => none) 10 (c_X11_oneNoNumber) [(0, .long v0)] [] S = b_X11_oneNoNumber v0 S := rfl
def b_X11_noneOrWithin (v0 : Int64) (v2 : UInt64) (v4 : UInt64) (S : z_St) : Option (Int32 × z_St) :=
(f_X11_noNumber v0 S).bind fun q1 =>
if q1.1 = 0 then
((f_X11_within v0 v2 v4 q1.2).bind fun q2 =>
if q2.1 = 0 then
(z_rb ((0 : Int32)) q2.2)
else
(z_rb ((1 : Int32)) q2.2))
else
(z_rb ((1 : Int32)) q1.2)
def f_X11_noneOrWithin : Int64 → UInt64 → UInt64 → z_St → Option (Int32 × z_St) := z_op (b_X11_noneOrWithin)
theorem e_X11_noneOrWithin (v0 : Int64) (v2 : UInt64) (v4 : UInt64) (S : z_St) : f_X11_noneOrWithin v0 v2 v4 S = b_X11_noneOrWithin v0 v2 v4 S := congrFun (congrFun (congrFun (congrFun (z_op_eq (b_X11_noneOrWithin)) v0) v2) v4) S
def g_X11_noneOrWithin : z_G := .inl (fun as S => match as with
  | [.long v0, .double v2, .double v4] => f_X11_noneOrWithin v0 v2 v4 S
  | _ => none)
def c_X11_noneOrWithin : List z_E := [
  (0, .lload_n 0, 1, .null, [], z_g0),
  (1, .invokestatic 405, 3, .null, [0, 0], g_X11_noNumber),
  (4, .ifCond .ne 13, 3, .null, [17], z_g0),
  (7, .lload_n 0, 1, .null, [], z_g0),
  (8, .dload_n 2, 1, .null, [], z_g0),
  (9, .dload 4, 2, .null, [], z_g0),
  (11, .invokestatic 335, 3, .null, [0, 0, 0, 0], g_X11_within),
  (14, .ifCond .eq 7, 3, .null, [21], z_g0),
  (17, .iconst 1, 1, .int ((1 : Int32)), [], z_g0),
  (18, .goto 4, 3, .null, [22], z_g0),
  (21, .iconst 0, 1, .int ((0 : Int32)), [], z_g0),
  (22, .ireturn, 1, .null, [], z_g0)]
set_option maxRecDepth 100000 in
theorem r_X11_noneOrWithin (v0 : Int64) (v2 : UInt64) (v4 : UInt64) (S : z_St) : z_seg z_rZ (c_X11_noneOrWithin) [] (fun pc => fun _ _ _ => none) 15 (c_X11_noneOrWithin) [(0, .long v0), (2, .double v2), (4, .double v4)] [] S = b_X11_noneOrWithin v0 v2 v4 S := rfl
def b_X11_reading (v0 : Nat) (v1 : Int32) (v2 : Int64) (S : z_St) : Option (Int32 × z_St) :=
(f_X11_outOf v1 ((0 : Int32)) ((5 : Int32)) S).bind fun q1 =>
if q1.1 = 0 then
((f_X11_noneOrWithin v2 ((13875379345695965184 : UInt64)) ((4652007308841189376 : UInt64)) q1.2).bind fun q2 =>
if q2.1 = 0 then
(some ((-2000000002 : Int32), q2.2))
else
(z_chk q2.2 v0 12 (
z_onV (va_rf (z_r q2.2 v0 13)) fun b3 =>
z_chk q2.2 b3 7 (
z_onV (va_rf (z_r q2.2 b3 16)) fun b4 =>
z_chk q2.2 b4 11 (
(f_X11_oneNoNumber v2 q2.2).bind fun q5 =>
z_onV (va_rf (z_r q2.2 b4 0)) fun b6 =>
z_inb q5.2 b6 102 v1 (
let S7 := z_wl q5.2 b6 v1.toNatClampNeg q5.1
some ((1 : Int32), S7)))))))
else
(some ((-2000000001 : Int32), q1.2))
def f_X11_reading : Nat → Int32 → Int64 → z_St → Option (Int32 × z_St) := z_op (b_X11_reading)
theorem e_X11_reading (v0 : Nat) (v1 : Int32) (v2 : Int64) (S : z_St) : f_X11_reading v0 v1 v2 S = b_X11_reading v0 v1 v2 S := congrFun (congrFun (congrFun (congrFun (z_op_eq (b_X11_reading)) v0) v1) v2) S
def g_X11_reading : z_G := .inl (fun as S => match as with
  | [.ref v0, .int v1, .long v2] => f_X11_reading v0 v1 v2 S
  | _ => none)
def c_X11_reading : List z_E := [
  (0, .iload_n 1, 1, .null, [], z_g0),
  (1, .iconst 0, 1, .int ((0 : Int32)), [], z_g0),
  (2, .iconst 5, 1, .int ((5 : Int32)), [], z_g0),
  (3, .invokestatic 81, 3, .null, [0, 0, 0, 0], g_X11_outOf),
  (6, .ifCond .eq 6, 3, .null, [12], z_g0),
  (9, .ldc 109, 2, .int (-2000000001 : Int32), [], z_g0),
  (11, .ireturn, 1, .null, [], z_g0),
  (12, .lload_n 2, 1, .null, [], z_g0),
  (13, .ldc2_w 351, 3, .double (13875379345695965184 : UInt64), [], z_g0),
  (16, .ldc2_w 353, 3, .double (4652007308841189376 : UInt64), [], z_g0),
  (19, .invokestatic 355, 3, .null, [0, 0, 0, 0], g_X11_noneOrWithin),
  (22, .ifCond .ne 6, 3, .null, [28], z_g0),
  (25, .ldc 85, 2, .int (-2000000002 : Int32), [], z_g0),
  (27, .ireturn, 1, .null, [], z_g0),
  (28, .aload_n 0, 1, .null, [], z_g0),
  (29, .getfield 56, 3, .null, [12, 13, 3], z_g0),
  (32, .getfield 358, 3, .null, [7, 16, 3], z_g0),
  (35, .getfield 362, 3, .null, [11, 0, 3], z_g0),
  (38, .iload_n 1, 1, .null, [], z_g0),
  (39, .lload_n 2, 1, .null, [], z_g0),
  (40, .invokestatic 366, 3, .null, [0, 0], g_X11_oneNoNumber),
  (43, .lastore, 1, .null, [], z_g0),
  (44, .iconst 1, 1, .int ((1 : Int32)), [], z_g0),
  (45, .ireturn, 1, .null, [], z_g0)]
set_option maxRecDepth 100000 in
theorem r_X11_reading (v0 : Nat) (v1 : Int32) (v2 : Int64) (S : z_St) : z_seg z_rI (c_X11_reading) [] (fun pc => fun _ _ _ => none) 27 (c_X11_reading) [(0, .ref v0), (1, .int v1), (2, .long v2)] [] S = b_X11_reading v0 v1 v2 S := rfl
def b_X11_word (v0 : Nat) (v1 : Int64) (S : z_St) : Option (Int32 × z_St) :=
(f_X11_noneOrWithin v1 FP.dconst0 ((4636737291354636288 : UInt64)) S).bind fun q1 =>
if q1.1 = 0 then
(some ((-2000000002 : Int32), q1.2))
else
(z_chk q1.2 v0 12 (
z_onV (va_rf (z_r q1.2 v0 13)) fun b2 =>
z_chk q1.2 b2 7 (
(f_X11_oneNoNumber v1 q1.2).bind fun q3 =>
z_onV (va_rf (z_r q1.2 b2 16)) fun b4 =>
z_chk q3.2 b4 11 (
let S5 := z_wl q3.2 b4 1 q3.1
some ((1 : Int32), S5)))))
def f_X11_word : Nat → Int64 → z_St → Option (Int32 × z_St) := z_op (b_X11_word)
theorem e_X11_word (v0 : Nat) (v1 : Int64) (S : z_St) : f_X11_word v0 v1 S = b_X11_word v0 v1 S := congrFun (congrFun (congrFun (z_op_eq (b_X11_word)) v0) v1) S
def g_X11_word : z_G := .inl (fun as S => match as with
  | [.ref v0, .long v1] => f_X11_word v0 v1 S
  | _ => none)
def c_X11_word : List z_E := [
  (0, .lload_n 1, 1, .null, [], z_g0),
  (1, .dconst 0, 1, .double FP.dconst0, [], z_g0),
  (2, .ldc2_w 369, 3, .double (4636737291354636288 : UInt64), [], z_g0),
  (5, .invokestatic 355, 3, .null, [0, 0, 0, 0], g_X11_noneOrWithin),
  (8, .ifCond .ne 6, 3, .null, [14], z_g0),
  (11, .ldc 85, 2, .int (-2000000002 : Int32), [], z_g0),
  (13, .ireturn, 1, .null, [], z_g0),
  (14, .aload_n 0, 1, .null, [], z_g0),
  (15, .getfield 56, 3, .null, [12, 13, 3], z_g0),
  (18, .getfield 358, 3, .null, [7, 16, 3], z_g0),
  (21, .lload_n 1, 1, .null, [], z_g0),
  (22, .invokestatic 366, 3, .null, [0, 0], g_X11_oneNoNumber),
  (25, .putfield 371, 3, .null, [11, 1, 1], z_g0),
  (28, .iconst 1, 1, .int ((1 : Int32)), [], z_g0),
  (29, .ireturn, 1, .null, [], z_g0)]
set_option maxRecDepth 100000 in
theorem r_X11_word (v0 : Nat) (v1 : Int64) (S : z_St) : z_seg z_rI (c_X11_word) [] (fun pc => fun _ _ _ => none) 18 (c_X11_word) [(0, .ref v0), (1, .long v1)] [] S = b_X11_word v0 v1 S := rfl
def b_X11_stuck (v0 : Nat) (v1 : Int32) (v2 : Int32) (S : z_St) : Option (Int32 × z_St) :=
(f_X11_outOf v1 ((0 : Int32)) ((3 : Int32)) S).bind fun q1 =>
if q1.1 = 0 then
(z_chk q1.2 v0 12 (
z_onV (va_rf (z_r q1.2 v0 13)) fun b2 =>
z_chk q1.2 b2 7 (
z_onV (va_rf (z_r q1.2 b2 13)) fun b3 =>
z_inb q1.2 b3 104 v1 (
let x4 := (z_i q1.2 b3 v1.toNatClampNeg)
z_chk q1.2 v0 12 (
z_onV (va_rf (z_r q1.2 v0 13)) fun b5 =>
z_chk q1.2 b5 7 (
z_onV (va_rf (z_r q1.2 b5 13)) fun b6 =>
z_inb q1.2 b6 104 v1 (
let S7 := z_wi q1.2 b6 v1.toNatClampNeg (vp_nar .boolean v2)
if x4 = 0 then
(some ((0 : Int32), S7))
else
(some ((1 : Int32), S7)))))))))
else
(some ((-2000000001 : Int32), q1.2))
def f_X11_stuck : Nat → Int32 → Int32 → z_St → Option (Int32 × z_St) := z_op (b_X11_stuck)
theorem e_X11_stuck (v0 : Nat) (v1 : Int32) (v2 : Int32) (S : z_St) : f_X11_stuck v0 v1 v2 S = b_X11_stuck v0 v1 v2 S := congrFun (congrFun (congrFun (congrFun (z_op_eq (b_X11_stuck)) v0) v1) v2) S
def g_X11_stuck : z_G := .inl (fun as S => match as with
  | [.ref v0, .int v1, .int v2] => f_X11_stuck v0 v1 v2 S
  | _ => none)
def c_X11_stuck : List z_E := [
  (0, .iload_n 1, 1, .null, [], z_g0),
  (1, .iconst 0, 1, .int ((0 : Int32)), [], z_g0),
  (2, .iconst 3, 1, .int ((3 : Int32)), [], z_g0),
  (3, .invokestatic 81, 3, .null, [0, 0, 0, 0], g_X11_outOf),
  (6, .ifCond .eq 6, 3, .null, [12], z_g0),
  (9, .ldc 109, 2, .int (-2000000001 : Int32), [], z_g0),
  (11, .ireturn, 1, .null, [], z_g0),
  (12, .aload_n 0, 1, .null, [], z_g0),
  (13, .getfield 56, 3, .null, [12, 13, 3], z_g0),
  (16, .getfield 374, 3, .null, [7, 13, 3], z_g0),
  (19, .iload_n 1, 1, .null, [], z_g0),
  (20, .baload, 1, .null, [104], z_g0),
  (21, .istore_n 3, 1, .null, [], z_g0),
  (22, .aload_n 0, 1, .null, [], z_g0),
  (23, .getfield 56, 3, .null, [12, 13, 3], z_g0),
  (26, .getfield 374, 3, .null, [7, 13, 3], z_g0),
  (29, .iload_n 1, 1, .null, [], z_g0),
  (30, .iload_n 2, 1, .null, [], z_g0),
  (31, .bastore, 1, .null, [104], z_g0),
  (32, .iload_n 3, 1, .null, [], z_g0),
  (33, .ifCond .eq 7, 3, .null, [40], z_g0),
  (36, .iconst 1, 1, .int ((1 : Int32)), [], z_g0),
  (37, .goto 4, 3, .null, [41], z_g0),
  (40, .iconst 0, 1, .int ((0 : Int32)), [], z_g0),
  (41, .ireturn, 1, .null, [], z_g0)]
set_option maxRecDepth 100000 in
theorem r_X11_stuck (v0 : Nat) (v1 : Int32) (v2 : Int32) (S : z_St) : z_seg z_rI (c_X11_stuck) [] (fun pc => fun _ _ _ => none) 28 (c_X11_stuck) [(0, .ref v0), (1, .int v1), (2, .int v2)] [] S = b_X11_stuck v0 v1 v2 S := rfl
def b_X11_hand (v0 : Nat) (v1 : Int32) (v2 : Int64) (S : z_St) : Option (Int32 × z_St) :=
(f_X11_outOf v1 ((0 : Int32)) ((3 : Int32)) S).bind fun q1 =>
if q1.1 = 0 then
((f_X11_noneOrWithin v2 FP.dconst0 FP.dconst1 q1.2).bind fun q2 =>
if q2.1 = 0 then
(some ((-2000000002 : Int32), q2.2))
else
(z_chk q2.2 v0 12 (
z_onV (va_rf (z_r q2.2 v0 13)) fun b3 =>
z_chk q2.2 b3 7 (
(f_X11_oneNoNumber v2 q2.2).bind fun q4 =>
z_onV (va_rf (z_r q2.2 b3 12)) fun b5 =>
z_inb q4.2 b5 102 v1 (
let S6 := z_wl q4.2 b5 v1.toNatClampNeg q4.1
some ((1 : Int32), S6))))))
else
(some ((-2000000001 : Int32), q1.2))
def f_X11_hand : Nat → Int32 → Int64 → z_St → Option (Int32 × z_St) := z_op (b_X11_hand)
theorem e_X11_hand (v0 : Nat) (v1 : Int32) (v2 : Int64) (S : z_St) : f_X11_hand v0 v1 v2 S = b_X11_hand v0 v1 v2 S := congrFun (congrFun (congrFun (congrFun (z_op_eq (b_X11_hand)) v0) v1) v2) S
def g_X11_hand : z_G := .inl (fun as S => match as with
  | [.ref v0, .int v1, .long v2] => f_X11_hand v0 v1 v2 S
  | _ => none)
def c_X11_hand : List z_E := [
  (0, .iload_n 1, 1, .null, [], z_g0),
  (1, .iconst 0, 1, .int ((0 : Int32)), [], z_g0),
  (2, .iconst 3, 1, .int ((3 : Int32)), [], z_g0),
  (3, .invokestatic 81, 3, .null, [0, 0, 0, 0], g_X11_outOf),
  (6, .ifCond .eq 6, 3, .null, [12], z_g0),
  (9, .ldc 109, 2, .int (-2000000001 : Int32), [], z_g0),
  (11, .ireturn, 1, .null, [], z_g0),
  (12, .lload_n 2, 1, .null, [], z_g0),
  (13, .dconst 0, 1, .double FP.dconst0, [], z_g0),
  (14, .dconst 1, 1, .double FP.dconst1, [], z_g0),
  (15, .invokestatic 355, 3, .null, [0, 0, 0, 0], g_X11_noneOrWithin),
  (18, .ifCond .ne 6, 3, .null, [24], z_g0),
  (21, .ldc 85, 2, .int (-2000000002 : Int32), [], z_g0),
  (23, .ireturn, 1, .null, [], z_g0),
  (24, .aload_n 0, 1, .null, [], z_g0),
  (25, .getfield 56, 3, .null, [12, 13, 3], z_g0),
  (28, .getfield 378, 3, .null, [7, 12, 3], z_g0),
  (31, .iload_n 1, 1, .null, [], z_g0),
  (32, .lload_n 2, 1, .null, [], z_g0),
  (33, .invokestatic 366, 3, .null, [0, 0], g_X11_oneNoNumber),
  (36, .lastore, 1, .null, [], z_g0),
  (37, .iconst 1, 1, .int ((1 : Int32)), [], z_g0),
  (38, .ireturn, 1, .null, [], z_g0)]
set_option maxRecDepth 100000 in
theorem r_X11_hand (v0 : Nat) (v1 : Int32) (v2 : Int64) (S : z_St) : z_seg z_rI (c_X11_hand) [] (fun pc => fun _ _ _ => none) 26 (c_X11_hand) [(0, .ref v0), (1, .int v1), (2, .long v2)] [] S = b_X11_hand v0 v1 v2 S := rfl
def b_X11_rate (v0 : Nat) (v1 : Int64) (S : z_St) : Option (Int32 × z_St) :=
(f_X11_within v1 FP.dconst0 FP.dconst1 S).bind fun q1 =>
if q1.1 = 0 then
(some ((-2000000002 : Int32), q1.2))
else
(z_chk q1.2 v0 12 (
(f_X11_realOf v1 q1.2).bind fun q2 =>
z_onV (va_rf (z_r q1.2 v0 13)) fun b3 =>
z_chk q2.2 b3 7 (
let S4 := z_wd q2.2 b3 7 q2.1
some ((1 : Int32), S4))))
def f_X11_rate : Nat → Int64 → z_St → Option (Int32 × z_St) := z_op (b_X11_rate)
theorem e_X11_rate (v0 : Nat) (v1 : Int64) (S : z_St) : f_X11_rate v0 v1 S = b_X11_rate v0 v1 S := congrFun (congrFun (congrFun (z_op_eq (b_X11_rate)) v0) v1) S
def g_X11_rate : z_G := .inl (fun as S => match as with
  | [.ref v0, .long v1] => f_X11_rate v0 v1 S
  | _ => none)
def c_X11_rate : List z_E := [
  (0, .lload_n 1, 1, .null, [], z_g0),
  (1, .dconst 0, 1, .double FP.dconst0, [], z_g0),
  (2, .dconst 1, 1, .double FP.dconst1, [], z_g0),
  (3, .invokestatic 335, 3, .null, [0, 0, 0, 0], g_X11_within),
  (6, .ifCond .ne 6, 3, .null, [12], z_g0),
  (9, .ldc 85, 2, .int (-2000000002 : Int32), [], z_g0),
  (11, .ireturn, 1, .null, [], z_g0),
  (12, .aload_n 0, 1, .null, [], z_g0),
  (13, .getfield 56, 3, .null, [12, 13, 3], z_g0),
  (16, .lload_n 1, 1, .null, [], z_g0),
  (17, .invokestatic 339, 3, .null, [0, 0], g_X11_realOf),
  (20, .putfield 381, 3, .null, [7, 7, 2], z_g0),
  (23, .iconst 1, 1, .int ((1 : Int32)), [], z_g0),
  (24, .ireturn, 1, .null, [], z_g0)]
set_option maxRecDepth 100000 in
theorem r_X11_rate (v0 : Nat) (v1 : Int64) (S : z_St) : z_seg z_rI (c_X11_rate) [] (fun pc => fun _ _ _ => none) 17 (c_X11_rate) [(0, .ref v0), (1, .long v1)] [] S = b_X11_rate v0 v1 S := rfl
def b_X11_run (v0 : Nat) (v1 : Int64) (v3 : Int64) (S : z_St) : Option (Int32 × z_St) :=
(f_X11_within v1 FP.dconst0 ((4696837146684686336 : UInt64)) S).bind fun q1 =>
if q1.1 = 0 then
(some ((-2000000002 : Int32), q1.2))
else
((f_X11_within v3 ((13860109328209412096 : UInt64)) ((4636737291354636288 : UInt64)) q1.2).bind fun q2 =>
if q2.1 = 0 then
(some ((-2000000002 : Int32), q2.2))
else
(z_chk q2.2 v0 12 (
(f_X11_realOf v1 q2.2).bind fun q3 =>
(f_X11_realOf v3 q3.2).bind fun q4 =>
z_chk q4.2 v0 12 (
z_onV (va_rf (z_r q4.2 v0 14)) fun b5 =>
z_onV (va_rf (z_r q2.2 v0 13)) fun b6 =>
z_chk q4.2 b6 7 (
(f_X6_takeStep b6 q3.1 q4.1 b5 q4.2).bind fun q7 =>
z_chk q7 v0 12 (
z_onV (va_rf (z_r q7 v0 13)) fun b8 =>
z_chk q7 b8 7 (
some ((z_i q7 b8 9), q7))))))))
def f_X11_run : Nat → Int64 → Int64 → z_St → Option (Int32 × z_St) := z_op (b_X11_run)
theorem e_X11_run (v0 : Nat) (v1 : Int64) (v3 : Int64) (S : z_St) : f_X11_run v0 v1 v3 S = b_X11_run v0 v1 v3 S := congrFun (congrFun (congrFun (congrFun (z_op_eq (b_X11_run)) v0) v1) v3) S
def g_X11_run : z_G := .inl (fun as S => match as with
  | [.ref v0, .long v1, .long v3] => f_X11_run v0 v1 v3 S
  | _ => none)
def c_X11_run : List z_E := [
  (0, .lload_n 1, 1, .null, [], z_g0),
  (1, .dconst 0, 1, .double FP.dconst0, [], z_g0),
  (2, .ldc2_w 385, 3, .double (4696837146684686336 : UInt64), [], z_g0),
  (5, .invokestatic 335, 3, .null, [0, 0, 0, 0], g_X11_within),
  (8, .ifCond .eq 16, 3, .null, [24], z_g0),
  (11, .lload_n 3, 1, .null, [], z_g0),
  (12, .ldc2_w 387, 3, .double (13860109328209412096 : UInt64), [], z_g0),
  (15, .ldc2_w 369, 3, .double (4636737291354636288 : UInt64), [], z_g0),
  (18, .invokestatic 335, 3, .null, [0, 0, 0, 0], g_X11_within),
  (21, .ifCond .ne 6, 3, .null, [27], z_g0),
  (24, .ldc 85, 2, .int (-2000000002 : Int32), [], z_g0),
  (26, .ireturn, 1, .null, [], z_g0),
  (27, .aload_n 0, 1, .null, [], z_g0),
  (28, .getfield 56, 3, .null, [12, 13, 3], z_g0),
  (31, .lload_n 1, 1, .null, [], z_g0),
  (32, .invokestatic 339, 3, .null, [0, 0], g_X11_realOf),
  (35, .lload_n 3, 1, .null, [], z_g0),
  (36, .invokestatic 339, 3, .null, [0, 0], g_X11_realOf),
  (39, .aload_n 0, 1, .null, [], z_g0),
  (40, .getfield 63, 3, .null, [12, 14, 3], z_g0),
  (43, .invokevirtual 389, 3, .null, [1, 7, 1, 0, 0], g_X6_takeStep),
  (46, .aload_n 0, 1, .null, [], z_g0),
  (47, .getfield 56, 3, .null, [12, 13, 3], z_g0),
  (50, .getfield 393, 3, .null, [7, 9, 0], z_g0),
  (53, .ireturn, 1, .null, [], z_g0)]
set_option maxRecDepth 100000 in
theorem r_X11_run (v0 : Nat) (v1 : Int64) (v3 : Int64) (S : z_St) : z_seg z_rI (c_X11_run) [] (fun pc => fun _ _ _ => none) 28 (c_X11_run) [(0, .ref v0), (1, .long v1), (3, .long v3)] [] S = b_X11_run v0 v1 v3 S := rfl
def b_X11_lake (v0 : Nat) (v1 : Int32) (S : z_St) : Option (Int64 × z_St) :=
(f_X11_outOf v1 ((0 : Int32)) ((13 : Int32)) S).bind fun q1 =>
if q1.1 = 0 then
(z_chk q1.2 v0 12 (
z_onV (va_rf (z_r q1.2 v0 13)) fun b2 =>
z_chk q1.2 b2 7 (
(f_X6_bitsAbout b2 v1 q1.2).bind fun q3 =>
some (q3.1, q3.2))))
else
(some ((-2000000002 : Int64), q1.2))
def f_X11_lake : Nat → Int32 → z_St → Option (Int64 × z_St) := z_op (b_X11_lake)
theorem e_X11_lake (v0 : Nat) (v1 : Int32) (S : z_St) : f_X11_lake v0 v1 S = b_X11_lake v0 v1 S := congrFun (congrFun (congrFun (z_op_eq (b_X11_lake)) v0) v1) S
def g_X11_lake : z_G := .inr (.inl (fun as S => match as with
  | [.ref v0, .int v1] => f_X11_lake v0 v1 S
  | _ => none))
def c_X11_lake : List z_E := [
  (0, .iload_n 1, 1, .null, [], z_g0),
  (1, .iconst 0, 1, .int ((0 : Int32)), [], z_g0),
  (2, .bipush 13, 2, .int ((13 : Int32)), [], z_g0),
  (4, .invokestatic 81, 3, .null, [0, 0, 0, 0], g_X11_outOf),
  (7, .ifCond .eq 9, 3, .null, [16], z_g0),
  (10, .ldc2_w 244, 3, .long (-2000000002 : Int64), [], z_g0),
  (13, .goto 11, 3, .null, [24], z_g0),
  (16, .aload_n 0, 1, .null, [], z_g0),
  (17, .getfield 56, 3, .null, [12, 13, 3], z_g0),
  (20, .iload_n 1, 1, .null, [], z_g0),
  (21, .invokevirtual 396, 3, .null, [1, 7, 0], g_X6_bitsAbout),
  (24, .lreturn, 1, .null, [], z_g0)]
set_option maxRecDepth 100000 in
theorem r_X11_lake (v0 : Nat) (v1 : Int32) (S : z_St) : z_seg z_rL (c_X11_lake) [] (fun pc => fun _ _ _ => none) 15 (c_X11_lake) [(0, .ref v0), (1, .int v1)] [] S = b_X11_lake v0 v1 S := rfl
def b_X11_heard (v0 : Nat) (v1 : Int32) (S : z_St) : Option (Int32 × z_St) :=
(f_X11_outOf v1 ((0 : Int32)) ((5 : Int32)) S).bind fun q1 =>
if q1.1 = 0 then
(z_chk q1.2 v0 12 (
z_onV (va_rf (z_r q1.2 v0 13)) fun b2 =>
z_chk q1.2 b2 7 (
if ((z_i q1.2 b2 9)) = 0 then
(some ((-1 : Int32), q1.2))
else
(z_chk q1.2 v0 12 (
z_onV (va_rf (z_r q1.2 v0 13)) fun b3 =>
z_chk q1.2 b3 7 (
z_onV (va_rf (z_r q1.2 b3 16)) fun b4 =>
z_chk q1.2 b4 11 (
z_onV (va_rf (z_r q1.2 b4 4)) fun b5 =>
z_inb q1.2 b5 101 v1 (
some ((z_i q1.2 b5 v1.toNatClampNeg), q1.2)))))))))
else
(some ((-2000000001 : Int32), q1.2))
def f_X11_heard : Nat → Int32 → z_St → Option (Int32 × z_St) := z_op (b_X11_heard)
theorem e_X11_heard (v0 : Nat) (v1 : Int32) (S : z_St) : f_X11_heard v0 v1 S = b_X11_heard v0 v1 S := congrFun (congrFun (congrFun (z_op_eq (b_X11_heard)) v0) v1) S
def g_X11_heard : z_G := .inl (fun as S => match as with
  | [.ref v0, .int v1] => f_X11_heard v0 v1 S
  | _ => none)
def c_X11_heard : List z_E := [
  (0, .iload_n 1, 1, .null, [], z_g0),
  (1, .iconst 0, 1, .int ((0 : Int32)), [], z_g0),
  (2, .iconst 5, 1, .int ((5 : Int32)), [], z_g0),
  (3, .invokestatic 81, 3, .null, [0, 0, 0, 0], g_X11_outOf),
  (6, .ifCond .eq 6, 3, .null, [12], z_g0),
  (9, .ldc 109, 2, .int (-2000000001 : Int32), [], z_g0),
  (11, .ireturn, 1, .null, [], z_g0),
  (12, .aload_n 0, 1, .null, [], z_g0),
  (13, .getfield 56, 3, .null, [12, 13, 3], z_g0),
  (16, .getfield 393, 3, .null, [7, 9, 0], z_g0),
  (19, .ifCond .ne 7, 3, .null, [26], z_g0),
  (22, .iconst (-1), 1, .int ((-1 : Int32)), [], z_g0),
  (23, .goto 15, 3, .null, [38], z_g0),
  (26, .aload_n 0, 1, .null, [], z_g0),
  (27, .getfield 56, 3, .null, [12, 13, 3], z_g0),
  (30, .getfield 358, 3, .null, [7, 16, 3], z_g0),
  (33, .getfield 399, 3, .null, [11, 4, 3], z_g0),
  (36, .iload_n 1, 1, .null, [], z_g0),
  (37, .iaload, 1, .null, [101], z_g0),
  (38, .ireturn, 1, .null, [], z_g0)]
set_option maxRecDepth 100000 in
theorem r_X11_heard (v0 : Nat) (v1 : Int32) (S : z_St) : z_seg z_rI (c_X11_heard) [] (fun pc => fun _ _ _ => none) 23 (c_X11_heard) [(0, .ref v0), (1, .int v1)] [] S = b_X11_heard v0 v1 S := rfl
def b_X11_moved (v0 : Nat) (v1 : Int32) (v2 : Int32) (S : z_St) : Option (Int32 × z_St) :=
(f_X11_outOf v1 ((0 : Int32)) ((3 : Int32)) S).bind fun q1 =>
if q1.1 = 0 then
(if v2 = (0 : Int32) then
(z_chk q1.2 v0 12 (
z_onV (va_rf (z_r q1.2 v0 13)) fun b2 =>
z_chk q1.2 b2 7 (
z_onV (va_rf (z_r q1.2 b2 14)) fun b3 =>
z_inb q1.2 b3 101 v1 (
some ((z_i q1.2 b3 v1.toNatClampNeg), q1.2)))))
else
if v2 = (1 : Int32) then
(z_chk q1.2 v0 12 (
z_onV (va_rf (z_r q1.2 v0 13)) fun b4 =>
z_chk q1.2 b4 7 (
z_onV (va_rf (z_r q1.2 b4 13)) fun b5 =>
z_inb q1.2 b5 104 v1 (
if ((z_i q1.2 b5 v1.toNatClampNeg)) = 0 then
(some ((0 : Int32), q1.2))
else
(some ((1 : Int32), q1.2))))))
else
if v2 = (2 : Int32) then
(z_chk q1.2 v0 12 (
z_onV (va_rf (z_r q1.2 v0 13)) fun b6 =>
z_chk q1.2 b6 7 (
z_onV (va_rf (z_r q1.2 b6 12)) fun b7 =>
z_inb q1.2 b7 102 v1 (
(f_X11_noNumber ((z_l q1.2 b7 v1.toNatClampNeg)) q1.2).bind fun q8 =>
if q8.1 = 0 then
(some ((1 : Int32), q8.2))
else
(some ((0 : Int32), q8.2))))))
else
(some ((-2000000002 : Int32), q1.2)))
else
(some ((-2000000001 : Int32), q1.2))
def f_X11_moved : Nat → Int32 → Int32 → z_St → Option (Int32 × z_St) := z_op (b_X11_moved)
theorem e_X11_moved (v0 : Nat) (v1 : Int32) (v2 : Int32) (S : z_St) : f_X11_moved v0 v1 v2 S = b_X11_moved v0 v1 v2 S := congrFun (congrFun (congrFun (congrFun (z_op_eq (b_X11_moved)) v0) v1) v2) S
def g_X11_moved : z_G := .inl (fun as S => match as with
  | [.ref v0, .int v1, .int v2] => f_X11_moved v0 v1 v2 S
  | _ => none)
def c_X11_moved : List z_E := [
  (0, .iload_n 1, 1, .null, [], z_g0),
  (1, .iconst 0, 1, .int ((0 : Int32)), [], z_g0),
  (2, .iconst 3, 1, .int ((3 : Int32)), [], z_g0),
  (3, .invokestatic 81, 3, .null, [0, 0, 0, 0], g_X11_outOf),
  (6, .ifCond .eq 6, 3, .null, [12], z_g0),
  (9, .ldc 109, 2, .int (-2000000001 : Int32), [], z_g0),
  (11, .ireturn, 1, .null, [], z_g0),
  (12, .iload_n 2, 1, .null, [], z_g0),
  (13, .tableswitch 76 0 2 #[27, 37, 55], 27, .null, [89, 0, 40, 50, 68], z_g0),
  (40, .aload_n 0, 1, .null, [], z_g0),
  (41, .getfield 56, 3, .null, [12, 13, 3], z_g0),
  (44, .getfield 402, 3, .null, [7, 14, 3], z_g0),
  (47, .iload_n 1, 1, .null, [], z_g0),
  (48, .iaload, 1, .null, [101], z_g0),
  (49, .ireturn, 1, .null, [], z_g0),
  (50, .aload_n 0, 1, .null, [], z_g0),
  (51, .getfield 56, 3, .null, [12, 13, 3], z_g0),
  (54, .getfield 374, 3, .null, [7, 13, 3], z_g0),
  (57, .iload_n 1, 1, .null, [], z_g0),
  (58, .baload, 1, .null, [104], z_g0),
  (59, .ifCond .eq 7, 3, .null, [66], z_g0),
  (62, .iconst 1, 1, .int ((1 : Int32)), [], z_g0),
  (63, .goto 4, 3, .null, [67], z_g0),
  (66, .iconst 0, 1, .int ((0 : Int32)), [], z_g0),
  (67, .ireturn, 1, .null, [], z_g0),
  (68, .aload_n 0, 1, .null, [], z_g0),
  (69, .getfield 56, 3, .null, [12, 13, 3], z_g0),
  (72, .getfield 378, 3, .null, [7, 12, 3], z_g0),
  (75, .iload_n 1, 1, .null, [], z_g0),
  (76, .laload, 1, .null, [], z_g0),
  (77, .invokestatic 405, 3, .null, [0, 0], g_X11_noNumber),
  (80, .ifCond .eq 7, 3, .null, [87], z_g0),
  (83, .iconst 0, 1, .int ((0 : Int32)), [], z_g0),
  (84, .goto 4, 3, .null, [88], z_g0),
  (87, .iconst 1, 1, .int ((1 : Int32)), [], z_g0),
  (88, .ireturn, 1, .null, [], z_g0),
  (89, .ldc 85, 2, .int (-2000000002 : Int32), [], z_g0),
  (91, .ireturn, 1, .null, [], z_g0)]
set_option maxRecDepth 100000 in
theorem r_X11_moved (v0 : Nat) (v1 : Int32) (v2 : Int32) (S : z_St) : z_seg z_rI (c_X11_moved) [] (fun pc => fun _ _ _ => none) 41 (c_X11_moved) [(0, .ref v0), (1, .int v1), (2, .int v2)] [] S = b_X11_moved v0 v1 v2 S := rfl
def b_X11_about (v0 : Nat) (v1 : Int32) (S : z_St) : Option (Int32 × z_St) :=
if v1 = (0 : Int32) then
(z_chk S v0 12 (
z_onV (va_rf (z_r S v0 13)) fun b1 =>
z_chk S b1 7 (
some ((z_i S b1 9), S))))
else
if v1 = (1 : Int32) then
(z_chk S v0 12 (
z_onV (va_rf (z_r S v0 13)) fun b2 =>
z_chk S b2 7 (
some ((z_i S b2 10), S))))
else
if v1 = (2 : Int32) then
(z_chk S v0 12 (
some ((z_i S v0 1), S)))
else
if v1 = (3 : Int32) then
(z_chk S v0 12 (
some ((z_i S v0 3), S)))
else
if v1 = (4 : Int32) then
(z_chk S v0 12 (
some ((z_i S v0 5), S)))
else
if v1 = (5 : Int32) then
(z_chk S v0 12 (
some ((z_i S v0 7), S)))
else
if v1 = (6 : Int32) then
(z_chk S v0 12 (
some ((z_i S v0 9), S)))
else
if v1 = (7 : Int32) then
(z_chk S v0 12 (
z_onV (va_rf (z_r S v0 12)) fun b3 =>
z_chk S b3 1 (
some ((z_i S b3 6), S))))
else
if v1 = (8 : Int32) then
(z_chk S v0 12 (
z_onV (va_rf (z_r S v0 14)) fun b4 =>
z_chk S b4 5 (
some ((z_i S b4 6), S))))
else
if v1 = (9 : Int32) then
(z_chk S v0 12 (
z_onV (va_rf (z_r S v0 14)) fun b5 =>
z_chk S b5 5 (
some ((z_i S b5 11), S))))
else
if v1 = (10 : Int32) then
(z_chk S v0 12 (
z_onV (va_rf (z_r S v0 16)) fun b6 =>
z_chk S b6 3 (
some ((z_i S b6 2), S))))
else
(some ((-2000000002 : Int32), S))
def f_X11_about : Nat → Int32 → z_St → Option (Int32 × z_St) := z_op (b_X11_about)
theorem e_X11_about (v0 : Nat) (v1 : Int32) (S : z_St) : f_X11_about v0 v1 S = b_X11_about v0 v1 S := congrFun (congrFun (congrFun (z_op_eq (b_X11_about)) v0) v1) S
def g_X11_about : z_G := .inl (fun as S => match as with
  | [.ref v0, .int v1] => f_X11_about v0 v1 S
  | _ => none)
def c_X11_about : List z_E := [
  (0, .iload_n 1, 1, .null, [], z_g0),
  (1, .tableswitch 132 0 10 #[59, 67, 75, 80, 85, 90, 95, 100, 108, 116, 124], 59, .null, [133, 0, 60, 68, 76, 81, 86, 91, 96, 101, 109, 117, 125], z_g0),
  (60, .aload_n 0, 1, .null, [], z_g0),
  (61, .getfield 56, 3, .null, [12, 13, 3], z_g0),
  (64, .getfield 393, 3, .null, [7, 9, 0], z_g0),
  (67, .ireturn, 1, .null, [], z_g0),
  (68, .aload_n 0, 1, .null, [], z_g0),
  (69, .getfield 56, 3, .null, [12, 13, 3], z_g0),
  (72, .getfield 409, 3, .null, [7, 10, 0], z_g0),
  (75, .ireturn, 1, .null, [], z_g0),
  (76, .aload_n 0, 1, .null, [], z_g0),
  (77, .getfield 86, 3, .null, [12, 1, 0], z_g0),
  (80, .ireturn, 1, .null, [], z_g0),
  (81, .aload_n 0, 1, .null, [], z_g0),
  (82, .getfield 171, 3, .null, [12, 3, 0], z_g0),
  (85, .ireturn, 1, .null, [], z_g0),
  (86, .aload_n 0, 1, .null, [], z_g0),
  (87, .getfield 189, 3, .null, [12, 5, 0], z_g0),
  (90, .ireturn, 1, .null, [], z_g0),
  (91, .aload_n 0, 1, .null, [], z_g0),
  (92, .getfield 196, 3, .null, [12, 7, 0], z_g0),
  (95, .ireturn, 1, .null, [], z_g0),
  (96, .aload_n 0, 1, .null, [], z_g0),
  (97, .getfield 227, 3, .null, [12, 9, 0], z_g0),
  (100, .ireturn, 1, .null, [], z_g0),
  (101, .aload_n 0, 1, .null, [], z_g0),
  (102, .getfield 49, 3, .null, [12, 12, 3], z_g0),
  (105, .getfield 326, 3, .null, [1, 6, 0], z_g0),
  (108, .ireturn, 1, .null, [], z_g0),
  (109, .aload_n 0, 1, .null, [], z_g0),
  (110, .getfield 63, 3, .null, [12, 14, 3], z_g0),
  (113, .getfield 412, 3, .null, [5, 6, 0], z_g0),
  (116, .ireturn, 1, .null, [], z_g0),
  (117, .aload_n 0, 1, .null, [], z_g0),
  (118, .getfield 63, 3, .null, [12, 14, 3], z_g0),
  (121, .getfield 415, 3, .null, [5, 11, 0], z_g0),
  (124, .ireturn, 1, .null, [], z_g0),
  (125, .aload_n 0, 1, .null, [], z_g0),
  (126, .getfield 77, 3, .null, [12, 16, 3], z_g0),
  (129, .getfield 418, 3, .null, [3, 2, 0], z_g0),
  (132, .ireturn, 1, .null, [], z_g0),
  (133, .ldc 85, 2, .int (-2000000002 : Int32), [], z_g0),
  (135, .ireturn, 1, .null, [], z_g0)]
set_option maxRecDepth 100000 in
theorem r_X11_about (v0 : Nat) (v1 : Int32) (S : z_St) : z_seg z_rI (c_X11_about) [] (fun pc => fun _ _ _ => none) 46 (c_X11_about) [(0, .ref v0), (1, .int v1)] [] S = b_X11_about v0 v1 S := rfl
def b_X11_rule (v0 : Nat) (v1 : Int32) (v2 : Int32) (v3 : Int32) (v4 : Int64) (v6 : Int64) (v8 : Int64) (S : z_St) : Option (Int32 × z_St) :=
(f_X11_outOf v1 ((0 : Int32)) ((99 : Int32)) S).bind fun q1 =>
if q1.1 = 0 then
(if v2 < 0 then
(some ((-2000000002 : Int32), q1.2))
else
(if v3 < v2 then
(some ((-2000000002 : Int32), q1.2))
else
(if v3 ≤ ((365 : Int32)) then
((f_X11_noNumber v4 q1.2).bind fun q2 =>
if q2.1 = 0 then
((f_X11_noNumber v6 q2.2).bind fun q3 =>
if q3.1 = 0 then
((f_X11_within v8 FP.dconst0 ((4696837146684686336 : UInt64)) q3.2).bind fun q4 =>
if q4.1 = 0 then
(some ((-2000000002 : Int32), q4.2))
else
(z_chk q4.2 v0 12 (
z_onV (va_rf (z_r q4.2 v0 14)) fun b5 =>
z_chk q4.2 b5 5 (
if ((z_i q4.2 b5 6)) < ((12 : Int32)) then
(z_chk q4.2 v0 12 (
(f_X11_realOf v4 q4.2).bind fun q6 =>
(f_X11_realOf v6 q6.2).bind fun q7 =>
(f_X11_realOf v8 q7.2).bind fun q8 =>
z_onV (va_rf (z_r q4.2 v0 14)) fun b9 =>
z_chk q8.2 b9 5 (
(f_X4_keepRule b9 v1 v2 v3 q6.1 q7.1 q8.1 q8.2).bind fun q10 =>
some (q10.1, q10.2))))
else
(some ((-2000000004 : Int32), q4.2))))))
else
(some ((-2000000002 : Int32), q3.2)))
else
(some ((-2000000002 : Int32), q2.2)))
else
(some ((-2000000002 : Int32), q1.2)))))
else
(some ((-2000000002 : Int32), q1.2))
def f_X11_rule : Nat → Int32 → Int32 → Int32 → Int64 → Int64 → Int64 → z_St → Option (Int32 × z_St) := z_op (b_X11_rule)
theorem e_X11_rule (v0 : Nat) (v1 : Int32) (v2 : Int32) (v3 : Int32) (v4 : Int64) (v6 : Int64) (v8 : Int64) (S : z_St) : f_X11_rule v0 v1 v2 v3 v4 v6 v8 S = b_X11_rule v0 v1 v2 v3 v4 v6 v8 S := congrFun (congrFun (congrFun (congrFun (congrFun (congrFun (congrFun (congrFun (z_op_eq (b_X11_rule)) v0) v1) v2) v3) v4) v6) v8) S
def g_X11_rule : z_G := .inl (fun as S => match as with
  | [.ref v0, .int v1, .int v2, .int v3, .long v4, .long v6, .long v8] => f_X11_rule v0 v1 v2 v3 v4 v6 v8 S
  | _ => none)
def c_X11_rule : List z_E := [
  (0, .iload_n 1, 1, .null, [], z_g0),
  (1, .iconst 0, 1, .int ((0 : Int32)), [], z_g0),
  (2, .bipush 99, 2, .int ((99 : Int32)), [], z_g0),
  (4, .invokestatic 81, 3, .null, [0, 0, 0, 0], g_X11_outOf),
  (7, .ifCond .ne 19, 3, .null, [26], z_g0),
  (10, .iload_n 2, 1, .null, [], z_g0),
  (11, .ifCond .lt 15, 3, .null, [26], z_g0),
  (14, .iload_n 2, 1, .null, [], z_g0),
  (15, .iload_n 3, 1, .null, [], z_g0),
  (16, .if_icmp .gt 10, 3, .null, [26], z_g0),
  (19, .iload_n 3, 1, .null, [], z_g0),
  (20, .sipush 365, 3, .int ((365 : Int32)), [], z_g0),
  (23, .if_icmp .le 6, 3, .null, [29], z_g0),
  (26, .ldc 85, 2, .int (-2000000002 : Int32), [], z_g0),
  (28, .ireturn, 1, .null, [], z_g0),
  (29, .lload 4, 2, .null, [], z_g0),
  (31, .invokestatic 405, 3, .null, [0, 0], g_X11_noNumber),
  (34, .ifCond .ne 23, 3, .null, [57], z_g0),
  (37, .lload 6, 2, .null, [], z_g0),
  (39, .invokestatic 405, 3, .null, [0, 0], g_X11_noNumber),
  (42, .ifCond .ne 15, 3, .null, [57], z_g0),
  (45, .lload 8, 2, .null, [], z_g0),
  (47, .dconst 0, 1, .double FP.dconst0, [], z_g0),
  (48, .ldc2_w 385, 3, .double (4696837146684686336 : UInt64), [], z_g0),
  (51, .invokestatic 335, 3, .null, [0, 0, 0, 0], g_X11_within),
  (54, .ifCond .ne 6, 3, .null, [60], z_g0),
  (57, .ldc 85, 2, .int (-2000000002 : Int32), [], z_g0),
  (59, .ireturn, 1, .null, [], z_g0),
  (60, .aload_n 0, 1, .null, [], z_g0),
  (61, .getfield 63, 3, .null, [12, 14, 3], z_g0),
  (64, .getfield 412, 3, .null, [5, 6, 0], z_g0),
  (67, .bipush 12, 2, .int ((12 : Int32)), [], z_g0),
  (69, .if_icmp .lt 6, 3, .null, [75], z_g0),
  (72, .ldc 90, 2, .int (-2000000004 : Int32), [], z_g0),
  (74, .ireturn, 1, .null, [], z_g0),
  (75, .aload_n 0, 1, .null, [], z_g0),
  (76, .getfield 63, 3, .null, [12, 14, 3], z_g0),
  (79, .iload_n 1, 1, .null, [], z_g0),
  (80, .iload_n 2, 1, .null, [], z_g0),
  (81, .iload_n 3, 1, .null, [], z_g0),
  (82, .lload 4, 2, .null, [], z_g0),
  (84, .invokestatic 339, 3, .null, [0, 0], g_X11_realOf),
  (87, .lload 6, 2, .null, [], z_g0),
  (89, .invokestatic 339, 3, .null, [0, 0], g_X11_realOf),
  (92, .lload 8, 2, .null, [], z_g0),
  (94, .invokestatic 339, 3, .null, [0, 0], g_X11_realOf),
  (97, .invokevirtual 421, 3, .null, [1, 5, 0, 0, 0, 0, 0, 0], g_X4_keepRule),
  (100, .ireturn, 1, .null, [], z_g0)]
set_option maxRecDepth 100000 in
theorem r_X11_rule (v0 : Nat) (v1 : Int32) (v2 : Int32) (v3 : Int32) (v4 : Int64) (v6 : Int64) (v8 : Int64) (S : z_St) : z_seg z_rI (c_X11_rule) [] (fun pc => fun _ _ _ => none) 51 (c_X11_rule) [(0, .ref v0), (1, .int v1), (2, .int v2), (3, .int v3), (4, .long v4), (6, .long v6), (8, .long v8)] [] S = b_X11_rule v0 v1 v2 v3 v4 v6 v8 S := rfl
def b_X11_ruleAt (v0 : Nat) (v1 : Int32) (v2 : Int64) (S : z_St) : Option (Int32 × z_St) :=
(f_X11_outOf v1 ((0 : Int32)) ((365 : Int32)) S).bind fun q1 =>
if q1.1 = 0 then
((f_X11_noNumber v2 q1.2).bind fun q2 =>
if q2.1 = 0 then
(z_chk q2.2 v0 12 (
(f_X11_realOf v2 q2.2).bind fun q3 =>
z_onV (va_rf (z_r q2.2 v0 14)) fun b4 =>
z_chk q3.2 b4 5 (
(f_X4_firstRule b4 v1 q3.1 q3.2).bind fun q5 =>
some (q5.1, q5.2))))
else
(some ((-2000000002 : Int32), q2.2)))
else
(some ((-2000000002 : Int32), q1.2))
def f_X11_ruleAt : Nat → Int32 → Int64 → z_St → Option (Int32 × z_St) := z_op (b_X11_ruleAt)
theorem e_X11_ruleAt (v0 : Nat) (v1 : Int32) (v2 : Int64) (S : z_St) : f_X11_ruleAt v0 v1 v2 S = b_X11_ruleAt v0 v1 v2 S := congrFun (congrFun (congrFun (congrFun (z_op_eq (b_X11_ruleAt)) v0) v1) v2) S
def g_X11_ruleAt : z_G := .inl (fun as S => match as with
  | [.ref v0, .int v1, .long v2] => f_X11_ruleAt v0 v1 v2 S
  | _ => none)
def c_X11_ruleAt : List z_E := [
  (0, .iload_n 1, 1, .null, [], z_g0),
  (1, .iconst 0, 1, .int ((0 : Int32)), [], z_g0),
  (2, .sipush 365, 3, .int ((365 : Int32)), [], z_g0),
  (5, .invokestatic 81, 3, .null, [0, 0, 0, 0], g_X11_outOf),
  (8, .ifCond .ne 10, 3, .null, [18], z_g0),
  (11, .lload_n 2, 1, .null, [], z_g0),
  (12, .invokestatic 405, 3, .null, [0, 0], g_X11_noNumber),
  (15, .ifCond .eq 6, 3, .null, [21], z_g0),
  (18, .ldc 85, 2, .int (-2000000002 : Int32), [], z_g0),
  (20, .ireturn, 1, .null, [], z_g0),
  (21, .aload_n 0, 1, .null, [], z_g0),
  (22, .getfield 63, 3, .null, [12, 14, 3], z_g0),
  (25, .iload_n 1, 1, .null, [], z_g0),
  (26, .lload_n 2, 1, .null, [], z_g0),
  (27, .invokestatic 339, 3, .null, [0, 0], g_X11_realOf),
  (30, .invokevirtual 425, 3, .null, [1, 5, 0, 0], g_X4_firstRule),
  (33, .ireturn, 1, .null, [], z_g0)]
set_option maxRecDepth 100000 in
theorem r_X11_ruleAt (v0 : Nat) (v1 : Int32) (v2 : Int64) (S : z_St) : z_seg z_rI (c_X11_ruleAt) [] (fun pc => fun _ _ _ => none) 20 (c_X11_ruleAt) [(0, .ref v0), (1, .int v1), (2, .long v2)] [] S = b_X11_ruleAt v0 v1 v2 S := rfl
def b_X11_right (v0 : Nat) (v1 : Int32) (v2 : Int32) (v3 : Int64) (S : z_St) : Option (Int32 × z_St) :=
(f_X11_outOf v1 ((0 : Int32)) ((99 : Int32)) S).bind fun q1 =>
if q1.1 = 0 then
((f_X11_outOf v2 ((0 : Int32)) ((1000 : Int32)) q1.2).bind fun q2 =>
if q2.1 = 0 then
(if (lg_cmp v3 ((0 : Int64))) < 0 then
(some ((-2000000002 : Int32), q2.2))
else
(if (lg_cmp v3 ((1000000000000 : Int64))) ≤ 0 then
(z_chk q2.2 v0 12 (
z_onV (va_rf (z_r q2.2 v0 14)) fun b3 =>
z_chk q2.2 b3 5 (
if ((z_i q2.2 b3 11)) < ((12 : Int32)) then
(z_chk q2.2 v0 12 (
z_onV (va_rf (z_r q2.2 v0 14)) fun b4 =>
z_chk q2.2 b4 5 (
(f_X4_keepRight b4 v1 v2 v3 q2.2).bind fun q5 =>
some (q5.1, q5.2))))
else
(some ((-2000000004 : Int32), q2.2)))))
else
(some ((-2000000002 : Int32), q2.2))))
else
(some ((-2000000002 : Int32), q2.2)))
else
(some ((-2000000002 : Int32), q1.2))
def f_X11_right : Nat → Int32 → Int32 → Int64 → z_St → Option (Int32 × z_St) := z_op (b_X11_right)
theorem e_X11_right (v0 : Nat) (v1 : Int32) (v2 : Int32) (v3 : Int64) (S : z_St) : f_X11_right v0 v1 v2 v3 S = b_X11_right v0 v1 v2 v3 S := congrFun (congrFun (congrFun (congrFun (congrFun (z_op_eq (b_X11_right)) v0) v1) v2) v3) S
def g_X11_right : z_G := .inl (fun as S => match as with
  | [.ref v0, .int v1, .int v2, .long v3] => f_X11_right v0 v1 v2 v3 S
  | _ => none)
def c_X11_right : List z_E := [
  (0, .iload_n 1, 1, .null, [], z_g0),
  (1, .iconst 0, 1, .int ((0 : Int32)), [], z_g0),
  (2, .bipush 99, 2, .int ((99 : Int32)), [], z_g0),
  (4, .invokestatic 81, 3, .null, [0, 0, 0, 0], g_X11_outOf),
  (7, .ifCond .ne 28, 3, .null, [35], z_g0),
  (10, .iload_n 2, 1, .null, [], z_g0),
  (11, .iconst 0, 1, .int ((0 : Int32)), [], z_g0),
  (12, .sipush 1000, 3, .int ((1000 : Int32)), [], z_g0),
  (15, .invokestatic 81, 3, .null, [0, 0, 0, 0], g_X11_outOf),
  (18, .ifCond .ne 17, 3, .null, [35], z_g0),
  (21, .lload_n 3, 1, .null, [], z_g0),
  (22, .lconst 0, 1, .long (0 : Int64), [], z_g0),
  (23, .lcmp, 1, .null, [], z_g0),
  (24, .ifCond .lt 11, 3, .null, [35], z_g0),
  (27, .lload_n 3, 1, .null, [], z_g0),
  (28, .ldc2_w 429, 3, .long (1000000000000 : Int64), [], z_g0),
  (31, .lcmp, 1, .null, [], z_g0),
  (32, .ifCond .le 6, 3, .null, [38], z_g0),
  (35, .ldc 85, 2, .int (-2000000002 : Int32), [], z_g0),
  (37, .ireturn, 1, .null, [], z_g0),
  (38, .aload_n 0, 1, .null, [], z_g0),
  (39, .getfield 63, 3, .null, [12, 14, 3], z_g0),
  (42, .getfield 415, 3, .null, [5, 11, 0], z_g0),
  (45, .bipush 12, 2, .int ((12 : Int32)), [], z_g0),
  (47, .if_icmp .lt 6, 3, .null, [53], z_g0),
  (50, .ldc 90, 2, .int (-2000000004 : Int32), [], z_g0),
  (52, .ireturn, 1, .null, [], z_g0),
  (53, .aload_n 0, 1, .null, [], z_g0),
  (54, .getfield 63, 3, .null, [12, 14, 3], z_g0),
  (57, .iload_n 1, 1, .null, [], z_g0),
  (58, .iload_n 2, 1, .null, [], z_g0),
  (59, .lload_n 3, 1, .null, [], z_g0),
  (60, .invokevirtual 431, 3, .null, [1, 5, 0, 0, 0], g_X4_keepRight),
  (63, .ireturn, 1, .null, [], z_g0)]
set_option maxRecDepth 100000 in
theorem r_X11_right (v0 : Nat) (v1 : Int32) (v2 : Int32) (v3 : Int64) (S : z_St) : z_seg z_rI (c_X11_right) [] (fun pc => fun _ _ _ => none) 37 (c_X11_right) [(0, .ref v0), (1, .int v1), (2, .int v2), (3, .long v3)] [] S = b_X11_right v0 v1 v2 v3 S := rfl
def b_X11_part (v0 : Nat) (v1 : Int64) (S : z_St) : Option (Int64 × z_St) :=
if (lg_cmp v1 ((0 : Int64))) < 0 then
(some ((-2000000002 : Int64), S))
else
(if (lg_cmp v1 ((1000000000000000 : Int64))) ≤ 0 then
(z_chk S v0 12 (
z_onV (va_rf (z_r S v0 14)) fun b1 =>
z_chk S b1 5 (
(f_X4_leftOfParting b1 v1 S).bind fun q2 =>
some (v1 - q2.1, q2.2))))
else
(some ((-2000000002 : Int64), S)))
def f_X11_part : Nat → Int64 → z_St → Option (Int64 × z_St) := z_op (b_X11_part)
theorem e_X11_part (v0 : Nat) (v1 : Int64) (S : z_St) : f_X11_part v0 v1 S = b_X11_part v0 v1 S := congrFun (congrFun (congrFun (z_op_eq (b_X11_part)) v0) v1) S
def g_X11_part : z_G := .inr (.inl (fun as S => match as with
  | [.ref v0, .long v1] => f_X11_part v0 v1 S
  | _ => none))
def c_X11_part : List z_E := [
  (0, .lload_n 1, 1, .null, [], z_g0),
  (1, .lconst 0, 1, .long (0 : Int64), [], z_g0),
  (2, .lcmp, 1, .null, [], z_g0),
  (3, .ifCond .lt 11, 3, .null, [14], z_g0),
  (6, .lload_n 1, 1, .null, [], z_g0),
  (7, .ldc2_w 314, 3, .long (1000000000000000 : Int64), [], z_g0),
  (10, .lcmp, 1, .null, [], z_g0),
  (11, .ifCond .le 7, 3, .null, [18], z_g0),
  (14, .ldc2_w 244, 3, .long (-2000000002 : Int64), [], z_g0),
  (17, .lreturn, 1, .null, [], z_g0),
  (18, .lload_n 1, 1, .null, [], z_g0),
  (19, .aload_n 0, 1, .null, [], z_g0),
  (20, .getfield 63, 3, .null, [12, 14, 3], z_g0),
  (23, .lload_n 1, 1, .null, [], z_g0),
  (24, .invokevirtual 435, 3, .null, [1, 5, 0], g_X4_leftOfParting),
  (27, .lsub, 1, .null, [], z_g0),
  (28, .lreturn, 1, .null, [], z_g0)]
set_option maxRecDepth 100000 in
theorem r_X11_part (v0 : Nat) (v1 : Int64) (S : z_St) : z_seg z_rL (c_X11_part) [] (fun pc => fun _ _ _ => none) 20 (c_X11_part) [(0, .ref v0), (1, .long v1)] [] S = b_X11_part v0 v1 S := rfl
def b_X11_has (v0 : Nat) (v1 : Int32) (S : z_St) : Option (Int64 × z_St) :=
z_chk S v0 12 (
z_onV (va_rf (z_r S v0 14)) fun b1 =>
z_chk S b1 5 (
(f_X11_outOf v1 ((0 : Int32)) (((z_i S b1 11)) - ((1 : Int32))) S).bind fun q2 =>
if q2.1 = 0 then
(z_chk q2.2 v0 12 (
z_onV (va_rf (z_r q2.2 v0 14)) fun b3 =>
z_chk q2.2 b3 5 (
z_onV (va_rf (z_r q2.2 b3 10)) fun b4 =>
z_inb q2.2 b4 102 v1 (
some ((z_l q2.2 b4 v1.toNatClampNeg), q2.2)))))
else
(some ((-2000000001 : Int64), q2.2))))
def f_X11_has : Nat → Int32 → z_St → Option (Int64 × z_St) := z_op (b_X11_has)
theorem e_X11_has (v0 : Nat) (v1 : Int32) (S : z_St) : f_X11_has v0 v1 S = b_X11_has v0 v1 S := congrFun (congrFun (congrFun (z_op_eq (b_X11_has)) v0) v1) S
def g_X11_has : z_G := .inr (.inl (fun as S => match as with
  | [.ref v0, .int v1] => f_X11_has v0 v1 S
  | _ => none))
def c_X11_has : List z_E := [
  (0, .iload_n 1, 1, .null, [], z_g0),
  (1, .iconst 0, 1, .int ((0 : Int32)), [], z_g0),
  (2, .aload_n 0, 1, .null, [], z_g0),
  (3, .getfield 63, 3, .null, [12, 14, 3], z_g0),
  (6, .getfield 415, 3, .null, [5, 11, 0], z_g0),
  (9, .iconst 1, 1, .int ((1 : Int32)), [], z_g0),
  (10, .isub, 1, .null, [], z_g0),
  (11, .invokestatic 81, 3, .null, [0, 0, 0, 0], g_X11_outOf),
  (14, .ifCond .eq 9, 3, .null, [23], z_g0),
  (17, .ldc2_w 129, 3, .long (-2000000001 : Int64), [], z_g0),
  (20, .goto 12, 3, .null, [32], z_g0),
  (23, .aload_n 0, 1, .null, [], z_g0),
  (24, .getfield 63, 3, .null, [12, 14, 3], z_g0),
  (27, .getfield 438, 3, .null, [5, 10, 3], z_g0),
  (30, .iload_n 1, 1, .null, [], z_g0),
  (31, .laload, 1, .null, [], z_g0),
  (32, .lreturn, 1, .null, [], z_g0)]
set_option maxRecDepth 100000 in
theorem r_X11_has (v0 : Nat) (v1 : Int32) (S : z_St) : z_seg z_rL (c_X11_has) [] (fun pc => fun _ _ _ => none) 20 (c_X11_has) [(0, .ref v0), (1, .int v1)] [] S = b_X11_has v0 v1 S := rfl
def l_X11_close_4 : Nat → Nat → Int64 → Int32 → z_St → Option (Int64 × z_St)
  | 0 => fun _ _ _ _ => none
  | n + 1 => fun (v0 : Nat) (v1 : Int64) (v3 : Int32) (S : z_St) =>
z_chk S v0 12 (
z_onV (va_rf (z_r S v0 14)) fun b1 =>
z_chk S b1 5 (
if ((z_i S b1 11)) ≤ v3 then
(some (v1, S))
else
(z_chk S v0 12 (
z_onV (va_rf (z_r S v0 14)) fun b2 =>
z_chk S b2 5 (
z_onV (va_rf (z_r S b2 10)) fun b3 =>
z_inb S b3 102 v3 (
let x4 := v1 + ((z_l S b3 v3.toNatClampNeg))
z_chk S v0 12 (
z_onV (va_rf (z_r S v0 14)) fun b5 =>
z_chk S b5 5 (
z_onV (va_rf (z_r S b5 10)) fun b6 =>
z_inb S b6 102 v3 (
let S7 := z_wl S b6 v3.toNatClampNeg ((0 : Int64))
let x8 := v3 + (1 : Int32)
l_X11_close_4 n v0 x4 x8 S7)))))))))
def b_X11_close (v0 : Nat) (S : z_St) : Option (Int64 × z_St) :=
l_X11_close_4 z_N v0 ((0 : Int64)) ((0 : Int32)) S
def f_X11_close : Nat → z_St → Option (Int64 × z_St) := z_op (b_X11_close)
theorem e_X11_close (v0 : Nat) (S : z_St) : f_X11_close v0 S = b_X11_close v0 S := congrFun (congrFun (z_op_eq (b_X11_close)) v0) S
def g_X11_close : z_G := .inr (.inl (fun as S => match as with
  | [.ref v0] => f_X11_close v0 S
  | _ => none))
def c_X11_close : List z_E := [
  (0, .lconst 0, 1, .long (0 : Int64), [], z_g0),
  (1, .lstore_n 1, 1, .null, [], z_g0),
  (2, .iconst 0, 1, .int ((0 : Int32)), [], z_g0),
  (3, .istore_n 3, 1, .null, [], z_g0),
  (4, .iload_n 3, 1, .null, [], z_g0),
  (5, .aload_n 0, 1, .null, [], z_g0),
  (6, .getfield 63, 3, .null, [12, 14, 3], z_g0),
  (9, .getfield 415, 3, .null, [5, 11, 0], z_g0),
  (12, .if_icmp .ge 31, 3, .null, [43], z_g0),
  (15, .lload_n 1, 1, .null, [], z_g0),
  (16, .aload_n 0, 1, .null, [], z_g0),
  (17, .getfield 63, 3, .null, [12, 14, 3], z_g0),
  (20, .getfield 438, 3, .null, [5, 10, 3], z_g0),
  (23, .iload_n 3, 1, .null, [], z_g0),
  (24, .laload, 1, .null, [], z_g0),
  (25, .ladd, 1, .null, [], z_g0),
  (26, .lstore_n 1, 1, .null, [], z_g0),
  (27, .aload_n 0, 1, .null, [], z_g0),
  (28, .getfield 63, 3, .null, [12, 14, 3], z_g0),
  (31, .getfield 438, 3, .null, [5, 10, 3], z_g0),
  (34, .iload_n 3, 1, .null, [], z_g0),
  (35, .lconst 0, 1, .long (0 : Int64), [], z_g0),
  (36, .lastore, 1, .null, [], z_g0),
  (37, .iinc 3 1, 3, .int (1 : Int32), [], z_g0),
  (40, .goto (-36), 3, .null, [4], z_g0),
  (43, .lload_n 1, 1, .null, [], z_g0),
  (44, .lreturn, 1, .null, [], z_g0)]
def a_X11_close_4 {ρ : Type} (k : Nat → Int64 → Int32 → z_St → Option ρ) (ls : z_Lv) (st : List Value) (S : z_St) : Option ρ := z_gR ls 0 fun v0 => z_gJ ls 1 fun v1 => z_gI ls 3 fun v3 => z_p0 st (k v0 v1 v3 S)
set_option maxRecDepth 100000 in
theorem r_X11_close_4 (n : Nat) (v0 : Nat) (v1 : Int64) (v3 : Int32) (S : z_St) : z_seg z_rL (c_X11_close) [4] (fun pc => cond (Nat.beq pc 4) (a_X11_close_4 (l_X11_close_4 n)) (fun _ _ _ => none)) 30 (z_to 4 (c_X11_close)) [(0, .ref v0), (1, .long v1), (3, .int v3)] [] S = l_X11_close_4 (n + 1) v0 v1 v3 S := rfl
set_option maxRecDepth 100000 in
theorem r_X11_close (v0 : Nat) (S : z_St) : z_seg z_rL (c_X11_close) [4] (fun pc => cond (Nat.beq pc 4) (a_X11_close_4 (l_X11_close_4 z_N)) (fun _ _ _ => none)) 30 (c_X11_close) [(0, .ref v0)] [] S = b_X11_close v0 S := rfl
def b_X11_hours (v0 : Nat) (v1 : Int32) (S : z_St) : Option (Int32 × z_St) :=
(f_X11_outOf v1 ((1 : Int32)) ((12 : Int32)) S).bind fun q1 =>
if q1.1 = 0 then
(z_chk q1.2 v0 12 (
z_onV (va_rf (z_r q1.2 v0 15)) fun b2 =>
z_chk q1.2 b2 6 (
let x3 := (z_i q1.2 b2 0)
z_chk q1.2 v0 12 (
z_onV (va_rf (z_r q1.2 v0 15)) fun b4 =>
z_chk q1.2 b4 6 (
let S5 := z_wi q1.2 b4 0 v1
some (x3, S5))))))
else
(some ((-2000000002 : Int32), q1.2))
def f_X11_hours : Nat → Int32 → z_St → Option (Int32 × z_St) := z_op (b_X11_hours)
theorem e_X11_hours (v0 : Nat) (v1 : Int32) (S : z_St) : f_X11_hours v0 v1 S = b_X11_hours v0 v1 S := congrFun (congrFun (congrFun (z_op_eq (b_X11_hours)) v0) v1) S
def g_X11_hours : z_G := .inl (fun as S => match as with
  | [.ref v0, .int v1] => f_X11_hours v0 v1 S
  | _ => none)
def c_X11_hours : List z_E := [
  (0, .iload_n 1, 1, .null, [], z_g0),
  (1, .iconst 1, 1, .int ((1 : Int32)), [], z_g0),
  (2, .bipush 12, 2, .int ((12 : Int32)), [], z_g0),
  (4, .invokestatic 81, 3, .null, [0, 0, 0, 0], g_X11_outOf),
  (7, .ifCond .eq 6, 3, .null, [13], z_g0),
  (10, .ldc 85, 2, .int (-2000000002 : Int32), [], z_g0),
  (12, .ireturn, 1, .null, [], z_g0),
  (13, .aload_n 0, 1, .null, [], z_g0),
  (14, .getfield 70, 3, .null, [12, 15, 3], z_g0),
  (17, .getfield 441, 3, .null, [6, 0, 0], z_g0),
  (20, .istore_n 2, 1, .null, [], z_g0),
  (21, .aload_n 0, 1, .null, [], z_g0),
  (22, .getfield 70, 3, .null, [12, 15, 3], z_g0),
  (25, .iload_n 1, 1, .null, [], z_g0),
  (26, .putfield 441, 3, .null, [6, 0, 0], z_g0),
  (29, .iload_n 2, 1, .null, [], z_g0),
  (30, .ireturn, 1, .null, [], z_g0)]
set_option maxRecDepth 100000 in
theorem r_X11_hours (v0 : Nat) (v1 : Int32) (S : z_St) : z_seg z_rI (c_X11_hours) [] (fun pc => fun _ _ _ => none) 20 (c_X11_hours) [(0, .ref v0), (1, .int v1)] [] S = b_X11_hours v0 v1 S := rfl
def b_X11_ahead (v0 : Nat) (v1 : Int32) (v2 : Int32) (v3 : Int64) (S : z_St) : Option (Int32 × z_St) :=
(f_X11_outOf v1 ((0 : Int32)) ((5 : Int32)) S).bind fun q1 =>
if q1.1 = 0 then
((f_X11_outOf v2 ((0 : Int32)) ((11 : Int32)) q1.2).bind fun q2 =>
if q2.1 = 0 then
((f_X11_noneOrWithin v3 FP.dconst0 ((4696837146684686336 : UInt64)) q2.2).bind fun q3 =>
if q3.1 = 0 then
(some ((-2000000002 : Int32), q3.2))
else
(z_chk q3.2 v0 12 (
z_onV (va_rf (z_r q3.2 v0 15)) fun b4 =>
z_chk q3.2 b4 6 (
(f_X5_tellInflow b4 v1 v2 v3 q3.2).bind fun q5 =>
some ((1 : Int32), q5)))))
else
(some ((-2000000002 : Int32), q2.2)))
else
(some ((-2000000001 : Int32), q1.2))
def f_X11_ahead : Nat → Int32 → Int32 → Int64 → z_St → Option (Int32 × z_St) := z_op (b_X11_ahead)
theorem e_X11_ahead (v0 : Nat) (v1 : Int32) (v2 : Int32) (v3 : Int64) (S : z_St) : f_X11_ahead v0 v1 v2 v3 S = b_X11_ahead v0 v1 v2 v3 S := congrFun (congrFun (congrFun (congrFun (congrFun (z_op_eq (b_X11_ahead)) v0) v1) v2) v3) S
def g_X11_ahead : z_G := .inl (fun as S => match as with
  | [.ref v0, .int v1, .int v2, .long v3] => f_X11_ahead v0 v1 v2 v3 S
  | _ => none)
def c_X11_ahead : List z_E := [
  (0, .iload_n 1, 1, .null, [], z_g0),
  (1, .iconst 0, 1, .int ((0 : Int32)), [], z_g0),
  (2, .iconst 5, 1, .int ((5 : Int32)), [], z_g0),
  (3, .invokestatic 81, 3, .null, [0, 0, 0, 0], g_X11_outOf),
  (6, .ifCond .eq 6, 3, .null, [12], z_g0),
  (9, .ldc 109, 2, .int (-2000000001 : Int32), [], z_g0),
  (11, .ireturn, 1, .null, [], z_g0),
  (12, .iload_n 2, 1, .null, [], z_g0),
  (13, .iconst 0, 1, .int ((0 : Int32)), [], z_g0),
  (14, .bipush 11, 2, .int ((11 : Int32)), [], z_g0),
  (16, .invokestatic 81, 3, .null, [0, 0, 0, 0], g_X11_outOf),
  (19, .ifCond .ne 14, 3, .null, [33], z_g0),
  (22, .lload_n 3, 1, .null, [], z_g0),
  (23, .dconst 0, 1, .double FP.dconst0, [], z_g0),
  (24, .ldc2_w 385, 3, .double (4696837146684686336 : UInt64), [], z_g0),
  (27, .invokestatic 355, 3, .null, [0, 0, 0, 0], g_X11_noneOrWithin),
  (30, .ifCond .ne 6, 3, .null, [36], z_g0),
  (33, .ldc 85, 2, .int (-2000000002 : Int32), [], z_g0),
  (35, .ireturn, 1, .null, [], z_g0),
  (36, .aload_n 0, 1, .null, [], z_g0),
  (37, .getfield 70, 3, .null, [12, 15, 3], z_g0),
  (40, .iload_n 1, 1, .null, [], z_g0),
  (41, .iload_n 2, 1, .null, [], z_g0),
  (42, .lload_n 3, 1, .null, [], z_g0),
  (43, .invokevirtual 444, 3, .null, [1, 6, 0, 0, 0], g_X5_tellInflow),
  (46, .iconst 1, 1, .int ((1 : Int32)), [], z_g0),
  (47, .ireturn, 1, .null, [], z_g0)]
set_option maxRecDepth 100000 in
theorem r_X11_ahead (v0 : Nat) (v1 : Int32) (v2 : Int32) (v3 : Int64) (S : z_St) : z_seg z_rI (c_X11_ahead) [] (fun pc => fun _ _ _ => none) 30 (c_X11_ahead) [(0, .ref v0), (1, .int v1), (2, .int v2), (3, .long v3)] [] S = b_X11_ahead v0 v1 v2 v3 S := rfl
def b_X11_release (v0 : Nat) (v1 : Int32) (v2 : Int64) (S : z_St) : Option (Int32 × z_St) :=
(f_X11_outOf v1 ((0 : Int32)) ((7 : Int32)) S).bind fun q1 =>
if q1.1 = 0 then
((f_X11_noneOrWithin v2 FP.dconst0 ((4696837146684686336 : UInt64)) q1.2).bind fun q2 =>
if q2.1 = 0 then
(some ((-2000000002 : Int32), q2.2))
else
(z_chk q2.2 v0 12 (
z_onV (va_rf (z_r q2.2 v0 15)) fun b3 =>
z_chk q2.2 b3 6 (
(f_X5_tellRelease b3 v1 v2 q2.2).bind fun q4 =>
some ((1 : Int32), q4)))))
else
(some ((-2000000001 : Int32), q1.2))
def f_X11_release : Nat → Int32 → Int64 → z_St → Option (Int32 × z_St) := z_op (b_X11_release)
theorem e_X11_release (v0 : Nat) (v1 : Int32) (v2 : Int64) (S : z_St) : f_X11_release v0 v1 v2 S = b_X11_release v0 v1 v2 S := congrFun (congrFun (congrFun (congrFun (z_op_eq (b_X11_release)) v0) v1) v2) S
def g_X11_release : z_G := .inl (fun as S => match as with
  | [.ref v0, .int v1, .long v2] => f_X11_release v0 v1 v2 S
  | _ => none)
def c_X11_release : List z_E := [
  (0, .iload_n 1, 1, .null, [], z_g0),
  (1, .iconst 0, 1, .int ((0 : Int32)), [], z_g0),
  (2, .bipush 7, 2, .int ((7 : Int32)), [], z_g0),
  (4, .invokestatic 81, 3, .null, [0, 0, 0, 0], g_X11_outOf),
  (7, .ifCond .eq 6, 3, .null, [13], z_g0),
  (10, .ldc 109, 2, .int (-2000000001 : Int32), [], z_g0),
  (12, .ireturn, 1, .null, [], z_g0),
  (13, .lload_n 2, 1, .null, [], z_g0),
  (14, .dconst 0, 1, .double FP.dconst0, [], z_g0),
  (15, .ldc2_w 385, 3, .double (4696837146684686336 : UInt64), [], z_g0),
  (18, .invokestatic 355, 3, .null, [0, 0, 0, 0], g_X11_noneOrWithin),
  (21, .ifCond .ne 6, 3, .null, [27], z_g0),
  (24, .ldc 85, 2, .int (-2000000002 : Int32), [], z_g0),
  (26, .ireturn, 1, .null, [], z_g0),
  (27, .aload_n 0, 1, .null, [], z_g0),
  (28, .getfield 70, 3, .null, [12, 15, 3], z_g0),
  (31, .iload_n 1, 1, .null, [], z_g0),
  (32, .lload_n 2, 1, .null, [], z_g0),
  (33, .invokevirtual 448, 3, .null, [1, 6, 0, 0], g_X5_tellRelease),
  (36, .iconst 1, 1, .int ((1 : Int32)), [], z_g0),
  (37, .ireturn, 1, .null, [], z_g0)]
set_option maxRecDepth 100000 in
theorem r_X11_release (v0 : Nat) (v1 : Int32) (v2 : Int64) (S : z_St) : z_seg z_rI (c_X11_release) [] (fun pc => fun _ _ _ => none) 24 (c_X11_release) [(0, .ref v0), (1, .int v1), (2, .long v2)] [] S = b_X11_release v0 v1 v2 S := rfl
def b_X11_routed (v0 : Nat) (v1 : Int32) (v2 : Int32) (v3 : Int32) (S : z_St) : Option (Int64 × z_St) :=
(f_X11_outOf v1 ((0 : Int32)) ((5 : Int32)) S).bind fun q1 =>
if q1.1 = 0 then
(z_chk q1.2 v0 12 (
z_onV (va_rf (z_r q1.2 v0 15)) fun b2 =>
z_chk q1.2 b2 6 (
(f_X5_hasRelease b2 v2 q1.2).bind fun q3 =>
if q3.1 = 0 then
(some ((-2000000001 : Int64), q3.2))
else
(z_chk q3.2 v0 12 (
z_onV (va_rf (z_r q3.2 v0 15)) fun b4 =>
z_chk q3.2 b4 6 (
(f_X11_outOf v3 ((0 : Int32)) (((z_i q3.2 b4 0)) - ((1 : Int32))) q3.2).bind fun q5 =>
if q5.1 = 0 then
(z_chk q5.2 v0 12 (
z_onV (va_rf (z_r q5.2 v0 15)) fun b6 =>
z_chk q5.2 b6 6 (
(f_X5_lacks b6 v1 q5.2).bind fun q7 =>
if q7.1 = 0 then
(z_chk q7.2 v0 12 (
z_chk q7.2 v0 12 (
z_onV (va_rf (z_r q7.2 v0 13)) fun b8 =>
z_chk q7.2 b8 7 (
z_onV (va_rf (z_r q7.2 v0 15)) fun b9 =>
z_chk q7.2 b9 6 (
(f_X5_volumeBehind b9 ((z_d q7.2 b8 0)) v1 v2 v3 q7.2).bind fun q10 =>
(f_X11_bitsOf q10.1 q10.2).bind fun q11 =>
some (q11.1, q11.2))))))
else
(some ((9221120237041090560 : Int64), q7.2)))))
else
(some ((-2000000002 : Int64), q5.2))))))))
else
(some ((-2000000001 : Int64), q1.2))
def f_X11_routed : Nat → Int32 → Int32 → Int32 → z_St → Option (Int64 × z_St) := z_op (b_X11_routed)
theorem e_X11_routed (v0 : Nat) (v1 : Int32) (v2 : Int32) (v3 : Int32) (S : z_St) : f_X11_routed v0 v1 v2 v3 S = b_X11_routed v0 v1 v2 v3 S := congrFun (congrFun (congrFun (congrFun (congrFun (z_op_eq (b_X11_routed)) v0) v1) v2) v3) S
def g_X11_routed : z_G := .inr (.inl (fun as S => match as with
  | [.ref v0, .int v1, .int v2, .int v3] => f_X11_routed v0 v1 v2 v3 S
  | _ => none))
def c_X11_routed : List z_E := [
  (0, .iload_n 1, 1, .null, [], z_g0),
  (1, .iconst 0, 1, .int ((0 : Int32)), [], z_g0),
  (2, .iconst 5, 1, .int ((5 : Int32)), [], z_g0),
  (3, .invokestatic 81, 3, .null, [0, 0, 0, 0], g_X11_outOf),
  (6, .ifCond .ne 14, 3, .null, [20], z_g0),
  (9, .aload_n 0, 1, .null, [], z_g0),
  (10, .getfield 70, 3, .null, [12, 15, 3], z_g0),
  (13, .iload_n 2, 1, .null, [], z_g0),
  (14, .invokevirtual 451, 3, .null, [1, 6, 0], g_X5_hasRelease),
  (17, .ifCond .ne 7, 3, .null, [24], z_g0),
  (20, .ldc2_w 129, 3, .long (-2000000001 : Int64), [], z_g0),
  (23, .lreturn, 1, .null, [], z_g0),
  (24, .iload_n 3, 1, .null, [], z_g0),
  (25, .iconst 0, 1, .int ((0 : Int32)), [], z_g0),
  (26, .aload_n 0, 1, .null, [], z_g0),
  (27, .getfield 70, 3, .null, [12, 15, 3], z_g0),
  (30, .getfield 441, 3, .null, [6, 0, 0], z_g0),
  (33, .iconst 1, 1, .int ((1 : Int32)), [], z_g0),
  (34, .isub, 1, .null, [], z_g0),
  (35, .invokestatic 81, 3, .null, [0, 0, 0, 0], g_X11_outOf),
  (38, .ifCond .eq 7, 3, .null, [45], z_g0),
  (41, .ldc2_w 244, 3, .long (-2000000002 : Int64), [], z_g0),
  (44, .lreturn, 1, .null, [], z_g0),
  (45, .aload_n 0, 1, .null, [], z_g0),
  (46, .getfield 70, 3, .null, [12, 15, 3], z_g0),
  (49, .iload_n 1, 1, .null, [], z_g0),
  (50, .invokevirtual 454, 3, .null, [1, 6, 0], g_X5_lacks),
  (53, .ifCond .eq 7, 3, .null, [60], z_g0),
  (56, .ldc2_w 457, 3, .long (9221120237041090560 : Int64), [], z_g0),
  (59, .lreturn, 1, .null, [], z_g0),
  (60, .aload_n 0, 1, .null, [], z_g0),
  (61, .getfield 70, 3, .null, [12, 15, 3], z_g0),
  (64, .aload_n 0, 1, .null, [], z_g0),
  (65, .getfield 56, 3, .null, [12, 13, 3], z_g0),
  (68, .getfield 459, 3, .null, [7, 0, 2], z_g0),
  (71, .iload_n 1, 1, .null, [], z_g0),
  (72, .iload_n 2, 1, .null, [], z_g0),
  (73, .iload_n 3, 1, .null, [], z_g0),
  (74, .invokevirtual 462, 3, .null, [1, 6, 0, 0, 0, 0], g_X5_volumeBehind),
  (77, .invokestatic 347, 3, .null, [0, 0], g_X11_bitsOf),
  (80, .lreturn, 1, .null, [], z_g0)]
set_option maxRecDepth 100000 in
theorem r_X11_routed (v0 : Nat) (v1 : Int32) (v2 : Int32) (v3 : Int32) (S : z_St) : z_seg z_rL (c_X11_routed) [] (fun pc => fun _ _ _ => none) 44 (c_X11_routed) [(0, .ref v0), (1, .int v1), (2, .int v2), (3, .int v3)] [] S = b_X11_routed v0 v1 v2 v3 S := rfl
def b_X11_regret (v0 : Nat) (v1 : Int32) (S : z_St) : Option (Int64 × z_St) :=
z_chk S v0 12 (
z_onV (va_rf (z_r S v0 15)) fun b1 =>
z_chk S b1 6 (
(f_X5_hasRelease b1 v1 S).bind fun q2 =>
if q2.1 = 0 then
(some ((-2000000001 : Int64), q2.2))
else
(z_chk q2.2 v0 12 (
z_chk q2.2 v0 12 (
z_onV (va_rf (z_r q2.2 v0 13)) fun b3 =>
z_chk q2.2 b3 7 (
z_onV (va_rf (z_r q2.2 v0 15)) fun b4 =>
z_chk q2.2 b4 6 (
(f_X5_regretOf b4 ((z_d q2.2 b3 0)) v1 q2.2).bind fun q5 =>
(f_X11_bitsOf q5.1 q5.2).bind fun q6 =>
some (q6.1, q6.2))))))))
def f_X11_regret : Nat → Int32 → z_St → Option (Int64 × z_St) := z_op (b_X11_regret)
theorem e_X11_regret (v0 : Nat) (v1 : Int32) (S : z_St) : f_X11_regret v0 v1 S = b_X11_regret v0 v1 S := congrFun (congrFun (congrFun (z_op_eq (b_X11_regret)) v0) v1) S
def g_X11_regret : z_G := .inr (.inl (fun as S => match as with
  | [.ref v0, .int v1] => f_X11_regret v0 v1 S
  | _ => none))
def c_X11_regret : List z_E := [
  (0, .aload_n 0, 1, .null, [], z_g0),
  (1, .getfield 70, 3, .null, [12, 15, 3], z_g0),
  (4, .iload_n 1, 1, .null, [], z_g0),
  (5, .invokevirtual 451, 3, .null, [1, 6, 0], g_X5_hasRelease),
  (8, .ifCond .eq 24, 3, .null, [32], z_g0),
  (11, .aload_n 0, 1, .null, [], z_g0),
  (12, .getfield 70, 3, .null, [12, 15, 3], z_g0),
  (15, .aload_n 0, 1, .null, [], z_g0),
  (16, .getfield 56, 3, .null, [12, 13, 3], z_g0),
  (19, .getfield 459, 3, .null, [7, 0, 2], z_g0),
  (22, .iload_n 1, 1, .null, [], z_g0),
  (23, .invokevirtual 466, 3, .null, [1, 6, 0, 0], g_X5_regretOf),
  (26, .invokestatic 347, 3, .null, [0, 0], g_X11_bitsOf),
  (29, .goto 6, 3, .null, [35], z_g0),
  (32, .ldc2_w 129, 3, .long (-2000000001 : Int64), [], z_g0),
  (35, .lreturn, 1, .null, [], z_g0)]
set_option maxRecDepth 100000 in
theorem r_X11_regret (v0 : Nat) (v1 : Int32) (S : z_St) : z_seg z_rL (c_X11_regret) [] (fun pc => fun _ _ _ => none) 19 (c_X11_regret) [(0, .ref v0), (1, .int v1)] [] S = b_X11_regret v0 v1 S := rfl
def b_X11_chosen (v0 : Nat) (S : z_St) : Option (Int32 × z_St) :=
z_chk S v0 12 (
z_chk S v0 12 (
z_onV (va_rf (z_r S v0 13)) fun b1 =>
z_chk S b1 7 (
z_onV (va_rf (z_r S v0 15)) fun b2 =>
z_chk S b2 6 (
(f_X5_leastRegret b2 ((z_d S b1 0)) S).bind fun q3 =>
some (q3.1, q3.2)))))
def f_X11_chosen : Nat → z_St → Option (Int32 × z_St) := z_op (b_X11_chosen)
theorem e_X11_chosen (v0 : Nat) (S : z_St) : f_X11_chosen v0 S = b_X11_chosen v0 S := congrFun (congrFun (z_op_eq (b_X11_chosen)) v0) S
def g_X11_chosen : z_G := .inl (fun as S => match as with
  | [.ref v0] => f_X11_chosen v0 S
  | _ => none)
def c_X11_chosen : List z_E := [
  (0, .aload_n 0, 1, .null, [], z_g0),
  (1, .getfield 70, 3, .null, [12, 15, 3], z_g0),
  (4, .aload_n 0, 1, .null, [], z_g0),
  (5, .getfield 56, 3, .null, [12, 13, 3], z_g0),
  (8, .getfield 459, 3, .null, [7, 0, 2], z_g0),
  (11, .invokevirtual 470, 3, .null, [1, 6, 0], g_X5_leastRegret),
  (14, .ireturn, 1, .null, [], z_g0)]
set_option maxRecDepth 100000 in
theorem r_X11_chosen (v0 : Nat) (S : z_St) : z_seg z_rI (c_X11_chosen) [] (fun pc => fun _ _ _ => none) 10 (c_X11_chosen) [(0, .ref v0)] [] S = b_X11_chosen v0 S := rfl
def b_X11_peak (v0 : Nat) (v1 : Int32) (S : z_St) : Option (Int32 × z_St) :=
(f_X11_outOf v1 ((0 : Int32)) ((5 : Int32)) S).bind fun q1 =>
if q1.1 = 0 then
(z_chk q1.2 v0 12 (
z_onV (va_rf (z_r q1.2 v0 15)) fun b2 =>
z_chk q1.2 b2 6 (
(f_X5_peakHour b2 v1 q1.2).bind fun q3 =>
some (q3.1, q3.2))))
else
(some ((-2000000001 : Int32), q1.2))
def f_X11_peak : Nat → Int32 → z_St → Option (Int32 × z_St) := z_op (b_X11_peak)
theorem e_X11_peak (v0 : Nat) (v1 : Int32) (S : z_St) : f_X11_peak v0 v1 S = b_X11_peak v0 v1 S := congrFun (congrFun (congrFun (z_op_eq (b_X11_peak)) v0) v1) S
def g_X11_peak : z_G := .inl (fun as S => match as with
  | [.ref v0, .int v1] => f_X11_peak v0 v1 S
  | _ => none)
def c_X11_peak : List z_E := [
  (0, .iload_n 1, 1, .null, [], z_g0),
  (1, .iconst 0, 1, .int ((0 : Int32)), [], z_g0),
  (2, .iconst 5, 1, .int ((5 : Int32)), [], z_g0),
  (3, .invokestatic 81, 3, .null, [0, 0, 0, 0], g_X11_outOf),
  (6, .ifCond .eq 8, 3, .null, [14], z_g0),
  (9, .ldc 109, 2, .int (-2000000001 : Int32), [], z_g0),
  (11, .goto 11, 3, .null, [22], z_g0),
  (14, .aload_n 0, 1, .null, [], z_g0),
  (15, .getfield 70, 3, .null, [12, 15, 3], z_g0),
  (18, .iload_n 1, 1, .null, [], z_g0),
  (19, .invokevirtual 474, 3, .null, [1, 6, 0], g_X5_peakHour),
  (22, .ireturn, 1, .null, [], z_g0)]
set_option maxRecDepth 100000 in
theorem r_X11_peak (v0 : Nat) (v1 : Int32) (S : z_St) : z_seg z_rI (c_X11_peak) [] (fun pc => fun _ _ _ => none) 15 (c_X11_peak) [(0, .ref v0), (1, .int v1)] [] S = b_X11_peak v0 v1 S := rfl
def b_X11_chance (v0 : Nat) (v1 : Int64) (v3 : Int32) (S : z_St) : Option (Int32 × z_St) :=
(f_X11_outOf v3 ((0 : Int32)) ((1 : Int32)) S).bind fun q1 =>
if q1.1 = 0 then
((f_X11_noNumber v1 q1.2).bind fun q2 =>
if q2.1 = 0 then
(if v3 = 0 then
(z_chk q2.2 v0 12 (
(f_X11_realOf v1 q2.2).bind fun q5 =>
z_onV (va_rf (z_r q2.2 v0 15)) fun b6 =>
z_chk q5.2 b6 6 (
(f_X5_runsAbove b6 q5.1 q5.2).bind fun q7 =>
some (q7.1, q7.2))))
else
(z_chk q2.2 v0 12 (
z_onV (va_rf (z_r q2.2 v0 15)) fun b3 =>
z_chk q2.2 b3 6 (
(f_X5_runsThatLackNot b3 q2.2).bind fun q4 =>
some (q4.1, q4.2)))))
else
(some ((-2000000002 : Int32), q2.2)))
else
(some ((-2000000002 : Int32), q1.2))
def f_X11_chance : Nat → Int64 → Int32 → z_St → Option (Int32 × z_St) := z_op (b_X11_chance)
theorem e_X11_chance (v0 : Nat) (v1 : Int64) (v3 : Int32) (S : z_St) : f_X11_chance v0 v1 v3 S = b_X11_chance v0 v1 v3 S := congrFun (congrFun (congrFun (congrFun (z_op_eq (b_X11_chance)) v0) v1) v3) S
def g_X11_chance : z_G := .inl (fun as S => match as with
  | [.ref v0, .long v1, .int v3] => f_X11_chance v0 v1 v3 S
  | _ => none)
def c_X11_chance : List z_E := [
  (0, .iload_n 3, 1, .null, [], z_g0),
  (1, .iconst 0, 1, .int ((0 : Int32)), [], z_g0),
  (2, .iconst 1, 1, .int ((1 : Int32)), [], z_g0),
  (3, .invokestatic 81, 3, .null, [0, 0, 0, 0], g_X11_outOf),
  (6, .ifCond .ne 10, 3, .null, [16], z_g0),
  (9, .lload_n 1, 1, .null, [], z_g0),
  (10, .invokestatic 405, 3, .null, [0, 0], g_X11_noNumber),
  (13, .ifCond .eq 6, 3, .null, [19], z_g0),
  (16, .ldc 85, 2, .int (-2000000002 : Int32), [], z_g0),
  (18, .ireturn, 1, .null, [], z_g0),
  (19, .iload_n 3, 1, .null, [], z_g0),
  (20, .ifCond .ne 17, 3, .null, [37], z_g0),
  (23, .aload_n 0, 1, .null, [], z_g0),
  (24, .getfield 70, 3, .null, [12, 15, 3], z_g0),
  (27, .lload_n 1, 1, .null, [], z_g0),
  (28, .invokestatic 339, 3, .null, [0, 0], g_X11_realOf),
  (31, .invokevirtual 477, 3, .null, [1, 6, 0], g_X5_runsAbove),
  (34, .goto 10, 3, .null, [44], z_g0),
  (37, .aload_n 0, 1, .null, [], z_g0),
  (38, .getfield 70, 3, .null, [12, 15, 3], z_g0),
  (41, .invokevirtual 480, 3, .null, [1, 6], g_X5_runsThatLackNot),
  (44, .ireturn, 1, .null, [], z_g0)]
set_option maxRecDepth 100000 in
theorem r_X11_chance (v0 : Nat) (v1 : Int64) (v3 : Int32) (S : z_St) : z_seg z_rI (c_X11_chance) [] (fun pc => fun _ _ _ => none) 25 (c_X11_chance) [(0, .ref v0), (1, .long v1), (3, .int v3)] [] S = b_X11_chance v0 v1 v3 S := rfl
def b_X11_book (v0 : Nat) (v1 : Int32) (S : z_St) : Option (Int32 × z_St) :=
z_chk S v0 12 (
(f_X11_nameless v1 ((z_i S v0 1)) S).bind fun q1 =>
if q1.1 = 0 then
(if v1 = ((-1 : Int32)) then
(z_chk q1.2 v0 12 (
(f_X11_fails v0 ((1 : Int32)) q1.2).bind fun q12 =>
some (q12.1, q12.2)))
else
(z_chk q1.2 v0 12 (
z_onV (va_rf (z_r q1.2 v0 0)) fun b2 =>
z_inb q1.2 b2 110 v1 (
z_onV (va_rf (z_r q1.2 b2 v1.toNatClampNeg)) fun b3 =>
z_chk q1.2 b3 9 (
z_onV (va_rf (z_r q1.2 b3 1)) fun b4 =>
z_chk q1.2 b4 102 (
if (Int32.ofNat (z_n q1.2 b4)) ≤ ((24 : Int32)) then
(z_chk q1.2 v0 12 (
z_onV (va_rf (z_r q1.2 v0 16)) fun b5 =>
z_chk q1.2 b5 3 (
if ((z_i q1.2 b5 2)) < ((60000 : Int32)) then
(z_chk q1.2 v0 12 (
z_chk q1.2 v0 12 (
z_onV (va_rf (z_r q1.2 v0 0)) fun b6 =>
z_inb q1.2 b6 110 v1 (
z_onV (va_rf (z_r q1.2 b6 v1.toNatClampNeg)) fun b7 =>
z_onV (va_rf (z_r q1.2 v0 16)) fun b8 =>
z_chk q1.2 b8 3 (
(f_X2_write b8 b7 q1.2).bind fun q9 =>
z_chk q9 v0 12 (
z_onV (va_rf (z_r q9 v0 16)) fun b10 =>
z_chk q9 b10 3 (
z_chk q9 v0 12 (
(f_X11_passes v0 ((z_i q9 b10 2)) q9).bind fun q11 =>
some (q11.1, q11.2)))))))))
else
(some ((-2000000004 : Int32), q1.2)))))
else
(some ((-2000000002 : Int32), q1.2))))))))
else
(some ((-2000000001 : Int32), q1.2)))
def f_X11_book : Nat → Int32 → z_St → Option (Int32 × z_St) := z_op (b_X11_book)
theorem e_X11_book (v0 : Nat) (v1 : Int32) (S : z_St) : f_X11_book v0 v1 S = b_X11_book v0 v1 S := congrFun (congrFun (congrFun (z_op_eq (b_X11_book)) v0) v1) S
def g_X11_book : z_G := .inl (fun as S => match as with
  | [.ref v0, .int v1] => f_X11_book v0 v1 S
  | _ => none)
def c_X11_book : List z_E := [
  (0, .iload_n 1, 1, .null, [], z_g0),
  (1, .aload_n 0, 1, .null, [], z_g0),
  (2, .getfield 86, 3, .null, [12, 1, 0], z_g0),
  (5, .invokestatic 105, 3, .null, [0, 0, 0], g_X11_nameless),
  (8, .ifCond .eq 6, 3, .null, [14], z_g0),
  (11, .ldc 109, 2, .int (-2000000001 : Int32), [], z_g0),
  (13, .ireturn, 1, .null, [], z_g0),
  (14, .iload_n 1, 1, .null, [], z_g0),
  (15, .iconst (-1), 1, .int ((-1 : Int32)), [], z_g0),
  (16, .if_icmp .ne 9, 3, .null, [25], z_g0),
  (19, .aload_n 0, 1, .null, [], z_g0),
  (20, .iconst 1, 1, .int ((1 : Int32)), [], z_g0),
  (21, .invokevirtual 91, 3, .null, [1, 12, 0], g_X11_fails),
  (24, .ireturn, 1, .null, [], z_g0),
  (25, .aload_n 0, 1, .null, [], z_g0),
  (26, .getfield 11, 3, .null, [12, 0, 3], z_g0),
  (29, .iload_n 1, 1, .null, [], z_g0),
  (30, .aaload, 1, .null, [110], z_g0),
  (31, .getfield 118, 3, .null, [9, 1, 3], z_g0),
  (34, .arraylength, 1, .null, [102], z_g0),
  (35, .bipush 24, 2, .int ((24 : Int32)), [], z_g0),
  (37, .if_icmp .le 6, 3, .null, [43], z_g0),
  (40, .ldc 85, 2, .int (-2000000002 : Int32), [], z_g0),
  (42, .ireturn, 1, .null, [], z_g0),
  (43, .aload_n 0, 1, .null, [], z_g0),
  (44, .getfield 77, 3, .null, [12, 16, 3], z_g0),
  (47, .getfield 418, 3, .null, [3, 2, 0], z_g0),
  (50, .ldc_w 483, 3, .int (60000 : Int32), [], z_g0),
  (53, .if_icmp .lt 6, 3, .null, [59], z_g0),
  (56, .ldc 90, 2, .int (-2000000004 : Int32), [], z_g0),
  (58, .ireturn, 1, .null, [], z_g0),
  (59, .aload_n 0, 1, .null, [], z_g0),
  (60, .getfield 77, 3, .null, [12, 16, 3], z_g0),
  (63, .aload_n 0, 1, .null, [], z_g0),
  (64, .getfield 11, 3, .null, [12, 0, 3], z_g0),
  (67, .iload_n 1, 1, .null, [], z_g0),
  (68, .aaload, 1, .null, [110], z_g0),
  (69, .invokevirtual 484, 3, .null, [1, 3, 1], g_X2_write),
  (72, .aload_n 0, 1, .null, [], z_g0),
  (73, .aload_n 0, 1, .null, [], z_g0),
  (74, .getfield 77, 3, .null, [12, 16, 3], z_g0),
  (77, .getfield 418, 3, .null, [3, 2, 0], z_g0),
  (80, .invokevirtual 102, 3, .null, [1, 12, 0], g_X11_passes),
  (83, .ireturn, 1, .null, [], z_g0)]
set_option maxRecDepth 100000 in
theorem r_X11_book (v0 : Nat) (v1 : Int32) (S : z_St) : z_seg z_rI (c_X11_book) [] (fun pc => fun _ _ _ => none) 47 (c_X11_book) [(0, .ref v0), (1, .int v1)] [] S = b_X11_book v0 v1 S := rfl
def b_X11_pageByte (v0 : Nat) (v1 : Int32) (v2 : Int32) (S : z_St) : Option (Int32 × z_St) :=
(f_X11_outOf v1 ((0 : Int32)) ((31 : Int32)) S).bind fun q1 =>
if q1.1 = 0 then
((f_X11_outOf v2 ((0 : Int32)) ((31 : Int32)) q1.2).bind fun q3 =>
if q3.1 = 0 then
(z_chk q3.2 v0 12 (
z_onV (va_rf (z_r q3.2 v0 16)) fun b4 =>
z_chk q3.2 b4 3 (
(f_X2_byteAt b4 v1 v2 q3.2).bind fun q5 =>
z_chk q5.2 v0 12 (
(f_X11_passes v0 q5.1 q5.2).bind fun q6 =>
some (q6.1, q6.2)))))
else
(z_chk q3.2 v0 12 (
(f_X11_fails v0 ((2 : Int32)) q3.2).bind fun q7 =>
some (q7.1, q7.2))))
else
(z_chk q1.2 v0 12 (
(f_X11_fails v0 ((2 : Int32)) q1.2).bind fun q2 =>
some (q2.1, q2.2)))
def f_X11_pageByte : Nat → Int32 → Int32 → z_St → Option (Int32 × z_St) := z_op (b_X11_pageByte)
theorem e_X11_pageByte (v0 : Nat) (v1 : Int32) (v2 : Int32) (S : z_St) : f_X11_pageByte v0 v1 v2 S = b_X11_pageByte v0 v1 v2 S := congrFun (congrFun (congrFun (congrFun (z_op_eq (b_X11_pageByte)) v0) v1) v2) S
def g_X11_pageByte : z_G := .inl (fun as S => match as with
  | [.ref v0, .int v1, .int v2] => f_X11_pageByte v0 v1 v2 S
  | _ => none)
def c_X11_pageByte : List z_E := [
  (0, .iload_n 1, 1, .null, [], z_g0),
  (1, .iconst 0, 1, .int ((0 : Int32)), [], z_g0),
  (2, .bipush 31, 2, .int ((31 : Int32)), [], z_g0),
  (4, .invokestatic 81, 3, .null, [0, 0, 0, 0], g_X11_outOf),
  (7, .ifCond .ne 13, 3, .null, [20], z_g0),
  (10, .iload_n 2, 1, .null, [], z_g0),
  (11, .iconst 0, 1, .int ((0 : Int32)), [], z_g0),
  (12, .bipush 31, 2, .int ((31 : Int32)), [], z_g0),
  (14, .invokestatic 81, 3, .null, [0, 0, 0, 0], g_X11_outOf),
  (17, .ifCond .eq 9, 3, .null, [26], z_g0),
  (20, .aload_n 0, 1, .null, [], z_g0),
  (21, .iconst 2, 1, .int ((2 : Int32)), [], z_g0),
  (22, .invokevirtual 91, 3, .null, [1, 12, 0], g_X11_fails),
  (25, .ireturn, 1, .null, [], z_g0),
  (26, .aload_n 0, 1, .null, [], z_g0),
  (27, .aload_n 0, 1, .null, [], z_g0),
  (28, .getfield 77, 3, .null, [12, 16, 3], z_g0),
  (31, .iload_n 1, 1, .null, [], z_g0),
  (32, .iload_n 2, 1, .null, [], z_g0),
  (33, .invokevirtual 488, 3, .null, [1, 3, 0, 0], g_X2_byteAt),
  (36, .invokevirtual 102, 3, .null, [1, 12, 0], g_X11_passes),
  (39, .ireturn, 1, .null, [], z_g0)]
set_option maxRecDepth 100000 in
theorem r_X11_pageByte (v0 : Nat) (v1 : Int32) (v2 : Int32) (S : z_St) : z_seg z_rI (c_X11_pageByte) [] (fun pc => fun _ _ _ => none) 25 (c_X11_pageByte) [(0, .ref v0), (1, .int v1), (2, .int v2)] [] S = b_X11_pageByte v0 v1 v2 S := rfl
def b_X11_damage (v0 : Nat) (v1 : Int32) (v2 : Int32) (v3 : Int32) (S : z_St) : Option (Int32 × z_St) :=
(f_X11_outOf v3 ((1 : Int32)) ((255 : Int32)) S).bind fun q1 =>
if q1.1 = 0 then
((f_X11_outOf v1 ((0 : Int32)) ((31 : Int32)) q1.2).bind fun q2 =>
if q2.1 = 0 then
((f_X11_outOf v2 ((0 : Int32)) ((31 : Int32)) q2.2).bind fun q4 =>
if q4.1 = 0 then
(z_chk q4.2 v0 12 (
z_onV (va_rf (z_r q4.2 v0 16)) fun b5 =>
z_chk q4.2 b5 3 (
(f_X2_alter b5 v1 v2 v3 q4.2).bind fun q6 =>
z_chk q6 v0 12 (
(f_X11_passes v0 ((1 : Int32)) q6).bind fun q7 =>
some (q7.1, q7.2)))))
else
(z_chk q4.2 v0 12 (
(f_X11_fails v0 ((2 : Int32)) q4.2).bind fun q8 =>
some (q8.1, q8.2))))
else
(z_chk q2.2 v0 12 (
(f_X11_fails v0 ((2 : Int32)) q2.2).bind fun q3 =>
some (q3.1, q3.2))))
else
(some ((-2000000002 : Int32), q1.2))
def f_X11_damage : Nat → Int32 → Int32 → Int32 → z_St → Option (Int32 × z_St) := z_op (b_X11_damage)
theorem e_X11_damage (v0 : Nat) (v1 : Int32) (v2 : Int32) (v3 : Int32) (S : z_St) : f_X11_damage v0 v1 v2 v3 S = b_X11_damage v0 v1 v2 v3 S := congrFun (congrFun (congrFun (congrFun (congrFun (z_op_eq (b_X11_damage)) v0) v1) v2) v3) S
def g_X11_damage : z_G := .inl (fun as S => match as with
  | [.ref v0, .int v1, .int v2, .int v3] => f_X11_damage v0 v1 v2 v3 S
  | _ => none)
def c_X11_damage : List z_E := [
  (0, .iload_n 3, 1, .null, [], z_g0),
  (1, .iconst 1, 1, .int ((1 : Int32)), [], z_g0),
  (2, .sipush 255, 3, .int ((255 : Int32)), [], z_g0),
  (5, .invokestatic 81, 3, .null, [0, 0, 0, 0], g_X11_outOf),
  (8, .ifCond .eq 6, 3, .null, [14], z_g0),
  (11, .ldc 85, 2, .int (-2000000002 : Int32), [], z_g0),
  (13, .ireturn, 1, .null, [], z_g0),
  (14, .iload_n 1, 1, .null, [], z_g0),
  (15, .iconst 0, 1, .int ((0 : Int32)), [], z_g0),
  (16, .bipush 31, 2, .int ((31 : Int32)), [], z_g0),
  (18, .invokestatic 81, 3, .null, [0, 0, 0, 0], g_X11_outOf),
  (21, .ifCond .ne 13, 3, .null, [34], z_g0),
  (24, .iload_n 2, 1, .null, [], z_g0),
  (25, .iconst 0, 1, .int ((0 : Int32)), [], z_g0),
  (26, .bipush 31, 2, .int ((31 : Int32)), [], z_g0),
  (28, .invokestatic 81, 3, .null, [0, 0, 0, 0], g_X11_outOf),
  (31, .ifCond .eq 9, 3, .null, [40], z_g0),
  (34, .aload_n 0, 1, .null, [], z_g0),
  (35, .iconst 2, 1, .int ((2 : Int32)), [], z_g0),
  (36, .invokevirtual 91, 3, .null, [1, 12, 0], g_X11_fails),
  (39, .ireturn, 1, .null, [], z_g0),
  (40, .aload_n 0, 1, .null, [], z_g0),
  (41, .getfield 77, 3, .null, [12, 16, 3], z_g0),
  (44, .iload_n 1, 1, .null, [], z_g0),
  (45, .iload_n 2, 1, .null, [], z_g0),
  (46, .iload_n 3, 1, .null, [], z_g0),
  (47, .invokevirtual 491, 3, .null, [1, 3, 0, 0, 0], g_X2_alter),
  (50, .aload_n 0, 1, .null, [], z_g0),
  (51, .iconst 1, 1, .int ((1 : Int32)), [], z_g0),
  (52, .invokevirtual 102, 3, .null, [1, 12, 0], g_X11_passes),
  (55, .ireturn, 1, .null, [], z_g0)]
set_option maxRecDepth 100000 in
theorem r_X11_damage (v0 : Nat) (v1 : Int32) (v2 : Int32) (v3 : Int32) (S : z_St) : z_seg z_rI (c_X11_damage) [] (fun pc => fun _ _ _ => none) 34 (c_X11_damage) [(0, .ref v0), (1, .int v1), (2, .int v2), (3, .int v3)] [] S = b_X11_damage v0 v1 v2 v3 S := rfl
def b_X11_tear (v0 : Nat) (v1 : Int32) (v2 : Int32) (S : z_St) : Option (Int32 × z_St) :=
(f_X11_outOf v1 ((0 : Int32)) ((31 : Int32)) S).bind fun q1 =>
if q1.1 = 0 then
((f_X11_outOf v2 ((0 : Int32)) ((32 : Int32)) q1.2).bind fun q2 =>
if q2.1 = 0 then
(z_chk q2.2 v0 12 (
z_onV (va_rf (z_r q2.2 v0 16)) fun b3 =>
z_chk q2.2 b3 3 (
(f_X2_clearFrom b3 v1 v2 q2.2).bind fun q4 =>
some ((1 : Int32), q4))))
else
(some ((-2000000002 : Int32), q2.2)))
else
(some ((-2000000001 : Int32), q1.2))
def f_X11_tear : Nat → Int32 → Int32 → z_St → Option (Int32 × z_St) := z_op (b_X11_tear)
theorem e_X11_tear (v0 : Nat) (v1 : Int32) (v2 : Int32) (S : z_St) : f_X11_tear v0 v1 v2 S = b_X11_tear v0 v1 v2 S := congrFun (congrFun (congrFun (congrFun (z_op_eq (b_X11_tear)) v0) v1) v2) S
def g_X11_tear : z_G := .inl (fun as S => match as with
  | [.ref v0, .int v1, .int v2] => f_X11_tear v0 v1 v2 S
  | _ => none)
def c_X11_tear : List z_E := [
  (0, .iload_n 1, 1, .null, [], z_g0),
  (1, .iconst 0, 1, .int ((0 : Int32)), [], z_g0),
  (2, .bipush 31, 2, .int ((31 : Int32)), [], z_g0),
  (4, .invokestatic 81, 3, .null, [0, 0, 0, 0], g_X11_outOf),
  (7, .ifCond .eq 6, 3, .null, [13], z_g0),
  (10, .ldc 109, 2, .int (-2000000001 : Int32), [], z_g0),
  (12, .ireturn, 1, .null, [], z_g0),
  (13, .iload_n 2, 1, .null, [], z_g0),
  (14, .iconst 0, 1, .int ((0 : Int32)), [], z_g0),
  (15, .bipush 32, 2, .int ((32 : Int32)), [], z_g0),
  (17, .invokestatic 81, 3, .null, [0, 0, 0, 0], g_X11_outOf),
  (20, .ifCond .eq 6, 3, .null, [26], z_g0),
  (23, .ldc 85, 2, .int (-2000000002 : Int32), [], z_g0),
  (25, .ireturn, 1, .null, [], z_g0),
  (26, .aload_n 0, 1, .null, [], z_g0),
  (27, .getfield 77, 3, .null, [12, 16, 3], z_g0),
  (30, .iload_n 1, 1, .null, [], z_g0),
  (31, .iload_n 2, 1, .null, [], z_g0),
  (32, .invokevirtual 495, 3, .null, [1, 3, 0, 0], g_X2_clearFrom),
  (35, .iconst 1, 1, .int ((1 : Int32)), [], z_g0),
  (36, .ireturn, 1, .null, [], z_g0)]
set_option maxRecDepth 100000 in
theorem r_X11_tear (v0 : Nat) (v1 : Int32) (v2 : Int32) (S : z_St) : z_seg z_rI (c_X11_tear) [] (fun pc => fun _ _ _ => none) 24 (c_X11_tear) [(0, .ref v0), (1, .int v1), (2, .int v2)] [] S = b_X11_tear v0 v1 v2 S := rfl
def b_X11_twin (v0 : Nat) (v1 : Int32) (v2 : Int32) (S : z_St) : Option (Int32 × z_St) :=
(f_X11_outOf v1 ((0 : Int32)) ((31 : Int32)) S).bind fun q1 =>
if q1.1 = 0 then
((f_X11_outOf v2 ((0 : Int32)) ((31 : Int32)) q1.2).bind fun q2 =>
if q2.1 = 0 then
(z_chk q2.2 v0 12 (
z_onV (va_rf (z_r q2.2 v0 16)) fun b3 =>
z_chk q2.2 b3 3 (
(f_X2_copyPage b3 v1 v2 q2.2).bind fun q4 =>
some ((1 : Int32), q4))))
else
(some ((-2000000001 : Int32), q2.2)))
else
(some ((-2000000001 : Int32), q1.2))
def f_X11_twin : Nat → Int32 → Int32 → z_St → Option (Int32 × z_St) := z_op (b_X11_twin)
theorem e_X11_twin (v0 : Nat) (v1 : Int32) (v2 : Int32) (S : z_St) : f_X11_twin v0 v1 v2 S = b_X11_twin v0 v1 v2 S := congrFun (congrFun (congrFun (congrFun (z_op_eq (b_X11_twin)) v0) v1) v2) S
def g_X11_twin : z_G := .inl (fun as S => match as with
  | [.ref v0, .int v1, .int v2] => f_X11_twin v0 v1 v2 S
  | _ => none)
def c_X11_twin : List z_E := [
  (0, .iload_n 1, 1, .null, [], z_g0),
  (1, .iconst 0, 1, .int ((0 : Int32)), [], z_g0),
  (2, .bipush 31, 2, .int ((31 : Int32)), [], z_g0),
  (4, .invokestatic 81, 3, .null, [0, 0, 0, 0], g_X11_outOf),
  (7, .ifCond .ne 13, 3, .null, [20], z_g0),
  (10, .iload_n 2, 1, .null, [], z_g0),
  (11, .iconst 0, 1, .int ((0 : Int32)), [], z_g0),
  (12, .bipush 31, 2, .int ((31 : Int32)), [], z_g0),
  (14, .invokestatic 81, 3, .null, [0, 0, 0, 0], g_X11_outOf),
  (17, .ifCond .eq 6, 3, .null, [23], z_g0),
  (20, .ldc 109, 2, .int (-2000000001 : Int32), [], z_g0),
  (22, .ireturn, 1, .null, [], z_g0),
  (23, .aload_n 0, 1, .null, [], z_g0),
  (24, .getfield 77, 3, .null, [12, 16, 3], z_g0),
  (27, .iload_n 1, 1, .null, [], z_g0),
  (28, .iload_n 2, 1, .null, [], z_g0),
  (29, .invokevirtual 498, 3, .null, [1, 3, 0, 0], g_X2_copyPage),
  (32, .iconst 1, 1, .int ((1 : Int32)), [], z_g0),
  (33, .ireturn, 1, .null, [], z_g0)]
set_option maxRecDepth 100000 in
theorem r_X11_twin (v0 : Nat) (v1 : Int32) (v2 : Int32) (S : z_St) : z_seg z_rI (c_X11_twin) [] (fun pc => fun _ _ _ => none) 22 (c_X11_twin) [(0, .ref v0), (1, .int v1), (2, .int v2)] [] S = b_X11_twin v0 v1 v2 S := rfl
def b_X11_open (v0 : Nat) (S : z_St) : Option (Int32 × z_St) :=
z_chk S v0 12 (
z_onV (va_rf (z_r S v0 16)) fun b1 =>
z_chk S b1 3 (
(f_X2_pagesOf b1 ((1 : Int32)) S).bind fun q2 =>
some (q2.1, q2.2)))
def f_X11_open : Nat → z_St → Option (Int32 × z_St) := z_op (b_X11_open)
theorem e_X11_open (v0 : Nat) (S : z_St) : f_X11_open v0 S = b_X11_open v0 S := congrFun (congrFun (z_op_eq (b_X11_open)) v0) S
def g_X11_open : z_G := .inl (fun as S => match as with
  | [.ref v0] => f_X11_open v0 S
  | _ => none)
def c_X11_open : List z_E := [
  (0, .aload_n 0, 1, .null, [], z_g0),
  (1, .getfield 77, 3, .null, [12, 16, 3], z_g0),
  (4, .iconst 1, 1, .int ((1 : Int32)), [], z_g0),
  (5, .invokevirtual 501, 3, .null, [1, 3, 0], g_X2_pagesOf),
  (8, .ireturn, 1, .null, [], z_g0)]
set_option maxRecDepth 100000 in
theorem r_X11_open (v0 : Nat) (S : z_St) : z_seg z_rI (c_X11_open) [] (fun pc => fun _ _ _ => none) 8 (c_X11_open) [(0, .ref v0)] [] S = b_X11_open v0 S := rfl
def b_X11_opened (v0 : Nat) (v1 : Int32) (v2 : Int32) (S : z_St) : Option (Int32 × z_St) :=
z_chk S v0 12 (
z_onV (va_rf (z_r S v0 16)) fun b1 =>
z_chk S b1 3 (
(f_X2_pageOfRow b1 v1 S).bind fun q2 =>
if q2.1 = ((-1 : Int32)) then
(some ((-2000000001 : Int32), q2.2))
else
(z_chk q2.2 v0 12 (
z_onV (va_rf (z_r q2.2 v0 16)) fun b3 =>
z_chk q2.2 b3 3 (
(f_X2_byteAt b3 q2.1 ((2 : Int32)) q2.2).bind fun q4 =>
if v2 = 0 then
(z_chk q4.2 v0 12 (
z_onV (va_rf (z_r q4.2 v0 16)) fun b8 =>
z_chk q4.2 b8 3 (
z_onV (va_rf (z_r q4.2 b8 1)) fun b9 =>
z_inb q4.2 b9 101 q2.1 (
some ((z_i q4.2 b9 q2.1.toNatClampNeg), q4.2)))))
else
(if v2 = ((1 : Int32)) then
(some (q4.1, q4.2))
else
(if v2 = ((2 : Int32)) then
(some (q2.1, q4.2))
else
((f_X11_outOf v2 ((10 : Int32)) (((9 : Int32)) + q4.1) q4.2).bind fun q5 =>
if q5.1 = 0 then
(z_chk q5.2 v0 12 (
z_onV (va_rf (z_r q5.2 v0 16)) fun b6 =>
z_chk q5.2 b6 3 (
(f_X2_byteAt b6 q2.1 ((v2 - ((10 : Int32))) + ((3 : Int32))) q5.2).bind fun q7 =>
some (q7.1, q7.2))))
else
(some ((-2000000002 : Int32), q5.2))))))))))
def f_X11_opened : Nat → Int32 → Int32 → z_St → Option (Int32 × z_St) := z_op (b_X11_opened)
theorem e_X11_opened (v0 : Nat) (v1 : Int32) (v2 : Int32) (S : z_St) : f_X11_opened v0 v1 v2 S = b_X11_opened v0 v1 v2 S := congrFun (congrFun (congrFun (congrFun (z_op_eq (b_X11_opened)) v0) v1) v2) S
def g_X11_opened : z_G := .inl (fun as S => match as with
  | [.ref v0, .int v1, .int v2] => f_X11_opened v0 v1 v2 S
  | _ => none)
def c_X11_opened : List z_E := [
  (0, .aload_n 0, 1, .null, [], z_g0),
  (1, .getfield 77, 3, .null, [12, 16, 3], z_g0),
  (4, .iload_n 1, 1, .null, [], z_g0),
  (5, .invokevirtual 504, 3, .null, [1, 3, 0], g_X2_pageOfRow),
  (8, .istore_n 3, 1, .null, [], z_g0),
  (9, .iload_n 3, 1, .null, [], z_g0),
  (10, .iconst (-1), 1, .int ((-1 : Int32)), [], z_g0),
  (11, .if_icmp .ne 6, 3, .null, [17], z_g0),
  (14, .ldc 109, 2, .int (-2000000001 : Int32), [], z_g0),
  (16, .ireturn, 1, .null, [], z_g0),
  (17, .aload_n 0, 1, .null, [], z_g0),
  (18, .getfield 77, 3, .null, [12, 16, 3], z_g0),
  (21, .iload_n 3, 1, .null, [], z_g0),
  (22, .iconst 2, 1, .int ((2 : Int32)), [], z_g0),
  (23, .invokevirtual 488, 3, .null, [1, 3, 0, 0], g_X2_byteAt),
  (26, .istore 4, 2, .null, [], z_g0),
  (28, .iload_n 2, 1, .null, [], z_g0),
  (29, .ifCond .ne 13, 3, .null, [42], z_g0),
  (32, .aload_n 0, 1, .null, [], z_g0),
  (33, .getfield 77, 3, .null, [12, 16, 3], z_g0),
  (36, .getfield 507, 3, .null, [3, 1, 3], z_g0),
  (39, .iload_n 3, 1, .null, [], z_g0),
  (40, .iaload, 1, .null, [101], z_g0),
  (41, .ireturn, 1, .null, [], z_g0),
  (42, .iload_n 2, 1, .null, [], z_g0),
  (43, .iconst 1, 1, .int ((1 : Int32)), [], z_g0),
  (44, .if_icmp .ne 6, 3, .null, [50], z_g0),
  (47, .iload 4, 2, .null, [], z_g0),
  (49, .ireturn, 1, .null, [], z_g0),
  (50, .iload_n 2, 1, .null, [], z_g0),
  (51, .iconst 2, 1, .int ((2 : Int32)), [], z_g0),
  (52, .if_icmp .ne 5, 3, .null, [57], z_g0),
  (55, .iload_n 3, 1, .null, [], z_g0),
  (56, .ireturn, 1, .null, [], z_g0),
  (57, .iload_n 2, 1, .null, [], z_g0),
  (58, .bipush 10, 2, .int ((10 : Int32)), [], z_g0),
  (60, .bipush 9, 2, .int ((9 : Int32)), [], z_g0),
  (62, .iload 4, 2, .null, [], z_g0),
  (64, .iadd, 1, .null, [], z_g0),
  (65, .invokestatic 81, 3, .null, [0, 0, 0, 0], g_X11_outOf),
  (68, .ifCond .eq 8, 3, .null, [76], z_g0),
  (71, .ldc 85, 2, .int (-2000000002 : Int32), [], z_g0),
  (73, .goto 17, 3, .null, [90], z_g0),
  (76, .aload_n 0, 1, .null, [], z_g0),
  (77, .getfield 77, 3, .null, [12, 16, 3], z_g0),
  (80, .iload_n 3, 1, .null, [], z_g0),
  (81, .iload_n 2, 1, .null, [], z_g0),
  (82, .bipush 10, 2, .int ((10 : Int32)), [], z_g0),
  (84, .isub, 1, .null, [], z_g0),
  (85, .iconst 3, 1, .int ((3 : Int32)), [], z_g0),
  (86, .iadd, 1, .null, [], z_g0),
  (87, .invokevirtual 488, 3, .null, [1, 3, 0, 0], g_X2_byteAt),
  (90, .ireturn, 1, .null, [], z_g0)]
set_option maxRecDepth 100000 in
theorem r_X11_opened (v0 : Nat) (v1 : Int32) (v2 : Int32) (S : z_St) : z_seg z_rI (c_X11_opened) [] (fun pc => fun _ _ _ => none) 56 (c_X11_opened) [(0, .ref v0), (1, .int v1), (2, .int v2)] [] S = b_X11_opened v0 v1 v2 S := rfl
def j_X11_lost_30 (v0 : Nat) (v2 : Int32) (t0 : Int32) (S : z_St) : Option (Int32 × z_St) :=
if v2 = ((-1 : Int32)) then
(z_chk S v0 12 (
z_onV (va_rf (z_r S v0 16)) fun b4 =>
z_chk S b4 3 (
(f_X2_pagesOf b4 t0 S).bind fun q5 =>
some (q5.1, q5.2))))
else
(z_chk S v0 12 (
z_onV (va_rf (z_r S v0 16)) fun b2 =>
z_chk S b2 3 (
(f_X2_pageOf b2 t0 v2 S).bind fun q3 =>
some (q3.1, q3.2))))
def b_X11_lost (v0 : Nat) (v1 : Int32) (v2 : Int32) (S : z_St) : Option (Int32 × z_St) :=
(f_X11_outOf v1 ((0 : Int32)) ((2 : Int32)) S).bind fun q1 =>
if q1.1 = 0 then
(if v1 = 0 then
(j_X11_lost_30 v0 v2 ((2 : Int32)) q1.2)
else
(if v1 = ((1 : Int32)) then
(j_X11_lost_30 v0 v2 ((3 : Int32)) q1.2)
else
(j_X11_lost_30 v0 v2 ((4 : Int32)) q1.2)))
else
(some ((-2000000002 : Int32), q1.2))
def f_X11_lost : Nat → Int32 → Int32 → z_St → Option (Int32 × z_St) := z_op (b_X11_lost)
theorem e_X11_lost (v0 : Nat) (v1 : Int32) (v2 : Int32) (S : z_St) : f_X11_lost v0 v1 v2 S = b_X11_lost v0 v1 v2 S := congrFun (congrFun (congrFun (congrFun (z_op_eq (b_X11_lost)) v0) v1) v2) S
def g_X11_lost : z_G := .inl (fun as S => match as with
  | [.ref v0, .int v1, .int v2] => f_X11_lost v0 v1 v2 S
  | _ => none)
def c_X11_lost : List z_E := [
  (0, .iload_n 1, 1, .null, [], z_g0),
  (1, .iconst 0, 1, .int ((0 : Int32)), [], z_g0),
  (2, .iconst 2, 1, .int ((2 : Int32)), [], z_g0),
  (3, .invokestatic 81, 3, .null, [0, 0, 0, 0], g_X11_outOf),
  (6, .ifCond .eq 6, 3, .null, [12], z_g0),
  (9, .ldc 85, 2, .int (-2000000002 : Int32), [], z_g0),
  (11, .ireturn, 1, .null, [], z_g0),
  (12, .iload_n 1, 1, .null, [], z_g0),
  (13, .ifCond .ne 7, 3, .null, [20], z_g0),
  (16, .iconst 2, 1, .int ((2 : Int32)), [], z_g0),
  (17, .goto 13, 3, .null, [30], z_g0),
  (20, .iload_n 1, 1, .null, [], z_g0),
  (21, .iconst 1, 1, .int ((1 : Int32)), [], z_g0),
  (22, .if_icmp .ne 7, 3, .null, [29], z_g0),
  (25, .iconst 3, 1, .int ((3 : Int32)), [], z_g0),
  (26, .goto 4, 3, .null, [30], z_g0),
  (29, .iconst 4, 1, .int ((4 : Int32)), [], z_g0),
  (30, .istore_n 3, 1, .null, [], z_g0),
  (31, .iload_n 2, 1, .null, [], z_g0),
  (32, .iconst (-1), 1, .int ((-1 : Int32)), [], z_g0),
  (33, .if_icmp .ne 14, 3, .null, [47], z_g0),
  (36, .aload_n 0, 1, .null, [], z_g0),
  (37, .getfield 77, 3, .null, [12, 16, 3], z_g0),
  (40, .iload_n 3, 1, .null, [], z_g0),
  (41, .invokevirtual 501, 3, .null, [1, 3, 0], g_X2_pagesOf),
  (44, .goto 12, 3, .null, [56], z_g0),
  (47, .aload_n 0, 1, .null, [], z_g0),
  (48, .getfield 77, 3, .null, [12, 16, 3], z_g0),
  (51, .iload_n 3, 1, .null, [], z_g0),
  (52, .iload_n 2, 1, .null, [], z_g0),
  (53, .invokevirtual 510, 3, .null, [1, 3, 0, 0], g_X2_pageOf),
  (56, .ireturn, 1, .null, [], z_g0)]
def a_X11_lost_30 {ρ : Type} (k : Nat → Int32 → Int32 → z_St → Option ρ) (ls : z_Lv) (st : List Value) (S : z_St) : Option ρ := z_gR ls 0 fun v0 => z_gI ls 2 fun v2 => z_pI st fun t0 s0 => z_p0 s0 (k v0 v2 t0 S)
set_option maxRecDepth 100000 in
theorem r_X11_lost_30 (v0 : Nat) (v2 : Int32) (t0 : Int32) (S : z_St) : z_seg z_rI (c_X11_lost) [30] (fun pc => fun _ _ _ => none) 35 (z_to 30 (c_X11_lost)) [(0, .ref v0), (2, .int v2)] [.int t0] S = j_X11_lost_30 v0 v2 t0 S := rfl
set_option maxRecDepth 100000 in
theorem r_X11_lost (v0 : Nat) (v1 : Int32) (v2 : Int32) (S : z_St) : z_seg z_rI (c_X11_lost) [30] (fun pc => cond (Nat.beq pc 30) (a_X11_lost_30 (j_X11_lost_30)) (fun _ _ _ => none)) 35 (c_X11_lost) [(0, .ref v0), (1, .int v1), (2, .int v2)] [] S = b_X11_lost v0 v1 v2 S := rfl
def l_X12_init_575 : Nat → Nat → Int32 → z_St → Option z_St
  | 0 => fun _ _ _ => none
  | n + 1 => fun (v0 : Nat) (v1 : Int32) (S : z_St) =>
if ((6 : Int32)) ≤ v1 then
(some S)
else
(z_chk S v0 13 (
z_onV (va_rf (z_r S v0 77)) fun b202 =>
z_inb S b202 101 v1 (
let S203 := z_wi S b202 v1.toNatClampNeg ((-1 : Int32))
let x204 := v1 + (1 : Int32)
l_X12_init_575 n v0 x204 S203)))
def j_X12_init_518 (v0 : Nat) (S : z_St) : Option z_St :=
z_len ((12 : Int32)) 30000 (
let a183 := z_x S
let S184 := z_new S 102 ((12 : Int32)).toNatClampNeg
z_chk S184 v0 13 (
let S185 := z_wr S184 v0 91 (some a183)
z_chk S185 v0 13 (
let S186 := z_wi S185 v0 92 ((12 : Int32))
z_len ((72 : Int32)) 30000 (
let a187 := z_x S186
let S188 := z_new S186 104 ((72 : Int32)).toNatClampNeg
z_chk S188 v0 13 (
let S189 := z_wr S188 v0 93 (some a187)
z_len ((72 : Int32)) 30000 (
let a190 := z_x S189
let S191 := z_new S189 103 ((72 : Int32)).toNatClampNeg
z_chk S191 v0 13 (
let S192 := z_wr S191 v0 94 (some a190)
z_len ((8 : Int32)) 30000 (
let a193 := z_x S192
let S194 := z_new S192 104 ((8 : Int32)).toNatClampNeg
z_chk S194 v0 13 (
let S195 := z_wr S194 v0 95 (some a193)
z_len ((8 : Int32)) 30000 (
let a196 := z_x S195
let S197 := z_new S195 103 ((8 : Int32)).toNatClampNeg
z_chk S197 v0 13 (
let S198 := z_wr S197 v0 96 (some a196)
z_len ((1024 : Int32)) 30000 (
let a199 := z_x S198
let S200 := z_new S198 101 ((1024 : Int32)).toNatClampNeg
z_chk S200 v0 13 (
let S201 := z_wr S200 v0 98 (some a199)
l_X12_init_575 z_N v0 ((0 : Int32)) S201)))))))))))))
def j_X12_init_439 (v0 : Nat) (S : z_St) : Option z_St :=
z_len ((4 : Int32)) 30000 (
let a153 := z_x S
let S154 := z_new S 101 ((4 : Int32)).toNatClampNeg
z_chk S154 v0 13 (
let S155 := z_wr S154 v0 79 (some a153)
z_len ((12 : Int32)) 30000 (
let a156 := z_x S155
let S157 := z_new S155 101 ((12 : Int32)).toNatClampNeg
z_chk S157 v0 13 (
let S158 := z_wr S157 v0 81 (some a156)
z_len ((12 : Int32)) 30000 (
let a159 := z_x S158
let S160 := z_new S158 101 ((12 : Int32)).toNatClampNeg
z_chk S160 v0 13 (
let S161 := z_wr S160 v0 82 (some a159)
z_len ((12 : Int32)) 30000 (
let a162 := z_x S161
let S163 := z_new S161 101 ((12 : Int32)).toNatClampNeg
z_chk S163 v0 13 (
let S164 := z_wr S163 v0 83 (some a162)
z_len ((12 : Int32)) 30000 (
let a165 := z_x S164
let S166 := z_new S164 103 ((12 : Int32)).toNatClampNeg
z_chk S166 v0 13 (
let S167 := z_wr S166 v0 84 (some a165)
z_len ((12 : Int32)) 30000 (
let a168 := z_x S167
let S169 := z_new S167 103 ((12 : Int32)).toNatClampNeg
z_chk S169 v0 13 (
let S170 := z_wr S169 v0 85 (some a168)
z_len ((12 : Int32)) 30000 (
let a171 := z_x S170
let S172 := z_new S170 103 ((12 : Int32)).toNatClampNeg
z_chk S172 v0 13 (
let S173 := z_wr S172 v0 86 (some a171)
z_len ((12 : Int32)) 30000 (
let a174 := z_x S173
let S175 := z_new S173 101 ((12 : Int32)).toNatClampNeg
z_chk S175 v0 13 (
let S176 := z_wr S175 v0 88 (some a174)
z_len ((12 : Int32)) 30000 (
let a177 := z_x S176
let S178 := z_new S176 101 ((12 : Int32)).toNatClampNeg
z_chk S178 v0 13 (
let S179 := z_wr S178 v0 89 (some a177)
z_len ((12 : Int32)) 30000 (
let a180 := z_x S179
let S181 := z_new S179 102 ((12 : Int32)).toNatClampNeg
z_chk S181 v0 13 (
let S182 := z_wr S181 v0 90 (some a180)
j_X12_init_518 v0 S182))))))))))))))))))))
def j_X12_init_362 (v0 : Nat) (S : z_St) : Option z_St :=
z_len ((4 : Int32)) 30000 (
let a123 := z_x S
let S124 := z_new S 104 ((4 : Int32)).toNatClampNeg
z_chk S124 v0 13 (
let S125 := z_wr S124 v0 67 (some a123)
z_len ((4 : Int32)) 30000 (
let a126 := z_x S125
let S127 := z_new S125 103 ((4 : Int32)).toNatClampNeg
z_chk S127 v0 13 (
let S128 := z_wr S127 v0 68 (some a126)
z_len ((4 : Int32)) 30000 (
let a129 := z_x S128
let S130 := z_new S128 101 ((4 : Int32)).toNatClampNeg
z_chk S130 v0 13 (
let S131 := z_wr S130 v0 69 (some a129)
z_len ((24 : Int32)) 30000 (
let a132 := z_x S131
let S133 := z_new S131 104 ((24 : Int32)).toNatClampNeg
z_chk S133 v0 13 (
let S134 := z_wr S133 v0 70 (some a132)
z_len ((24 : Int32)) 30000 (
let a135 := z_x S134
let S136 := z_new S134 102 ((24 : Int32)).toNatClampNeg
z_chk S136 v0 13 (
let S137 := z_wr S136 v0 71 (some a135)
z_len ((24 : Int32)) 30000 (
let a138 := z_x S137
let S139 := z_new S137 104 ((24 : Int32)).toNatClampNeg
z_chk S139 v0 13 (
let S140 := z_wr S139 v0 72 (some a138)
z_len ((6 : Int32)) 30000 (
let a141 := z_x S140
let S142 := z_new S140 104 ((6 : Int32)).toNatClampNeg
z_chk S142 v0 13 (
let S143 := z_wr S142 v0 73 (some a141)
z_len ((6 : Int32)) 30000 (
let a144 := z_x S143
let S145 := z_new S143 102 ((6 : Int32)).toNatClampNeg
z_chk S145 v0 13 (
let S146 := z_wr S145 v0 74 (some a144)
z_len ((6 : Int32)) 30000 (
let a147 := z_x S146
let S148 := z_new S146 101 ((6 : Int32)).toNatClampNeg
z_chk S148 v0 13 (
let S149 := z_wr S148 v0 77 (some a147)
z_len ((6 : Int32)) 30000 (
let a150 := z_x S149
let S151 := z_new S149 103 ((6 : Int32)).toNatClampNeg
z_chk S151 v0 13 (
let S152 := z_wr S151 v0 78 (some a150)
j_X12_init_439 v0 S152))))))))))))))))))))
def j_X12_init_285 (v0 : Nat) (S : z_St) : Option z_St :=
z_len ((8 : Int32)) 30000 (
let a99 := z_x S
let S100 := z_new S 101 ((8 : Int32)).toNatClampNeg
z_chk S100 v0 13 (
let S101 := z_wr S100 v0 41 (some a99)
z_len ((8 : Int32)) 30000 (
let a102 := z_x S101
let S103 := z_new S101 101 ((8 : Int32)).toNatClampNeg
z_chk S103 v0 13 (
let S104 := z_wr S103 v0 42 (some a102)
z_len ((8 : Int32)) 30000 (
let a105 := z_x S104
let S106 := z_new S104 101 ((8 : Int32)).toNatClampNeg
z_chk S106 v0 13 (
let S107 := z_wr S106 v0 43 (some a105)
z_len ((400 : Int32)) 30000 (
let a108 := z_x S107
let S109 := z_new S107 101 ((400 : Int32)).toNatClampNeg
z_chk S109 v0 13 (
let S110 := z_wr S109 v0 45 (some a108)
z_len ((2560 : Int32)) 30000 (
let a111 := z_x S110
let S112 := z_new S110 102 ((2560 : Int32)).toNatClampNeg
z_chk S112 v0 13 (
let S113 := z_wr S112 v0 53 (some a111)
z_chk S113 v0 13 (
let S114 := z_wd S113 v0 54 ((4681608360884174848 : UInt64))
z_chk S114 v0 13 (
let S115 := z_wd S114 v0 61 ((4593671619917905920 : UInt64))
z_chk S115 v0 13 (
let S116 := z_wd S115 v0 64 ((9221120237041090560 : UInt64))
z_len ((4 : Int32)) 30000 (
let a117 := z_x S116
let S118 := z_new S116 103 ((4 : Int32)).toNatClampNeg
z_chk S118 v0 13 (
let S119 := z_wr S118 v0 65 (some a117)
z_len ((4 : Int32)) 30000 (
let a120 := z_x S119
let S121 := z_new S119 104 ((4 : Int32)).toNatClampNeg
z_chk S121 v0 13 (
let S122 := z_wr S121 v0 66 (some a120)
j_X12_init_362 v0 S122)))))))))))))))))
def j_X12_init_206 (v0 : Nat) (S : z_St) : Option z_St :=
z_len ((64 : Int32)) 30000 (
let a69 := z_x S
let S70 := z_new S 103 ((64 : Int32)).toNatClampNeg
z_chk S70 v0 13 (
let S71 := z_wr S70 v0 28 (some a69)
z_len ((12 : Int32)) 30000 (
let a72 := z_x S71
let S73 := z_new S71 101 ((12 : Int32)).toNatClampNeg
z_chk S73 v0 13 (
let S74 := z_wr S73 v0 29 (some a72)
z_len ((720 : Int32)) 30000 (
let a75 := z_x S74
let S76 := z_new S74 101 ((720 : Int32)).toNatClampNeg
z_chk S76 v0 13 (
let S77 := z_wr S76 v0 30 (some a75)
z_len ((4 : Int32)) 30000 (
let a78 := z_x S77
let S79 := z_new S77 101 ((4 : Int32)).toNatClampNeg
z_chk S79 v0 13 (
let S80 := z_wr S79 v0 32 (some a78)
z_len ((4 : Int32)) 30000 (
let a81 := z_x S80
let S82 := z_new S80 101 ((4 : Int32)).toNatClampNeg
z_chk S82 v0 13 (
let S83 := z_wr S82 v0 33 (some a81)
z_len ((60 : Int32)) 30000 (
let a84 := z_x S83
let S85 := z_new S83 101 ((60 : Int32)).toNatClampNeg
z_chk S85 v0 13 (
let S86 := z_wr S85 v0 35 (some a84)
z_len ((8 : Int32)) 30000 (
let a87 := z_x S86
let S88 := z_new S86 101 ((8 : Int32)).toNatClampNeg
z_chk S88 v0 13 (
let S89 := z_wr S88 v0 37 (some a87)
z_len ((8 : Int32)) 30000 (
let a90 := z_x S89
let S91 := z_new S89 101 ((8 : Int32)).toNatClampNeg
z_chk S91 v0 13 (
let S92 := z_wr S91 v0 38 (some a90)
z_len ((8 : Int32)) 30000 (
let a93 := z_x S92
let S94 := z_new S92 101 ((8 : Int32)).toNatClampNeg
z_chk S94 v0 13 (
let S95 := z_wr S94 v0 39 (some a93)
z_len ((8 : Int32)) 30000 (
let a96 := z_x S95
let S97 := z_new S95 101 ((8 : Int32)).toNatClampNeg
z_chk S97 v0 13 (
let S98 := z_wr S97 v0 40 (some a96)
j_X12_init_285 v0 S98))))))))))))))))))))
def j_X12_init_88 (v0 : Nat) (S : z_St) : Option z_St :=
z_len ((20 : Int32)) 30000 (
let a31 := z_x S
let S32 := z_new S 101 ((20 : Int32)).toNatClampNeg
z_chk S32 v0 13 (
let S33 := z_wr S32 v0 17 (some a31)
z_len ((320 : Int32)) 30000 (
let a34 := z_x S33
let S35 := z_new S33 101 ((320 : Int32)).toNatClampNeg
z_chk S35 v0 13 (
let S36 := z_wr S35 v0 18 (some a34)
z_len ((16 : Int32)) 30000 (
let a37 := z_x S36
let S38 := z_new S36 101 ((16 : Int32)).toNatClampNeg
z_chk S38 v0 13 (
let S39 := z_wr S38 v0 19 (some a37)
z_len ((10 : Int32)) 30000 (
let a40 := z_x S39
let S41 := z_new S39 101 ((10 : Int32)).toNatClampNeg
z_chk S41 v0 13 (
let S42 := z_wr S41 v0 20 (some a40)
z_len ((10 : Int32)) 30000 (
let a43 := z_x S42
let S44 := z_new S42 101 ((10 : Int32)).toNatClampNeg
z_chk S44 v0 13 (
let S45 := z_wr S44 v0 21 (some a43)
z_len ((8 : Int32)) 30000 (
let a46 := z_x S45
let S47 := z_new S45 101 ((8 : Int32)).toNatClampNeg
z_inb S47 a46 101 ((0 : Int32)) (
let S48 := z_wi S47 a46 ((0 : Int32)).toNatClampNeg ((5 : Int32))
z_inb S48 a46 101 ((1 : Int32)) (
let S49 := z_wi S48 a46 ((1 : Int32)).toNatClampNeg ((0 : Int32))
z_inb S49 a46 101 ((2 : Int32)) (
let S50 := z_wi S49 a46 ((2 : Int32)).toNatClampNeg ((4 : Int32))
z_inb S50 a46 101 ((3 : Int32)) (
let S51 := z_wi S50 a46 ((3 : Int32)).toNatClampNeg ((1 : Int32))
z_inb S51 a46 101 ((4 : Int32)) (
let S52 := z_wi S51 a46 ((4 : Int32)).toNatClampNeg ((7 : Int32))
z_inb S52 a46 101 ((5 : Int32)) (
let S53 := z_wi S52 a46 ((5 : Int32)).toNatClampNeg ((2 : Int32))
z_inb S53 a46 101 ((6 : Int32)) (
let S54 := z_wi S53 a46 ((6 : Int32)).toNatClampNeg ((3 : Int32))
z_inb S54 a46 101 ((7 : Int32)) (
let S55 := z_wi S54 a46 ((7 : Int32)).toNatClampNeg ((6 : Int32))
z_chk S55 v0 13 (
let S56 := z_wr S55 v0 23 (some a46)
z_len ((160 : Int32)) 30000 (
let a57 := z_x S56
let S58 := z_new S56 102 ((160 : Int32)).toNatClampNeg
z_chk S58 v0 13 (
let S59 := z_wr S58 v0 24 (some a57)
z_len ((20 : Int32)) 30000 (
let a60 := z_x S59
let S61 := z_new S59 101 ((20 : Int32)).toNatClampNeg
z_chk S61 v0 13 (
let S62 := z_wr S61 v0 25 (some a60)
z_len ((20 : Int32)) 30000 (
let a63 := z_x S62
let S64 := z_new S62 101 ((20 : Int32)).toNatClampNeg
z_chk S64 v0 13 (
let S65 := z_wr S64 v0 26 (some a63)
z_len ((20 : Int32)) 30000 (
let a66 := z_x S65
let S67 := z_new S65 104 ((20 : Int32)).toNatClampNeg
z_chk S67 v0 13 (
let S68 := z_wr S67 v0 27 (some a66)
j_X12_init_206 v0 S68))))))))))))))))))))))))))))
def b_X12_init (v0 : Nat) (S : z_St) : Option z_St :=
z_len ((360 : Int32)) 30000 (
let a1 := z_x S
let S2 := z_new S 101 ((360 : Int32)).toNatClampNeg
z_chk S2 v0 13 (
let S3 := z_wr S2 v0 4 (some a1)
z_len ((360 : Int32)) 30000 (
let a4 := z_x S3
let S5 := z_new S3 101 ((360 : Int32)).toNatClampNeg
z_chk S5 v0 13 (
let S6 := z_wr S5 v0 5 (some a4)
z_len ((23040 : Int32)) 30000 (
let a7 := z_x S6
let S8 := z_new S6 102 ((23040 : Int32)).toNatClampNeg
z_chk S8 v0 13 (
let S9 := z_wr S8 v0 6 (some a7)
z_len ((64 : Int32)) 30000 (
let a10 := z_x S9
let S11 := z_new S9 102 ((64 : Int32)).toNatClampNeg
z_chk S11 v0 13 (
let S12 := z_wr S11 v0 7 (some a10)
z_len ((20 : Int32)) 30000 (
let a13 := z_x S12
let S14 := z_new S12 101 ((20 : Int32)).toNatClampNeg
z_chk S14 v0 13 (
let S15 := z_wr S14 v0 9 (some a13)
z_len ((20 : Int32)) 30000 (
let a16 := z_x S15
let S17 := z_new S15 101 ((20 : Int32)).toNatClampNeg
z_chk S17 v0 13 (
let S18 := z_wr S17 v0 10 (some a16)
z_len ((320 : Int32)) 30000 (
let a19 := z_x S18
let S20 := z_new S18 101 ((320 : Int32)).toNatClampNeg
z_chk S20 v0 13 (
let S21 := z_wr S20 v0 11 (some a19)
z_len ((40 : Int32)) 30000 (
let a22 := z_x S21
let S23 := z_new S21 101 ((40 : Int32)).toNatClampNeg
z_chk S23 v0 13 (
let S24 := z_wr S23 v0 13 (some a22)
z_len ((40 : Int32)) 30000 (
let a25 := z_x S24
let S26 := z_new S24 101 ((40 : Int32)).toNatClampNeg
z_chk S26 v0 13 (
let S27 := z_wr S26 v0 14 (some a25)
z_len ((20 : Int32)) 30000 (
let a28 := z_x S27
let S29 := z_new S27 101 ((20 : Int32)).toNatClampNeg
z_chk S29 v0 13 (
let S30 := z_wr S29 v0 16 (some a28)
j_X12_init_88 v0 S30))))))))))))))))))))
def f_X12_init : Nat → z_St → Option z_St := z_op (b_X12_init)
theorem e_X12_init (v0 : Nat) (S : z_St) : f_X12_init v0 S = b_X12_init v0 S := congrFun (congrFun (z_op_eq (b_X12_init)) v0) S
def g_X12_init : z_G := .inr (.inr (.inr (fun as S => match as with
  | [.ref v0] => f_X12_init v0 S
  | _ => none)))
def c_X12_init : List z_E := [
  (0, .aload_n 0, 1, .null, [], z_g0),
  (1, .invokespecial 1, 3, .null, [2], z_g0),
  (4, .aload_n 0, 1, .null, [], z_g0),
  (5, .sipush 360, 3, .int ((360 : Int32)), [], z_g0),
  (8, .newarray .int, 2, .null, [101], z_g0),
  (10, .putfield 7, 3, .null, [13, 4, 3], z_g0),
  (13, .aload_n 0, 1, .null, [], z_g0),
  (14, .sipush 360, 3, .int ((360 : Int32)), [], z_g0),
  (17, .newarray .int, 2, .null, [101], z_g0),
  (19, .putfield 13, 3, .null, [13, 5, 3], z_g0),
  (22, .aload_n 0, 1, .null, [], z_g0),
  (23, .sipush 23040, 3, .int ((23040 : Int32)), [], z_g0),
  (26, .newarray .long, 2, .null, [102], z_g0),
  (28, .putfield 16, 3, .null, [13, 6, 3], z_g0),
  (31, .aload_n 0, 1, .null, [], z_g0),
  (32, .bipush 64, 2, .int ((64 : Int32)), [], z_g0),
  (34, .newarray .long, 2, .null, [102], z_g0),
  (36, .putfield 20, 3, .null, [13, 7, 3], z_g0),
  (39, .aload_n 0, 1, .null, [], z_g0),
  (40, .bipush 20, 2, .int ((20 : Int32)), [], z_g0),
  (42, .newarray .int, 2, .null, [101], z_g0),
  (44, .putfield 23, 3, .null, [13, 9, 3], z_g0),
  (47, .aload_n 0, 1, .null, [], z_g0),
  (48, .bipush 20, 2, .int ((20 : Int32)), [], z_g0),
  (50, .newarray .int, 2, .null, [101], z_g0),
  (52, .putfield 26, 3, .null, [13, 10, 3], z_g0),
  (55, .aload_n 0, 1, .null, [], z_g0),
  (56, .sipush 320, 3, .int ((320 : Int32)), [], z_g0),
  (59, .newarray .int, 2, .null, [101], z_g0),
  (61, .putfield 29, 3, .null, [13, 11, 3], z_g0),
  (64, .aload_n 0, 1, .null, [], z_g0),
  (65, .bipush 40, 2, .int ((40 : Int32)), [], z_g0),
  (67, .newarray .int, 2, .null, [101], z_g0),
  (69, .putfield 32, 3, .null, [13, 13, 3], z_g0),
  (72, .aload_n 0, 1, .null, [], z_g0),
  (73, .bipush 40, 2, .int ((40 : Int32)), [], z_g0),
  (75, .newarray .int, 2, .null, [101], z_g0),
  (77, .putfield 35, 3, .null, [13, 14, 3], z_g0),
  (80, .aload_n 0, 1, .null, [], z_g0),
  (81, .bipush 20, 2, .int ((20 : Int32)), [], z_g0),
  (83, .newarray .int, 2, .null, [101], z_g0),
  (85, .putfield 38, 3, .null, [13, 16, 3], z_g0),
  (88, .aload_n 0, 1, .null, [], z_g0),
  (89, .bipush 20, 2, .int ((20 : Int32)), [], z_g0),
  (91, .newarray .int, 2, .null, [101], z_g0),
  (93, .putfield 41, 3, .null, [13, 17, 3], z_g0),
  (96, .aload_n 0, 1, .null, [], z_g0),
  (97, .sipush 320, 3, .int ((320 : Int32)), [], z_g0),
  (100, .newarray .int, 2, .null, [101], z_g0),
  (102, .putfield 44, 3, .null, [13, 18, 3], z_g0),
  (105, .aload_n 0, 1, .null, [], z_g0),
  (106, .bipush 16, 2, .int ((16 : Int32)), [], z_g0),
  (108, .newarray .int, 2, .null, [101], z_g0),
  (110, .putfield 47, 3, .null, [13, 19, 3], z_g0),
  (113, .aload_n 0, 1, .null, [], z_g0),
  (114, .bipush 10, 2, .int ((10 : Int32)), [], z_g0),
  (116, .newarray .int, 2, .null, [101], z_g0),
  (118, .putfield 50, 3, .null, [13, 20, 3], z_g0),
  (121, .aload_n 0, 1, .null, [], z_g0),
  (122, .bipush 10, 2, .int ((10 : Int32)), [], z_g0),
  (124, .newarray .int, 2, .null, [101], z_g0),
  (126, .putfield 53, 3, .null, [13, 21, 3], z_g0),
  (129, .aload_n 0, 1, .null, [], z_g0),
  (130, .bipush 8, 2, .int ((8 : Int32)), [], z_g0),
  (132, .newarray .int, 2, .null, [101], z_g0),
  (134, .dup, 1, .null, [], z_g0),
  (135, .iconst 0, 1, .int ((0 : Int32)), [], z_g0),
  (136, .iconst 5, 1, .int ((5 : Int32)), [], z_g0),
  (137, .iastore, 1, .null, [], z_g0),
  (138, .dup, 1, .null, [], z_g0),
  (139, .iconst 1, 1, .int ((1 : Int32)), [], z_g0),
  (140, .iconst 0, 1, .int ((0 : Int32)), [], z_g0),
  (141, .iastore, 1, .null, [], z_g0),
  (142, .dup, 1, .null, [], z_g0),
  (143, .iconst 2, 1, .int ((2 : Int32)), [], z_g0),
  (144, .iconst 4, 1, .int ((4 : Int32)), [], z_g0),
  (145, .iastore, 1, .null, [], z_g0),
  (146, .dup, 1, .null, [], z_g0),
  (147, .iconst 3, 1, .int ((3 : Int32)), [], z_g0),
  (148, .iconst 1, 1, .int ((1 : Int32)), [], z_g0),
  (149, .iastore, 1, .null, [], z_g0),
  (150, .dup, 1, .null, [], z_g0),
  (151, .iconst 4, 1, .int ((4 : Int32)), [], z_g0),
  (152, .bipush 7, 2, .int ((7 : Int32)), [], z_g0),
  (154, .iastore, 1, .null, [], z_g0),
  (155, .dup, 1, .null, [], z_g0),
  (156, .iconst 5, 1, .int ((5 : Int32)), [], z_g0),
  (157, .iconst 2, 1, .int ((2 : Int32)), [], z_g0),
  (158, .iastore, 1, .null, [], z_g0),
  (159, .dup, 1, .null, [], z_g0),
  (160, .bipush 6, 2, .int ((6 : Int32)), [], z_g0),
  (162, .iconst 3, 1, .int ((3 : Int32)), [], z_g0),
  (163, .iastore, 1, .null, [], z_g0),
  (164, .dup, 1, .null, [], z_g0),
  (165, .bipush 7, 2, .int ((7 : Int32)), [], z_g0),
  (167, .bipush 6, 2, .int ((6 : Int32)), [], z_g0),
  (169, .iastore, 1, .null, [], z_g0),
  (170, .putfield 56, 3, .null, [13, 23, 3], z_g0),
  (173, .aload_n 0, 1, .null, [], z_g0),
  (174, .sipush 160, 3, .int ((160 : Int32)), [], z_g0),
  (177, .newarray .long, 2, .null, [102], z_g0),
  (179, .putfield 59, 3, .null, [13, 24, 3], z_g0),
  (182, .aload_n 0, 1, .null, [], z_g0),
  (183, .bipush 20, 2, .int ((20 : Int32)), [], z_g0),
  (185, .newarray .int, 2, .null, [101], z_g0),
  (187, .putfield 62, 3, .null, [13, 25, 3], z_g0),
  (190, .aload_n 0, 1, .null, [], z_g0),
  (191, .bipush 20, 2, .int ((20 : Int32)), [], z_g0),
  (193, .newarray .int, 2, .null, [101], z_g0),
  (195, .putfield 65, 3, .null, [13, 26, 3], z_g0),
  (198, .aload_n 0, 1, .null, [], z_g0),
  (199, .bipush 20, 2, .int ((20 : Int32)), [], z_g0),
  (201, .newarray .boolean, 2, .null, [104], z_g0),
  (203, .putfield 68, 3, .null, [13, 27, 3], z_g0),
  (206, .aload_n 0, 1, .null, [], z_g0),
  (207, .bipush 64, 2, .int ((64 : Int32)), [], z_g0),
  (209, .newarray .double, 2, .null, [103], z_g0),
  (211, .putfield 72, 3, .null, [13, 28, 3], z_g0),
  (214, .aload_n 0, 1, .null, [], z_g0),
  (215, .bipush 12, 2, .int ((12 : Int32)), [], z_g0),
  (217, .newarray .int, 2, .null, [101], z_g0),
  (219, .putfield 76, 3, .null, [13, 29, 3], z_g0),
  (222, .aload_n 0, 1, .null, [], z_g0),
  (223, .sipush 720, 3, .int ((720 : Int32)), [], z_g0),
  (226, .newarray .int, 2, .null, [101], z_g0),
  (228, .putfield 79, 3, .null, [13, 30, 3], z_g0),
  (231, .aload_n 0, 1, .null, [], z_g0),
  (232, .iconst 4, 1, .int ((4 : Int32)), [], z_g0),
  (233, .newarray .int, 2, .null, [101], z_g0),
  (235, .putfield 82, 3, .null, [13, 32, 3], z_g0),
  (238, .aload_n 0, 1, .null, [], z_g0),
  (239, .iconst 4, 1, .int ((4 : Int32)), [], z_g0),
  (240, .newarray .int, 2, .null, [101], z_g0),
  (242, .putfield 85, 3, .null, [13, 33, 3], z_g0),
  (245, .aload_n 0, 1, .null, [], z_g0),
  (246, .bipush 60, 2, .int ((60 : Int32)), [], z_g0),
  (248, .newarray .int, 2, .null, [101], z_g0),
  (250, .putfield 88, 3, .null, [13, 35, 3], z_g0),
  (253, .aload_n 0, 1, .null, [], z_g0),
  (254, .bipush 8, 2, .int ((8 : Int32)), [], z_g0),
  (256, .newarray .int, 2, .null, [101], z_g0),
  (258, .putfield 91, 3, .null, [13, 37, 3], z_g0),
  (261, .aload_n 0, 1, .null, [], z_g0),
  (262, .bipush 8, 2, .int ((8 : Int32)), [], z_g0),
  (264, .newarray .int, 2, .null, [101], z_g0),
  (266, .putfield 94, 3, .null, [13, 38, 3], z_g0),
  (269, .aload_n 0, 1, .null, [], z_g0),
  (270, .bipush 8, 2, .int ((8 : Int32)), [], z_g0),
  (272, .newarray .int, 2, .null, [101], z_g0),
  (274, .putfield 97, 3, .null, [13, 39, 3], z_g0),
  (277, .aload_n 0, 1, .null, [], z_g0),
  (278, .bipush 8, 2, .int ((8 : Int32)), [], z_g0),
  (280, .newarray .int, 2, .null, [101], z_g0),
  (282, .putfield 100, 3, .null, [13, 40, 3], z_g0),
  (285, .aload_n 0, 1, .null, [], z_g0),
  (286, .bipush 8, 2, .int ((8 : Int32)), [], z_g0),
  (288, .newarray .int, 2, .null, [101], z_g0),
  (290, .putfield 103, 3, .null, [13, 41, 3], z_g0),
  (293, .aload_n 0, 1, .null, [], z_g0),
  (294, .bipush 8, 2, .int ((8 : Int32)), [], z_g0),
  (296, .newarray .int, 2, .null, [101], z_g0),
  (298, .putfield 106, 3, .null, [13, 42, 3], z_g0),
  (301, .aload_n 0, 1, .null, [], z_g0),
  (302, .bipush 8, 2, .int ((8 : Int32)), [], z_g0),
  (304, .newarray .int, 2, .null, [101], z_g0),
  (306, .putfield 109, 3, .null, [13, 43, 3], z_g0),
  (309, .aload_n 0, 1, .null, [], z_g0),
  (310, .sipush 400, 3, .int ((400 : Int32)), [], z_g0),
  (313, .newarray .int, 2, .null, [101], z_g0),
  (315, .putfield 112, 3, .null, [13, 45, 3], z_g0),
  (318, .aload_n 0, 1, .null, [], z_g0),
  (319, .sipush 2560, 3, .int ((2560 : Int32)), [], z_g0),
  (322, .newarray .long, 2, .null, [102], z_g0),
  (324, .putfield 115, 3, .null, [13, 53, 3], z_g0),
  (327, .aload_n 0, 1, .null, [], z_g0),
  (328, .ldc2_w 118, 3, .double (4681608360884174848 : UInt64), [], z_g0),
  (331, .putfield 120, 3, .null, [13, 54, 2], z_g0),
  (334, .aload_n 0, 1, .null, [], z_g0),
  (335, .ldc2_w 124, 3, .double (4593671619917905920 : UInt64), [], z_g0),
  (338, .putfield 126, 3, .null, [13, 61, 2], z_g0),
  (341, .aload_n 0, 1, .null, [], z_g0),
  (342, .ldc2_w 131, 3, .double (9221120237041090560 : UInt64), [], z_g0),
  (345, .putfield 133, 3, .null, [13, 64, 2], z_g0),
  (348, .aload_n 0, 1, .null, [], z_g0),
  (349, .iconst 4, 1, .int ((4 : Int32)), [], z_g0),
  (350, .newarray .double, 2, .null, [103], z_g0),
  (352, .putfield 136, 3, .null, [13, 65, 3], z_g0),
  (355, .aload_n 0, 1, .null, [], z_g0),
  (356, .iconst 4, 1, .int ((4 : Int32)), [], z_g0),
  (357, .newarray .boolean, 2, .null, [104], z_g0),
  (359, .putfield 139, 3, .null, [13, 66, 3], z_g0),
  (362, .aload_n 0, 1, .null, [], z_g0),
  (363, .iconst 4, 1, .int ((4 : Int32)), [], z_g0),
  (364, .newarray .boolean, 2, .null, [104], z_g0),
  (366, .putfield 142, 3, .null, [13, 67, 3], z_g0),
  (369, .aload_n 0, 1, .null, [], z_g0),
  (370, .iconst 4, 1, .int ((4 : Int32)), [], z_g0),
  (371, .newarray .double, 2, .null, [103], z_g0),
  (373, .putfield 145, 3, .null, [13, 68, 3], z_g0),
  (376, .aload_n 0, 1, .null, [], z_g0),
  (377, .iconst 4, 1, .int ((4 : Int32)), [], z_g0),
  (378, .newarray .int, 2, .null, [101], z_g0),
  (380, .putfield 148, 3, .null, [13, 69, 3], z_g0),
  (383, .aload_n 0, 1, .null, [], z_g0),
  (384, .bipush 24, 2, .int ((24 : Int32)), [], z_g0),
  (386, .newarray .boolean, 2, .null, [104], z_g0),
  (388, .putfield 151, 3, .null, [13, 70, 3], z_g0),
  (391, .aload_n 0, 1, .null, [], z_g0),
  (392, .bipush 24, 2, .int ((24 : Int32)), [], z_g0),
  (394, .newarray .long, 2, .null, [102], z_g0),
  (396, .putfield 154, 3, .null, [13, 71, 3], z_g0),
  (399, .aload_n 0, 1, .null, [], z_g0),
  (400, .bipush 24, 2, .int ((24 : Int32)), [], z_g0),
  (402, .newarray .boolean, 2, .null, [104], z_g0),
  (404, .putfield 157, 3, .null, [13, 72, 3], z_g0),
  (407, .aload_n 0, 1, .null, [], z_g0),
  (408, .bipush 6, 2, .int ((6 : Int32)), [], z_g0),
  (410, .newarray .boolean, 2, .null, [104], z_g0),
  (412, .putfield 160, 3, .null, [13, 73, 3], z_g0),
  (415, .aload_n 0, 1, .null, [], z_g0),
  (416, .bipush 6, 2, .int ((6 : Int32)), [], z_g0),
  (418, .newarray .long, 2, .null, [102], z_g0),
  (420, .putfield 163, 3, .null, [13, 74, 3], z_g0),
  (423, .aload_n 0, 1, .null, [], z_g0),
  (424, .bipush 6, 2, .int ((6 : Int32)), [], z_g0),
  (426, .newarray .int, 2, .null, [101], z_g0),
  (428, .putfield 166, 3, .null, [13, 77, 3], z_g0),
  (431, .aload_n 0, 1, .null, [], z_g0),
  (432, .bipush 6, 2, .int ((6 : Int32)), [], z_g0),
  (434, .newarray .double, 2, .null, [103], z_g0),
  (436, .putfield 169, 3, .null, [13, 78, 3], z_g0),
  (439, .aload_n 0, 1, .null, [], z_g0),
  (440, .iconst 4, 1, .int ((4 : Int32)), [], z_g0),
  (441, .newarray .int, 2, .null, [101], z_g0),
  (443, .putfield 172, 3, .null, [13, 79, 3], z_g0),
  (446, .aload_n 0, 1, .null, [], z_g0),
  (447, .bipush 12, 2, .int ((12 : Int32)), [], z_g0),
  (449, .newarray .int, 2, .null, [101], z_g0),
  (451, .putfield 175, 3, .null, [13, 81, 3], z_g0),
  (454, .aload_n 0, 1, .null, [], z_g0),
  (455, .bipush 12, 2, .int ((12 : Int32)), [], z_g0),
  (457, .newarray .int, 2, .null, [101], z_g0),
  (459, .putfield 178, 3, .null, [13, 82, 3], z_g0),
  (462, .aload_n 0, 1, .null, [], z_g0),
  (463, .bipush 12, 2, .int ((12 : Int32)), [], z_g0),
  (465, .newarray .int, 2, .null, [101], z_g0),
  (467, .putfield 181, 3, .null, [13, 83, 3], z_g0),
  (470, .aload_n 0, 1, .null, [], z_g0),
  (471, .bipush 12, 2, .int ((12 : Int32)), [], z_g0),
  (473, .newarray .double, 2, .null, [103], z_g0),
  (475, .putfield 184, 3, .null, [13, 84, 3], z_g0),
  (478, .aload_n 0, 1, .null, [], z_g0),
  (479, .bipush 12, 2, .int ((12 : Int32)), [], z_g0),
  (481, .newarray .double, 2, .null, [103], z_g0),
  (483, .putfield 187, 3, .null, [13, 85, 3], z_g0),
  (486, .aload_n 0, 1, .null, [], z_g0),
  (487, .bipush 12, 2, .int ((12 : Int32)), [], z_g0),
  (489, .newarray .double, 2, .null, [103], z_g0),
  (491, .putfield 190, 3, .null, [13, 86, 3], z_g0),
  (494, .aload_n 0, 1, .null, [], z_g0),
  (495, .bipush 12, 2, .int ((12 : Int32)), [], z_g0),
  (497, .newarray .int, 2, .null, [101], z_g0),
  (499, .putfield 193, 3, .null, [13, 88, 3], z_g0),
  (502, .aload_n 0, 1, .null, [], z_g0),
  (503, .bipush 12, 2, .int ((12 : Int32)), [], z_g0),
  (505, .newarray .int, 2, .null, [101], z_g0),
  (507, .putfield 196, 3, .null, [13, 89, 3], z_g0),
  (510, .aload_n 0, 1, .null, [], z_g0),
  (511, .bipush 12, 2, .int ((12 : Int32)), [], z_g0),
  (513, .newarray .long, 2, .null, [102], z_g0),
  (515, .putfield 199, 3, .null, [13, 90, 3], z_g0),
  (518, .aload_n 0, 1, .null, [], z_g0),
  (519, .bipush 12, 2, .int ((12 : Int32)), [], z_g0),
  (521, .newarray .long, 2, .null, [102], z_g0),
  (523, .putfield 202, 3, .null, [13, 91, 3], z_g0),
  (526, .aload_n 0, 1, .null, [], z_g0),
  (527, .bipush 12, 2, .int ((12 : Int32)), [], z_g0),
  (529, .putfield 205, 3, .null, [13, 92, 0], z_g0),
  (532, .aload_n 0, 1, .null, [], z_g0),
  (533, .bipush 72, 2, .int ((72 : Int32)), [], z_g0),
  (535, .newarray .boolean, 2, .null, [104], z_g0),
  (537, .putfield 209, 3, .null, [13, 93, 3], z_g0),
  (540, .aload_n 0, 1, .null, [], z_g0),
  (541, .bipush 72, 2, .int ((72 : Int32)), [], z_g0),
  (543, .newarray .double, 2, .null, [103], z_g0),
  (545, .putfield 212, 3, .null, [13, 94, 3], z_g0),
  (548, .aload_n 0, 1, .null, [], z_g0),
  (549, .bipush 8, 2, .int ((8 : Int32)), [], z_g0),
  (551, .newarray .boolean, 2, .null, [104], z_g0),
  (553, .putfield 215, 3, .null, [13, 95, 3], z_g0),
  (556, .aload_n 0, 1, .null, [], z_g0),
  (557, .bipush 8, 2, .int ((8 : Int32)), [], z_g0),
  (559, .newarray .double, 2, .null, [103], z_g0),
  (561, .putfield 218, 3, .null, [13, 96, 3], z_g0),
  (564, .aload_n 0, 1, .null, [], z_g0),
  (565, .sipush 1024, 3, .int ((1024 : Int32)), [], z_g0),
  (568, .newarray .int, 2, .null, [101], z_g0),
  (570, .putfield 221, 3, .null, [13, 98, 3], z_g0),
  (573, .iconst 0, 1, .int ((0 : Int32)), [], z_g0),
  (574, .istore_n 1, 1, .null, [], z_g0),
  (575, .iload_n 1, 1, .null, [], z_g0),
  (576, .bipush 6, 2, .int ((6 : Int32)), [], z_g0),
  (578, .if_icmp .ge 16, 3, .null, [594], z_g0),
  (581, .aload_n 0, 1, .null, [], z_g0),
  (582, .getfield 166, 3, .null, [13, 77, 3], z_g0),
  (585, .iload_n 1, 1, .null, [], z_g0),
  (586, .iconst (-1), 1, .int ((-1 : Int32)), [], z_g0),
  (587, .iastore, 1, .null, [], z_g0),
  (588, .iinc 1 1, 3, .int (1 : Int32), [], z_g0),
  (591, .goto (-16), 3, .null, [575], z_g0),
  (594, .return_, 1, .null, [], z_g0)]
def a_X12_init_88 {ρ : Type} (k : Nat → z_St → Option ρ) (ls : z_Lv) (st : List Value) (S : z_St) : Option ρ := z_gR ls 0 fun v0 => z_p0 st (k v0 S)
def a_X12_init_206 {ρ : Type} (k : Nat → z_St → Option ρ) (ls : z_Lv) (st : List Value) (S : z_St) : Option ρ := z_gR ls 0 fun v0 => z_p0 st (k v0 S)
def a_X12_init_285 {ρ : Type} (k : Nat → z_St → Option ρ) (ls : z_Lv) (st : List Value) (S : z_St) : Option ρ := z_gR ls 0 fun v0 => z_p0 st (k v0 S)
def a_X12_init_362 {ρ : Type} (k : Nat → z_St → Option ρ) (ls : z_Lv) (st : List Value) (S : z_St) : Option ρ := z_gR ls 0 fun v0 => z_p0 st (k v0 S)
def a_X12_init_439 {ρ : Type} (k : Nat → z_St → Option ρ) (ls : z_Lv) (st : List Value) (S : z_St) : Option ρ := z_gR ls 0 fun v0 => z_p0 st (k v0 S)
def a_X12_init_518 {ρ : Type} (k : Nat → z_St → Option ρ) (ls : z_Lv) (st : List Value) (S : z_St) : Option ρ := z_gR ls 0 fun v0 => z_p0 st (k v0 S)
def a_X12_init_575 {ρ : Type} (k : Nat → Int32 → z_St → Option ρ) (ls : z_Lv) (st : List Value) (S : z_St) : Option ρ := z_gR ls 0 fun v0 => z_gI ls 1 fun v1 => z_p0 st (k v0 v1 S)
set_option maxRecDepth 100000 in
theorem r_X12_init_575 (n : Nat) (v0 : Nat) (v1 : Int32) (S : z_St) : z_seg z_rV (c_X12_init) [88, 206, 285, 362, 439, 518, 575] (fun pc => cond (Nat.beq pc 575) (a_X12_init_575 (l_X12_init_575 n)) (fun _ _ _ => none)) 314 (z_to 575 (c_X12_init)) [(0, .ref v0), (1, .int v1)] [] S = l_X12_init_575 (n + 1) v0 v1 S := rfl
set_option maxRecDepth 100000 in
theorem r_X12_init_518 (v0 : Nat) (S : z_St) : z_seg z_rV (c_X12_init) [88, 206, 285, 362, 439, 518, 575] (fun pc => cond (Nat.beq pc 575) (a_X12_init_575 (l_X12_init_575 z_N)) (fun _ _ _ => none)) 314 (z_to 518 (c_X12_init)) [(0, .ref v0)] [] S = j_X12_init_518 v0 S := rfl
set_option maxRecDepth 100000 in
theorem r_X12_init_439 (v0 : Nat) (S : z_St) : z_seg z_rV (c_X12_init) [88, 206, 285, 362, 439, 518, 575] (fun pc => cond (Nat.beq pc 518) (a_X12_init_518 (j_X12_init_518)) (fun _ _ _ => none)) 314 (z_to 439 (c_X12_init)) [(0, .ref v0)] [] S = j_X12_init_439 v0 S := rfl
set_option maxRecDepth 100000 in
theorem r_X12_init_362 (v0 : Nat) (S : z_St) : z_seg z_rV (c_X12_init) [88, 206, 285, 362, 439, 518, 575] (fun pc => cond (Nat.beq pc 439) (a_X12_init_439 (j_X12_init_439)) (fun _ _ _ => none)) 314 (z_to 362 (c_X12_init)) [(0, .ref v0)] [] S = j_X12_init_362 v0 S := rfl
set_option maxRecDepth 100000 in
theorem r_X12_init_285 (v0 : Nat) (S : z_St) : z_seg z_rV (c_X12_init) [88, 206, 285, 362, 439, 518, 575] (fun pc => cond (Nat.beq pc 362) (a_X12_init_362 (j_X12_init_362)) (fun _ _ _ => none)) 314 (z_to 285 (c_X12_init)) [(0, .ref v0)] [] S = j_X12_init_285 v0 S := rfl
set_option maxRecDepth 100000 in
theorem r_X12_init_206 (v0 : Nat) (S : z_St) : z_seg z_rV (c_X12_init) [88, 206, 285, 362, 439, 518, 575] (fun pc => cond (Nat.beq pc 285) (a_X12_init_285 (j_X12_init_285)) (fun _ _ _ => none)) 314 (z_to 206 (c_X12_init)) [(0, .ref v0)] [] S = j_X12_init_206 v0 S := rfl
set_option maxRecDepth 100000 in
theorem r_X12_init_88 (v0 : Nat) (S : z_St) : z_seg z_rV (c_X12_init) [88, 206, 285, 362, 439, 518, 575] (fun pc => cond (Nat.beq pc 206) (a_X12_init_206 (j_X12_init_206)) (fun _ _ _ => none)) 314 (z_to 88 (c_X12_init)) [(0, .ref v0)] [] S = j_X12_init_88 v0 S := rfl
set_option maxRecDepth 100000 in
theorem r_X12_init (v0 : Nat) (S : z_St) : z_seg z_rV (c_X12_init) [88, 206, 285, 362, 439, 518, 575] (fun pc => cond (Nat.beq pc 88) (a_X12_init_88 (j_X12_init_88)) (fun _ _ _ => none)) 314 (c_X12_init) [(0, .ref v0)] [] S = b_X12_init v0 S := rfl
def b_X12_in (v0 : Int64) (v2 : Int64) (v4 : Int64) (S : z_St) : Option (Int32 × z_St) :=
if (lg_cmp v0 v2) < 0 then
(z_rb ((0 : Int32)) S)
else
(if 0 < (lg_cmp v0 v4) then
(z_rb ((0 : Int32)) S)
else
(z_rb ((1 : Int32)) S))
def f_X12_in : Int64 → Int64 → Int64 → z_St → Option (Int32 × z_St) := z_op (b_X12_in)
theorem e_X12_in (v0 : Int64) (v2 : Int64) (v4 : Int64) (S : z_St) : f_X12_in v0 v2 v4 S = b_X12_in v0 v2 v4 S := congrFun (congrFun (congrFun (congrFun (z_op_eq (b_X12_in)) v0) v2) v4) S
def g_X12_in : z_G := .inl (fun as S => match as with
  | [.long v0, .long v2, .long v4] => f_X12_in v0 v2 v4 S
  | _ => none)
def c_X12_in : List z_E := [
  (0, .lload_n 0, 1, .null, [], z_g0),
  (1, .lload_n 2, 1, .null, [], z_g0),
  (2, .lcmp, 1, .null, [], z_g0),
  (3, .ifCond .lt 14, 3, .null, [17], z_g0),
  (6, .lload_n 0, 1, .null, [], z_g0),
  (7, .lload 4, 2, .null, [], z_g0),
  (9, .lcmp, 1, .null, [], z_g0),
  (10, .ifCond .gt 7, 3, .null, [17], z_g0),
  (13, .iconst 1, 1, .int ((1 : Int32)), [], z_g0),
  (14, .goto 4, 3, .null, [18], z_g0),
  (17, .iconst 0, 1, .int ((0 : Int32)), [], z_g0),
  (18, .ireturn, 1, .null, [], z_g0)]
set_option maxRecDepth 100000 in
theorem r_X12_in (v0 : Int64) (v2 : Int64) (v4 : Int64) (S : z_St) : z_seg z_rZ (c_X12_in) [] (fun pc => fun _ _ _ => none) 15 (c_X12_in) [(0, .long v0), (2, .long v2), (4, .long v4)] [] S = b_X12_in v0 v2 v4 S := rfl
end
