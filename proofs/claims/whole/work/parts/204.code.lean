noncomputable section
def b_X11_placeFailure (v0 : Nat) (v1 : Int32) (v2 : Int32) (S : z_St) : Option (Int32 × z_St) :=
if v1 = ((-1 : Int32)) then
(some ((1 : Int32), S))
else
(z_chk S v0 12 (
z_onV (va_rf (z_r S v0 6)) fun b1 =>
z_inb S b1 113 v1 (
z_onV (va_rf (z_r S b1 v1.toNatClampNeg)) fun b2 =>
z_chk S b2 8 (
z_onV (va_rf (z_r S b2 1)) fun b3 =>
z_chk S b3 101 (
(f_X11_outOf v2 ((0 : Int32)) ((Int32.ofNat (z_n S b3)) - ((1 : Int32))) S).bind fun q4 =>
if q4.1 = 0 then
(some ((0 : Int32), q4.2))
else
(some ((2 : Int32), q4.2)))))))
def f_X11_placeFailure : Nat → Int32 → Int32 → z_St → Option (Int32 × z_St) := z_op (b_X11_placeFailure)
theorem e_X11_placeFailure (v0 : Nat) (v1 : Int32) (v2 : Int32) (S : z_St) : f_X11_placeFailure v0 v1 v2 S = b_X11_placeFailure v0 v1 v2 S := congrFun (congrFun (congrFun (congrFun (z_op_eq (b_X11_placeFailure)) v0) v1) v2) S
def g_X11_placeFailure : z_G := .inl (fun as S => match as with
  | [.ref v0, .int v1, .int v2] => f_X11_placeFailure v0 v1 v2 S
  | _ => none)
def c_X11_placeFailure : List z_E := [
  (0, .iload_n 1, 1, .null, [], z_g0),
  (1, .iconst (-1), 1, .int ((-1 : Int32)), [], z_g0),
  (2, .if_icmp .ne 5, 3, .null, [7], z_g0),
  (5, .iconst 1, 1, .int ((1 : Int32)), [], z_g0),
  (6, .ireturn, 1, .null, [], z_g0),
  (7, .iload_n 2, 1, .null, [], z_g0),
  (8, .iconst 0, 1, .int ((0 : Int32)), [], z_g0),
  (9, .aload_n 0, 1, .null, [], z_g0),
  (10, .getfield 29, 3, .null, [12, 6, 3], z_g0),
  (13, .iload_n 1, 1, .null, [], z_g0),
  (14, .aaload, 1, .null, [113], z_g0),
  (15, .getfield 209, 3, .null, [8, 1, 3], z_g0),
  (18, .arraylength, 1, .null, [101], z_g0),
  (19, .iconst 1, 1, .int ((1 : Int32)), [], z_g0),
  (20, .isub, 1, .null, [], z_g0),
  (21, .invokestatic 81, 3, .null, [0, 0, 0, 0], g_X11_outOf),
  (24, .ifCond .eq 7, 3, .null, [31], z_g0),
  (27, .iconst 2, 1, .int ((2 : Int32)), [], z_g0),
  (28, .goto 4, 3, .null, [32], z_g0),
  (31, .iconst 0, 1, .int ((0 : Int32)), [], z_g0),
  (32, .ireturn, 1, .null, [], z_g0)]
set_option maxRecDepth 100000 in
theorem r_X11_placeFailure (v0 : Nat) (v1 : Int32) (v2 : Int32) (S : z_St) : z_seg z_rI (c_X11_placeFailure) [] (fun pc => fun _ _ _ => none) 24 (c_X11_placeFailure) [(0, .ref v0), (1, .int v1), (2, .int v2)] [] S = b_X11_placeFailure v0 v1 v2 S := rfl
def b_X11_mayHang (v0 : Nat) (v1 : Int32) (v2 : Int32) (S : z_St) : Option (Int32 × z_St) :=
if v1 = ((-1 : Int32)) then
(z_rb ((1 : Int32)) S)
else
(z_chk S v0 12 (
z_onV (va_rf (z_r S v0 4)) fun b1 =>
z_inb S b1 112 v1 (
z_onV (va_rf (z_r S b1 v1.toNatClampNeg)) fun b2 =>
z_chk S b2 10 (
(f_X9_isFor b2 v2 S).bind fun q3 =>
if q3.1 = 0 then
(z_rb ((0 : Int32)) q3.2)
else
(z_rb ((1 : Int32)) q3.2)))))
def f_X11_mayHang : Nat → Int32 → Int32 → z_St → Option (Int32 × z_St) := z_op (b_X11_mayHang)
theorem e_X11_mayHang (v0 : Nat) (v1 : Int32) (v2 : Int32) (S : z_St) : f_X11_mayHang v0 v1 v2 S = b_X11_mayHang v0 v1 v2 S := congrFun (congrFun (congrFun (congrFun (z_op_eq (b_X11_mayHang)) v0) v1) v2) S
def g_X11_mayHang : z_G := .inl (fun as S => match as with
  | [.ref v0, .int v1, .int v2] => f_X11_mayHang v0 v1 v2 S
  | _ => none)
def c_X11_mayHang : List z_E := [
  (0, .iload_n 1, 1, .null, [], z_g0),
  (1, .iconst (-1), 1, .int ((-1 : Int32)), [], z_g0),
  (2, .if_icmp .eq 16, 3, .null, [18], z_g0),
  (5, .aload_n 0, 1, .null, [], z_g0),
  (6, .getfield 23, 3, .null, [12, 4, 3], z_g0),
  (9, .iload_n 1, 1, .null, [], z_g0),
  (10, .aaload, 1, .null, [112], z_g0),
  (11, .iload_n 2, 1, .null, [], z_g0),
  (12, .invokevirtual 514, 3, .null, [1, 10, 0], g_X9_isFor),
  (15, .ifCond .eq 7, 3, .null, [22], z_g0),
  (18, .iconst 1, 1, .int ((1 : Int32)), [], z_g0),
  (19, .goto 4, 3, .null, [23], z_g0),
  (22, .iconst 0, 1, .int ((0 : Int32)), [], z_g0),
  (23, .ireturn, 1, .null, [], z_g0)]
set_option maxRecDepth 100000 in
theorem r_X11_mayHang (v0 : Nat) (v1 : Int32) (v2 : Int32) (S : z_St) : z_seg z_rZ (c_X11_mayHang) [] (fun pc => fun _ _ _ => none) 17 (c_X11_mayHang) [(0, .ref v0), (1, .int v1), (2, .int v2)] [] S = b_X11_mayHang v0 v1 v2 S := rfl
def b_X11_hang (v0 : Nat) (v1 : Int32) (v2 : Int32) (v3 : Int32) (S : z_St) : Option (Int32 × z_St) :=
z_chk S v0 12 (
(f_X11_nameless v1 ((z_i S v0 7)) S).bind fun q1 =>
if q1.1 = 0 then
(z_chk q1.2 v0 12 (
(f_X11_nameless v3 ((z_i q1.2 v0 5)) q1.2).bind fun q2 =>
if q2.1 = 0 then
(z_chk q2.2 v0 12 (
(f_X11_placeFailure v0 v1 v2 q2.2).bind fun q3 =>
if q3.1 = 0 then
(z_chk q3.2 v0 12 (
z_onV (va_rf (z_r q3.2 v0 6)) fun b4 =>
z_inb q3.2 b4 113 v1 (
z_onV (va_rf (z_r q3.2 b4 v1.toNatClampNeg)) fun b5 =>
z_chk q3.2 b5 8 (
z_chk q3.2 v0 12 (
(f_X11_mayHang v0 v3 ((z_i q3.2 b5 0)) q3.2).bind fun q6 =>
if q6.1 = 0 then
(z_chk q6.2 v0 12 (
(f_X11_fails v0 ((5 : Int32)) q6.2).bind fun q12 =>
some (q12.1, q12.2)))
else
(z_chk q6.2 v0 12 (
z_onV (va_rf (z_r q6.2 v0 6)) fun b7 =>
z_inb q6.2 b7 113 v1 (
z_onV (va_rf (z_r q6.2 b7 v1.toNatClampNeg)) fun b8 =>
z_chk q6.2 b8 8 (
z_onV (va_rf (z_r q6.2 b8 1)) fun b9 =>
z_inb q6.2 b9 101 v2 (
let S10 := z_wi q6.2 b9 v2.toNatClampNeg v3
z_chk S10 v0 12 (
(f_X11_passes v0 ((1 : Int32)) S10).bind fun q11 =>
some (q11.1, q11.2))))))))))))
else
(z_chk q3.2 v0 12 (
(f_X11_fails v0 q3.1 q3.2).bind fun q13 =>
some (q13.1, q13.2)))))
else
(some ((-2000000001 : Int32), q2.2))))
else
(some ((-2000000001 : Int32), q1.2)))
def f_X11_hang : Nat → Int32 → Int32 → Int32 → z_St → Option (Int32 × z_St) := z_op (b_X11_hang)
theorem e_X11_hang (v0 : Nat) (v1 : Int32) (v2 : Int32) (v3 : Int32) (S : z_St) : f_X11_hang v0 v1 v2 v3 S = b_X11_hang v0 v1 v2 v3 S := congrFun (congrFun (congrFun (congrFun (congrFun (z_op_eq (b_X11_hang)) v0) v1) v2) v3) S
def g_X11_hang : z_G := .inl (fun as S => match as with
  | [.ref v0, .int v1, .int v2, .int v3] => f_X11_hang v0 v1 v2 v3 S
  | _ => none)
def c_X11_hang : List z_E := [
  (0, .iload_n 1, 1, .null, [], z_g0),
  (1, .aload_n 0, 1, .null, [], z_g0),
  (2, .getfield 196, 3, .null, [12, 7, 0], z_g0),
  (5, .invokestatic 105, 3, .null, [0, 0, 0], g_X11_nameless),
  (8, .ifCond .ne 14, 3, .null, [22], z_g0),
  (11, .iload_n 3, 1, .null, [], z_g0),
  (12, .aload_n 0, 1, .null, [], z_g0),
  (13, .getfield 189, 3, .null, [12, 5, 0], z_g0),
  (16, .invokestatic 105, 3, .null, [0, 0, 0], g_X11_nameless),
  (19, .ifCond .eq 6, 3, .null, [25], z_g0),
  (22, .ldc 109, 2, .int (-2000000001 : Int32), [], z_g0),
  (24, .ireturn, 1, .null, [], z_g0),
  (25, .aload_n 0, 1, .null, [], z_g0),
  (26, .iload_n 1, 1, .null, [], z_g0),
  (27, .iload_n 2, 1, .null, [], z_g0),
  (28, .invokevirtual 200, 3, .null, [1, 12, 0, 0], g_X11_placeFailure),
  (31, .istore 4, 2, .null, [], z_g0),
  (33, .iload 4, 2, .null, [], z_g0),
  (35, .ifCond .eq 10, 3, .null, [45], z_g0),
  (38, .aload_n 0, 1, .null, [], z_g0),
  (39, .iload 4, 2, .null, [], z_g0),
  (41, .invokevirtual 91, 3, .null, [1, 12, 0], g_X11_fails),
  (44, .ireturn, 1, .null, [], z_g0),
  (45, .aload_n 0, 1, .null, [], z_g0),
  (46, .iload_n 3, 1, .null, [], z_g0),
  (47, .aload_n 0, 1, .null, [], z_g0),
  (48, .getfield 29, 3, .null, [12, 6, 3], z_g0),
  (51, .iload_n 1, 1, .null, [], z_g0),
  (52, .aaload, 1, .null, [113], z_g0),
  (53, .getfield 203, 3, .null, [8, 0, 0], z_g0),
  (56, .invokevirtual 206, 3, .null, [1, 12, 0, 0], g_X11_mayHang),
  (59, .ifCond .ne 9, 3, .null, [68], z_g0),
  (62, .aload_n 0, 1, .null, [], z_g0),
  (63, .iconst 5, 1, .int ((5 : Int32)), [], z_g0),
  (64, .invokevirtual 91, 3, .null, [1, 12, 0], g_X11_fails),
  (67, .ireturn, 1, .null, [], z_g0),
  (68, .aload_n 0, 1, .null, [], z_g0),
  (69, .getfield 29, 3, .null, [12, 6, 3], z_g0),
  (72, .iload_n 1, 1, .null, [], z_g0),
  (73, .aaload, 1, .null, [113], z_g0),
  (74, .getfield 209, 3, .null, [8, 1, 3], z_g0),
  (77, .iload_n 2, 1, .null, [], z_g0),
  (78, .iload_n 3, 1, .null, [], z_g0),
  (79, .iastore, 1, .null, [], z_g0),
  (80, .aload_n 0, 1, .null, [], z_g0),
  (81, .iconst 1, 1, .int ((1 : Int32)), [], z_g0),
  (82, .invokevirtual 102, 3, .null, [1, 12, 0], g_X11_passes),
  (85, .ireturn, 1, .null, [], z_g0)]
set_option maxRecDepth 100000 in
theorem r_X11_hang (v0 : Nat) (v1 : Int32) (v2 : Int32) (v3 : Int32) (S : z_St) : z_seg z_rI (c_X11_hang) [] (fun pc => fun _ _ _ => none) 51 (c_X11_hang) [(0, .ref v0), (1, .int v1), (2, .int v2), (3, .int v3)] [] S = b_X11_hang v0 v1 v2 v3 S := rfl
def b_X11_down (v0 : Nat) (v1 : Int32) (v2 : Int32) (v3 : Int32) (S : z_St) : Option (Int32 × z_St) :=
z_chk S v0 12 (
(f_X11_nameless v1 ((z_i S v0 7)) S).bind fun q1 =>
if q1.1 = 0 then
((f_X11_outOf v3 ((0 : Int32)) ((9 : Int32)) q1.2).bind fun q2 =>
if q2.1 = 0 then
(z_chk q2.2 v0 12 (
(f_X11_placeFailure v0 v1 v2 q2.2).bind fun q3 =>
if q3.1 = 0 then
(z_chk q3.2 v0 12 (
z_onV (va_rf (z_r q3.2 v0 6)) fun b4 =>
z_inb q3.2 b4 113 v1 (
z_onV (va_rf (z_r q3.2 b4 v1.toNatClampNeg)) fun b5 =>
z_chk q3.2 b5 8 (
z_onV (va_rf (z_r q3.2 b5 1)) fun b6 =>
z_inb q3.2 b6 101 v2 (
let x7 := (z_i q3.2 b6 v2.toNatClampNeg)
z_chk q3.2 v0 12 (
(f_X11_mayHang v0 x7 v3 q3.2).bind fun q8 =>
if q8.1 = 0 then
(z_chk q8.2 v0 12 (
(f_X11_fails v0 ((4 : Int32)) q8.2).bind fun q14 =>
some (q14.1, q14.2)))
else
(z_chk q8.2 v0 12 (
z_onV (va_rf (z_r q8.2 v0 6)) fun b9 =>
z_inb q8.2 b9 113 v1 (
z_onV (va_rf (z_r q8.2 b9 v1.toNatClampNeg)) fun b10 =>
z_chk q8.2 b10 8 (
z_onV (va_rf (z_r q8.2 b10 1)) fun b11 =>
z_inb q8.2 b11 101 v2 (
let S12 := z_wi q8.2 b11 v2.toNatClampNeg ((-1 : Int32))
z_chk S12 v0 12 (
(f_X11_passes v0 x7 S12).bind fun q13 =>
some (q13.1, q13.2)))))))))))))
else
(z_chk q3.2 v0 12 (
(f_X11_fails v0 q3.1 q3.2).bind fun q15 =>
some (q15.1, q15.2)))))
else
(some ((-2000000002 : Int32), q2.2)))
else
(some ((-2000000001 : Int32), q1.2)))
def f_X11_down : Nat → Int32 → Int32 → Int32 → z_St → Option (Int32 × z_St) := z_op (b_X11_down)
theorem e_X11_down (v0 : Nat) (v1 : Int32) (v2 : Int32) (v3 : Int32) (S : z_St) : f_X11_down v0 v1 v2 v3 S = b_X11_down v0 v1 v2 v3 S := congrFun (congrFun (congrFun (congrFun (congrFun (z_op_eq (b_X11_down)) v0) v1) v2) v3) S
def g_X11_down : z_G := .inl (fun as S => match as with
  | [.ref v0, .int v1, .int v2, .int v3] => f_X11_down v0 v1 v2 v3 S
  | _ => none)
def c_X11_down : List z_E := [
  (0, .iload_n 1, 1, .null, [], z_g0),
  (1, .aload_n 0, 1, .null, [], z_g0),
  (2, .getfield 196, 3, .null, [12, 7, 0], z_g0),
  (5, .invokestatic 105, 3, .null, [0, 0, 0], g_X11_nameless),
  (8, .ifCond .eq 6, 3, .null, [14], z_g0),
  (11, .ldc 109, 2, .int (-2000000001 : Int32), [], z_g0),
  (13, .ireturn, 1, .null, [], z_g0),
  (14, .iload_n 3, 1, .null, [], z_g0),
  (15, .iconst 0, 1, .int ((0 : Int32)), [], z_g0),
  (16, .bipush 9, 2, .int ((9 : Int32)), [], z_g0),
  (18, .invokestatic 81, 3, .null, [0, 0, 0, 0], g_X11_outOf),
  (21, .ifCond .eq 6, 3, .null, [27], z_g0),
  (24, .ldc 85, 2, .int (-2000000002 : Int32), [], z_g0),
  (26, .ireturn, 1, .null, [], z_g0),
  (27, .aload_n 0, 1, .null, [], z_g0),
  (28, .iload_n 1, 1, .null, [], z_g0),
  (29, .iload_n 2, 1, .null, [], z_g0),
  (30, .invokevirtual 200, 3, .null, [1, 12, 0, 0], g_X11_placeFailure),
  (33, .istore 4, 2, .null, [], z_g0),
  (35, .iload 4, 2, .null, [], z_g0),
  (37, .ifCond .eq 10, 3, .null, [47], z_g0),
  (40, .aload_n 0, 1, .null, [], z_g0),
  (41, .iload 4, 2, .null, [], z_g0),
  (43, .invokevirtual 91, 3, .null, [1, 12, 0], g_X11_fails),
  (46, .ireturn, 1, .null, [], z_g0),
  (47, .aload_n 0, 1, .null, [], z_g0),
  (48, .getfield 29, 3, .null, [12, 6, 3], z_g0),
  (51, .iload_n 1, 1, .null, [], z_g0),
  (52, .aaload, 1, .null, [113], z_g0),
  (53, .getfield 209, 3, .null, [8, 1, 3], z_g0),
  (56, .iload_n 2, 1, .null, [], z_g0),
  (57, .iaload, 1, .null, [101], z_g0),
  (58, .istore 5, 2, .null, [], z_g0),
  (60, .aload_n 0, 1, .null, [], z_g0),
  (61, .iload 5, 2, .null, [], z_g0),
  (63, .iload_n 3, 1, .null, [], z_g0),
  (64, .invokevirtual 206, 3, .null, [1, 12, 0, 0], g_X11_mayHang),
  (67, .ifCond .ne 9, 3, .null, [76], z_g0),
  (70, .aload_n 0, 1, .null, [], z_g0),
  (71, .iconst 4, 1, .int ((4 : Int32)), [], z_g0),
  (72, .invokevirtual 91, 3, .null, [1, 12, 0], g_X11_fails),
  (75, .ireturn, 1, .null, [], z_g0),
  (76, .aload_n 0, 1, .null, [], z_g0),
  (77, .getfield 29, 3, .null, [12, 6, 3], z_g0),
  (80, .iload_n 1, 1, .null, [], z_g0),
  (81, .aaload, 1, .null, [113], z_g0),
  (82, .getfield 209, 3, .null, [8, 1, 3], z_g0),
  (85, .iload_n 2, 1, .null, [], z_g0),
  (86, .iconst (-1), 1, .int ((-1 : Int32)), [], z_g0),
  (87, .iastore, 1, .null, [], z_g0),
  (88, .aload_n 0, 1, .null, [], z_g0),
  (89, .iload 5, 2, .null, [], z_g0),
  (91, .invokevirtual 102, 3, .null, [1, 12, 0], g_X11_passes),
  (94, .ireturn, 1, .null, [], z_g0)]
set_option maxRecDepth 100000 in
theorem r_X11_down (v0 : Nat) (v1 : Int32) (v2 : Int32) (v3 : Int32) (S : z_St) : z_seg z_rI (c_X11_down) [] (fun pc => fun _ _ _ => none) 57 (c_X11_down) [(0, .ref v0), (1, .int v1), (2, .int v2), (3, .int v3)] [] S = b_X11_down v0 v1 v2 v3 S := rfl
def b_X11_hung (v0 : Nat) (v1 : Int32) (v2 : Int32) (S : z_St) : Option (Int32 × z_St) :=
z_chk S v0 12 (
(f_X11_nameless v1 ((z_i S v0 7)) S).bind fun q1 =>
if q1.1 = 0 then
(z_chk q1.2 v0 12 (
(f_X11_placeFailure v0 v1 v2 q1.2).bind fun q2 =>
if q2.1 = 0 then
(z_chk q2.2 v0 12 (
z_onV (va_rf (z_r q2.2 v0 6)) fun b3 =>
z_inb q2.2 b3 113 v1 (
z_onV (va_rf (z_r q2.2 b3 v1.toNatClampNeg)) fun b4 =>
z_chk q2.2 b4 8 (
z_onV (va_rf (z_r q2.2 b4 1)) fun b5 =>
z_inb q2.2 b5 101 v2 (
z_chk q2.2 v0 12 (
(f_X11_passes v0 ((z_i q2.2 b5 v2.toNatClampNeg)) q2.2).bind fun q6 =>
some (q6.1, q6.2)))))))
else
(z_chk q2.2 v0 12 (
(f_X11_fails v0 q2.1 q2.2).bind fun q7 =>
some (q7.1, q7.2)))))
else
(some ((-2000000001 : Int32), q1.2)))
def f_X11_hung : Nat → Int32 → Int32 → z_St → Option (Int32 × z_St) := z_op (b_X11_hung)
theorem e_X11_hung (v0 : Nat) (v1 : Int32) (v2 : Int32) (S : z_St) : f_X11_hung v0 v1 v2 S = b_X11_hung v0 v1 v2 S := congrFun (congrFun (congrFun (congrFun (z_op_eq (b_X11_hung)) v0) v1) v2) S
def g_X11_hung : z_G := .inl (fun as S => match as with
  | [.ref v0, .int v1, .int v2] => f_X11_hung v0 v1 v2 S
  | _ => none)
def c_X11_hung : List z_E := [
  (0, .iload_n 1, 1, .null, [], z_g0),
  (1, .aload_n 0, 1, .null, [], z_g0),
  (2, .getfield 196, 3, .null, [12, 7, 0], z_g0),
  (5, .invokestatic 105, 3, .null, [0, 0, 0], g_X11_nameless),
  (8, .ifCond .eq 6, 3, .null, [14], z_g0),
  (11, .ldc 109, 2, .int (-2000000001 : Int32), [], z_g0),
  (13, .ireturn, 1, .null, [], z_g0),
  (14, .aload_n 0, 1, .null, [], z_g0),
  (15, .iload_n 1, 1, .null, [], z_g0),
  (16, .iload_n 2, 1, .null, [], z_g0),
  (17, .invokevirtual 200, 3, .null, [1, 12, 0, 0], g_X11_placeFailure),
  (20, .istore_n 3, 1, .null, [], z_g0),
  (21, .iload_n 3, 1, .null, [], z_g0),
  (22, .ifCond .eq 9, 3, .null, [31], z_g0),
  (25, .aload_n 0, 1, .null, [], z_g0),
  (26, .iload_n 3, 1, .null, [], z_g0),
  (27, .invokevirtual 91, 3, .null, [1, 12, 0], g_X11_fails),
  (30, .ireturn, 1, .null, [], z_g0),
  (31, .aload_n 0, 1, .null, [], z_g0),
  (32, .aload_n 0, 1, .null, [], z_g0),
  (33, .getfield 29, 3, .null, [12, 6, 3], z_g0),
  (36, .iload_n 1, 1, .null, [], z_g0),
  (37, .aaload, 1, .null, [113], z_g0),
  (38, .getfield 209, 3, .null, [8, 1, 3], z_g0),
  (41, .iload_n 2, 1, .null, [], z_g0),
  (42, .iaload, 1, .null, [101], z_g0),
  (43, .invokevirtual 102, 3, .null, [1, 12, 0], g_X11_passes),
  (46, .ireturn, 1, .null, [], z_g0)]
set_option maxRecDepth 100000 in
theorem r_X11_hung (v0 : Nat) (v1 : Int32) (v2 : Int32) (S : z_St) : z_seg z_rI (c_X11_hung) [] (fun pc => fun _ _ _ => none) 31 (c_X11_hung) [(0, .ref v0), (1, .int v1), (2, .int v2)] [] S = b_X11_hung v0 v1 v2 S := rfl
def b_X11_asked (v0 : Nat) (v1 : Int32) (v2 : Int32) (v3 : Int32) (S : z_St) : Option (Int32 × z_St) :=
z_chk S v0 12 (
(f_X11_nameless v1 ((z_i S v0 7)) S).bind fun q1 =>
if q1.1 = 0 then
((f_X11_outOf v3 ((0 : Int32)) ((5 : Int32)) q1.2).bind fun q2 =>
if q2.1 = 0 then
(z_chk q2.2 v0 12 (
(f_X11_placeFailure v0 v1 v2 q2.2).bind fun q3 =>
if q3.1 = 0 then
(z_chk q3.2 v0 12 (
z_onV (va_rf (z_r q3.2 v0 6)) fun b4 =>
z_inb q3.2 b4 113 v1 (
z_onV (va_rf (z_r q3.2 b4 v1.toNatClampNeg)) fun b5 =>
z_chk q3.2 b5 8 (
z_onV (va_rf (z_r q3.2 b5 1)) fun b6 =>
z_inb q3.2 b6 101 v2 (
z_chk q3.2 v0 12 (
(f_X11_told v0 ((z_i q3.2 b6 v2.toNatClampNeg)) v3 q3.2).bind fun q7 =>
some (q7.1, q7.2)))))))
else
(z_chk q3.2 v0 12 (
(f_X11_fails v0 q3.1 q3.2).bind fun q8 =>
some (q8.1, q8.2)))))
else
(some ((-2000000002 : Int32), q2.2)))
else
(some ((-2000000001 : Int32), q1.2)))
def f_X11_asked : Nat → Int32 → Int32 → Int32 → z_St → Option (Int32 × z_St) := z_op (b_X11_asked)
theorem e_X11_asked (v0 : Nat) (v1 : Int32) (v2 : Int32) (v3 : Int32) (S : z_St) : f_X11_asked v0 v1 v2 v3 S = b_X11_asked v0 v1 v2 v3 S := congrFun (congrFun (congrFun (congrFun (congrFun (z_op_eq (b_X11_asked)) v0) v1) v2) v3) S
def g_X11_asked : z_G := .inl (fun as S => match as with
  | [.ref v0, .int v1, .int v2, .int v3] => f_X11_asked v0 v1 v2 v3 S
  | _ => none)
def c_X11_asked : List z_E := [
  (0, .iload_n 1, 1, .null, [], z_g0),
  (1, .aload_n 0, 1, .null, [], z_g0),
  (2, .getfield 196, 3, .null, [12, 7, 0], z_g0),
  (5, .invokestatic 105, 3, .null, [0, 0, 0], g_X11_nameless),
  (8, .ifCond .eq 6, 3, .null, [14], z_g0),
  (11, .ldc 109, 2, .int (-2000000001 : Int32), [], z_g0),
  (13, .ireturn, 1, .null, [], z_g0),
  (14, .iload_n 3, 1, .null, [], z_g0),
  (15, .iconst 0, 1, .int ((0 : Int32)), [], z_g0),
  (16, .iconst 5, 1, .int ((5 : Int32)), [], z_g0),
  (17, .invokestatic 81, 3, .null, [0, 0, 0, 0], g_X11_outOf),
  (20, .ifCond .eq 6, 3, .null, [26], z_g0),
  (23, .ldc 85, 2, .int (-2000000002 : Int32), [], z_g0),
  (25, .ireturn, 1, .null, [], z_g0),
  (26, .aload_n 0, 1, .null, [], z_g0),
  (27, .iload_n 1, 1, .null, [], z_g0),
  (28, .iload_n 2, 1, .null, [], z_g0),
  (29, .invokevirtual 200, 3, .null, [1, 12, 0, 0], g_X11_placeFailure),
  (32, .istore 4, 2, .null, [], z_g0),
  (34, .iload 4, 2, .null, [], z_g0),
  (36, .ifCond .eq 10, 3, .null, [46], z_g0),
  (39, .aload_n 0, 1, .null, [], z_g0),
  (40, .iload 4, 2, .null, [], z_g0),
  (42, .invokevirtual 91, 3, .null, [1, 12, 0], g_X11_fails),
  (45, .ireturn, 1, .null, [], z_g0),
  (46, .aload_n 0, 1, .null, [], z_g0),
  (47, .aload_n 0, 1, .null, [], z_g0),
  (48, .getfield 29, 3, .null, [12, 6, 3], z_g0),
  (51, .iload_n 1, 1, .null, [], z_g0),
  (52, .aaload, 1, .null, [113], z_g0),
  (53, .getfield 209, 3, .null, [8, 1, 3], z_g0),
  (56, .iload_n 2, 1, .null, [], z_g0),
  (57, .iaload, 1, .null, [101], z_g0),
  (58, .iload_n 3, 1, .null, [], z_g0),
  (59, .invokevirtual 193, 3, .null, [1, 12, 0, 0], g_X11_told),
  (62, .ireturn, 1, .null, [], z_g0)]
set_option maxRecDepth 100000 in
theorem r_X11_asked (v0 : Nat) (v1 : Int32) (v2 : Int32) (v3 : Int32) (S : z_St) : z_seg z_rI (c_X11_asked) [] (fun pc => fun _ _ _ => none) 39 (c_X11_asked) [(0, .ref v0), (1, .int v1), (2, .int v2), (3, .int v3)] [] S = b_X11_asked v0 v1 v2 v3 S := rfl
def l_X11_haul_121 : Nat → Nat → Int32 → Int32 → Int32 → Int32 → Nat → Nat → Int32 → z_St → Option (Int32 × z_St)
  | 0 => fun _ _ _ _ _ _ _ _ _ => none
  | n + 1 => fun (v0 : Nat) (v2 : Int32) (v3 : Int32) (v4 : Int32) (v5 : Int32) (v6 : Nat) (v7 : Nat) (v8 : Int32) (S : z_St) =>
if v5 ≤ v8 then
(z_chk S v0 12 (
(f_X11_passes v0 v5 S).bind fun q17 =>
some (q17.1, q17.2)))
else
(z_inb S v6 101 (v2 + v8) (
z_chk S v0 12 (
z_onV (va_rf (z_r S v0 6)) fun b18 =>
z_inb S b18 113 v3 (
z_onV (va_rf (z_r S b18 v3.toNatClampNeg)) fun b19 =>
z_chk S b19 8 (
z_chk S v0 12 (
(f_X11_mayHang v0 ((z_i S v6 (v2 + v8).toNatClampNeg)) ((z_i S b19 0)) S).bind fun q20 =>
if q20.1 = 0 then
(z_chk q20.2 v0 12 (
(f_X11_failsWith v0 ((5 : Int32)) v8 q20.2).bind fun q23 =>
some (q23.1, q23.2)))
else
(z_inb q20.2 v6 101 (v2 + v8) (
z_inb q20.2 v7 101 (v4 + v8) (
let S21 := z_wi q20.2 v7 (v4 + v8).toNatClampNeg ((z_i q20.2 v6 (v2 + v8).toNatClampNeg))
let x22 := v8 + (1 : Int32)
l_X11_haul_121 n v0 v2 v3 v4 v5 v6 v7 x22 S21)))))))))
def b_X11_haul (v0 : Nat) (v1 : Int32) (v2 : Int32) (v3 : Int32) (v4 : Int32) (v5 : Int32) (S : z_St) : Option (Int32 × z_St) :=
z_chk S v0 12 (
(f_X11_nameless v1 ((z_i S v0 7)) S).bind fun q1 =>
if q1.1 = 0 then
(z_chk q1.2 v0 12 (
(f_X11_nameless v3 ((z_i q1.2 v0 7)) q1.2).bind fun q2 =>
if q2.1 = 0 then
(if v1 = ((-1 : Int32)) then
(z_chk q2.2 v0 12 (
(f_X11_fails v0 ((1 : Int32)) q2.2).bind fun q3 =>
some (q3.1, q3.2)))
else
(if v3 = ((-1 : Int32)) then
(z_chk q2.2 v0 12 (
(f_X11_fails v0 ((1 : Int32)) q2.2).bind fun q16 =>
some (q16.1, q16.2)))
else
(z_chk q2.2 v0 12 (
z_onV (va_rf (z_r q2.2 v0 6)) fun b4 =>
z_inb q2.2 b4 113 v1 (
z_onV (va_rf (z_r q2.2 b4 v1.toNatClampNeg)) fun b5 =>
z_chk q2.2 b5 8 (
z_onV (va_rf (z_r q2.2 b5 1)) fun b6 =>
z_chk q2.2 v0 12 (
z_onV (va_rf (z_r q2.2 v0 6)) fun b7 =>
z_inb q2.2 b7 113 v3 (
z_onV (va_rf (z_r q2.2 b7 v3.toNatClampNeg)) fun b8 =>
z_chk q2.2 b8 8 (
z_onV (va_rf (z_r q2.2 b8 1)) fun b9 =>
z_chk q2.2 b6 101 (
(f_X11_fits v2 v5 (Int32.ofNat (z_n q2.2 b6)) q2.2).bind fun q10 =>
if q10.1 = 0 then
(z_chk q10.2 v0 12 (
(f_X11_fails v0 ((2 : Int32)) q10.2).bind fun q11 =>
some (q11.1, q11.2)))
else
(z_chk q10.2 b9 101 (
(f_X11_fits v4 v5 (Int32.ofNat (z_n q10.2 b9)) q10.2).bind fun q12 =>
if q12.1 = 0 then
(z_chk q12.2 v0 12 (
(f_X11_fails v0 ((2 : Int32)) q12.2).bind fun q15 =>
some (q15.1, q15.2)))
else
(if v1 = v3 then
(z_cpy q12.2 101 b6 v2 b9 v4 v5 (
let S13 := z_ci q12.2 b6 v2.toNatClampNeg b9 v4.toNatClampNeg v5.toNatClampNeg
z_chk S13 v0 12 (
(f_X11_passes v0 v5 S13).bind fun q14 =>
some (q14.1, q14.2))))
else
(l_X11_haul_121 z_N v0 v2 v3 v4 v5 b6 b9 ((0 : Int32)) q12.2))))))))))))))
else
(some ((-2000000001 : Int32), q2.2))))
else
(some ((-2000000001 : Int32), q1.2)))
def f_X11_haul : Nat → Int32 → Int32 → Int32 → Int32 → Int32 → z_St → Option (Int32 × z_St) := z_op (b_X11_haul)
theorem e_X11_haul (v0 : Nat) (v1 : Int32) (v2 : Int32) (v3 : Int32) (v4 : Int32) (v5 : Int32) (S : z_St) : f_X11_haul v0 v1 v2 v3 v4 v5 S = b_X11_haul v0 v1 v2 v3 v4 v5 S := congrFun (congrFun (congrFun (congrFun (congrFun (congrFun (congrFun (z_op_eq (b_X11_haul)) v0) v1) v2) v3) v4) v5) S
def g_X11_haul : z_G := .inl (fun as S => match as with
  | [.ref v0, .int v1, .int v2, .int v3, .int v4, .int v5] => f_X11_haul v0 v1 v2 v3 v4 v5 S
  | _ => none)
def c_X11_haul : List z_E := [
  (0, .iload_n 1, 1, .null, [], z_g0),
  (1, .aload_n 0, 1, .null, [], z_g0),
  (2, .getfield 196, 3, .null, [12, 7, 0], z_g0),
  (5, .invokestatic 105, 3, .null, [0, 0, 0], g_X11_nameless),
  (8, .ifCond .ne 14, 3, .null, [22], z_g0),
  (11, .iload_n 3, 1, .null, [], z_g0),
  (12, .aload_n 0, 1, .null, [], z_g0),
  (13, .getfield 196, 3, .null, [12, 7, 0], z_g0),
  (16, .invokestatic 105, 3, .null, [0, 0, 0], g_X11_nameless),
  (19, .ifCond .eq 6, 3, .null, [25], z_g0),
  (22, .ldc 109, 2, .int (-2000000001 : Int32), [], z_g0),
  (24, .ireturn, 1, .null, [], z_g0),
  (25, .iload_n 1, 1, .null, [], z_g0),
  (26, .iconst (-1), 1, .int ((-1 : Int32)), [], z_g0),
  (27, .if_icmp .eq 8, 3, .null, [35], z_g0),
  (30, .iload_n 3, 1, .null, [], z_g0),
  (31, .iconst (-1), 1, .int ((-1 : Int32)), [], z_g0),
  (32, .if_icmp .ne 9, 3, .null, [41], z_g0),
  (35, .aload_n 0, 1, .null, [], z_g0),
  (36, .iconst 1, 1, .int ((1 : Int32)), [], z_g0),
  (37, .invokevirtual 91, 3, .null, [1, 12, 0], g_X11_fails),
  (40, .ireturn, 1, .null, [], z_g0),
  (41, .aload_n 0, 1, .null, [], z_g0),
  (42, .getfield 29, 3, .null, [12, 6, 3], z_g0),
  (45, .iload_n 1, 1, .null, [], z_g0),
  (46, .aaload, 1, .null, [113], z_g0),
  (47, .getfield 209, 3, .null, [8, 1, 3], z_g0),
  (50, .astore 6, 2, .null, [], z_g0),
  (52, .aload_n 0, 1, .null, [], z_g0),
  (53, .getfield 29, 3, .null, [12, 6, 3], z_g0),
  (56, .iload_n 3, 1, .null, [], z_g0),
  (57, .aaload, 1, .null, [113], z_g0),
  (58, .getfield 209, 3, .null, [8, 1, 3], z_g0),
  (61, .astore 7, 2, .null, [], z_g0),
  (63, .iload_n 2, 1, .null, [], z_g0),
  (64, .iload 5, 2, .null, [], z_g0),
  (66, .aload 6, 2, .null, [], z_g0),
  (68, .arraylength, 1, .null, [101], z_g0),
  (69, .invokestatic 152, 3, .null, [0, 0, 0, 0], g_X11_fits),
  (72, .ifCond .eq 16, 3, .null, [88], z_g0),
  (75, .iload 4, 2, .null, [], z_g0),
  (77, .iload 5, 2, .null, [], z_g0),
  (79, .aload 7, 2, .null, [], z_g0),
  (81, .arraylength, 1, .null, [101], z_g0),
  (82, .invokestatic 152, 3, .null, [0, 0, 0, 0], g_X11_fits),
  (85, .ifCond .ne 9, 3, .null, [94], z_g0),
  (88, .aload_n 0, 1, .null, [], z_g0),
  (89, .iconst 2, 1, .int ((2 : Int32)), [], z_g0),
  (90, .invokevirtual 91, 3, .null, [1, 12, 0], g_X11_fails),
  (93, .ireturn, 1, .null, [], z_g0),
  (94, .iload_n 1, 1, .null, [], z_g0),
  (95, .iload_n 3, 1, .null, [], z_g0),
  (96, .if_icmp .ne 22, 3, .null, [118], z_g0),
  (99, .aload 6, 2, .null, [], z_g0),
  (101, .iload_n 2, 1, .null, [], z_g0),
  (102, .aload 7, 2, .null, [], z_g0),
  (104, .iload 4, 2, .null, [], z_g0),
  (106, .iload 5, 2, .null, [], z_g0),
  (108, .invokestatic 146, 3, .null, [3, 101], z_g0),
  (111, .aload_n 0, 1, .null, [], z_g0),
  (112, .iload 5, 2, .null, [], z_g0),
  (114, .invokevirtual 102, 3, .null, [1, 12, 0], g_X11_passes),
  (117, .ireturn, 1, .null, [], z_g0),
  (118, .iconst 0, 1, .int ((0 : Int32)), [], z_g0),
  (119, .istore 8, 2, .null, [], z_g0),
  (121, .iload 8, 2, .null, [], z_g0),
  (123, .iload 5, 2, .null, [], z_g0),
  (125, .if_icmp .ge 55, 3, .null, [180], z_g0),
  (128, .aload_n 0, 1, .null, [], z_g0),
  (129, .aload 6, 2, .null, [], z_g0),
  (131, .iload_n 2, 1, .null, [], z_g0),
  (132, .iload 8, 2, .null, [], z_g0),
  (134, .iadd, 1, .null, [], z_g0),
  (135, .iaload, 1, .null, [101], z_g0),
  (136, .aload_n 0, 1, .null, [], z_g0),
  (137, .getfield 29, 3, .null, [12, 6, 3], z_g0),
  (140, .iload_n 3, 1, .null, [], z_g0),
  (141, .aaload, 1, .null, [113], z_g0),
  (142, .getfield 203, 3, .null, [8, 0, 0], z_g0),
  (145, .invokevirtual 206, 3, .null, [1, 12, 0, 0], g_X11_mayHang),
  (148, .ifCond .ne 11, 3, .null, [159], z_g0),
  (151, .aload_n 0, 1, .null, [], z_g0),
  (152, .iconst 5, 1, .int ((5 : Int32)), [], z_g0),
  (153, .iload 8, 2, .null, [], z_g0),
  (155, .invokevirtual 212, 3, .null, [1, 12, 0, 0], g_X11_failsWith),
  (158, .ireturn, 1, .null, [], z_g0),
  (159, .aload 7, 2, .null, [], z_g0),
  (161, .iload 4, 2, .null, [], z_g0),
  (163, .iload 8, 2, .null, [], z_g0),
  (165, .iadd, 1, .null, [], z_g0),
  (166, .aload 6, 2, .null, [], z_g0),
  (168, .iload_n 2, 1, .null, [], z_g0),
  (169, .iload 8, 2, .null, [], z_g0),
  (171, .iadd, 1, .null, [], z_g0),
  (172, .iaload, 1, .null, [101], z_g0),
  (173, .iastore, 1, .null, [], z_g0),
  (174, .iinc 8 1, 3, .int (1 : Int32), [], z_g0),
  (177, .goto (-56), 3, .null, [121], z_g0),
  (180, .aload_n 0, 1, .null, [], z_g0),
  (181, .iload 5, 2, .null, [], z_g0),
  (183, .invokevirtual 102, 3, .null, [1, 12, 0], g_X11_passes),
  (186, .ireturn, 1, .null, [], z_g0)]
def a_X11_haul_121 {ρ : Type} (k : Nat → Int32 → Int32 → Int32 → Int32 → Nat → Nat → Int32 → z_St → Option ρ) (ls : z_Lv) (st : List Value) (S : z_St) : Option ρ := z_gR ls 0 fun v0 => z_gI ls 2 fun v2 => z_gI ls 3 fun v3 => z_gI ls 4 fun v4 => z_gI ls 5 fun v5 => z_gR ls 6 fun v6 => z_gR ls 7 fun v7 => z_gI ls 8 fun v8 => z_p0 st (k v0 v2 v3 v4 v5 v6 v7 v8 S)
set_option maxRecDepth 100000 in
theorem r_X11_haul_121 (n : Nat) (v0 : Nat) (v2 : Int32) (v3 : Int32) (v4 : Int32) (v5 : Int32) (v6 : Nat) (v7 : Nat) (v8 : Int32) (S : z_St) : z_seg z_rI (c_X11_haul) [121] (fun pc => cond (Nat.beq pc 121) (a_X11_haul_121 (l_X11_haul_121 n)) (fun _ _ _ => none)) 105 (z_to 121 (c_X11_haul)) [(0, .ref v0), (2, .int v2), (3, .int v3), (4, .int v4), (5, .int v5), (6, .ref v6), (7, .ref v7), (8, .int v8)] [] S = l_X11_haul_121 (n + 1) v0 v2 v3 v4 v5 v6 v7 v8 S := rfl
set_option maxRecDepth 100000 in
theorem r_X11_haul (v0 : Nat) (v1 : Int32) (v2 : Int32) (v3 : Int32) (v4 : Int32) (v5 : Int32) (S : z_St) : z_seg z_rI (c_X11_haul) [121] (fun pc => cond (Nat.beq pc 121) (a_X11_haul_121 (l_X11_haul_121 z_N)) (fun _ _ _ => none)) 105 (c_X11_haul) [(0, .ref v0), (1, .int v1), (2, .int v2), (3, .int v3), (4, .int v4), (5, .int v5)] [] S = b_X11_haul v0 v1 v2 v3 v4 v5 S := rfl
def b_X11_boxable (v0 : Nat) (v1 : Int32) (S : z_St) : Option (Int32 × z_St) :=
if v1 = (1 : Int32) then
(z_chk S v0 12 (
some ((z_i S v0 1), S)))
else
if v1 = (2 : Int32) then
(z_chk S v0 12 (
some ((z_i S v0 5), S)))
else
if v1 = (3 : Int32) then
(z_chk S v0 12 (
some ((z_i S v0 7), S)))
else
(z_chk S v0 12 (
some ((z_i S v0 3), S)))
def f_X11_boxable : Nat → Int32 → z_St → Option (Int32 × z_St) := z_op (b_X11_boxable)
theorem e_X11_boxable (v0 : Nat) (v1 : Int32) (S : z_St) : f_X11_boxable v0 v1 S = b_X11_boxable v0 v1 S := congrFun (congrFun (congrFun (z_op_eq (b_X11_boxable)) v0) v1) S
def g_X11_boxable : z_G := .inl (fun as S => match as with
  | [.ref v0, .int v1] => f_X11_boxable v0 v1 S
  | _ => none)
def c_X11_boxable : List z_E := [
  (0, .iload_n 1, 1, .null, [], z_g0),
  (1, .tableswitch 42 1 3 #[27, 32, 37], 27, .null, [43, 1, 28, 33, 38], z_g0),
  (28, .aload_n 0, 1, .null, [], z_g0),
  (29, .getfield 86, 3, .null, [12, 1, 0], z_g0),
  (32, .ireturn, 1, .null, [], z_g0),
  (33, .aload_n 0, 1, .null, [], z_g0),
  (34, .getfield 189, 3, .null, [12, 5, 0], z_g0),
  (37, .ireturn, 1, .null, [], z_g0),
  (38, .aload_n 0, 1, .null, [], z_g0),
  (39, .getfield 196, 3, .null, [12, 7, 0], z_g0),
  (42, .ireturn, 1, .null, [], z_g0),
  (43, .aload_n 0, 1, .null, [], z_g0),
  (44, .getfield 171, 3, .null, [12, 3, 0], z_g0),
  (47, .ireturn, 1, .null, [], z_g0)]
set_option maxRecDepth 100000 in
theorem r_X11_boxable (v0 : Nat) (v1 : Int32) (S : z_St) : z_seg z_rI (c_X11_boxable) [] (fun pc => fun _ _ _ => none) 17 (c_X11_boxable) [(0, .ref v0), (1, .int v1)] [] S = b_X11_boxable v0 v1 S := rfl
def j_X11_box_47 (v0 : Nat) (v1 : Int32) (v2 : Int32) (v3 : Int32) (S : z_St) : Option (Int32 × z_St) :=
z_chk S v0 12 (
z_onV (va_rf (z_r S v0 10)) fun b5 =>
z_inb S b5 101 v1 (
let S6 := z_wi S b5 v1.toNatClampNeg v2
z_chk S6 v0 12 (
z_onV (va_rf (z_r S6 v0 11)) fun b7 =>
z_inb S6 b7 101 v1 (
let S8 := z_wi S6 b7 v1.toNatClampNeg v3
some ((1 : Int32), S8)))))
def b_X11_box (v0 : Nat) (v1 : Int32) (v2 : Int32) (v3 : Int32) (S : z_St) : Option (Int32 × z_St) :=
(f_X11_outOf v1 ((0 : Int32)) ((9 : Int32)) S).bind fun q1 =>
if q1.1 = 0 then
((f_X11_outOf v2 ((0 : Int32)) ((4 : Int32)) q1.2).bind fun q2 =>
if q2.1 = 0 then
(if v2 = 0 then
(j_X11_box_47 v0 v1 v2 v3 q2.2)
else
(z_chk q2.2 v0 12 (
(f_X11_boxable v0 v2 q2.2).bind fun q3 =>
(f_X11_outOf v3 ((0 : Int32)) (q3.1 - ((1 : Int32))) q3.2).bind fun q4 =>
if q4.1 = 0 then
(j_X11_box_47 v0 v1 v2 v3 q4.2)
else
(some ((-2000000001 : Int32), q4.2)))))
else
(some ((-2000000002 : Int32), q2.2)))
else
(some ((-2000000001 : Int32), q1.2))
def f_X11_box : Nat → Int32 → Int32 → Int32 → z_St → Option (Int32 × z_St) := z_op (b_X11_box)
theorem e_X11_box (v0 : Nat) (v1 : Int32) (v2 : Int32) (v3 : Int32) (S : z_St) : f_X11_box v0 v1 v2 v3 S = b_X11_box v0 v1 v2 v3 S := congrFun (congrFun (congrFun (congrFun (congrFun (z_op_eq (b_X11_box)) v0) v1) v2) v3) S
def g_X11_box : z_G := .inl (fun as S => match as with
  | [.ref v0, .int v1, .int v2, .int v3] => f_X11_box v0 v1 v2 v3 S
  | _ => none)
def c_X11_box : List z_E := [
  (0, .iload_n 1, 1, .null, [], z_g0),
  (1, .iconst 0, 1, .int ((0 : Int32)), [], z_g0),
  (2, .bipush 9, 2, .int ((9 : Int32)), [], z_g0),
  (4, .invokestatic 81, 3, .null, [0, 0, 0, 0], g_X11_outOf),
  (7, .ifCond .eq 6, 3, .null, [13], z_g0),
  (10, .ldc 109, 2, .int (-2000000001 : Int32), [], z_g0),
  (12, .ireturn, 1, .null, [], z_g0),
  (13, .iload_n 2, 1, .null, [], z_g0),
  (14, .iconst 0, 1, .int ((0 : Int32)), [], z_g0),
  (15, .iconst 4, 1, .int ((4 : Int32)), [], z_g0),
  (16, .invokestatic 81, 3, .null, [0, 0, 0, 0], g_X11_outOf),
  (19, .ifCond .eq 6, 3, .null, [25], z_g0),
  (22, .ldc 85, 2, .int (-2000000002 : Int32), [], z_g0),
  (24, .ireturn, 1, .null, [], z_g0),
  (25, .iload_n 2, 1, .null, [], z_g0),
  (26, .ifCond .eq 21, 3, .null, [47], z_g0),
  (29, .iload_n 3, 1, .null, [], z_g0),
  (30, .iconst 0, 1, .int ((0 : Int32)), [], z_g0),
  (31, .aload_n 0, 1, .null, [], z_g0),
  (32, .iload_n 2, 1, .null, [], z_g0),
  (33, .invokevirtual 215, 3, .null, [1, 12, 0], g_X11_boxable),
  (36, .iconst 1, 1, .int ((1 : Int32)), [], z_g0),
  (37, .isub, 1, .null, [], z_g0),
  (38, .invokestatic 81, 3, .null, [0, 0, 0, 0], g_X11_outOf),
  (41, .ifCond .eq 6, 3, .null, [47], z_g0),
  (44, .ldc 109, 2, .int (-2000000001 : Int32), [], z_g0),
  (46, .ireturn, 1, .null, [], z_g0),
  (47, .aload_n 0, 1, .null, [], z_g0),
  (48, .getfield 39, 3, .null, [12, 10, 3], z_g0),
  (51, .iload_n 1, 1, .null, [], z_g0),
  (52, .iload_n 2, 1, .null, [], z_g0),
  (53, .iastore, 1, .null, [], z_g0),
  (54, .aload_n 0, 1, .null, [], z_g0),
  (55, .getfield 43, 3, .null, [12, 11, 3], z_g0),
  (58, .iload_n 1, 1, .null, [], z_g0),
  (59, .iload_n 3, 1, .null, [], z_g0),
  (60, .iastore, 1, .null, [], z_g0),
  (61, .iconst 1, 1, .int ((1 : Int32)), [], z_g0),
  (62, .ireturn, 1, .null, [], z_g0)]
def a_X11_box_47 {ρ : Type} (k : Nat → Int32 → Int32 → Int32 → z_St → Option ρ) (ls : z_Lv) (st : List Value) (S : z_St) : Option ρ := z_gR ls 0 fun v0 => z_gI ls 1 fun v1 => z_gI ls 2 fun v2 => z_gI ls 3 fun v3 => z_p0 st (k v0 v1 v2 v3 S)
set_option maxRecDepth 100000 in
theorem r_X11_box_47 (v0 : Nat) (v1 : Int32) (v2 : Int32) (v3 : Int32) (S : z_St) : z_seg z_rI (c_X11_box) [47] (fun pc => fun _ _ _ => none) 42 (z_to 47 (c_X11_box)) [(0, .ref v0), (1, .int v1), (2, .int v2), (3, .int v3)] [] S = j_X11_box_47 v0 v1 v2 v3 S := rfl
set_option maxRecDepth 100000 in
theorem r_X11_box (v0 : Nat) (v1 : Int32) (v2 : Int32) (v3 : Int32) (S : z_St) : z_seg z_rI (c_X11_box) [47] (fun pc => cond (Nat.beq pc 47) (a_X11_box_47 (j_X11_box_47)) (fun _ _ _ => none)) 42 (c_X11_box) [(0, .ref v0), (1, .int v1), (2, .int v2), (3, .int v3)] [] S = b_X11_box v0 v1 v2 v3 S := rfl
def j_X11_boxIs_132 (v0 : Nat) (v2 : Int32) (v3 : Int32) (S : z_St) : Option (Int32 × z_St) :=
if v2 = ((12 : Int32)) then
(z_chk S v0 12 (
z_onV (va_rf (z_r S v0 6)) fun b17 =>
z_inb S b17 113 v3 (
z_onV (va_rf (z_r S b17 v3.toNatClampNeg)) fun b18 =>
z_chk S b18 8 (
(f_X7_isForFloat b18 S).bind fun q19 =>
if q19.1 = 0 then
(z_rb ((0 : Int32)) q19.2)
else
(z_rb ((1 : Int32)) q19.2)))))
else
(z_rb ((0 : Int32)) S)
def j_X11_boxIs_89 (v0 : Nat) (v2 : Int32) (v3 : Int32) (S : z_St) : Option (Int32 × z_St) :=
if v2 = ((10 : Int32)) then
(z_chk S v0 12 (
z_onV (va_rf (z_r S v0 4)) fun b14 =>
z_inb S b14 112 v3 (
z_onV (va_rf (z_r S b14 v3.toNatClampNeg)) fun b15 =>
z_chk S b15 10 (
(f_X9_isFor b15 ((1 : Int32)) S).bind fun q16 =>
if q16.1 = 0 then
(z_rb ((0 : Int32)) q16.2)
else
(z_rb ((1 : Int32)) q16.2)))))
else
(z_rb ((0 : Int32)) S)
def b_X11_boxIs (v0 : Nat) (v1 : Int32) (v2 : Int32) (S : z_St) : Option (Int32 × z_St) :=
z_chk S v0 12 (
z_onV (va_rf (z_r S v0 11)) fun b1 =>
z_inb S b1 101 v1 (
let x2 := (z_i S b1 v1.toNatClampNeg)
z_chk S v0 12 (
z_onV (va_rf (z_r S v0 10)) fun b3 =>
z_inb S b3 101 v1 (
if ((z_i S b3 v1.toNatClampNeg)) = (1 : Int32) then
(z_chk S v0 12 (
z_onV (va_rf (z_r S v0 0)) fun b4 =>
z_inb S b4 110 x2 (
z_onV (va_rf (z_r S b4 x2.toNatClampNeg)) fun b5 =>
z_chk S b5 9 (
if ((z_i S b5 0)) = v2 then
(z_rb ((1 : Int32)) S)
else
(z_rb ((0 : Int32)) S)))))
else
if ((z_i S b3 v1.toNatClampNeg)) = (2 : Int32) then
(if v2 = ((8 : Int32)) then
(z_rb ((1 : Int32)) S)
else
(if v2 = ((9 : Int32)) then
(z_chk S v0 12 (
z_onV (va_rf (z_r S v0 4)) fun b6 =>
z_inb S b6 112 x2 (
z_onV (va_rf (z_r S b6 x2.toNatClampNeg)) fun b7 =>
z_chk S b7 10 (
(f_X9_isFor b7 ((6 : Int32)) S).bind fun q8 =>
if q8.1 = 0 then
(j_X11_boxIs_89 v0 v2 x2 q8.2)
else
(z_rb ((1 : Int32)) q8.2)))))
else
(j_X11_boxIs_89 v0 v2 x2 S)))
else
if ((z_i S b3 v1.toNatClampNeg)) = (3 : Int32) then
(if v2 = ((11 : Int32)) then
(z_chk S v0 12 (
z_onV (va_rf (z_r S v0 6)) fun b9 =>
z_inb S b9 113 x2 (
z_onV (va_rf (z_r S b9 x2.toNatClampNeg)) fun b10 =>
z_chk S b10 8 (
(f_X7_isForReads b10 S).bind fun q11 =>
if q11.1 = 0 then
(j_X11_boxIs_132 v0 v2 x2 q11.2)
else
(z_rb ((1 : Int32)) q11.2)))))
else
(j_X11_boxIs_132 v0 v2 x2 S))
else
if ((z_i S b3 v1.toNatClampNeg)) = (4 : Int32) then
(if v2 = ((13 : Int32)) then
(z_chk S v0 12 (
z_onV (va_rf (z_r S v0 2)) fun b12 =>
z_inb S b12 111 x2 (
z_onV (va_rf (z_r S b12 x2.toNatClampNeg)) fun b13 =>
z_chk S b13 2 (
if ((z_i S b13 0)) = ((1 : Int32)) then
(z_rb ((1 : Int32)) S)
else
(z_rb ((0 : Int32)) S)))))
else
(z_rb ((0 : Int32)) S))
else
(z_rb ((0 : Int32)) S)))))
def f_X11_boxIs : Nat → Int32 → Int32 → z_St → Option (Int32 × z_St) := z_op (b_X11_boxIs)
theorem e_X11_boxIs (v0 : Nat) (v1 : Int32) (v2 : Int32) (S : z_St) : f_X11_boxIs v0 v1 v2 S = b_X11_boxIs v0 v1 v2 S := congrFun (congrFun (congrFun (congrFun (z_op_eq (b_X11_boxIs)) v0) v1) v2) S
def g_X11_boxIs : z_G := .inl (fun as S => match as with
  | [.ref v0, .int v1, .int v2] => f_X11_boxIs v0 v1 v2 S
  | _ => none)
def c_X11_boxIs : List z_E := [
  (0, .aload_n 0, 1, .null, [], z_g0),
  (1, .getfield 43, 3, .null, [12, 11, 3], z_g0),
  (4, .iload_n 1, 1, .null, [], z_g0),
  (5, .iaload, 1, .null, [101], z_g0),
  (6, .istore_n 3, 1, .null, [], z_g0),
  (7, .aload_n 0, 1, .null, [], z_g0),
  (8, .getfield 39, 3, .null, [12, 10, 3], z_g0),
  (11, .iload_n 1, 1, .null, [], z_g0),
  (12, .iaload, 1, .null, [101], z_g0),
  (13, .tableswitch 168 1 4 #[31, 50, 101, 143], 31, .null, [181, 1, 44, 63, 114, 156], z_g0),
  (44, .aload_n 0, 1, .null, [], z_g0),
  (45, .getfield 11, 3, .null, [12, 0, 3], z_g0),
  (48, .iload_n 3, 1, .null, [], z_g0),
  (49, .aaload, 1, .null, [110], z_g0),
  (50, .getfield 122, 3, .null, [9, 0, 0], z_g0),
  (53, .iload_n 2, 1, .null, [], z_g0),
  (54, .if_icmp .ne 7, 3, .null, [61], z_g0),
  (57, .iconst 1, 1, .int ((1 : Int32)), [], z_g0),
  (58, .goto 4, 3, .null, [62], z_g0),
  (61, .iconst 0, 1, .int ((0 : Int32)), [], z_g0),
  (62, .ireturn, 1, .null, [], z_g0),
  (63, .iload_n 2, 1, .null, [], z_g0),
  (64, .bipush 8, 2, .int ((8 : Int32)), [], z_g0),
  (66, .if_icmp .eq 42, 3, .null, [108], z_g0),
  (69, .iload_n 2, 1, .null, [], z_g0),
  (70, .bipush 9, 2, .int ((9 : Int32)), [], z_g0),
  (72, .if_icmp .ne 17, 3, .null, [89], z_g0),
  (75, .aload_n 0, 1, .null, [], z_g0),
  (76, .getfield 23, 3, .null, [12, 4, 3], z_g0),
  (79, .iload_n 3, 1, .null, [], z_g0),
  (80, .aaload, 1, .null, [112], z_g0),
  (81, .bipush 6, 2, .int ((6 : Int32)), [], z_g0),
  (83, .invokevirtual 514, 3, .null, [1, 10, 0], g_X9_isFor),
  (86, .ifCond .ne 22, 3, .null, [108], z_g0),
  (89, .iload_n 2, 1, .null, [], z_g0),
  (90, .bipush 10, 2, .int ((10 : Int32)), [], z_g0),
  (92, .if_icmp .ne 20, 3, .null, [112], z_g0),
  (95, .aload_n 0, 1, .null, [], z_g0),
  (96, .getfield 23, 3, .null, [12, 4, 3], z_g0),
  (99, .iload_n 3, 1, .null, [], z_g0),
  (100, .aaload, 1, .null, [112], z_g0),
  (101, .iconst 1, 1, .int ((1 : Int32)), [], z_g0),
  (102, .invokevirtual 514, 3, .null, [1, 10, 0], g_X9_isFor),
  (105, .ifCond .eq 7, 3, .null, [112], z_g0),
  (108, .iconst 1, 1, .int ((1 : Int32)), [], z_g0),
  (109, .goto 4, 3, .null, [113], z_g0),
  (112, .iconst 0, 1, .int ((0 : Int32)), [], z_g0),
  (113, .ireturn, 1, .null, [], z_g0),
  (114, .iload_n 2, 1, .null, [], z_g0),
  (115, .bipush 11, 2, .int ((11 : Int32)), [], z_g0),
  (117, .if_icmp .ne 15, 3, .null, [132], z_g0),
  (120, .aload_n 0, 1, .null, [], z_g0),
  (121, .getfield 29, 3, .null, [12, 6, 3], z_g0),
  (124, .iload_n 3, 1, .null, [], z_g0),
  (125, .aaload, 1, .null, [113], z_g0),
  (126, .invokevirtual 523, 3, .null, [1, 8], g_X7_isForReads),
  (129, .ifCond .ne 21, 3, .null, [150], z_g0),
  (132, .iload_n 2, 1, .null, [], z_g0),
  (133, .bipush 12, 2, .int ((12 : Int32)), [], z_g0),
  (135, .if_icmp .ne 19, 3, .null, [154], z_g0),
  (138, .aload_n 0, 1, .null, [], z_g0),
  (139, .getfield 29, 3, .null, [12, 6, 3], z_g0),
  (142, .iload_n 3, 1, .null, [], z_g0),
  (143, .aaload, 1, .null, [113], z_g0),
  (144, .invokevirtual 526, 3, .null, [1, 8], g_X7_isForFloat),
  (147, .ifCond .eq 7, 3, .null, [154], z_g0),
  (150, .iconst 1, 1, .int ((1 : Int32)), [], z_g0),
  (151, .goto 4, 3, .null, [155], z_g0),
  (154, .iconst 0, 1, .int ((0 : Int32)), [], z_g0),
  (155, .ireturn, 1, .null, [], z_g0),
  (156, .iload_n 2, 1, .null, [], z_g0),
  (157, .bipush 13, 2, .int ((13 : Int32)), [], z_g0),
  (159, .if_icmp .ne 20, 3, .null, [179], z_g0),
  (162, .aload_n 0, 1, .null, [], z_g0),
  (163, .getfield 17, 3, .null, [12, 2, 3], z_g0),
  (166, .iload_n 3, 1, .null, [], z_g0),
  (167, .aaload, 1, .null, [111], z_g0),
  (168, .getfield 182, 3, .null, [2, 0, 0], z_g0),
  (171, .iconst 1, 1, .int ((1 : Int32)), [], z_g0),
  (172, .if_icmp .ne 7, 3, .null, [179], z_g0),
  (175, .iconst 1, 1, .int ((1 : Int32)), [], z_g0),
  (176, .goto 4, 3, .null, [180], z_g0),
  (179, .iconst 0, 1, .int ((0 : Int32)), [], z_g0),
  (180, .ireturn, 1, .null, [], z_g0),
  (181, .iconst 0, 1, .int ((0 : Int32)), [], z_g0),
  (182, .ireturn, 1, .null, [], z_g0)]
def a_X11_boxIs_89 {ρ : Type} (k : Nat → Int32 → Int32 → z_St → Option ρ) (ls : z_Lv) (st : List Value) (S : z_St) : Option ρ := z_gR ls 0 fun v0 => z_gI ls 2 fun v2 => z_gI ls 3 fun v3 => z_p0 st (k v0 v2 v3 S)
def a_X11_boxIs_132 {ρ : Type} (k : Nat → Int32 → Int32 → z_St → Option ρ) (ls : z_Lv) (st : List Value) (S : z_St) : Option ρ := z_gR ls 0 fun v0 => z_gI ls 2 fun v2 => z_gI ls 3 fun v3 => z_p0 st (k v0 v2 v3 S)
set_option maxRecDepth 100000 in
theorem r_X11_boxIs_132 (v0 : Nat) (v2 : Int32) (v3 : Int32) (S : z_St) : z_seg z_rZ (c_X11_boxIs) [89, 132] (fun pc => fun _ _ _ => none) 89 (z_to 132 (c_X11_boxIs)) [(0, .ref v0), (2, .int v2), (3, .int v3)] [] S = j_X11_boxIs_132 v0 v2 v3 S := rfl
set_option maxRecDepth 100000 in
theorem r_X11_boxIs_89 (v0 : Nat) (v2 : Int32) (v3 : Int32) (S : z_St) : z_seg z_rZ (c_X11_boxIs) [89, 132] (fun pc => fun _ _ _ => none) 89 (z_to 89 (c_X11_boxIs)) [(0, .ref v0), (2, .int v2), (3, .int v3)] [] S = j_X11_boxIs_89 v0 v2 v3 S := rfl
set_option maxRecDepth 100000 in
theorem r_X11_boxIs (v0 : Nat) (v1 : Int32) (v2 : Int32) (S : z_St) : z_seg z_rZ (c_X11_boxIs) [89, 132] (fun pc => cond (Nat.beq pc 89) (a_X11_boxIs_89 (j_X11_boxIs_89)) (cond (Nat.beq pc 132) (a_X11_boxIs_132 (j_X11_boxIs_132)) (fun _ _ _ => none))) 89 (c_X11_boxIs) [(0, .ref v0), (1, .int v1), (2, .int v2)] [] S = b_X11_boxIs v0 v1 v2 S := rfl
def b_X11_isA (v0 : Nat) (v1 : Int32) (v2 : Int32) (S : z_St) : Option (Int32 × z_St) :=
(f_X11_outOf v1 ((0 : Int32)) ((9 : Int32)) S).bind fun q1 =>
if q1.1 = 0 then
((f_X11_outOf v2 ((0 : Int32)) ((13 : Int32)) q1.2).bind fun q2 =>
if q2.1 = 0 then
(z_chk q2.2 v0 12 (
(f_X11_boxIs v0 v1 v2 q2.2).bind fun q3 =>
if q3.1 = 0 then
(some ((0 : Int32), q3.2))
else
(some ((1 : Int32), q3.2))))
else
(some ((-2000000002 : Int32), q2.2)))
else
(some ((-2000000001 : Int32), q1.2))
def f_X11_isA : Nat → Int32 → Int32 → z_St → Option (Int32 × z_St) := z_op (b_X11_isA)
theorem e_X11_isA (v0 : Nat) (v1 : Int32) (v2 : Int32) (S : z_St) : f_X11_isA v0 v1 v2 S = b_X11_isA v0 v1 v2 S := congrFun (congrFun (congrFun (congrFun (z_op_eq (b_X11_isA)) v0) v1) v2) S
def g_X11_isA : z_G := .inl (fun as S => match as with
  | [.ref v0, .int v1, .int v2] => f_X11_isA v0 v1 v2 S
  | _ => none)
def c_X11_isA : List z_E := [
  (0, .iload_n 1, 1, .null, [], z_g0),
  (1, .iconst 0, 1, .int ((0 : Int32)), [], z_g0),
  (2, .bipush 9, 2, .int ((9 : Int32)), [], z_g0),
  (4, .invokestatic 81, 3, .null, [0, 0, 0, 0], g_X11_outOf),
  (7, .ifCond .eq 6, 3, .null, [13], z_g0),
  (10, .ldc 109, 2, .int (-2000000001 : Int32), [], z_g0),
  (12, .ireturn, 1, .null, [], z_g0),
  (13, .iload_n 2, 1, .null, [], z_g0),
  (14, .iconst 0, 1, .int ((0 : Int32)), [], z_g0),
  (15, .bipush 13, 2, .int ((13 : Int32)), [], z_g0),
  (17, .invokestatic 81, 3, .null, [0, 0, 0, 0], g_X11_outOf),
  (20, .ifCond .eq 6, 3, .null, [26], z_g0),
  (23, .ldc 85, 2, .int (-2000000002 : Int32), [], z_g0),
  (25, .ireturn, 1, .null, [], z_g0),
  (26, .aload_n 0, 1, .null, [], z_g0),
  (27, .iload_n 1, 1, .null, [], z_g0),
  (28, .iload_n 2, 1, .null, [], z_g0),
  (29, .invokevirtual 218, 3, .null, [1, 12, 0, 0], g_X11_boxIs),
  (32, .ifCond .eq 7, 3, .null, [39], z_g0),
  (35, .iconst 1, 1, .int ((1 : Int32)), [], z_g0),
  (36, .goto 4, 3, .null, [40], z_g0),
  (39, .iconst 0, 1, .int ((0 : Int32)), [], z_g0),
  (40, .ireturn, 1, .null, [], z_g0)]
set_option maxRecDepth 100000 in
theorem r_X11_isA (v0 : Nat) (v1 : Int32) (v2 : Int32) (S : z_St) : z_seg z_rI (c_X11_isA) [] (fun pc => fun _ _ _ => none) 26 (c_X11_isA) [(0, .ref v0), (1, .int v1), (2, .int v2)] [] S = b_X11_isA v0 v1 v2 S := rfl
def b_X11_boxLength (v0 : Nat) (v1 : Int32) (S : z_St) : Option (Int32 × z_St) :=
z_chk S v0 12 (
z_onV (va_rf (z_r S v0 11)) fun b1 =>
z_inb S b1 101 v1 (
let x2 := (z_i S b1 v1.toNatClampNeg)
z_chk S v0 12 (
z_onV (va_rf (z_r S v0 10)) fun b3 =>
z_inb S b3 101 v1 (
if ((z_i S b3 v1.toNatClampNeg)) = (1 : Int32) then
(z_chk S v0 12 (
z_onV (va_rf (z_r S v0 0)) fun b4 =>
z_inb S b4 110 x2 (
z_onV (va_rf (z_r S b4 x2.toNatClampNeg)) fun b5 =>
z_chk S b5 9 (
z_onV (va_rf (z_r S b5 1)) fun b6 =>
z_chk S b6 102 (
some (Int32.ofNat (z_n S b6), S))))))
else
if ((z_i S b3 v1.toNatClampNeg)) = (3 : Int32) then
(z_chk S v0 12 (
z_onV (va_rf (z_r S v0 6)) fun b7 =>
z_inb S b7 113 x2 (
z_onV (va_rf (z_r S b7 x2.toNatClampNeg)) fun b8 =>
z_chk S b8 8 (
z_onV (va_rf (z_r S b8 1)) fun b9 =>
z_chk S b9 101 (
some (Int32.ofNat (z_n S b9), S))))))
else
(z_chk S v0 12 (
z_onV (va_rf (z_r S v0 2)) fun b10 =>
z_inb S b10 111 x2 (
z_onV (va_rf (z_r S b10 x2.toNatClampNeg)) fun b11 =>
z_chk S b11 2 (
z_onV (va_rf (z_r S b11 1)) fun b12 =>
z_chk S b12 110 (
some (Int32.ofNat (z_n S b12), S))))))))))
def f_X11_boxLength : Nat → Int32 → z_St → Option (Int32 × z_St) := z_op (b_X11_boxLength)
theorem e_X11_boxLength (v0 : Nat) (v1 : Int32) (S : z_St) : f_X11_boxLength v0 v1 S = b_X11_boxLength v0 v1 S := congrFun (congrFun (congrFun (z_op_eq (b_X11_boxLength)) v0) v1) S
def g_X11_boxLength : z_G := .inl (fun as S => match as with
  | [.ref v0, .int v1] => f_X11_boxLength v0 v1 S
  | _ => none)
def c_X11_boxLength : List z_E := [
  (0, .aload_n 0, 1, .null, [], z_g0),
  (1, .getfield 43, 3, .null, [12, 11, 3], z_g0),
  (4, .iload_n 1, 1, .null, [], z_g0),
  (5, .iaload, 1, .null, [101], z_g0),
  (6, .istore_n 2, 1, .null, [], z_g0),
  (7, .aload_n 0, 1, .null, [], z_g0),
  (8, .getfield 39, 3, .null, [12, 10, 3], z_g0),
  (11, .iload_n 1, 1, .null, [], z_g0),
  (12, .iaload, 1, .null, [101], z_g0),
  (13, .lookupswitch 49 #[(1, 27), (3, 38)], 27, .null, [62, 1, 40, 3, 51], z_g0),
  (40, .aload_n 0, 1, .null, [], z_g0),
  (41, .getfield 11, 3, .null, [12, 0, 3], z_g0),
  (44, .iload_n 2, 1, .null, [], z_g0),
  (45, .aaload, 1, .null, [110], z_g0),
  (46, .getfield 118, 3, .null, [9, 1, 3], z_g0),
  (49, .arraylength, 1, .null, [102], z_g0),
  (50, .ireturn, 1, .null, [], z_g0),
  (51, .aload_n 0, 1, .null, [], z_g0),
  (52, .getfield 29, 3, .null, [12, 6, 3], z_g0),
  (55, .iload_n 2, 1, .null, [], z_g0),
  (56, .aaload, 1, .null, [113], z_g0),
  (57, .getfield 209, 3, .null, [8, 1, 3], z_g0),
  (60, .arraylength, 1, .null, [101], z_g0),
  (61, .ireturn, 1, .null, [], z_g0),
  (62, .aload_n 0, 1, .null, [], z_g0),
  (63, .getfield 17, 3, .null, [12, 2, 3], z_g0),
  (66, .iload_n 2, 1, .null, [], z_g0),
  (67, .aaload, 1, .null, [111], z_g0),
  (68, .getfield 179, 3, .null, [2, 1, 3], z_g0),
  (71, .arraylength, 1, .null, [110], z_g0),
  (72, .ireturn, 1, .null, [], z_g0)]
set_option maxRecDepth 100000 in
theorem r_X11_boxLength (v0 : Nat) (v1 : Int32) (S : z_St) : z_seg z_rI (c_X11_boxLength) [] (fun pc => fun _ _ _ => none) 34 (c_X11_boxLength) [(0, .ref v0), (1, .int v1)] [] S = b_X11_boxLength v0 v1 S := rfl
def b_X11_taken (v0 : Nat) (v1 : Int32) (v2 : Int32) (S : z_St) : Option (Int32 × z_St) :=
(f_X11_outOf v1 ((0 : Int32)) ((9 : Int32)) S).bind fun q1 =>
if q1.1 = 0 then
((f_X11_outOf v2 ((0 : Int32)) ((13 : Int32)) q1.2).bind fun q2 =>
if q2.1 = 0 then
(z_chk q2.2 v0 12 (
z_onV (va_rf (z_r q2.2 v0 10)) fun b3 =>
z_inb q2.2 b3 101 v1 (
if ((z_i q2.2 b3 v1.toNatClampNeg)) = 0 then
(z_chk q2.2 v0 12 (
(f_X11_passes v0 ((-1 : Int32)) q2.2).bind fun q11 =>
some (q11.1, q11.2)))
else
(z_chk q2.2 v0 12 (
(f_X11_boxIs v0 v1 v2 q2.2).bind fun q4 =>
if q4.1 = 0 then
(z_chk q4.2 v0 12 (
(f_X11_fails v0 ((4 : Int32)) q4.2).bind fun q10 =>
some (q10.1, q10.2)))
else
(z_chk q4.2 v0 12 (
z_onV (va_rf (z_r q4.2 v0 10)) fun b5 =>
z_inb q4.2 b5 101 v1 (
if ((z_i q4.2 b5 v1.toNatClampNeg)) = ((2 : Int32)) then
(z_chk q4.2 v0 12 (
z_onV (va_rf (z_r q4.2 v0 11)) fun b8 =>
z_inb q4.2 b8 101 v1 (
z_chk q4.2 v0 12 (
(f_X11_passes v0 ((z_i q4.2 b8 v1.toNatClampNeg)) q4.2).bind fun q9 =>
some (q9.1, q9.2)))))
else
(z_chk q4.2 v0 12 (
(f_X11_boxLength v0 v1 q4.2).bind fun q6 =>
z_chk q6.2 v0 12 (
(f_X11_passes v0 q6.1 q6.2).bind fun q7 =>
some (q7.1, q7.2))))))))))))
else
(some ((-2000000002 : Int32), q2.2)))
else
(some ((-2000000001 : Int32), q1.2))
def f_X11_taken : Nat → Int32 → Int32 → z_St → Option (Int32 × z_St) := z_op (b_X11_taken)
theorem e_X11_taken (v0 : Nat) (v1 : Int32) (v2 : Int32) (S : z_St) : f_X11_taken v0 v1 v2 S = b_X11_taken v0 v1 v2 S := congrFun (congrFun (congrFun (congrFun (z_op_eq (b_X11_taken)) v0) v1) v2) S
def g_X11_taken : z_G := .inl (fun as S => match as with
  | [.ref v0, .int v1, .int v2] => f_X11_taken v0 v1 v2 S
  | _ => none)
def c_X11_taken : List z_E := [
  (0, .iload_n 1, 1, .null, [], z_g0),
  (1, .iconst 0, 1, .int ((0 : Int32)), [], z_g0),
  (2, .bipush 9, 2, .int ((9 : Int32)), [], z_g0),
  (4, .invokestatic 81, 3, .null, [0, 0, 0, 0], g_X11_outOf),
  (7, .ifCond .eq 6, 3, .null, [13], z_g0),
  (10, .ldc 109, 2, .int (-2000000001 : Int32), [], z_g0),
  (12, .ireturn, 1, .null, [], z_g0),
  (13, .iload_n 2, 1, .null, [], z_g0),
  (14, .iconst 0, 1, .int ((0 : Int32)), [], z_g0),
  (15, .bipush 13, 2, .int ((13 : Int32)), [], z_g0),
  (17, .invokestatic 81, 3, .null, [0, 0, 0, 0], g_X11_outOf),
  (20, .ifCond .eq 6, 3, .null, [26], z_g0),
  (23, .ldc 85, 2, .int (-2000000002 : Int32), [], z_g0),
  (25, .ireturn, 1, .null, [], z_g0),
  (26, .aload_n 0, 1, .null, [], z_g0),
  (27, .getfield 39, 3, .null, [12, 10, 3], z_g0),
  (30, .iload_n 1, 1, .null, [], z_g0),
  (31, .iaload, 1, .null, [101], z_g0),
  (32, .ifCond .ne 9, 3, .null, [41], z_g0),
  (35, .aload_n 0, 1, .null, [], z_g0),
  (36, .iconst (-1), 1, .int ((-1 : Int32)), [], z_g0),
  (37, .invokevirtual 102, 3, .null, [1, 12, 0], g_X11_passes),
  (40, .ireturn, 1, .null, [], z_g0),
  (41, .aload_n 0, 1, .null, [], z_g0),
  (42, .iload_n 1, 1, .null, [], z_g0),
  (43, .iload_n 2, 1, .null, [], z_g0),
  (44, .invokevirtual 218, 3, .null, [1, 12, 0, 0], g_X11_boxIs),
  (47, .ifCond .ne 9, 3, .null, [56], z_g0),
  (50, .aload_n 0, 1, .null, [], z_g0),
  (51, .iconst 4, 1, .int ((4 : Int32)), [], z_g0),
  (52, .invokevirtual 91, 3, .null, [1, 12, 0], g_X11_fails),
  (55, .ireturn, 1, .null, [], z_g0),
  (56, .aload_n 0, 1, .null, [], z_g0),
  (57, .aload_n 0, 1, .null, [], z_g0),
  (58, .getfield 39, 3, .null, [12, 10, 3], z_g0),
  (61, .iload_n 1, 1, .null, [], z_g0),
  (62, .iaload, 1, .null, [101], z_g0),
  (63, .iconst 2, 1, .int ((2 : Int32)), [], z_g0),
  (64, .if_icmp .ne 12, 3, .null, [76], z_g0),
  (67, .aload_n 0, 1, .null, [], z_g0),
  (68, .getfield 43, 3, .null, [12, 11, 3], z_g0),
  (71, .iload_n 1, 1, .null, [], z_g0),
  (72, .iaload, 1, .null, [101], z_g0),
  (73, .goto 8, 3, .null, [81], z_g0),
  (76, .aload_n 0, 1, .null, [], z_g0),
  (77, .iload_n 1, 1, .null, [], z_g0),
  (78, .invokevirtual 221, 3, .null, [1, 12, 0], g_X11_boxLength),
  (81, .invokevirtual 102, 3, .null, [1, 12, 0], g_X11_passes),
  (84, .ireturn, 1, .null, [], z_g0)]
set_option maxRecDepth 100000 in
theorem r_X11_taken (v0 : Nat) (v1 : Int32) (v2 : Int32) (S : z_St) : z_seg z_rI (c_X11_taken) [] (fun pc => fun _ _ _ => none) 52 (c_X11_taken) [(0, .ref v0), (1, .int v1), (2, .int v2)] [] S = b_X11_taken v0 v1 v2 S := rfl
def b_X11_used (v0 : Nat) (v1 : Int32) (S : z_St) : Option (Int32 × z_St) :=
(f_X11_outOf v1 ((0 : Int32)) ((9 : Int32)) S).bind fun q1 =>
if q1.1 = 0 then
(z_chk q1.2 v0 12 (
z_onV (va_rf (z_r q1.2 v0 10)) fun b2 =>
z_inb q1.2 b2 101 v1 (
if ((z_i q1.2 b2 v1.toNatClampNeg)) = 0 then
(z_chk q1.2 v0 12 (
(f_X11_fails v0 ((1 : Int32)) q1.2).bind fun q11 =>
some (q11.1, q11.2)))
else
(z_chk q1.2 v0 12 (
z_onV (va_rf (z_r q1.2 v0 10)) fun b3 =>
z_inb q1.2 b3 101 v1 (
if ((z_i q1.2 b3 v1.toNatClampNeg)) = ((2 : Int32)) then
(z_chk q1.2 v0 12 (
z_chk q1.2 v0 12 (
z_onV (va_rf (z_r q1.2 v0 11)) fun b6 =>
z_inb q1.2 b6 101 v1 (
z_onV (va_rf (z_r q1.2 v0 4)) fun b7 =>
z_inb q1.2 b7 112 ((z_i q1.2 b6 v1.toNatClampNeg)) (
z_onV (va_rf (z_r q1.2 b7 ((z_i q1.2 b6 v1.toNatClampNeg)).toNatClampNeg)) fun b8 =>
z_chk q1.2 b8 10 (
(f_X9_weight b8 q1.2).bind fun q9 =>
z_chk q9.2 v0 12 (
(f_X11_passes v0 q9.1 q9.2).bind fun q10 =>
some (q10.1, q10.2))))))))
else
(z_chk q1.2 v0 12 (
(f_X11_boxLength v0 v1 q1.2).bind fun q4 =>
z_chk q4.2 v0 12 (
(f_X11_passes v0 q4.1 q4.2).bind fun q5 =>
some (q5.1, q5.2))))))))))
else
(some ((-2000000001 : Int32), q1.2))
def f_X11_used : Nat → Int32 → z_St → Option (Int32 × z_St) := z_op (b_X11_used)
theorem e_X11_used (v0 : Nat) (v1 : Int32) (S : z_St) : f_X11_used v0 v1 S = b_X11_used v0 v1 S := congrFun (congrFun (congrFun (z_op_eq (b_X11_used)) v0) v1) S
def g_X11_used : z_G := .inl (fun as S => match as with
  | [.ref v0, .int v1] => f_X11_used v0 v1 S
  | _ => none)
def c_X11_used : List z_E := [
  (0, .iload_n 1, 1, .null, [], z_g0),
  (1, .iconst 0, 1, .int ((0 : Int32)), [], z_g0),
  (2, .bipush 9, 2, .int ((9 : Int32)), [], z_g0),
  (4, .invokestatic 81, 3, .null, [0, 0, 0, 0], g_X11_outOf),
  (7, .ifCond .eq 6, 3, .null, [13], z_g0),
  (10, .ldc 109, 2, .int (-2000000001 : Int32), [], z_g0),
  (12, .ireturn, 1, .null, [], z_g0),
  (13, .aload_n 0, 1, .null, [], z_g0),
  (14, .getfield 39, 3, .null, [12, 10, 3], z_g0),
  (17, .iload_n 1, 1, .null, [], z_g0),
  (18, .iaload, 1, .null, [101], z_g0),
  (19, .ifCond .ne 9, 3, .null, [28], z_g0),
  (22, .aload_n 0, 1, .null, [], z_g0),
  (23, .iconst 1, 1, .int ((1 : Int32)), [], z_g0),
  (24, .invokevirtual 91, 3, .null, [1, 12, 0], g_X11_fails),
  (27, .ireturn, 1, .null, [], z_g0),
  (28, .aload_n 0, 1, .null, [], z_g0),
  (29, .aload_n 0, 1, .null, [], z_g0),
  (30, .getfield 39, 3, .null, [12, 10, 3], z_g0),
  (33, .iload_n 1, 1, .null, [], z_g0),
  (34, .iaload, 1, .null, [101], z_g0),
  (35, .iconst 2, 1, .int ((2 : Int32)), [], z_g0),
  (36, .if_icmp .ne 20, 3, .null, [56], z_g0),
  (39, .aload_n 0, 1, .null, [], z_g0),
  (40, .getfield 23, 3, .null, [12, 4, 3], z_g0),
  (43, .aload_n 0, 1, .null, [], z_g0),
  (44, .getfield 43, 3, .null, [12, 11, 3], z_g0),
  (47, .iload_n 1, 1, .null, [], z_g0),
  (48, .iaload, 1, .null, [101], z_g0),
  (49, .aaload, 1, .null, [112], z_g0),
  (50, .invokevirtual 224, 3, .null, [1, 10], g_X9_weight),
  (53, .goto 8, 3, .null, [61], z_g0),
  (56, .aload_n 0, 1, .null, [], z_g0),
  (57, .iload_n 1, 1, .null, [], z_g0),
  (58, .invokevirtual 221, 3, .null, [1, 12, 0], g_X11_boxLength),
  (61, .invokevirtual 102, 3, .null, [1, 12, 0], g_X11_passes),
  (64, .ireturn, 1, .null, [], z_g0)]
set_option maxRecDepth 100000 in
theorem r_X11_used (v0 : Nat) (v1 : Int32) (S : z_St) : z_seg z_rI (c_X11_used) [] (fun pc => fun _ _ _ => none) 40 (c_X11_used) [(0, .ref v0), (1, .int v1)] [] S = b_X11_used v0 v1 S := rfl
def b_X11_keepCard (v0 : Nat) (v1 : Nat) (S : z_St) : Option (Int32 × z_St) :=
z_chk S v0 12 (
z_chk S v0 12 (
z_onV (va_rf (z_r S v0 8)) fun b1 =>
z_inb S b1 114 ((z_i S v0 9)) (
z_chk S v1 4 (
let S2 := z_wr S b1 ((z_i S v0 9)).toNatClampNeg (some v1)
z_chk S2 v0 12 (
z_chk S2 v0 12 (
let S3 := z_wi S2 v0 9 (((z_i S2 v0 9)) + ((1 : Int32)))
z_chk S3 v0 12 (
some (((z_i S3 v0 9)) - ((1 : Int32)), S3))))))))
def f_X11_keepCard : Nat → Nat → z_St → Option (Int32 × z_St) := z_op (b_X11_keepCard)
theorem e_X11_keepCard (v0 : Nat) (v1 : Nat) (S : z_St) : f_X11_keepCard v0 v1 S = b_X11_keepCard v0 v1 S := congrFun (congrFun (congrFun (z_op_eq (b_X11_keepCard)) v0) v1) S
def g_X11_keepCard : z_G := .inl (fun as S => match as with
  | [.ref v0, .ref v1] => f_X11_keepCard v0 v1 S
  | _ => none)
def c_X11_keepCard : List z_E := [
  (0, .aload_n 0, 1, .null, [], z_g0),
  (1, .getfield 35, 3, .null, [12, 8, 3], z_g0),
  (4, .aload_n 0, 1, .null, [], z_g0),
  (5, .getfield 227, 3, .null, [12, 9, 0], z_g0),
  (8, .aload_n 1, 1, .null, [], z_g0),
  (9, .aastore, 1, .null, [114, 4], z_g0),
  (10, .aload_n 0, 1, .null, [], z_g0),
  (11, .dup, 1, .null, [], z_g0),
  (12, .getfield 227, 3, .null, [12, 9, 0], z_g0),
  (15, .iconst 1, 1, .int ((1 : Int32)), [], z_g0),
  (16, .iadd, 1, .null, [], z_g0),
  (17, .putfield 227, 3, .null, [12, 9, 0], z_g0),
  (20, .aload_n 0, 1, .null, [], z_g0),
  (21, .getfield 227, 3, .null, [12, 9, 0], z_g0),
  (24, .iconst 1, 1, .int ((1 : Int32)), [], z_g0),
  (25, .isub, 1, .null, [], z_g0),
  (26, .ireturn, 1, .null, [], z_g0)]
set_option maxRecDepth 100000 in
theorem r_X11_keepCard (v0 : Nat) (v1 : Nat) (S : z_St) : z_seg z_rI (c_X11_keepCard) [] (fun pc => fun _ _ _ => none) 20 (c_X11_keepCard) [(0, .ref v0), (1, .ref v1)] [] S = b_X11_keepCard v0 v1 S := rfl
def b_X11_card (v0 : Nat) (S : z_St) : Option (Int32 × z_St) :=
z_chk S v0 12 (
if ((z_i S v0 9)) < ((20 : Int32)) then
(let a1 := z_x S
let S2 := z_new S 4 3
z_chk S2 a1 4 (
(f_X3_init a1 S2).bind fun q3 =>
z_chk q3 v0 12 (
(f_X11_keepCard v0 a1 q3).bind fun q4 =>
some (q4.1, q4.2))))
else
(some ((-2000000004 : Int32), S)))
def f_X11_card : Nat → z_St → Option (Int32 × z_St) := z_op (b_X11_card)
theorem e_X11_card (v0 : Nat) (S : z_St) : f_X11_card v0 S = b_X11_card v0 S := congrFun (congrFun (z_op_eq (b_X11_card)) v0) S
def g_X11_card : z_G := .inl (fun as S => match as with
  | [.ref v0] => f_X11_card v0 S
  | _ => none)
def c_X11_card : List z_E := [
  (0, .aload_n 0, 1, .null, [], z_g0),
  (1, .getfield 227, 3, .null, [12, 9, 0], z_g0),
  (4, .bipush 20, 2, .int ((20 : Int32)), [], z_g0),
  (6, .if_icmp .lt 6, 3, .null, [12], z_g0),
  (9, .ldc 90, 2, .int (-2000000004 : Int32), [], z_g0),
  (11, .ireturn, 1, .null, [], z_g0),
  (12, .aload_n 0, 1, .null, [], z_g0),
  (13, .new 33, 3, .null, [4, 3], z_g0),
  (16, .dup, 1, .null, [], z_g0),
  (17, .invokespecial 230, 3, .null, [1, 4], g_X3_init),
  (20, .invokevirtual 231, 3, .null, [1, 12, 1], g_X11_keepCard),
  (23, .ireturn, 1, .null, [], z_g0)]
set_option maxRecDepth 100000 in
theorem r_X11_card (v0 : Nat) (S : z_St) : z_seg z_rI (c_X11_card) [] (fun pc => fun _ _ _ => none) 15 (c_X11_card) [(0, .ref v0)] [] S = b_X11_card v0 S := rfl
def b_X11_field (v0 : Nat) (v1 : Int32) (v2 : Int32) (v3 : Int64) (S : z_St) : Option (Int32 × z_St) :=
z_chk S v0 12 (
(f_X11_nameless v1 ((z_i S v0 9)) S).bind fun q1 =>
if q1.1 = 0 then
((f_X11_outOf v2 ((0 : Int32)) ((7 : Int32)) q1.2).bind fun q2 =>
if q2.1 = 0 then
(if v1 = ((-1 : Int32)) then
(z_chk q2.2 v0 12 (
(f_X11_fails v0 ((1 : Int32)) q2.2).bind fun q9 =>
some (q9.1, q9.2)))
else
(z_chk q2.2 v0 12 (
z_onV (va_rf (z_r q2.2 v0 8)) fun b3 =>
z_inb q2.2 b3 114 v1 (
z_onV (va_rf (z_r q2.2 b3 v1.toNatClampNeg)) fun b4 =>
z_chk q2.2 b4 4 (
z_inb q2.2 (z_s q2.2 1) 121 v2 (
(f_X8_cellOfWhole ((z_i q2.2 (z_s q2.2 1) v2.toNatClampNeg)) v3 q2.2).bind fun q5 =>
z_onV (va_rf (z_r q2.2 b4 0)) fun b6 =>
z_inb q5.2 b6 102 v2 (
let S7 := z_wl q5.2 b6 v2.toNatClampNeg q5.1
z_chk S7 v0 12 (
(f_X11_passes v0 ((1 : Int32)) S7).bind fun q8 =>
some (q8.1, q8.2)))))))))
else
(some ((-2000000002 : Int32), q2.2)))
else
(some ((-2000000001 : Int32), q1.2)))
def f_X11_field : Nat → Int32 → Int32 → Int64 → z_St → Option (Int32 × z_St) := z_op (b_X11_field)
theorem e_X11_field (v0 : Nat) (v1 : Int32) (v2 : Int32) (v3 : Int64) (S : z_St) : f_X11_field v0 v1 v2 v3 S = b_X11_field v0 v1 v2 v3 S := congrFun (congrFun (congrFun (congrFun (congrFun (z_op_eq (b_X11_field)) v0) v1) v2) v3) S
def g_X11_field : z_G := .inl (fun as S => match as with
  | [.ref v0, .int v1, .int v2, .long v3] => f_X11_field v0 v1 v2 v3 S
  | _ => none)
def c_X11_field : List z_E := [
  (0, .iload_n 1, 1, .null, [], z_g0),
  (1, .aload_n 0, 1, .null, [], z_g0),
  (2, .getfield 227, 3, .null, [12, 9, 0], z_g0),
  (5, .invokestatic 105, 3, .null, [0, 0, 0], g_X11_nameless),
  (8, .ifCond .eq 6, 3, .null, [14], z_g0),
  (11, .ldc 109, 2, .int (-2000000001 : Int32), [], z_g0),
  (13, .ireturn, 1, .null, [], z_g0),
  (14, .iload_n 2, 1, .null, [], z_g0),
  (15, .iconst 0, 1, .int ((0 : Int32)), [], z_g0),
  (16, .bipush 7, 2, .int ((7 : Int32)), [], z_g0),
  (18, .invokestatic 81, 3, .null, [0, 0, 0, 0], g_X11_outOf),
  (21, .ifCond .eq 6, 3, .null, [27], z_g0),
  (24, .ldc 85, 2, .int (-2000000002 : Int32), [], z_g0),
  (26, .ireturn, 1, .null, [], z_g0),
  (27, .iload_n 1, 1, .null, [], z_g0),
  (28, .iconst (-1), 1, .int ((-1 : Int32)), [], z_g0),
  (29, .if_icmp .ne 9, 3, .null, [38], z_g0),
  (32, .aload_n 0, 1, .null, [], z_g0),
  (33, .iconst 1, 1, .int ((1 : Int32)), [], z_g0),
  (34, .invokevirtual 91, 3, .null, [1, 12, 0], g_X11_fails),
  (37, .ireturn, 1, .null, [], z_g0),
  (38, .aload_n 0, 1, .null, [], z_g0),
  (39, .getfield 35, 3, .null, [12, 8, 3], z_g0),
  (42, .iload_n 1, 1, .null, [], z_g0),
  (43, .aaload, 1, .null, [114], z_g0),
  (44, .getfield 235, 3, .null, [4, 0, 3], z_g0),
  (47, .iload_n 2, 1, .null, [], z_g0),
  (48, .getstatic 238, 3, .null, [1], z_g0),
  (51, .iload_n 2, 1, .null, [], z_g0),
  (52, .iaload, 1, .null, [121], z_g0),
  (53, .lload_n 3, 1, .null, [], z_g0),
  (54, .invokestatic 241, 3, .null, [0, 0, 0], g_X8_cellOfWhole),
  (57, .lastore, 1, .null, [], z_g0),
  (58, .aload_n 0, 1, .null, [], z_g0),
  (59, .iconst 1, 1, .int ((1 : Int32)), [], z_g0),
  (60, .invokevirtual 102, 3, .null, [1, 12, 0], g_X11_passes),
  (63, .ireturn, 1, .null, [], z_g0)]
set_option maxRecDepth 100000 in
theorem r_X11_field (v0 : Nat) (v1 : Int32) (v2 : Int32) (v3 : Int64) (S : z_St) : z_seg z_rI (c_X11_field) [] (fun pc => fun _ _ _ => none) 40 (c_X11_field) [(0, .ref v0), (1, .int v1), (2, .int v2), (3, .long v3)] [] S = b_X11_field v0 v1 v2 v3 S := rfl
def b_X11_fieldOf (v0 : Nat) (v1 : Int32) (v2 : Int32) (S : z_St) : Option (Int64 × z_St) :=
z_chk S v0 12 (
(f_X11_nameless v1 ((z_i S v0 9)) S).bind fun q1 =>
if q1.1 = 0 then
((f_X11_outOf v2 ((0 : Int32)) ((7 : Int32)) q1.2).bind fun q2 =>
if q2.1 = 0 then
(if v1 = ((-1 : Int32)) then
(z_chk q2.2 v0 12 (
(f_X11_fails v0 ((1 : Int32)) q2.2).bind fun q7 =>
some (q7.1.toInt64, q7.2)))
else
(z_chk q2.2 v0 12 (
z_onV (va_rf (z_r q2.2 v0 8)) fun b3 =>
z_inb q2.2 b3 114 v1 (
z_onV (va_rf (z_r q2.2 b3 v1.toNatClampNeg)) fun b4 =>
z_chk q2.2 b4 4 (
(f_X3_wholeAt b4 v2 q2.2).bind fun q5 =>
z_chk q5.2 v0 12 (
(f_X11_passesLong v0 q5.1 q5.2).bind fun q6 =>
some (q6.1, q6.2)))))))
else
(some ((-2000000002 : Int64), q2.2)))
else
(some ((-2000000001 : Int64), q1.2)))
def f_X11_fieldOf : Nat → Int32 → Int32 → z_St → Option (Int64 × z_St) := z_op (b_X11_fieldOf)
theorem e_X11_fieldOf (v0 : Nat) (v1 : Int32) (v2 : Int32) (S : z_St) : f_X11_fieldOf v0 v1 v2 S = b_X11_fieldOf v0 v1 v2 S := congrFun (congrFun (congrFun (congrFun (z_op_eq (b_X11_fieldOf)) v0) v1) v2) S
def g_X11_fieldOf : z_G := .inr (.inl (fun as S => match as with
  | [.ref v0, .int v1, .int v2] => f_X11_fieldOf v0 v1 v2 S
  | _ => none))
def c_X11_fieldOf : List z_E := [
  (0, .iload_n 1, 1, .null, [], z_g0),
  (1, .aload_n 0, 1, .null, [], z_g0),
  (2, .getfield 227, 3, .null, [12, 9, 0], z_g0),
  (5, .invokestatic 105, 3, .null, [0, 0, 0], g_X11_nameless),
  (8, .ifCond .eq 7, 3, .null, [15], z_g0),
  (11, .ldc2_w 129, 3, .long (-2000000001 : Int64), [], z_g0),
  (14, .lreturn, 1, .null, [], z_g0),
  (15, .iload_n 2, 1, .null, [], z_g0),
  (16, .iconst 0, 1, .int ((0 : Int32)), [], z_g0),
  (17, .bipush 7, 2, .int ((7 : Int32)), [], z_g0),
  (19, .invokestatic 81, 3, .null, [0, 0, 0, 0], g_X11_outOf),
  (22, .ifCond .eq 7, 3, .null, [29], z_g0),
  (25, .ldc2_w 244, 3, .long (-2000000002 : Int64), [], z_g0),
  (28, .lreturn, 1, .null, [], z_g0),
  (29, .iload_n 1, 1, .null, [], z_g0),
  (30, .iconst (-1), 1, .int ((-1 : Int32)), [], z_g0),
  (31, .if_icmp .ne 10, 3, .null, [41], z_g0),
  (34, .aload_n 0, 1, .null, [], z_g0),
  (35, .iconst 1, 1, .int ((1 : Int32)), [], z_g0),
  (36, .invokevirtual 91, 3, .null, [1, 12, 0], g_X11_fails),
  (39, .i2l, 1, .null, [], z_g0),
  (40, .lreturn, 1, .null, [], z_g0),
  (41, .aload_n 0, 1, .null, [], z_g0),
  (42, .aload_n 0, 1, .null, [], z_g0),
  (43, .getfield 35, 3, .null, [12, 8, 3], z_g0),
  (46, .iload_n 1, 1, .null, [], z_g0),
  (47, .aaload, 1, .null, [114], z_g0),
  (48, .iload_n 2, 1, .null, [], z_g0),
  (49, .invokevirtual 246, 3, .null, [1, 4, 0], g_X3_wholeAt),
  (52, .invokevirtual 135, 3, .null, [1, 12, 0], g_X11_passesLong),
  (55, .lreturn, 1, .null, [], z_g0)]
set_option maxRecDepth 100000 in
theorem r_X11_fieldOf (v0 : Nat) (v1 : Int32) (v2 : Int32) (S : z_St) : z_seg z_rL (c_X11_fieldOf) [] (fun pc => fun _ _ _ => none) 34 (c_X11_fieldOf) [(0, .ref v0), (1, .int v1), (2, .int v2)] [] S = b_X11_fieldOf v0 v1 v2 S := rfl
def b_X11_raiseField (v0 : Nat) (v1 : Int32) (v2 : Int32) (v3 : Int64) (v5 : Int32) (S : z_St) : Option (Int64 × z_St) :=
z_chk S v0 12 (
(f_X11_nameless v1 ((z_i S v0 9)) S).bind fun q1 =>
if q1.1 = 0 then
((f_X11_outOf v2 ((0 : Int32)) ((7 : Int32)) q1.2).bind fun q2 =>
if q2.1 = 0 then
(if v1 = ((-1 : Int32)) then
(z_chk q2.2 v0 12 (
(f_X11_fails v0 ((1 : Int32)) q2.2).bind fun q13 =>
some (q13.1.toInt64, q13.2)))
else
(z_chk q2.2 v0 12 (
z_onV (va_rf (z_r q2.2 v0 8)) fun b3 =>
z_inb q2.2 b3 114 v1 (
z_onV (va_rf (z_r q2.2 b3 v1.toNatClampNeg)) fun b4 =>
z_chk q2.2 b4 4 (
(f_X3_wholeAt b4 v2 q2.2).bind fun q5 =>
z_chk q5.2 b4 4 (
z_inb q5.2 (z_s q5.2 1) 121 v2 (
z_chk q5.2 b4 4 (
z_onV (va_rf (z_r q5.2 b4 0)) fun b6 =>
z_inb q5.2 b6 102 v2 (
(f_X8_cellMore ((z_i q5.2 (z_s q5.2 1) v2.toNatClampNeg)) ((z_l q5.2 b6 v2.toNatClampNeg)) v3 q5.2).bind fun q7 =>
z_onV (va_rf (z_r q5.2 b4 0)) fun b8 =>
z_inb q7.2 b8 102 v2 (
let S9 := z_wl q7.2 b8 v2.toNatClampNeg q7.1
if v5 = 0 then
(z_chk S9 b4 4 (
(f_X3_wholeAt b4 v2 S9).bind fun q10 =>
z_chk q10.2 v0 12 (
(f_X11_passesLong v0 q10.1 q10.2).bind fun q11 =>
some (q11.1, q11.2))))
else
(z_chk S9 v0 12 (
(f_X11_passesLong v0 q5.1 S9).bind fun q12 =>
some (q12.1, q12.2)))))))))))))
else
(some ((-2000000002 : Int64), q2.2)))
else
(some ((-2000000001 : Int64), q1.2)))
def f_X11_raiseField : Nat → Int32 → Int32 → Int64 → Int32 → z_St → Option (Int64 × z_St) := z_op (b_X11_raiseField)
theorem e_X11_raiseField (v0 : Nat) (v1 : Int32) (v2 : Int32) (v3 : Int64) (v5 : Int32) (S : z_St) : f_X11_raiseField v0 v1 v2 v3 v5 S = b_X11_raiseField v0 v1 v2 v3 v5 S := congrFun (congrFun (congrFun (congrFun (congrFun (congrFun (z_op_eq (b_X11_raiseField)) v0) v1) v2) v3) v5) S
def g_X11_raiseField : z_G := .inr (.inl (fun as S => match as with
  | [.ref v0, .int v1, .int v2, .long v3, .int v5] => f_X11_raiseField v0 v1 v2 v3 v5 S
  | _ => none))
def c_X11_raiseField : List z_E := [
  (0, .iload_n 1, 1, .null, [], z_g0),
  (1, .aload_n 0, 1, .null, [], z_g0),
  (2, .getfield 227, 3, .null, [12, 9, 0], z_g0),
  (5, .invokestatic 105, 3, .null, [0, 0, 0], g_X11_nameless),
  (8, .ifCond .eq 7, 3, .null, [15], z_g0),
  (11, .ldc2_w 129, 3, .long (-2000000001 : Int64), [], z_g0),
  (14, .lreturn, 1, .null, [], z_g0),
  (15, .iload_n 2, 1, .null, [], z_g0),
  (16, .iconst 0, 1, .int ((0 : Int32)), [], z_g0),
  (17, .bipush 7, 2, .int ((7 : Int32)), [], z_g0),
  (19, .invokestatic 81, 3, .null, [0, 0, 0, 0], g_X11_outOf),
  (22, .ifCond .eq 7, 3, .null, [29], z_g0),
  (25, .ldc2_w 244, 3, .long (-2000000002 : Int64), [], z_g0),
  (28, .lreturn, 1, .null, [], z_g0),
  (29, .iload_n 1, 1, .null, [], z_g0),
  (30, .iconst (-1), 1, .int ((-1 : Int32)), [], z_g0),
  (31, .if_icmp .ne 10, 3, .null, [41], z_g0),
  (34, .aload_n 0, 1, .null, [], z_g0),
  (35, .iconst 1, 1, .int ((1 : Int32)), [], z_g0),
  (36, .invokevirtual 91, 3, .null, [1, 12, 0], g_X11_fails),
  (39, .i2l, 1, .null, [], z_g0),
  (40, .lreturn, 1, .null, [], z_g0),
  (41, .aload_n 0, 1, .null, [], z_g0),
  (42, .getfield 35, 3, .null, [12, 8, 3], z_g0),
  (45, .iload_n 1, 1, .null, [], z_g0),
  (46, .aaload, 1, .null, [114], z_g0),
  (47, .astore 6, 2, .null, [], z_g0),
  (49, .aload 6, 2, .null, [], z_g0),
  (51, .iload_n 2, 1, .null, [], z_g0),
  (52, .invokevirtual 246, 3, .null, [1, 4, 0], g_X3_wholeAt),
  (55, .lstore 7, 2, .null, [], z_g0),
  (57, .aload 6, 2, .null, [], z_g0),
  (59, .getfield 235, 3, .null, [4, 0, 3], z_g0),
  (62, .iload_n 2, 1, .null, [], z_g0),
  (63, .getstatic 238, 3, .null, [1], z_g0),
  (66, .iload_n 2, 1, .null, [], z_g0),
  (67, .iaload, 1, .null, [121], z_g0),
  (68, .aload 6, 2, .null, [], z_g0),
  (70, .getfield 235, 3, .null, [4, 0, 3], z_g0),
  (73, .iload_n 2, 1, .null, [], z_g0),
  (74, .laload, 1, .null, [], z_g0),
  (75, .lload_n 3, 1, .null, [], z_g0),
  (76, .invokestatic 142, 3, .null, [0, 0, 0, 0], g_X8_cellMore),
  (79, .lastore, 1, .null, [], z_g0),
  (80, .aload_n 0, 1, .null, [], z_g0),
  (81, .iload 5, 2, .null, [], z_g0),
  (83, .ifCond .eq 8, 3, .null, [91], z_g0),
  (86, .lload 7, 2, .null, [], z_g0),
  (88, .goto 9, 3, .null, [97], z_g0),
  (91, .aload 6, 2, .null, [], z_g0),
  (93, .iload_n 2, 1, .null, [], z_g0),
  (94, .invokevirtual 246, 3, .null, [1, 4, 0], g_X3_wholeAt),
  (97, .invokevirtual 135, 3, .null, [1, 12, 0], g_X11_passesLong),
  (100, .lreturn, 1, .null, [], z_g0)]
set_option maxRecDepth 100000 in
theorem r_X11_raiseField (v0 : Nat) (v1 : Int32) (v2 : Int32) (v3 : Int64) (v5 : Int32) (S : z_St) : z_seg z_rL (c_X11_raiseField) [] (fun pc => fun _ _ _ => none) 57 (c_X11_raiseField) [(0, .ref v0), (1, .int v1), (2, .int v2), (3, .long v3), (5, .int v5)] [] S = b_X11_raiseField v0 v1 v2 v3 v5 S := rfl
def b_X11_link (v0 : Nat) (v1 : Int32) (v2 : Int32) (v3 : Int32) (S : z_St) : Option (Int32 × z_St) :=
z_chk S v0 12 (
(f_X11_nameless v1 ((z_i S v0 9)) S).bind fun q1 =>
if q1.1 = 0 then
(z_chk q1.2 v0 12 (
(f_X11_nameless v2 ((z_i q1.2 v0 9)) q1.2).bind fun q2 =>
if q2.1 = 0 then
(z_chk q2.2 v0 12 (
(f_X11_nameless v3 ((z_i q2.2 v0 5)) q2.2).bind fun q3 =>
if q3.1 = 0 then
(if v1 = ((-1 : Int32)) then
(z_chk q3.2 v0 12 (
(f_X11_fails v0 ((1 : Int32)) q3.2).bind fun q11 =>
some (q11.1, q11.2)))
else
(z_chk q3.2 v0 12 (
z_onV (va_rf (z_r q3.2 v0 8)) fun b4 =>
z_inb q3.2 b4 114 v1 (
z_onV (va_rf (z_r q3.2 b4 v1.toNatClampNeg)) fun b5 =>
z_chk q3.2 b5 4 (
let S6 := z_wi q3.2 b5 1 v2
z_chk S6 v0 12 (
z_onV (va_rf (z_r S6 v0 8)) fun b7 =>
z_inb S6 b7 114 v1 (
z_onV (va_rf (z_r S6 b7 v1.toNatClampNeg)) fun b8 =>
z_chk S6 b8 4 (
let S9 := z_wi S6 b8 2 v3
z_chk S9 v0 12 (
(f_X11_passes v0 ((1 : Int32)) S9).bind fun q10 =>
some (q10.1, q10.2))))))))))
else
(some ((-2000000001 : Int32), q3.2))))
else
(some ((-2000000001 : Int32), q2.2))))
else
(some ((-2000000001 : Int32), q1.2)))
def f_X11_link : Nat → Int32 → Int32 → Int32 → z_St → Option (Int32 × z_St) := z_op (b_X11_link)
theorem e_X11_link (v0 : Nat) (v1 : Int32) (v2 : Int32) (v3 : Int32) (S : z_St) : f_X11_link v0 v1 v2 v3 S = b_X11_link v0 v1 v2 v3 S := congrFun (congrFun (congrFun (congrFun (congrFun (z_op_eq (b_X11_link)) v0) v1) v2) v3) S
def g_X11_link : z_G := .inl (fun as S => match as with
  | [.ref v0, .int v1, .int v2, .int v3] => f_X11_link v0 v1 v2 v3 S
  | _ => none)
def c_X11_link : List z_E := [
  (0, .iload_n 1, 1, .null, [], z_g0),
  (1, .aload_n 0, 1, .null, [], z_g0),
  (2, .getfield 227, 3, .null, [12, 9, 0], z_g0),
  (5, .invokestatic 105, 3, .null, [0, 0, 0], g_X11_nameless),
  (8, .ifCond .ne 25, 3, .null, [33], z_g0),
  (11, .iload_n 2, 1, .null, [], z_g0),
  (12, .aload_n 0, 1, .null, [], z_g0),
  (13, .getfield 227, 3, .null, [12, 9, 0], z_g0),
  (16, .invokestatic 105, 3, .null, [0, 0, 0], g_X11_nameless),
  (19, .ifCond .ne 14, 3, .null, [33], z_g0),
  (22, .iload_n 3, 1, .null, [], z_g0),
  (23, .aload_n 0, 1, .null, [], z_g0),
  (24, .getfield 189, 3, .null, [12, 5, 0], z_g0),
  (27, .invokestatic 105, 3, .null, [0, 0, 0], g_X11_nameless),
  (30, .ifCond .eq 6, 3, .null, [36], z_g0),
  (33, .ldc 109, 2, .int (-2000000001 : Int32), [], z_g0),
  (35, .ireturn, 1, .null, [], z_g0),
  (36, .iload_n 1, 1, .null, [], z_g0),
  (37, .iconst (-1), 1, .int ((-1 : Int32)), [], z_g0),
  (38, .if_icmp .ne 9, 3, .null, [47], z_g0),
  (41, .aload_n 0, 1, .null, [], z_g0),
  (42, .iconst 1, 1, .int ((1 : Int32)), [], z_g0),
  (43, .invokevirtual 91, 3, .null, [1, 12, 0], g_X11_fails),
  (46, .ireturn, 1, .null, [], z_g0),
  (47, .aload_n 0, 1, .null, [], z_g0),
  (48, .getfield 35, 3, .null, [12, 8, 3], z_g0),
  (51, .iload_n 1, 1, .null, [], z_g0),
  (52, .aaload, 1, .null, [114], z_g0),
  (53, .iload_n 2, 1, .null, [], z_g0),
  (54, .putfield 247, 3, .null, [4, 1, 0], z_g0),
  (57, .aload_n 0, 1, .null, [], z_g0),
  (58, .getfield 35, 3, .null, [12, 8, 3], z_g0),
  (61, .iload_n 1, 1, .null, [], z_g0),
  (62, .aaload, 1, .null, [114], z_g0),
  (63, .iload_n 3, 1, .null, [], z_g0),
  (64, .putfield 250, 3, .null, [4, 2, 0], z_g0),
  (67, .aload_n 0, 1, .null, [], z_g0),
  (68, .iconst 1, 1, .int ((1 : Int32)), [], z_g0),
  (69, .invokevirtual 102, 3, .null, [1, 12, 0], g_X11_passes),
  (72, .ireturn, 1, .null, [], z_g0)]
set_option maxRecDepth 100000 in
theorem r_X11_link (v0 : Nat) (v1 : Int32) (v2 : Int32) (v3 : Int32) (S : z_St) : z_seg z_rI (c_X11_link) [] (fun pc => fun _ _ _ => none) 43 (c_X11_link) [(0, .ref v0), (1, .int v1), (2, .int v2), (3, .int v3)] [] S = b_X11_link v0 v1 v2 v3 S := rfl
def l_X11_along_43 : Nat → Nat → Int32 → Int32 → Int32 → z_St → Option (Int32 × z_St)
  | 0 => fun _ _ _ _ _ => none
  | n + 1 => fun (v0 : Nat) (v2 : Int32) (v3 : Int32) (v4 : Int32) (S : z_St) =>
if v2 ≤ v4 then
(z_chk S v0 12 (
(f_X11_passes v0 v3 S).bind fun q4 =>
some (q4.1, q4.2)))
else
(if v3 = ((-1 : Int32)) then
(z_chk S v0 12 (
(f_X11_passes v0 v3 S).bind fun q5 =>
some (q5.1, q5.2)))
else
(z_chk S v0 12 (
z_onV (va_rf (z_r S v0 8)) fun b6 =>
z_inb S b6 114 v3 (
z_onV (va_rf (z_r S b6 v3.toNatClampNeg)) fun b7 =>
z_chk S b7 4 (
let x8 := (z_i S b7 1)
let x9 := v4 + (1 : Int32)
l_X11_along_43 n v0 v2 x8 x9 S)))))
def b_X11_along (v0 : Nat) (v1 : Int32) (v2 : Int32) (S : z_St) : Option (Int32 × z_St) :=
z_chk S v0 12 (
(f_X11_nameless v1 ((z_i S v0 9)) S).bind fun q1 =>
if q1.1 = 0 then
((f_X11_outOf v2 ((0 : Int32)) ((100 : Int32)) q1.2).bind fun q2 =>
if q2.1 = 0 then
(if v1 = ((-1 : Int32)) then
(z_chk q2.2 v0 12 (
(f_X11_fails v0 ((1 : Int32)) q2.2).bind fun q3 =>
some (q3.1, q3.2)))
else
(l_X11_along_43 z_N v0 v2 v1 ((0 : Int32)) q2.2))
else
(some ((-2000000002 : Int32), q2.2)))
else
(some ((-2000000001 : Int32), q1.2)))
def f_X11_along : Nat → Int32 → Int32 → z_St → Option (Int32 × z_St) := z_op (b_X11_along)
theorem e_X11_along (v0 : Nat) (v1 : Int32) (v2 : Int32) (S : z_St) : f_X11_along v0 v1 v2 S = b_X11_along v0 v1 v2 S := congrFun (congrFun (congrFun (congrFun (z_op_eq (b_X11_along)) v0) v1) v2) S
def g_X11_along : z_G := .inl (fun as S => match as with
  | [.ref v0, .int v1, .int v2] => f_X11_along v0 v1 v2 S
  | _ => none)
def c_X11_along : List z_E := [
  (0, .iload_n 1, 1, .null, [], z_g0),
  (1, .aload_n 0, 1, .null, [], z_g0),
  (2, .getfield 227, 3, .null, [12, 9, 0], z_g0),
  (5, .invokestatic 105, 3, .null, [0, 0, 0], g_X11_nameless),
  (8, .ifCond .eq 6, 3, .null, [14], z_g0),
  (11, .ldc 109, 2, .int (-2000000001 : Int32), [], z_g0),
  (13, .ireturn, 1, .null, [], z_g0),
  (14, .iload_n 2, 1, .null, [], z_g0),
  (15, .iconst 0, 1, .int ((0 : Int32)), [], z_g0),
  (16, .bipush 100, 2, .int ((100 : Int32)), [], z_g0),
  (18, .invokestatic 81, 3, .null, [0, 0, 0, 0], g_X11_outOf),
  (21, .ifCond .eq 6, 3, .null, [27], z_g0),
  (24, .ldc 85, 2, .int (-2000000002 : Int32), [], z_g0),
  (26, .ireturn, 1, .null, [], z_g0),
  (27, .iload_n 1, 1, .null, [], z_g0),
  (28, .iconst (-1), 1, .int ((-1 : Int32)), [], z_g0),
  (29, .if_icmp .ne 9, 3, .null, [38], z_g0),
  (32, .aload_n 0, 1, .null, [], z_g0),
  (33, .iconst 1, 1, .int ((1 : Int32)), [], z_g0),
  (34, .invokevirtual 91, 3, .null, [1, 12, 0], g_X11_fails),
  (37, .ireturn, 1, .null, [], z_g0),
  (38, .iload_n 1, 1, .null, [], z_g0),
  (39, .istore_n 3, 1, .null, [], z_g0),
  (40, .iconst 0, 1, .int ((0 : Int32)), [], z_g0),
  (41, .istore 4, 2, .null, [], z_g0),
  (43, .iload 4, 2, .null, [], z_g0),
  (45, .iload_n 2, 1, .null, [], z_g0),
  (46, .if_icmp .ge 24, 3, .null, [70], z_g0),
  (49, .iload_n 3, 1, .null, [], z_g0),
  (50, .iconst (-1), 1, .int ((-1 : Int32)), [], z_g0),
  (51, .if_icmp .eq 19, 3, .null, [70], z_g0),
  (54, .aload_n 0, 1, .null, [], z_g0),
  (55, .getfield 35, 3, .null, [12, 8, 3], z_g0),
  (58, .iload_n 3, 1, .null, [], z_g0),
  (59, .aaload, 1, .null, [114], z_g0),
  (60, .getfield 247, 3, .null, [4, 1, 0], z_g0),
  (63, .istore_n 3, 1, .null, [], z_g0),
  (64, .iinc 4 1, 3, .int (1 : Int32), [], z_g0),
  (67, .goto (-24), 3, .null, [43], z_g0),
  (70, .aload_n 0, 1, .null, [], z_g0),
  (71, .iload_n 3, 1, .null, [], z_g0),
  (72, .invokevirtual 102, 3, .null, [1, 12, 0], g_X11_passes),
  (75, .ireturn, 1, .null, [], z_g0)]
def a_X11_along_43 {ρ : Type} (k : Nat → Int32 → Int32 → Int32 → z_St → Option ρ) (ls : z_Lv) (st : List Value) (S : z_St) : Option ρ := z_gR ls 0 fun v0 => z_gI ls 2 fun v2 => z_gI ls 3 fun v3 => z_gI ls 4 fun v4 => z_p0 st (k v0 v2 v3 v4 S)
set_option maxRecDepth 100000 in
theorem r_X11_along_43 (n : Nat) (v0 : Nat) (v2 : Int32) (v3 : Int32) (v4 : Int32) (S : z_St) : z_seg z_rI (c_X11_along) [43] (fun pc => cond (Nat.beq pc 43) (a_X11_along_43 (l_X11_along_43 n)) (fun _ _ _ => none)) 46 (z_to 43 (c_X11_along)) [(0, .ref v0), (2, .int v2), (3, .int v3), (4, .int v4)] [] S = l_X11_along_43 (n + 1) v0 v2 v3 v4 S := rfl
set_option maxRecDepth 100000 in
theorem r_X11_along (v0 : Nat) (v1 : Int32) (v2 : Int32) (S : z_St) : z_seg z_rI (c_X11_along) [43] (fun pc => cond (Nat.beq pc 43) (a_X11_along_43 (l_X11_along_43 z_N)) (fun _ _ _ => none)) 46 (c_X11_along) [(0, .ref v0), (1, .int v1), (2, .int v2)] [] S = b_X11_along v0 v1 v2 S := rfl
def l_X11_ring_35 : Nat → Nat → Nat → Int32 → Int32 → z_St → Option (Int32 × z_St)
  | 0 => fun _ _ _ _ _ => none
  | n + 1 => fun (v0 : Nat) (v2 : Nat) (v3 : Int32) (v4 : Int32) (S : z_St) =>
if ((20 : Int32)) < v4 then
(z_chk S v0 12 (
(f_X11_passes v0 v3 S).bind fun q5 =>
some (q5.1, q5.2)))
else
(if v3 = ((-1 : Int32)) then
(z_chk S v0 12 (
(f_X11_passes v0 v3 S).bind fun q6 =>
some (q6.1, q6.2)))
else
(z_inb S v2 104 v3 (
if ((z_i S v2 v3.toNatClampNeg)) = 0 then
(z_inb S v2 104 v3 (
let S8 := z_wi S v2 v3.toNatClampNeg (vp_nar .boolean ((1 : Int32)))
z_chk S8 v0 12 (
z_onV (va_rf (z_r S8 v0 8)) fun b9 =>
z_inb S8 b9 114 v3 (
z_onV (va_rf (z_r S8 b9 v3.toNatClampNeg)) fun b10 =>
z_chk S8 b10 4 (
let x11 := (z_i S8 b10 1)
let x12 := v4 + (1 : Int32)
l_X11_ring_35 n v0 v2 x11 x12 S8)))))
else
(z_chk S v0 12 (
(f_X11_passes v0 v3 S).bind fun q7 =>
some (q7.1, q7.2))))))
def b_X11_ring (v0 : Nat) (v1 : Int32) (S : z_St) : Option (Int32 × z_St) :=
z_chk S v0 12 (
(f_X11_nameless v1 ((z_i S v0 9)) S).bind fun q1 =>
if q1.1 = 0 then
(if v1 = ((-1 : Int32)) then
(z_chk q1.2 v0 12 (
(f_X11_fails v0 ((1 : Int32)) q1.2).bind fun q4 =>
some (q4.1, q4.2)))
else
(z_len ((20 : Int32)) 30000 (
let a2 := z_x q1.2
let S3 := z_new q1.2 104 ((20 : Int32)).toNatClampNeg
l_X11_ring_35 z_N v0 a2 v1 ((0 : Int32)) S3)))
else
(some ((-2000000001 : Int32), q1.2)))
def f_X11_ring : Nat → Int32 → z_St → Option (Int32 × z_St) := z_op (b_X11_ring)
theorem e_X11_ring (v0 : Nat) (v1 : Int32) (S : z_St) : f_X11_ring v0 v1 S = b_X11_ring v0 v1 S := congrFun (congrFun (congrFun (z_op_eq (b_X11_ring)) v0) v1) S
def g_X11_ring : z_G := .inl (fun as S => match as with
  | [.ref v0, .int v1] => f_X11_ring v0 v1 S
  | _ => none)
def c_X11_ring : List z_E := [
  (0, .iload_n 1, 1, .null, [], z_g0),
  (1, .aload_n 0, 1, .null, [], z_g0),
  (2, .getfield 227, 3, .null, [12, 9, 0], z_g0),
  (5, .invokestatic 105, 3, .null, [0, 0, 0], g_X11_nameless),
  (8, .ifCond .eq 6, 3, .null, [14], z_g0),
  (11, .ldc 109, 2, .int (-2000000001 : Int32), [], z_g0),
  (13, .ireturn, 1, .null, [], z_g0),
  (14, .iload_n 1, 1, .null, [], z_g0),
  (15, .iconst (-1), 1, .int ((-1 : Int32)), [], z_g0),
  (16, .if_icmp .ne 9, 3, .null, [25], z_g0),
  (19, .aload_n 0, 1, .null, [], z_g0),
  (20, .iconst 1, 1, .int ((1 : Int32)), [], z_g0),
  (21, .invokevirtual 91, 3, .null, [1, 12, 0], g_X11_fails),
  (24, .ireturn, 1, .null, [], z_g0),
  (25, .bipush 20, 2, .int ((20 : Int32)), [], z_g0),
  (27, .newarray .boolean, 2, .null, [104], z_g0),
  (29, .astore_n 2, 1, .null, [], z_g0),
  (30, .iload_n 1, 1, .null, [], z_g0),
  (31, .istore_n 3, 1, .null, [], z_g0),
  (32, .iconst 0, 1, .int ((0 : Int32)), [], z_g0),
  (33, .istore 4, 2, .null, [], z_g0),
  (35, .iload 4, 2, .null, [], z_g0),
  (37, .bipush 20, 2, .int ((20 : Int32)), [], z_g0),
  (39, .if_icmp .gt 34, 3, .null, [73], z_g0),
  (42, .iload_n 3, 1, .null, [], z_g0),
  (43, .iconst (-1), 1, .int ((-1 : Int32)), [], z_g0),
  (44, .if_icmp .eq 29, 3, .null, [73], z_g0),
  (47, .aload_n 2, 1, .null, [], z_g0),
  (48, .iload_n 3, 1, .null, [], z_g0),
  (49, .baload, 1, .null, [104], z_g0),
  (50, .ifCond .ne 23, 3, .null, [73], z_g0),
  (53, .aload_n 2, 1, .null, [], z_g0),
  (54, .iload_n 3, 1, .null, [], z_g0),
  (55, .iconst 1, 1, .int ((1 : Int32)), [], z_g0),
  (56, .bastore, 1, .null, [104], z_g0),
  (57, .aload_n 0, 1, .null, [], z_g0),
  (58, .getfield 35, 3, .null, [12, 8, 3], z_g0),
  (61, .iload_n 3, 1, .null, [], z_g0),
  (62, .aaload, 1, .null, [114], z_g0),
  (63, .getfield 247, 3, .null, [4, 1, 0], z_g0),
  (66, .istore_n 3, 1, .null, [], z_g0),
  (67, .iinc 4 1, 3, .int (1 : Int32), [], z_g0),
  (70, .goto (-35), 3, .null, [35], z_g0),
  (73, .aload_n 0, 1, .null, [], z_g0),
  (74, .iload_n 3, 1, .null, [], z_g0),
  (75, .invokevirtual 102, 3, .null, [1, 12, 0], g_X11_passes),
  (78, .ireturn, 1, .null, [], z_g0)]
def a_X11_ring_35 {ρ : Type} (k : Nat → Nat → Int32 → Int32 → z_St → Option ρ) (ls : z_Lv) (st : List Value) (S : z_St) : Option ρ := z_gR ls 0 fun v0 => z_gR ls 2 fun v2 => z_gI ls 3 fun v3 => z_gI ls 4 fun v4 => z_p0 st (k v0 v2 v3 v4 S)
set_option maxRecDepth 100000 in
theorem r_X11_ring_35 (n : Nat) (v0 : Nat) (v2 : Nat) (v3 : Int32) (v4 : Int32) (S : z_St) : z_seg z_rI (c_X11_ring) [35] (fun pc => cond (Nat.beq pc 35) (a_X11_ring_35 (l_X11_ring_35 n)) (fun _ _ _ => none)) 50 (z_to 35 (c_X11_ring)) [(0, .ref v0), (2, .ref v2), (3, .int v3), (4, .int v4)] [] S = l_X11_ring_35 (n + 1) v0 v2 v3 v4 S := rfl
set_option maxRecDepth 100000 in
theorem r_X11_ring (v0 : Nat) (v1 : Int32) (S : z_St) : z_seg z_rI (c_X11_ring) [35] (fun pc => cond (Nat.beq pc 35) (a_X11_ring_35 (l_X11_ring_35 z_N)) (fun _ _ _ => none)) 50 (c_X11_ring) [(0, .ref v0), (1, .int v1)] [] S = b_X11_ring v0 v1 S := rfl
def b_X11_cardAsk (v0 : Nat) (v1 : Int32) (v2 : Int32) (S : z_St) : Option (Int32 × z_St) :=
z_chk S v0 12 (
(f_X11_nameless v1 ((z_i S v0 9)) S).bind fun q1 =>
if q1.1 = 0 then
((f_X11_outOf v2 ((0 : Int32)) ((5 : Int32)) q1.2).bind fun q2 =>
if q2.1 = 0 then
(if v1 = ((-1 : Int32)) then
(z_chk q2.2 v0 12 (
(f_X11_fails v0 ((1 : Int32)) q2.2).bind fun q6 =>
some (q6.1, q6.2)))
else
(z_chk q2.2 v0 12 (
z_onV (va_rf (z_r q2.2 v0 8)) fun b3 =>
z_inb q2.2 b3 114 v1 (
z_onV (va_rf (z_r q2.2 b3 v1.toNatClampNeg)) fun b4 =>
z_chk q2.2 b4 4 (
z_chk q2.2 v0 12 (
(f_X11_told v0 ((z_i q2.2 b4 2)) v2 q2.2).bind fun q5 =>
some (q5.1, q5.2)))))))
else
(some ((-2000000002 : Int32), q2.2)))
else
(some ((-2000000001 : Int32), q1.2)))
def f_X11_cardAsk : Nat → Int32 → Int32 → z_St → Option (Int32 × z_St) := z_op (b_X11_cardAsk)
theorem e_X11_cardAsk (v0 : Nat) (v1 : Int32) (v2 : Int32) (S : z_St) : f_X11_cardAsk v0 v1 v2 S = b_X11_cardAsk v0 v1 v2 S := congrFun (congrFun (congrFun (congrFun (z_op_eq (b_X11_cardAsk)) v0) v1) v2) S
def g_X11_cardAsk : z_G := .inl (fun as S => match as with
  | [.ref v0, .int v1, .int v2] => f_X11_cardAsk v0 v1 v2 S
  | _ => none)
def c_X11_cardAsk : List z_E := [
  (0, .iload_n 1, 1, .null, [], z_g0),
  (1, .aload_n 0, 1, .null, [], z_g0),
  (2, .getfield 227, 3, .null, [12, 9, 0], z_g0),
  (5, .invokestatic 105, 3, .null, [0, 0, 0], g_X11_nameless),
  (8, .ifCond .eq 6, 3, .null, [14], z_g0),
  (11, .ldc 109, 2, .int (-2000000001 : Int32), [], z_g0),
  (13, .ireturn, 1, .null, [], z_g0),
  (14, .iload_n 2, 1, .null, [], z_g0),
  (15, .iconst 0, 1, .int ((0 : Int32)), [], z_g0),
  (16, .iconst 5, 1, .int ((5 : Int32)), [], z_g0),
  (17, .invokestatic 81, 3, .null, [0, 0, 0, 0], g_X11_outOf),
  (20, .ifCond .eq 6, 3, .null, [26], z_g0),
  (23, .ldc 85, 2, .int (-2000000002 : Int32), [], z_g0),
  (25, .ireturn, 1, .null, [], z_g0),
  (26, .iload_n 1, 1, .null, [], z_g0),
  (27, .iconst (-1), 1, .int ((-1 : Int32)), [], z_g0),
  (28, .if_icmp .ne 9, 3, .null, [37], z_g0),
  (31, .aload_n 0, 1, .null, [], z_g0),
  (32, .iconst 1, 1, .int ((1 : Int32)), [], z_g0),
  (33, .invokevirtual 91, 3, .null, [1, 12, 0], g_X11_fails),
  (36, .ireturn, 1, .null, [], z_g0),
  (37, .aload_n 0, 1, .null, [], z_g0),
  (38, .aload_n 0, 1, .null, [], z_g0),
  (39, .getfield 35, 3, .null, [12, 8, 3], z_g0),
  (42, .iload_n 1, 1, .null, [], z_g0),
  (43, .aaload, 1, .null, [114], z_g0),
  (44, .getfield 250, 3, .null, [4, 2, 0], z_g0),
  (47, .iload_n 2, 1, .null, [], z_g0),
  (48, .invokevirtual 193, 3, .null, [1, 12, 0, 0], g_X11_told),
  (51, .ireturn, 1, .null, [], z_g0)]
set_option maxRecDepth 100000 in
theorem r_X11_cardAsk (v0 : Nat) (v1 : Int32) (v2 : Int32) (S : z_St) : z_seg z_rI (c_X11_cardAsk) [] (fun pc => fun _ _ _ => none) 33 (c_X11_cardAsk) [(0, .ref v0), (1, .int v1), (2, .int v2)] [] S = b_X11_cardAsk v0 v1 v2 S := rfl
def b_X11_copy (v0 : Nat) (v1 : Int32) (S : z_St) : Option (Int32 × z_St) :=
z_chk S v0 12 (
(f_X11_nameless v1 ((z_i S v0 9)) S).bind fun q1 =>
if q1.1 = 0 then
(if v1 = ((-1 : Int32)) then
(z_chk q1.2 v0 12 (
(f_X11_fails v0 ((1 : Int32)) q1.2).bind fun q18 =>
some (q18.1, q18.2)))
else
(z_chk q1.2 v0 12 (
if ((z_i q1.2 v0 9)) < ((20 : Int32)) then
(let a2 := z_x q1.2
let S3 := z_new q1.2 4 3
z_chk S3 a2 4 (
(f_X3_init a2 S3).bind fun q4 =>
z_chk q4 v0 12 (
z_onV (va_rf (z_r q4 v0 8)) fun b5 =>
z_inb q4 b5 114 v1 (
z_onV (va_rf (z_r q4 b5 v1.toNatClampNeg)) fun b6 =>
z_chk q4 b6 4 (
z_chk q4 a2 4 (
z_onV (va_rf (z_r q4 a2 0)) fun b7 =>
z_onV (va_rf (z_r q4 b6 0)) fun b8 =>
z_cpy q4 102 b8 ((0 : Int32)) b7 ((0 : Int32)) ((8 : Int32)) (
let S9 := z_cl q4 b8 ((0 : Int32)).toNatClampNeg b7 ((0 : Int32)).toNatClampNeg ((8 : Int32)).toNatClampNeg
z_chk S9 v0 12 (
z_onV (va_rf (z_r S9 v0 8)) fun b10 =>
z_inb S9 b10 114 v1 (
z_onV (va_rf (z_r S9 b10 v1.toNatClampNeg)) fun b11 =>
z_chk S9 b11 4 (
z_chk S9 a2 4 (
let S12 := z_wi S9 a2 1 ((z_i S9 b11 1))
z_chk S12 v0 12 (
z_onV (va_rf (z_r S12 v0 8)) fun b13 =>
z_inb S12 b13 114 v1 (
z_onV (va_rf (z_r S12 b13 v1.toNatClampNeg)) fun b14 =>
z_chk S12 b14 4 (
z_chk S12 a2 4 (
let S15 := z_wi S12 a2 2 ((z_i S12 b14 2))
z_chk S15 v0 12 (
(f_X11_keepCard v0 a2 S15).bind fun q16 =>
z_chk q16.2 v0 12 (
(f_X11_passes v0 q16.1 q16.2).bind fun q17 =>
some (q17.1, q17.2))))))))))))))))))
else
(some ((-2000000004 : Int32), q1.2)))))
else
(some ((-2000000001 : Int32), q1.2)))
def f_X11_copy : Nat → Int32 → z_St → Option (Int32 × z_St) := z_op (b_X11_copy)
theorem e_X11_copy (v0 : Nat) (v1 : Int32) (S : z_St) : f_X11_copy v0 v1 S = b_X11_copy v0 v1 S := congrFun (congrFun (congrFun (z_op_eq (b_X11_copy)) v0) v1) S
def g_X11_copy : z_G := .inl (fun as S => match as with
  | [.ref v0, .int v1] => f_X11_copy v0 v1 S
  | _ => none)
def c_X11_copy : List z_E := [
  (0, .iload_n 1, 1, .null, [], z_g0),
  (1, .aload_n 0, 1, .null, [], z_g0),
  (2, .getfield 227, 3, .null, [12, 9, 0], z_g0),
  (5, .invokestatic 105, 3, .null, [0, 0, 0], g_X11_nameless),
  (8, .ifCond .eq 6, 3, .null, [14], z_g0),
  (11, .ldc 109, 2, .int (-2000000001 : Int32), [], z_g0),
  (13, .ireturn, 1, .null, [], z_g0),
  (14, .iload_n 1, 1, .null, [], z_g0),
  (15, .iconst (-1), 1, .int ((-1 : Int32)), [], z_g0),
  (16, .if_icmp .ne 9, 3, .null, [25], z_g0),
  (19, .aload_n 0, 1, .null, [], z_g0),
  (20, .iconst 1, 1, .int ((1 : Int32)), [], z_g0),
  (21, .invokevirtual 91, 3, .null, [1, 12, 0], g_X11_fails),
  (24, .ireturn, 1, .null, [], z_g0),
  (25, .aload_n 0, 1, .null, [], z_g0),
  (26, .getfield 227, 3, .null, [12, 9, 0], z_g0),
  (29, .bipush 20, 2, .int ((20 : Int32)), [], z_g0),
  (31, .if_icmp .lt 6, 3, .null, [37], z_g0),
  (34, .ldc 90, 2, .int (-2000000004 : Int32), [], z_g0),
  (36, .ireturn, 1, .null, [], z_g0),
  (37, .new 33, 3, .null, [4, 3], z_g0),
  (40, .dup, 1, .null, [], z_g0),
  (41, .invokespecial 230, 3, .null, [1, 4], g_X3_init),
  (44, .astore_n 2, 1, .null, [], z_g0),
  (45, .aload_n 0, 1, .null, [], z_g0),
  (46, .getfield 35, 3, .null, [12, 8, 3], z_g0),
  (49, .iload_n 1, 1, .null, [], z_g0),
  (50, .aaload, 1, .null, [114], z_g0),
  (51, .getfield 235, 3, .null, [4, 0, 3], z_g0),
  (54, .iconst 0, 1, .int ((0 : Int32)), [], z_g0),
  (55, .aload_n 2, 1, .null, [], z_g0),
  (56, .getfield 235, 3, .null, [4, 0, 3], z_g0),
  (59, .iconst 0, 1, .int ((0 : Int32)), [], z_g0),
  (60, .bipush 8, 2, .int ((8 : Int32)), [], z_g0),
  (62, .invokestatic 146, 3, .null, [3, 102], z_g0),
  (65, .aload_n 2, 1, .null, [], z_g0),
  (66, .aload_n 0, 1, .null, [], z_g0),
  (67, .getfield 35, 3, .null, [12, 8, 3], z_g0),
  (70, .iload_n 1, 1, .null, [], z_g0),
  (71, .aaload, 1, .null, [114], z_g0),
  (72, .getfield 247, 3, .null, [4, 1, 0], z_g0),
  (75, .putfield 247, 3, .null, [4, 1, 0], z_g0),
  (78, .aload_n 2, 1, .null, [], z_g0),
  (79, .aload_n 0, 1, .null, [], z_g0),
  (80, .getfield 35, 3, .null, [12, 8, 3], z_g0),
  (83, .iload_n 1, 1, .null, [], z_g0),
  (84, .aaload, 1, .null, [114], z_g0),
  (85, .getfield 250, 3, .null, [4, 2, 0], z_g0),
  (88, .putfield 250, 3, .null, [4, 2, 0], z_g0),
  (91, .aload_n 0, 1, .null, [], z_g0),
  (92, .aload_n 0, 1, .null, [], z_g0),
  (93, .aload_n 2, 1, .null, [], z_g0),
  (94, .invokevirtual 231, 3, .null, [1, 12, 1], g_X11_keepCard),
  (97, .invokevirtual 102, 3, .null, [1, 12, 0], g_X11_passes),
  (100, .ireturn, 1, .null, [], z_g0)]
set_option maxRecDepth 100000 in
theorem r_X11_copy (v0 : Nat) (v1 : Int32) (S : z_St) : z_seg z_rI (c_X11_copy) [] (fun pc => fun _ _ _ => none) 58 (c_X11_copy) [(0, .ref v0), (1, .int v1)] [] S = b_X11_copy v0 v1 S := rfl
def b_X11_flow (v0 : Nat) (v1 : Int32) (v2 : Int32) (S : z_St) : Option (Int64 × z_St) :=
z_chk S v0 12 (
(f_X11_nameless v1 ((z_i S v0 1)) S).bind fun q1 =>
if q1.1 = 0 then
((f_X11_outOf v2 ((0 : Int32)) ((6 : Int32)) q1.2).bind fun q2 =>
if q2.1 = 0 then
(if v1 = ((-1 : Int32)) then
(z_chk q2.2 v0 12 (
(f_X11_fails v0 ((1 : Int32)) q2.2).bind fun q8 =>
some (q8.1.toInt64, q8.2)))
else
(z_chk q2.2 v0 12 (
z_onV (va_rf (z_r q2.2 v0 0)) fun b3 =>
z_inb q2.2 b3 110 v1 (
z_onV (va_rf (z_r q2.2 b3 v1.toNatClampNeg)) fun b4 =>
z_chk q2.2 b4 9 (
(f_X8_isOfReals b4 q2.2).bind fun q5 =>
if q5.1 = 0 then
(some ((-2000000003 : Int64), q5.2))
else
(z_chk q5.2 b4 9 (
(f_X8_flowOf b4 v2 q5.2).bind fun q6 =>
z_chk q6.2 v0 12 (
(f_X11_passesLong v0 q6.1 q6.2).bind fun q7 =>
some (q7.1, q7.2)))))))))
else
(some ((-2000000002 : Int64), q2.2)))
else
(some ((-2000000001 : Int64), q1.2)))
def f_X11_flow : Nat → Int32 → Int32 → z_St → Option (Int64 × z_St) := z_op (b_X11_flow)
theorem e_X11_flow (v0 : Nat) (v1 : Int32) (v2 : Int32) (S : z_St) : f_X11_flow v0 v1 v2 S = b_X11_flow v0 v1 v2 S := congrFun (congrFun (congrFun (congrFun (z_op_eq (b_X11_flow)) v0) v1) v2) S
def g_X11_flow : z_G := .inr (.inl (fun as S => match as with
  | [.ref v0, .int v1, .int v2] => f_X11_flow v0 v1 v2 S
  | _ => none))
def c_X11_flow : List z_E := [
  (0, .iload_n 1, 1, .null, [], z_g0),
  (1, .aload_n 0, 1, .null, [], z_g0),
  (2, .getfield 86, 3, .null, [12, 1, 0], z_g0),
  (5, .invokestatic 105, 3, .null, [0, 0, 0], g_X11_nameless),
  (8, .ifCond .eq 7, 3, .null, [15], z_g0),
  (11, .ldc2_w 129, 3, .long (-2000000001 : Int64), [], z_g0),
  (14, .lreturn, 1, .null, [], z_g0),
  (15, .iload_n 2, 1, .null, [], z_g0),
  (16, .iconst 0, 1, .int ((0 : Int32)), [], z_g0),
  (17, .bipush 6, 2, .int ((6 : Int32)), [], z_g0),
  (19, .invokestatic 81, 3, .null, [0, 0, 0, 0], g_X11_outOf),
  (22, .ifCond .eq 7, 3, .null, [29], z_g0),
  (25, .ldc2_w 244, 3, .long (-2000000002 : Int64), [], z_g0),
  (28, .lreturn, 1, .null, [], z_g0),
  (29, .iload_n 1, 1, .null, [], z_g0),
  (30, .iconst (-1), 1, .int ((-1 : Int32)), [], z_g0),
  (31, .if_icmp .ne 10, 3, .null, [41], z_g0),
  (34, .aload_n 0, 1, .null, [], z_g0),
  (35, .iconst 1, 1, .int ((1 : Int32)), [], z_g0),
  (36, .invokevirtual 91, 3, .null, [1, 12, 0], g_X11_fails),
  (39, .i2l, 1, .null, [], z_g0),
  (40, .lreturn, 1, .null, [], z_g0),
  (41, .aload_n 0, 1, .null, [], z_g0),
  (42, .getfield 11, 3, .null, [12, 0, 3], z_g0),
  (45, .iload_n 1, 1, .null, [], z_g0),
  (46, .aaload, 1, .null, [110], z_g0),
  (47, .astore_n 3, 1, .null, [], z_g0),
  (48, .aload_n 3, 1, .null, [], z_g0),
  (49, .invokevirtual 253, 3, .null, [1, 9], g_X8_isOfReals),
  (52, .ifCond .ne 7, 3, .null, [59], z_g0),
  (55, .ldc2_w 257, 3, .long (-2000000003 : Int64), [], z_g0),
  (58, .lreturn, 1, .null, [], z_g0),
  (59, .aload_n 0, 1, .null, [], z_g0),
  (60, .aload_n 3, 1, .null, [], z_g0),
  (61, .iload_n 2, 1, .null, [], z_g0),
  (62, .invokevirtual 259, 3, .null, [1, 9, 0], g_X8_flowOf),
  (65, .invokevirtual 135, 3, .null, [1, 12, 0], g_X11_passesLong),
  (68, .lreturn, 1, .null, [], z_g0)]
set_option maxRecDepth 100000 in
theorem r_X11_flow (v0 : Nat) (v1 : Int32) (v2 : Int32) (S : z_St) : z_seg z_rL (c_X11_flow) [] (fun pc => fun _ _ _ => none) 41 (c_X11_flow) [(0, .ref v0), (1, .int v1), (2, .int v2)] [] S = b_X11_flow v0 v1 v2 S := rfl
def j_X11_holds_14 (v4 : Int32) (S : z_St) : Option (Int32 × z_St) :=
if v4 = ((5 : Int32)) then
(z_rb ((1 : Int32)) S)
else
(z_rb ((0 : Int32)) S)
def b_X11_holds (v0 : Int64) (v2 : Int64) (v4 : Int32) (S : z_St) : Option (Int32 × z_St) :=
(f_X11_noNumber v0 S).bind fun q1 =>
if q1.1 = 0 then
((f_X11_noNumber v2 q1.2).bind fun q2 =>
if q2.1 = 0 then
((f_X11_rankOf v0 q2.2).bind fun q3 =>
(f_X11_rankOf v2 q3.2).bind fun q4 =>
if v4 = (0 : Int32) then
(if 0 ≤ (lg_cmp q3.1 q4.1) then
(z_rb ((0 : Int32)) q4.2)
else
(z_rb ((1 : Int32)) q4.2))
else
if v4 = (1 : Int32) then
(if 0 < (lg_cmp q3.1 q4.1) then
(z_rb ((0 : Int32)) q4.2)
else
(z_rb ((1 : Int32)) q4.2))
else
if v4 = (2 : Int32) then
(if (lg_cmp q3.1 q4.1) ≤ 0 then
(z_rb ((0 : Int32)) q4.2)
else
(z_rb ((1 : Int32)) q4.2))
else
if v4 = (3 : Int32) then
(if (lg_cmp q3.1 q4.1) < 0 then
(z_rb ((0 : Int32)) q4.2)
else
(z_rb ((1 : Int32)) q4.2))
else
if v4 = (4 : Int32) then
(if (lg_cmp q3.1 q4.1) = 0 then
(z_rb ((1 : Int32)) q4.2)
else
(z_rb ((0 : Int32)) q4.2))
else
(if (lg_cmp q3.1 q4.1) = 0 then
(z_rb ((0 : Int32)) q4.2)
else
(z_rb ((1 : Int32)) q4.2)))
else
(j_X11_holds_14 v4 q2.2))
else
(j_X11_holds_14 v4 q1.2)
def f_X11_holds : Int64 → Int64 → Int32 → z_St → Option (Int32 × z_St) := z_op (b_X11_holds)
theorem e_X11_holds (v0 : Int64) (v2 : Int64) (v4 : Int32) (S : z_St) : f_X11_holds v0 v2 v4 S = b_X11_holds v0 v2 v4 S := congrFun (congrFun (congrFun (congrFun (z_op_eq (b_X11_holds)) v0) v2) v4) S
def g_X11_holds : z_G := .inl (fun as S => match as with
  | [.long v0, .long v2, .int v4] => f_X11_holds v0 v2 v4 S
  | _ => none)
def c_X11_holds : List z_E := [
  (0, .lload_n 0, 1, .null, [], z_g0),
  (1, .invokestatic 405, 3, .null, [0, 0], g_X11_noNumber),
  (4, .ifCond .ne 10, 3, .null, [14], z_g0),
  (7, .lload_n 2, 1, .null, [], z_g0),
  (8, .invokestatic 405, 3, .null, [0, 0], g_X11_noNumber),
  (11, .ifCond .eq 15, 3, .null, [26], z_g0),
  (14, .iload 4, 2, .null, [], z_g0),
  (16, .iconst 5, 1, .int ((5 : Int32)), [], z_g0),
  (17, .if_icmp .ne 7, 3, .null, [24], z_g0),
  (20, .iconst 1, 1, .int ((1 : Int32)), [], z_g0),
  (21, .goto 4, 3, .null, [25], z_g0),
  (24, .iconst 0, 1, .int ((0 : Int32)), [], z_g0),
  (25, .ireturn, 1, .null, [], z_g0),
  (26, .lload_n 0, 1, .null, [], z_g0),
  (27, .invokestatic 529, 3, .null, [0, 0], g_X11_rankOf),
  (30, .lstore 5, 2, .null, [], z_g0),
  (32, .lload_n 2, 1, .null, [], z_g0),
  (33, .invokestatic 529, 3, .null, [0, 0], g_X11_rankOf),
  (36, .lstore 7, 2, .null, [], z_g0),
  (38, .iload 4, 2, .null, [], z_g0),
  (40, .tableswitch 106 0 4 #[36, 50, 64, 78, 92], 36, .null, [146, 0, 76, 90, 104, 118, 132], z_g0),
  (76, .lload 5, 2, .null, [], z_g0),
  (78, .lload 7, 2, .null, [], z_g0),
  (80, .lcmp, 1, .null, [], z_g0),
  (81, .ifCond .ge 7, 3, .null, [88], z_g0),
  (84, .iconst 1, 1, .int ((1 : Int32)), [], z_g0),
  (85, .goto 4, 3, .null, [89], z_g0),
  (88, .iconst 0, 1, .int ((0 : Int32)), [], z_g0),
  (89, .ireturn, 1, .null, [], z_g0),
  (90, .lload 5, 2, .null, [], z_g0),
  (92, .lload 7, 2, .null, [], z_g0),
  (94, .lcmp, 1, .null, [], z_g0),
  (95, .ifCond .gt 7, 3, .null, [102], z_g0),
  (98, .iconst 1, 1, .int ((1 : Int32)), [], z_g0),
  (99, .goto 4, 3, .null, [103], z_g0),
  (102, .iconst 0, 1, .int ((0 : Int32)), [], z_g0),
  (103, .ireturn, 1, .null, [], z_g0),
  (104, .lload 5, 2, .null, [], z_g0),
  (106, .lload 7, 2, .null, [], z_g0),
  (108, .lcmp, 1, .null, [], z_g0),
  (109, .ifCond .le 7, 3, .null, [116], z_g0),
  (112, .iconst 1, 1, .int ((1 : Int32)), [], z_g0),
  (113, .goto 4, 3, .null, [117], z_g0),
  (116, .iconst 0, 1, .int ((0 : Int32)), [], z_g0),
  (117, .ireturn, 1, .null, [], z_g0),
  (118, .lload 5, 2, .null, [], z_g0),
  (120, .lload 7, 2, .null, [], z_g0),
  (122, .lcmp, 1, .null, [], z_g0),
  (123, .ifCond .lt 7, 3, .null, [130], z_g0),
  (126, .iconst 1, 1, .int ((1 : Int32)), [], z_g0),
  (127, .goto 4, 3, .null, [131], z_g0),
  (130, .iconst 0, 1, .int ((0 : Int32)), [], z_g0),
  (131, .ireturn, 1, .null, [], z_g0),
  (132, .lload 5, 2, .null, [], z_g0),
  (134, .lload 7, 2, .null, [], z_g0),
  (136, .lcmp, 1, .null, [], z_g0),
  (137, .ifCond .ne 7, 3, .null, [144], z_g0),
  (140, .iconst 1, 1, .int ((1 : Int32)), [], z_g0),
  (141, .goto 4, 3, .null, [145], z_g0),
  (144, .iconst 0, 1, .int ((0 : Int32)), [], z_g0),
  (145, .ireturn, 1, .null, [], z_g0),
  (146, .lload 5, 2, .null, [], z_g0),
  (148, .lload 7, 2, .null, [], z_g0),
  (150, .lcmp, 1, .null, [], z_g0),
  (151, .ifCond .eq 7, 3, .null, [158], z_g0),
  (154, .iconst 1, 1, .int ((1 : Int32)), [], z_g0),
  (155, .goto 4, 3, .null, [159], z_g0),
  (158, .iconst 0, 1, .int ((0 : Int32)), [], z_g0),
  (159, .ireturn, 1, .null, [], z_g0)]
def a_X11_holds_14 {ρ : Type} (k : Int32 → z_St → Option ρ) (ls : z_Lv) (st : List Value) (S : z_St) : Option ρ := z_gI ls 4 fun v4 => z_p0 st (k v4 S)
set_option maxRecDepth 100000 in
theorem r_X11_holds_14 (v4 : Int32) (S : z_St) : z_seg z_rZ (c_X11_holds) [14] (fun pc => fun _ _ _ => none) 72 (z_to 14 (c_X11_holds)) [(4, .int v4)] [] S = j_X11_holds_14 v4 S := rfl
set_option maxRecDepth 100000 in
theorem r_X11_holds (v0 : Int64) (v2 : Int64) (v4 : Int32) (S : z_St) : z_seg z_rZ (c_X11_holds) [14] (fun pc => cond (Nat.beq pc 14) (a_X11_holds_14 (j_X11_holds_14)) (fun _ _ _ => none)) 72 (c_X11_holds) [(0, .long v0), (2, .long v2), (4, .int v4)] [] S = b_X11_holds v0 v2 v4 S := rfl
def b_X11_test (v0 : Nat) (v1 : Int32) (v2 : Int32) (v3 : Int32) (v4 : Int32) (v5 : Int32) (S : z_St) : Option (Int32 × z_St) :=
z_chk S v0 12 (
(f_X11_nameless v1 ((z_i S v0 1)) S).bind fun q1 =>
if q1.1 = 0 then
((f_X11_outOf v4 ((0 : Int32)) ((5 : Int32)) q1.2).bind fun q2 =>
if q2.1 = 0 then
(if v1 = ((-1 : Int32)) then
(z_chk q2.2 v0 12 (
(f_X11_fails v0 ((1 : Int32)) q2.2).bind fun q15 =>
some (q15.1, q15.2)))
else
(z_chk q2.2 v0 12 (
z_onV (va_rf (z_r q2.2 v0 0)) fun b3 =>
z_inb q2.2 b3 110 v1 (
z_onV (va_rf (z_r q2.2 b3 v1.toNatClampNeg)) fun b4 =>
z_chk q2.2 b4 9 (
(f_X8_isOfReals b4 q2.2).bind fun q5 =>
if q5.1 = 0 then
(some ((-2000000003 : Int32), q5.2))
else
(z_chk q5.2 b4 9 (
(f_X8_hasCell b4 v2 q5.2).bind fun q6 =>
if q6.1 = 0 then
(z_chk q6.2 v0 12 (
(f_X11_fails v0 ((2 : Int32)) q6.2).bind fun q7 =>
some (q7.1, q7.2)))
else
(z_chk q6.2 b4 9 (
(f_X8_hasCell b4 v3 q6.2).bind fun q8 =>
if q8.1 = 0 then
(z_chk q8.2 v0 12 (
(f_X11_fails v0 ((2 : Int32)) q8.2).bind fun q14 =>
some (q14.1, q14.2)))
else
(z_chk q8.2 b4 9 (
z_onV (va_rf (z_r q8.2 b4 1)) fun b9 =>
z_inb q8.2 b9 102 v2 (
z_chk q8.2 b4 9 (
z_onV (va_rf (z_r q8.2 b4 1)) fun b10 =>
z_inb q8.2 b10 102 v3 (
(f_X11_holds ((z_l q8.2 b9 v2.toNatClampNeg)) ((z_l q8.2 b10 v3.toNatClampNeg)) v4 q8.2).bind fun q11 =>
if q11.1 = v5 then
(z_chk q11.2 v0 12 (
(f_X11_passes v0 ((0 : Int32)) q11.2).bind fun q12 =>
some (q12.1, q12.2)))
else
(z_chk q11.2 v0 12 (
(f_X11_passes v0 ((1 : Int32)) q11.2).bind fun q13 =>
some (q13.1, q13.2)))))))))))))))))
else
(some ((-2000000002 : Int32), q2.2)))
else
(some ((-2000000001 : Int32), q1.2)))
def f_X11_test : Nat → Int32 → Int32 → Int32 → Int32 → Int32 → z_St → Option (Int32 × z_St) := z_op (b_X11_test)
theorem e_X11_test (v0 : Nat) (v1 : Int32) (v2 : Int32) (v3 : Int32) (v4 : Int32) (v5 : Int32) (S : z_St) : f_X11_test v0 v1 v2 v3 v4 v5 S = b_X11_test v0 v1 v2 v3 v4 v5 S := congrFun (congrFun (congrFun (congrFun (congrFun (congrFun (congrFun (z_op_eq (b_X11_test)) v0) v1) v2) v3) v4) v5) S
def g_X11_test : z_G := .inl (fun as S => match as with
  | [.ref v0, .int v1, .int v2, .int v3, .int v4, .int v5] => f_X11_test v0 v1 v2 v3 v4 v5 S
  | _ => none)
def c_X11_test : List z_E := [
  (0, .iload_n 1, 1, .null, [], z_g0),
  (1, .aload_n 0, 1, .null, [], z_g0),
  (2, .getfield 86, 3, .null, [12, 1, 0], z_g0),
  (5, .invokestatic 105, 3, .null, [0, 0, 0], g_X11_nameless),
  (8, .ifCond .eq 6, 3, .null, [14], z_g0),
  (11, .ldc 109, 2, .int (-2000000001 : Int32), [], z_g0),
  (13, .ireturn, 1, .null, [], z_g0),
  (14, .iload 4, 2, .null, [], z_g0),
  (16, .iconst 0, 1, .int ((0 : Int32)), [], z_g0),
  (17, .iconst 5, 1, .int ((5 : Int32)), [], z_g0),
  (18, .invokestatic 81, 3, .null, [0, 0, 0, 0], g_X11_outOf),
  (21, .ifCond .eq 6, 3, .null, [27], z_g0),
  (24, .ldc 85, 2, .int (-2000000002 : Int32), [], z_g0),
  (26, .ireturn, 1, .null, [], z_g0),
  (27, .iload_n 1, 1, .null, [], z_g0),
  (28, .iconst (-1), 1, .int ((-1 : Int32)), [], z_g0),
  (29, .if_icmp .ne 9, 3, .null, [38], z_g0),
  (32, .aload_n 0, 1, .null, [], z_g0),
  (33, .iconst 1, 1, .int ((1 : Int32)), [], z_g0),
  (34, .invokevirtual 91, 3, .null, [1, 12, 0], g_X11_fails),
  (37, .ireturn, 1, .null, [], z_g0),
  (38, .aload_n 0, 1, .null, [], z_g0),
  (39, .getfield 11, 3, .null, [12, 0, 3], z_g0),
  (42, .iload_n 1, 1, .null, [], z_g0),
  (43, .aaload, 1, .null, [110], z_g0),
  (44, .astore 6, 2, .null, [], z_g0),
  (46, .aload 6, 2, .null, [], z_g0),
  (48, .invokevirtual 253, 3, .null, [1, 9], g_X8_isOfReals),
  (51, .ifCond .ne 7, 3, .null, [58], z_g0),
  (54, .ldc_w 262, 3, .int (-2000000003 : Int32), [], z_g0),
  (57, .ireturn, 1, .null, [], z_g0),
  (58, .aload 6, 2, .null, [], z_g0),
  (60, .iload_n 2, 1, .null, [], z_g0),
  (61, .invokevirtual 263, 3, .null, [1, 9, 0], g_X8_hasCell),
  (64, .ifCond .eq 12, 3, .null, [76], z_g0),
  (67, .aload 6, 2, .null, [], z_g0),
  (69, .iload_n 3, 1, .null, [], z_g0),
  (70, .invokevirtual 263, 3, .null, [1, 9, 0], g_X8_hasCell),
  (73, .ifCond .ne 9, 3, .null, [82], z_g0),
  (76, .aload_n 0, 1, .null, [], z_g0),
  (77, .iconst 2, 1, .int ((2 : Int32)), [], z_g0),
  (78, .invokevirtual 91, 3, .null, [1, 12, 0], g_X11_fails),
  (81, .ireturn, 1, .null, [], z_g0),
  (82, .aload_n 0, 1, .null, [], z_g0),
  (83, .aload 6, 2, .null, [], z_g0),
  (85, .getfield 118, 3, .null, [9, 1, 3], z_g0),
  (88, .iload_n 2, 1, .null, [], z_g0),
  (89, .laload, 1, .null, [], z_g0),
  (90, .aload 6, 2, .null, [], z_g0),
  (92, .getfield 118, 3, .null, [9, 1, 3], z_g0),
  (95, .iload_n 3, 1, .null, [], z_g0),
  (96, .laload, 1, .null, [], z_g0),
  (97, .iload 4, 2, .null, [], z_g0),
  (99, .invokestatic 267, 3, .null, [0, 0, 0, 0], g_X11_holds),
  (102, .iload 5, 2, .null, [], z_g0),
  (104, .if_icmp .eq 7, 3, .null, [111], z_g0),
  (107, .iconst 1, 1, .int ((1 : Int32)), [], z_g0),
  (108, .goto 4, 3, .null, [112], z_g0),
  (111, .iconst 0, 1, .int ((0 : Int32)), [], z_g0),
  (112, .invokevirtual 102, 3, .null, [1, 12, 0], g_X11_passes),
  (115, .ireturn, 1, .null, [], z_g0)]
set_option maxRecDepth 100000 in
theorem r_X11_test (v0 : Nat) (v1 : Int32) (v2 : Int32) (v3 : Int32) (v4 : Int32) (v5 : Int32) (S : z_St) : z_seg z_rI (c_X11_test) [] (fun pc => fun _ _ _ => none) 64 (c_X11_test) [(0, .ref v0), (1, .int v1), (2, .int v2), (3, .int v3), (4, .int v4), (5, .int v5)] [] S = b_X11_test v0 v1 v2 v3 v4 v5 S := rfl
def b_X11_boundBy (v0 : Int64) (S : z_St) : Option (Int64 × z_St) :=
if 0 ≤ (lg_cmp v0 ((0 : Int64))) then
(some ((9223372036854775807 : Int64), S))
else
(some ((-9223372036854775808 : Int64), S))
def f_X11_boundBy : Int64 → z_St → Option (Int64 × z_St) := z_op (b_X11_boundBy)
theorem e_X11_boundBy (v0 : Int64) (S : z_St) : f_X11_boundBy v0 S = b_X11_boundBy v0 S := congrFun (congrFun (z_op_eq (b_X11_boundBy)) v0) S
def g_X11_boundBy : z_G := .inr (.inl (fun as S => match as with
  | [.long v0] => f_X11_boundBy v0 S
  | _ => none))
def c_X11_boundBy : List z_E := [
  (0, .lload_n 0, 1, .null, [], z_g0),
  (1, .lconst 0, 1, .long (0 : Int64), [], z_g0),
  (2, .lcmp, 1, .null, [], z_g0),
  (3, .ifCond .ge 9, 3, .null, [12], z_g0),
  (6, .ldc2_w 537, 3, .long (-9223372036854775808 : Int64), [], z_g0),
  (9, .goto 6, 3, .null, [15], z_g0),
  (12, .ldc2_w 539, 3, .long (9223372036854775807 : Int64), [], z_g0),
  (15, .lreturn, 1, .null, [], z_g0)]
set_option maxRecDepth 100000 in
theorem r_X11_boundBy (v0 : Int64) (S : z_St) : z_seg z_rL (c_X11_boundBy) [] (fun pc => fun _ _ _ => none) 11 (c_X11_boundBy) [(0, .long v0)] [] S = b_X11_boundBy v0 S := rfl
def j_X11_sumHeld_24 (v0 : Int64) (v4 : Int64) (t0 : Int32) (S : z_St) : Option (Int64 × z_St) :=
if t0 = 0 then
(some (v4, S))
else
((f_X11_boundBy v0 S).bind fun q2 =>
some (q2.1, q2.2))
def b_X11_sumHeld (v0 : Int64) (v2 : Int64) (S : z_St) : Option (Int64 × z_St) :=
let x1 := v0 + v2
if 0 ≤ (lg_cmp ((v0 ^^^ x1) &&& (v2 ^^^ x1)) ((0 : Int64))) then
(j_X11_sumHeld_24 v0 x1 ((0 : Int32)) S)
else
(j_X11_sumHeld_24 v0 x1 ((1 : Int32)) S)
def f_X11_sumHeld : Int64 → Int64 → z_St → Option (Int64 × z_St) := z_op (b_X11_sumHeld)
theorem e_X11_sumHeld (v0 : Int64) (v2 : Int64) (S : z_St) : f_X11_sumHeld v0 v2 S = b_X11_sumHeld v0 v2 S := congrFun (congrFun (congrFun (z_op_eq (b_X11_sumHeld)) v0) v2) S
def g_X11_sumHeld : z_G := .inr (.inl (fun as S => match as with
  | [.long v0, .long v2] => f_X11_sumHeld v0 v2 S
  | _ => none))
def c_X11_sumHeld : List z_E := [
  (0, .lload_n 0, 1, .null, [], z_g0),
  (1, .lload_n 2, 1, .null, [], z_g0),
  (2, .ladd, 1, .null, [], z_g0),
  (3, .lstore 4, 2, .null, [], z_g0),
  (5, .lload_n 0, 1, .null, [], z_g0),
  (6, .lload 4, 2, .null, [], z_g0),
  (8, .lxor, 1, .null, [], z_g0),
  (9, .lload_n 2, 1, .null, [], z_g0),
  (10, .lload 4, 2, .null, [], z_g0),
  (12, .lxor, 1, .null, [], z_g0),
  (13, .land, 1, .null, [], z_g0),
  (14, .lconst 0, 1, .long (0 : Int64), [], z_g0),
  (15, .lcmp, 1, .null, [], z_g0),
  (16, .ifCond .ge 7, 3, .null, [23], z_g0),
  (19, .iconst 1, 1, .int ((1 : Int32)), [], z_g0),
  (20, .goto 4, 3, .null, [24], z_g0),
  (23, .iconst 0, 1, .int ((0 : Int32)), [], z_g0),
  (24, .istore 6, 2, .null, [], z_g0),
  (26, .iload 6, 2, .null, [], z_g0),
  (28, .ifCond .eq 10, 3, .null, [38], z_g0),
  (31, .lload_n 0, 1, .null, [], z_g0),
  (32, .invokestatic 532, 3, .null, [0, 0], g_X11_boundBy),
  (35, .goto 5, 3, .null, [40], z_g0),
  (38, .lload 4, 2, .null, [], z_g0),
  (40, .lreturn, 1, .null, [], z_g0)]
def a_X11_sumHeld_24 {ρ : Type} (k : Int64 → Int64 → Int32 → z_St → Option ρ) (ls : z_Lv) (st : List Value) (S : z_St) : Option ρ := z_gJ ls 0 fun v0 => z_gJ ls 4 fun v4 => z_pI st fun t0 s0 => z_p0 s0 (k v0 v4 t0 S)
set_option maxRecDepth 100000 in
theorem r_X11_sumHeld_24 (v0 : Int64) (v4 : Int64) (t0 : Int32) (S : z_St) : z_seg z_rL (c_X11_sumHeld) [24] (fun pc => fun _ _ _ => none) 28 (z_to 24 (c_X11_sumHeld)) [(0, .long v0), (4, .long v4)] [.int t0] S = j_X11_sumHeld_24 v0 v4 t0 S := rfl
set_option maxRecDepth 100000 in
theorem r_X11_sumHeld (v0 : Int64) (v2 : Int64) (S : z_St) : z_seg z_rL (c_X11_sumHeld) [24] (fun pc => cond (Nat.beq pc 24) (a_X11_sumHeld_24 (j_X11_sumHeld_24)) (fun _ _ _ => none)) 28 (c_X11_sumHeld) [(0, .long v0), (2, .long v2)] [] S = b_X11_sumHeld v0 v2 S := rfl
def j_X11_differenceHeld_23 (v0 : Int64) (v4 : Int64) (t0 : Int32) (S : z_St) : Option (Int64 × z_St) :=
if t0 = 0 then
(some (v4, S))
else
((f_X11_boundBy v0 S).bind fun q2 =>
some (q2.1, q2.2))
def b_X11_differenceHeld (v0 : Int64) (v2 : Int64) (S : z_St) : Option (Int64 × z_St) :=
let x1 := v0 - v2
if 0 ≤ (lg_cmp ((v0 ^^^ v2) &&& (v0 ^^^ x1)) ((0 : Int64))) then
(j_X11_differenceHeld_23 v0 x1 ((0 : Int32)) S)
else
(j_X11_differenceHeld_23 v0 x1 ((1 : Int32)) S)
def f_X11_differenceHeld : Int64 → Int64 → z_St → Option (Int64 × z_St) := z_op (b_X11_differenceHeld)
theorem e_X11_differenceHeld (v0 : Int64) (v2 : Int64) (S : z_St) : f_X11_differenceHeld v0 v2 S = b_X11_differenceHeld v0 v2 S := congrFun (congrFun (congrFun (z_op_eq (b_X11_differenceHeld)) v0) v2) S
def g_X11_differenceHeld : z_G := .inr (.inl (fun as S => match as with
  | [.long v0, .long v2] => f_X11_differenceHeld v0 v2 S
  | _ => none))
def c_X11_differenceHeld : List z_E := [
  (0, .lload_n 0, 1, .null, [], z_g0),
  (1, .lload_n 2, 1, .null, [], z_g0),
  (2, .lsub, 1, .null, [], z_g0),
  (3, .lstore 4, 2, .null, [], z_g0),
  (5, .lload_n 0, 1, .null, [], z_g0),
  (6, .lload_n 2, 1, .null, [], z_g0),
  (7, .lxor, 1, .null, [], z_g0),
  (8, .lload_n 0, 1, .null, [], z_g0),
  (9, .lload 4, 2, .null, [], z_g0),
  (11, .lxor, 1, .null, [], z_g0),
  (12, .land, 1, .null, [], z_g0),
  (13, .lconst 0, 1, .long (0 : Int64), [], z_g0),
  (14, .lcmp, 1, .null, [], z_g0),
  (15, .ifCond .ge 7, 3, .null, [22], z_g0),
  (18, .iconst 1, 1, .int ((1 : Int32)), [], z_g0),
  (19, .goto 4, 3, .null, [23], z_g0),
  (22, .iconst 0, 1, .int ((0 : Int32)), [], z_g0),
  (23, .istore 6, 2, .null, [], z_g0),
  (25, .iload 6, 2, .null, [], z_g0),
  (27, .ifCond .eq 10, 3, .null, [37], z_g0),
  (30, .lload_n 0, 1, .null, [], z_g0),
  (31, .invokestatic 532, 3, .null, [0, 0], g_X11_boundBy),
  (34, .goto 5, 3, .null, [39], z_g0),
  (37, .lload 4, 2, .null, [], z_g0),
  (39, .lreturn, 1, .null, [], z_g0)]
def a_X11_differenceHeld_23 {ρ : Type} (k : Int64 → Int64 → Int32 → z_St → Option ρ) (ls : z_Lv) (st : List Value) (S : z_St) : Option ρ := z_gJ ls 0 fun v0 => z_gJ ls 4 fun v4 => z_pI st fun t0 s0 => z_p0 s0 (k v0 v4 t0 S)
set_option maxRecDepth 100000 in
theorem r_X11_differenceHeld_23 (v0 : Int64) (v4 : Int64) (t0 : Int32) (S : z_St) : z_seg z_rL (c_X11_differenceHeld) [23] (fun pc => fun _ _ _ => none) 28 (z_to 23 (c_X11_differenceHeld)) [(0, .long v0), (4, .long v4)] [.int t0] S = j_X11_differenceHeld_23 v0 v4 t0 S := rfl
set_option maxRecDepth 100000 in
theorem r_X11_differenceHeld (v0 : Int64) (v2 : Int64) (S : z_St) : z_seg z_rL (c_X11_differenceHeld) [23] (fun pc => cond (Nat.beq pc 23) (a_X11_differenceHeld_23 (j_X11_differenceHeld_23)) (fun _ _ _ => none)) 28 (c_X11_differenceHeld) [(0, .long v0), (2, .long v2)] [] S = b_X11_differenceHeld v0 v2 S := rfl
def j_X11_quotient_122 (v0 : Nat) (v6 : Int32) (t0 : Int64) (S : z_St) : Option (Int64 × z_St) :=
if v6 = 0 then
(z_chk S v0 12 (
(f_X11_passesLong v0 t0 S).bind fun q7 =>
some (q7.1, q7.2)))
else
(z_chk S v0 12 (
(f_X11_passesLong v0 t0.toInt32.toInt64 S).bind fun q8 =>
some (q8.1, q8.2)))
def j_X11_quotient_85 (v0 : Nat) (v5 : Int32) (v6 : Int32) (v7 : Int64) (t0 : Int64) (S : z_St) : Option (Int64 × z_St) :=
if (lg_cmp t0 ((0 : Int64))) = 0 then
(z_chk S v0 12 (
(f_X11_fails v0 ((6 : Int32)) S).bind fun q6 =>
some (q6.1.toInt64, q6.2)))
else
(z_nz ((2 : Int32)) (
if (v5 - v5 / ((2 : Int32)) * ((2 : Int32))) = 0 then
(z_nzl t0 (
j_X11_quotient_122 v0 v6 (v7 / t0) S))
else
(z_nzl t0 (
j_X11_quotient_122 v0 v6 (v7 - v7 / t0 * t0) S))))
def j_X11_quotient_71 (v0 : Nat) (v3 : Int64) (v5 : Int32) (v6 : Int32) (t0 : Int64) (S : z_St) : Option (Int64 × z_St) :=
if v6 = 0 then
(j_X11_quotient_85 v0 v5 v6 t0 v3 S)
else
(j_X11_quotient_85 v0 v5 v6 t0 v3.toInt32.toInt64 S)
def j_X11_quotient_57 (v0 : Nat) (v1 : Int64) (v3 : Int64) (v5 : Int32) (t0 : Int32) (S : z_St) : Option (Int64 × z_St) :=
if t0 = 0 then
(j_X11_quotient_71 v0 v3 v5 t0 v1 S)
else
(j_X11_quotient_71 v0 v3 v5 t0 v1.toInt32.toInt64 S)
def b_X11_quotient (v0 : Nat) (v1 : Int64) (v3 : Int64) (v5 : Int32) (S : z_St) : Option (Int64 × z_St) :=
(f_X11_outOf v5 ((0 : Int32)) ((5 : Int32)) S).bind fun q1 =>
if q1.1 = 0 then
(if v5 = ((4 : Int32)) then
((f_X11_sumHeld v1 v3 q1.2).bind fun q4 =>
z_chk q4.2 v0 12 (
(f_X11_passesLong v0 q4.1 q4.2).bind fun q5 =>
some (q5.1, q5.2)))
else
(if v5 = ((5 : Int32)) then
((f_X11_differenceHeld v1 v3 q1.2).bind fun q2 =>
z_chk q2.2 v0 12 (
(f_X11_passesLong v0 q2.1 q2.2).bind fun q3 =>
some (q3.1, q3.2)))
else
(if v5 < ((2 : Int32)) then
(j_X11_quotient_57 v0 v1 v3 v5 ((0 : Int32)) q1.2)
else
(j_X11_quotient_57 v0 v1 v3 v5 ((1 : Int32)) q1.2))))
else
(some ((-2000000002 : Int64), q1.2))
def f_X11_quotient : Nat → Int64 → Int64 → Int32 → z_St → Option (Int64 × z_St) := z_op (b_X11_quotient)
theorem e_X11_quotient (v0 : Nat) (v1 : Int64) (v3 : Int64) (v5 : Int32) (S : z_St) : f_X11_quotient v0 v1 v3 v5 S = b_X11_quotient v0 v1 v3 v5 S := congrFun (congrFun (congrFun (congrFun (congrFun (z_op_eq (b_X11_quotient)) v0) v1) v3) v5) S
def g_X11_quotient : z_G := .inr (.inl (fun as S => match as with
  | [.ref v0, .long v1, .long v3, .int v5] => f_X11_quotient v0 v1 v3 v5 S
  | _ => none))
def c_X11_quotient : List z_E := [
  (0, .iload 5, 2, .null, [], z_g0),
  (2, .iconst 0, 1, .int ((0 : Int32)), [], z_g0),
  (3, .iconst 5, 1, .int ((5 : Int32)), [], z_g0),
  (4, .invokestatic 81, 3, .null, [0, 0, 0, 0], g_X11_outOf),
  (7, .ifCond .eq 7, 3, .null, [14], z_g0),
  (10, .ldc2_w 244, 3, .long (-2000000002 : Int64), [], z_g0),
  (13, .lreturn, 1, .null, [], z_g0),
  (14, .iload 5, 2, .null, [], z_g0),
  (16, .iconst 4, 1, .int ((4 : Int32)), [], z_g0),
  (17, .if_icmp .ne 13, 3, .null, [30], z_g0),
  (20, .aload_n 0, 1, .null, [], z_g0),
  (21, .lload_n 1, 1, .null, [], z_g0),
  (22, .lload_n 3, 1, .null, [], z_g0),
  (23, .invokestatic 271, 3, .null, [0, 0, 0], g_X11_sumHeld),
  (26, .invokevirtual 135, 3, .null, [1, 12, 0], g_X11_passesLong),
  (29, .lreturn, 1, .null, [], z_g0),
  (30, .iload 5, 2, .null, [], z_g0),
  (32, .iconst 5, 1, .int ((5 : Int32)), [], z_g0),
  (33, .if_icmp .ne 13, 3, .null, [46], z_g0),
  (36, .aload_n 0, 1, .null, [], z_g0),
  (37, .lload_n 1, 1, .null, [], z_g0),
  (38, .lload_n 3, 1, .null, [], z_g0),
  (39, .invokestatic 275, 3, .null, [0, 0, 0], g_X11_differenceHeld),
  (42, .invokevirtual 135, 3, .null, [1, 12, 0], g_X11_passesLong),
  (45, .lreturn, 1, .null, [], z_g0),
  (46, .iload 5, 2, .null, [], z_g0),
  (48, .iconst 2, 1, .int ((2 : Int32)), [], z_g0),
  (49, .if_icmp .lt 7, 3, .null, [56], z_g0),
  (52, .iconst 1, 1, .int ((1 : Int32)), [], z_g0),
  (53, .goto 4, 3, .null, [57], z_g0),
  (56, .iconst 0, 1, .int ((0 : Int32)), [], z_g0),
  (57, .istore 6, 2, .null, [], z_g0),
  (59, .iload 6, 2, .null, [], z_g0),
  (61, .ifCond .eq 9, 3, .null, [70], z_g0),
  (64, .lload_n 1, 1, .null, [], z_g0),
  (65, .l2i, 1, .null, [], z_g0),
  (66, .i2l, 1, .null, [], z_g0),
  (67, .goto 4, 3, .null, [71], z_g0),
  (70, .lload_n 1, 1, .null, [], z_g0),
  (71, .lstore 7, 2, .null, [], z_g0),
  (73, .iload 6, 2, .null, [], z_g0),
  (75, .ifCond .eq 9, 3, .null, [84], z_g0),
  (78, .lload_n 3, 1, .null, [], z_g0),
  (79, .l2i, 1, .null, [], z_g0),
  (80, .i2l, 1, .null, [], z_g0),
  (81, .goto 4, 3, .null, [85], z_g0),
  (84, .lload_n 3, 1, .null, [], z_g0),
  (85, .lstore 9, 2, .null, [], z_g0),
  (87, .lload 9, 2, .null, [], z_g0),
  (89, .lconst 0, 1, .long (0 : Int64), [], z_g0),
  (90, .lcmp, 1, .null, [], z_g0),
  (91, .ifCond .ne 11, 3, .null, [102], z_g0),
  (94, .aload_n 0, 1, .null, [], z_g0),
  (95, .bipush 6, 2, .int ((6 : Int32)), [], z_g0),
  (97, .invokevirtual 91, 3, .null, [1, 12, 0], g_X11_fails),
  (100, .i2l, 1, .null, [], z_g0),
  (101, .lreturn, 1, .null, [], z_g0),
  (102, .iload 5, 2, .null, [], z_g0),
  (104, .iconst 2, 1, .int ((2 : Int32)), [], z_g0),
  (105, .irem, 1, .null, [], z_g0),
  (106, .ifCond .ne 11, 3, .null, [117], z_g0),
  (109, .lload 7, 2, .null, [], z_g0),
  (111, .lload 9, 2, .null, [], z_g0),
  (113, .ldiv, 1, .null, [], z_g0),
  (114, .goto 8, 3, .null, [122], z_g0),
  (117, .lload 7, 2, .null, [], z_g0),
  (119, .lload 9, 2, .null, [], z_g0),
  (121, .lrem, 1, .null, [], z_g0),
  (122, .lstore 11, 2, .null, [], z_g0),
  (124, .aload_n 0, 1, .null, [], z_g0),
  (125, .iload 6, 2, .null, [], z_g0),
  (127, .ifCond .eq 10, 3, .null, [137], z_g0),
  (130, .lload 11, 2, .null, [], z_g0),
  (132, .l2i, 1, .null, [], z_g0),
  (133, .i2l, 1, .null, [], z_g0),
  (134, .goto 5, 3, .null, [139], z_g0),
  (137, .lload 11, 2, .null, [], z_g0),
  (139, .invokevirtual 135, 3, .null, [1, 12, 0], g_X11_passesLong),
  (142, .lreturn, 1, .null, [], z_g0)]
def a_X11_quotient_57 {ρ : Type} (k : Nat → Int64 → Int64 → Int32 → Int32 → z_St → Option ρ) (ls : z_Lv) (st : List Value) (S : z_St) : Option ρ := z_gR ls 0 fun v0 => z_gJ ls 1 fun v1 => z_gJ ls 3 fun v3 => z_gI ls 5 fun v5 => z_pI st fun t0 s0 => z_p0 s0 (k v0 v1 v3 v5 t0 S)
def a_X11_quotient_71 {ρ : Type} (k : Nat → Int64 → Int32 → Int32 → Int64 → z_St → Option ρ) (ls : z_Lv) (st : List Value) (S : z_St) : Option ρ := z_gR ls 0 fun v0 => z_gJ ls 3 fun v3 => z_gI ls 5 fun v5 => z_gI ls 6 fun v6 => z_pJ st fun t0 s0 => z_p0 s0 (k v0 v3 v5 v6 t0 S)
def a_X11_quotient_85 {ρ : Type} (k : Nat → Int32 → Int32 → Int64 → Int64 → z_St → Option ρ) (ls : z_Lv) (st : List Value) (S : z_St) : Option ρ := z_gR ls 0 fun v0 => z_gI ls 5 fun v5 => z_gI ls 6 fun v6 => z_gJ ls 7 fun v7 => z_pJ st fun t0 s0 => z_p0 s0 (k v0 v5 v6 v7 t0 S)
def a_X11_quotient_122 {ρ : Type} (k : Nat → Int32 → Int64 → z_St → Option ρ) (ls : z_Lv) (st : List Value) (S : z_St) : Option ρ := z_gR ls 0 fun v0 => z_gI ls 6 fun v6 => z_pJ st fun t0 s0 => z_p0 s0 (k v0 v6 t0 S)
set_option maxRecDepth 100000 in
theorem r_X11_quotient_122 (v0 : Nat) (v6 : Int32) (t0 : Int64) (S : z_St) : z_seg z_rL (c_X11_quotient) [57, 71, 85, 122] (fun pc => fun _ _ _ => none) 82 (z_to 122 (c_X11_quotient)) [(0, .ref v0), (6, .int v6)] [.long t0] S = j_X11_quotient_122 v0 v6 t0 S := rfl
set_option maxRecDepth 100000 in
theorem r_X11_quotient_85 (v0 : Nat) (v5 : Int32) (v6 : Int32) (v7 : Int64) (t0 : Int64) (S : z_St) : z_seg z_rL (c_X11_quotient) [57, 71, 85, 122] (fun pc => cond (Nat.beq pc 122) (a_X11_quotient_122 (j_X11_quotient_122)) (fun _ _ _ => none)) 82 (z_to 85 (c_X11_quotient)) [(0, .ref v0), (5, .int v5), (6, .int v6), (7, .long v7)] [.long t0] S = j_X11_quotient_85 v0 v5 v6 v7 t0 S := rfl
set_option maxRecDepth 100000 in
theorem r_X11_quotient_71 (v0 : Nat) (v3 : Int64) (v5 : Int32) (v6 : Int32) (t0 : Int64) (S : z_St) : z_seg z_rL (c_X11_quotient) [57, 71, 85, 122] (fun pc => cond (Nat.beq pc 85) (a_X11_quotient_85 (j_X11_quotient_85)) (fun _ _ _ => none)) 82 (z_to 71 (c_X11_quotient)) [(0, .ref v0), (3, .long v3), (5, .int v5), (6, .int v6)] [.long t0] S = j_X11_quotient_71 v0 v3 v5 v6 t0 S := rfl
set_option maxRecDepth 100000 in
theorem r_X11_quotient_57 (v0 : Nat) (v1 : Int64) (v3 : Int64) (v5 : Int32) (t0 : Int32) (S : z_St) : z_seg z_rL (c_X11_quotient) [57, 71, 85, 122] (fun pc => cond (Nat.beq pc 71) (a_X11_quotient_71 (j_X11_quotient_71)) (fun _ _ _ => none)) 82 (z_to 57 (c_X11_quotient)) [(0, .ref v0), (1, .long v1), (3, .long v3), (5, .int v5)] [.int t0] S = j_X11_quotient_57 v0 v1 v3 v5 t0 S := rfl
set_option maxRecDepth 100000 in
theorem r_X11_quotient (v0 : Nat) (v1 : Int64) (v3 : Int64) (v5 : Int32) (S : z_St) : z_seg z_rL (c_X11_quotient) [57, 71, 85, 122] (fun pc => cond (Nat.beq pc 57) (a_X11_quotient_57 (j_X11_quotient_57)) (fun _ _ _ => none)) 82 (c_X11_quotient) [(0, .ref v0), (1, .long v1), (3, .long v3), (5, .int v5)] [] S = b_X11_quotient v0 v1 v3 v5 S := rfl
def b_X11_step (v0 : Nat) (v1 : Int32) (v2 : Int32) (v3 : Int32) (v4 : Int32) (v5 : Int32) (v6 : Int32) (S : z_St) : Option (Int32 × z_St) :=
(f_X11_outOf v1 ((0 : Int32)) ((11 : Int32)) S).bind fun q1 =>
if q1.1 = 0 then
((f_X0_isStep v2 v3 v4 v5 v6 q1.2).bind fun q2 =>
if q2.1 = 0 then
(some ((-2000000002 : Int32), q2.2))
else
(z_chk q2.2 v0 12 (
z_onV (va_rf (z_r q2.2 v0 12)) fun b3 =>
z_chk q2.2 b3 1 (
z_onV (va_rf (z_r q2.2 b3 1)) fun b4 =>
z_inb q2.2 b4 101 v1 (
if ((z_i q2.2 b4 v1.toNatClampNeg)) < ((12 : Int32)) then
(z_chk q2.2 v0 12 (
z_onV (va_rf (z_r q2.2 v0 12)) fun b5 =>
z_chk q2.2 b5 1 (
(f_X0_keepStep b5 v1 v2 v3 v4 v5 v6 q2.2).bind fun q6 =>
z_chk q6 v0 12 (
z_onV (va_rf (z_r q6 v0 12)) fun b7 =>
z_chk q6 b7 1 (
z_onV (va_rf (z_r q6 b7 1)) fun b8 =>
z_inb q6 b8 101 v1 (
some ((z_i q6 b8 v1.toNatClampNeg), q6)))))))
else
(some ((-2000000004 : Int32), q2.2)))))))
else
(some ((-2000000001 : Int32), q1.2))
def f_X11_step : Nat → Int32 → Int32 → Int32 → Int32 → Int32 → Int32 → z_St → Option (Int32 × z_St) := z_op (b_X11_step)
theorem e_X11_step (v0 : Nat) (v1 : Int32) (v2 : Int32) (v3 : Int32) (v4 : Int32) (v5 : Int32) (v6 : Int32) (S : z_St) : f_X11_step v0 v1 v2 v3 v4 v5 v6 S = b_X11_step v0 v1 v2 v3 v4 v5 v6 S := congrFun (congrFun (congrFun (congrFun (congrFun (congrFun (congrFun (congrFun (z_op_eq (b_X11_step)) v0) v1) v2) v3) v4) v5) v6) S
def g_X11_step : z_G := .inl (fun as S => match as with
  | [.ref v0, .int v1, .int v2, .int v3, .int v4, .int v5, .int v6] => f_X11_step v0 v1 v2 v3 v4 v5 v6 S
  | _ => none)
def c_X11_step : List z_E := [
  (0, .iload_n 1, 1, .null, [], z_g0),
  (1, .iconst 0, 1, .int ((0 : Int32)), [], z_g0),
  (2, .bipush 11, 2, .int ((11 : Int32)), [], z_g0),
  (4, .invokestatic 81, 3, .null, [0, 0, 0, 0], g_X11_outOf),
  (7, .ifCond .eq 6, 3, .null, [13], z_g0),
  (10, .ldc 109, 2, .int (-2000000001 : Int32), [], z_g0),
  (12, .ireturn, 1, .null, [], z_g0),
  (13, .iload_n 2, 1, .null, [], z_g0),
  (14, .iload_n 3, 1, .null, [], z_g0),
  (15, .iload 4, 2, .null, [], z_g0),
  (17, .iload 5, 2, .null, [], z_g0),
  (19, .iload 6, 2, .null, [], z_g0),
  (21, .invokestatic 278, 3, .null, [0, 0, 0, 0, 0, 0], g_X0_isStep),
  (24, .ifCond .ne 6, 3, .null, [30], z_g0),
  (27, .ldc 85, 2, .int (-2000000002 : Int32), [], z_g0),
  (29, .ireturn, 1, .null, [], z_g0),
  (30, .aload_n 0, 1, .null, [], z_g0),
  (31, .getfield 49, 3, .null, [12, 12, 3], z_g0),
  (34, .getfield 282, 3, .null, [1, 1, 3], z_g0),
  (37, .iload_n 1, 1, .null, [], z_g0),
  (38, .iaload, 1, .null, [101], z_g0),
  (39, .bipush 12, 2, .int ((12 : Int32)), [], z_g0),
  (41, .if_icmp .lt 6, 3, .null, [47], z_g0),
  (44, .ldc 90, 2, .int (-2000000004 : Int32), [], z_g0),
  (46, .ireturn, 1, .null, [], z_g0),
  (47, .aload_n 0, 1, .null, [], z_g0),
  (48, .getfield 49, 3, .null, [12, 12, 3], z_g0),
  (51, .iload_n 1, 1, .null, [], z_g0),
  (52, .iload_n 2, 1, .null, [], z_g0),
  (53, .iload_n 3, 1, .null, [], z_g0),
  (54, .iload 4, 2, .null, [], z_g0),
  (56, .iload 5, 2, .null, [], z_g0),
  (58, .iload 6, 2, .null, [], z_g0),
  (60, .invokevirtual 285, 3, .null, [1, 1, 0, 0, 0, 0, 0, 0], g_X0_keepStep),
  (63, .aload_n 0, 1, .null, [], z_g0),
  (64, .getfield 49, 3, .null, [12, 12, 3], z_g0),
  (67, .getfield 282, 3, .null, [1, 1, 3], z_g0),
  (70, .iload_n 1, 1, .null, [], z_g0),
  (71, .iaload, 1, .null, [101], z_g0),
  (72, .ireturn, 1, .null, [], z_g0)]
set_option maxRecDepth 100000 in
theorem r_X11_step (v0 : Nat) (v1 : Int32) (v2 : Int32) (v3 : Int32) (v4 : Int32) (v5 : Int32) (v6 : Int32) (S : z_St) : z_seg z_rI (c_X11_step) [] (fun pc => fun _ _ _ => none) 43 (c_X11_step) [(0, .ref v0), (1, .int v1), (2, .int v2), (3, .int v3), (4, .int v4), (5, .int v5), (6, .int v6)] [] S = b_X11_step v0 v1 v2 v3 v4 v5 v6 S := rfl
def b_X11_wipe (v0 : Nat) (v1 : Int32) (S : z_St) : Option (Int32 × z_St) :=
(f_X11_outOf v1 ((0 : Int32)) ((11 : Int32)) S).bind fun q1 =>
if q1.1 = 0 then
(z_chk q1.2 v0 12 (
z_onV (va_rf (z_r q1.2 v0 12)) fun b2 =>
z_chk q1.2 b2 1 (
z_onV (va_rf (z_r q1.2 b2 1)) fun b3 =>
z_inb q1.2 b3 101 v1 (
let x4 := (z_i q1.2 b3 v1.toNatClampNeg)
z_chk q1.2 v0 12 (
z_onV (va_rf (z_r q1.2 v0 12)) fun b5 =>
z_chk q1.2 b5 1 (
z_onV (va_rf (z_r q1.2 b5 1)) fun b6 =>
z_inb q1.2 b6 101 v1 (
let S7 := z_wi q1.2 b6 v1.toNatClampNeg ((0 : Int32))
some (x4, S7))))))))
else
(some ((-2000000001 : Int32), q1.2))
def f_X11_wipe : Nat → Int32 → z_St → Option (Int32 × z_St) := z_op (b_X11_wipe)
theorem e_X11_wipe (v0 : Nat) (v1 : Int32) (S : z_St) : f_X11_wipe v0 v1 S = b_X11_wipe v0 v1 S := congrFun (congrFun (congrFun (z_op_eq (b_X11_wipe)) v0) v1) S
def g_X11_wipe : z_G := .inl (fun as S => match as with
  | [.ref v0, .int v1] => f_X11_wipe v0 v1 S
  | _ => none)
def c_X11_wipe : List z_E := [
  (0, .iload_n 1, 1, .null, [], z_g0),
  (1, .iconst 0, 1, .int ((0 : Int32)), [], z_g0),
  (2, .bipush 11, 2, .int ((11 : Int32)), [], z_g0),
  (4, .invokestatic 81, 3, .null, [0, 0, 0, 0], g_X11_outOf),
  (7, .ifCond .eq 6, 3, .null, [13], z_g0),
  (10, .ldc 109, 2, .int (-2000000001 : Int32), [], z_g0),
  (12, .ireturn, 1, .null, [], z_g0),
  (13, .aload_n 0, 1, .null, [], z_g0),
  (14, .getfield 49, 3, .null, [12, 12, 3], z_g0),
  (17, .getfield 282, 3, .null, [1, 1, 3], z_g0),
  (20, .iload_n 1, 1, .null, [], z_g0),
  (21, .iaload, 1, .null, [101], z_g0),
  (22, .istore_n 2, 1, .null, [], z_g0),
  (23, .aload_n 0, 1, .null, [], z_g0),
  (24, .getfield 49, 3, .null, [12, 12, 3], z_g0),
  (27, .getfield 282, 3, .null, [1, 1, 3], z_g0),
  (30, .iload_n 1, 1, .null, [], z_g0),
  (31, .iconst 0, 1, .int ((0 : Int32)), [], z_g0),
  (32, .iastore, 1, .null, [], z_g0),
  (33, .iload_n 2, 1, .null, [], z_g0),
  (34, .ireturn, 1, .null, [], z_g0)]
set_option maxRecDepth 100000 in
theorem r_X11_wipe (v0 : Nat) (v1 : Int32) (S : z_St) : z_seg z_rI (c_X11_wipe) [] (fun pc => fun _ _ _ => none) 24 (c_X11_wipe) [(0, .ref v0), (1, .int v1)] [] S = b_X11_wipe v0 v1 S := rfl
def b_X11_raised (v0 : Nat) (v1 : Int32) (S : z_St) : Option (Int32 × z_St) :=
if v1 = (0 : Int32) then
(z_chk S v0 12 (
some ((z_i S v0 17), S)))
else
if v1 = (1 : Int32) then
(z_chk S v0 12 (
some ((z_i S v0 18), S)))
else
if v1 = (2 : Int32) then
(z_chk S v0 12 (
z_onV (va_rf (z_r S v0 12)) fun b1 =>
z_chk S b1 1 (
some ((z_i S b1 7), S))))
else
if v1 = (3 : Int32) then
(z_chk S v0 12 (
z_onV (va_rf (z_r S v0 12)) fun b2 =>
z_chk S b2 1 (
some ((z_i S b2 8), S))))
else
if v1 = (4 : Int32) then
(z_chk S v0 12 (
z_onV (va_rf (z_r S v0 12)) fun b3 =>
z_chk S b3 1 (
some ((z_i S b3 9), S))))
else
(some ((-2000000002 : Int32), S))
def f_X11_raised : Nat → Int32 → z_St → Option (Int32 × z_St) := z_op (b_X11_raised)
theorem e_X11_raised (v0 : Nat) (v1 : Int32) (S : z_St) : f_X11_raised v0 v1 S = b_X11_raised v0 v1 S := congrFun (congrFun (congrFun (z_op_eq (b_X11_raised)) v0) v1) S
def g_X11_raised : z_G := .inl (fun as S => match as with
  | [.ref v0, .int v1] => f_X11_raised v0 v1 S
  | _ => none)
def c_X11_raised : List z_E := [
  (0, .iload_n 1, 1, .null, [], z_g0),
  (1, .tableswitch 69 0 4 #[35, 40, 45, 53, 61], 35, .null, [70, 0, 36, 41, 46, 54, 62], z_g0),
  (36, .aload_n 0, 1, .null, [], z_g0),
  (37, .getfield 299, 3, .null, [12, 17, 0], z_g0),
  (40, .ireturn, 1, .null, [], z_g0),
  (41, .aload_n 0, 1, .null, [], z_g0),
  (42, .getfield 302, 3, .null, [12, 18, 0], z_g0),
  (45, .ireturn, 1, .null, [], z_g0),
  (46, .aload_n 0, 1, .null, [], z_g0),
  (47, .getfield 49, 3, .null, [12, 12, 3], z_g0),
  (50, .getfield 305, 3, .null, [1, 7, 0], z_g0),
  (53, .ireturn, 1, .null, [], z_g0),
  (54, .aload_n 0, 1, .null, [], z_g0),
  (55, .getfield 49, 3, .null, [12, 12, 3], z_g0),
  (58, .getfield 308, 3, .null, [1, 8, 0], z_g0),
  (61, .ireturn, 1, .null, [], z_g0),
  (62, .aload_n 0, 1, .null, [], z_g0),
  (63, .getfield 49, 3, .null, [12, 12, 3], z_g0),
  (66, .getfield 311, 3, .null, [1, 9, 0], z_g0),
  (69, .ireturn, 1, .null, [], z_g0),
  (70, .ldc 85, 2, .int (-2000000002 : Int32), [], z_g0),
  (72, .ireturn, 1, .null, [], z_g0)]
set_option maxRecDepth 100000 in
theorem r_X11_raised (v0 : Nat) (v1 : Int32) (S : z_St) : z_seg z_rI (c_X11_raised) [] (fun pc => fun _ _ _ => none) 25 (c_X11_raised) [(0, .ref v0), (1, .int v1)] [] S = b_X11_raised v0 v1 S := rfl
end
