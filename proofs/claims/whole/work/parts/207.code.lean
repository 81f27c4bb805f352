noncomputable section
def l_X12_bare_25 : Nat → Nat → Int32 → Int32 → Int32 → Int32 → Int32 → z_St → Option (Int32 × z_St)
  | 0 => fun _ _ _ _ _ _ _ => none
  | n + 1 => fun (v0 : Nat) (v1 : Int32) (v2 : Int32) (v3 : Int32) (v4 : Int32) (v5 : Int32) (S : z_St) =>
z_chk S v0 13 (
z_onV (va_rf (z_r S v0 10)) fun b3 =>
z_inb S b3 101 v1 (
if ((z_i S b3 v1.toNatClampNeg)) ≤ v5 then
(if v2 = ((-1 : Int32)) then
(some (v3, S))
else
(some (v4, S)))
else
(z_chk S v0 13 (
z_onV (va_rf (z_r S v0 11)) fun b4 =>
z_inb S b4 101 ((((16 : Int32)) * v1) + v5) (
if ((z_i S b4 ((((16 : Int32)) * v1) + v5).toNatClampNeg)) = ((-1 : Int32)) then
(if v3 = v2 then
(let x8 := v3 + (1 : Int32)
let x9 := v5 + (1 : Int32)
l_X12_bare_25 n v0 v1 v2 x8 v5 x9 S)
else
(let x6 := v3 + (1 : Int32)
let x7 := v5 + (1 : Int32)
l_X12_bare_25 n v0 v1 v2 x6 v4 x7 S))
else
(let x5 := v5 + (1 : Int32)
l_X12_bare_25 n v0 v1 v2 v3 v4 x5 S))))))
def b_X12_bare (v0 : Nat) (v1 : Int32) (v2 : Int32) (S : z_St) : Option (Int32 × z_St) :=
z_chk S v0 13 (
let S1 := z_wi S v0 0 ((0 : Int32))
z_chk S1 v0 13 (
(f_X12_isBed v0 v1 S1).bind fun q2 =>
if q2.1 = 0 then
(some ((-2000000001 : Int32), q2.2))
else
(l_X12_bare_25 z_N v0 v1 v2 ((0 : Int32)) ((-1 : Int32)) ((0 : Int32)) q2.2)))
def f_X12_bare : Nat → Int32 → Int32 → z_St → Option (Int32 × z_St) := z_op (b_X12_bare)
theorem e_X12_bare (v0 : Nat) (v1 : Int32) (v2 : Int32) (S : z_St) : f_X12_bare v0 v1 v2 S = b_X12_bare v0 v1 v2 S := congrFun (congrFun (congrFun (congrFun (z_op_eq (b_X12_bare)) v0) v1) v2) S
def g_X12_bare : z_G := .inl (fun as S => match as with
  | [.ref v0, .int v1, .int v2] => f_X12_bare v0 v1 v2 S
  | _ => none)
def c_X12_bare : List z_E := [
  (0, .aload_n 0, 1, .null, [], z_g0),
  (1, .iconst 0, 1, .int ((0 : Int32)), [], z_g0),
  (2, .putfield 224, 3, .null, [13, 0, 0], z_g0),
  (5, .aload_n 0, 1, .null, [], z_g0),
  (6, .iload_n 1, 1, .null, [], z_g0),
  (7, .invokevirtual 324, 3, .null, [1, 13, 0], g_X12_isBed),
  (10, .ifCond .ne 7, 3, .null, [17], z_g0),
  (13, .ldc_w 296, 3, .int (-2000000001 : Int32), [], z_g0),
  (16, .ireturn, 1, .null, [], z_g0),
  (17, .iconst 0, 1, .int ((0 : Int32)), [], z_g0),
  (18, .istore_n 3, 1, .null, [], z_g0),
  (19, .iconst (-1), 1, .int ((-1 : Int32)), [], z_g0),
  (20, .istore 4, 2, .null, [], z_g0),
  (22, .iconst 0, 1, .int ((0 : Int32)), [], z_g0),
  (23, .istore 5, 2, .null, [], z_g0),
  (25, .iload 5, 2, .null, [], z_g0),
  (27, .aload_n 0, 1, .null, [], z_g0),
  (28, .getfield 26, 3, .null, [13, 10, 3], z_g0),
  (31, .iload_n 1, 1, .null, [], z_g0),
  (32, .iaload, 1, .null, [101], z_g0),
  (33, .if_icmp .ge 42, 3, .null, [75], z_g0),
  (36, .aload_n 0, 1, .null, [], z_g0),
  (37, .getfield 29, 3, .null, [13, 11, 3], z_g0),
  (40, .bipush 16, 2, .int ((16 : Int32)), [], z_g0),
  (42, .iload_n 1, 1, .null, [], z_g0),
  (43, .imul, 1, .null, [], z_g0),
  (44, .iload 5, 2, .null, [], z_g0),
  (46, .iadd, 1, .null, [], z_g0),
  (47, .iaload, 1, .null, [101], z_g0),
  (48, .iconst (-1), 1, .int ((-1 : Int32)), [], z_g0),
  (49, .if_icmp .ne 20, 3, .null, [69], z_g0),
  (52, .iload_n 3, 1, .null, [], z_g0),
  (53, .iload_n 2, 1, .null, [], z_g0),
  (54, .if_icmp .ne 8, 3, .null, [62], z_g0),
  (57, .iload 5, 2, .null, [], z_g0),
  (59, .goto 5, 3, .null, [64], z_g0),
  (62, .iload 4, 2, .null, [], z_g0),
  (64, .istore 4, 2, .null, [], z_g0),
  (66, .iinc 3 1, 3, .int (1 : Int32), [], z_g0),
  (69, .iinc 5 1, 3, .int (1 : Int32), [], z_g0),
  (72, .goto (-47), 3, .null, [25], z_g0),
  (75, .iload_n 2, 1, .null, [], z_g0),
  (76, .iconst (-1), 1, .int ((-1 : Int32)), [], z_g0),
  (77, .if_icmp .ne 7, 3, .null, [84], z_g0),
  (80, .iload_n 3, 1, .null, [], z_g0),
  (81, .goto 5, 3, .null, [86], z_g0),
  (84, .iload 4, 2, .null, [], z_g0),
  (86, .ireturn, 1, .null, [], z_g0)]
def a_X12_bare_25 {ρ : Type} (k : Nat → Int32 → Int32 → Int32 → Int32 → Int32 → z_St → Option ρ) (ls : z_Lv) (st : List Value) (S : z_St) : Option ρ := z_gR ls 0 fun v0 => z_gI ls 1 fun v1 => z_gI ls 2 fun v2 => z_gI ls 3 fun v3 => z_gI ls 4 fun v4 => z_gI ls 5 fun v5 => z_p0 st (k v0 v1 v2 v3 v4 v5 S)
set_option maxRecDepth 100000 in
theorem r_X12_bare_25 (n : Nat) (v0 : Nat) (v1 : Int32) (v2 : Int32) (v3 : Int32) (v4 : Int32) (v5 : Int32) (S : z_St) : z_seg z_rI (c_X12_bare) [25] (fun pc => cond (Nat.beq pc 25) (a_X12_bare_25 (l_X12_bare_25 n)) (fun _ _ _ => none)) 51 (z_to 25 (c_X12_bare)) [(0, .ref v0), (1, .int v1), (2, .int v2), (3, .int v3), (4, .int v4), (5, .int v5)] [] S = l_X12_bare_25 (n + 1) v0 v1 v2 v3 v4 v5 S := rfl
set_option maxRecDepth 100000 in
theorem r_X12_bare (v0 : Nat) (v1 : Int32) (v2 : Int32) (S : z_St) : z_seg z_rI (c_X12_bare) [25] (fun pc => cond (Nat.beq pc 25) (a_X12_bare_25 (l_X12_bare_25 z_N)) (fun _ _ _ => none)) 51 (c_X12_bare) [(0, .ref v0), (1, .int v1), (2, .int v2)] [] S = b_X12_bare v0 v1 v2 S := rfl
def b_X12_noThing (v0 : Nat) (v1 : Int32) (S : z_St) : Option (Int32 × z_St) :=
if v1 = ((-1 : Int32)) then
(z_rb ((0 : Int32)) S)
else
(z_chk S v0 13 (
(f_X12_in v1.toInt64 ((0 : Int64)) ((((z_i S v0 12)) - ((1 : Int32))).toInt64) S).bind fun q1 =>
if q1.1 = 0 then
(z_rb ((1 : Int32)) q1.2)
else
(z_rb ((0 : Int32)) q1.2)))
def f_X12_noThing : Nat → Int32 → z_St → Option (Int32 × z_St) := z_op (b_X12_noThing)
theorem e_X12_noThing (v0 : Nat) (v1 : Int32) (S : z_St) : f_X12_noThing v0 v1 S = b_X12_noThing v0 v1 S := congrFun (congrFun (congrFun (z_op_eq (b_X12_noThing)) v0) v1) S
def g_X12_noThing : z_G := .inl (fun as S => match as with
  | [.ref v0, .int v1] => f_X12_noThing v0 v1 S
  | _ => none)
def c_X12_noThing : List z_E := [
  (0, .iload_n 1, 1, .null, [], z_g0),
  (1, .iconst (-1), 1, .int ((-1 : Int32)), [], z_g0),
  (2, .if_icmp .eq 23, 3, .null, [25], z_g0),
  (5, .iload_n 1, 1, .null, [], z_g0),
  (6, .i2l, 1, .null, [], z_g0),
  (7, .lconst 0, 1, .long (0 : Int64), [], z_g0),
  (8, .aload_n 0, 1, .null, [], z_g0),
  (9, .getfield 331, 3, .null, [13, 12, 0], z_g0),
  (12, .iconst 1, 1, .int ((1 : Int32)), [], z_g0),
  (13, .isub, 1, .null, [], z_g0),
  (14, .i2l, 1, .null, [], z_g0),
  (15, .invokestatic 274, 3, .null, [0, 0, 0, 0], g_X12_in),
  (18, .ifCond .ne 7, 3, .null, [25], z_g0),
  (21, .iconst 1, 1, .int ((1 : Int32)), [], z_g0),
  (22, .goto 4, 3, .null, [26], z_g0),
  (25, .iconst 0, 1, .int ((0 : Int32)), [], z_g0),
  (26, .ireturn, 1, .null, [], z_g0)]
set_option maxRecDepth 100000 in
theorem r_X12_noThing (v0 : Nat) (v1 : Int32) (S : z_St) : z_seg z_rZ (c_X12_noThing) [] (fun pc => fun _ _ _ => none) 20 (c_X12_noThing) [(0, .ref v0), (1, .int v1)] [] S = b_X12_noThing v0 v1 S := rfl
def b_X12_thing (v0 : Nat) (v1 : Int32) (v2 : Int32) (S : z_St) : Option (Int32 × z_St) :=
z_chk S v0 13 (
let S1 := z_wi S v0 0 ((0 : Int32))
(f_X12_in v1.toInt64 ((0 : Int64)) ((5 : Int64)) S1).bind fun q2 =>
if q2.1 = 0 then
(some ((-2000000002 : Int32), q2.2))
else
((f_X12_in v2.toInt64 ((0 : Int64)) ((1000 : Int64)) q2.2).bind fun q3 =>
if q3.1 = 0 then
(some ((-2000000002 : Int32), q3.2))
else
(z_chk q3.2 v0 13 (
if ((z_i q3.2 v0 12)) = ((40 : Int32)) then
(some ((-2000000004 : Int32), q3.2))
else
(z_chk q3.2 v0 13 (
z_chk q3.2 v0 13 (
z_onV (va_rf (z_r q3.2 v0 13)) fun b4 =>
z_inb q3.2 b4 101 ((z_i q3.2 v0 12)) (
let S5 := z_wi q3.2 b4 ((z_i q3.2 v0 12)).toNatClampNeg v1
z_chk S5 v0 13 (
z_chk S5 v0 13 (
z_onV (va_rf (z_r S5 v0 14)) fun b6 =>
z_inb S5 b6 101 ((z_i S5 v0 12)) (
let S7 := z_wi S5 b6 ((z_i S5 v0 12)).toNatClampNeg v2
z_chk S7 v0 13 (
z_chk S7 v0 13 (
let S8 := z_wi S7 v0 12 (((z_i S7 v0 12)) + ((1 : Int32)))
z_chk S8 v0 13 (
some (((z_i S8 v0 12)) - ((1 : Int32)), S8)))))))))))))))
def f_X12_thing : Nat → Int32 → Int32 → z_St → Option (Int32 × z_St) := z_op (b_X12_thing)
theorem e_X12_thing (v0 : Nat) (v1 : Int32) (v2 : Int32) (S : z_St) : f_X12_thing v0 v1 v2 S = b_X12_thing v0 v1 v2 S := congrFun (congrFun (congrFun (congrFun (z_op_eq (b_X12_thing)) v0) v1) v2) S
def g_X12_thing : z_G := .inl (fun as S => match as with
  | [.ref v0, .int v1, .int v2] => f_X12_thing v0 v1 v2 S
  | _ => none)
def c_X12_thing : List z_E := [
  (0, .aload_n 0, 1, .null, [], z_g0),
  (1, .iconst 0, 1, .int ((0 : Int32)), [], z_g0),
  (2, .putfield 224, 3, .null, [13, 0, 0], z_g0),
  (5, .iload_n 1, 1, .null, [], z_g0),
  (6, .i2l, 1, .null, [], z_g0),
  (7, .lconst 0, 1, .long (0 : Int64), [], z_g0),
  (8, .ldc2_w 334, 3, .long (5 : Int64), [], z_g0),
  (11, .invokestatic 274, 3, .null, [0, 0, 0, 0], g_X12_in),
  (14, .ifCond .eq 15, 3, .null, [29], z_g0),
  (17, .iload_n 2, 1, .null, [], z_g0),
  (18, .i2l, 1, .null, [], z_g0),
  (19, .lconst 0, 1, .long (0 : Int64), [], z_g0),
  (20, .ldc2_w 336, 3, .long (1000 : Int64), [], z_g0),
  (23, .invokestatic 274, 3, .null, [0, 0, 0, 0], g_X12_in),
  (26, .ifCond .ne 7, 3, .null, [33], z_g0),
  (29, .ldc_w 280, 3, .int (-2000000002 : Int32), [], z_g0),
  (32, .ireturn, 1, .null, [], z_g0),
  (33, .aload_n 0, 1, .null, [], z_g0),
  (34, .getfield 331, 3, .null, [13, 12, 0], z_g0),
  (37, .bipush 40, 2, .int ((40 : Int32)), [], z_g0),
  (39, .if_icmp .ne 7, 3, .null, [46], z_g0),
  (42, .ldc_w 281, 3, .int (-2000000004 : Int32), [], z_g0),
  (45, .ireturn, 1, .null, [], z_g0),
  (46, .aload_n 0, 1, .null, [], z_g0),
  (47, .getfield 32, 3, .null, [13, 13, 3], z_g0),
  (50, .aload_n 0, 1, .null, [], z_g0),
  (51, .getfield 331, 3, .null, [13, 12, 0], z_g0),
  (54, .iload_n 1, 1, .null, [], z_g0),
  (55, .iastore, 1, .null, [], z_g0),
  (56, .aload_n 0, 1, .null, [], z_g0),
  (57, .getfield 35, 3, .null, [13, 14, 3], z_g0),
  (60, .aload_n 0, 1, .null, [], z_g0),
  (61, .getfield 331, 3, .null, [13, 12, 0], z_g0),
  (64, .iload_n 2, 1, .null, [], z_g0),
  (65, .iastore, 1, .null, [], z_g0),
  (66, .aload_n 0, 1, .null, [], z_g0),
  (67, .dup, 1, .null, [], z_g0),
  (68, .getfield 331, 3, .null, [13, 12, 0], z_g0),
  (71, .iconst 1, 1, .int ((1 : Int32)), [], z_g0),
  (72, .iadd, 1, .null, [], z_g0),
  (73, .putfield 331, 3, .null, [13, 12, 0], z_g0),
  (76, .aload_n 0, 1, .null, [], z_g0),
  (77, .getfield 331, 3, .null, [13, 12, 0], z_g0),
  (80, .iconst 1, 1, .int ((1 : Int32)), [], z_g0),
  (81, .isub, 1, .null, [], z_g0),
  (82, .ireturn, 1, .null, [], z_g0)]
set_option maxRecDepth 100000 in
theorem r_X12_thing (v0 : Nat) (v1 : Int32) (v2 : Int32) (S : z_St) : z_seg z_rI (c_X12_thing) [] (fun pc => fun _ _ _ => none) 49 (c_X12_thing) [(0, .ref v0), (1, .int v1), (2, .int v2)] [] S = b_X12_thing v0 v1 v2 S := rfl
def b_X12_signOf (v0 : Int32) (S : z_St) : Option (Int32 × z_St) :=
if ((2 : Int32)) ≤ v0 then
(if ((4 : Int32)) ≤ v0 then
(some (((27 : Int32)) + v0, S))
else
(some ((21 : Int32), S)))
else
(some (((11 : Int32)) + v0, S))
def f_X12_signOf : Int32 → z_St → Option (Int32 × z_St) := z_op (b_X12_signOf)
theorem e_X12_signOf (v0 : Int32) (S : z_St) : f_X12_signOf v0 S = b_X12_signOf v0 S := congrFun (congrFun (z_op_eq (b_X12_signOf)) v0) S
def g_X12_signOf : z_G := .inl (fun as S => match as with
  | [.int v0] => f_X12_signOf v0 S
  | _ => none)
def c_X12_signOf : List z_E := [
  (0, .iload_n 0, 1, .null, [], z_g0),
  (1, .iconst 2, 1, .int ((2 : Int32)), [], z_g0),
  (2, .if_icmp .ge 10, 3, .null, [12], z_g0),
  (5, .bipush 11, 2, .int ((11 : Int32)), [], z_g0),
  (7, .iload_n 0, 1, .null, [], z_g0),
  (8, .iadd, 1, .null, [], z_g0),
  (9, .goto 17, 3, .null, [26], z_g0),
  (12, .iload_n 0, 1, .null, [], z_g0),
  (13, .iconst 4, 1, .int ((4 : Int32)), [], z_g0),
  (14, .if_icmp .ge 8, 3, .null, [22], z_g0),
  (17, .bipush 21, 2, .int ((21 : Int32)), [], z_g0),
  (19, .goto 7, 3, .null, [26], z_g0),
  (22, .bipush 27, 2, .int ((27 : Int32)), [], z_g0),
  (24, .iload_n 0, 1, .null, [], z_g0),
  (25, .iadd, 1, .null, [], z_g0),
  (26, .ireturn, 1, .null, [], z_g0)]
set_option maxRecDepth 100000 in
theorem r_X12_signOf (v0 : Int32) (S : z_St) : z_seg z_rI (c_X12_signOf) [] (fun pc => fun _ _ _ => none) 19 (c_X12_signOf) [(0, .int v0)] [] S = b_X12_signOf v0 S := rfl
def b_X12_weightOf (v0 : Nat) (v1 : Int32) (S : z_St) : Option (Int32 × z_St) :=
z_chk S v0 13 (
z_onV (va_rf (z_r S v0 13)) fun b1 =>
z_inb S b1 101 v1 (
if ((z_i S b1 v1.toNatClampNeg)) = ((1 : Int32)) then
(z_chk S v0 13 (
z_onV (va_rf (z_r S v0 14)) fun b5 =>
z_inb S b5 101 v1 (
some (((z_i S b5 v1.toNatClampNeg)) + ((7 : Int32)), S))))
else
(z_chk S v0 13 (
z_onV (va_rf (z_r S v0 13)) fun b2 =>
z_inb S b2 101 v1 (
if ((z_i S b2 v1.toNatClampNeg)) = ((5 : Int32)) then
(z_chk S v0 13 (
z_onV (va_rf (z_r S v0 14)) fun b4 =>
z_inb S b4 101 v1 (
some (((2 : Int32)) * ((z_i S b4 v1.toNatClampNeg)), S))))
else
(z_chk S v0 13 (
z_onV (va_rf (z_r S v0 14)) fun b3 =>
z_inb S b3 101 v1 (
some ((z_i S b3 v1.toNatClampNeg), S)))))))))
def f_X12_weightOf : Nat → Int32 → z_St → Option (Int32 × z_St) := z_op (b_X12_weightOf)
theorem e_X12_weightOf (v0 : Nat) (v1 : Int32) (S : z_St) : f_X12_weightOf v0 v1 S = b_X12_weightOf v0 v1 S := congrFun (congrFun (congrFun (z_op_eq (b_X12_weightOf)) v0) v1) S
def g_X12_weightOf : z_G := .inl (fun as S => match as with
  | [.ref v0, .int v1] => f_X12_weightOf v0 v1 S
  | _ => none)
def c_X12_weightOf : List z_E := [
  (0, .aload_n 0, 1, .null, [], z_g0),
  (1, .getfield 32, 3, .null, [13, 13, 3], z_g0),
  (4, .iload_n 1, 1, .null, [], z_g0),
  (5, .iaload, 1, .null, [101], z_g0),
  (6, .iconst 1, 1, .int ((1 : Int32)), [], z_g0),
  (7, .if_icmp .ne 15, 3, .null, [22], z_g0),
  (10, .aload_n 0, 1, .null, [], z_g0),
  (11, .getfield 35, 3, .null, [13, 14, 3], z_g0),
  (14, .iload_n 1, 1, .null, [], z_g0),
  (15, .iaload, 1, .null, [101], z_g0),
  (16, .bipush 7, 2, .int ((7 : Int32)), [], z_g0),
  (18, .iadd, 1, .null, [], z_g0),
  (19, .goto 30, 3, .null, [49], z_g0),
  (22, .aload_n 0, 1, .null, [], z_g0),
  (23, .getfield 32, 3, .null, [13, 13, 3], z_g0),
  (26, .iload_n 1, 1, .null, [], z_g0),
  (27, .iaload, 1, .null, [101], z_g0),
  (28, .iconst 5, 1, .int ((5 : Int32)), [], z_g0),
  (29, .if_icmp .ne 14, 3, .null, [43], z_g0),
  (32, .iconst 2, 1, .int ((2 : Int32)), [], z_g0),
  (33, .aload_n 0, 1, .null, [], z_g0),
  (34, .getfield 35, 3, .null, [13, 14, 3], z_g0),
  (37, .iload_n 1, 1, .null, [], z_g0),
  (38, .iaload, 1, .null, [101], z_g0),
  (39, .imul, 1, .null, [], z_g0),
  (40, .goto 9, 3, .null, [49], z_g0),
  (43, .aload_n 0, 1, .null, [], z_g0),
  (44, .getfield 35, 3, .null, [13, 14, 3], z_g0),
  (47, .iload_n 1, 1, .null, [], z_g0),
  (48, .iaload, 1, .null, [101], z_g0),
  (49, .ireturn, 1, .null, [], z_g0)]
set_option maxRecDepth 100000 in
theorem r_X12_weightOf (v0 : Nat) (v1 : Int32) (S : z_St) : z_seg z_rI (c_X12_weightOf) [] (fun pc => fun _ _ _ => none) 34 (c_X12_weightOf) [(0, .ref v0), (1, .int v1)] [] S = b_X12_weightOf v0 v1 S := rfl
def b_X12_fits (v0 : Int32) (v1 : Int32) (S : z_St) : Option (Int32 × z_St) :=
if ((6 : Int32)) ≤ v0 then
(if v0 = ((6 : Int32)) then
(if ((2 : Int32)) ≤ v1 then
(z_rb ((0 : Int32)) S)
else
(z_rb ((1 : Int32)) S))
else
(if v0 = ((7 : Int32)) then
(if v1 ≤ ((1 : Int32)) then
(z_rb ((0 : Int32)) S)
else
(z_rb ((1 : Int32)) S))
else
(if v0 = ((8 : Int32)) then
(z_nz ((2 : Int32)) (
if (v1 - v1 / ((2 : Int32)) * ((2 : Int32))) = ((1 : Int32)) then
(z_rb ((1 : Int32)) S)
else
(z_rb ((0 : Int32)) S)))
else
(z_rb ((1 : Int32)) S))))
else
(if v1 = v0 then
(z_rb ((1 : Int32)) S)
else
(z_nz ((2 : Int32)) (
if (v0 - v0 / ((2 : Int32)) * ((2 : Int32))) = 0 then
(if v1 = (v0 + ((1 : Int32))) then
(z_rb ((1 : Int32)) S)
else
(z_rb ((0 : Int32)) S))
else
(z_rb ((0 : Int32)) S))))
def f_X12_fits : Int32 → Int32 → z_St → Option (Int32 × z_St) := z_op (b_X12_fits)
theorem e_X12_fits (v0 : Int32) (v1 : Int32) (S : z_St) : f_X12_fits v0 v1 S = b_X12_fits v0 v1 S := congrFun (congrFun (congrFun (z_op_eq (b_X12_fits)) v0) v1) S
def g_X12_fits : z_G := .inl (fun as S => match as with
  | [.int v0, .int v1] => f_X12_fits v0 v1 S
  | _ => none)
def c_X12_fits : List z_E := [
  (0, .iload_n 0, 1, .null, [], z_g0),
  (1, .bipush 6, 2, .int ((6 : Int32)), [], z_g0),
  (3, .if_icmp .ge 27, 3, .null, [30], z_g0),
  (6, .iload_n 1, 1, .null, [], z_g0),
  (7, .iload_n 0, 1, .null, [], z_g0),
  (8, .if_icmp .eq 16, 3, .null, [24], z_g0),
  (11, .iload_n 0, 1, .null, [], z_g0),
  (12, .iconst 2, 1, .int ((2 : Int32)), [], z_g0),
  (13, .irem, 1, .null, [], z_g0),
  (14, .ifCond .ne 14, 3, .null, [28], z_g0),
  (17, .iload_n 1, 1, .null, [], z_g0),
  (18, .iload_n 0, 1, .null, [], z_g0),
  (19, .iconst 1, 1, .int ((1 : Int32)), [], z_g0),
  (20, .iadd, 1, .null, [], z_g0),
  (21, .if_icmp .ne 7, 3, .null, [28], z_g0),
  (24, .iconst 1, 1, .int ((1 : Int32)), [], z_g0),
  (25, .goto 4, 3, .null, [29], z_g0),
  (28, .iconst 0, 1, .int ((0 : Int32)), [], z_g0),
  (29, .ireturn, 1, .null, [], z_g0),
  (30, .iload_n 0, 1, .null, [], z_g0),
  (31, .bipush 6, 2, .int ((6 : Int32)), [], z_g0),
  (33, .if_icmp .ne 16, 3, .null, [49], z_g0),
  (36, .iload_n 1, 1, .null, [], z_g0),
  (37, .iconst 2, 1, .int ((2 : Int32)), [], z_g0),
  (38, .if_icmp .ge 7, 3, .null, [45], z_g0),
  (41, .iconst 1, 1, .int ((1 : Int32)), [], z_g0),
  (42, .goto 48, 3, .null, [90], z_g0),
  (45, .iconst 0, 1, .int ((0 : Int32)), [], z_g0),
  (46, .goto 44, 3, .null, [90], z_g0),
  (49, .iload_n 0, 1, .null, [], z_g0),
  (50, .bipush 7, 2, .int ((7 : Int32)), [], z_g0),
  (52, .if_icmp .ne 16, 3, .null, [68], z_g0),
  (55, .iload_n 1, 1, .null, [], z_g0),
  (56, .iconst 1, 1, .int ((1 : Int32)), [], z_g0),
  (57, .if_icmp .le 7, 3, .null, [64], z_g0),
  (60, .iconst 1, 1, .int ((1 : Int32)), [], z_g0),
  (61, .goto 29, 3, .null, [90], z_g0),
  (64, .iconst 0, 1, .int ((0 : Int32)), [], z_g0),
  (65, .goto 25, 3, .null, [90], z_g0),
  (68, .iload_n 0, 1, .null, [], z_g0),
  (69, .bipush 8, 2, .int ((8 : Int32)), [], z_g0),
  (71, .if_icmp .ne 18, 3, .null, [89], z_g0),
  (74, .iload_n 1, 1, .null, [], z_g0),
  (75, .iconst 2, 1, .int ((2 : Int32)), [], z_g0),
  (76, .irem, 1, .null, [], z_g0),
  (77, .iconst 1, 1, .int ((1 : Int32)), [], z_g0),
  (78, .if_icmp .ne 7, 3, .null, [85], z_g0),
  (81, .iconst 1, 1, .int ((1 : Int32)), [], z_g0),
  (82, .goto 8, 3, .null, [90], z_g0),
  (85, .iconst 0, 1, .int ((0 : Int32)), [], z_g0),
  (86, .goto 4, 3, .null, [90], z_g0),
  (89, .iconst 1, 1, .int ((1 : Int32)), [], z_g0),
  (90, .ireturn, 1, .null, [], z_g0)]
set_option maxRecDepth 100000 in
theorem r_X12_fits (v0 : Int32) (v1 : Int32) (S : z_St) : z_seg z_rZ (c_X12_fits) [] (fun pc => fun _ _ _ => none) 56 (c_X12_fits) [(0, .int v0), (1, .int v1)] [] S = b_X12_fits v0 v1 S := rfl
def b_X12_has (v0 : Nat) (v1 : Int32) (v2 : Int32) (S : z_St) : Option (Int32 × z_St) :=
if v2 < ((2 : Int32)) then
(z_rb ((1 : Int32)) S)
else
(if v2 = ((5 : Int32)) then
(z_rb ((1 : Int32)) S)
else
(z_chk S v0 13 (
z_onV (va_rf (z_r S v0 13)) fun b1 =>
z_inb S b1 101 v1 (
(f_X12_fits (v2 + ((4 : Int32))) ((z_i S b1 v1.toNatClampNeg)) S).bind fun q2 =>
if q2.1 = 0 then
(z_rb ((0 : Int32)) q2.2)
else
(z_rb ((1 : Int32)) q2.2)))))
def f_X12_has : Nat → Int32 → Int32 → z_St → Option (Int32 × z_St) := z_op (b_X12_has)
theorem e_X12_has (v0 : Nat) (v1 : Int32) (v2 : Int32) (S : z_St) : f_X12_has v0 v1 v2 S = b_X12_has v0 v1 v2 S := congrFun (congrFun (congrFun (congrFun (z_op_eq (b_X12_has)) v0) v1) v2) S
def g_X12_has : z_G := .inl (fun as S => match as with
  | [.ref v0, .int v1, .int v2] => f_X12_has v0 v1 v2 S
  | _ => none)
def c_X12_has : List z_E := [
  (0, .iload_n 2, 1, .null, [], z_g0),
  (1, .iconst 2, 1, .int ((2 : Int32)), [], z_g0),
  (2, .if_icmp .lt 23, 3, .null, [25], z_g0),
  (5, .iload_n 2, 1, .null, [], z_g0),
  (6, .iconst 5, 1, .int ((5 : Int32)), [], z_g0),
  (7, .if_icmp .eq 18, 3, .null, [25], z_g0),
  (10, .iload_n 2, 1, .null, [], z_g0),
  (11, .iconst 4, 1, .int ((4 : Int32)), [], z_g0),
  (12, .iadd, 1, .null, [], z_g0),
  (13, .aload_n 0, 1, .null, [], z_g0),
  (14, .getfield 32, 3, .null, [13, 13, 3], z_g0),
  (17, .iload_n 1, 1, .null, [], z_g0),
  (18, .iaload, 1, .null, [101], z_g0),
  (19, .invokestatic 338, 3, .null, [0, 0, 0], g_X12_fits),
  (22, .ifCond .eq 7, 3, .null, [29], z_g0),
  (25, .iconst 1, 1, .int ((1 : Int32)), [], z_g0),
  (26, .goto 4, 3, .null, [30], z_g0),
  (29, .iconst 0, 1, .int ((0 : Int32)), [], z_g0),
  (30, .ireturn, 1, .null, [], z_g0)]
set_option maxRecDepth 100000 in
theorem r_X12_has (v0 : Nat) (v1 : Int32) (v2 : Int32) (S : z_St) : z_seg z_rZ (c_X12_has) [] (fun pc => fun _ _ _ => none) 22 (c_X12_has) [(0, .ref v0), (1, .int v1), (2, .int v2)] [] S = b_X12_has v0 v1 v2 S := rfl
def b_X12_tells (v0 : Nat) (v1 : Int32) (v2 : Int32) (S : z_St) : Option (Int32 × z_St) :=
z_chk S v0 13 (
z_onV (va_rf (z_r S v0 13)) fun b1 =>
z_inb S b1 101 v1 (
let x2 := (z_i S b1 v1.toNatClampNeg)
(f_X12_signOf x2 S).bind fun q3 =>
z_chk q3.2 v0 13 (
(f_X12_weightOf v0 v1 q3.2).bind fun q4 =>
if v2 = (0 : Int32) then
(some (q3.1, q4.2))
else
if v2 = (1 : Int32) then
(some (q4.1, q4.2))
else
if v2 = (2 : Int32) then
(if x2 = ((1 : Int32)) then
(some (((3 : Int32)) * q4.1, q4.2))
else
(some ((((10 : Int32)) * q3.1) + q4.1, q4.2)))
else
if v2 = (3 : Int32) then
(if x2 = ((3 : Int32)) then
(some (((((5 : Int32)) * q4.1) + q3.1) + ((100 : Int32)), q4.2))
else
(some (((((5 : Int32)) * q4.1) + q3.1) + ((0 : Int32)), q4.2)))
else
if v2 = (4 : Int32) then
(if x2 = ((5 : Int32)) then
(some ((q4.1 * q4.1) - q3.1, q4.2))
else
(some ((q4.1 * q4.1) - ((0 : Int32)), q4.2)))
else
(some (((1000 : Int32)) * q3.1, q4.2)))))
def f_X12_tells : Nat → Int32 → Int32 → z_St → Option (Int32 × z_St) := z_op (b_X12_tells)
theorem e_X12_tells (v0 : Nat) (v1 : Int32) (v2 : Int32) (S : z_St) : f_X12_tells v0 v1 v2 S = b_X12_tells v0 v1 v2 S := congrFun (congrFun (congrFun (congrFun (z_op_eq (b_X12_tells)) v0) v1) v2) S
def g_X12_tells : z_G := .inl (fun as S => match as with
  | [.ref v0, .int v1, .int v2] => f_X12_tells v0 v1 v2 S
  | _ => none)
def c_X12_tells : List z_E := [
  (0, .aload_n 0, 1, .null, [], z_g0),
  (1, .getfield 32, 3, .null, [13, 13, 3], z_g0),
  (4, .iload_n 1, 1, .null, [], z_g0),
  (5, .iaload, 1, .null, [101], z_g0),
  (6, .istore_n 3, 1, .null, [], z_g0),
  (7, .iload_n 3, 1, .null, [], z_g0),
  (8, .invokestatic 342, 3, .null, [0, 0], g_X12_signOf),
  (11, .istore 4, 2, .null, [], z_g0),
  (13, .aload_n 0, 1, .null, [], z_g0),
  (14, .iload_n 1, 1, .null, [], z_g0),
  (15, .invokevirtual 345, 3, .null, [1, 13, 0], g_X12_weightOf),
  (18, .istore 5, 2, .null, [], z_g0),
  (20, .iload_n 2, 1, .null, [], z_g0),
  (21, .tableswitch 100 0 4 #[35, 38, 41, 62, 82], 35, .null, [121, 0, 56, 59, 62, 83, 103], z_g0),
  (56, .iload 4, 2, .null, [], z_g0),
  (58, .ireturn, 1, .null, [], z_g0),
  (59, .iload 5, 2, .null, [], z_g0),
  (61, .ireturn, 1, .null, [], z_g0),
  (62, .iload_n 3, 1, .null, [], z_g0),
  (63, .iconst 1, 1, .int ((1 : Int32)), [], z_g0),
  (64, .if_icmp .ne 10, 3, .null, [74], z_g0),
  (67, .iconst 3, 1, .int ((3 : Int32)), [], z_g0),
  (68, .iload 5, 2, .null, [], z_g0),
  (70, .imul, 1, .null, [], z_g0),
  (71, .goto 11, 3, .null, [82], z_g0),
  (74, .bipush 10, 2, .int ((10 : Int32)), [], z_g0),
  (76, .iload 4, 2, .null, [], z_g0),
  (78, .imul, 1, .null, [], z_g0),
  (79, .iload 5, 2, .null, [], z_g0),
  (81, .iadd, 1, .null, [], z_g0),
  (82, .ireturn, 1, .null, [], z_g0),
  (83, .iconst 5, 1, .int ((5 : Int32)), [], z_g0),
  (84, .iload 5, 2, .null, [], z_g0),
  (86, .imul, 1, .null, [], z_g0),
  (87, .iload 4, 2, .null, [], z_g0),
  (89, .iadd, 1, .null, [], z_g0),
  (90, .iload_n 3, 1, .null, [], z_g0),
  (91, .iconst 3, 1, .int ((3 : Int32)), [], z_g0),
  (92, .if_icmp .ne 8, 3, .null, [100], z_g0),
  (95, .bipush 100, 2, .int ((100 : Int32)), [], z_g0),
  (97, .goto 4, 3, .null, [101], z_g0),
  (100, .iconst 0, 1, .int ((0 : Int32)), [], z_g0),
  (101, .iadd, 1, .null, [], z_g0),
  (102, .ireturn, 1, .null, [], z_g0),
  (103, .iload 5, 2, .null, [], z_g0),
  (105, .iload 5, 2, .null, [], z_g0),
  (107, .imul, 1, .null, [], z_g0),
  (108, .iload_n 3, 1, .null, [], z_g0),
  (109, .iconst 5, 1, .int ((5 : Int32)), [], z_g0),
  (110, .if_icmp .ne 8, 3, .null, [118], z_g0),
  (113, .iload 4, 2, .null, [], z_g0),
  (115, .goto 4, 3, .null, [119], z_g0),
  (118, .iconst 0, 1, .int ((0 : Int32)), [], z_g0),
  (119, .isub, 1, .null, [], z_g0),
  (120, .ireturn, 1, .null, [], z_g0),
  (121, .sipush 1000, 3, .int ((1000 : Int32)), [], z_g0),
  (124, .iload 4, 2, .null, [], z_g0),
  (126, .imul, 1, .null, [], z_g0),
  (127, .ireturn, 1, .null, [], z_g0)]
set_option maxRecDepth 100000 in
theorem r_X12_tells (v0 : Nat) (v1 : Int32) (v2 : Int32) (S : z_St) : z_seg z_rI (c_X12_tells) [] (fun pc => fun _ _ _ => none) 62 (c_X12_tells) [(0, .ref v0), (1, .int v1), (2, .int v2)] [] S = b_X12_tells v0 v1 v2 S := rfl
def b_X12_asks (v0 : Nat) (v1 : Int32) (v2 : Int32) (S : z_St) : Option (Int32 × z_St) :=
if v1 = ((-1 : Int32)) then
(z_chk S v0 13 (
(f_X12_fails v0 ((1 : Int32)) S).bind fun q5 =>
some (q5.1, q5.2)))
else
(z_chk S v0 13 (
(f_X12_has v0 v1 v2 S).bind fun q1 =>
if q1.1 = 0 then
(z_chk q1.2 v0 13 (
(f_X12_fails v0 ((4 : Int32)) q1.2).bind fun q4 =>
some (q4.1, q4.2)))
else
(z_chk q1.2 v0 13 (
(f_X12_well v0 q1.2).bind fun q2 =>
z_chk q2 v0 13 (
(f_X12_tells v0 v1 v2 q2).bind fun q3 =>
some (q3.1, q3.2))))))
def f_X12_asks : Nat → Int32 → Int32 → z_St → Option (Int32 × z_St) := z_op (b_X12_asks)
theorem e_X12_asks (v0 : Nat) (v1 : Int32) (v2 : Int32) (S : z_St) : f_X12_asks v0 v1 v2 S = b_X12_asks v0 v1 v2 S := congrFun (congrFun (congrFun (congrFun (z_op_eq (b_X12_asks)) v0) v1) v2) S
def g_X12_asks : z_G := .inl (fun as S => match as with
  | [.ref v0, .int v1, .int v2] => f_X12_asks v0 v1 v2 S
  | _ => none)
def c_X12_asks : List z_E := [
  (0, .iload_n 1, 1, .null, [], z_g0),
  (1, .iconst (-1), 1, .int ((-1 : Int32)), [], z_g0),
  (2, .if_icmp .ne 9, 3, .null, [11], z_g0),
  (5, .aload_n 0, 1, .null, [], z_g0),
  (6, .iconst 1, 1, .int ((1 : Int32)), [], z_g0),
  (7, .invokevirtual 282, 3, .null, [1, 13, 0], g_X12_fails),
  (10, .ireturn, 1, .null, [], z_g0),
  (11, .aload_n 0, 1, .null, [], z_g0),
  (12, .iload_n 1, 1, .null, [], z_g0),
  (13, .iload_n 2, 1, .null, [], z_g0),
  (14, .invokevirtual 348, 3, .null, [1, 13, 0, 0], g_X12_has),
  (17, .ifCond .ne 9, 3, .null, [26], z_g0),
  (20, .aload_n 0, 1, .null, [], z_g0),
  (21, .iconst 4, 1, .int ((4 : Int32)), [], z_g0),
  (22, .invokevirtual 282, 3, .null, [1, 13, 0], g_X12_fails),
  (25, .ireturn, 1, .null, [], z_g0),
  (26, .aload_n 0, 1, .null, [], z_g0),
  (27, .invokevirtual 286, 3, .null, [1, 13], g_X12_well),
  (30, .aload_n 0, 1, .null, [], z_g0),
  (31, .iload_n 1, 1, .null, [], z_g0),
  (32, .iload_n 2, 1, .null, [], z_g0),
  (33, .invokevirtual 350, 3, .null, [1, 13, 0, 0], g_X12_tells),
  (36, .ireturn, 1, .null, [], z_g0)]
set_option maxRecDepth 100000 in
theorem r_X12_asks (v0 : Nat) (v1 : Int32) (v2 : Int32) (S : z_St) : z_seg z_rI (c_X12_asks) [] (fun pc => fun _ _ _ => none) 26 (c_X12_asks) [(0, .ref v0), (1, .int v1), (2, .int v2)] [] S = b_X12_asks v0 v1 v2 S := rfl
def b_X12_says (v0 : Nat) (v1 : Int32) (v2 : Int32) (S : z_St) : Option (Int32 × z_St) :=
z_chk S v0 13 (
let S1 := z_wi S v0 0 ((0 : Int32))
z_chk S1 v0 13 (
(f_X12_noThing v0 v1 S1).bind fun q2 =>
if q2.1 = 0 then
((f_X12_in v2.toInt64 ((0 : Int64)) ((5 : Int64)) q2.2).bind fun q3 =>
if q3.1 = 0 then
(some ((-2000000002 : Int32), q3.2))
else
(z_chk q3.2 v0 13 (
(f_X12_asks v0 v1 v2 q3.2).bind fun q4 =>
some (q4.1, q4.2))))
else
(some ((-2000000001 : Int32), q2.2))))
def f_X12_says : Nat → Int32 → Int32 → z_St → Option (Int32 × z_St) := z_op (b_X12_says)
theorem e_X12_says (v0 : Nat) (v1 : Int32) (v2 : Int32) (S : z_St) : f_X12_says v0 v1 v2 S = b_X12_says v0 v1 v2 S := congrFun (congrFun (congrFun (congrFun (z_op_eq (b_X12_says)) v0) v1) v2) S
def g_X12_says : z_G := .inl (fun as S => match as with
  | [.ref v0, .int v1, .int v2] => f_X12_says v0 v1 v2 S
  | _ => none)
def c_X12_says : List z_E := [
  (0, .aload_n 0, 1, .null, [], z_g0),
  (1, .iconst 0, 1, .int ((0 : Int32)), [], z_g0),
  (2, .putfield 224, 3, .null, [13, 0, 0], z_g0),
  (5, .aload_n 0, 1, .null, [], z_g0),
  (6, .iload_n 1, 1, .null, [], z_g0),
  (7, .invokevirtual 353, 3, .null, [1, 13, 0], g_X12_noThing),
  (10, .ifCond .eq 9, 3, .null, [19], z_g0),
  (13, .ldc_w 296, 3, .int (-2000000001 : Int32), [], z_g0),
  (16, .goto 27, 3, .null, [43], z_g0),
  (19, .iload_n 2, 1, .null, [], z_g0),
  (20, .i2l, 1, .null, [], z_g0),
  (21, .lconst 0, 1, .long (0 : Int64), [], z_g0),
  (22, .ldc2_w 334, 3, .long (5 : Int64), [], z_g0),
  (25, .invokestatic 274, 3, .null, [0, 0, 0, 0], g_X12_in),
  (28, .ifCond .ne 9, 3, .null, [37], z_g0),
  (31, .ldc_w 280, 3, .int (-2000000002 : Int32), [], z_g0),
  (34, .goto 9, 3, .null, [43], z_g0),
  (37, .aload_n 0, 1, .null, [], z_g0),
  (38, .iload_n 1, 1, .null, [], z_g0),
  (39, .iload_n 2, 1, .null, [], z_g0),
  (40, .invokevirtual 356, 3, .null, [1, 13, 0, 0], g_X12_asks),
  (43, .ireturn, 1, .null, [], z_g0)]
set_option maxRecDepth 100000 in
theorem r_X12_says (v0 : Nat) (v1 : Int32) (v2 : Int32) (S : z_St) : z_seg z_rI (c_X12_says) [] (fun pc => fun _ _ _ => none) 25 (c_X12_says) [(0, .ref v0), (1, .int v1), (2, .int v2)] [] S = b_X12_says v0 v1 v2 S := rfl
def b_X12_noRack (v0 : Nat) (v1 : Int32) (S : z_St) : Option (Int32 × z_St) :=
if v1 = ((-1 : Int32)) then
(z_rb ((0 : Int32)) S)
else
(z_chk S v0 13 (
(f_X12_in v1.toInt64 ((0 : Int64)) ((((z_i S v0 15)) - ((1 : Int32))).toInt64) S).bind fun q1 =>
if q1.1 = 0 then
(z_rb ((1 : Int32)) q1.2)
else
(z_rb ((0 : Int32)) q1.2)))
def f_X12_noRack : Nat → Int32 → z_St → Option (Int32 × z_St) := z_op (b_X12_noRack)
theorem e_X12_noRack (v0 : Nat) (v1 : Int32) (S : z_St) : f_X12_noRack v0 v1 S = b_X12_noRack v0 v1 S := congrFun (congrFun (congrFun (z_op_eq (b_X12_noRack)) v0) v1) S
def g_X12_noRack : z_G := .inl (fun as S => match as with
  | [.ref v0, .int v1] => f_X12_noRack v0 v1 S
  | _ => none)
def c_X12_noRack : List z_E := [
  (0, .iload_n 1, 1, .null, [], z_g0),
  (1, .iconst (-1), 1, .int ((-1 : Int32)), [], z_g0),
  (2, .if_icmp .eq 23, 3, .null, [25], z_g0),
  (5, .iload_n 1, 1, .null, [], z_g0),
  (6, .i2l, 1, .null, [], z_g0),
  (7, .lconst 0, 1, .long (0 : Int64), [], z_g0),
  (8, .aload_n 0, 1, .null, [], z_g0),
  (9, .getfield 359, 3, .null, [13, 15, 0], z_g0),
  (12, .iconst 1, 1, .int ((1 : Int32)), [], z_g0),
  (13, .isub, 1, .null, [], z_g0),
  (14, .i2l, 1, .null, [], z_g0),
  (15, .invokestatic 274, 3, .null, [0, 0, 0, 0], g_X12_in),
  (18, .ifCond .ne 7, 3, .null, [25], z_g0),
  (21, .iconst 1, 1, .int ((1 : Int32)), [], z_g0),
  (22, .goto 4, 3, .null, [26], z_g0),
  (25, .iconst 0, 1, .int ((0 : Int32)), [], z_g0),
  (26, .ireturn, 1, .null, [], z_g0)]
set_option maxRecDepth 100000 in
theorem r_X12_noRack (v0 : Nat) (v1 : Int32) (S : z_St) : z_seg z_rZ (c_X12_noRack) [] (fun pc => fun _ _ _ => none) 20 (c_X12_noRack) [(0, .ref v0), (1, .int v1)] [] S = b_X12_noRack v0 v1 S := rfl
def l_X12_rack_76 : Nat → Nat → Int32 → Int32 → z_St → Option (Int32 × z_St)
  | 0 => fun _ _ _ _ => none
  | n + 1 => fun (v0 : Nat) (v2 : Int32) (v3 : Int32) (S : z_St) =>
if v2 ≤ v3 then
(z_chk S v0 13 (
z_chk S v0 13 (
let S9 := z_wi S v0 15 (((z_i S v0 15)) + ((1 : Int32)))
z_chk S9 v0 13 (
some (((z_i S9 v0 15)) - ((1 : Int32)), S9)))))
else
(z_chk S v0 13 (
z_chk S v0 13 (
z_onV (va_rf (z_r S v0 18)) fun b10 =>
z_inb S b10 101 ((((16 : Int32)) * ((z_i S v0 15))) + v3) (
let S11 := z_wi S b10 ((((16 : Int32)) * ((z_i S v0 15))) + v3).toNatClampNeg ((-1 : Int32))
let x12 := v3 + (1 : Int32)
l_X12_rack_76 n v0 v2 x12 S11))))
def b_X12_rack (v0 : Nat) (v1 : Int32) (v2 : Int32) (S : z_St) : Option (Int32 × z_St) :=
z_chk S v0 13 (
let S1 := z_wi S v0 0 ((0 : Int32))
(f_X12_in v1.toInt64 ((0 : Int64)) ((9 : Int64)) S1).bind fun q2 =>
if q2.1 = 0 then
(some ((-2000000002 : Int32), q2.2))
else
(if v2 ≤ ((16 : Int32)) then
(z_chk q2.2 v0 13 (
if ((z_i q2.2 v0 15)) = ((20 : Int32)) then
(some ((-2000000004 : Int32), q2.2))
else
(if 0 ≤ v2 then
(z_chk q2.2 v0 13 (
(f_X12_well v0 q2.2).bind fun q3 =>
z_chk q3 v0 13 (
z_chk q3 v0 13 (
z_onV (va_rf (z_r q3 v0 16)) fun b4 =>
z_inb q3 b4 101 ((z_i q3 v0 15)) (
let S5 := z_wi q3 b4 ((z_i q3 v0 15)).toNatClampNeg v1
z_chk S5 v0 13 (
z_chk S5 v0 13 (
z_onV (va_rf (z_r S5 v0 17)) fun b6 =>
z_inb S5 b6 101 ((z_i S5 v0 15)) (
let S7 := z_wi S5 b6 ((z_i S5 v0 15)).toNatClampNeg v2
l_X12_rack_76 z_N v0 v2 ((0 : Int32)) S7))))))))
else
(z_chk q2.2 v0 13 (
(f_X12_fails v0 ((3 : Int32)) q2.2).bind fun q8 =>
some (q8.1, q8.2))))))
else
(some ((-2000000002 : Int32), q2.2))))
def f_X12_rack : Nat → Int32 → Int32 → z_St → Option (Int32 × z_St) := z_op (b_X12_rack)
theorem e_X12_rack (v0 : Nat) (v1 : Int32) (v2 : Int32) (S : z_St) : f_X12_rack v0 v1 v2 S = b_X12_rack v0 v1 v2 S := congrFun (congrFun (congrFun (congrFun (z_op_eq (b_X12_rack)) v0) v1) v2) S
def g_X12_rack : z_G := .inl (fun as S => match as with
  | [.ref v0, .int v1, .int v2] => f_X12_rack v0 v1 v2 S
  | _ => none)
def c_X12_rack : List z_E := [
  (0, .aload_n 0, 1, .null, [], z_g0),
  (1, .iconst 0, 1, .int ((0 : Int32)), [], z_g0),
  (2, .putfield 224, 3, .null, [13, 0, 0], z_g0),
  (5, .iload_n 1, 1, .null, [], z_g0),
  (6, .i2l, 1, .null, [], z_g0),
  (7, .lconst 0, 1, .long (0 : Int64), [], z_g0),
  (8, .ldc2_w 362, 3, .long (9 : Int64), [], z_g0),
  (11, .invokestatic 274, 3, .null, [0, 0, 0, 0], g_X12_in),
  (14, .ifCond .eq 9, 3, .null, [23], z_g0),
  (17, .iload_n 2, 1, .null, [], z_g0),
  (18, .bipush 16, 2, .int ((16 : Int32)), [], z_g0),
  (20, .if_icmp .le 7, 3, .null, [27], z_g0),
  (23, .ldc_w 280, 3, .int (-2000000002 : Int32), [], z_g0),
  (26, .ireturn, 1, .null, [], z_g0),
  (27, .aload_n 0, 1, .null, [], z_g0),
  (28, .getfield 359, 3, .null, [13, 15, 0], z_g0),
  (31, .bipush 20, 2, .int ((20 : Int32)), [], z_g0),
  (33, .if_icmp .ne 7, 3, .null, [40], z_g0),
  (36, .ldc_w 281, 3, .int (-2000000004 : Int32), [], z_g0),
  (39, .ireturn, 1, .null, [], z_g0),
  (40, .iload_n 2, 1, .null, [], z_g0),
  (41, .ifCond .ge 9, 3, .null, [50], z_g0),
  (44, .aload_n 0, 1, .null, [], z_g0),
  (45, .iconst 3, 1, .int ((3 : Int32)), [], z_g0),
  (46, .invokevirtual 282, 3, .null, [1, 13, 0], g_X12_fails),
  (49, .ireturn, 1, .null, [], z_g0),
  (50, .aload_n 0, 1, .null, [], z_g0),
  (51, .invokevirtual 286, 3, .null, [1, 13], g_X12_well),
  (54, .aload_n 0, 1, .null, [], z_g0),
  (55, .getfield 38, 3, .null, [13, 16, 3], z_g0),
  (58, .aload_n 0, 1, .null, [], z_g0),
  (59, .getfield 359, 3, .null, [13, 15, 0], z_g0),
  (62, .iload_n 1, 1, .null, [], z_g0),
  (63, .iastore, 1, .null, [], z_g0),
  (64, .aload_n 0, 1, .null, [], z_g0),
  (65, .getfield 41, 3, .null, [13, 17, 3], z_g0),
  (68, .aload_n 0, 1, .null, [], z_g0),
  (69, .getfield 359, 3, .null, [13, 15, 0], z_g0),
  (72, .iload_n 2, 1, .null, [], z_g0),
  (73, .iastore, 1, .null, [], z_g0),
  (74, .iconst 0, 1, .int ((0 : Int32)), [], z_g0),
  (75, .istore_n 3, 1, .null, [], z_g0),
  (76, .iload_n 3, 1, .null, [], z_g0),
  (77, .iload_n 2, 1, .null, [], z_g0),
  (78, .if_icmp .ge 24, 3, .null, [102], z_g0),
  (81, .aload_n 0, 1, .null, [], z_g0),
  (82, .getfield 44, 3, .null, [13, 18, 3], z_g0),
  (85, .bipush 16, 2, .int ((16 : Int32)), [], z_g0),
  (87, .aload_n 0, 1, .null, [], z_g0),
  (88, .getfield 359, 3, .null, [13, 15, 0], z_g0),
  (91, .imul, 1, .null, [], z_g0),
  (92, .iload_n 3, 1, .null, [], z_g0),
  (93, .iadd, 1, .null, [], z_g0),
  (94, .iconst (-1), 1, .int ((-1 : Int32)), [], z_g0),
  (95, .iastore, 1, .null, [], z_g0),
  (96, .iinc 3 1, 3, .int (1 : Int32), [], z_g0),
  (99, .goto (-23), 3, .null, [76], z_g0),
  (102, .aload_n 0, 1, .null, [], z_g0),
  (103, .dup, 1, .null, [], z_g0),
  (104, .getfield 359, 3, .null, [13, 15, 0], z_g0),
  (107, .iconst 1, 1, .int ((1 : Int32)), [], z_g0),
  (108, .iadd, 1, .null, [], z_g0),
  (109, .putfield 359, 3, .null, [13, 15, 0], z_g0),
  (112, .aload_n 0, 1, .null, [], z_g0),
  (113, .getfield 359, 3, .null, [13, 15, 0], z_g0),
  (116, .iconst 1, 1, .int ((1 : Int32)), [], z_g0),
  (117, .isub, 1, .null, [], z_g0),
  (118, .ireturn, 1, .null, [], z_g0)]
def a_X12_rack_76 {ρ : Type} (k : Nat → Int32 → Int32 → z_St → Option ρ) (ls : z_Lv) (st : List Value) (S : z_St) : Option ρ := z_gR ls 0 fun v0 => z_gI ls 2 fun v2 => z_gI ls 3 fun v3 => z_p0 st (k v0 v2 v3 S)
set_option maxRecDepth 100000 in
theorem r_X12_rack_76 (n : Nat) (v0 : Nat) (v2 : Int32) (v3 : Int32) (S : z_St) : z_seg z_rI (c_X12_rack) [76] (fun pc => cond (Nat.beq pc 76) (a_X12_rack_76 (l_X12_rack_76 n)) (fun _ _ _ => none)) 71 (z_to 76 (c_X12_rack)) [(0, .ref v0), (2, .int v2), (3, .int v3)] [] S = l_X12_rack_76 (n + 1) v0 v2 v3 S := rfl
set_option maxRecDepth 100000 in
theorem r_X12_rack (v0 : Nat) (v1 : Int32) (v2 : Int32) (S : z_St) : z_seg z_rI (c_X12_rack) [76] (fun pc => cond (Nat.beq pc 76) (a_X12_rack_76 (l_X12_rack_76 z_N)) (fun _ _ _ => none)) 71 (c_X12_rack) [(0, .ref v0), (1, .int v1), (2, .int v2)] [] S = b_X12_rack v0 v1 v2 S := rfl
def j_X12_hang_89 (v0 : Nat) (v1 : Int32) (v2 : Int32) (v3 : Int32) (S : z_St) : Option (Int32 × z_St) :=
z_chk S v0 13 (
(f_X12_well v0 S).bind fun q12 =>
z_chk q12 v0 13 (
z_onV (va_rf (z_r q12 v0 18)) fun b13 =>
z_inb q12 b13 101 ((((16 : Int32)) * v1) + v2) (
let S14 := z_wi q12 b13 ((((16 : Int32)) * v1) + v2).toNatClampNeg v3
some ((1 : Int32), S14))))
def b_X12_hang (v0 : Nat) (v1 : Int32) (v2 : Int32) (v3 : Int32) (S : z_St) : Option (Int32 × z_St) :=
z_chk S v0 13 (
let S1 := z_wi S v0 0 ((0 : Int32))
z_chk S1 v0 13 (
(f_X12_noRack v0 v1 S1).bind fun q2 =>
if q2.1 = 0 then
(z_chk q2.2 v0 13 (
(f_X12_noThing v0 v3 q2.2).bind fun q3 =>
if q3.1 = 0 then
(if v1 = ((-1 : Int32)) then
(z_chk q3.2 v0 13 (
(f_X12_fails v0 ((1 : Int32)) q3.2).bind fun q11 =>
some (q11.1, q11.2)))
else
(z_chk q3.2 v0 13 (
z_onV (va_rf (z_r q3.2 v0 17)) fun b4 =>
z_inb q3.2 b4 101 v1 (
(f_X12_in v2.toInt64 ((0 : Int64)) ((((z_i q3.2 b4 v1.toNatClampNeg)) - ((1 : Int32))).toInt64) q3.2).bind fun q5 =>
if q5.1 = 0 then
(z_chk q5.2 v0 13 (
(f_X12_fails v0 ((2 : Int32)) q5.2).bind fun q10 =>
some (q10.1, q10.2)))
else
(if v3 = ((-1 : Int32)) then
(j_X12_hang_89 v0 v1 v2 v3 q5.2)
else
(z_chk q5.2 v0 13 (
z_onV (va_rf (z_r q5.2 v0 16)) fun b6 =>
z_inb q5.2 b6 101 v1 (
z_chk q5.2 v0 13 (
z_onV (va_rf (z_r q5.2 v0 13)) fun b7 =>
z_inb q5.2 b7 101 v3 (
(f_X12_fits ((z_i q5.2 b6 v1.toNatClampNeg)) ((z_i q5.2 b7 v3.toNatClampNeg)) q5.2).bind fun q8 =>
if q8.1 = 0 then
(z_chk q8.2 v0 13 (
(f_X12_fails v0 ((5 : Int32)) q8.2).bind fun q9 =>
some (q9.1, q9.2)))
else
(j_X12_hang_89 v0 v1 v2 v3 q8.2)))))))))))
else
(some ((-2000000001 : Int32), q3.2))))
else
(some ((-2000000001 : Int32), q2.2))))
def f_X12_hang : Nat → Int32 → Int32 → Int32 → z_St → Option (Int32 × z_St) := z_op (b_X12_hang)
theorem e_X12_hang (v0 : Nat) (v1 : Int32) (v2 : Int32) (v3 : Int32) (S : z_St) : f_X12_hang v0 v1 v2 v3 S = b_X12_hang v0 v1 v2 v3 S := congrFun (congrFun (congrFun (congrFun (congrFun (z_op_eq (b_X12_hang)) v0) v1) v2) v3) S
def g_X12_hang : z_G := .inl (fun as S => match as with
  | [.ref v0, .int v1, .int v2, .int v3] => f_X12_hang v0 v1 v2 v3 S
  | _ => none)
def c_X12_hang : List z_E := [
  (0, .aload_n 0, 1, .null, [], z_g0),
  (1, .iconst 0, 1, .int ((0 : Int32)), [], z_g0),
  (2, .putfield 224, 3, .null, [13, 0, 0], z_g0),
  (5, .aload_n 0, 1, .null, [], z_g0),
  (6, .iload_n 1, 1, .null, [], z_g0),
  (7, .invokevirtual 364, 3, .null, [1, 13, 0], g_X12_noRack),
  (10, .ifCond .ne 11, 3, .null, [21], z_g0),
  (13, .aload_n 0, 1, .null, [], z_g0),
  (14, .iload_n 3, 1, .null, [], z_g0),
  (15, .invokevirtual 353, 3, .null, [1, 13, 0], g_X12_noThing),
  (18, .ifCond .eq 7, 3, .null, [25], z_g0),
  (21, .ldc_w 296, 3, .int (-2000000001 : Int32), [], z_g0),
  (24, .ireturn, 1, .null, [], z_g0),
  (25, .iload_n 1, 1, .null, [], z_g0),
  (26, .iconst (-1), 1, .int ((-1 : Int32)), [], z_g0),
  (27, .if_icmp .ne 9, 3, .null, [36], z_g0),
  (30, .aload_n 0, 1, .null, [], z_g0),
  (31, .iconst 1, 1, .int ((1 : Int32)), [], z_g0),
  (32, .invokevirtual 282, 3, .null, [1, 13, 0], g_X12_fails),
  (35, .ireturn, 1, .null, [], z_g0),
  (36, .iload_n 2, 1, .null, [], z_g0),
  (37, .i2l, 1, .null, [], z_g0),
  (38, .lconst 0, 1, .long (0 : Int64), [], z_g0),
  (39, .aload_n 0, 1, .null, [], z_g0),
  (40, .getfield 41, 3, .null, [13, 17, 3], z_g0),
  (43, .iload_n 1, 1, .null, [], z_g0),
  (44, .iaload, 1, .null, [101], z_g0),
  (45, .iconst 1, 1, .int ((1 : Int32)), [], z_g0),
  (46, .isub, 1, .null, [], z_g0),
  (47, .i2l, 1, .null, [], z_g0),
  (48, .invokestatic 274, 3, .null, [0, 0, 0, 0], g_X12_in),
  (51, .ifCond .ne 9, 3, .null, [60], z_g0),
  (54, .aload_n 0, 1, .null, [], z_g0),
  (55, .iconst 2, 1, .int ((2 : Int32)), [], z_g0),
  (56, .invokevirtual 282, 3, .null, [1, 13, 0], g_X12_fails),
  (59, .ireturn, 1, .null, [], z_g0),
  (60, .iload_n 3, 1, .null, [], z_g0),
  (61, .iconst (-1), 1, .int ((-1 : Int32)), [], z_g0),
  (62, .if_icmp .eq 27, 3, .null, [89], z_g0),
  (65, .aload_n 0, 1, .null, [], z_g0),
  (66, .getfield 38, 3, .null, [13, 16, 3], z_g0),
  (69, .iload_n 1, 1, .null, [], z_g0),
  (70, .iaload, 1, .null, [101], z_g0),
  (71, .aload_n 0, 1, .null, [], z_g0),
  (72, .getfield 32, 3, .null, [13, 13, 3], z_g0),
  (75, .iload_n 3, 1, .null, [], z_g0),
  (76, .iaload, 1, .null, [101], z_g0),
  (77, .invokestatic 338, 3, .null, [0, 0, 0], g_X12_fits),
  (80, .ifCond .ne 9, 3, .null, [89], z_g0),
  (83, .aload_n 0, 1, .null, [], z_g0),
  (84, .iconst 5, 1, .int ((5 : Int32)), [], z_g0),
  (85, .invokevirtual 282, 3, .null, [1, 13, 0], g_X12_fails),
  (88, .ireturn, 1, .null, [], z_g0),
  (89, .aload_n 0, 1, .null, [], z_g0),
  (90, .invokevirtual 286, 3, .null, [1, 13], g_X12_well),
  (93, .aload_n 0, 1, .null, [], z_g0),
  (94, .getfield 44, 3, .null, [13, 18, 3], z_g0),
  (97, .bipush 16, 2, .int ((16 : Int32)), [], z_g0),
  (99, .iload_n 1, 1, .null, [], z_g0),
  (100, .imul, 1, .null, [], z_g0),
  (101, .iload_n 2, 1, .null, [], z_g0),
  (102, .iadd, 1, .null, [], z_g0),
  (103, .iload_n 3, 1, .null, [], z_g0),
  (104, .iastore, 1, .null, [], z_g0),
  (105, .iconst 1, 1, .int ((1 : Int32)), [], z_g0),
  (106, .ireturn, 1, .null, [], z_g0)]
def a_X12_hang_89 {ρ : Type} (k : Nat → Int32 → Int32 → Int32 → z_St → Option ρ) (ls : z_Lv) (st : List Value) (S : z_St) : Option ρ := z_gR ls 0 fun v0 => z_gI ls 1 fun v1 => z_gI ls 2 fun v2 => z_gI ls 3 fun v3 => z_p0 st (k v0 v1 v2 v3 S)
set_option maxRecDepth 100000 in
theorem r_X12_hang_89 (v0 : Nat) (v1 : Int32) (v2 : Int32) (v3 : Int32) (S : z_St) : z_seg z_rI (c_X12_hang) [89] (fun pc => fun _ _ _ => none) 69 (z_to 89 (c_X12_hang)) [(0, .ref v0), (1, .int v1), (2, .int v2), (3, .int v3)] [] S = j_X12_hang_89 v0 v1 v2 v3 S := rfl
set_option maxRecDepth 100000 in
theorem r_X12_hang (v0 : Nat) (v1 : Int32) (v2 : Int32) (v3 : Int32) (S : z_St) : z_seg z_rI (c_X12_hang) [89] (fun pc => cond (Nat.beq pc 89) (a_X12_hang_89 (j_X12_hang_89)) (fun _ _ _ => none)) 69 (c_X12_hang) [(0, .ref v0), (1, .int v1), (2, .int v2), (3, .int v3)] [] S = b_X12_hang v0 v1 v2 v3 S := rfl
def j_X12_down_107 (v0 : Nat) (v1 : Int32) (v2 : Int32) (v4 : Int32) (S : z_St) : Option (Int32 × z_St) :=
z_chk S v0 13 (
(f_X12_well v0 S).bind fun q13 =>
z_chk q13 v0 13 (
z_onV (va_rf (z_r q13 v0 18)) fun b14 =>
z_inb q13 b14 101 ((((16 : Int32)) * v1) + v2) (
let S15 := z_wi q13 b14 ((((16 : Int32)) * v1) + v2).toNatClampNeg ((-1 : Int32))
some (v4, S15))))
def b_X12_down (v0 : Nat) (v1 : Int32) (v2 : Int32) (v3 : Int32) (S : z_St) : Option (Int32 × z_St) :=
z_chk S v0 13 (
let S1 := z_wi S v0 0 ((0 : Int32))
z_chk S1 v0 13 (
(f_X12_noRack v0 v1 S1).bind fun q2 =>
if q2.1 = 0 then
((f_X12_in v3.toInt64 ((0 : Int64)) ((9 : Int64)) q2.2).bind fun q3 =>
if q3.1 = 0 then
(some ((-2000000002 : Int32), q3.2))
else
(if v1 = ((-1 : Int32)) then
(z_chk q3.2 v0 13 (
(f_X12_fails v0 ((1 : Int32)) q3.2).bind fun q12 =>
some (q12.1, q12.2)))
else
(z_chk q3.2 v0 13 (
z_onV (va_rf (z_r q3.2 v0 17)) fun b4 =>
z_inb q3.2 b4 101 v1 (
(f_X12_in v2.toInt64 ((0 : Int64)) ((((z_i q3.2 b4 v1.toNatClampNeg)) - ((1 : Int32))).toInt64) q3.2).bind fun q5 =>
if q5.1 = 0 then
(z_chk q5.2 v0 13 (
(f_X12_fails v0 ((2 : Int32)) q5.2).bind fun q11 =>
some (q11.1, q11.2)))
else
(z_chk q5.2 v0 13 (
z_onV (va_rf (z_r q5.2 v0 18)) fun b6 =>
z_inb q5.2 b6 101 ((((16 : Int32)) * v1) + v2) (
let x7 := (z_i q5.2 b6 ((((16 : Int32)) * v1) + v2).toNatClampNeg)
if x7 = ((-1 : Int32)) then
(j_X12_down_107 v0 v1 v2 x7 q5.2)
else
(z_chk q5.2 v0 13 (
z_onV (va_rf (z_r q5.2 v0 13)) fun b8 =>
z_inb q5.2 b8 101 x7 (
(f_X12_fits v3 ((z_i q5.2 b8 x7.toNatClampNeg)) q5.2).bind fun q9 =>
if q9.1 = 0 then
(z_chk q9.2 v0 13 (
(f_X12_fails v0 ((4 : Int32)) q9.2).bind fun q10 =>
some (q10.1, q10.2)))
else
(j_X12_down_107 v0 v1 v2 x7 q9.2))))))))))))
else
(some ((-2000000001 : Int32), q2.2))))
def f_X12_down : Nat → Int32 → Int32 → Int32 → z_St → Option (Int32 × z_St) := z_op (b_X12_down)
theorem e_X12_down (v0 : Nat) (v1 : Int32) (v2 : Int32) (v3 : Int32) (S : z_St) : f_X12_down v0 v1 v2 v3 S = b_X12_down v0 v1 v2 v3 S := congrFun (congrFun (congrFun (congrFun (congrFun (z_op_eq (b_X12_down)) v0) v1) v2) v3) S
def g_X12_down : z_G := .inl (fun as S => match as with
  | [.ref v0, .int v1, .int v2, .int v3] => f_X12_down v0 v1 v2 v3 S
  | _ => none)
def c_X12_down : List z_E := [
  (0, .aload_n 0, 1, .null, [], z_g0),
  (1, .iconst 0, 1, .int ((0 : Int32)), [], z_g0),
  (2, .putfield 224, 3, .null, [13, 0, 0], z_g0),
  (5, .aload_n 0, 1, .null, [], z_g0),
  (6, .iload_n 1, 1, .null, [], z_g0),
  (7, .invokevirtual 364, 3, .null, [1, 13, 0], g_X12_noRack),
  (10, .ifCond .eq 7, 3, .null, [17], z_g0),
  (13, .ldc_w 296, 3, .int (-2000000001 : Int32), [], z_g0),
  (16, .ireturn, 1, .null, [], z_g0),
  (17, .iload_n 3, 1, .null, [], z_g0),
  (18, .i2l, 1, .null, [], z_g0),
  (19, .lconst 0, 1, .long (0 : Int64), [], z_g0),
  (20, .ldc2_w 362, 3, .long (9 : Int64), [], z_g0),
  (23, .invokestatic 274, 3, .null, [0, 0, 0, 0], g_X12_in),
  (26, .ifCond .ne 7, 3, .null, [33], z_g0),
  (29, .ldc_w 280, 3, .int (-2000000002 : Int32), [], z_g0),
  (32, .ireturn, 1, .null, [], z_g0),
  (33, .iload_n 1, 1, .null, [], z_g0),
  (34, .iconst (-1), 1, .int ((-1 : Int32)), [], z_g0),
  (35, .if_icmp .ne 9, 3, .null, [44], z_g0),
  (38, .aload_n 0, 1, .null, [], z_g0),
  (39, .iconst 1, 1, .int ((1 : Int32)), [], z_g0),
  (40, .invokevirtual 282, 3, .null, [1, 13, 0], g_X12_fails),
  (43, .ireturn, 1, .null, [], z_g0),
  (44, .iload_n 2, 1, .null, [], z_g0),
  (45, .i2l, 1, .null, [], z_g0),
  (46, .lconst 0, 1, .long (0 : Int64), [], z_g0),
  (47, .aload_n 0, 1, .null, [], z_g0),
  (48, .getfield 41, 3, .null, [13, 17, 3], z_g0),
  (51, .iload_n 1, 1, .null, [], z_g0),
  (52, .iaload, 1, .null, [101], z_g0),
  (53, .iconst 1, 1, .int ((1 : Int32)), [], z_g0),
  (54, .isub, 1, .null, [], z_g0),
  (55, .i2l, 1, .null, [], z_g0),
  (56, .invokestatic 274, 3, .null, [0, 0, 0, 0], g_X12_in),
  (59, .ifCond .ne 9, 3, .null, [68], z_g0),
  (62, .aload_n 0, 1, .null, [], z_g0),
  (63, .iconst 2, 1, .int ((2 : Int32)), [], z_g0),
  (64, .invokevirtual 282, 3, .null, [1, 13, 0], g_X12_fails),
  (67, .ireturn, 1, .null, [], z_g0),
  (68, .aload_n 0, 1, .null, [], z_g0),
  (69, .getfield 44, 3, .null, [13, 18, 3], z_g0),
  (72, .bipush 16, 2, .int ((16 : Int32)), [], z_g0),
  (74, .iload_n 1, 1, .null, [], z_g0),
  (75, .imul, 1, .null, [], z_g0),
  (76, .iload_n 2, 1, .null, [], z_g0),
  (77, .iadd, 1, .null, [], z_g0),
  (78, .iaload, 1, .null, [101], z_g0),
  (79, .istore 4, 2, .null, [], z_g0),
  (81, .iload 4, 2, .null, [], z_g0),
  (83, .iconst (-1), 1, .int ((-1 : Int32)), [], z_g0),
  (84, .if_icmp .eq 23, 3, .null, [107], z_g0),
  (87, .iload_n 3, 1, .null, [], z_g0),
  (88, .aload_n 0, 1, .null, [], z_g0),
  (89, .getfield 32, 3, .null, [13, 13, 3], z_g0),
  (92, .iload 4, 2, .null, [], z_g0),
  (94, .iaload, 1, .null, [101], z_g0),
  (95, .invokestatic 338, 3, .null, [0, 0, 0], g_X12_fits),
  (98, .ifCond .ne 9, 3, .null, [107], z_g0),
  (101, .aload_n 0, 1, .null, [], z_g0),
  (102, .iconst 4, 1, .int ((4 : Int32)), [], z_g0),
  (103, .invokevirtual 282, 3, .null, [1, 13, 0], g_X12_fails),
  (106, .ireturn, 1, .null, [], z_g0),
  (107, .aload_n 0, 1, .null, [], z_g0),
  (108, .invokevirtual 286, 3, .null, [1, 13], g_X12_well),
  (111, .aload_n 0, 1, .null, [], z_g0),
  (112, .getfield 44, 3, .null, [13, 18, 3], z_g0),
  (115, .bipush 16, 2, .int ((16 : Int32)), [], z_g0),
  (117, .iload_n 1, 1, .null, [], z_g0),
  (118, .imul, 1, .null, [], z_g0),
  (119, .iload_n 2, 1, .null, [], z_g0),
  (120, .iadd, 1, .null, [], z_g0),
  (121, .iconst (-1), 1, .int ((-1 : Int32)), [], z_g0),
  (122, .iastore, 1, .null, [], z_g0),
  (123, .iload 4, 2, .null, [], z_g0),
  (125, .ireturn, 1, .null, [], z_g0)]
def a_X12_down_107 {ρ : Type} (k : Nat → Int32 → Int32 → Int32 → z_St → Option ρ) (ls : z_Lv) (st : List Value) (S : z_St) : Option ρ := z_gR ls 0 fun v0 => z_gI ls 1 fun v1 => z_gI ls 2 fun v2 => z_gI ls 4 fun v4 => z_p0 st (k v0 v1 v2 v4 S)
set_option maxRecDepth 100000 in
theorem r_X12_down_107 (v0 : Nat) (v1 : Int32) (v2 : Int32) (v4 : Int32) (S : z_St) : z_seg z_rI (c_X12_down) [107] (fun pc => fun _ _ _ => none) 79 (z_to 107 (c_X12_down)) [(0, .ref v0), (1, .int v1), (2, .int v2), (4, .int v4)] [] S = j_X12_down_107 v0 v1 v2 v4 S := rfl
set_option maxRecDepth 100000 in
theorem r_X12_down (v0 : Nat) (v1 : Int32) (v2 : Int32) (v3 : Int32) (S : z_St) : z_seg z_rI (c_X12_down) [107] (fun pc => cond (Nat.beq pc 107) (a_X12_down_107 (j_X12_down_107)) (fun _ _ _ => none)) 79 (c_X12_down) [(0, .ref v0), (1, .int v1), (2, .int v2), (3, .int v3)] [] S = b_X12_down v0 v1 v2 v3 S := rfl
def b_X12_hung (v0 : Nat) (v1 : Int32) (v2 : Int32) (S : z_St) : Option (Int32 × z_St) :=
z_chk S v0 13 (
let S1 := z_wi S v0 0 ((0 : Int32))
z_chk S1 v0 13 (
(f_X12_noRack v0 v1 S1).bind fun q2 =>
if q2.1 = 0 then
(if v1 = ((-1 : Int32)) then
(z_chk q2.2 v0 13 (
(f_X12_fails v0 ((1 : Int32)) q2.2).bind fun q8 =>
some (q8.1, q8.2)))
else
(z_chk q2.2 v0 13 (
z_onV (va_rf (z_r q2.2 v0 17)) fun b3 =>
z_inb q2.2 b3 101 v1 (
(f_X12_in v2.toInt64 ((0 : Int64)) ((((z_i q2.2 b3 v1.toNatClampNeg)) - ((1 : Int32))).toInt64) q2.2).bind fun q4 =>
if q4.1 = 0 then
(z_chk q4.2 v0 13 (
(f_X12_fails v0 ((2 : Int32)) q4.2).bind fun q7 =>
some (q7.1, q7.2)))
else
(z_chk q4.2 v0 13 (
(f_X12_well v0 q4.2).bind fun q5 =>
z_chk q5 v0 13 (
z_onV (va_rf (z_r q5 v0 18)) fun b6 =>
z_inb q5 b6 101 ((((16 : Int32)) * v1) + v2) (
some ((z_i q5 b6 ((((16 : Int32)) * v1) + v2).toNatClampNeg), q5)))))))))
else
(some ((-2000000001 : Int32), q2.2))))
def f_X12_hung : Nat → Int32 → Int32 → z_St → Option (Int32 × z_St) := z_op (b_X12_hung)
theorem e_X12_hung (v0 : Nat) (v1 : Int32) (v2 : Int32) (S : z_St) : f_X12_hung v0 v1 v2 S = b_X12_hung v0 v1 v2 S := congrFun (congrFun (congrFun (congrFun (z_op_eq (b_X12_hung)) v0) v1) v2) S
def g_X12_hung : z_G := .inl (fun as S => match as with
  | [.ref v0, .int v1, .int v2] => f_X12_hung v0 v1 v2 S
  | _ => none)
def c_X12_hung : List z_E := [
  (0, .aload_n 0, 1, .null, [], z_g0),
  (1, .iconst 0, 1, .int ((0 : Int32)), [], z_g0),
  (2, .putfield 224, 3, .null, [13, 0, 0], z_g0),
  (5, .aload_n 0, 1, .null, [], z_g0),
  (6, .iload_n 1, 1, .null, [], z_g0),
  (7, .invokevirtual 364, 3, .null, [1, 13, 0], g_X12_noRack),
  (10, .ifCond .eq 7, 3, .null, [17], z_g0),
  (13, .ldc_w 296, 3, .int (-2000000001 : Int32), [], z_g0),
  (16, .ireturn, 1, .null, [], z_g0),
  (17, .iload_n 1, 1, .null, [], z_g0),
  (18, .iconst (-1), 1, .int ((-1 : Int32)), [], z_g0),
  (19, .if_icmp .ne 9, 3, .null, [28], z_g0),
  (22, .aload_n 0, 1, .null, [], z_g0),
  (23, .iconst 1, 1, .int ((1 : Int32)), [], z_g0),
  (24, .invokevirtual 282, 3, .null, [1, 13, 0], g_X12_fails),
  (27, .ireturn, 1, .null, [], z_g0),
  (28, .iload_n 2, 1, .null, [], z_g0),
  (29, .i2l, 1, .null, [], z_g0),
  (30, .lconst 0, 1, .long (0 : Int64), [], z_g0),
  (31, .aload_n 0, 1, .null, [], z_g0),
  (32, .getfield 41, 3, .null, [13, 17, 3], z_g0),
  (35, .iload_n 1, 1, .null, [], z_g0),
  (36, .iaload, 1, .null, [101], z_g0),
  (37, .iconst 1, 1, .int ((1 : Int32)), [], z_g0),
  (38, .isub, 1, .null, [], z_g0),
  (39, .i2l, 1, .null, [], z_g0),
  (40, .invokestatic 274, 3, .null, [0, 0, 0, 0], g_X12_in),
  (43, .ifCond .ne 9, 3, .null, [52], z_g0),
  (46, .aload_n 0, 1, .null, [], z_g0),
  (47, .iconst 2, 1, .int ((2 : Int32)), [], z_g0),
  (48, .invokevirtual 282, 3, .null, [1, 13, 0], g_X12_fails),
  (51, .ireturn, 1, .null, [], z_g0),
  (52, .aload_n 0, 1, .null, [], z_g0),
  (53, .invokevirtual 286, 3, .null, [1, 13], g_X12_well),
  (56, .aload_n 0, 1, .null, [], z_g0),
  (57, .getfield 44, 3, .null, [13, 18, 3], z_g0),
  (60, .bipush 16, 2, .int ((16 : Int32)), [], z_g0),
  (62, .iload_n 1, 1, .null, [], z_g0),
  (63, .imul, 1, .null, [], z_g0),
  (64, .iload_n 2, 1, .null, [], z_g0),
  (65, .iadd, 1, .null, [], z_g0),
  (66, .iaload, 1, .null, [101], z_g0),
  (67, .ireturn, 1, .null, [], z_g0)]
set_option maxRecDepth 100000 in
theorem r_X12_hung (v0 : Nat) (v1 : Int32) (v2 : Int32) (S : z_St) : z_seg z_rI (c_X12_hung) [] (fun pc => fun _ _ _ => none) 46 (c_X12_hung) [(0, .ref v0), (1, .int v1), (2, .int v2)] [] S = b_X12_hung v0 v1 v2 S := rfl
def b_X12_asked (v0 : Nat) (v1 : Int32) (v2 : Int32) (v3 : Int32) (S : z_St) : Option (Int32 × z_St) :=
z_chk S v0 13 (
let S1 := z_wi S v0 0 ((0 : Int32))
z_chk S1 v0 13 (
(f_X12_noRack v0 v1 S1).bind fun q2 =>
if q2.1 = 0 then
((f_X12_in v3.toInt64 ((0 : Int64)) ((5 : Int64)) q2.2).bind fun q3 =>
if q3.1 = 0 then
(some ((-2000000002 : Int32), q3.2))
else
(if v1 = ((-1 : Int32)) then
(z_chk q3.2 v0 13 (
(f_X12_fails v0 ((1 : Int32)) q3.2).bind fun q9 =>
some (q9.1, q9.2)))
else
(z_chk q3.2 v0 13 (
z_onV (va_rf (z_r q3.2 v0 17)) fun b4 =>
z_inb q3.2 b4 101 v1 (
(f_X12_in v2.toInt64 ((0 : Int64)) ((((z_i q3.2 b4 v1.toNatClampNeg)) - ((1 : Int32))).toInt64) q3.2).bind fun q5 =>
if q5.1 = 0 then
(z_chk q5.2 v0 13 (
(f_X12_fails v0 ((2 : Int32)) q5.2).bind fun q6 =>
some (q6.1, q6.2)))
else
(z_chk q5.2 v0 13 (
z_onV (va_rf (z_r q5.2 v0 18)) fun b7 =>
z_inb q5.2 b7 101 ((((16 : Int32)) * v1) + v2) (
z_chk q5.2 v0 13 (
(f_X12_asks v0 ((z_i q5.2 b7 ((((16 : Int32)) * v1) + v2).toNatClampNeg)) v3 q5.2).bind fun q8 =>
some (q8.1, q8.2))))))))))
else
(some ((-2000000001 : Int32), q2.2))))
def f_X12_asked : Nat → Int32 → Int32 → Int32 → z_St → Option (Int32 × z_St) := z_op (b_X12_asked)
theorem e_X12_asked (v0 : Nat) (v1 : Int32) (v2 : Int32) (v3 : Int32) (S : z_St) : f_X12_asked v0 v1 v2 v3 S = b_X12_asked v0 v1 v2 v3 S := congrFun (congrFun (congrFun (congrFun (congrFun (z_op_eq (b_X12_asked)) v0) v1) v2) v3) S
def g_X12_asked : z_G := .inl (fun as S => match as with
  | [.ref v0, .int v1, .int v2, .int v3] => f_X12_asked v0 v1 v2 v3 S
  | _ => none)
def c_X12_asked : List z_E := [
  (0, .aload_n 0, 1, .null, [], z_g0),
  (1, .iconst 0, 1, .int ((0 : Int32)), [], z_g0),
  (2, .putfield 224, 3, .null, [13, 0, 0], z_g0),
  (5, .aload_n 0, 1, .null, [], z_g0),
  (6, .iload_n 1, 1, .null, [], z_g0),
  (7, .invokevirtual 364, 3, .null, [1, 13, 0], g_X12_noRack),
  (10, .ifCond .eq 7, 3, .null, [17], z_g0),
  (13, .ldc_w 296, 3, .int (-2000000001 : Int32), [], z_g0),
  (16, .ireturn, 1, .null, [], z_g0),
  (17, .iload_n 3, 1, .null, [], z_g0),
  (18, .i2l, 1, .null, [], z_g0),
  (19, .lconst 0, 1, .long (0 : Int64), [], z_g0),
  (20, .ldc2_w 334, 3, .long (5 : Int64), [], z_g0),
  (23, .invokestatic 274, 3, .null, [0, 0, 0, 0], g_X12_in),
  (26, .ifCond .ne 7, 3, .null, [33], z_g0),
  (29, .ldc_w 280, 3, .int (-2000000002 : Int32), [], z_g0),
  (32, .ireturn, 1, .null, [], z_g0),
  (33, .iload_n 1, 1, .null, [], z_g0),
  (34, .iconst (-1), 1, .int ((-1 : Int32)), [], z_g0),
  (35, .if_icmp .ne 9, 3, .null, [44], z_g0),
  (38, .aload_n 0, 1, .null, [], z_g0),
  (39, .iconst 1, 1, .int ((1 : Int32)), [], z_g0),
  (40, .invokevirtual 282, 3, .null, [1, 13, 0], g_X12_fails),
  (43, .ireturn, 1, .null, [], z_g0),
  (44, .iload_n 2, 1, .null, [], z_g0),
  (45, .i2l, 1, .null, [], z_g0),
  (46, .lconst 0, 1, .long (0 : Int64), [], z_g0),
  (47, .aload_n 0, 1, .null, [], z_g0),
  (48, .getfield 41, 3, .null, [13, 17, 3], z_g0),
  (51, .iload_n 1, 1, .null, [], z_g0),
  (52, .iaload, 1, .null, [101], z_g0),
  (53, .iconst 1, 1, .int ((1 : Int32)), [], z_g0),
  (54, .isub, 1, .null, [], z_g0),
  (55, .i2l, 1, .null, [], z_g0),
  (56, .invokestatic 274, 3, .null, [0, 0, 0, 0], g_X12_in),
  (59, .ifCond .eq 22, 3, .null, [81], z_g0),
  (62, .aload_n 0, 1, .null, [], z_g0),
  (63, .aload_n 0, 1, .null, [], z_g0),
  (64, .getfield 44, 3, .null, [13, 18, 3], z_g0),
  (67, .bipush 16, 2, .int ((16 : Int32)), [], z_g0),
  (69, .iload_n 1, 1, .null, [], z_g0),
  (70, .imul, 1, .null, [], z_g0),
  (71, .iload_n 2, 1, .null, [], z_g0),
  (72, .iadd, 1, .null, [], z_g0),
  (73, .iaload, 1, .null, [101], z_g0),
  (74, .iload_n 3, 1, .null, [], z_g0),
  (75, .invokevirtual 356, 3, .null, [1, 13, 0, 0], g_X12_asks),
  (78, .goto 8, 3, .null, [86], z_g0),
  (81, .aload_n 0, 1, .null, [], z_g0),
  (82, .iconst 2, 1, .int ((2 : Int32)), [], z_g0),
  (83, .invokevirtual 282, 3, .null, [1, 13, 0], g_X12_fails),
  (86, .ireturn, 1, .null, [], z_g0)]
set_option maxRecDepth 100000 in
theorem r_X12_asked (v0 : Nat) (v1 : Int32) (v2 : Int32) (v3 : Int32) (S : z_St) : z_seg z_rI (c_X12_asked) [] (fun pc => fun _ _ _ => none) 55 (c_X12_asked) [(0, .ref v0), (1, .int v1), (2, .int v2), (3, .int v3)] [] S = b_X12_asked v0 v1 v2 v3 S := rfl
def j_X12_haul_176 (k_118 : Nat → Int32 → Int32 → Int32 → Int32 → z_St → Option (Int32 × z_St)) (v0 : Nat) (v3 : Int32) (v4 : Int32) (v5 : Int32) (v6 : Int32) (S : z_St) : Option (Int32 × z_St) :=
z_chk S v0 13 (
z_chk S v0 13 (
z_onV (va_rf (z_r S v0 19)) fun b24 =>
z_inb S b24 101 v6 (
z_onV (va_rf (z_r S v0 18)) fun b25 =>
z_inb S b25 101 (((((16 : Int32)) * v3) + v4) + v6) (
let S26 := z_wi S b25 (((((16 : Int32)) * v3) + v4) + v6).toNatClampNeg ((z_i S b24 v6.toNatClampNeg))
let x27 := v6 + (1 : Int32)
k_118 v0 v3 v4 v5 x27 S26))))
def l_X12_haul_118 : Nat → Nat → Int32 → Int32 → Int32 → Int32 → z_St → Option (Int32 × z_St)
  | 0 => fun _ _ _ _ _ _ => none
  | n + 1 => fun (v0 : Nat) (v3 : Int32) (v4 : Int32) (v5 : Int32) (v6 : Int32) (S : z_St) =>
if v5 ≤ v6 then
(z_chk S v0 13 (
(f_X12_well v0 S).bind fun q16 =>
some (v5, q16)))
else
(z_chk S v0 13 (
z_onV (va_rf (z_r S v0 19)) fun b17 =>
z_inb S b17 101 v6 (
if ((z_i S b17 v6.toNatClampNeg)) = ((-1 : Int32)) then
(j_X12_haul_176 (l_X12_haul_118 n) v0 v3 v4 v5 v6 S)
else
(z_chk S v0 13 (
z_onV (va_rf (z_r S v0 16)) fun b18 =>
z_inb S b18 101 v3 (
z_chk S v0 13 (
z_chk S v0 13 (
z_onV (va_rf (z_r S v0 19)) fun b19 =>
z_inb S b19 101 v6 (
z_onV (va_rf (z_r S v0 13)) fun b20 =>
z_inb S b20 101 ((z_i S b19 v6.toNatClampNeg)) (
(f_X12_fits ((z_i S b18 v3.toNatClampNeg)) ((z_i S b20 ((z_i S b19 v6.toNatClampNeg)).toNatClampNeg)) S).bind fun q21 =>
if q21.1 = 0 then
(z_chk q21.2 v0 13 (
(f_X12_fails v0 ((5 : Int32)) q21.2).bind fun q22 =>
z_chk q22.2 v0 13 (
let S23 := z_wi q22.2 v0 2 v6
some (q22.1, S23))))
else
(j_X12_haul_176 (l_X12_haul_118 n) v0 v3 v4 v5 v6 q21.2)))))))))))
def l_X12_haul_81 : Nat → Nat → Int32 → Int32 → Int32 → Int32 → Int32 → Int32 → z_St → Option (Int32 × z_St)
  | 0 => fun _ _ _ _ _ _ _ _ => none
  | n + 1 => fun (v0 : Nat) (v1 : Int32) (v2 : Int32) (v3 : Int32) (v4 : Int32) (v5 : Int32) (v6 : Int32) (S : z_St) =>
if v5 ≤ v6 then
(l_X12_haul_118 z_N v0 v3 v4 v5 ((0 : Int32)) S)
else
(z_chk S v0 13 (
z_chk S v0 13 (
z_onV (va_rf (z_r S v0 18)) fun b12 =>
z_inb S b12 101 (((((16 : Int32)) * v1) + v2) + v6) (
z_onV (va_rf (z_r S v0 19)) fun b13 =>
z_inb S b13 101 v6 (
let S14 := z_wi S b13 v6.toNatClampNeg ((z_i S b12 (((((16 : Int32)) * v1) + v2) + v6).toNatClampNeg))
let x15 := v6 + (1 : Int32)
l_X12_haul_81 n v0 v1 v2 v3 v4 v5 x15 S14)))))
def b_X12_haul (v0 : Nat) (v1 : Int32) (v2 : Int32) (v3 : Int32) (v4 : Int32) (v5 : Int32) (S : z_St) : Option (Int32 × z_St) :=
z_chk S v0 13 (
let S1 := z_wi S v0 0 ((0 : Int32))
z_chk S1 v0 13 (
(f_X12_noRack v0 v1 S1).bind fun q2 =>
if q2.1 = 0 then
(z_chk q2.2 v0 13 (
(f_X12_noRack v0 v3 q2.2).bind fun q3 =>
if q3.1 = 0 then
(if v1 = ((-1 : Int32)) then
(z_chk q3.2 v0 13 (
(f_X12_fails v0 ((1 : Int32)) q3.2).bind fun q4 =>
some (q4.1, q4.2)))
else
(if v3 = ((-1 : Int32)) then
(z_chk q3.2 v0 13 (
(f_X12_fails v0 ((1 : Int32)) q3.2).bind fun q11 =>
some (q11.1, q11.2)))
else
(z_chk q3.2 v0 13 (
z_onV (va_rf (z_r q3.2 v0 17)) fun b5 =>
z_inb q3.2 b5 101 v1 (
(f_X12_isSpan v2 v5 ((z_i q3.2 b5 v1.toNatClampNeg)) q3.2).bind fun q6 =>
if q6.1 = 0 then
(z_chk q6.2 v0 13 (
(f_X12_fails v0 ((2 : Int32)) q6.2).bind fun q7 =>
some (q7.1, q7.2)))
else
(z_chk q6.2 v0 13 (
z_onV (va_rf (z_r q6.2 v0 17)) fun b8 =>
z_inb q6.2 b8 101 v3 (
(f_X12_isSpan v4 v5 ((z_i q6.2 b8 v3.toNatClampNeg)) q6.2).bind fun q9 =>
if q9.1 = 0 then
(z_chk q9.2 v0 13 (
(f_X12_fails v0 ((2 : Int32)) q9.2).bind fun q10 =>
some (q10.1, q10.2)))
else
(l_X12_haul_81 z_N v0 v1 v2 v3 v4 v5 ((0 : Int32)) q9.2)))))))))
else
(some ((-2000000001 : Int32), q3.2))))
else
(some ((-2000000001 : Int32), q2.2))))
def f_X12_haul : Nat → Int32 → Int32 → Int32 → Int32 → Int32 → z_St → Option (Int32 × z_St) := z_op (b_X12_haul)
theorem e_X12_haul (v0 : Nat) (v1 : Int32) (v2 : Int32) (v3 : Int32) (v4 : Int32) (v5 : Int32) (S : z_St) : f_X12_haul v0 v1 v2 v3 v4 v5 S = b_X12_haul v0 v1 v2 v3 v4 v5 S := congrFun (congrFun (congrFun (congrFun (congrFun (congrFun (congrFun (z_op_eq (b_X12_haul)) v0) v1) v2) v3) v4) v5) S
def g_X12_haul : z_G := .inl (fun as S => match as with
  | [.ref v0, .int v1, .int v2, .int v3, .int v4, .int v5] => f_X12_haul v0 v1 v2 v3 v4 v5 S
  | _ => none)
def c_X12_haul : List z_E := [
  (0, .aload_n 0, 1, .null, [], z_g0),
  (1, .iconst 0, 1, .int ((0 : Int32)), [], z_g0),
  (2, .putfield 224, 3, .null, [13, 0, 0], z_g0),
  (5, .aload_n 0, 1, .null, [], z_g0),
  (6, .iload_n 1, 1, .null, [], z_g0),
  (7, .invokevirtual 364, 3, .null, [1, 13, 0], g_X12_noRack),
  (10, .ifCond .ne 11, 3, .null, [21], z_g0),
  (13, .aload_n 0, 1, .null, [], z_g0),
  (14, .iload_n 3, 1, .null, [], z_g0),
  (15, .invokevirtual 364, 3, .null, [1, 13, 0], g_X12_noRack),
  (18, .ifCond .eq 7, 3, .null, [25], z_g0),
  (21, .ldc_w 296, 3, .int (-2000000001 : Int32), [], z_g0),
  (24, .ireturn, 1, .null, [], z_g0),
  (25, .iload_n 1, 1, .null, [], z_g0),
  (26, .iconst (-1), 1, .int ((-1 : Int32)), [], z_g0),
  (27, .if_icmp .eq 8, 3, .null, [35], z_g0),
  (30, .iload_n 3, 1, .null, [], z_g0),
  (31, .iconst (-1), 1, .int ((-1 : Int32)), [], z_g0),
  (32, .if_icmp .ne 9, 3, .null, [41], z_g0),
  (35, .aload_n 0, 1, .null, [], z_g0),
  (36, .iconst 1, 1, .int ((1 : Int32)), [], z_g0),
  (37, .invokevirtual 282, 3, .null, [1, 13, 0], g_X12_fails),
  (40, .ireturn, 1, .null, [], z_g0),
  (41, .iload_n 2, 1, .null, [], z_g0),
  (42, .iload 5, 2, .null, [], z_g0),
  (44, .aload_n 0, 1, .null, [], z_g0),
  (45, .getfield 41, 3, .null, [13, 17, 3], z_g0),
  (48, .iload_n 1, 1, .null, [], z_g0),
  (49, .iaload, 1, .null, [101], z_g0),
  (50, .invokestatic 315, 3, .null, [0, 0, 0, 0], g_X12_isSpan),
  (53, .ifCond .eq 19, 3, .null, [72], z_g0),
  (56, .iload 4, 2, .null, [], z_g0),
  (58, .iload 5, 2, .null, [], z_g0),
  (60, .aload_n 0, 1, .null, [], z_g0),
  (61, .getfield 41, 3, .null, [13, 17, 3], z_g0),
  (64, .iload_n 3, 1, .null, [], z_g0),
  (65, .iaload, 1, .null, [101], z_g0),
  (66, .invokestatic 315, 3, .null, [0, 0, 0, 0], g_X12_isSpan),
  (69, .ifCond .ne 9, 3, .null, [78], z_g0),
  (72, .aload_n 0, 1, .null, [], z_g0),
  (73, .iconst 2, 1, .int ((2 : Int32)), [], z_g0),
  (74, .invokevirtual 282, 3, .null, [1, 13, 0], g_X12_fails),
  (77, .ireturn, 1, .null, [], z_g0),
  (78, .iconst 0, 1, .int ((0 : Int32)), [], z_g0),
  (79, .istore 6, 2, .null, [], z_g0),
  (81, .iload 6, 2, .null, [], z_g0),
  (83, .iload 5, 2, .null, [], z_g0),
  (85, .if_icmp .ge 30, 3, .null, [115], z_g0),
  (88, .aload_n 0, 1, .null, [], z_g0),
  (89, .getfield 47, 3, .null, [13, 19, 3], z_g0),
  (92, .iload 6, 2, .null, [], z_g0),
  (94, .aload_n 0, 1, .null, [], z_g0),
  (95, .getfield 44, 3, .null, [13, 18, 3], z_g0),
  (98, .bipush 16, 2, .int ((16 : Int32)), [], z_g0),
  (100, .iload_n 1, 1, .null, [], z_g0),
  (101, .imul, 1, .null, [], z_g0),
  (102, .iload_n 2, 1, .null, [], z_g0),
  (103, .iadd, 1, .null, [], z_g0),
  (104, .iload 6, 2, .null, [], z_g0),
  (106, .iadd, 1, .null, [], z_g0),
  (107, .iaload, 1, .null, [101], z_g0),
  (108, .iastore, 1, .null, [], z_g0),
  (109, .iinc 6 1, 3, .int (1 : Int32), [], z_g0),
  (112, .goto (-31), 3, .null, [81], z_g0),
  (115, .iconst 0, 1, .int ((0 : Int32)), [], z_g0),
  (116, .istore 6, 2, .null, [], z_g0),
  (118, .iload 6, 2, .null, [], z_g0),
  (120, .iload 5, 2, .null, [], z_g0),
  (122, .if_icmp .ge 82, 3, .null, [204], z_g0),
  (125, .aload_n 0, 1, .null, [], z_g0),
  (126, .getfield 47, 3, .null, [13, 19, 3], z_g0),
  (129, .iload 6, 2, .null, [], z_g0),
  (131, .iaload, 1, .null, [101], z_g0),
  (132, .iconst (-1), 1, .int ((-1 : Int32)), [], z_g0),
  (133, .if_icmp .eq 43, 3, .null, [176], z_g0),
  (136, .aload_n 0, 1, .null, [], z_g0),
  (137, .getfield 38, 3, .null, [13, 16, 3], z_g0),
  (140, .iload_n 3, 1, .null, [], z_g0),
  (141, .iaload, 1, .null, [101], z_g0),
  (142, .aload_n 0, 1, .null, [], z_g0),
  (143, .getfield 32, 3, .null, [13, 13, 3], z_g0),
  (146, .aload_n 0, 1, .null, [], z_g0),
  (147, .getfield 47, 3, .null, [13, 19, 3], z_g0),
  (150, .iload 6, 2, .null, [], z_g0),
  (152, .iaload, 1, .null, [101], z_g0),
  (153, .iaload, 1, .null, [101], z_g0),
  (154, .invokestatic 338, 3, .null, [0, 0, 0], g_X12_fits),
  (157, .ifCond .ne 19, 3, .null, [176], z_g0),
  (160, .aload_n 0, 1, .null, [], z_g0),
  (161, .iconst 5, 1, .int ((5 : Int32)), [], z_g0),
  (162, .invokevirtual 282, 3, .null, [1, 13, 0], g_X12_fails),
  (165, .istore 7, 2, .null, [], z_g0),
  (167, .aload_n 0, 1, .null, [], z_g0),
  (168, .iload 6, 2, .null, [], z_g0),
  (170, .putfield 230, 3, .null, [13, 2, 0], z_g0),
  (173, .iload 7, 2, .null, [], z_g0),
  (175, .ireturn, 1, .null, [], z_g0),
  (176, .aload_n 0, 1, .null, [], z_g0),
  (177, .getfield 44, 3, .null, [13, 18, 3], z_g0),
  (180, .bipush 16, 2, .int ((16 : Int32)), [], z_g0),
  (182, .iload_n 3, 1, .null, [], z_g0),
  (183, .imul, 1, .null, [], z_g0),
  (184, .iload 4, 2, .null, [], z_g0),
  (186, .iadd, 1, .null, [], z_g0),
  (187, .iload 6, 2, .null, [], z_g0),
  (189, .iadd, 1, .null, [], z_g0),
  (190, .aload_n 0, 1, .null, [], z_g0),
  (191, .getfield 47, 3, .null, [13, 19, 3], z_g0),
  (194, .iload 6, 2, .null, [], z_g0),
  (196, .iaload, 1, .null, [101], z_g0),
  (197, .iastore, 1, .null, [], z_g0),
  (198, .iinc 6 1, 3, .int (1 : Int32), [], z_g0),
  (201, .goto (-83), 3, .null, [118], z_g0),
  (204, .aload_n 0, 1, .null, [], z_g0),
  (205, .invokevirtual 286, 3, .null, [1, 13], g_X12_well),
  (208, .iload 5, 2, .null, [], z_g0),
  (210, .ireturn, 1, .null, [], z_g0)]
def a_X12_haul_81 {ρ : Type} (k : Nat → Int32 → Int32 → Int32 → Int32 → Int32 → Int32 → z_St → Option ρ) (ls : z_Lv) (st : List Value) (S : z_St) : Option ρ := z_gR ls 0 fun v0 => z_gI ls 1 fun v1 => z_gI ls 2 fun v2 => z_gI ls 3 fun v3 => z_gI ls 4 fun v4 => z_gI ls 5 fun v5 => z_gI ls 6 fun v6 => z_p0 st (k v0 v1 v2 v3 v4 v5 v6 S)
def a_X12_haul_118 {ρ : Type} (k : Nat → Int32 → Int32 → Int32 → Int32 → z_St → Option ρ) (ls : z_Lv) (st : List Value) (S : z_St) : Option ρ := z_gR ls 0 fun v0 => z_gI ls 3 fun v3 => z_gI ls 4 fun v4 => z_gI ls 5 fun v5 => z_gI ls 6 fun v6 => z_p0 st (k v0 v3 v4 v5 v6 S)
def a_X12_haul_176 {ρ : Type} (k : Nat → Int32 → Int32 → Int32 → Int32 → z_St → Option ρ) (ls : z_Lv) (st : List Value) (S : z_St) : Option ρ := z_gR ls 0 fun v0 => z_gI ls 3 fun v3 => z_gI ls 4 fun v4 => z_gI ls 5 fun v5 => z_gI ls 6 fun v6 => z_p0 st (k v0 v3 v4 v5 v6 S)
set_option maxRecDepth 100000 in
theorem r_X12_haul_176 (k_118 : Nat → Int32 → Int32 → Int32 → Int32 → z_St → Option (Int32 × z_St)) (v0 : Nat) (v3 : Int32) (v4 : Int32) (v5 : Int32) (v6 : Int32) (S : z_St) : z_seg z_rI (c_X12_haul) [81, 118, 176] (fun pc => cond (Nat.beq pc 118) (a_X12_haul_118 k_118) (fun _ _ _ => none)) 120 (z_to 176 (c_X12_haul)) [(0, .ref v0), (3, .int v3), (4, .int v4), (5, .int v5), (6, .int v6)] [] S = j_X12_haul_176 k_118 v0 v3 v4 v5 v6 S := rfl
set_option maxRecDepth 100000 in
theorem r_X12_haul_118 (n : Nat) (v0 : Nat) (v3 : Int32) (v4 : Int32) (v5 : Int32) (v6 : Int32) (S : z_St) : z_seg z_rI (c_X12_haul) [81, 118, 176] (fun pc => cond (Nat.beq pc 176) (a_X12_haul_176 (j_X12_haul_176 (l_X12_haul_118 n))) (fun _ _ _ => none)) 120 (z_to 118 (c_X12_haul)) [(0, .ref v0), (3, .int v3), (4, .int v4), (5, .int v5), (6, .int v6)] [] S = l_X12_haul_118 (n + 1) v0 v3 v4 v5 v6 S := rfl
set_option maxRecDepth 100000 in
theorem r_X12_haul_81 (n : Nat) (v0 : Nat) (v1 : Int32) (v2 : Int32) (v3 : Int32) (v4 : Int32) (v5 : Int32) (v6 : Int32) (S : z_St) : z_seg z_rI (c_X12_haul) [81, 118, 176] (fun pc => cond (Nat.beq pc 81) (a_X12_haul_81 (l_X12_haul_81 n)) (cond (Nat.beq pc 118) (a_X12_haul_118 (l_X12_haul_118 z_N)) (fun _ _ _ => none))) 120 (z_to 81 (c_X12_haul)) [(0, .ref v0), (1, .int v1), (2, .int v2), (3, .int v3), (4, .int v4), (5, .int v5), (6, .int v6)] [] S = l_X12_haul_81 (n + 1) v0 v1 v2 v3 v4 v5 v6 S := rfl
set_option maxRecDepth 100000 in
theorem r_X12_haul (v0 : Nat) (v1 : Int32) (v2 : Int32) (v3 : Int32) (v4 : Int32) (v5 : Int32) (S : z_St) : z_seg z_rI (c_X12_haul) [81, 118, 176] (fun pc => cond (Nat.beq pc 81) (a_X12_haul_81 (l_X12_haul_81 z_N)) (fun _ _ _ => none)) 120 (c_X12_haul) [(0, .ref v0), (1, .int v1), (2, .int v2), (3, .int v3), (4, .int v4), (5, .int v5)] [] S = b_X12_haul v0 v1 v2 v3 v4 v5 S := rfl
def j_X12_box_101 (v0 : Nat) (v1 : Int32) (v2 : Int32) (v3 : Int32) (S : z_St) : Option (Int32 × z_St) :=
z_chk S v0 13 (
z_onV (va_rf (z_r S v0 20)) fun b5 =>
z_inb S b5 101 v1 (
let S6 := z_wi S b5 v1.toNatClampNeg v2
z_chk S6 v0 13 (
z_onV (va_rf (z_r S6 v0 21)) fun b7 =>
z_inb S6 b7 101 v1 (
let S8 := z_wi S6 b7 v1.toNatClampNeg v3
some ((1 : Int32), S8)))))
def j_X12_box_77 (v0 : Nat) (v1 : Int32) (v2 : Int32) (v3 : Int32) (t0 : Int32) (S : z_St) : Option (Int32 × z_St) :=
if v2 ≤ 0 then
(j_X12_box_101 v0 v1 v2 v3 S)
else
((f_X12_in v3.toInt64 ((0 : Int64)) ((t0 - ((1 : Int32))).toInt64) S).bind fun q4 =>
if q4.1 = 0 then
(some ((-2000000001 : Int32), q4.2))
else
(j_X12_box_101 v0 v1 v2 v3 q4.2))
def b_X12_box (v0 : Nat) (v1 : Int32) (v2 : Int32) (v3 : Int32) (S : z_St) : Option (Int32 × z_St) :=
z_chk S v0 13 (
let S1 := z_wi S v0 0 ((0 : Int32))
(f_X12_in v1.toInt64 ((0 : Int64)) ((9 : Int64)) S1).bind fun q2 =>
if q2.1 = 0 then
(some ((-2000000001 : Int32), q2.2))
else
((f_X12_in v2.toInt64 ((0 : Int64)) ((4 : Int64)) q2.2).bind fun q3 =>
if q3.1 = 0 then
(some ((-2000000002 : Int32), q3.2))
else
(if v2 = ((1 : Int32)) then
(z_chk q3.2 v0 13 (
j_X12_box_77 v0 v1 v2 v3 ((z_i q3.2 v0 3)) q3.2))
else
(if v2 = ((2 : Int32)) then
(z_chk q3.2 v0 13 (
j_X12_box_77 v0 v1 v2 v3 ((z_i q3.2 v0 12)) q3.2))
else
(if v2 = ((3 : Int32)) then
(z_chk q3.2 v0 13 (
j_X12_box_77 v0 v1 v2 v3 ((z_i q3.2 v0 15)) q3.2))
else
(z_chk q3.2 v0 13 (
j_X12_box_77 v0 v1 v2 v3 ((z_i q3.2 v0 8)) q3.2)))))))
def f_X12_box : Nat → Int32 → Int32 → Int32 → z_St → Option (Int32 × z_St) := z_op (b_X12_box)
theorem e_X12_box (v0 : Nat) (v1 : Int32) (v2 : Int32) (v3 : Int32) (S : z_St) : f_X12_box v0 v1 v2 v3 S = b_X12_box v0 v1 v2 v3 S := congrFun (congrFun (congrFun (congrFun (congrFun (z_op_eq (b_X12_box)) v0) v1) v2) v3) S
def g_X12_box : z_G := .inl (fun as S => match as with
  | [.ref v0, .int v1, .int v2, .int v3] => f_X12_box v0 v1 v2 v3 S
  | _ => none)
def c_X12_box : List z_E := [
  (0, .aload_n 0, 1, .null, [], z_g0),
  (1, .iconst 0, 1, .int ((0 : Int32)), [], z_g0),
  (2, .putfield 224, 3, .null, [13, 0, 0], z_g0),
  (5, .iload_n 1, 1, .null, [], z_g0),
  (6, .i2l, 1, .null, [], z_g0),
  (7, .lconst 0, 1, .long (0 : Int64), [], z_g0),
  (8, .ldc2_w 362, 3, .long (9 : Int64), [], z_g0),
  (11, .invokestatic 274, 3, .null, [0, 0, 0, 0], g_X12_in),
  (14, .ifCond .ne 7, 3, .null, [21], z_g0),
  (17, .ldc_w 296, 3, .int (-2000000001 : Int32), [], z_g0),
  (20, .ireturn, 1, .null, [], z_g0),
  (21, .iload_n 2, 1, .null, [], z_g0),
  (22, .i2l, 1, .null, [], z_g0),
  (23, .lconst 0, 1, .long (0 : Int64), [], z_g0),
  (24, .ldc2_w 367, 3, .long (4 : Int64), [], z_g0),
  (27, .invokestatic 274, 3, .null, [0, 0, 0, 0], g_X12_in),
  (30, .ifCond .ne 7, 3, .null, [37], z_g0),
  (33, .ldc_w 280, 3, .int (-2000000002 : Int32), [], z_g0),
  (36, .ireturn, 1, .null, [], z_g0),
  (37, .iload_n 2, 1, .null, [], z_g0),
  (38, .iconst 1, 1, .int ((1 : Int32)), [], z_g0),
  (39, .if_icmp .ne 10, 3, .null, [49], z_g0),
  (42, .aload_n 0, 1, .null, [], z_g0),
  (43, .getfield 271, 3, .null, [13, 3, 0], z_g0),
  (46, .goto 31, 3, .null, [77], z_g0),
  (49, .iload_n 2, 1, .null, [], z_g0),
  (50, .iconst 2, 1, .int ((2 : Int32)), [], z_g0),
  (51, .if_icmp .ne 10, 3, .null, [61], z_g0),
  (54, .aload_n 0, 1, .null, [], z_g0),
  (55, .getfield 331, 3, .null, [13, 12, 0], z_g0),
  (58, .goto 19, 3, .null, [77], z_g0),
  (61, .iload_n 2, 1, .null, [], z_g0),
  (62, .iconst 3, 1, .int ((3 : Int32)), [], z_g0),
  (63, .if_icmp .ne 10, 3, .null, [73], z_g0),
  (66, .aload_n 0, 1, .null, [], z_g0),
  (67, .getfield 359, 3, .null, [13, 15, 0], z_g0),
  (70, .goto 7, 3, .null, [77], z_g0),
  (73, .aload_n 0, 1, .null, [], z_g0),
  (74, .getfield 321, 3, .null, [13, 8, 0], z_g0),
  (77, .istore 4, 2, .null, [], z_g0),
  (79, .iload_n 2, 1, .null, [], z_g0),
  (80, .ifCond .le 21, 3, .null, [101], z_g0),
  (83, .iload_n 3, 1, .null, [], z_g0),
  (84, .i2l, 1, .null, [], z_g0),
  (85, .lconst 0, 1, .long (0 : Int64), [], z_g0),
  (86, .iload 4, 2, .null, [], z_g0),
  (88, .iconst 1, 1, .int ((1 : Int32)), [], z_g0),
  (89, .isub, 1, .null, [], z_g0),
  (90, .i2l, 1, .null, [], z_g0),
  (91, .invokestatic 274, 3, .null, [0, 0, 0, 0], g_X12_in),
  (94, .ifCond .ne 7, 3, .null, [101], z_g0),
  (97, .ldc_w 296, 3, .int (-2000000001 : Int32), [], z_g0),
  (100, .ireturn, 1, .null, [], z_g0),
  (101, .aload_n 0, 1, .null, [], z_g0),
  (102, .getfield 50, 3, .null, [13, 20, 3], z_g0),
  (105, .iload_n 1, 1, .null, [], z_g0),
  (106, .iload_n 2, 1, .null, [], z_g0),
  (107, .iastore, 1, .null, [], z_g0),
  (108, .aload_n 0, 1, .null, [], z_g0),
  (109, .getfield 53, 3, .null, [13, 21, 3], z_g0),
  (112, .iload_n 1, 1, .null, [], z_g0),
  (113, .iload_n 3, 1, .null, [], z_g0),
  (114, .iastore, 1, .null, [], z_g0),
  (115, .iconst 1, 1, .int ((1 : Int32)), [], z_g0),
  (116, .ireturn, 1, .null, [], z_g0)]
def a_X12_box_77 {ρ : Type} (k : Nat → Int32 → Int32 → Int32 → Int32 → z_St → Option ρ) (ls : z_Lv) (st : List Value) (S : z_St) : Option ρ := z_gR ls 0 fun v0 => z_gI ls 1 fun v1 => z_gI ls 2 fun v2 => z_gI ls 3 fun v3 => z_pI st fun t0 s0 => z_p0 s0 (k v0 v1 v2 v3 t0 S)
def a_X12_box_101 {ρ : Type} (k : Nat → Int32 → Int32 → Int32 → z_St → Option ρ) (ls : z_Lv) (st : List Value) (S : z_St) : Option ρ := z_gR ls 0 fun v0 => z_gI ls 1 fun v1 => z_gI ls 2 fun v2 => z_gI ls 3 fun v3 => z_p0 st (k v0 v1 v2 v3 S)
set_option maxRecDepth 100000 in
theorem r_X12_box_101 (v0 : Nat) (v1 : Int32) (v2 : Int32) (v3 : Int32) (S : z_St) : z_seg z_rI (c_X12_box) [77, 101] (fun pc => fun _ _ _ => none) 68 (z_to 101 (c_X12_box)) [(0, .ref v0), (1, .int v1), (2, .int v2), (3, .int v3)] [] S = j_X12_box_101 v0 v1 v2 v3 S := rfl
set_option maxRecDepth 100000 in
theorem r_X12_box_77 (v0 : Nat) (v1 : Int32) (v2 : Int32) (v3 : Int32) (t0 : Int32) (S : z_St) : z_seg z_rI (c_X12_box) [77, 101] (fun pc => cond (Nat.beq pc 101) (a_X12_box_101 (j_X12_box_101)) (fun _ _ _ => none)) 68 (z_to 77 (c_X12_box)) [(0, .ref v0), (1, .int v1), (2, .int v2), (3, .int v3)] [.int t0] S = j_X12_box_77 v0 v1 v2 v3 t0 S := rfl
set_option maxRecDepth 100000 in
theorem r_X12_box (v0 : Nat) (v1 : Int32) (v2 : Int32) (v3 : Int32) (S : z_St) : z_seg z_rI (c_X12_box) [77, 101] (fun pc => cond (Nat.beq pc 77) (a_X12_box_77 (j_X12_box_77)) (fun _ _ _ => none)) 68 (c_X12_box) [(0, .ref v0), (1, .int v1), (2, .int v2), (3, .int v3)] [] S = b_X12_box v0 v1 v2 v3 S := rfl
def j_X12_isOf_137 (v0 : Nat) (v2 : Int32) (v3 : Int32) (S : z_St) : Option (Int32 × z_St) :=
if v2 = ((12 : Int32)) then
(z_chk S v0 13 (
z_onV (va_rf (z_r S v0 16)) fun b10 =>
z_inb S b10 101 v3 (
if ((2 : Int32)) ≤ ((z_i S b10 v3.toNatClampNeg)) then
(z_rb ((0 : Int32)) S)
else
(z_rb ((1 : Int32)) S))))
else
(z_rb ((0 : Int32)) S)
def j_X12_isOf_88 (v0 : Nat) (v2 : Int32) (v3 : Int32) (S : z_St) : Option (Int32 × z_St) :=
if v2 = ((10 : Int32)) then
(z_chk S v0 13 (
z_onV (va_rf (z_r S v0 13)) fun b9 =>
z_inb S b9 101 v3 (
if ((z_i S b9 v3.toNatClampNeg)) = ((1 : Int32)) then
(z_rb ((1 : Int32)) S)
else
(z_rb ((0 : Int32)) S))))
else
(z_rb ((0 : Int32)) S)
def b_X12_isOf (v0 : Nat) (v1 : Int32) (v2 : Int32) (S : z_St) : Option (Int32 × z_St) :=
z_chk S v0 13 (
z_onV (va_rf (z_r S v0 21)) fun b1 =>
z_inb S b1 101 v1 (
let x2 := (z_i S b1 v1.toNatClampNeg)
z_chk S v0 13 (
z_onV (va_rf (z_r S v0 20)) fun b3 =>
z_inb S b3 101 v1 (
if ((z_i S b3 v1.toNatClampNeg)) = (1 : Int32) then
(if ((8 : Int32)) ≤ v2 then
(z_rb ((0 : Int32)) S)
else
(z_chk S v0 13 (
z_onV (va_rf (z_r S v0 4)) fun b4 =>
z_inb S b4 101 x2 (
if ((z_i S b4 x2.toNatClampNeg)) = v2 then
(z_rb ((1 : Int32)) S)
else
(z_rb ((0 : Int32)) S)))))
else
if ((z_i S b3 v1.toNatClampNeg)) = (2 : Int32) then
(if v2 = ((8 : Int32)) then
(z_rb ((1 : Int32)) S)
else
(if v2 = ((9 : Int32)) then
(z_chk S v0 13 (
z_onV (va_rf (z_r S v0 13)) fun b5 =>
z_inb S b5 101 x2 (
if ((z_i S b5 x2.toNatClampNeg)) < ((2 : Int32)) then
(z_rb ((1 : Int32)) S)
else
(j_X12_isOf_88 v0 v2 x2 S))))
else
(j_X12_isOf_88 v0 v2 x2 S)))
else
if ((z_i S b3 v1.toNatClampNeg)) = (3 : Int32) then
(if v2 = ((11 : Int32)) then
(z_chk S v0 13 (
z_onV (va_rf (z_r S v0 16)) fun b6 =>
z_inb S b6 101 x2 (
if ((z_i S b6 x2.toNatClampNeg)) = ((6 : Int32)) then
(z_rb ((1 : Int32)) S)
else
(z_chk S v0 13 (
z_onV (va_rf (z_r S v0 16)) fun b7 =>
z_inb S b7 101 x2 (
if ((z_i S b7 x2.toNatClampNeg)) < ((2 : Int32)) then
(z_rb ((1 : Int32)) S)
else
(j_X12_isOf_137 v0 v2 x2 S)))))))
else
(j_X12_isOf_137 v0 v2 x2 S))
else
if ((z_i S b3 v1.toNatClampNeg)) = (4 : Int32) then
(if v2 = ((13 : Int32)) then
(z_chk S v0 13 (
z_onV (va_rf (z_r S v0 9)) fun b8 =>
z_inb S b8 101 x2 (
if ((z_i S b8 x2.toNatClampNeg)) = ((1 : Int32)) then
(z_rb ((1 : Int32)) S)
else
(z_rb ((0 : Int32)) S))))
else
(z_rb ((0 : Int32)) S))
else
(z_rb ((0 : Int32)) S)))))
def f_X12_isOf : Nat → Int32 → Int32 → z_St → Option (Int32 × z_St) := z_op (b_X12_isOf)
theorem e_X12_isOf (v0 : Nat) (v1 : Int32) (v2 : Int32) (S : z_St) : f_X12_isOf v0 v1 v2 S = b_X12_isOf v0 v1 v2 S := congrFun (congrFun (congrFun (congrFun (z_op_eq (b_X12_isOf)) v0) v1) v2) S
def g_X12_isOf : z_G := .inl (fun as S => match as with
  | [.ref v0, .int v1, .int v2] => f_X12_isOf v0 v1 v2 S
  | _ => none)
def c_X12_isOf : List z_E := [
  (0, .aload_n 0, 1, .null, [], z_g0),
  (1, .getfield 53, 3, .null, [13, 21, 3], z_g0),
  (4, .iload_n 1, 1, .null, [], z_g0),
  (5, .iaload, 1, .null, [101], z_g0),
  (6, .istore_n 3, 1, .null, [], z_g0),
  (7, .aload_n 0, 1, .null, [], z_g0),
  (8, .getfield 50, 3, .null, [13, 20, 3], z_g0),
  (11, .iload_n 1, 1, .null, [], z_g0),
  (12, .iaload, 1, .null, [101], z_g0),
  (13, .tableswitch 168 1 4 #[31, 53, 97, 146], 31, .null, [181, 1, 44, 66, 110, 159], z_g0),
  (44, .iload_n 2, 1, .null, [], z_g0),
  (45, .bipush 8, 2, .int ((8 : Int32)), [], z_g0),
  (47, .if_icmp .ge 17, 3, .null, [64], z_g0),
  (50, .aload_n 0, 1, .null, [], z_g0),
  (51, .getfield 7, 3, .null, [13, 4, 3], z_g0),
  (54, .iload_n 3, 1, .null, [], z_g0),
  (55, .iaload, 1, .null, [101], z_g0),
  (56, .iload_n 2, 1, .null, [], z_g0),
  (57, .if_icmp .ne 7, 3, .null, [64], z_g0),
  (60, .iconst 1, 1, .int ((1 : Int32)), [], z_g0),
  (61, .goto 4, 3, .null, [65], z_g0),
  (64, .iconst 0, 1, .int ((0 : Int32)), [], z_g0),
  (65, .ireturn, 1, .null, [], z_g0),
  (66, .iload_n 2, 1, .null, [], z_g0),
  (67, .bipush 8, 2, .int ((8 : Int32)), [], z_g0),
  (69, .if_icmp .eq 35, 3, .null, [104], z_g0),
  (72, .iload_n 2, 1, .null, [], z_g0),
  (73, .bipush 9, 2, .int ((9 : Int32)), [], z_g0),
  (75, .if_icmp .ne 13, 3, .null, [88], z_g0),
  (78, .aload_n 0, 1, .null, [], z_g0),
  (79, .getfield 32, 3, .null, [13, 13, 3], z_g0),
  (82, .iload_n 3, 1, .null, [], z_g0),
  (83, .iaload, 1, .null, [101], z_g0),
  (84, .iconst 2, 1, .int ((2 : Int32)), [], z_g0),
  (85, .if_icmp .lt 19, 3, .null, [104], z_g0),
  (88, .iload_n 2, 1, .null, [], z_g0),
  (89, .bipush 10, 2, .int ((10 : Int32)), [], z_g0),
  (91, .if_icmp .ne 17, 3, .null, [108], z_g0),
  (94, .aload_n 0, 1, .null, [], z_g0),
  (95, .getfield 32, 3, .null, [13, 13, 3], z_g0),
  (98, .iload_n 3, 1, .null, [], z_g0),
  (99, .iaload, 1, .null, [101], z_g0),
  (100, .iconst 1, 1, .int ((1 : Int32)), [], z_g0),
  (101, .if_icmp .ne 7, 3, .null, [108], z_g0),
  (104, .iconst 1, 1, .int ((1 : Int32)), [], z_g0),
  (105, .goto 4, 3, .null, [109], z_g0),
  (108, .iconst 0, 1, .int ((0 : Int32)), [], z_g0),
  (109, .ireturn, 1, .null, [], z_g0),
  (110, .iload_n 2, 1, .null, [], z_g0),
  (111, .bipush 11, 2, .int ((11 : Int32)), [], z_g0),
  (113, .if_icmp .ne 24, 3, .null, [137], z_g0),
  (116, .aload_n 0, 1, .null, [], z_g0),
  (117, .getfield 38, 3, .null, [13, 16, 3], z_g0),
  (120, .iload_n 3, 1, .null, [], z_g0),
  (121, .iaload, 1, .null, [101], z_g0),
  (122, .bipush 6, 2, .int ((6 : Int32)), [], z_g0),
  (124, .if_icmp .eq 29, 3, .null, [153], z_g0),
  (127, .aload_n 0, 1, .null, [], z_g0),
  (128, .getfield 38, 3, .null, [13, 16, 3], z_g0),
  (131, .iload_n 3, 1, .null, [], z_g0),
  (132, .iaload, 1, .null, [101], z_g0),
  (133, .iconst 2, 1, .int ((2 : Int32)), [], z_g0),
  (134, .if_icmp .lt 19, 3, .null, [153], z_g0),
  (137, .iload_n 2, 1, .null, [], z_g0),
  (138, .bipush 12, 2, .int ((12 : Int32)), [], z_g0),
  (140, .if_icmp .ne 17, 3, .null, [157], z_g0),
  (143, .aload_n 0, 1, .null, [], z_g0),
  (144, .getfield 38, 3, .null, [13, 16, 3], z_g0),
  (147, .iload_n 3, 1, .null, [], z_g0),
  (148, .iaload, 1, .null, [101], z_g0),
  (149, .iconst 2, 1, .int ((2 : Int32)), [], z_g0),
  (150, .if_icmp .ge 7, 3, .null, [157], z_g0),
  (153, .iconst 1, 1, .int ((1 : Int32)), [], z_g0),
  (154, .goto 4, 3, .null, [158], z_g0),
  (157, .iconst 0, 1, .int ((0 : Int32)), [], z_g0),
  (158, .ireturn, 1, .null, [], z_g0),
  (159, .iload_n 2, 1, .null, [], z_g0),
  (160, .bipush 13, 2, .int ((13 : Int32)), [], z_g0),
  (162, .if_icmp .ne 17, 3, .null, [179], z_g0),
  (165, .aload_n 0, 1, .null, [], z_g0),
  (166, .getfield 23, 3, .null, [13, 9, 3], z_g0),
  (169, .iload_n 3, 1, .null, [], z_g0),
  (170, .iaload, 1, .null, [101], z_g0),
  (171, .iconst 1, 1, .int ((1 : Int32)), [], z_g0),
  (172, .if_icmp .ne 7, 3, .null, [179], z_g0),
  (175, .iconst 1, 1, .int ((1 : Int32)), [], z_g0),
  (176, .goto 4, 3, .null, [180], z_g0),
  (179, .iconst 0, 1, .int ((0 : Int32)), [], z_g0),
  (180, .ireturn, 1, .null, [], z_g0),
  (181, .iconst 0, 1, .int ((0 : Int32)), [], z_g0),
  (182, .ireturn, 1, .null, [], z_g0)]
def a_X12_isOf_88 {ρ : Type} (k : Nat → Int32 → Int32 → z_St → Option ρ) (ls : z_Lv) (st : List Value) (S : z_St) : Option ρ := z_gR ls 0 fun v0 => z_gI ls 2 fun v2 => z_gI ls 3 fun v3 => z_p0 st (k v0 v2 v3 S)
def a_X12_isOf_137 {ρ : Type} (k : Nat → Int32 → Int32 → z_St → Option ρ) (ls : z_Lv) (st : List Value) (S : z_St) : Option ρ := z_gR ls 0 fun v0 => z_gI ls 2 fun v2 => z_gI ls 3 fun v3 => z_p0 st (k v0 v2 v3 S)
set_option maxRecDepth 100000 in
theorem r_X12_isOf_137 (v0 : Nat) (v2 : Int32) (v3 : Int32) (S : z_St) : z_seg z_rZ (c_X12_isOf) [88, 137] (fun pc => fun _ _ _ => none) 94 (z_to 137 (c_X12_isOf)) [(0, .ref v0), (2, .int v2), (3, .int v3)] [] S = j_X12_isOf_137 v0 v2 v3 S := rfl
set_option maxRecDepth 100000 in
theorem r_X12_isOf_88 (v0 : Nat) (v2 : Int32) (v3 : Int32) (S : z_St) : z_seg z_rZ (c_X12_isOf) [88, 137] (fun pc => fun _ _ _ => none) 94 (z_to 88 (c_X12_isOf)) [(0, .ref v0), (2, .int v2), (3, .int v3)] [] S = j_X12_isOf_88 v0 v2 v3 S := rfl
set_option maxRecDepth 100000 in
theorem r_X12_isOf (v0 : Nat) (v1 : Int32) (v2 : Int32) (S : z_St) : z_seg z_rZ (c_X12_isOf) [88, 137] (fun pc => cond (Nat.beq pc 88) (a_X12_isOf_88 (j_X12_isOf_88)) (cond (Nat.beq pc 137) (a_X12_isOf_137 (j_X12_isOf_137)) (fun _ _ _ => none))) 94 (c_X12_isOf) [(0, .ref v0), (1, .int v1), (2, .int v2)] [] S = b_X12_isOf v0 v1 v2 S := rfl
def b_X12_isA (v0 : Nat) (v1 : Int32) (v2 : Int32) (S : z_St) : Option (Int32 × z_St) :=
z_chk S v0 13 (
let S1 := z_wi S v0 0 ((0 : Int32))
(f_X12_in v1.toInt64 ((0 : Int64)) ((9 : Int64)) S1).bind fun q2 =>
if q2.1 = 0 then
(some ((-2000000001 : Int32), q2.2))
else
((f_X12_in v2.toInt64 ((0 : Int64)) ((13 : Int64)) q2.2).bind fun q3 =>
if q3.1 = 0 then
(some ((-2000000002 : Int32), q3.2))
else
(z_chk q3.2 v0 13 (
(f_X12_isOf v0 v1 v2 q3.2).bind fun q4 =>
if q4.1 = 0 then
(some ((0 : Int32), q4.2))
else
(some ((1 : Int32), q4.2))))))
def f_X12_isA : Nat → Int32 → Int32 → z_St → Option (Int32 × z_St) := z_op (b_X12_isA)
theorem e_X12_isA (v0 : Nat) (v1 : Int32) (v2 : Int32) (S : z_St) : f_X12_isA v0 v1 v2 S = b_X12_isA v0 v1 v2 S := congrFun (congrFun (congrFun (congrFun (z_op_eq (b_X12_isA)) v0) v1) v2) S
def g_X12_isA : z_G := .inl (fun as S => match as with
  | [.ref v0, .int v1, .int v2] => f_X12_isA v0 v1 v2 S
  | _ => none)
def c_X12_isA : List z_E := [
  (0, .aload_n 0, 1, .null, [], z_g0),
  (1, .iconst 0, 1, .int ((0 : Int32)), [], z_g0),
  (2, .putfield 224, 3, .null, [13, 0, 0], z_g0),
  (5, .iload_n 1, 1, .null, [], z_g0),
  (6, .i2l, 1, .null, [], z_g0),
  (7, .lconst 0, 1, .long (0 : Int64), [], z_g0),
  (8, .ldc2_w 362, 3, .long (9 : Int64), [], z_g0),
  (11, .invokestatic 274, 3, .null, [0, 0, 0, 0], g_X12_in),
  (14, .ifCond .ne 9, 3, .null, [23], z_g0),
  (17, .ldc_w 296, 3, .int (-2000000001 : Int32), [], z_g0),
  (20, .goto 35, 3, .null, [55], z_g0),
  (23, .iload_n 2, 1, .null, [], z_g0),
  (24, .i2l, 1, .null, [], z_g0),
  (25, .lconst 0, 1, .long (0 : Int64), [], z_g0),
  (26, .ldc2_w 369, 3, .long (13 : Int64), [], z_g0),
  (29, .invokestatic 274, 3, .null, [0, 0, 0, 0], g_X12_in),
  (32, .ifCond .ne 9, 3, .null, [41], z_g0),
  (35, .ldc_w 280, 3, .int (-2000000002 : Int32), [], z_g0),
  (38, .goto 17, 3, .null, [55], z_g0),
  (41, .aload_n 0, 1, .null, [], z_g0),
  (42, .iload_n 1, 1, .null, [], z_g0),
  (43, .iload_n 2, 1, .null, [], z_g0),
  (44, .invokevirtual 371, 3, .null, [1, 13, 0, 0], g_X12_isOf),
  (47, .ifCond .eq 7, 3, .null, [54], z_g0),
  (50, .iconst 1, 1, .int ((1 : Int32)), [], z_g0),
  (51, .goto 4, 3, .null, [55], z_g0),
  (54, .iconst 0, 1, .int ((0 : Int32)), [], z_g0),
  (55, .ireturn, 1, .null, [], z_g0)]
set_option maxRecDepth 100000 in
theorem r_X12_isA (v0 : Nat) (v1 : Int32) (v2 : Int32) (S : z_St) : z_seg z_rI (c_X12_isA) [] (fun pc => fun _ _ _ => none) 31 (c_X12_isA) [(0, .ref v0), (1, .int v1), (2, .int v2)] [] S = b_X12_isA v0 v1 v2 S := rfl
def b_X12_sizeIn (v0 : Nat) (v1 : Int32) (S : z_St) : Option (Int32 × z_St) :=
z_chk S v0 13 (
z_onV (va_rf (z_r S v0 21)) fun b1 =>
z_inb S b1 101 v1 (
let x2 := (z_i S b1 v1.toNatClampNeg)
z_chk S v0 13 (
z_onV (va_rf (z_r S v0 20)) fun b3 =>
z_inb S b3 101 v1 (
if ((z_i S b3 v1.toNatClampNeg)) = ((1 : Int32)) then
(z_chk S v0 13 (
z_onV (va_rf (z_r S v0 5)) fun b7 =>
z_inb S b7 101 x2 (
some ((z_i S b7 x2.toNatClampNeg), S))))
else
(z_chk S v0 13 (
z_onV (va_rf (z_r S v0 20)) fun b4 =>
z_inb S b4 101 v1 (
if ((z_i S b4 v1.toNatClampNeg)) = ((3 : Int32)) then
(z_chk S v0 13 (
z_onV (va_rf (z_r S v0 17)) fun b6 =>
z_inb S b6 101 x2 (
some ((z_i S b6 x2.toNatClampNeg), S))))
else
(z_chk S v0 13 (
z_onV (va_rf (z_r S v0 10)) fun b5 =>
z_inb S b5 101 x2 (
some ((z_i S b5 x2.toNatClampNeg), S)))))))))))
def f_X12_sizeIn : Nat → Int32 → z_St → Option (Int32 × z_St) := z_op (b_X12_sizeIn)
theorem e_X12_sizeIn (v0 : Nat) (v1 : Int32) (S : z_St) : f_X12_sizeIn v0 v1 S = b_X12_sizeIn v0 v1 S := congrFun (congrFun (congrFun (z_op_eq (b_X12_sizeIn)) v0) v1) S
def g_X12_sizeIn : z_G := .inl (fun as S => match as with
  | [.ref v0, .int v1] => f_X12_sizeIn v0 v1 S
  | _ => none)
def c_X12_sizeIn : List z_E := [
  (0, .aload_n 0, 1, .null, [], z_g0),
  (1, .getfield 53, 3, .null, [13, 21, 3], z_g0),
  (4, .iload_n 1, 1, .null, [], z_g0),
  (5, .iaload, 1, .null, [101], z_g0),
  (6, .istore_n 2, 1, .null, [], z_g0),
  (7, .aload_n 0, 1, .null, [], z_g0),
  (8, .getfield 50, 3, .null, [13, 20, 3], z_g0),
  (11, .iload_n 1, 1, .null, [], z_g0),
  (12, .iaload, 1, .null, [101], z_g0),
  (13, .iconst 1, 1, .int ((1 : Int32)), [], z_g0),
  (14, .if_icmp .ne 12, 3, .null, [26], z_g0),
  (17, .aload_n 0, 1, .null, [], z_g0),
  (18, .getfield 13, 3, .null, [13, 5, 3], z_g0),
  (21, .iload_n 2, 1, .null, [], z_g0),
  (22, .iaload, 1, .null, [101], z_g0),
  (23, .goto 28, 3, .null, [51], z_g0),
  (26, .aload_n 0, 1, .null, [], z_g0),
  (27, .getfield 50, 3, .null, [13, 20, 3], z_g0),
  (30, .iload_n 1, 1, .null, [], z_g0),
  (31, .iaload, 1, .null, [101], z_g0),
  (32, .iconst 3, 1, .int ((3 : Int32)), [], z_g0),
  (33, .if_icmp .ne 12, 3, .null, [45], z_g0),
  (36, .aload_n 0, 1, .null, [], z_g0),
  (37, .getfield 41, 3, .null, [13, 17, 3], z_g0),
  (40, .iload_n 2, 1, .null, [], z_g0),
  (41, .iaload, 1, .null, [101], z_g0),
  (42, .goto 9, 3, .null, [51], z_g0),
  (45, .aload_n 0, 1, .null, [], z_g0),
  (46, .getfield 26, 3, .null, [13, 10, 3], z_g0),
  (49, .iload_n 2, 1, .null, [], z_g0),
  (50, .iaload, 1, .null, [101], z_g0),
  (51, .ireturn, 1, .null, [], z_g0)]
set_option maxRecDepth 100000 in
theorem r_X12_sizeIn (v0 : Nat) (v1 : Int32) (S : z_St) : z_seg z_rI (c_X12_sizeIn) [] (fun pc => fun _ _ _ => none) 35 (c_X12_sizeIn) [(0, .ref v0), (1, .int v1)] [] S = b_X12_sizeIn v0 v1 S := rfl
def j_X12_taken_61 (v0 : Nat) (v1 : Int32) (S : z_St) : Option (Int32 × z_St) :=
z_chk S v0 13 (
(f_X12_well v0 S).bind fun q7 =>
z_chk q7 v0 13 (
z_onV (va_rf (z_r q7 v0 20)) fun b8 =>
z_inb q7 b8 101 v1 (
if ((z_i q7 b8 v1.toNatClampNeg)) = 0 then
(some ((-1 : Int32), q7))
else
(z_chk q7 v0 13 (
z_onV (va_rf (z_r q7 v0 20)) fun b9 =>
z_inb q7 b9 101 v1 (
if ((z_i q7 b9 v1.toNatClampNeg)) = ((2 : Int32)) then
(z_chk q7 v0 13 (
z_onV (va_rf (z_r q7 v0 21)) fun b11 =>
z_inb q7 b11 101 v1 (
some ((z_i q7 b11 v1.toNatClampNeg), q7))))
else
(z_chk q7 v0 13 (
(f_X12_sizeIn v0 v1 q7).bind fun q10 =>
some (q10.1, q10.2)))))))))
def b_X12_taken (v0 : Nat) (v1 : Int32) (v2 : Int32) (S : z_St) : Option (Int32 × z_St) :=
z_chk S v0 13 (
let S1 := z_wi S v0 0 ((0 : Int32))
(f_X12_in v1.toInt64 ((0 : Int64)) ((9 : Int64)) S1).bind fun q2 =>
if q2.1 = 0 then
(some ((-2000000001 : Int32), q2.2))
else
((f_X12_in v2.toInt64 ((0 : Int64)) ((13 : Int64)) q2.2).bind fun q3 =>
if q3.1 = 0 then
(some ((-2000000002 : Int32), q3.2))
else
(z_chk q3.2 v0 13 (
z_onV (va_rf (z_r q3.2 v0 20)) fun b4 =>
z_inb q3.2 b4 101 v1 (
if ((z_i q3.2 b4 v1.toNatClampNeg)) = 0 then
(j_X12_taken_61 v0 v1 q3.2)
else
(z_chk q3.2 v0 13 (
(f_X12_isOf v0 v1 v2 q3.2).bind fun q5 =>
if q5.1 = 0 then
(z_chk q5.2 v0 13 (
(f_X12_fails v0 ((4 : Int32)) q5.2).bind fun q6 =>
some (q6.1, q6.2)))
else
(j_X12_taken_61 v0 v1 q5.2))))))))
def f_X12_taken : Nat → Int32 → Int32 → z_St → Option (Int32 × z_St) := z_op (b_X12_taken)
theorem e_X12_taken (v0 : Nat) (v1 : Int32) (v2 : Int32) (S : z_St) : f_X12_taken v0 v1 v2 S = b_X12_taken v0 v1 v2 S := congrFun (congrFun (congrFun (congrFun (z_op_eq (b_X12_taken)) v0) v1) v2) S
def g_X12_taken : z_G := .inl (fun as S => match as with
  | [.ref v0, .int v1, .int v2] => f_X12_taken v0 v1 v2 S
  | _ => none)
def c_X12_taken : List z_E := [
  (0, .aload_n 0, 1, .null, [], z_g0),
  (1, .iconst 0, 1, .int ((0 : Int32)), [], z_g0),
  (2, .putfield 224, 3, .null, [13, 0, 0], z_g0),
  (5, .iload_n 1, 1, .null, [], z_g0),
  (6, .i2l, 1, .null, [], z_g0),
  (7, .lconst 0, 1, .long (0 : Int64), [], z_g0),
  (8, .ldc2_w 362, 3, .long (9 : Int64), [], z_g0),
  (11, .invokestatic 274, 3, .null, [0, 0, 0, 0], g_X12_in),
  (14, .ifCond .ne 7, 3, .null, [21], z_g0),
  (17, .ldc_w 296, 3, .int (-2000000001 : Int32), [], z_g0),
  (20, .ireturn, 1, .null, [], z_g0),
  (21, .iload_n 2, 1, .null, [], z_g0),
  (22, .i2l, 1, .null, [], z_g0),
  (23, .lconst 0, 1, .long (0 : Int64), [], z_g0),
  (24, .ldc2_w 369, 3, .long (13 : Int64), [], z_g0),
  (27, .invokestatic 274, 3, .null, [0, 0, 0, 0], g_X12_in),
  (30, .ifCond .ne 7, 3, .null, [37], z_g0),
  (33, .ldc_w 280, 3, .int (-2000000002 : Int32), [], z_g0),
  (36, .ireturn, 1, .null, [], z_g0),
  (37, .aload_n 0, 1, .null, [], z_g0),
  (38, .getfield 50, 3, .null, [13, 20, 3], z_g0),
  (41, .iload_n 1, 1, .null, [], z_g0),
  (42, .iaload, 1, .null, [101], z_g0),
  (43, .ifCond .eq 18, 3, .null, [61], z_g0),
  (46, .aload_n 0, 1, .null, [], z_g0),
  (47, .iload_n 1, 1, .null, [], z_g0),
  (48, .iload_n 2, 1, .null, [], z_g0),
  (49, .invokevirtual 371, 3, .null, [1, 13, 0, 0], g_X12_isOf),
  (52, .ifCond .ne 9, 3, .null, [61], z_g0),
  (55, .aload_n 0, 1, .null, [], z_g0),
  (56, .iconst 4, 1, .int ((4 : Int32)), [], z_g0),
  (57, .invokevirtual 282, 3, .null, [1, 13, 0], g_X12_fails),
  (60, .ireturn, 1, .null, [], z_g0),
  (61, .aload_n 0, 1, .null, [], z_g0),
  (62, .invokevirtual 286, 3, .null, [1, 13], g_X12_well),
  (65, .aload_n 0, 1, .null, [], z_g0),
  (66, .getfield 50, 3, .null, [13, 20, 3], z_g0),
  (69, .iload_n 1, 1, .null, [], z_g0),
  (70, .iaload, 1, .null, [101], z_g0),
  (71, .ifCond .ne 7, 3, .null, [78], z_g0),
  (74, .iconst (-1), 1, .int ((-1 : Int32)), [], z_g0),
  (75, .goto 27, 3, .null, [102], z_g0),
  (78, .aload_n 0, 1, .null, [], z_g0),
  (79, .getfield 50, 3, .null, [13, 20, 3], z_g0),
  (82, .iload_n 1, 1, .null, [], z_g0),
  (83, .iaload, 1, .null, [101], z_g0),
  (84, .iconst 2, 1, .int ((2 : Int32)), [], z_g0),
  (85, .if_icmp .ne 12, 3, .null, [97], z_g0),
  (88, .aload_n 0, 1, .null, [], z_g0),
  (89, .getfield 53, 3, .null, [13, 21, 3], z_g0),
  (92, .iload_n 1, 1, .null, [], z_g0),
  (93, .iaload, 1, .null, [101], z_g0),
  (94, .goto 8, 3, .null, [102], z_g0),
  (97, .aload_n 0, 1, .null, [], z_g0),
  (98, .iload_n 1, 1, .null, [], z_g0),
  (99, .invokevirtual 374, 3, .null, [1, 13, 0], g_X12_sizeIn),
  (102, .ireturn, 1, .null, [], z_g0)]
def a_X12_taken_61 {ρ : Type} (k : Nat → Int32 → z_St → Option ρ) (ls : z_Lv) (st : List Value) (S : z_St) : Option ρ := z_gR ls 0 fun v0 => z_gI ls 1 fun v1 => z_p0 st (k v0 v1 S)
set_option maxRecDepth 100000 in
theorem r_X12_taken_61 (v0 : Nat) (v1 : Int32) (S : z_St) : z_seg z_rI (c_X12_taken) [61] (fun pc => fun _ _ _ => none) 60 (z_to 61 (c_X12_taken)) [(0, .ref v0), (1, .int v1)] [] S = j_X12_taken_61 v0 v1 S := rfl
set_option maxRecDepth 100000 in
theorem r_X12_taken (v0 : Nat) (v1 : Int32) (v2 : Int32) (S : z_St) : z_seg z_rI (c_X12_taken) [61] (fun pc => cond (Nat.beq pc 61) (a_X12_taken_61 (j_X12_taken_61)) (fun _ _ _ => none)) 60 (c_X12_taken) [(0, .ref v0), (1, .int v1), (2, .int v2)] [] S = b_X12_taken v0 v1 v2 S := rfl
def b_X12_used (v0 : Nat) (v1 : Int32) (S : z_St) : Option (Int32 × z_St) :=
z_chk S v0 13 (
let S1 := z_wi S v0 0 ((0 : Int32))
(f_X12_in v1.toInt64 ((0 : Int64)) ((9 : Int64)) S1).bind fun q2 =>
if q2.1 = 0 then
(some ((-2000000001 : Int32), q2.2))
else
(z_chk q2.2 v0 13 (
z_onV (va_rf (z_r q2.2 v0 20)) fun b3 =>
z_inb q2.2 b3 101 v1 (
if ((z_i q2.2 b3 v1.toNatClampNeg)) = 0 then
(z_chk q2.2 v0 13 (
(f_X12_fails v0 ((1 : Int32)) q2.2).bind fun q9 =>
some (q9.1, q9.2)))
else
(z_chk q2.2 v0 13 (
(f_X12_well v0 q2.2).bind fun q4 =>
z_chk q4 v0 13 (
z_onV (va_rf (z_r q4 v0 20)) fun b5 =>
z_inb q4 b5 101 v1 (
if ((z_i q4 b5 v1.toNatClampNeg)) = ((2 : Int32)) then
(z_chk q4 v0 13 (
z_onV (va_rf (z_r q4 v0 21)) fun b7 =>
z_inb q4 b7 101 v1 (
z_chk q4 v0 13 (
(f_X12_weightOf v0 ((z_i q4 b7 v1.toNatClampNeg)) q4).bind fun q8 =>
some (q8.1, q8.2)))))
else
(z_chk q4 v0 13 (
(f_X12_sizeIn v0 v1 q4).bind fun q6 =>
some (q6.1, q6.2)))))))))))
def f_X12_used : Nat → Int32 → z_St → Option (Int32 × z_St) := z_op (b_X12_used)
theorem e_X12_used (v0 : Nat) (v1 : Int32) (S : z_St) : f_X12_used v0 v1 S = b_X12_used v0 v1 S := congrFun (congrFun (congrFun (z_op_eq (b_X12_used)) v0) v1) S
def g_X12_used : z_G := .inl (fun as S => match as with
  | [.ref v0, .int v1] => f_X12_used v0 v1 S
  | _ => none)
def c_X12_used : List z_E := [
  (0, .aload_n 0, 1, .null, [], z_g0),
  (1, .iconst 0, 1, .int ((0 : Int32)), [], z_g0),
  (2, .putfield 224, 3, .null, [13, 0, 0], z_g0),
  (5, .iload_n 1, 1, .null, [], z_g0),
  (6, .i2l, 1, .null, [], z_g0),
  (7, .lconst 0, 1, .long (0 : Int64), [], z_g0),
  (8, .ldc2_w 362, 3, .long (9 : Int64), [], z_g0),
  (11, .invokestatic 274, 3, .null, [0, 0, 0, 0], g_X12_in),
  (14, .ifCond .ne 7, 3, .null, [21], z_g0),
  (17, .ldc_w 296, 3, .int (-2000000001 : Int32), [], z_g0),
  (20, .ireturn, 1, .null, [], z_g0),
  (21, .aload_n 0, 1, .null, [], z_g0),
  (22, .getfield 50, 3, .null, [13, 20, 3], z_g0),
  (25, .iload_n 1, 1, .null, [], z_g0),
  (26, .iaload, 1, .null, [101], z_g0),
  (27, .ifCond .ne 9, 3, .null, [36], z_g0),
  (30, .aload_n 0, 1, .null, [], z_g0),
  (31, .iconst 1, 1, .int ((1 : Int32)), [], z_g0),
  (32, .invokevirtual 282, 3, .null, [1, 13, 0], g_X12_fails),
  (35, .ireturn, 1, .null, [], z_g0),
  (36, .aload_n 0, 1, .null, [], z_g0),
  (37, .invokevirtual 286, 3, .null, [1, 13], g_X12_well),
  (40, .aload_n 0, 1, .null, [], z_g0),
  (41, .getfield 50, 3, .null, [13, 20, 3], z_g0),
  (44, .iload_n 1, 1, .null, [], z_g0),
  (45, .iaload, 1, .null, [101], z_g0),
  (46, .iconst 2, 1, .int ((2 : Int32)), [], z_g0),
  (47, .if_icmp .ne 16, 3, .null, [63], z_g0),
  (50, .aload_n 0, 1, .null, [], z_g0),
  (51, .aload_n 0, 1, .null, [], z_g0),
  (52, .getfield 53, 3, .null, [13, 21, 3], z_g0),
  (55, .iload_n 1, 1, .null, [], z_g0),
  (56, .iaload, 1, .null, [101], z_g0),
  (57, .invokevirtual 345, 3, .null, [1, 13, 0], g_X12_weightOf),
  (60, .goto 8, 3, .null, [68], z_g0),
  (63, .aload_n 0, 1, .null, [], z_g0),
  (64, .iload_n 1, 1, .null, [], z_g0),
  (65, .invokevirtual 374, 3, .null, [1, 13, 0], g_X12_sizeIn),
  (68, .ireturn, 1, .null, [], z_g0)]
set_option maxRecDepth 100000 in
theorem r_X12_used (v0 : Nat) (v1 : Int32) (S : z_St) : z_seg z_rI (c_X12_used) [] (fun pc => fun _ _ _ => none) 42 (c_X12_used) [(0, .ref v0), (1, .int v1)] [] S = b_X12_used v0 v1 S := rfl
def b_X12_noCard (v0 : Nat) (v1 : Int32) (S : z_St) : Option (Int32 × z_St) :=
if v1 = ((-1 : Int32)) then
(z_rb ((0 : Int32)) S)
else
(z_chk S v0 13 (
(f_X12_in v1.toInt64 ((0 : Int64)) ((((z_i S v0 22)) - ((1 : Int32))).toInt64) S).bind fun q1 =>
if q1.1 = 0 then
(z_rb ((1 : Int32)) q1.2)
else
(z_rb ((0 : Int32)) q1.2)))
def f_X12_noCard : Nat → Int32 → z_St → Option (Int32 × z_St) := z_op (b_X12_noCard)
theorem e_X12_noCard (v0 : Nat) (v1 : Int32) (S : z_St) : f_X12_noCard v0 v1 S = b_X12_noCard v0 v1 S := congrFun (congrFun (congrFun (z_op_eq (b_X12_noCard)) v0) v1) S
def g_X12_noCard : z_G := .inl (fun as S => match as with
  | [.ref v0, .int v1] => f_X12_noCard v0 v1 S
  | _ => none)
def c_X12_noCard : List z_E := [
  (0, .iload_n 1, 1, .null, [], z_g0),
  (1, .iconst (-1), 1, .int ((-1 : Int32)), [], z_g0),
  (2, .if_icmp .eq 23, 3, .null, [25], z_g0),
  (5, .iload_n 1, 1, .null, [], z_g0),
  (6, .i2l, 1, .null, [], z_g0),
  (7, .lconst 0, 1, .long (0 : Int64), [], z_g0),
  (8, .aload_n 0, 1, .null, [], z_g0),
  (9, .getfield 377, 3, .null, [13, 22, 0], z_g0),
  (12, .iconst 1, 1, .int ((1 : Int32)), [], z_g0),
  (13, .isub, 1, .null, [], z_g0),
  (14, .i2l, 1, .null, [], z_g0),
  (15, .invokestatic 274, 3, .null, [0, 0, 0, 0], g_X12_in),
  (18, .ifCond .ne 7, 3, .null, [25], z_g0),
  (21, .iconst 1, 1, .int ((1 : Int32)), [], z_g0),
  (22, .goto 4, 3, .null, [26], z_g0),
  (25, .iconst 0, 1, .int ((0 : Int32)), [], z_g0),
  (26, .ireturn, 1, .null, [], z_g0)]
set_option maxRecDepth 100000 in
theorem r_X12_noCard (v0 : Nat) (v1 : Int32) (S : z_St) : z_seg z_rZ (c_X12_noCard) [] (fun pc => fun _ _ _ => none) 20 (c_X12_noCard) [(0, .ref v0), (1, .int v1)] [] S = b_X12_noCard v0 v1 S := rfl
def l_X12_card_20 : Nat → Nat → Int32 → z_St → Option (Int32 × z_St)
  | 0 => fun _ _ _ => none
  | n + 1 => fun (v0 : Nat) (v1 : Int32) (S : z_St) =>
if ((8 : Int32)) ≤ v1 then
(z_chk S v0 13 (
z_chk S v0 13 (
z_onV (va_rf (z_r S v0 25)) fun b2 =>
z_inb S b2 101 ((z_i S v0 22)) (
let S3 := z_wi S b2 ((z_i S v0 22)).toNatClampNeg ((-1 : Int32))
z_chk S3 v0 13 (
z_chk S3 v0 13 (
z_onV (va_rf (z_r S3 v0 26)) fun b4 =>
z_inb S3 b4 101 ((z_i S3 v0 22)) (
let S5 := z_wi S3 b4 ((z_i S3 v0 22)).toNatClampNeg ((-1 : Int32))
z_chk S5 v0 13 (
z_chk S5 v0 13 (
let S6 := z_wi S5 v0 22 (((z_i S5 v0 22)) + ((1 : Int32)))
z_chk S6 v0 13 (
some (((z_i S6 v0 22)) - ((1 : Int32)), S6)))))))))))
else
(z_chk S v0 13 (
z_chk S v0 13 (
z_onV (va_rf (z_r S v0 24)) fun b7 =>
z_inb S b7 102 ((((8 : Int32)) * ((z_i S v0 22))) + v1) (
let S8 := z_wl S b7 ((((8 : Int32)) * ((z_i S v0 22))) + v1).toNatClampNeg ((0 : Int64))
let x9 := v1 + (1 : Int32)
l_X12_card_20 n v0 x9 S8))))
def b_X12_card (v0 : Nat) (S : z_St) : Option (Int32 × z_St) :=
z_chk S v0 13 (
let S1 := z_wi S v0 0 ((0 : Int32))
z_chk S1 v0 13 (
if ((z_i S1 v0 22)) = ((20 : Int32)) then
(some ((-2000000004 : Int32), S1))
else
(l_X12_card_20 z_N v0 ((0 : Int32)) S1)))
def f_X12_card : Nat → z_St → Option (Int32 × z_St) := z_op (b_X12_card)
theorem e_X12_card (v0 : Nat) (S : z_St) : f_X12_card v0 S = b_X12_card v0 S := congrFun (congrFun (z_op_eq (b_X12_card)) v0) S
def g_X12_card : z_G := .inl (fun as S => match as with
  | [.ref v0] => f_X12_card v0 S
  | _ => none)
def c_X12_card : List z_E := [
  (0, .aload_n 0, 1, .null, [], z_g0),
  (1, .iconst 0, 1, .int ((0 : Int32)), [], z_g0),
  (2, .putfield 224, 3, .null, [13, 0, 0], z_g0),
  (5, .aload_n 0, 1, .null, [], z_g0),
  (6, .getfield 377, 3, .null, [13, 22, 0], z_g0),
  (9, .bipush 20, 2, .int ((20 : Int32)), [], z_g0),
  (11, .if_icmp .ne 7, 3, .null, [18], z_g0),
  (14, .ldc_w 281, 3, .int (-2000000004 : Int32), [], z_g0),
  (17, .ireturn, 1, .null, [], z_g0),
  (18, .iconst 0, 1, .int ((0 : Int32)), [], z_g0),
  (19, .istore_n 1, 1, .null, [], z_g0),
  (20, .iload_n 1, 1, .null, [], z_g0),
  (21, .bipush 8, 2, .int ((8 : Int32)), [], z_g0),
  (23, .if_icmp .ge 24, 3, .null, [47], z_g0),
  (26, .aload_n 0, 1, .null, [], z_g0),
  (27, .getfield 59, 3, .null, [13, 24, 3], z_g0),
  (30, .bipush 8, 2, .int ((8 : Int32)), [], z_g0),
  (32, .aload_n 0, 1, .null, [], z_g0),
  (33, .getfield 377, 3, .null, [13, 22, 0], z_g0),
  (36, .imul, 1, .null, [], z_g0),
  (37, .iload_n 1, 1, .null, [], z_g0),
  (38, .iadd, 1, .null, [], z_g0),
  (39, .lconst 0, 1, .long (0 : Int64), [], z_g0),
  (40, .lastore, 1, .null, [], z_g0),
  (41, .iinc 1 1, 3, .int (1 : Int32), [], z_g0),
  (44, .goto (-24), 3, .null, [20], z_g0),
  (47, .aload_n 0, 1, .null, [], z_g0),
  (48, .getfield 62, 3, .null, [13, 25, 3], z_g0),
  (51, .aload_n 0, 1, .null, [], z_g0),
  (52, .getfield 377, 3, .null, [13, 22, 0], z_g0),
  (55, .iconst (-1), 1, .int ((-1 : Int32)), [], z_g0),
  (56, .iastore, 1, .null, [], z_g0),
  (57, .aload_n 0, 1, .null, [], z_g0),
  (58, .getfield 65, 3, .null, [13, 26, 3], z_g0),
  (61, .aload_n 0, 1, .null, [], z_g0),
  (62, .getfield 377, 3, .null, [13, 22, 0], z_g0),
  (65, .iconst (-1), 1, .int ((-1 : Int32)), [], z_g0),
  (66, .iastore, 1, .null, [], z_g0),
  (67, .aload_n 0, 1, .null, [], z_g0),
  (68, .dup, 1, .null, [], z_g0),
  (69, .getfield 377, 3, .null, [13, 22, 0], z_g0),
  (72, .iconst 1, 1, .int ((1 : Int32)), [], z_g0),
  (73, .iadd, 1, .null, [], z_g0),
  (74, .putfield 377, 3, .null, [13, 22, 0], z_g0),
  (77, .aload_n 0, 1, .null, [], z_g0),
  (78, .getfield 377, 3, .null, [13, 22, 0], z_g0),
  (81, .iconst 1, 1, .int ((1 : Int32)), [], z_g0),
  (82, .isub, 1, .null, [], z_g0),
  (83, .ireturn, 1, .null, [], z_g0)]
def a_X12_card_20 {ρ : Type} (k : Nat → Int32 → z_St → Option ρ) (ls : z_Lv) (st : List Value) (S : z_St) : Option ρ := z_gR ls 0 fun v0 => z_gI ls 1 fun v1 => z_p0 st (k v0 v1 S)
set_option maxRecDepth 100000 in
theorem r_X12_card_20 (n : Nat) (v0 : Nat) (v1 : Int32) (S : z_St) : z_seg z_rI (c_X12_card) [20] (fun pc => cond (Nat.beq pc 20) (a_X12_card_20 (l_X12_card_20 n)) (fun _ _ _ => none)) 52 (z_to 20 (c_X12_card)) [(0, .ref v0), (1, .int v1)] [] S = l_X12_card_20 (n + 1) v0 v1 S := rfl
set_option maxRecDepth 100000 in
theorem r_X12_card (v0 : Nat) (S : z_St) : z_seg z_rI (c_X12_card) [20] (fun pc => cond (Nat.beq pc 20) (a_X12_card_20 (l_X12_card_20 z_N)) (fun _ _ _ => none)) 52 (c_X12_card) [(0, .ref v0)] [] S = b_X12_card v0 S := rfl
def b_X12_fieldFault (v0 : Nat) (v1 : Int32) (v2 : Int32) (S : z_St) : Option (Int32 × z_St) :=
z_chk S v0 13 (
(f_X12_noCard v0 v1 S).bind fun q1 =>
if q1.1 = 0 then
((f_X12_in v2.toInt64 ((0 : Int64)) ((7 : Int64)) q1.2).bind fun q2 =>
if q2.1 = 0 then
(some ((-2000000002 : Int32), q2.2))
else
(if v1 = ((-1 : Int32)) then
(z_chk q2.2 v0 13 (
(f_X12_fails v0 ((1 : Int32)) q2.2).bind fun q4 =>
some (q4.1, q4.2)))
else
(z_chk q2.2 v0 13 (
(f_X12_well v0 q2.2).bind fun q3 =>
some ((0 : Int32), q3)))))
else
(some ((-2000000001 : Int32), q1.2)))
def f_X12_fieldFault : Nat → Int32 → Int32 → z_St → Option (Int32 × z_St) := z_op (b_X12_fieldFault)
theorem e_X12_fieldFault (v0 : Nat) (v1 : Int32) (v2 : Int32) (S : z_St) : f_X12_fieldFault v0 v1 v2 S = b_X12_fieldFault v0 v1 v2 S := congrFun (congrFun (congrFun (congrFun (z_op_eq (b_X12_fieldFault)) v0) v1) v2) S
def g_X12_fieldFault : z_G := .inl (fun as S => match as with
  | [.ref v0, .int v1, .int v2] => f_X12_fieldFault v0 v1 v2 S
  | _ => none)
def c_X12_fieldFault : List z_E := [
  (0, .aload_n 0, 1, .null, [], z_g0),
  (1, .iload_n 1, 1, .null, [], z_g0),
  (2, .invokevirtual 380, 3, .null, [1, 13, 0], g_X12_noCard),
  (5, .ifCond .eq 7, 3, .null, [12], z_g0),
  (8, .ldc_w 296, 3, .int (-2000000001 : Int32), [], z_g0),
  (11, .ireturn, 1, .null, [], z_g0),
  (12, .iload_n 2, 1, .null, [], z_g0),
  (13, .i2l, 1, .null, [], z_g0),
  (14, .lconst 0, 1, .long (0 : Int64), [], z_g0),
  (15, .ldc2_w 278, 3, .long (7 : Int64), [], z_g0),
  (18, .invokestatic 274, 3, .null, [0, 0, 0, 0], g_X12_in),
  (21, .ifCond .ne 7, 3, .null, [28], z_g0),
  (24, .ldc_w 280, 3, .int (-2000000002 : Int32), [], z_g0),
  (27, .ireturn, 1, .null, [], z_g0),
  (28, .iload_n 1, 1, .null, [], z_g0),
  (29, .iconst (-1), 1, .int ((-1 : Int32)), [], z_g0),
  (30, .if_icmp .ne 9, 3, .null, [39], z_g0),
  (33, .aload_n 0, 1, .null, [], z_g0),
  (34, .iconst 1, 1, .int ((1 : Int32)), [], z_g0),
  (35, .invokevirtual 282, 3, .null, [1, 13, 0], g_X12_fails),
  (38, .ireturn, 1, .null, [], z_g0),
  (39, .aload_n 0, 1, .null, [], z_g0),
  (40, .invokevirtual 286, 3, .null, [1, 13], g_X12_well),
  (43, .iconst 0, 1, .int ((0 : Int32)), [], z_g0),
  (44, .ireturn, 1, .null, [], z_g0)]
set_option maxRecDepth 100000 in
theorem r_X12_fieldFault (v0 : Nat) (v1 : Int32) (v2 : Int32) (S : z_St) : z_seg z_rI (c_X12_fieldFault) [] (fun pc => fun _ _ _ => none) 28 (c_X12_fieldFault) [(0, .ref v0), (1, .int v1), (2, .int v2)] [] S = b_X12_fieldFault v0 v1 v2 S := rfl
def b_X12_field (v0 : Nat) (v1 : Int32) (v2 : Int32) (v3 : Int64) (S : z_St) : Option (Int32 × z_St) :=
z_chk S v0 13 (
let S1 := z_wi S v0 0 ((0 : Int32))
z_chk S1 v0 13 (
(f_X12_fieldFault v0 v1 v2 S1).bind fun q2 =>
if q2.1 = 0 then
(z_chk q2.2 v0 13 (
z_chk q2.2 v0 13 (
z_onV (va_rf (z_r q2.2 v0 23)) fun b3 =>
z_inb q2.2 b3 101 v2 (
(f_X12_cellOfWhole ((z_i q2.2 b3 v2.toNatClampNeg)) v3 q2.2).bind fun q4 =>
z_onV (va_rf (z_r q2.2 v0 24)) fun b5 =>
z_inb q4.2 b5 102 ((((8 : Int32)) * v1) + v2) (
let S6 := z_wl q4.2 b5 ((((8 : Int32)) * v1) + v2).toNatClampNeg q4.1
some ((1 : Int32), S6))))))
else
(some (q2.1, q2.2))))
def f_X12_field : Nat → Int32 → Int32 → Int64 → z_St → Option (Int32 × z_St) := z_op (b_X12_field)
theorem e_X12_field (v0 : Nat) (v1 : Int32) (v2 : Int32) (v3 : Int64) (S : z_St) : f_X12_field v0 v1 v2 v3 S = b_X12_field v0 v1 v2 v3 S := congrFun (congrFun (congrFun (congrFun (congrFun (z_op_eq (b_X12_field)) v0) v1) v2) v3) S
def g_X12_field : z_G := .inl (fun as S => match as with
  | [.ref v0, .int v1, .int v2, .long v3] => f_X12_field v0 v1 v2 v3 S
  | _ => none)
def c_X12_field : List z_E := [
  (0, .aload_n 0, 1, .null, [], z_g0),
  (1, .iconst 0, 1, .int ((0 : Int32)), [], z_g0),
  (2, .putfield 224, 3, .null, [13, 0, 0], z_g0),
  (5, .aload_n 0, 1, .null, [], z_g0),
  (6, .iload_n 1, 1, .null, [], z_g0),
  (7, .iload_n 2, 1, .null, [], z_g0),
  (8, .invokevirtual 383, 3, .null, [1, 13, 0, 0], g_X12_fieldFault),
  (11, .istore 5, 2, .null, [], z_g0),
  (13, .iload 5, 2, .null, [], z_g0),
  (15, .ifCond .eq 6, 3, .null, [21], z_g0),
  (18, .iload 5, 2, .null, [], z_g0),
  (20, .ireturn, 1, .null, [], z_g0),
  (21, .aload_n 0, 1, .null, [], z_g0),
  (22, .getfield 59, 3, .null, [13, 24, 3], z_g0),
  (25, .bipush 8, 2, .int ((8 : Int32)), [], z_g0),
  (27, .iload_n 1, 1, .null, [], z_g0),
  (28, .imul, 1, .null, [], z_g0),
  (29, .iload_n 2, 1, .null, [], z_g0),
  (30, .iadd, 1, .null, [], z_g0),
  (31, .aload_n 0, 1, .null, [], z_g0),
  (32, .getfield 56, 3, .null, [13, 23, 3], z_g0),
  (35, .iload_n 2, 1, .null, [], z_g0),
  (36, .iaload, 1, .null, [101], z_g0),
  (37, .lload_n 3, 1, .null, [], z_g0),
  (38, .invokestatic 267, 3, .null, [0, 0, 0], g_X12_cellOfWhole),
  (41, .lastore, 1, .null, [], z_g0),
  (42, .iconst 1, 1, .int ((1 : Int32)), [], z_g0),
  (43, .ireturn, 1, .null, [], z_g0)]
set_option maxRecDepth 100000 in
theorem r_X12_field (v0 : Nat) (v1 : Int32) (v2 : Int32) (v3 : Int64) (S : z_St) : z_seg z_rI (c_X12_field) [] (fun pc => fun _ _ _ => none) 31 (c_X12_field) [(0, .ref v0), (1, .int v1), (2, .int v2), (3, .long v3)] [] S = b_X12_field v0 v1 v2 v3 S := rfl
def b_X12_fieldOf (v0 : Nat) (v1 : Int32) (v2 : Int32) (S : z_St) : Option (Int64 × z_St) :=
z_chk S v0 13 (
let S1 := z_wi S v0 0 ((0 : Int32))
z_chk S1 v0 13 (
(f_X12_fieldFault v0 v1 v2 S1).bind fun q2 =>
if q2.1 = 0 then
(z_chk q2.2 v0 13 (
z_onV (va_rf (z_r q2.2 v0 23)) fun b3 =>
z_inb q2.2 b3 101 v2 (
z_chk q2.2 v0 13 (
z_onV (va_rf (z_r q2.2 v0 24)) fun b4 =>
z_inb q2.2 b4 102 ((((8 : Int32)) * v1) + v2) (
(f_X12_wholeOf ((z_i q2.2 b3 v2.toNatClampNeg)) ((z_l q2.2 b4 ((((8 : Int32)) * v1) + v2).toNatClampNeg)) q2.2).bind fun q5 =>
some (q5.1, q5.2))))))
else
(some (q2.1.toInt64, q2.2))))
def f_X12_fieldOf : Nat → Int32 → Int32 → z_St → Option (Int64 × z_St) := z_op (b_X12_fieldOf)
theorem e_X12_fieldOf (v0 : Nat) (v1 : Int32) (v2 : Int32) (S : z_St) : f_X12_fieldOf v0 v1 v2 S = b_X12_fieldOf v0 v1 v2 S := congrFun (congrFun (congrFun (congrFun (z_op_eq (b_X12_fieldOf)) v0) v1) v2) S
def g_X12_fieldOf : z_G := .inr (.inl (fun as S => match as with
  | [.ref v0, .int v1, .int v2] => f_X12_fieldOf v0 v1 v2 S
  | _ => none))
def c_X12_fieldOf : List z_E := [
  (0, .aload_n 0, 1, .null, [], z_g0),
  (1, .iconst 0, 1, .int ((0 : Int32)), [], z_g0),
  (2, .putfield 224, 3, .null, [13, 0, 0], z_g0),
  (5, .aload_n 0, 1, .null, [], z_g0),
  (6, .iload_n 1, 1, .null, [], z_g0),
  (7, .iload_n 2, 1, .null, [], z_g0),
  (8, .invokevirtual 383, 3, .null, [1, 13, 0, 0], g_X12_fieldFault),
  (11, .istore_n 3, 1, .null, [], z_g0),
  (12, .iload_n 3, 1, .null, [], z_g0),
  (13, .ifCond .eq 8, 3, .null, [21], z_g0),
  (16, .iload_n 3, 1, .null, [], z_g0),
  (17, .i2l, 1, .null, [], z_g0),
  (18, .goto 23, 3, .null, [41], z_g0),
  (21, .aload_n 0, 1, .null, [], z_g0),
  (22, .getfield 56, 3, .null, [13, 23, 3], z_g0),
  (25, .iload_n 2, 1, .null, [], z_g0),
  (26, .iaload, 1, .null, [101], z_g0),
  (27, .aload_n 0, 1, .null, [], z_g0),
  (28, .getfield 59, 3, .null, [13, 24, 3], z_g0),
  (31, .bipush 8, 2, .int ((8 : Int32)), [], z_g0),
  (33, .iload_n 1, 1, .null, [], z_g0),
  (34, .imul, 1, .null, [], z_g0),
  (35, .iload_n 2, 1, .null, [], z_g0),
  (36, .iadd, 1, .null, [], z_g0),
  (37, .laload, 1, .null, [], z_g0),
  (38, .invokestatic 305, 3, .null, [0, 0, 0], g_X12_wholeOf),
  (41, .lreturn, 1, .null, [], z_g0)]
set_option maxRecDepth 100000 in
theorem r_X12_fieldOf (v0 : Nat) (v1 : Int32) (v2 : Int32) (S : z_St) : z_seg z_rL (c_X12_fieldOf) [] (fun pc => fun _ _ _ => none) 30 (c_X12_fieldOf) [(0, .ref v0), (1, .int v1), (2, .int v2)] [] S = b_X12_fieldOf v0 v1 v2 S := rfl
def b_X12_raiseField (v0 : Nat) (v1 : Int32) (v2 : Int32) (v3 : Int64) (v5 : Int32) (S : z_St) : Option (Int64 × z_St) :=
z_chk S v0 13 (
let S1 := z_wi S v0 0 ((0 : Int32))
z_chk S1 v0 13 (
(f_X12_fieldFault v0 v1 v2 S1).bind fun q2 =>
if q2.1 = 0 then
(z_chk q2.2 v0 13 (
z_onV (va_rf (z_r q2.2 v0 24)) fun b3 =>
z_inb q2.2 b3 102 ((((8 : Int32)) * v1) + v2) (
let x4 := (z_l q2.2 b3 ((((8 : Int32)) * v1) + v2).toNatClampNeg)
z_chk q2.2 v0 13 (
z_chk q2.2 v0 13 (
z_onV (va_rf (z_r q2.2 v0 23)) fun b5 =>
z_inb q2.2 b5 101 v2 (
(f_X12_raisedCell ((z_i q2.2 b5 v2.toNatClampNeg)) x4 v3 q2.2).bind fun q6 =>
z_onV (va_rf (z_r q2.2 v0 24)) fun b7 =>
z_inb q6.2 b7 102 ((((8 : Int32)) * v1) + v2) (
let S8 := z_wl q6.2 b7 ((((8 : Int32)) * v1) + v2).toNatClampNeg q6.1
z_chk S8 v0 13 (
z_onV (va_rf (z_r S8 v0 23)) fun b9 =>
z_inb S8 b9 101 v2 (
if v5 = 0 then
(z_chk S8 v0 13 (
z_onV (va_rf (z_r S8 v0 24)) fun b10 =>
z_inb S8 b10 102 ((((8 : Int32)) * v1) + v2) (
(f_X12_wholeOf ((z_i S8 b9 v2.toNatClampNeg)) ((z_l S8 b10 ((((8 : Int32)) * v1) + v2).toNatClampNeg)) S8).bind fun q11 =>
some (q11.1, q11.2))))
else
((f_X12_wholeOf ((z_i S8 b9 v2.toNatClampNeg)) x4 S8).bind fun q12 =>
some (q12.1, q12.2)))))))))))
else
(some (q2.1.toInt64, q2.2))))
def f_X12_raiseField : Nat → Int32 → Int32 → Int64 → Int32 → z_St → Option (Int64 × z_St) := z_op (b_X12_raiseField)
theorem e_X12_raiseField (v0 : Nat) (v1 : Int32) (v2 : Int32) (v3 : Int64) (v5 : Int32) (S : z_St) : f_X12_raiseField v0 v1 v2 v3 v5 S = b_X12_raiseField v0 v1 v2 v3 v5 S := congrFun (congrFun (congrFun (congrFun (congrFun (congrFun (z_op_eq (b_X12_raiseField)) v0) v1) v2) v3) v5) S
def g_X12_raiseField : z_G := .inr (.inl (fun as S => match as with
  | [.ref v0, .int v1, .int v2, .long v3, .int v5] => f_X12_raiseField v0 v1 v2 v3 v5 S
  | _ => none))
def c_X12_raiseField : List z_E := [
  (0, .aload_n 0, 1, .null, [], z_g0),
  (1, .iconst 0, 1, .int ((0 : Int32)), [], z_g0),
  (2, .putfield 224, 3, .null, [13, 0, 0], z_g0),
  (5, .aload_n 0, 1, .null, [], z_g0),
  (6, .iload_n 1, 1, .null, [], z_g0),
  (7, .iload_n 2, 1, .null, [], z_g0),
  (8, .invokevirtual 383, 3, .null, [1, 13, 0, 0], g_X12_fieldFault),
  (11, .istore 6, 2, .null, [], z_g0),
  (13, .iload 6, 2, .null, [], z_g0),
  (15, .ifCond .eq 7, 3, .null, [22], z_g0),
  (18, .iload 6, 2, .null, [], z_g0),
  (20, .i2l, 1, .null, [], z_g0),
  (21, .lreturn, 1, .null, [], z_g0),
  (22, .aload_n 0, 1, .null, [], z_g0),
  (23, .getfield 59, 3, .null, [13, 24, 3], z_g0),
  (26, .bipush 8, 2, .int ((8 : Int32)), [], z_g0),
  (28, .iload_n 1, 1, .null, [], z_g0),
  (29, .imul, 1, .null, [], z_g0),
  (30, .iload_n 2, 1, .null, [], z_g0),
  (31, .iadd, 1, .null, [], z_g0),
  (32, .laload, 1, .null, [], z_g0),
  (33, .lstore 7, 2, .null, [], z_g0),
  (35, .aload_n 0, 1, .null, [], z_g0),
  (36, .getfield 59, 3, .null, [13, 24, 3], z_g0),
  (39, .bipush 8, 2, .int ((8 : Int32)), [], z_g0),
  (41, .iload_n 1, 1, .null, [], z_g0),
  (42, .imul, 1, .null, [], z_g0),
  (43, .iload_n 2, 1, .null, [], z_g0),
  (44, .iadd, 1, .null, [], z_g0),
  (45, .aload_n 0, 1, .null, [], z_g0),
  (46, .getfield 56, 3, .null, [13, 23, 3], z_g0),
  (49, .iload_n 2, 1, .null, [], z_g0),
  (50, .iaload, 1, .null, [101], z_g0),
  (51, .lload 7, 2, .null, [], z_g0),
  (53, .lload_n 3, 1, .null, [], z_g0),
  (54, .invokestatic 311, 3, .null, [0, 0, 0, 0], g_X12_raisedCell),
  (57, .lastore, 1, .null, [], z_g0),
  (58, .aload_n 0, 1, .null, [], z_g0),
  (59, .getfield 56, 3, .null, [13, 23, 3], z_g0),
  (62, .iload_n 2, 1, .null, [], z_g0),
  (63, .iaload, 1, .null, [101], z_g0),
  (64, .iload 5, 2, .null, [], z_g0),
  (66, .ifCond .eq 8, 3, .null, [74], z_g0),
  (69, .lload 7, 2, .null, [], z_g0),
  (71, .goto 14, 3, .null, [85], z_g0),
  (74, .aload_n 0, 1, .null, [], z_g0),
  (75, .getfield 59, 3, .null, [13, 24, 3], z_g0),
  (78, .bipush 8, 2, .int ((8 : Int32)), [], z_g0),
  (80, .iload_n 1, 1, .null, [], z_g0),
  (81, .imul, 1, .null, [], z_g0),
  (82, .iload_n 2, 1, .null, [], z_g0),
  (83, .iadd, 1, .null, [], z_g0),
  (84, .laload, 1, .null, [], z_g0),
  (85, .invokestatic 305, 3, .null, [0, 0, 0], g_X12_wholeOf),
  (88, .lreturn, 1, .null, [], z_g0)]
set_option maxRecDepth 100000 in
theorem r_X12_raiseField (v0 : Nat) (v1 : Int32) (v2 : Int32) (v3 : Int64) (v5 : Int32) (S : z_St) : z_seg z_rL (c_X12_raiseField) [] (fun pc => fun _ _ _ => none) 58 (c_X12_raiseField) [(0, .ref v0), (1, .int v1), (2, .int v2), (3, .long v3), (5, .int v5)] [] S = b_X12_raiseField v0 v1 v2 v3 v5 S := rfl
def b_X12_link (v0 : Nat) (v1 : Int32) (v2 : Int32) (v3 : Int32) (S : z_St) : Option (Int32 × z_St) :=
z_chk S v0 13 (
let S1 := z_wi S v0 0 ((0 : Int32))
z_chk S1 v0 13 (
(f_X12_noCard v0 v1 S1).bind fun q2 =>
if q2.1 = 0 then
(z_chk q2.2 v0 13 (
(f_X12_noCard v0 v2 q2.2).bind fun q3 =>
if q3.1 = 0 then
(z_chk q3.2 v0 13 (
(f_X12_noThing v0 v3 q3.2).bind fun q4 =>
if q4.1 = 0 then
(if v1 = ((-1 : Int32)) then
(z_chk q4.2 v0 13 (
(f_X12_fails v0 ((1 : Int32)) q4.2).bind fun q10 =>
some (q10.1, q10.2)))
else
(z_chk q4.2 v0 13 (
(f_X12_well v0 q4.2).bind fun q5 =>
z_chk q5 v0 13 (
z_onV (va_rf (z_r q5 v0 25)) fun b6 =>
z_inb q5 b6 101 v1 (
let S7 := z_wi q5 b6 v1.toNatClampNeg v2
z_chk S7 v0 13 (
z_onV (va_rf (z_r S7 v0 26)) fun b8 =>
z_inb S7 b8 101 v1 (
let S9 := z_wi S7 b8 v1.toNatClampNeg v3
some ((1 : Int32), S9))))))))
else
(some ((-2000000001 : Int32), q4.2))))
else
(some ((-2000000001 : Int32), q3.2))))
else
(some ((-2000000001 : Int32), q2.2))))
def f_X12_link : Nat → Int32 → Int32 → Int32 → z_St → Option (Int32 × z_St) := z_op (b_X12_link)
theorem e_X12_link (v0 : Nat) (v1 : Int32) (v2 : Int32) (v3 : Int32) (S : z_St) : f_X12_link v0 v1 v2 v3 S = b_X12_link v0 v1 v2 v3 S := congrFun (congrFun (congrFun (congrFun (congrFun (z_op_eq (b_X12_link)) v0) v1) v2) v3) S
def g_X12_link : z_G := .inl (fun as S => match as with
  | [.ref v0, .int v1, .int v2, .int v3] => f_X12_link v0 v1 v2 v3 S
  | _ => none)
def c_X12_link : List z_E := [
  (0, .aload_n 0, 1, .null, [], z_g0),
  (1, .iconst 0, 1, .int ((0 : Int32)), [], z_g0),
  (2, .putfield 224, 3, .null, [13, 0, 0], z_g0),
  (5, .aload_n 0, 1, .null, [], z_g0),
  (6, .iload_n 1, 1, .null, [], z_g0),
  (7, .invokevirtual 380, 3, .null, [1, 13, 0], g_X12_noCard),
  (10, .ifCond .ne 19, 3, .null, [29], z_g0),
  (13, .aload_n 0, 1, .null, [], z_g0),
  (14, .iload_n 2, 1, .null, [], z_g0),
  (15, .invokevirtual 380, 3, .null, [1, 13, 0], g_X12_noCard),
  (18, .ifCond .ne 11, 3, .null, [29], z_g0),
  (21, .aload_n 0, 1, .null, [], z_g0),
  (22, .iload_n 3, 1, .null, [], z_g0),
  (23, .invokevirtual 353, 3, .null, [1, 13, 0], g_X12_noThing),
  (26, .ifCond .eq 7, 3, .null, [33], z_g0),
  (29, .ldc_w 296, 3, .int (-2000000001 : Int32), [], z_g0),
  (32, .ireturn, 1, .null, [], z_g0),
  (33, .iload_n 1, 1, .null, [], z_g0),
  (34, .iconst (-1), 1, .int ((-1 : Int32)), [], z_g0),
  (35, .if_icmp .ne 9, 3, .null, [44], z_g0),
  (38, .aload_n 0, 1, .null, [], z_g0),
  (39, .iconst 1, 1, .int ((1 : Int32)), [], z_g0),
  (40, .invokevirtual 282, 3, .null, [1, 13, 0], g_X12_fails),
  (43, .ireturn, 1, .null, [], z_g0),
  (44, .aload_n 0, 1, .null, [], z_g0),
  (45, .invokevirtual 286, 3, .null, [1, 13], g_X12_well),
  (48, .aload_n 0, 1, .null, [], z_g0),
  (49, .getfield 62, 3, .null, [13, 25, 3], z_g0),
  (52, .iload_n 1, 1, .null, [], z_g0),
  (53, .iload_n 2, 1, .null, [], z_g0),
  (54, .iastore, 1, .null, [], z_g0),
  (55, .aload_n 0, 1, .null, [], z_g0),
  (56, .getfield 65, 3, .null, [13, 26, 3], z_g0),
  (59, .iload_n 1, 1, .null, [], z_g0),
  (60, .iload_n 3, 1, .null, [], z_g0),
  (61, .iastore, 1, .null, [], z_g0),
  (62, .iconst 1, 1, .int ((1 : Int32)), [], z_g0),
  (63, .ireturn, 1, .null, [], z_g0)]
set_option maxRecDepth 100000 in
theorem r_X12_link (v0 : Nat) (v1 : Int32) (v2 : Int32) (v3 : Int32) (S : z_St) : z_seg z_rI (c_X12_link) [] (fun pc => fun _ _ _ => none) 41 (c_X12_link) [(0, .ref v0), (1, .int v1), (2, .int v2), (3, .int v3)] [] S = b_X12_link v0 v1 v2 v3 S := rfl
def l_X12_along_53 : Nat → Nat → Int32 → Int32 → Int32 → z_St → Option (Int32 × z_St)
  | 0 => fun _ _ _ _ _ => none
  | n + 1 => fun (v0 : Nat) (v2 : Int32) (v3 : Int32) (v4 : Int32) (S : z_St) =>
if v2 ≤ v4 then
(some (v3, S))
else
(if v3 = ((-1 : Int32)) then
(some (v3, S))
else
(z_chk S v0 13 (
z_onV (va_rf (z_r S v0 25)) fun b6 =>
z_inb S b6 101 v3 (
let x7 := (z_i S b6 v3.toNatClampNeg)
let x8 := v4 + (1 : Int32)
l_X12_along_53 n v0 v2 x7 x8 S))))
def b_X12_along (v0 : Nat) (v1 : Int32) (v2 : Int32) (S : z_St) : Option (Int32 × z_St) :=
z_chk S v0 13 (
let S1 := z_wi S v0 0 ((0 : Int32))
z_chk S1 v0 13 (
(f_X12_noCard v0 v1 S1).bind fun q2 =>
if q2.1 = 0 then
((f_X12_in v2.toInt64 ((0 : Int64)) ((100 : Int64)) q2.2).bind fun q3 =>
if q3.1 = 0 then
(some ((-2000000002 : Int32), q3.2))
else
(if v1 = ((-1 : Int32)) then
(z_chk q3.2 v0 13 (
(f_X12_fails v0 ((1 : Int32)) q3.2).bind fun q5 =>
some (q5.1, q5.2)))
else
(z_chk q3.2 v0 13 (
(f_X12_well v0 q3.2).bind fun q4 =>
l_X12_along_53 z_N v0 v2 v1 ((0 : Int32)) q4))))
else
(some ((-2000000001 : Int32), q2.2))))
def f_X12_along : Nat → Int32 → Int32 → z_St → Option (Int32 × z_St) := z_op (b_X12_along)
theorem e_X12_along (v0 : Nat) (v1 : Int32) (v2 : Int32) (S : z_St) : f_X12_along v0 v1 v2 S = b_X12_along v0 v1 v2 S := congrFun (congrFun (congrFun (congrFun (z_op_eq (b_X12_along)) v0) v1) v2) S
def g_X12_along : z_G := .inl (fun as S => match as with
  | [.ref v0, .int v1, .int v2] => f_X12_along v0 v1 v2 S
  | _ => none)
def c_X12_along : List z_E := [
  (0, .aload_n 0, 1, .null, [], z_g0),
  (1, .iconst 0, 1, .int ((0 : Int32)), [], z_g0),
  (2, .putfield 224, 3, .null, [13, 0, 0], z_g0),
  (5, .aload_n 0, 1, .null, [], z_g0),
  (6, .iload_n 1, 1, .null, [], z_g0),
  (7, .invokevirtual 380, 3, .null, [1, 13, 0], g_X12_noCard),
  (10, .ifCond .eq 7, 3, .null, [17], z_g0),
  (13, .ldc_w 296, 3, .int (-2000000001 : Int32), [], z_g0),
  (16, .ireturn, 1, .null, [], z_g0),
  (17, .iload_n 2, 1, .null, [], z_g0),
  (18, .i2l, 1, .null, [], z_g0),
  (19, .lconst 0, 1, .long (0 : Int64), [], z_g0),
  (20, .ldc2_w 386, 3, .long (100 : Int64), [], z_g0),
  (23, .invokestatic 274, 3, .null, [0, 0, 0, 0], g_X12_in),
  (26, .ifCond .ne 7, 3, .null, [33], z_g0),
  (29, .ldc_w 280, 3, .int (-2000000002 : Int32), [], z_g0),
  (32, .ireturn, 1, .null, [], z_g0),
  (33, .iload_n 1, 1, .null, [], z_g0),
  (34, .iconst (-1), 1, .int ((-1 : Int32)), [], z_g0),
  (35, .if_icmp .ne 9, 3, .null, [44], z_g0),
  (38, .aload_n 0, 1, .null, [], z_g0),
  (39, .iconst 1, 1, .int ((1 : Int32)), [], z_g0),
  (40, .invokevirtual 282, 3, .null, [1, 13, 0], g_X12_fails),
  (43, .ireturn, 1, .null, [], z_g0),
  (44, .aload_n 0, 1, .null, [], z_g0),
  (45, .invokevirtual 286, 3, .null, [1, 13], g_X12_well),
  (48, .iload_n 1, 1, .null, [], z_g0),
  (49, .istore_n 3, 1, .null, [], z_g0),
  (50, .iconst 0, 1, .int ((0 : Int32)), [], z_g0),
  (51, .istore 4, 2, .null, [], z_g0),
  (53, .iload 4, 2, .null, [], z_g0),
  (55, .iload_n 2, 1, .null, [], z_g0),
  (56, .if_icmp .ge 21, 3, .null, [77], z_g0),
  (59, .iload_n 3, 1, .null, [], z_g0),
  (60, .iconst (-1), 1, .int ((-1 : Int32)), [], z_g0),
  (61, .if_icmp .eq 16, 3, .null, [77], z_g0),
  (64, .aload_n 0, 1, .null, [], z_g0),
  (65, .getfield 62, 3, .null, [13, 25, 3], z_g0),
  (68, .iload_n 3, 1, .null, [], z_g0),
  (69, .iaload, 1, .null, [101], z_g0),
  (70, .istore_n 3, 1, .null, [], z_g0),
  (71, .iinc 4 1, 3, .int (1 : Int32), [], z_g0),
  (74, .goto (-21), 3, .null, [53], z_g0),
  (77, .iload_n 3, 1, .null, [], z_g0),
  (78, .ireturn, 1, .null, [], z_g0)]
def a_X12_along_53 {ρ : Type} (k : Nat → Int32 → Int32 → Int32 → z_St → Option ρ) (ls : z_Lv) (st : List Value) (S : z_St) : Option ρ := z_gR ls 0 fun v0 => z_gI ls 2 fun v2 => z_gI ls 3 fun v3 => z_gI ls 4 fun v4 => z_p0 st (k v0 v2 v3 v4 S)
set_option maxRecDepth 100000 in
theorem r_X12_along_53 (n : Nat) (v0 : Nat) (v2 : Int32) (v3 : Int32) (v4 : Int32) (S : z_St) : z_seg z_rI (c_X12_along) [53] (fun pc => cond (Nat.beq pc 53) (a_X12_along_53 (l_X12_along_53 n)) (fun _ _ _ => none)) 48 (z_to 53 (c_X12_along)) [(0, .ref v0), (2, .int v2), (3, .int v3), (4, .int v4)] [] S = l_X12_along_53 (n + 1) v0 v2 v3 v4 S := rfl
set_option maxRecDepth 100000 in
theorem r_X12_along (v0 : Nat) (v1 : Int32) (v2 : Int32) (S : z_St) : z_seg z_rI (c_X12_along) [53] (fun pc => cond (Nat.beq pc 53) (a_X12_along_53 (l_X12_along_53 z_N)) (fun _ _ _ => none)) 48 (c_X12_along) [(0, .ref v0), (1, .int v1), (2, .int v2)] [] S = b_X12_along v0 v1 v2 S := rfl
end
