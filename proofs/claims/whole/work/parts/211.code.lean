noncomputable section
def l_X12_regretOf_8 : Nat → Nat → UInt64 → UInt64 → Int32 → Int32 → z_St → Option (UInt64 × z_St)
  | 0 => fun _ _ _ _ _ _ => none
  | n + 1 => fun (v0 : Nat) (v1 : UInt64) (v3 : UInt64) (v5 : Int32) (v6 : Int32) (S : z_St) =>
if ((6 : Int32)) ≤ v6 then
(some (v3, S))
else
(z_chk S v0 13 (
(f_X12_lacks v0 v6 S).bind fun q1 =>
if q1.1 = 0 then
(z_chk q1.2 v0 13 (
z_chk q1.2 v0 13 (
(f_X12_volumeAt v0 v6 v1 (((z_i q1.2 v0 92)) - ((1 : Int32))) q1.2).bind fun q3 =>
z_chk q3.2 v0 13 (
z_chk q3.2 v0 13 (
z_nn (FP.dmul ((z_d q3.2 v0 97)) ((z_d q3.2 v0 97))) (
z_nn (FP.dmul v1 ((4621819117588971520 : UInt64))) (
z_nn (FP.dadd (FP.dmul ((z_d q3.2 v0 97)) ((z_d q3.2 v0 97))) (FP.dmul v1 ((4621819117588971520 : UInt64)))) (
let x4 := FP.dadd (FP.dmul ((z_d q3.2 v0 97)) ((z_d q3.2 v0 97))) (FP.dmul v1 ((4621819117588971520 : UInt64)))
if v5 = 0 then
(if (Op.cmpValue (FP.dcmp x4 v3) .l) ≤ 0 then
(let x6 := v6 + (1 : Int32)
l_X12_regretOf_8 n v0 v1 v3 ((0 : Int32)) x6 q3.2)
else
(let x7 := v6 + (1 : Int32)
l_X12_regretOf_8 n v0 v1 x4 ((0 : Int32)) x7 q3.2))
else
(let x5 := v6 + (1 : Int32)
l_X12_regretOf_8 n v0 v1 x4 ((0 : Int32)) x5 q3.2)))))))))
else
(let x2 := v6 + (1 : Int32)
l_X12_regretOf_8 n v0 v1 v3 v5 x2 q1.2)))
def b_X12_regretOf (v0 : Nat) (v1 : UInt64) (S : z_St) : Option (UInt64 × z_St) :=
l_X12_regretOf_8 z_N v0 v1 FP.dconst0 ((1 : Int32)) ((0 : Int32)) S
def f_X12_regretOf : Nat → UInt64 → z_St → Option (UInt64 × z_St) := z_op (b_X12_regretOf)
theorem e_X12_regretOf (v0 : Nat) (v1 : UInt64) (S : z_St) : f_X12_regretOf v0 v1 S = b_X12_regretOf v0 v1 S := congrFun (congrFun (congrFun (z_op_eq (b_X12_regretOf)) v0) v1) S
def g_X12_regretOf : z_G := .inr (.inr (.inl (fun as S => match as with
  | [.ref v0, .double v1] => f_X12_regretOf v0 v1 S
  | _ => none)))
def c_X12_regretOf : List z_E := [
  (0, .dconst 0, 1, .double FP.dconst0, [], z_g0),
  (1, .dstore_n 3, 1, .null, [], z_g0),
  (2, .iconst 1, 1, .int ((1 : Int32)), [], z_g0),
  (3, .istore 5, 2, .null, [], z_g0),
  (5, .iconst 0, 1, .int ((0 : Int32)), [], z_g0),
  (6, .istore 6, 2, .null, [], z_g0),
  (8, .iload 6, 2, .null, [], z_g0),
  (10, .bipush 6, 2, .int ((6 : Int32)), [], z_g0),
  (12, .if_icmp .ge 71, 3, .null, [83], z_g0),
  (15, .aload_n 0, 1, .null, [], z_g0),
  (16, .iload 6, 2, .null, [], z_g0),
  (18, .invokevirtual 633, 3, .null, [1, 13, 0], g_X12_lacks),
  (21, .ifCond .ne 56, 3, .null, [77], z_g0),
  (24, .aload_n 0, 1, .null, [], z_g0),
  (25, .iload 6, 2, .null, [], z_g0),
  (27, .dload_n 1, 1, .null, [], z_g0),
  (28, .aload_n 0, 1, .null, [], z_g0),
  (29, .getfield 205, 3, .null, [13, 92, 0], z_g0),
  (32, .iconst 1, 1, .int ((1 : Int32)), [], z_g0),
  (33, .isub, 1, .null, [], z_g0),
  (34, .invokevirtual 636, 3, .null, [1, 13, 0, 0, 0], g_X12_volumeAt),
  (37, .pop2, 1, .null, [], z_g0),
  (38, .aload_n 0, 1, .null, [], z_g0),
  (39, .getfield 630, 3, .null, [13, 97, 2], z_g0),
  (42, .aload_n 0, 1, .null, [], z_g0),
  (43, .getfield 630, 3, .null, [13, 97, 2], z_g0),
  (46, .dmul, 1, .null, [], z_g0),
  (47, .dload_n 1, 1, .null, [], z_g0),
  (48, .ldc2_w 640, 3, .double (4621819117588971520 : UInt64), [], z_g0),
  (51, .dmul, 1, .null, [], z_g0),
  (52, .dadd, 1, .null, [], z_g0),
  (53, .dstore 7, 2, .null, [], z_g0),
  (55, .iload 5, 2, .null, [], z_g0),
  (57, .ifCond .ne 10, 3, .null, [67], z_g0),
  (60, .dload 7, 2, .null, [], z_g0),
  (62, .dload_n 3, 1, .null, [], z_g0),
  (63, .dcmp .l, 1, .null, [], z_g0),
  (64, .ifCond .le 8, 3, .null, [72], z_g0),
  (67, .dload 7, 2, .null, [], z_g0),
  (69, .goto 4, 3, .null, [73], z_g0),
  (72, .dload_n 3, 1, .null, [], z_g0),
  (73, .dstore_n 3, 1, .null, [], z_g0),
  (74, .iconst 0, 1, .int ((0 : Int32)), [], z_g0),
  (75, .istore 5, 2, .null, [], z_g0),
  (77, .iinc 6 1, 3, .int (1 : Int32), [], z_g0),
  (80, .goto (-72), 3, .null, [8], z_g0),
  (83, .dload_n 3, 1, .null, [], z_g0),
  (84, .dreturn, 1, .null, [], z_g0)]
def a_X12_regretOf_8 {ρ : Type} (k : Nat → UInt64 → UInt64 → Int32 → Int32 → z_St → Option ρ) (ls : z_Lv) (st : List Value) (S : z_St) : Option ρ := z_gR ls 0 fun v0 => z_gD ls 1 fun v1 => z_gD ls 3 fun v3 => z_gI ls 5 fun v5 => z_gI ls 6 fun v6 => z_p0 st (k v0 v1 v3 v5 v6 S)
set_option maxRecDepth 100000 in
theorem r_X12_regretOf_8 (n : Nat) (v0 : Nat) (v1 : UInt64) (v3 : UInt64) (v5 : Int32) (v6 : Int32) (S : z_St) : z_seg z_rD (c_X12_regretOf) [8] (fun pc => cond (Nat.beq pc 8) (a_X12_regretOf_8 (l_X12_regretOf_8 n)) (fun _ _ _ => none)) 51 (z_to 8 (c_X12_regretOf)) [(0, .ref v0), (1, .double v1), (3, .double v3), (5, .int v5), (6, .int v6)] [] S = l_X12_regretOf_8 (n + 1) v0 v1 v3 v5 v6 S := rfl
set_option maxRecDepth 100000 in
theorem r_X12_regretOf (v0 : Nat) (v1 : UInt64) (S : z_St) : z_seg z_rD (c_X12_regretOf) [8] (fun pc => cond (Nat.beq pc 8) (a_X12_regretOf_8 (l_X12_regretOf_8 z_N)) (fun _ _ _ => none)) 51 (c_X12_regretOf) [(0, .ref v0), (1, .double v1)] [] S = b_X12_regretOf v0 v1 S := rfl
def b_X12_routed (v0 : Nat) (v1 : Int32) (v2 : Int32) (v3 : Int32) (S : z_St) : Option (Int64 × z_St) :=
z_chk S v0 13 (
let S1 := z_wi S v0 0 ((0 : Int32))
(f_X12_in v1.toInt64 ((0 : Int64)) ((5 : Int64)) S1).bind fun q2 =>
if q2.1 = 0 then
(some ((-2000000001 : Int64), q2.2))
else
((f_X12_in v2.toInt64 ((0 : Int64)) ((7 : Int64)) q2.2).bind fun q3 =>
if q3.1 = 0 then
(some ((-2000000001 : Int64), q3.2))
else
(z_chk q3.2 v0 13 (
z_onV (va_rf (z_r q3.2 v0 95)) fun b4 =>
z_inb q3.2 b4 104 v2 (
if ((z_i q3.2 b4 v2.toNatClampNeg)) = 0 then
(some ((-2000000001 : Int64), q3.2))
else
(z_chk q3.2 v0 13 (
(f_X12_in v3.toInt64 ((0 : Int64)) ((((z_i q3.2 v0 92)) - ((1 : Int32))).toInt64) q3.2).bind fun q5 =>
if q5.1 = 0 then
(some ((-2000000002 : Int64), q5.2))
else
(z_chk q5.2 v0 13 (
(f_X12_lacks v0 v1 q5.2).bind fun q6 =>
if q6.1 = 0 then
(z_chk q6.2 v0 13 (
z_onV (va_rf (z_r q6.2 v0 96)) fun b7 =>
z_inb q6.2 b7 103 v2 (
z_chk q6.2 v0 13 (
(f_X12_volumeAt v0 v1 ((z_d q6.2 b7 v2.toNatClampNeg)) v3 q6.2).bind fun q8 =>
(f_X12_bitsOf q8.1 q8.2).bind fun q9 =>
some (q9.1, q9.2)))))
else
(some ((9221120237041090560 : Int64), q6.2)))))))))))
def f_X12_routed : Nat → Int32 → Int32 → Int32 → z_St → Option (Int64 × z_St) := z_op (b_X12_routed)
theorem e_X12_routed (v0 : Nat) (v1 : Int32) (v2 : Int32) (v3 : Int32) (S : z_St) : f_X12_routed v0 v1 v2 v3 S = b_X12_routed v0 v1 v2 v3 S := congrFun (congrFun (congrFun (congrFun (congrFun (z_op_eq (b_X12_routed)) v0) v1) v2) v3) S
def g_X12_routed : z_G := .inr (.inl (fun as S => match as with
  | [.ref v0, .int v1, .int v2, .int v3] => f_X12_routed v0 v1 v2 v3 S
  | _ => none))
def c_X12_routed : List z_E := [
  (0, .aload_n 0, 1, .null, [], z_g0),
  (1, .iconst 0, 1, .int ((0 : Int32)), [], z_g0),
  (2, .putfield 224, 3, .null, [13, 0, 0], z_g0),
  (5, .iload_n 1, 1, .null, [], z_g0),
  (6, .i2l, 1, .null, [], z_g0),
  (7, .lconst 0, 1, .long (0 : Int64), [], z_g0),
  (8, .ldc2_w 334, 3, .long (5 : Int64), [], z_g0),
  (11, .invokestatic 274, 3, .null, [0, 0, 0, 0], g_X12_in),
  (14, .ifCond .eq 24, 3, .null, [38], z_g0),
  (17, .iload_n 2, 1, .null, [], z_g0),
  (18, .i2l, 1, .null, [], z_g0),
  (19, .lconst 0, 1, .long (0 : Int64), [], z_g0),
  (20, .ldc2_w 278, 3, .long (7 : Int64), [], z_g0),
  (23, .invokestatic 274, 3, .null, [0, 0, 0, 0], g_X12_in),
  (26, .ifCond .eq 12, 3, .null, [38], z_g0),
  (29, .aload_n 0, 1, .null, [], z_g0),
  (30, .getfield 215, 3, .null, [13, 95, 3], z_g0),
  (33, .iload_n 2, 1, .null, [], z_g0),
  (34, .baload, 1, .null, [104], z_g0),
  (35, .ifCond .ne 7, 3, .null, [42], z_g0),
  (38, .ldc2_w 319, 3, .long (-2000000001 : Int64), [], z_g0),
  (41, .lreturn, 1, .null, [], z_g0),
  (42, .iload_n 3, 1, .null, [], z_g0),
  (43, .i2l, 1, .null, [], z_g0),
  (44, .lconst 0, 1, .long (0 : Int64), [], z_g0),
  (45, .aload_n 0, 1, .null, [], z_g0),
  (46, .getfield 205, 3, .null, [13, 92, 0], z_g0),
  (49, .iconst 1, 1, .int ((1 : Int32)), [], z_g0),
  (50, .isub, 1, .null, [], z_g0),
  (51, .i2l, 1, .null, [], z_g0),
  (52, .invokestatic 274, 3, .null, [0, 0, 0, 0], g_X12_in),
  (55, .ifCond .ne 7, 3, .null, [62], z_g0),
  (58, .ldc2_w 398, 3, .long (-2000000002 : Int64), [], z_g0),
  (61, .lreturn, 1, .null, [], z_g0),
  (62, .aload_n 0, 1, .null, [], z_g0),
  (63, .iload_n 1, 1, .null, [], z_g0),
  (64, .invokevirtual 633, 3, .null, [1, 13, 0], g_X12_lacks),
  (67, .ifCond .eq 9, 3, .null, [76], z_g0),
  (70, .ldc2_w 246, 3, .long (9221120237041090560 : Int64), [], z_g0),
  (73, .goto 18, 3, .null, [91], z_g0),
  (76, .aload_n 0, 1, .null, [], z_g0),
  (77, .iload_n 1, 1, .null, [], z_g0),
  (78, .aload_n 0, 1, .null, [], z_g0),
  (79, .getfield 218, 3, .null, [13, 96, 3], z_g0),
  (82, .iload_n 2, 1, .null, [], z_g0),
  (83, .daload, 1, .null, [], z_g0),
  (84, .iload_n 3, 1, .null, [], z_g0),
  (85, .invokevirtual 636, 3, .null, [1, 13, 0, 0, 0], g_X12_volumeAt),
  (88, .invokestatic 252, 3, .null, [0, 0], g_X12_bitsOf),
  (91, .lreturn, 1, .null, [], z_g0)]
set_option maxRecDepth 100000 in
theorem r_X12_routed (v0 : Nat) (v1 : Int32) (v2 : Int32) (v3 : Int32) (S : z_St) : z_seg z_rL (c_X12_routed) [] (fun pc => fun _ _ _ => none) 53 (c_X12_routed) [(0, .ref v0), (1, .int v1), (2, .int v2), (3, .int v3)] [] S = b_X12_routed v0 v1 v2 v3 S := rfl
def b_X12_regret (v0 : Nat) (v1 : Int32) (S : z_St) : Option (Int64 × z_St) :=
z_chk S v0 13 (
let S1 := z_wi S v0 0 ((0 : Int32))
(f_X12_in v1.toInt64 ((0 : Int64)) ((7 : Int64)) S1).bind fun q2 =>
if q2.1 = 0 then
(some ((-2000000001 : Int64), q2.2))
else
(z_chk q2.2 v0 13 (
z_onV (va_rf (z_r q2.2 v0 95)) fun b3 =>
z_inb q2.2 b3 104 v1 (
if ((z_i q2.2 b3 v1.toNatClampNeg)) = 0 then
(some ((-2000000001 : Int64), q2.2))
else
(z_chk q2.2 v0 13 (
z_onV (va_rf (z_r q2.2 v0 96)) fun b4 =>
z_inb q2.2 b4 103 v1 (
z_chk q2.2 v0 13 (
(f_X12_regretOf v0 ((z_d q2.2 b4 v1.toNatClampNeg)) q2.2).bind fun q5 =>
(f_X12_bitsOf q5.1 q5.2).bind fun q6 =>
some (q6.1, q6.2)))))))))
def f_X12_regret : Nat → Int32 → z_St → Option (Int64 × z_St) := z_op (b_X12_regret)
theorem e_X12_regret (v0 : Nat) (v1 : Int32) (S : z_St) : f_X12_regret v0 v1 S = b_X12_regret v0 v1 S := congrFun (congrFun (congrFun (z_op_eq (b_X12_regret)) v0) v1) S
def g_X12_regret : z_G := .inr (.inl (fun as S => match as with
  | [.ref v0, .int v1] => f_X12_regret v0 v1 S
  | _ => none))
def c_X12_regret : List z_E := [
  (0, .aload_n 0, 1, .null, [], z_g0),
  (1, .iconst 0, 1, .int ((0 : Int32)), [], z_g0),
  (2, .putfield 224, 3, .null, [13, 0, 0], z_g0),
  (5, .iload_n 1, 1, .null, [], z_g0),
  (6, .i2l, 1, .null, [], z_g0),
  (7, .lconst 0, 1, .long (0 : Int64), [], z_g0),
  (8, .ldc2_w 278, 3, .long (7 : Int64), [], z_g0),
  (11, .invokestatic 274, 3, .null, [0, 0, 0, 0], g_X12_in),
  (14, .ifCond .eq 28, 3, .null, [42], z_g0),
  (17, .aload_n 0, 1, .null, [], z_g0),
  (18, .getfield 215, 3, .null, [13, 95, 3], z_g0),
  (21, .iload_n 1, 1, .null, [], z_g0),
  (22, .baload, 1, .null, [104], z_g0),
  (23, .ifCond .eq 19, 3, .null, [42], z_g0),
  (26, .aload_n 0, 1, .null, [], z_g0),
  (27, .aload_n 0, 1, .null, [], z_g0),
  (28, .getfield 218, 3, .null, [13, 96, 3], z_g0),
  (31, .iload_n 1, 1, .null, [], z_g0),
  (32, .daload, 1, .null, [], z_g0),
  (33, .invokevirtual 642, 3, .null, [1, 13, 0], g_X12_regretOf),
  (36, .invokestatic 252, 3, .null, [0, 0], g_X12_bitsOf),
  (39, .goto 6, 3, .null, [45], z_g0),
  (42, .ldc2_w 319, 3, .long (-2000000001 : Int64), [], z_g0),
  (45, .lreturn, 1, .null, [], z_g0)]
set_option maxRecDepth 100000 in
theorem r_X12_regret (v0 : Nat) (v1 : Int32) (S : z_St) : z_seg z_rL (c_X12_regret) [] (fun pc => fun _ _ _ => none) 27 (c_X12_regret) [(0, .ref v0), (1, .int v1)] [] S = b_X12_regret v0 v1 S := rfl
def j_X12_chosen_54 (k_9 : Nat → Int32 → Int32 → z_St → Option (Int32 × z_St)) (v0 : Nat) (v1 : Int32) (v2 : Int32) (v3 : UInt64) (t0 : UInt64) (S : z_St) : Option (Int32 × z_St) :=
if v1 = ((-1 : Int32)) then
(let x8 := v2 + (1 : Int32)
k_9 v0 v2 x8 S)
else
(if (Op.cmpValue (FP.dcmp v3 t0) .g) < 0 then
(let x9 := v2 + (1 : Int32)
k_9 v0 v2 x9 S)
else
(if (Op.cmpValue (FP.dcmp v3 t0) .l) = 0 then
(z_chk S v0 13 (
z_onV (va_rf (z_r S v0 96)) fun b11 =>
z_inb S b11 103 v2 (
z_chk S v0 13 (
z_onV (va_rf (z_r S v0 96)) fun b12 =>
z_inb S b12 103 v1 (
if 0 ≤ (Op.cmpValue (FP.dcmp ((z_d S b11 v2.toNatClampNeg)) ((z_d S b12 v1.toNatClampNeg))) .g) then
(let x13 := v2 + (1 : Int32)
k_9 v0 v1 x13 S)
else
(let x14 := v2 + (1 : Int32)
k_9 v0 v2 x14 S))))))
else
(let x10 := v2 + (1 : Int32)
k_9 v0 v1 x10 S)))
def l_X12_chosen_9 : Nat → Nat → Int32 → Int32 → z_St → Option (Int32 × z_St)
  | 0 => fun _ _ _ _ => none
  | n + 1 => fun (v0 : Nat) (v1 : Int32) (v2 : Int32) (S : z_St) =>
if ((8 : Int32)) ≤ v2 then
(some (v1, S))
else
(z_chk S v0 13 (
z_onV (va_rf (z_r S v0 95)) fun b2 =>
z_inb S b2 104 v2 (
if ((z_i S b2 v2.toNatClampNeg)) = 0 then
(let x3 := v2 + (1 : Int32)
l_X12_chosen_9 n v0 v1 x3 S)
else
(z_chk S v0 13 (
z_onV (va_rf (z_r S v0 96)) fun b4 =>
z_inb S b4 103 v2 (
z_chk S v0 13 (
(f_X12_regretOf v0 ((z_d S b4 v2.toNatClampNeg)) S).bind fun q5 =>
if v1 = ((-1 : Int32)) then
(j_X12_chosen_54 (l_X12_chosen_9 n) v0 v1 v2 q5.1 FP.dconst0 q5.2)
else
(z_chk q5.2 v0 13 (
z_onV (va_rf (z_r q5.2 v0 96)) fun b6 =>
z_inb q5.2 b6 103 v1 (
z_chk q5.2 v0 13 (
(f_X12_regretOf v0 ((z_d q5.2 b6 v1.toNatClampNeg)) q5.2).bind fun q7 =>
j_X12_chosen_54 (l_X12_chosen_9 n) v0 v1 v2 q5.1 q7.1 q7.2)))))))))))
def b_X12_chosen (v0 : Nat) (S : z_St) : Option (Int32 × z_St) :=
z_chk S v0 13 (
let S1 := z_wi S v0 0 ((0 : Int32))
l_X12_chosen_9 z_N v0 ((-1 : Int32)) ((0 : Int32)) S1)
def f_X12_chosen : Nat → z_St → Option (Int32 × z_St) := z_op (b_X12_chosen)
theorem e_X12_chosen (v0 : Nat) (S : z_St) : f_X12_chosen v0 S = b_X12_chosen v0 S := congrFun (congrFun (z_op_eq (b_X12_chosen)) v0) S
def g_X12_chosen : z_G := .inl (fun as S => match as with
  | [.ref v0] => f_X12_chosen v0 S
  | _ => none)
def c_X12_chosen : List z_E := [
  (0, .aload_n 0, 1, .null, [], z_g0),
  (1, .iconst 0, 1, .int ((0 : Int32)), [], z_g0),
  (2, .putfield 224, 3, .null, [13, 0, 0], z_g0),
  (5, .iconst (-1), 1, .int ((-1 : Int32)), [], z_g0),
  (6, .istore_n 1, 1, .null, [], z_g0),
  (7, .iconst 0, 1, .int ((0 : Int32)), [], z_g0),
  (8, .istore_n 2, 1, .null, [], z_g0),
  (9, .iload_n 2, 1, .null, [], z_g0),
  (10, .bipush 8, 2, .int ((8 : Int32)), [], z_g0),
  (12, .if_icmp .ge 91, 3, .null, [103], z_g0),
  (15, .aload_n 0, 1, .null, [], z_g0),
  (16, .getfield 215, 3, .null, [13, 95, 3], z_g0),
  (19, .iload_n 2, 1, .null, [], z_g0),
  (20, .baload, 1, .null, [104], z_g0),
  (21, .ifCond .eq 76, 3, .null, [97], z_g0),
  (24, .aload_n 0, 1, .null, [], z_g0),
  (25, .aload_n 0, 1, .null, [], z_g0),
  (26, .getfield 218, 3, .null, [13, 96, 3], z_g0),
  (29, .iload_n 2, 1, .null, [], z_g0),
  (30, .daload, 1, .null, [], z_g0),
  (31, .invokevirtual 642, 3, .null, [1, 13, 0], g_X12_regretOf),
  (34, .dstore_n 3, 1, .null, [], z_g0),
  (35, .iload_n 1, 1, .null, [], z_g0),
  (36, .iconst (-1), 1, .int ((-1 : Int32)), [], z_g0),
  (37, .if_icmp .ne 7, 3, .null, [44], z_g0),
  (40, .dconst 0, 1, .double FP.dconst0, [], z_g0),
  (41, .goto 13, 3, .null, [54], z_g0),
  (44, .aload_n 0, 1, .null, [], z_g0),
  (45, .aload_n 0, 1, .null, [], z_g0),
  (46, .getfield 218, 3, .null, [13, 96, 3], z_g0),
  (49, .iload_n 1, 1, .null, [], z_g0),
  (50, .daload, 1, .null, [], z_g0),
  (51, .invokevirtual 642, 3, .null, [1, 13, 0], g_X12_regretOf),
  (54, .dstore 5, 2, .null, [], z_g0),
  (56, .iload_n 1, 1, .null, [], z_g0),
  (57, .iconst (-1), 1, .int ((-1 : Int32)), [], z_g0),
  (58, .if_icmp .eq 33, 3, .null, [91], z_g0),
  (61, .dload_n 3, 1, .null, [], z_g0),
  (62, .dload 5, 2, .null, [], z_g0),
  (64, .dcmp .g, 1, .null, [], z_g0),
  (65, .ifCond .lt 26, 3, .null, [91], z_g0),
  (68, .dload_n 3, 1, .null, [], z_g0),
  (69, .dload 5, 2, .null, [], z_g0),
  (71, .dcmp .l, 1, .null, [], z_g0),
  (72, .ifCond .ne 23, 3, .null, [95], z_g0),
  (75, .aload_n 0, 1, .null, [], z_g0),
  (76, .getfield 218, 3, .null, [13, 96, 3], z_g0),
  (79, .iload_n 2, 1, .null, [], z_g0),
  (80, .daload, 1, .null, [], z_g0),
  (81, .aload_n 0, 1, .null, [], z_g0),
  (82, .getfield 218, 3, .null, [13, 96, 3], z_g0),
  (85, .iload_n 1, 1, .null, [], z_g0),
  (86, .daload, 1, .null, [], z_g0),
  (87, .dcmp .g, 1, .null, [], z_g0),
  (88, .ifCond .ge 7, 3, .null, [95], z_g0),
  (91, .iload_n 2, 1, .null, [], z_g0),
  (92, .goto 4, 3, .null, [96], z_g0),
  (95, .iload_n 1, 1, .null, [], z_g0),
  (96, .istore_n 1, 1, .null, [], z_g0),
  (97, .iinc 2 1, 3, .int (1 : Int32), [], z_g0),
  (100, .goto (-91), 3, .null, [9], z_g0),
  (103, .iload_n 1, 1, .null, [], z_g0),
  (104, .ireturn, 1, .null, [], z_g0)]
def a_X12_chosen_9 {ρ : Type} (k : Nat → Int32 → Int32 → z_St → Option ρ) (ls : z_Lv) (st : List Value) (S : z_St) : Option ρ := z_gR ls 0 fun v0 => z_gI ls 1 fun v1 => z_gI ls 2 fun v2 => z_p0 st (k v0 v1 v2 S)
def a_X12_chosen_54 {ρ : Type} (k : Nat → Int32 → Int32 → UInt64 → UInt64 → z_St → Option ρ) (ls : z_Lv) (st : List Value) (S : z_St) : Option ρ := z_gR ls 0 fun v0 => z_gI ls 1 fun v1 => z_gI ls 2 fun v2 => z_gD ls 3 fun v3 => z_pD st fun t0 s0 => z_p0 s0 (k v0 v1 v2 v3 t0 S)
set_option maxRecDepth 100000 in
theorem r_X12_chosen_54 (k_9 : Nat → Int32 → Int32 → z_St → Option (Int32 × z_St)) (v0 : Nat) (v1 : Int32) (v2 : Int32) (v3 : UInt64) (t0 : UInt64) (S : z_St) : z_seg z_rI (c_X12_chosen) [9, 54] (fun pc => cond (Nat.beq pc 9) (a_X12_chosen_9 k_9) (fun _ _ _ => none)) 66 (z_to 54 (c_X12_chosen)) [(0, .ref v0), (1, .int v1), (2, .int v2), (3, .double v3)] [.double t0] S = j_X12_chosen_54 k_9 v0 v1 v2 v3 t0 S := rfl
set_option maxRecDepth 100000 in
theorem r_X12_chosen_9 (n : Nat) (v0 : Nat) (v1 : Int32) (v2 : Int32) (S : z_St) : z_seg z_rI (c_X12_chosen) [9, 54] (fun pc => cond (Nat.beq pc 9) (a_X12_chosen_9 (l_X12_chosen_9 n)) (cond (Nat.beq pc 54) (a_X12_chosen_54 (j_X12_chosen_54 (l_X12_chosen_9 n))) (fun _ _ _ => none))) 66 (z_to 9 (c_X12_chosen)) [(0, .ref v0), (1, .int v1), (2, .int v2)] [] S = l_X12_chosen_9 (n + 1) v0 v1 v2 S := rfl
set_option maxRecDepth 100000 in
theorem r_X12_chosen (v0 : Nat) (S : z_St) : z_seg z_rI (c_X12_chosen) [9, 54] (fun pc => cond (Nat.beq pc 9) (a_X12_chosen_9 (l_X12_chosen_9 z_N)) (fun _ _ _ => none)) 66 (c_X12_chosen) [(0, .ref v0)] [] S = b_X12_chosen v0 S := rfl
def l_X12_peak_35 : Nat → Nat → Int32 → Int32 → Int32 → z_St → Option (Int32 × z_St)
  | 0 => fun _ _ _ _ _ => none
  | n + 1 => fun (v0 : Nat) (v1 : Int32) (v2 : Int32) (v3 : Int32) (S : z_St) =>
z_chk S v0 13 (
if ((z_i S v0 92)) ≤ v3 then
(some (v2, S))
else
(z_chk S v0 13 (
z_onV (va_rf (z_r S v0 94)) fun b4 =>
z_inb S b4 103 ((((12 : Int32)) * v1) + v3) (
z_chk S v0 13 (
z_onV (va_rf (z_r S v0 94)) fun b5 =>
z_inb S b5 103 ((((12 : Int32)) * v1) + v2) (
if (Op.cmpValue (FP.dcmp ((z_d S b4 ((((12 : Int32)) * v1) + v3).toNatClampNeg)) ((z_d S b5 ((((12 : Int32)) * v1) + v2).toNatClampNeg))) .l) ≤ 0 then
(let x6 := v3 + (1 : Int32)
l_X12_peak_35 n v0 v1 v2 x6 S)
else
(let x7 := v3 + (1 : Int32)
l_X12_peak_35 n v0 v1 v3 x7 S)))))))
def b_X12_peak (v0 : Nat) (v1 : Int32) (S : z_St) : Option (Int32 × z_St) :=
z_chk S v0 13 (
let S1 := z_wi S v0 0 ((0 : Int32))
(f_X12_in v1.toInt64 ((0 : Int64)) ((5 : Int64)) S1).bind fun q2 =>
if q2.1 = 0 then
(some ((-2000000001 : Int32), q2.2))
else
(z_chk q2.2 v0 13 (
(f_X12_lacks v0 v1 q2.2).bind fun q3 =>
if q3.1 = 0 then
(l_X12_peak_35 z_N v0 v1 ((0 : Int32)) ((1 : Int32)) q3.2)
else
(some ((-1 : Int32), q3.2)))))
def f_X12_peak : Nat → Int32 → z_St → Option (Int32 × z_St) := z_op (b_X12_peak)
theorem e_X12_peak (v0 : Nat) (v1 : Int32) (S : z_St) : f_X12_peak v0 v1 S = b_X12_peak v0 v1 S := congrFun (congrFun (congrFun (z_op_eq (b_X12_peak)) v0) v1) S
def g_X12_peak : z_G := .inl (fun as S => match as with
  | [.ref v0, .int v1] => f_X12_peak v0 v1 S
  | _ => none)
def c_X12_peak : List z_E := [
  (0, .aload_n 0, 1, .null, [], z_g0),
  (1, .iconst 0, 1, .int ((0 : Int32)), [], z_g0),
  (2, .putfield 224, 3, .null, [13, 0, 0], z_g0),
  (5, .iload_n 1, 1, .null, [], z_g0),
  (6, .i2l, 1, .null, [], z_g0),
  (7, .lconst 0, 1, .long (0 : Int64), [], z_g0),
  (8, .ldc2_w 334, 3, .long (5 : Int64), [], z_g0),
  (11, .invokestatic 274, 3, .null, [0, 0, 0, 0], g_X12_in),
  (14, .ifCond .ne 7, 3, .null, [21], z_g0),
  (17, .ldc_w 296, 3, .int (-2000000001 : Int32), [], z_g0),
  (20, .ireturn, 1, .null, [], z_g0),
  (21, .aload_n 0, 1, .null, [], z_g0),
  (22, .iload_n 1, 1, .null, [], z_g0),
  (23, .invokevirtual 633, 3, .null, [1, 13, 0], g_X12_lacks),
  (26, .ifCond .eq 5, 3, .null, [31], z_g0),
  (29, .iconst (-1), 1, .int ((-1 : Int32)), [], z_g0),
  (30, .ireturn, 1, .null, [], z_g0),
  (31, .iconst 0, 1, .int ((0 : Int32)), [], z_g0),
  (32, .istore_n 2, 1, .null, [], z_g0),
  (33, .iconst 1, 1, .int ((1 : Int32)), [], z_g0),
  (34, .istore_n 3, 1, .null, [], z_g0),
  (35, .iload_n 3, 1, .null, [], z_g0),
  (36, .aload_n 0, 1, .null, [], z_g0),
  (37, .getfield 205, 3, .null, [13, 92, 0], z_g0),
  (40, .if_icmp .ge 41, 3, .null, [81], z_g0),
  (43, .aload_n 0, 1, .null, [], z_g0),
  (44, .getfield 212, 3, .null, [13, 94, 3], z_g0),
  (47, .bipush 12, 2, .int ((12 : Int32)), [], z_g0),
  (49, .iload_n 1, 1, .null, [], z_g0),
  (50, .imul, 1, .null, [], z_g0),
  (51, .iload_n 3, 1, .null, [], z_g0),
  (52, .iadd, 1, .null, [], z_g0),
  (53, .daload, 1, .null, [], z_g0),
  (54, .aload_n 0, 1, .null, [], z_g0),
  (55, .getfield 212, 3, .null, [13, 94, 3], z_g0),
  (58, .bipush 12, 2, .int ((12 : Int32)), [], z_g0),
  (60, .iload_n 1, 1, .null, [], z_g0),
  (61, .imul, 1, .null, [], z_g0),
  (62, .iload_n 2, 1, .null, [], z_g0),
  (63, .iadd, 1, .null, [], z_g0),
  (64, .daload, 1, .null, [], z_g0),
  (65, .dcmp .l, 1, .null, [], z_g0),
  (66, .ifCond .le 7, 3, .null, [73], z_g0),
  (69, .iload_n 3, 1, .null, [], z_g0),
  (70, .goto 4, 3, .null, [74], z_g0),
  (73, .iload_n 2, 1, .null, [], z_g0),
  (74, .istore_n 2, 1, .null, [], z_g0),
  (75, .iinc 3 1, 3, .int (1 : Int32), [], z_g0),
  (78, .goto (-43), 3, .null, [35], z_g0),
  (81, .iload_n 2, 1, .null, [], z_g0),
  (82, .ireturn, 1, .null, [], z_g0)]
def a_X12_peak_35 {ρ : Type} (k : Nat → Int32 → Int32 → Int32 → z_St → Option ρ) (ls : z_Lv) (st : List Value) (S : z_St) : Option ρ := z_gR ls 0 fun v0 => z_gI ls 1 fun v1 => z_gI ls 2 fun v2 => z_gI ls 3 fun v3 => z_p0 st (k v0 v1 v2 v3 S)
set_option maxRecDepth 100000 in
theorem r_X12_peak_35 (n : Nat) (v0 : Nat) (v1 : Int32) (v2 : Int32) (v3 : Int32) (S : z_St) : z_seg z_rI (c_X12_peak) [35] (fun pc => cond (Nat.beq pc 35) (a_X12_peak_35 (l_X12_peak_35 n)) (fun _ _ _ => none)) 54 (z_to 35 (c_X12_peak)) [(0, .ref v0), (1, .int v1), (2, .int v2), (3, .int v3)] [] S = l_X12_peak_35 (n + 1) v0 v1 v2 v3 S := rfl
set_option maxRecDepth 100000 in
theorem r_X12_peak (v0 : Nat) (v1 : Int32) (S : z_St) : z_seg z_rI (c_X12_peak) [35] (fun pc => cond (Nat.beq pc 35) (a_X12_peak_35 (l_X12_peak_35 z_N)) (fun _ _ _ => none)) 54 (c_X12_peak) [(0, .ref v0), (1, .int v1)] [] S = b_X12_peak v0 v1 S := rfl
def j_X12_chance_117 (k_42 : Nat → Int32 → UInt64 → Int32 → Int32 → Int32 → z_St → Option (Int32 × z_St)) (v0 : Nat) (v3 : Int32) (v4 : UInt64) (v7 : Int32) (v8 : Int32) (v9 : Int32) (t0 : Int32) (t1 : Int32) (S : z_St) : Option (Int32 × z_St) :=
let x9 := t0 + t1
z_chk S v0 13 (
(f_X12_lacks v0 v8 S).bind fun q10 =>
if q10.1 = 0 then
(if v9 = 0 then
(let x13 := v7 + ((0 : Int32))
let x14 := v8 + (1 : Int32)
k_42 v0 v3 v4 x9 x13 x14 q10.2)
else
(let x15 := v7 + ((1 : Int32))
let x16 := v8 + (1 : Int32)
k_42 v0 v3 v4 x9 x15 x16 q10.2))
else
(let x11 := v7 + ((0 : Int32))
let x12 := v8 + (1 : Int32)
k_42 v0 v3 v4 x9 x11 x12 q10.2))
def l_X12_chance_55 (k_42 : Nat → Int32 → UInt64 → Int32 → Int32 → Int32 → z_St → Option (Int32 × z_St)) : Nat → Nat → Int32 → UInt64 → Int32 → Int32 → Int32 → Int32 → Int32 → z_St → Option (Int32 × z_St)
  | 0 => fun _ _ _ _ _ _ _ _ _ => none
  | n + 1 => fun (v0 : Nat) (v3 : Int32) (v4 : UInt64) (v6 : Int32) (v7 : Int32) (v8 : Int32) (v9 : Int32) (v10 : Int32) (S : z_St) =>
z_chk S v0 13 (
if ((z_i S v0 92)) ≤ v10 then
(z_chk S v0 13 (
(f_X12_lacks v0 v8 S).bind fun q4 =>
if q4.1 = 0 then
(j_X12_chance_117 k_42 v0 v3 v4 v7 v8 v9 v6 ((1 : Int32)) q4.2)
else
(j_X12_chance_117 k_42 v0 v3 v4 v7 v8 v9 v6 ((0 : Int32)) q4.2)))
else
(if v9 = 0 then
(z_chk S v0 13 (
z_onV (va_rf (z_r S v0 94)) fun b6 =>
z_inb S b6 103 ((((12 : Int32)) * v8) + v10) (
if (Op.cmpValue (FP.dcmp ((z_d S b6 ((((12 : Int32)) * v8) + v10).toNatClampNeg)) v4) .l) ≤ 0 then
(let x7 := v10 + (1 : Int32)
l_X12_chance_55 k_42 n v0 v3 v4 v6 v7 v8 ((0 : Int32)) x7 S)
else
(let x8 := v10 + (1 : Int32)
l_X12_chance_55 k_42 n v0 v3 v4 v6 v7 v8 ((1 : Int32)) x8 S))))
else
(let x5 := v10 + (1 : Int32)
l_X12_chance_55 k_42 n v0 v3 v4 v6 v7 v8 ((1 : Int32)) x5 S)))
def l_X12_chance_42 : Nat → Nat → Int32 → UInt64 → Int32 → Int32 → Int32 → z_St → Option (Int32 × z_St)
  | 0 => fun _ _ _ _ _ _ _ => none
  | n + 1 => fun (v0 : Nat) (v3 : Int32) (v4 : UInt64) (v6 : Int32) (v7 : Int32) (v8 : Int32) (S : z_St) =>
if ((6 : Int32)) ≤ v8 then
(if v3 = 0 then
(some (v7, S))
else
(some (v6, S)))
else
(l_X12_chance_55 (l_X12_chance_42 n) z_N v0 v3 v4 v6 v7 v8 ((0 : Int32)) ((0 : Int32)) S)
def b_X12_chance (v0 : Nat) (v1 : Int64) (v3 : Int32) (S : z_St) : Option (Int32 × z_St) :=
z_chk S v0 13 (
let S1 := z_wi S v0 0 ((0 : Int32))
(f_X12_realOf v1 S1).bind fun q2 =>
(f_X12_in v3.toInt64 ((0 : Int64)) ((1 : Int64)) q2.2).bind fun q3 =>
if q3.1 = 0 then
(some ((-2000000002 : Int32), q3.2))
else
(if (Op.cmpValue (FP.dcmp q2.1 q2.1) .l) = 0 then
(l_X12_chance_42 z_N v0 v3 q2.1 ((0 : Int32)) ((0 : Int32)) ((0 : Int32)) q3.2)
else
(some ((-2000000002 : Int32), q3.2))))
def f_X12_chance : Nat → Int64 → Int32 → z_St → Option (Int32 × z_St) := z_op (b_X12_chance)
theorem e_X12_chance (v0 : Nat) (v1 : Int64) (v3 : Int32) (S : z_St) : f_X12_chance v0 v1 v3 S = b_X12_chance v0 v1 v3 S := congrFun (congrFun (congrFun (congrFun (z_op_eq (b_X12_chance)) v0) v1) v3) S
def g_X12_chance : z_G := .inl (fun as S => match as with
  | [.ref v0, .long v1, .int v3] => f_X12_chance v0 v1 v3 S
  | _ => none)
def c_X12_chance : List z_E := [
  (0, .aload_n 0, 1, .null, [], z_g0),
  (1, .iconst 0, 1, .int ((0 : Int32)), [], z_g0),
  (2, .putfield 224, 3, .null, [13, 0, 0], z_g0),
  (5, .lload_n 1, 1, .null, [], z_g0),
  (6, .invokestatic 262, 3, .null, [0, 0], g_X12_realOf),
  (9, .dstore 4, 2, .null, [], z_g0),
  (11, .iload_n 3, 1, .null, [], z_g0),
  (12, .i2l, 1, .null, [], z_g0),
  (13, .lconst 0, 1, .long (0 : Int64), [], z_g0),
  (14, .lconst 1, 1, .long (1 : Int64), [], z_g0),
  (15, .invokestatic 274, 3, .null, [0, 0, 0, 0], g_X12_in),
  (18, .ifCond .eq 11, 3, .null, [29], z_g0),
  (21, .dload 4, 2, .null, [], z_g0),
  (23, .dload 4, 2, .null, [], z_g0),
  (25, .dcmp .l, 1, .null, [], z_g0),
  (26, .ifCond .eq 7, 3, .null, [33], z_g0),
  (29, .ldc_w 280, 3, .int (-2000000002 : Int32), [], z_g0),
  (32, .ireturn, 1, .null, [], z_g0),
  (33, .iconst 0, 1, .int ((0 : Int32)), [], z_g0),
  (34, .istore 6, 2, .null, [], z_g0),
  (36, .iconst 0, 1, .int ((0 : Int32)), [], z_g0),
  (37, .istore 7, 2, .null, [], z_g0),
  (39, .iconst 0, 1, .int ((0 : Int32)), [], z_g0),
  (40, .istore 8, 2, .null, [], z_g0),
  (42, .iload 8, 2, .null, [], z_g0),
  (44, .bipush 6, 2, .int ((6 : Int32)), [], z_g0),
  (46, .if_icmp .ge 104, 3, .null, [150], z_g0),
  (49, .iconst 0, 1, .int ((0 : Int32)), [], z_g0),
  (50, .istore 9, 2, .null, [], z_g0),
  (52, .iconst 0, 1, .int ((0 : Int32)), [], z_g0),
  (53, .istore 10, 2, .null, [], z_g0),
  (55, .iload 10, 2, .null, [], z_g0),
  (57, .aload_n 0, 1, .null, [], z_g0),
  (58, .getfield 205, 3, .null, [13, 92, 0], z_g0),
  (61, .if_icmp .ge 40, 3, .null, [101], z_g0),
  (64, .iload 9, 2, .null, [], z_g0),
  (66, .ifCond .ne 22, 3, .null, [88], z_g0),
  (69, .aload_n 0, 1, .null, [], z_g0),
  (70, .getfield 212, 3, .null, [13, 94, 3], z_g0),
  (73, .bipush 12, 2, .int ((12 : Int32)), [], z_g0),
  (75, .iload 8, 2, .null, [], z_g0),
  (77, .imul, 1, .null, [], z_g0),
  (78, .iload 10, 2, .null, [], z_g0),
  (80, .iadd, 1, .null, [], z_g0),
  (81, .daload, 1, .null, [], z_g0),
  (82, .dload 4, 2, .null, [], z_g0),
  (84, .dcmp .l, 1, .null, [], z_g0),
  (85, .ifCond .le 7, 3, .null, [92], z_g0),
  (88, .iconst 1, 1, .int ((1 : Int32)), [], z_g0),
  (89, .goto 4, 3, .null, [93], z_g0),
  (92, .iconst 0, 1, .int ((0 : Int32)), [], z_g0),
  (93, .istore 9, 2, .null, [], z_g0),
  (95, .iinc 10 1, 3, .int (1 : Int32), [], z_g0),
  (98, .goto (-43), 3, .null, [55], z_g0),
  (101, .iload 6, 2, .null, [], z_g0),
  (103, .aload_n 0, 1, .null, [], z_g0),
  (104, .iload 8, 2, .null, [], z_g0),
  (106, .invokevirtual 633, 3, .null, [1, 13, 0], g_X12_lacks),
  (109, .ifCond .eq 7, 3, .null, [116], z_g0),
  (112, .iconst 0, 1, .int ((0 : Int32)), [], z_g0),
  (113, .goto 4, 3, .null, [117], z_g0),
  (116, .iconst 1, 1, .int ((1 : Int32)), [], z_g0),
  (117, .iadd, 1, .null, [], z_g0),
  (118, .istore 6, 2, .null, [], z_g0),
  (120, .iload 7, 2, .null, [], z_g0),
  (122, .aload_n 0, 1, .null, [], z_g0),
  (123, .iload 8, 2, .null, [], z_g0),
  (125, .invokevirtual 633, 3, .null, [1, 13, 0], g_X12_lacks),
  (128, .ifCond .ne 12, 3, .null, [140], z_g0),
  (131, .iload 9, 2, .null, [], z_g0),
  (133, .ifCond .eq 7, 3, .null, [140], z_g0),
  (136, .iconst 1, 1, .int ((1 : Int32)), [], z_g0),
  (137, .goto 4, 3, .null, [141], z_g0),
  (140, .iconst 0, 1, .int ((0 : Int32)), [], z_g0),
  (141, .iadd, 1, .null, [], z_g0),
  (142, .istore 7, 2, .null, [], z_g0),
  (144, .iinc 8 1, 3, .int (1 : Int32), [], z_g0),
  (147, .goto (-105), 3, .null, [42], z_g0),
  (150, .iload_n 3, 1, .null, [], z_g0),
  (151, .ifCond .ne 8, 3, .null, [159], z_g0),
  (154, .iload 7, 2, .null, [], z_g0),
  (156, .goto 5, 3, .null, [161], z_g0),
  (159, .iload 6, 2, .null, [], z_g0),
  (161, .ireturn, 1, .null, [], z_g0)]
def a_X12_chance_42 {ρ : Type} (k : Nat → Int32 → UInt64 → Int32 → Int32 → Int32 → z_St → Option ρ) (ls : z_Lv) (st : List Value) (S : z_St) : Option ρ := z_gR ls 0 fun v0 => z_gI ls 3 fun v3 => z_gD ls 4 fun v4 => z_gI ls 6 fun v6 => z_gI ls 7 fun v7 => z_gI ls 8 fun v8 => z_p0 st (k v0 v3 v4 v6 v7 v8 S)
def a_X12_chance_55 {ρ : Type} (k : Nat → Int32 → UInt64 → Int32 → Int32 → Int32 → Int32 → Int32 → z_St → Option ρ) (ls : z_Lv) (st : List Value) (S : z_St) : Option ρ := z_gR ls 0 fun v0 => z_gI ls 3 fun v3 => z_gD ls 4 fun v4 => z_gI ls 6 fun v6 => z_gI ls 7 fun v7 => z_gI ls 8 fun v8 => z_gI ls 9 fun v9 => z_gI ls 10 fun v10 => z_p0 st (k v0 v3 v4 v6 v7 v8 v9 v10 S)
def a_X12_chance_117 {ρ : Type} (k : Nat → Int32 → UInt64 → Int32 → Int32 → Int32 → Int32 → Int32 → z_St → Option ρ) (ls : z_Lv) (st : List Value) (S : z_St) : Option ρ := z_gR ls 0 fun v0 => z_gI ls 3 fun v3 => z_gD ls 4 fun v4 => z_gI ls 7 fun v7 => z_gI ls 8 fun v8 => z_gI ls 9 fun v9 => z_pI st fun t1 s1 => z_pI s1 fun t0 s0 => z_p0 s0 (k v0 v3 v4 v7 v8 v9 t0 t1 S)
set_option maxRecDepth 100000 in
theorem r_X12_chance_117 (k_42 : Nat → Int32 → UInt64 → Int32 → Int32 → Int32 → z_St → Option (Int32 × z_St)) (v0 : Nat) (v3 : Int32) (v4 : UInt64) (v7 : Int32) (v8 : Int32) (v9 : Int32) (t0 : Int32) (t1 : Int32) (S : z_St) : z_seg z_rI (c_X12_chance) [42, 55, 117] (fun pc => cond (Nat.beq pc 42) (a_X12_chance_42 k_42) (fun _ _ _ => none)) 87 (z_to 117 (c_X12_chance)) [(0, .ref v0), (3, .int v3), (4, .double v4), (7, .int v7), (8, .int v8), (9, .int v9)] [.int t1, .int t0] S = j_X12_chance_117 k_42 v0 v3 v4 v7 v8 v9 t0 t1 S := rfl
set_option maxRecDepth 100000 in
theorem r_X12_chance_55 (k_42 : Nat → Int32 → UInt64 → Int32 → Int32 → Int32 → z_St → Option (Int32 × z_St)) (n : Nat) (v0 : Nat) (v3 : Int32) (v4 : UInt64) (v6 : Int32) (v7 : Int32) (v8 : Int32) (v9 : Int32) (v10 : Int32) (S : z_St) : z_seg z_rI (c_X12_chance) [42, 55, 117] (fun pc => cond (Nat.beq pc 55) (a_X12_chance_55 (l_X12_chance_55 k_42 n)) (cond (Nat.beq pc 117) (a_X12_chance_117 (j_X12_chance_117 k_42)) (fun _ _ _ => none))) 87 (z_to 55 (c_X12_chance)) [(0, .ref v0), (3, .int v3), (4, .double v4), (6, .int v6), (7, .int v7), (8, .int v8), (9, .int v9), (10, .int v10)] [] S = l_X12_chance_55 k_42 (n + 1) v0 v3 v4 v6 v7 v8 v9 v10 S := rfl
set_option maxRecDepth 100000 in
theorem r_X12_chance_42 (n : Nat) (v0 : Nat) (v3 : Int32) (v4 : UInt64) (v6 : Int32) (v7 : Int32) (v8 : Int32) (S : z_St) : z_seg z_rI (c_X12_chance) [42, 55, 117] (fun pc => cond (Nat.beq pc 55) (a_X12_chance_55 (l_X12_chance_55 (l_X12_chance_42 n) z_N)) (fun _ _ _ => none)) 87 (z_to 42 (c_X12_chance)) [(0, .ref v0), (3, .int v3), (4, .double v4), (6, .int v6), (7, .int v7), (8, .int v8)] [] S = l_X12_chance_42 (n + 1) v0 v3 v4 v6 v7 v8 S := rfl
set_option maxRecDepth 100000 in
theorem r_X12_chance (v0 : Nat) (v1 : Int64) (v3 : Int32) (S : z_St) : z_seg z_rI (c_X12_chance) [42, 55, 117] (fun pc => cond (Nat.beq pc 42) (a_X12_chance_42 (l_X12_chance_42 z_N)) (fun _ _ _ => none)) 87 (c_X12_chance) [(0, .ref v0), (1, .long v1), (3, .int v3)] [] S = b_X12_chance v0 v1 v3 S := rfl
def l_X12_sumOf_4 : Nat → Nat → Int32 → Int32 → Int32 → z_St → Option (Int32 × z_St)
  | 0 => fun _ _ _ _ _ => none
  | n + 1 => fun (v0 : Nat) (v1 : Int32) (v2 : Int32) (v3 : Int32) (S : z_St) =>
if ((28 : Int32)) ≤ v3 then
(some (v2, S))
else
(z_chk S v0 13 (
z_onV (va_rf (z_r S v0 98)) fun b1 =>
z_inb S b1 101 ((((32 : Int32)) * v1) + v3) (
let x2 := v2 ^^^ ((z_i S b1 ((((32 : Int32)) * v1) + v3).toNatClampNeg))
let x3 := ((x2 <<< (((7 : Int32)) &&& 31)) ||| ((x2.toUInt32 >>> (((25 : Int32)).toUInt32 &&& Int32.toUInt32 31)).toInt32)) * ((-1028477379 : Int32))
let x4 := v3 + (1 : Int32)
l_X12_sumOf_4 n v0 v1 x3 x4 S)))
def b_X12_sumOf (v0 : Nat) (v1 : Int32) (S : z_St) : Option (Int32 × z_St) :=
l_X12_sumOf_4 z_N v0 v1 ((0 : Int32)) ((0 : Int32)) S
def f_X12_sumOf : Nat → Int32 → z_St → Option (Int32 × z_St) := z_op (b_X12_sumOf)
theorem e_X12_sumOf (v0 : Nat) (v1 : Int32) (S : z_St) : f_X12_sumOf v0 v1 S = b_X12_sumOf v0 v1 S := congrFun (congrFun (congrFun (z_op_eq (b_X12_sumOf)) v0) v1) S
def g_X12_sumOf : z_G := .inl (fun as S => match as with
  | [.ref v0, .int v1] => f_X12_sumOf v0 v1 S
  | _ => none)
def c_X12_sumOf : List z_E := [
  (0, .iconst 0, 1, .int ((0 : Int32)), [], z_g0),
  (1, .istore_n 2, 1, .null, [], z_g0),
  (2, .iconst 0, 1, .int ((0 : Int32)), [], z_g0),
  (3, .istore_n 3, 1, .null, [], z_g0),
  (4, .iload_n 3, 1, .null, [], z_g0),
  (5, .bipush 28, 2, .int ((28 : Int32)), [], z_g0),
  (7, .if_icmp .ge 37, 3, .null, [44], z_g0),
  (10, .iload_n 2, 1, .null, [], z_g0),
  (11, .aload_n 0, 1, .null, [], z_g0),
  (12, .getfield 221, 3, .null, [13, 98, 3], z_g0),
  (15, .bipush 32, 2, .int ((32 : Int32)), [], z_g0),
  (17, .iload_n 1, 1, .null, [], z_g0),
  (18, .imul, 1, .null, [], z_g0),
  (19, .iload_n 3, 1, .null, [], z_g0),
  (20, .iadd, 1, .null, [], z_g0),
  (21, .iaload, 1, .null, [101], z_g0),
  (22, .ixor, 1, .null, [], z_g0),
  (23, .istore_n 2, 1, .null, [], z_g0),
  (24, .iload_n 2, 1, .null, [], z_g0),
  (25, .bipush 7, 2, .int ((7 : Int32)), [], z_g0),
  (27, .ishl, 1, .null, [], z_g0),
  (28, .iload_n 2, 1, .null, [], z_g0),
  (29, .bipush 25, 2, .int ((25 : Int32)), [], z_g0),
  (31, .iushr, 1, .null, [], z_g0),
  (32, .ior, 1, .null, [], z_g0),
  (33, .ldc_w 645, 3, .int (-1028477379 : Int32), [], z_g0),
  (36, .imul, 1, .null, [], z_g0),
  (37, .istore_n 2, 1, .null, [], z_g0),
  (38, .iinc 3 1, 3, .int (1 : Int32), [], z_g0),
  (41, .goto (-37), 3, .null, [4], z_g0),
  (44, .iload_n 2, 1, .null, [], z_g0),
  (45, .ireturn, 1, .null, [], z_g0)]
def a_X12_sumOf_4 {ρ : Type} (k : Nat → Int32 → Int32 → Int32 → z_St → Option ρ) (ls : z_Lv) (st : List Value) (S : z_St) : Option ρ := z_gR ls 0 fun v0 => z_gI ls 1 fun v1 => z_gI ls 2 fun v2 => z_gI ls 3 fun v3 => z_p0 st (k v0 v1 v2 v3 S)
set_option maxRecDepth 100000 in
theorem r_X12_sumOf_4 (n : Nat) (v0 : Nat) (v1 : Int32) (v2 : Int32) (v3 : Int32) (S : z_St) : z_seg z_rI (c_X12_sumOf) [4] (fun pc => cond (Nat.beq pc 4) (a_X12_sumOf_4 (l_X12_sumOf_4 n)) (fun _ _ _ => none)) 35 (z_to 4 (c_X12_sumOf)) [(0, .ref v0), (1, .int v1), (2, .int v2), (3, .int v3)] [] S = l_X12_sumOf_4 (n + 1) v0 v1 v2 v3 S := rfl
set_option maxRecDepth 100000 in
theorem r_X12_sumOf (v0 : Nat) (v1 : Int32) (S : z_St) : z_seg z_rI (c_X12_sumOf) [4] (fun pc => cond (Nat.beq pc 4) (a_X12_sumOf_4 (l_X12_sumOf_4 z_N)) (fun _ _ _ => none)) 35 (c_X12_sumOf) [(0, .ref v0), (1, .int v1)] [] S = b_X12_sumOf v0 v1 S := rfl
def l_X12_book_204 : Nat → Nat → Int32 → Int32 → Int32 → z_St → Option (Int32 × z_St)
  | 0 => fun _ _ _ _ _ => none
  | n + 1 => fun (v0 : Nat) (v2 : Int32) (v3 : Int32) (v4 : Int32) (S : z_St) =>
if ((4 : Int32)) ≤ v4 then
(z_chk S v0 13 (
some ((z_i S v0 99), S)))
else
(z_chk S v0 13 (
z_onV (va_rf (z_r S v0 98)) fun b14 =>
z_inb S b14 101 (((((32 : Int32)) * v2) + ((28 : Int32))) + v4) (
let S15 := z_wi S b14 (((((32 : Int32)) * v2) + ((28 : Int32))) + v4).toNatClampNeg ((v3 >>> ((((24 : Int32)) - (((8 : Int32)) * v4)) &&& 31)) &&& ((255 : Int32)))
let x16 := v4 + (1 : Int32)
l_X12_book_204 n v0 v2 v3 x16 S15)))
def j_X12_book_174 (k_81 : Nat → Int32 → Int32 → Int32 → z_St → Option (Int32 × z_St)) (v0 : Nat) (v1 : Int32) (v2 : Int32) (v3 : Int32) (t0 : Int32) (S : z_St) : Option (Int32 × z_St) :=
z_chk S v0 13 (
z_onV (va_rf (z_r S v0 98)) fun b17 =>
z_inb S b17 101 ((((32 : Int32)) * v2) + v3) (
let S18 := z_wi S b17 ((((32 : Int32)) * v2) + v3).toNatClampNeg t0
let x19 := v3 + (1 : Int32)
k_81 v0 v1 v2 x19 S18))
def l_X12_book_81 : Nat → Nat → Int32 → Int32 → Int32 → z_St → Option (Int32 × z_St)
  | 0 => fun _ _ _ _ _ => none
  | n + 1 => fun (v0 : Nat) (v1 : Int32) (v2 : Int32) (v3 : Int32) (S : z_St) =>
if ((32 : Int32)) ≤ v3 then
(z_chk S v0 13 (
(f_X12_sumOf v0 v2 S).bind fun q8 =>
l_X12_book_204 z_N v0 v2 q8.1 ((0 : Int32)) q8.2))
else
(if v3 = 0 then
(z_chk S v0 13 (
j_X12_book_174 (l_X12_book_81 n) v0 v1 v2 v3 (((z_i S v0 99)) >>> (((8 : Int32)) &&& 31)) S))
else
(if v3 = ((1 : Int32)) then
(z_chk S v0 13 (
j_X12_book_174 (l_X12_book_81 n) v0 v1 v2 v3 (((z_i S v0 99)) &&& ((255 : Int32))) S))
else
(if v3 = ((2 : Int32)) then
(z_chk S v0 13 (
z_onV (va_rf (z_r S v0 5)) fun b13 =>
z_inb S b13 101 v1 (
j_X12_book_174 (l_X12_book_81 n) v0 v1 v2 v3 ((z_i S b13 v1.toNatClampNeg)) S)))
else
(z_chk S v0 13 (
z_onV (va_rf (z_r S v0 5)) fun b9 =>
z_inb S b9 101 v1 (
if (((3 : Int32)) + ((z_i S b9 v1.toNatClampNeg))) ≤ v3 then
(j_X12_book_174 (l_X12_book_81 n) v0 v1 v2 v3 ((0 : Int32)) S)
else
(z_chk S v0 13 (
z_onV (va_rf (z_r S v0 4)) fun b10 =>
z_inb S b10 101 v1 (
z_chk S v0 13 (
z_onV (va_rf (z_r S v0 6)) fun b11 =>
z_inb S b11 102 (((((64 : Int32)) * v1) + v3) - ((3 : Int32))) (
(f_X12_wholeOf ((z_i S b10 v1.toNatClampNeg)) ((z_l S b11 (((((64 : Int32)) * v1) + v3) - ((3 : Int32))).toNatClampNeg)) S).bind fun q12 =>
j_X12_book_174 (l_X12_book_81 n) v0 v1 v2 v3 ((q12.1 &&& ((255 : Int64))).toInt32) q12.2)))))))))))
def b_X12_book (v0 : Nat) (v1 : Int32) (S : z_St) : Option (Int32 × z_St) :=
z_chk S v0 13 (
let S1 := z_wi S v0 0 ((0 : Int32))
z_chk S1 v0 13 (
(f_X12_noRow v0 v1 S1).bind fun q2 =>
if q2.1 = 0 then
(if v1 = ((-1 : Int32)) then
(z_chk q2.2 v0 13 (
(f_X12_fails v0 ((1 : Int32)) q2.2).bind fun q7 =>
some (q7.1, q7.2)))
else
(z_chk q2.2 v0 13 (
z_onV (va_rf (z_r q2.2 v0 5)) fun b3 =>
z_inb q2.2 b3 101 v1 (
if ((z_i q2.2 b3 v1.toNatClampNeg)) ≤ ((24 : Int32)) then
(z_chk q2.2 v0 13 (
if ((z_i q2.2 v0 99)) = ((60000 : Int32)) then
(some ((-2000000004 : Int32), q2.2))
else
(z_chk q2.2 v0 13 (
(f_X12_well v0 q2.2).bind fun q4 =>
z_chk q4 v0 13 (
z_nz ((32 : Int32)) (
let x5 := ((z_i q4 v0 99)) - ((z_i q4 v0 99)) / ((32 : Int32)) * ((32 : Int32))
z_chk q4 v0 13 (
z_chk q4 v0 13 (
let S6 := z_wi q4 v0 99 (((z_i q4 v0 99)) + ((1 : Int32)))
l_X12_book_81 z_N v0 v1 x5 ((0 : Int32)) S6))))))))
else
(some ((-2000000002 : Int32), q2.2))))))
else
(some ((-2000000001 : Int32), q2.2))))
def f_X12_book : Nat → Int32 → z_St → Option (Int32 × z_St) := z_op (b_X12_book)
theorem e_X12_book (v0 : Nat) (v1 : Int32) (S : z_St) : f_X12_book v0 v1 S = b_X12_book v0 v1 S := congrFun (congrFun (congrFun (z_op_eq (b_X12_book)) v0) v1) S
def g_X12_book : z_G := .inl (fun as S => match as with
  | [.ref v0, .int v1] => f_X12_book v0 v1 S
  | _ => none)
def c_X12_book : List z_E := [
  (0, .aload_n 0, 1, .null, [], z_g0),
  (1, .iconst 0, 1, .int ((0 : Int32)), [], z_g0),
  (2, .putfield 224, 3, .null, [13, 0, 0], z_g0),
  (5, .aload_n 0, 1, .null, [], z_g0),
  (6, .iload_n 1, 1, .null, [], z_g0),
  (7, .invokevirtual 293, 3, .null, [1, 13, 0], g_X12_noRow),
  (10, .ifCond .eq 7, 3, .null, [17], z_g0),
  (13, .ldc_w 296, 3, .int (-2000000001 : Int32), [], z_g0),
  (16, .ireturn, 1, .null, [], z_g0),
  (17, .iload_n 1, 1, .null, [], z_g0),
  (18, .iconst (-1), 1, .int ((-1 : Int32)), [], z_g0),
  (19, .if_icmp .ne 9, 3, .null, [28], z_g0),
  (22, .aload_n 0, 1, .null, [], z_g0),
  (23, .iconst 1, 1, .int ((1 : Int32)), [], z_g0),
  (24, .invokevirtual 282, 3, .null, [1, 13, 0], g_X12_fails),
  (27, .ireturn, 1, .null, [], z_g0),
  (28, .aload_n 0, 1, .null, [], z_g0),
  (29, .getfield 13, 3, .null, [13, 5, 3], z_g0),
  (32, .iload_n 1, 1, .null, [], z_g0),
  (33, .iaload, 1, .null, [101], z_g0),
  (34, .bipush 24, 2, .int ((24 : Int32)), [], z_g0),
  (36, .if_icmp .le 7, 3, .null, [43], z_g0),
  (39, .ldc_w 280, 3, .int (-2000000002 : Int32), [], z_g0),
  (42, .ireturn, 1, .null, [], z_g0),
  (43, .aload_n 0, 1, .null, [], z_g0),
  (44, .getfield 611, 3, .null, [13, 99, 0], z_g0),
  (47, .ldc_w 646, 3, .int (60000 : Int32), [], z_g0),
  (50, .if_icmp .ne 7, 3, .null, [57], z_g0),
  (53, .ldc_w 281, 3, .int (-2000000004 : Int32), [], z_g0),
  (56, .ireturn, 1, .null, [], z_g0),
  (57, .aload_n 0, 1, .null, [], z_g0),
  (58, .invokevirtual 286, 3, .null, [1, 13], g_X12_well),
  (61, .aload_n 0, 1, .null, [], z_g0),
  (62, .getfield 611, 3, .null, [13, 99, 0], z_g0),
  (65, .bipush 32, 2, .int ((32 : Int32)), [], z_g0),
  (67, .irem, 1, .null, [], z_g0),
  (68, .istore_n 2, 1, .null, [], z_g0),
  (69, .aload_n 0, 1, .null, [], z_g0),
  (70, .dup, 1, .null, [], z_g0),
  (71, .getfield 611, 3, .null, [13, 99, 0], z_g0),
  (74, .iconst 1, 1, .int ((1 : Int32)), [], z_g0),
  (75, .iadd, 1, .null, [], z_g0),
  (76, .putfield 611, 3, .null, [13, 99, 0], z_g0),
  (79, .iconst 0, 1, .int ((0 : Int32)), [], z_g0),
  (80, .istore_n 3, 1, .null, [], z_g0),
  (81, .iload_n 3, 1, .null, [], z_g0),
  (82, .bipush 32, 2, .int ((32 : Int32)), [], z_g0),
  (84, .if_icmp .ge 111, 3, .null, [195], z_g0),
  (87, .iload_n 3, 1, .null, [], z_g0),
  (88, .ifCond .ne 13, 3, .null, [101], z_g0),
  (91, .aload_n 0, 1, .null, [], z_g0),
  (92, .getfield 611, 3, .null, [13, 99, 0], z_g0),
  (95, .bipush 8, 2, .int ((8 : Int32)), [], z_g0),
  (97, .ishr, 1, .null, [], z_g0),
  (98, .goto 76, 3, .null, [174], z_g0),
  (101, .iload_n 3, 1, .null, [], z_g0),
  (102, .iconst 1, 1, .int ((1 : Int32)), [], z_g0),
  (103, .if_icmp .ne 14, 3, .null, [117], z_g0),
  (106, .aload_n 0, 1, .null, [], z_g0),
  (107, .getfield 611, 3, .null, [13, 99, 0], z_g0),
  (110, .sipush 255, 3, .int ((255 : Int32)), [], z_g0),
  (113, .iand, 1, .null, [], z_g0),
  (114, .goto 60, 3, .null, [174], z_g0),
  (117, .iload_n 3, 1, .null, [], z_g0),
  (118, .iconst 2, 1, .int ((2 : Int32)), [], z_g0),
  (119, .if_icmp .ne 12, 3, .null, [131], z_g0),
  (122, .aload_n 0, 1, .null, [], z_g0),
  (123, .getfield 13, 3, .null, [13, 5, 3], z_g0),
  (126, .iload_n 1, 1, .null, [], z_g0),
  (127, .iaload, 1, .null, [101], z_g0),
  (128, .goto 46, 3, .null, [174], z_g0),
  (131, .iload_n 3, 1, .null, [], z_g0),
  (132, .iconst 3, 1, .int ((3 : Int32)), [], z_g0),
  (133, .aload_n 0, 1, .null, [], z_g0),
  (134, .getfield 13, 3, .null, [13, 5, 3], z_g0),
  (137, .iload_n 1, 1, .null, [], z_g0),
  (138, .iaload, 1, .null, [101], z_g0),
  (139, .iadd, 1, .null, [], z_g0),
  (140, .if_icmp .ge 33, 3, .null, [173], z_g0),
  (143, .aload_n 0, 1, .null, [], z_g0),
  (144, .getfield 7, 3, .null, [13, 4, 3], z_g0),
  (147, .iload_n 1, 1, .null, [], z_g0),
  (148, .iaload, 1, .null, [101], z_g0),
  (149, .aload_n 0, 1, .null, [], z_g0),
  (150, .getfield 16, 3, .null, [13, 6, 3], z_g0),
  (153, .bipush 64, 2, .int ((64 : Int32)), [], z_g0),
  (155, .iload_n 1, 1, .null, [], z_g0),
  (156, .imul, 1, .null, [], z_g0),
  (157, .iload_n 3, 1, .null, [], z_g0),
  (158, .iadd, 1, .null, [], z_g0),
  (159, .iconst 3, 1, .int ((3 : Int32)), [], z_g0),
  (160, .isub, 1, .null, [], z_g0),
  (161, .laload, 1, .null, [], z_g0),
  (162, .invokestatic 305, 3, .null, [0, 0, 0], g_X12_wholeOf),
  (165, .ldc2_w 647, 3, .long (255 : Int64), [], z_g0),
  (168, .land, 1, .null, [], z_g0),
  (169, .l2i, 1, .null, [], z_g0),
  (170, .goto 4, 3, .null, [174], z_g0),
  (173, .iconst 0, 1, .int ((0 : Int32)), [], z_g0),
  (174, .istore 4, 2, .null, [], z_g0),
  (176, .aload_n 0, 1, .null, [], z_g0),
  (177, .getfield 221, 3, .null, [13, 98, 3], z_g0),
  (180, .bipush 32, 2, .int ((32 : Int32)), [], z_g0),
  (182, .iload_n 2, 1, .null, [], z_g0),
  (183, .imul, 1, .null, [], z_g0),
  (184, .iload_n 3, 1, .null, [], z_g0),
  (185, .iadd, 1, .null, [], z_g0),
  (186, .iload 4, 2, .null, [], z_g0),
  (188, .iastore, 1, .null, [], z_g0),
  (189, .iinc 3 1, 3, .int (1 : Int32), [], z_g0),
  (192, .goto (-111), 3, .null, [81], z_g0),
  (195, .aload_n 0, 1, .null, [], z_g0),
  (196, .iload_n 2, 1, .null, [], z_g0),
  (197, .invokevirtual 649, 3, .null, [1, 13, 0], g_X12_sumOf),
  (200, .istore_n 3, 1, .null, [], z_g0),
  (201, .iconst 0, 1, .int ((0 : Int32)), [], z_g0),
  (202, .istore 4, 2, .null, [], z_g0),
  (204, .iload 4, 2, .null, [], z_g0),
  (206, .iconst 4, 1, .int ((4 : Int32)), [], z_g0),
  (207, .if_icmp .ge 38, 3, .null, [245], z_g0),
  (210, .aload_n 0, 1, .null, [], z_g0),
  (211, .getfield 221, 3, .null, [13, 98, 3], z_g0),
  (214, .bipush 32, 2, .int ((32 : Int32)), [], z_g0),
  (216, .iload_n 2, 1, .null, [], z_g0),
  (217, .imul, 1, .null, [], z_g0),
  (218, .bipush 28, 2, .int ((28 : Int32)), [], z_g0),
  (220, .iadd, 1, .null, [], z_g0),
  (221, .iload 4, 2, .null, [], z_g0),
  (223, .iadd, 1, .null, [], z_g0),
  (224, .iload_n 3, 1, .null, [], z_g0),
  (225, .bipush 24, 2, .int ((24 : Int32)), [], z_g0),
  (227, .bipush 8, 2, .int ((8 : Int32)), [], z_g0),
  (229, .iload 4, 2, .null, [], z_g0),
  (231, .imul, 1, .null, [], z_g0),
  (232, .isub, 1, .null, [], z_g0),
  (233, .ishr, 1, .null, [], z_g0),
  (234, .sipush 255, 3, .int ((255 : Int32)), [], z_g0),
  (237, .iand, 1, .null, [], z_g0),
  (238, .iastore, 1, .null, [], z_g0),
  (239, .iinc 4 1, 3, .int (1 : Int32), [], z_g0),
  (242, .goto (-38), 3, .null, [204], z_g0),
  (245, .aload_n 0, 1, .null, [], z_g0),
  (246, .getfield 611, 3, .null, [13, 99, 0], z_g0),
  (249, .ireturn, 1, .null, [], z_g0)]
def a_X12_book_81 {ρ : Type} (k : Nat → Int32 → Int32 → Int32 → z_St → Option ρ) (ls : z_Lv) (st : List Value) (S : z_St) : Option ρ := z_gR ls 0 fun v0 => z_gI ls 1 fun v1 => z_gI ls 2 fun v2 => z_gI ls 3 fun v3 => z_p0 st (k v0 v1 v2 v3 S)
def a_X12_book_174 {ρ : Type} (k : Nat → Int32 → Int32 → Int32 → Int32 → z_St → Option ρ) (ls : z_Lv) (st : List Value) (S : z_St) : Option ρ := z_gR ls 0 fun v0 => z_gI ls 1 fun v1 => z_gI ls 2 fun v2 => z_gI ls 3 fun v3 => z_pI st fun t0 s0 => z_p0 s0 (k v0 v1 v2 v3 t0 S)
def a_X12_book_204 {ρ : Type} (k : Nat → Int32 → Int32 → Int32 → z_St → Option ρ) (ls : z_Lv) (st : List Value) (S : z_St) : Option ρ := z_gR ls 0 fun v0 => z_gI ls 2 fun v2 => z_gI ls 3 fun v3 => z_gI ls 4 fun v4 => z_p0 st (k v0 v2 v3 v4 S)
set_option maxRecDepth 100000 in
theorem r_X12_book_204 (n : Nat) (v0 : Nat) (v2 : Int32) (v3 : Int32) (v4 : Int32) (S : z_St) : z_seg z_rI (c_X12_book) [81, 174, 204] (fun pc => cond (Nat.beq pc 204) (a_X12_book_204 (l_X12_book_204 n)) (fun _ _ _ => none)) 147 (z_to 204 (c_X12_book)) [(0, .ref v0), (2, .int v2), (3, .int v3), (4, .int v4)] [] S = l_X12_book_204 (n + 1) v0 v2 v3 v4 S := rfl
set_option maxRecDepth 100000 in
theorem r_X12_book_174 (k_81 : Nat → Int32 → Int32 → Int32 → z_St → Option (Int32 × z_St)) (v0 : Nat) (v1 : Int32) (v2 : Int32) (v3 : Int32) (t0 : Int32) (S : z_St) : z_seg z_rI (c_X12_book) [81, 174, 204] (fun pc => cond (Nat.beq pc 81) (a_X12_book_81 k_81) (fun _ _ _ => none)) 147 (z_to 174 (c_X12_book)) [(0, .ref v0), (1, .int v1), (2, .int v2), (3, .int v3)] [.int t0] S = j_X12_book_174 k_81 v0 v1 v2 v3 t0 S := rfl
set_option maxRecDepth 100000 in
theorem r_X12_book_81 (n : Nat) (v0 : Nat) (v1 : Int32) (v2 : Int32) (v3 : Int32) (S : z_St) : z_seg z_rI (c_X12_book) [81, 174, 204] (fun pc => cond (Nat.beq pc 174) (a_X12_book_174 (j_X12_book_174 (l_X12_book_81 n))) (cond (Nat.beq pc 204) (a_X12_book_204 (l_X12_book_204 z_N)) (fun _ _ _ => none))) 147 (z_to 81 (c_X12_book)) [(0, .ref v0), (1, .int v1), (2, .int v2), (3, .int v3)] [] S = l_X12_book_81 (n + 1) v0 v1 v2 v3 S := rfl
set_option maxRecDepth 100000 in
theorem r_X12_book (v0 : Nat) (v1 : Int32) (S : z_St) : z_seg z_rI (c_X12_book) [81, 174, 204] (fun pc => cond (Nat.beq pc 81) (a_X12_book_81 (l_X12_book_81 z_N)) (fun _ _ _ => none)) 147 (c_X12_book) [(0, .ref v0), (1, .int v1)] [] S = b_X12_book v0 v1 S := rfl
def b_X12_pageByte (v0 : Nat) (v1 : Int32) (v2 : Int32) (S : z_St) : Option (Int32 × z_St) :=
z_chk S v0 13 (
let S1 := z_wi S v0 0 ((0 : Int32))
(f_X12_in v1.toInt64 ((0 : Int64)) ((31 : Int64)) S1).bind fun q2 =>
if q2.1 = 0 then
(z_chk q2.2 v0 13 (
(f_X12_fails v0 ((2 : Int32)) q2.2).bind fun q3 =>
some (q3.1, q3.2)))
else
((f_X12_in v2.toInt64 ((0 : Int64)) ((31 : Int64)) q2.2).bind fun q4 =>
if q4.1 = 0 then
(z_chk q4.2 v0 13 (
(f_X12_fails v0 ((2 : Int32)) q4.2).bind fun q7 =>
some (q7.1, q7.2)))
else
(z_chk q4.2 v0 13 (
(f_X12_well v0 q4.2).bind fun q5 =>
z_chk q5 v0 13 (
z_onV (va_rf (z_r q5 v0 98)) fun b6 =>
z_inb q5 b6 101 ((((32 : Int32)) * v1) + v2) (
some ((z_i q5 b6 ((((32 : Int32)) * v1) + v2).toNatClampNeg), q5)))))))
def f_X12_pageByte : Nat → Int32 → Int32 → z_St → Option (Int32 × z_St) := z_op (b_X12_pageByte)
theorem e_X12_pageByte (v0 : Nat) (v1 : Int32) (v2 : Int32) (S : z_St) : f_X12_pageByte v0 v1 v2 S = b_X12_pageByte v0 v1 v2 S := congrFun (congrFun (congrFun (congrFun (z_op_eq (b_X12_pageByte)) v0) v1) v2) S
def g_X12_pageByte : z_G := .inl (fun as S => match as with
  | [.ref v0, .int v1, .int v2] => f_X12_pageByte v0 v1 v2 S
  | _ => none)
def c_X12_pageByte : List z_E := [
  (0, .aload_n 0, 1, .null, [], z_g0),
  (1, .iconst 0, 1, .int ((0 : Int32)), [], z_g0),
  (2, .putfield 224, 3, .null, [13, 0, 0], z_g0),
  (5, .iload_n 1, 1, .null, [], z_g0),
  (6, .i2l, 1, .null, [], z_g0),
  (7, .lconst 0, 1, .long (0 : Int64), [], z_g0),
  (8, .ldc2_w 652, 3, .long (31 : Int64), [], z_g0),
  (11, .invokestatic 274, 3, .null, [0, 0, 0, 0], g_X12_in),
  (14, .ifCond .eq 15, 3, .null, [29], z_g0),
  (17, .iload_n 2, 1, .null, [], z_g0),
  (18, .i2l, 1, .null, [], z_g0),
  (19, .lconst 0, 1, .long (0 : Int64), [], z_g0),
  (20, .ldc2_w 652, 3, .long (31 : Int64), [], z_g0),
  (23, .invokestatic 274, 3, .null, [0, 0, 0, 0], g_X12_in),
  (26, .ifCond .ne 9, 3, .null, [35], z_g0),
  (29, .aload_n 0, 1, .null, [], z_g0),
  (30, .iconst 2, 1, .int ((2 : Int32)), [], z_g0),
  (31, .invokevirtual 282, 3, .null, [1, 13, 0], g_X12_fails),
  (34, .ireturn, 1, .null, [], z_g0),
  (35, .aload_n 0, 1, .null, [], z_g0),
  (36, .invokevirtual 286, 3, .null, [1, 13], g_X12_well),
  (39, .aload_n 0, 1, .null, [], z_g0),
  (40, .getfield 221, 3, .null, [13, 98, 3], z_g0),
  (43, .bipush 32, 2, .int ((32 : Int32)), [], z_g0),
  (45, .iload_n 1, 1, .null, [], z_g0),
  (46, .imul, 1, .null, [], z_g0),
  (47, .iload_n 2, 1, .null, [], z_g0),
  (48, .iadd, 1, .null, [], z_g0),
  (49, .iaload, 1, .null, [101], z_g0),
  (50, .ireturn, 1, .null, [], z_g0)]
set_option maxRecDepth 100000 in
theorem r_X12_pageByte (v0 : Nat) (v1 : Int32) (v2 : Int32) (S : z_St) : z_seg z_rI (c_X12_pageByte) [] (fun pc => fun _ _ _ => none) 33 (c_X12_pageByte) [(0, .ref v0), (1, .int v1), (2, .int v2)] [] S = b_X12_pageByte v0 v1 v2 S := rfl
def b_X12_damage (v0 : Nat) (v1 : Int32) (v2 : Int32) (v3 : Int32) (S : z_St) : Option (Int32 × z_St) :=
z_chk S v0 13 (
let S1 := z_wi S v0 0 ((0 : Int32))
(f_X12_in v3.toInt64 ((1 : Int64)) ((255 : Int64)) S1).bind fun q2 =>
if q2.1 = 0 then
(some ((-2000000002 : Int32), q2.2))
else
((f_X12_in v1.toInt64 ((0 : Int64)) ((31 : Int64)) q2.2).bind fun q3 =>
if q3.1 = 0 then
(z_chk q3.2 v0 13 (
(f_X12_fails v0 ((2 : Int32)) q3.2).bind fun q4 =>
some (q4.1, q4.2)))
else
((f_X12_in v2.toInt64 ((0 : Int64)) ((31 : Int64)) q3.2).bind fun q5 =>
if q5.1 = 0 then
(z_chk q5.2 v0 13 (
(f_X12_fails v0 ((2 : Int32)) q5.2).bind fun q9 =>
some (q9.1, q9.2)))
else
(z_chk q5.2 v0 13 (
(f_X12_well v0 q5.2).bind fun q6 =>
z_chk q6 v0 13 (
z_onV (va_rf (z_r q6 v0 98)) fun b7 =>
z_inb q6 b7 101 ((((32 : Int32)) * v1) + v2) (
z_inb q6 b7 101 ((((32 : Int32)) * v1) + v2) (
let S8 := z_wi q6 b7 ((((32 : Int32)) * v1) + v2).toNatClampNeg (((z_i q6 b7 ((((32 : Int32)) * v1) + v2).toNatClampNeg)) ^^^ v3)
some ((1 : Int32), S8)))))))))
def f_X12_damage : Nat → Int32 → Int32 → Int32 → z_St → Option (Int32 × z_St) := z_op (b_X12_damage)
theorem e_X12_damage (v0 : Nat) (v1 : Int32) (v2 : Int32) (v3 : Int32) (S : z_St) : f_X12_damage v0 v1 v2 v3 S = b_X12_damage v0 v1 v2 v3 S := congrFun (congrFun (congrFun (congrFun (congrFun (z_op_eq (b_X12_damage)) v0) v1) v2) v3) S
def g_X12_damage : z_G := .inl (fun as S => match as with
  | [.ref v0, .int v1, .int v2, .int v3] => f_X12_damage v0 v1 v2 v3 S
  | _ => none)
def c_X12_damage : List z_E := [
  (0, .aload_n 0, 1, .null, [], z_g0),
  (1, .iconst 0, 1, .int ((0 : Int32)), [], z_g0),
  (2, .putfield 224, 3, .null, [13, 0, 0], z_g0),
  (5, .iload_n 3, 1, .null, [], z_g0),
  (6, .i2l, 1, .null, [], z_g0),
  (7, .lconst 1, 1, .long (1 : Int64), [], z_g0),
  (8, .ldc2_w 647, 3, .long (255 : Int64), [], z_g0),
  (11, .invokestatic 274, 3, .null, [0, 0, 0, 0], g_X12_in),
  (14, .ifCond .ne 7, 3, .null, [21], z_g0),
  (17, .ldc_w 280, 3, .int (-2000000002 : Int32), [], z_g0),
  (20, .ireturn, 1, .null, [], z_g0),
  (21, .iload_n 1, 1, .null, [], z_g0),
  (22, .i2l, 1, .null, [], z_g0),
  (23, .lconst 0, 1, .long (0 : Int64), [], z_g0),
  (24, .ldc2_w 652, 3, .long (31 : Int64), [], z_g0),
  (27, .invokestatic 274, 3, .null, [0, 0, 0, 0], g_X12_in),
  (30, .ifCond .eq 15, 3, .null, [45], z_g0),
  (33, .iload_n 2, 1, .null, [], z_g0),
  (34, .i2l, 1, .null, [], z_g0),
  (35, .lconst 0, 1, .long (0 : Int64), [], z_g0),
  (36, .ldc2_w 652, 3, .long (31 : Int64), [], z_g0),
  (39, .invokestatic 274, 3, .null, [0, 0, 0, 0], g_X12_in),
  (42, .ifCond .ne 9, 3, .null, [51], z_g0),
  (45, .aload_n 0, 1, .null, [], z_g0),
  (46, .iconst 2, 1, .int ((2 : Int32)), [], z_g0),
  (47, .invokevirtual 282, 3, .null, [1, 13, 0], g_X12_fails),
  (50, .ireturn, 1, .null, [], z_g0),
  (51, .aload_n 0, 1, .null, [], z_g0),
  (52, .invokevirtual 286, 3, .null, [1, 13], g_X12_well),
  (55, .aload_n 0, 1, .null, [], z_g0),
  (56, .getfield 221, 3, .null, [13, 98, 3], z_g0),
  (59, .bipush 32, 2, .int ((32 : Int32)), [], z_g0),
  (61, .iload_n 1, 1, .null, [], z_g0),
  (62, .imul, 1, .null, [], z_g0),
  (63, .iload_n 2, 1, .null, [], z_g0),
  (64, .iadd, 1, .null, [], z_g0),
  (65, .dup2, 1, .null, [1], z_g0),
  (66, .iaload, 1, .null, [101], z_g0),
  (67, .iload_n 3, 1, .null, [], z_g0),
  (68, .ixor, 1, .null, [], z_g0),
  (69, .iastore, 1, .null, [], z_g0),
  (70, .iconst 1, 1, .int ((1 : Int32)), [], z_g0),
  (71, .ireturn, 1, .null, [], z_g0)]
set_option maxRecDepth 100000 in
theorem r_X12_damage (v0 : Nat) (v1 : Int32) (v2 : Int32) (v3 : Int32) (S : z_St) : z_seg z_rI (c_X12_damage) [] (fun pc => fun _ _ _ => none) 46 (c_X12_damage) [(0, .ref v0), (1, .int v1), (2, .int v2), (3, .int v3)] [] S = b_X12_damage v0 v1 v2 v3 S := rfl
def l_X12_tear_39 : Nat → Nat → Int32 → Int32 → z_St → Option (Int32 × z_St)
  | 0 => fun _ _ _ _ => none
  | n + 1 => fun (v0 : Nat) (v1 : Int32) (v3 : Int32) (S : z_St) =>
if ((32 : Int32)) ≤ v3 then
(some ((1 : Int32), S))
else
(z_chk S v0 13 (
z_onV (va_rf (z_r S v0 98)) fun b4 =>
z_inb S b4 101 ((((32 : Int32)) * v1) + v3) (
let S5 := z_wi S b4 ((((32 : Int32)) * v1) + v3).toNatClampNeg ((0 : Int32))
let x6 := v3 + (1 : Int32)
l_X12_tear_39 n v0 v1 x6 S5)))
def b_X12_tear (v0 : Nat) (v1 : Int32) (v2 : Int32) (S : z_St) : Option (Int32 × z_St) :=
z_chk S v0 13 (
let S1 := z_wi S v0 0 ((0 : Int32))
(f_X12_in v1.toInt64 ((0 : Int64)) ((31 : Int64)) S1).bind fun q2 =>
if q2.1 = 0 then
(some ((-2000000001 : Int32), q2.2))
else
((f_X12_in v2.toInt64 ((0 : Int64)) ((32 : Int64)) q2.2).bind fun q3 =>
if q3.1 = 0 then
(some ((-2000000002 : Int32), q3.2))
else
(l_X12_tear_39 z_N v0 v1 v2 q3.2)))
def f_X12_tear : Nat → Int32 → Int32 → z_St → Option (Int32 × z_St) := z_op (b_X12_tear)
theorem e_X12_tear (v0 : Nat) (v1 : Int32) (v2 : Int32) (S : z_St) : f_X12_tear v0 v1 v2 S = b_X12_tear v0 v1 v2 S := congrFun (congrFun (congrFun (congrFun (z_op_eq (b_X12_tear)) v0) v1) v2) S
def g_X12_tear : z_G := .inl (fun as S => match as with
  | [.ref v0, .int v1, .int v2] => f_X12_tear v0 v1 v2 S
  | _ => none)
def c_X12_tear : List z_E := [
  (0, .aload_n 0, 1, .null, [], z_g0),
  (1, .iconst 0, 1, .int ((0 : Int32)), [], z_g0),
  (2, .putfield 224, 3, .null, [13, 0, 0], z_g0),
  (5, .iload_n 1, 1, .null, [], z_g0),
  (6, .i2l, 1, .null, [], z_g0),
  (7, .lconst 0, 1, .long (0 : Int64), [], z_g0),
  (8, .ldc2_w 652, 3, .long (31 : Int64), [], z_g0),
  (11, .invokestatic 274, 3, .null, [0, 0, 0, 0], g_X12_in),
  (14, .ifCond .ne 7, 3, .null, [21], z_g0),
  (17, .ldc_w 296, 3, .int (-2000000001 : Int32), [], z_g0),
  (20, .ireturn, 1, .null, [], z_g0),
  (21, .iload_n 2, 1, .null, [], z_g0),
  (22, .i2l, 1, .null, [], z_g0),
  (23, .lconst 0, 1, .long (0 : Int64), [], z_g0),
  (24, .ldc2_w 654, 3, .long (32 : Int64), [], z_g0),
  (27, .invokestatic 274, 3, .null, [0, 0, 0, 0], g_X12_in),
  (30, .ifCond .ne 7, 3, .null, [37], z_g0),
  (33, .ldc_w 280, 3, .int (-2000000002 : Int32), [], z_g0),
  (36, .ireturn, 1, .null, [], z_g0),
  (37, .iload_n 2, 1, .null, [], z_g0),
  (38, .istore_n 3, 1, .null, [], z_g0),
  (39, .iload_n 3, 1, .null, [], z_g0),
  (40, .bipush 32, 2, .int ((32 : Int32)), [], z_g0),
  (42, .if_icmp .ge 21, 3, .null, [63], z_g0),
  (45, .aload_n 0, 1, .null, [], z_g0),
  (46, .getfield 221, 3, .null, [13, 98, 3], z_g0),
  (49, .bipush 32, 2, .int ((32 : Int32)), [], z_g0),
  (51, .iload_n 1, 1, .null, [], z_g0),
  (52, .imul, 1, .null, [], z_g0),
  (53, .iload_n 3, 1, .null, [], z_g0),
  (54, .iadd, 1, .null, [], z_g0),
  (55, .iconst 0, 1, .int ((0 : Int32)), [], z_g0),
  (56, .iastore, 1, .null, [], z_g0),
  (57, .iinc 3 1, 3, .int (1 : Int32), [], z_g0),
  (60, .goto (-21), 3, .null, [39], z_g0),
  (63, .iconst 1, 1, .int ((1 : Int32)), [], z_g0),
  (64, .ireturn, 1, .null, [], z_g0)]
def a_X12_tear_39 {ρ : Type} (k : Nat → Int32 → Int32 → z_St → Option ρ) (ls : z_Lv) (st : List Value) (S : z_St) : Option ρ := z_gR ls 0 fun v0 => z_gI ls 1 fun v1 => z_gI ls 3 fun v3 => z_p0 st (k v0 v1 v3 S)
set_option maxRecDepth 100000 in
theorem r_X12_tear_39 (n : Nat) (v0 : Nat) (v1 : Int32) (v3 : Int32) (S : z_St) : z_seg z_rI (c_X12_tear) [39] (fun pc => cond (Nat.beq pc 39) (a_X12_tear_39 (l_X12_tear_39 n)) (fun _ _ _ => none)) 40 (z_to 39 (c_X12_tear)) [(0, .ref v0), (1, .int v1), (3, .int v3)] [] S = l_X12_tear_39 (n + 1) v0 v1 v3 S := rfl
set_option maxRecDepth 100000 in
theorem r_X12_tear (v0 : Nat) (v1 : Int32) (v2 : Int32) (S : z_St) : z_seg z_rI (c_X12_tear) [39] (fun pc => cond (Nat.beq pc 39) (a_X12_tear_39 (l_X12_tear_39 z_N)) (fun _ _ _ => none)) 40 (c_X12_tear) [(0, .ref v0), (1, .int v1), (2, .int v2)] [] S = b_X12_tear v0 v1 v2 S := rfl
def l_X12_twin_35 : Nat → Nat → Int32 → Int32 → Int32 → z_St → Option (Int32 × z_St)
  | 0 => fun _ _ _ _ _ => none
  | n + 1 => fun (v0 : Nat) (v1 : Int32) (v2 : Int32) (v3 : Int32) (S : z_St) =>
if ((32 : Int32)) ≤ v3 then
(some ((1 : Int32), S))
else
(z_chk S v0 13 (
z_chk S v0 13 (
z_onV (va_rf (z_r S v0 98)) fun b4 =>
z_inb S b4 101 ((((32 : Int32)) * v1) + v3) (
z_onV (va_rf (z_r S v0 98)) fun b5 =>
z_inb S b5 101 ((((32 : Int32)) * v2) + v3) (
let S6 := z_wi S b5 ((((32 : Int32)) * v2) + v3).toNatClampNeg ((z_i S b4 ((((32 : Int32)) * v1) + v3).toNatClampNeg))
let x7 := v3 + (1 : Int32)
l_X12_twin_35 n v0 v1 v2 x7 S6)))))
def b_X12_twin (v0 : Nat) (v1 : Int32) (v2 : Int32) (S : z_St) : Option (Int32 × z_St) :=
z_chk S v0 13 (
let S1 := z_wi S v0 0 ((0 : Int32))
(f_X12_in v1.toInt64 ((0 : Int64)) ((31 : Int64)) S1).bind fun q2 =>
if q2.1 = 0 then
(some ((-2000000001 : Int32), q2.2))
else
((f_X12_in v2.toInt64 ((0 : Int64)) ((31 : Int64)) q2.2).bind fun q3 =>
if q3.1 = 0 then
(some ((-2000000001 : Int32), q3.2))
else
(l_X12_twin_35 z_N v0 v1 v2 ((0 : Int32)) q3.2)))
def f_X12_twin : Nat → Int32 → Int32 → z_St → Option (Int32 × z_St) := z_op (b_X12_twin)
theorem e_X12_twin (v0 : Nat) (v1 : Int32) (v2 : Int32) (S : z_St) : f_X12_twin v0 v1 v2 S = b_X12_twin v0 v1 v2 S := congrFun (congrFun (congrFun (congrFun (z_op_eq (b_X12_twin)) v0) v1) v2) S
def g_X12_twin : z_G := .inl (fun as S => match as with
  | [.ref v0, .int v1, .int v2] => f_X12_twin v0 v1 v2 S
  | _ => none)
def c_X12_twin : List z_E := [
  (0, .aload_n 0, 1, .null, [], z_g0),
  (1, .iconst 0, 1, .int ((0 : Int32)), [], z_g0),
  (2, .putfield 224, 3, .null, [13, 0, 0], z_g0),
  (5, .iload_n 1, 1, .null, [], z_g0),
  (6, .i2l, 1, .null, [], z_g0),
  (7, .lconst 0, 1, .long (0 : Int64), [], z_g0),
  (8, .ldc2_w 652, 3, .long (31 : Int64), [], z_g0),
  (11, .invokestatic 274, 3, .null, [0, 0, 0, 0], g_X12_in),
  (14, .ifCond .eq 15, 3, .null, [29], z_g0),
  (17, .iload_n 2, 1, .null, [], z_g0),
  (18, .i2l, 1, .null, [], z_g0),
  (19, .lconst 0, 1, .long (0 : Int64), [], z_g0),
  (20, .ldc2_w 652, 3, .long (31 : Int64), [], z_g0),
  (23, .invokestatic 274, 3, .null, [0, 0, 0, 0], g_X12_in),
  (26, .ifCond .ne 7, 3, .null, [33], z_g0),
  (29, .ldc_w 296, 3, .int (-2000000001 : Int32), [], z_g0),
  (32, .ireturn, 1, .null, [], z_g0),
  (33, .iconst 0, 1, .int ((0 : Int32)), [], z_g0),
  (34, .istore_n 3, 1, .null, [], z_g0),
  (35, .iload_n 3, 1, .null, [], z_g0),
  (36, .bipush 32, 2, .int ((32 : Int32)), [], z_g0),
  (38, .if_icmp .ge 31, 3, .null, [69], z_g0),
  (41, .aload_n 0, 1, .null, [], z_g0),
  (42, .getfield 221, 3, .null, [13, 98, 3], z_g0),
  (45, .bipush 32, 2, .int ((32 : Int32)), [], z_g0),
  (47, .iload_n 2, 1, .null, [], z_g0),
  (48, .imul, 1, .null, [], z_g0),
  (49, .iload_n 3, 1, .null, [], z_g0),
  (50, .iadd, 1, .null, [], z_g0),
  (51, .aload_n 0, 1, .null, [], z_g0),
  (52, .getfield 221, 3, .null, [13, 98, 3], z_g0),
  (55, .bipush 32, 2, .int ((32 : Int32)), [], z_g0),
  (57, .iload_n 1, 1, .null, [], z_g0),
  (58, .imul, 1, .null, [], z_g0),
  (59, .iload_n 3, 1, .null, [], z_g0),
  (60, .iadd, 1, .null, [], z_g0),
  (61, .iaload, 1, .null, [101], z_g0),
  (62, .iastore, 1, .null, [], z_g0),
  (63, .iinc 3 1, 3, .int (1 : Int32), [], z_g0),
  (66, .goto (-31), 3, .null, [35], z_g0),
  (69, .iconst 1, 1, .int ((1 : Int32)), [], z_g0),
  (70, .ireturn, 1, .null, [], z_g0)]
def a_X12_twin_35 {ρ : Type} (k : Nat → Int32 → Int32 → Int32 → z_St → Option ρ) (ls : z_Lv) (st : List Value) (S : z_St) : Option ρ := z_gR ls 0 fun v0 => z_gI ls 1 fun v1 => z_gI ls 2 fun v2 => z_gI ls 3 fun v3 => z_p0 st (k v0 v1 v2 v3 S)
set_option maxRecDepth 100000 in
theorem r_X12_twin_35 (n : Nat) (v0 : Nat) (v1 : Int32) (v2 : Int32) (v3 : Int32) (S : z_St) : z_seg z_rI (c_X12_twin) [35] (fun pc => cond (Nat.beq pc 35) (a_X12_twin_35 (l_X12_twin_35 n)) (fun _ _ _ => none)) 45 (z_to 35 (c_X12_twin)) [(0, .ref v0), (1, .int v1), (2, .int v2), (3, .int v3)] [] S = l_X12_twin_35 (n + 1) v0 v1 v2 v3 S := rfl
set_option maxRecDepth 100000 in
theorem r_X12_twin (v0 : Nat) (v1 : Int32) (v2 : Int32) (S : z_St) : z_seg z_rI (c_X12_twin) [35] (fun pc => cond (Nat.beq pc 35) (a_X12_twin_35 (l_X12_twin_35 z_N)) (fun _ _ _ => none)) 45 (c_X12_twin) [(0, .ref v0), (1, .int v1), (2, .int v2)] [] S = b_X12_twin v0 v1 v2 S := rfl
def b_X12_numberOf (v0 : Nat) (v1 : Int32) (S : z_St) : Option (Int32 × z_St) :=
z_chk S v0 13 (
z_onV (va_rf (z_r S v0 98)) fun b1 =>
z_inb S b1 101 (((32 : Int32)) * v1) (
z_chk S v0 13 (
z_onV (va_rf (z_r S v0 98)) fun b2 =>
z_inb S b2 101 ((((32 : Int32)) * v1) + ((1 : Int32))) (
some ((((256 : Int32)) * ((z_i S b1 (((32 : Int32)) * v1).toNatClampNeg))) + ((z_i S b2 ((((32 : Int32)) * v1) + ((1 : Int32))).toNatClampNeg)), S)))))
def f_X12_numberOf : Nat → Int32 → z_St → Option (Int32 × z_St) := z_op (b_X12_numberOf)
theorem e_X12_numberOf (v0 : Nat) (v1 : Int32) (S : z_St) : f_X12_numberOf v0 v1 S = b_X12_numberOf v0 v1 S := congrFun (congrFun (congrFun (z_op_eq (b_X12_numberOf)) v0) v1) S
def g_X12_numberOf : z_G := .inl (fun as S => match as with
  | [.ref v0, .int v1] => f_X12_numberOf v0 v1 S
  | _ => none)
def c_X12_numberOf : List z_E := [
  (0, .sipush 256, 3, .int ((256 : Int32)), [], z_g0),
  (3, .aload_n 0, 1, .null, [], z_g0),
  (4, .getfield 221, 3, .null, [13, 98, 3], z_g0),
  (7, .bipush 32, 2, .int ((32 : Int32)), [], z_g0),
  (9, .iload_n 1, 1, .null, [], z_g0),
  (10, .imul, 1, .null, [], z_g0),
  (11, .iaload, 1, .null, [101], z_g0),
  (12, .imul, 1, .null, [], z_g0),
  (13, .aload_n 0, 1, .null, [], z_g0),
  (14, .getfield 221, 3, .null, [13, 98, 3], z_g0),
  (17, .bipush 32, 2, .int ((32 : Int32)), [], z_g0),
  (19, .iload_n 1, 1, .null, [], z_g0),
  (20, .imul, 1, .null, [], z_g0),
  (21, .iconst 1, 1, .int ((1 : Int32)), [], z_g0),
  (22, .iadd, 1, .null, [], z_g0),
  (23, .iaload, 1, .null, [101], z_g0),
  (24, .iadd, 1, .null, [], z_g0),
  (25, .ireturn, 1, .null, [], z_g0)]
set_option maxRecDepth 100000 in
theorem r_X12_numberOf (v0 : Nat) (v1 : Int32) (S : z_St) : z_seg z_rI (c_X12_numberOf) [] (fun pc => fun _ _ _ => none) 21 (c_X12_numberOf) [(0, .ref v0), (1, .int v1)] [] S = b_X12_numberOf v0 v1 S := rfl
def l_X12_isWhole_39 : Nat → Nat → Int32 → Int32 → Int32 → Int32 → z_St → Option (Int32 × z_St)
  | 0 => fun _ _ _ _ _ _ => none
  | n + 1 => fun (v0 : Nat) (v1 : Int32) (v2 : Int32) (v3 : Int32) (v4 : Int32) (S : z_St) =>
if ((4 : Int32)) ≤ v4 then
(z_rb v3 S)
else
(if v3 = 0 then
(z_rb v3 S)
else
(z_chk S v0 13 (
z_onV (va_rf (z_r S v0 98)) fun b4 =>
z_inb S b4 101 (((((32 : Int32)) * v1) + ((28 : Int32))) + v4) (
if ((z_i S b4 (((((32 : Int32)) * v1) + ((28 : Int32))) + v4).toNatClampNeg)) = ((v2 >>> ((((24 : Int32)) - (((8 : Int32)) * v4)) &&& 31)) &&& ((255 : Int32))) then
(let x6 := v4 + (1 : Int32)
l_X12_isWhole_39 n v0 v1 v2 ((1 : Int32)) x6 S)
else
(let x5 := v4 + (1 : Int32)
l_X12_isWhole_39 n v0 v1 v2 ((0 : Int32)) x5 S)))))
def b_X12_isWhole (v0 : Nat) (v1 : Int32) (S : z_St) : Option (Int32 × z_St) :=
z_chk S v0 13 (
(f_X12_sumOf v0 v1 S).bind fun q1 =>
z_chk q1.2 v0 13 (
(f_X12_numberOf v0 v1 q1.2).bind fun q2 =>
if q2.1 = 0 then
(l_X12_isWhole_39 z_N v0 v1 q1.1 ((0 : Int32)) ((0 : Int32)) q2.2)
else
(z_chk q2.2 v0 13 (
z_onV (va_rf (z_r q2.2 v0 98)) fun b3 =>
z_inb q2.2 b3 101 ((((32 : Int32)) * v1) + ((2 : Int32))) (
if ((24 : Int32)) < ((z_i q2.2 b3 ((((32 : Int32)) * v1) + ((2 : Int32))).toNatClampNeg)) then
(l_X12_isWhole_39 z_N v0 v1 q1.1 ((0 : Int32)) ((0 : Int32)) q2.2)
else
(l_X12_isWhole_39 z_N v0 v1 q1.1 ((1 : Int32)) ((0 : Int32)) q2.2))))))
def f_X12_isWhole : Nat → Int32 → z_St → Option (Int32 × z_St) := z_op (b_X12_isWhole)
theorem e_X12_isWhole (v0 : Nat) (v1 : Int32) (S : z_St) : f_X12_isWhole v0 v1 S = b_X12_isWhole v0 v1 S := congrFun (congrFun (congrFun (z_op_eq (b_X12_isWhole)) v0) v1) S
def g_X12_isWhole : z_G := .inl (fun as S => match as with
  | [.ref v0, .int v1] => f_X12_isWhole v0 v1 S
  | _ => none)
def c_X12_isWhole : List z_E := [
  (0, .aload_n 0, 1, .null, [], z_g0),
  (1, .iload_n 1, 1, .null, [], z_g0),
  (2, .invokevirtual 649, 3, .null, [1, 13, 0], g_X12_sumOf),
  (5, .istore_n 2, 1, .null, [], z_g0),
  (6, .aload_n 0, 1, .null, [], z_g0),
  (7, .iload_n 1, 1, .null, [], z_g0),
  (8, .invokevirtual 656, 3, .null, [1, 13, 0], g_X12_numberOf),
  (11, .ifCond .eq 23, 3, .null, [34], z_g0),
  (14, .aload_n 0, 1, .null, [], z_g0),
  (15, .getfield 221, 3, .null, [13, 98, 3], z_g0),
  (18, .bipush 32, 2, .int ((32 : Int32)), [], z_g0),
  (20, .iload_n 1, 1, .null, [], z_g0),
  (21, .imul, 1, .null, [], z_g0),
  (22, .iconst 2, 1, .int ((2 : Int32)), [], z_g0),
  (23, .iadd, 1, .null, [], z_g0),
  (24, .iaload, 1, .null, [101], z_g0),
  (25, .bipush 24, 2, .int ((24 : Int32)), [], z_g0),
  (27, .if_icmp .gt 7, 3, .null, [34], z_g0),
  (30, .iconst 1, 1, .int ((1 : Int32)), [], z_g0),
  (31, .goto 4, 3, .null, [35], z_g0),
  (34, .iconst 0, 1, .int ((0 : Int32)), [], z_g0),
  (35, .istore_n 3, 1, .null, [], z_g0),
  (36, .iconst 0, 1, .int ((0 : Int32)), [], z_g0),
  (37, .istore 4, 2, .null, [], z_g0),
  (39, .iload 4, 2, .null, [], z_g0),
  (41, .iconst 4, 1, .int ((4 : Int32)), [], z_g0),
  (42, .if_icmp .ge 51, 3, .null, [93], z_g0),
  (45, .iload_n 3, 1, .null, [], z_g0),
  (46, .ifCond .eq 47, 3, .null, [93], z_g0),
  (49, .aload_n 0, 1, .null, [], z_g0),
  (50, .getfield 221, 3, .null, [13, 98, 3], z_g0),
  (53, .bipush 32, 2, .int ((32 : Int32)), [], z_g0),
  (55, .iload_n 1, 1, .null, [], z_g0),
  (56, .imul, 1, .null, [], z_g0),
  (57, .bipush 28, 2, .int ((28 : Int32)), [], z_g0),
  (59, .iadd, 1, .null, [], z_g0),
  (60, .iload 4, 2, .null, [], z_g0),
  (62, .iadd, 1, .null, [], z_g0),
  (63, .iaload, 1, .null, [101], z_g0),
  (64, .iload_n 2, 1, .null, [], z_g0),
  (65, .bipush 24, 2, .int ((24 : Int32)), [], z_g0),
  (67, .bipush 8, 2, .int ((8 : Int32)), [], z_g0),
  (69, .iload 4, 2, .null, [], z_g0),
  (71, .imul, 1, .null, [], z_g0),
  (72, .isub, 1, .null, [], z_g0),
  (73, .ishr, 1, .null, [], z_g0),
  (74, .sipush 255, 3, .int ((255 : Int32)), [], z_g0),
  (77, .iand, 1, .null, [], z_g0),
  (78, .if_icmp .ne 7, 3, .null, [85], z_g0),
  (81, .iconst 1, 1, .int ((1 : Int32)), [], z_g0),
  (82, .goto 4, 3, .null, [86], z_g0),
  (85, .iconst 0, 1, .int ((0 : Int32)), [], z_g0),
  (86, .istore_n 3, 1, .null, [], z_g0),
  (87, .iinc 4 1, 3, .int (1 : Int32), [], z_g0),
  (90, .goto (-51), 3, .null, [39], z_g0),
  (93, .iload_n 3, 1, .null, [], z_g0),
  (94, .ireturn, 1, .null, [], z_g0)]
def a_X12_isWhole_39 {ρ : Type} (k : Nat → Int32 → Int32 → Int32 → Int32 → z_St → Option ρ) (ls : z_Lv) (st : List Value) (S : z_St) : Option ρ := z_gR ls 0 fun v0 => z_gI ls 1 fun v1 => z_gI ls 2 fun v2 => z_gI ls 3 fun v3 => z_gI ls 4 fun v4 => z_p0 st (k v0 v1 v2 v3 v4 S)
set_option maxRecDepth 100000 in
theorem r_X12_isWhole_39 (n : Nat) (v0 : Nat) (v1 : Int32) (v2 : Int32) (v3 : Int32) (v4 : Int32) (S : z_St) : z_seg z_rZ (c_X12_isWhole) [39] (fun pc => cond (Nat.beq pc 39) (a_X12_isWhole_39 (l_X12_isWhole_39 n)) (fun _ _ _ => none)) 60 (z_to 39 (c_X12_isWhole)) [(0, .ref v0), (1, .int v1), (2, .int v2), (3, .int v3), (4, .int v4)] [] S = l_X12_isWhole_39 (n + 1) v0 v1 v2 v3 v4 S := rfl
set_option maxRecDepth 100000 in
theorem r_X12_isWhole (v0 : Nat) (v1 : Int32) (S : z_St) : z_seg z_rZ (c_X12_isWhole) [39] (fun pc => cond (Nat.beq pc 39) (a_X12_isWhole_39 (l_X12_isWhole_39 z_N)) (fun _ _ _ => none)) 60 (c_X12_isWhole) [(0, .ref v0), (1, .int v1)] [] S = b_X12_isWhole v0 v1 S := rfl
def l_X12_firstOf_4 : Nat → Nat → Int32 → Int32 → Int32 → z_St → Option (Int32 × z_St)
  | 0 => fun _ _ _ _ _ => none
  | n + 1 => fun (v0 : Nat) (v1 : Int32) (v2 : Int32) (v3 : Int32) (S : z_St) =>
if v3 < 0 then
(some (v2, S))
else
(z_chk S v0 13 (
(f_X12_isWhole v0 v3 S).bind fun q1 =>
if q1.1 = 0 then
(let x2 := v3 + (-1 : Int32)
l_X12_firstOf_4 n v0 v1 v2 x2 q1.2)
else
(z_chk q1.2 v0 13 (
(f_X12_numberOf v0 v3 q1.2).bind fun q3 =>
z_chk q3.2 v0 13 (
(f_X12_numberOf v0 v1 q3.2).bind fun q4 =>
if q3.1 = q4.1 then
(let x6 := v3 + (-1 : Int32)
l_X12_firstOf_4 n v0 v1 v3 x6 q4.2)
else
(let x5 := v3 + (-1 : Int32)
l_X12_firstOf_4 n v0 v1 v2 x5 q4.2))))))
def b_X12_firstOf (v0 : Nat) (v1 : Int32) (S : z_St) : Option (Int32 × z_St) :=
l_X12_firstOf_4 z_N v0 v1 v1 v1 S
def f_X12_firstOf : Nat → Int32 → z_St → Option (Int32 × z_St) := z_op (b_X12_firstOf)
theorem e_X12_firstOf (v0 : Nat) (v1 : Int32) (S : z_St) : f_X12_firstOf v0 v1 S = b_X12_firstOf v0 v1 S := congrFun (congrFun (congrFun (z_op_eq (b_X12_firstOf)) v0) v1) S
def g_X12_firstOf : z_G := .inl (fun as S => match as with
  | [.ref v0, .int v1] => f_X12_firstOf v0 v1 S
  | _ => none)
def c_X12_firstOf : List z_E := [
  (0, .iload_n 1, 1, .null, [], z_g0),
  (1, .istore_n 2, 1, .null, [], z_g0),
  (2, .iload_n 1, 1, .null, [], z_g0),
  (3, .istore_n 3, 1, .null, [], z_g0),
  (4, .iload_n 3, 1, .null, [], z_g0),
  (5, .ifCond .lt 36, 3, .null, [41], z_g0),
  (8, .aload_n 0, 1, .null, [], z_g0),
  (9, .iload_n 3, 1, .null, [], z_g0),
  (10, .invokevirtual 659, 3, .null, [1, 13, 0], g_X12_isWhole),
  (13, .ifCond .eq 20, 3, .null, [33], z_g0),
  (16, .aload_n 0, 1, .null, [], z_g0),
  (17, .iload_n 3, 1, .null, [], z_g0),
  (18, .invokevirtual 656, 3, .null, [1, 13, 0], g_X12_numberOf),
  (21, .aload_n 0, 1, .null, [], z_g0),
  (22, .iload_n 1, 1, .null, [], z_g0),
  (23, .invokevirtual 656, 3, .null, [1, 13, 0], g_X12_numberOf),
  (26, .if_icmp .ne 7, 3, .null, [33], z_g0),
  (29, .iload_n 3, 1, .null, [], z_g0),
  (30, .goto 4, 3, .null, [34], z_g0),
  (33, .iload_n 2, 1, .null, [], z_g0),
  (34, .istore_n 2, 1, .null, [], z_g0),
  (35, .iinc 3 (-1), 3, .int (-1 : Int32), [], z_g0),
  (38, .goto (-34), 3, .null, [4], z_g0),
  (41, .iload_n 2, 1, .null, [], z_g0),
  (42, .ireturn, 1, .null, [], z_g0)]
def a_X12_firstOf_4 {ρ : Type} (k : Nat → Int32 → Int32 → Int32 → z_St → Option ρ) (ls : z_Lv) (st : List Value) (S : z_St) : Option ρ := z_gR ls 0 fun v0 => z_gI ls 1 fun v1 => z_gI ls 2 fun v2 => z_gI ls 3 fun v3 => z_p0 st (k v0 v1 v2 v3 S)
set_option maxRecDepth 100000 in
theorem r_X12_firstOf_4 (n : Nat) (v0 : Nat) (v1 : Int32) (v2 : Int32) (v3 : Int32) (S : z_St) : z_seg z_rI (c_X12_firstOf) [4] (fun pc => cond (Nat.beq pc 4) (a_X12_firstOf_4 (l_X12_firstOf_4 n)) (fun _ _ _ => none)) 28 (z_to 4 (c_X12_firstOf)) [(0, .ref v0), (1, .int v1), (2, .int v2), (3, .int v3)] [] S = l_X12_firstOf_4 (n + 1) v0 v1 v2 v3 S := rfl
set_option maxRecDepth 100000 in
theorem r_X12_firstOf (v0 : Nat) (v1 : Int32) (S : z_St) : z_seg z_rI (c_X12_firstOf) [4] (fun pc => cond (Nat.beq pc 4) (a_X12_firstOf_4 (l_X12_firstOf_4 z_N)) (fun _ _ _ => none)) 28 (c_X12_firstOf) [(0, .ref v0), (1, .int v1)] [] S = b_X12_firstOf v0 v1 S := rfl
def l_X12_stateOf_70 : Nat → Nat → Int32 → Int32 → Int32 → Int32 → z_St → Option (Int32 × z_St)
  | 0 => fun _ _ _ _ _ _ => none
  | n + 1 => fun (v0 : Nat) (v1 : Int32) (v3 : Int32) (v4 : Int32) (v5 : Int32) (S : z_St) =>
if ((32 : Int32)) ≤ v5 then
(if v3 = v1 then
(some ((0 : Int32), S))
else
(if v4 = 0 then
(some ((1 : Int32), S))
else
(some ((2 : Int32), S))))
else
(if v4 = 0 then
(let x7 := v5 + (1 : Int32)
l_X12_stateOf_70 n v0 v1 v3 ((0 : Int32)) x7 S)
else
(z_chk S v0 13 (
z_onV (va_rf (z_r S v0 98)) fun b8 =>
z_inb S b8 101 ((((32 : Int32)) * v1) + v5) (
z_chk S v0 13 (
z_onV (va_rf (z_r S v0 98)) fun b9 =>
z_inb S b9 101 ((((32 : Int32)) * v3) + v5) (
if ((z_i S b8 ((((32 : Int32)) * v1) + v5).toNatClampNeg)) = ((z_i S b9 ((((32 : Int32)) * v3) + v5).toNatClampNeg)) then
(let x11 := v5 + (1 : Int32)
l_X12_stateOf_70 n v0 v1 v3 ((1 : Int32)) x11 S)
else
(let x10 := v5 + (1 : Int32)
l_X12_stateOf_70 n v0 v1 v3 ((0 : Int32)) x10 S)))))))
def l_X12_stateOf_4 : Nat → Nat → Int32 → Int32 → Int32 → z_St → Option (Int32 × z_St)
  | 0 => fun _ _ _ _ _ => none
  | n + 1 => fun (v0 : Nat) (v1 : Int32) (v2 : Int32) (v3 : Int32) (S : z_St) =>
if ((32 : Int32)) ≤ v3 then
(z_chk S v0 13 (
(f_X12_isWhole v0 v1 S).bind fun q1 =>
if q1.1 = 0 then
(if v2 = 0 then
(some ((3 : Int32), q1.2))
else
(some ((4 : Int32), q1.2)))
else
(z_chk q1.2 v0 13 (
(f_X12_firstOf v0 v1 q1.2).bind fun q2 =>
l_X12_stateOf_70 z_N v0 v1 q2.1 ((1 : Int32)) ((0 : Int32)) q2.2))))
else
(if v2 = 0 then
(let x3 := v3 + (1 : Int32)
l_X12_stateOf_4 n v0 v1 ((0 : Int32)) x3 S)
else
(z_chk S v0 13 (
z_onV (va_rf (z_r S v0 98)) fun b4 =>
z_inb S b4 101 ((((32 : Int32)) * v1) + v3) (
if ((z_i S b4 ((((32 : Int32)) * v1) + v3).toNatClampNeg)) = 0 then
(let x6 := v3 + (1 : Int32)
l_X12_stateOf_4 n v0 v1 ((1 : Int32)) x6 S)
else
(let x5 := v3 + (1 : Int32)
l_X12_stateOf_4 n v0 v1 ((0 : Int32)) x5 S)))))
def b_X12_stateOf (v0 : Nat) (v1 : Int32) (S : z_St) : Option (Int32 × z_St) :=
l_X12_stateOf_4 z_N v0 v1 ((1 : Int32)) ((0 : Int32)) S
def f_X12_stateOf : Nat → Int32 → z_St → Option (Int32 × z_St) := z_op (b_X12_stateOf)
theorem e_X12_stateOf (v0 : Nat) (v1 : Int32) (S : z_St) : f_X12_stateOf v0 v1 S = b_X12_stateOf v0 v1 S := congrFun (congrFun (congrFun (z_op_eq (b_X12_stateOf)) v0) v1) S
def g_X12_stateOf : z_G := .inl (fun as S => match as with
  | [.ref v0, .int v1] => f_X12_stateOf v0 v1 S
  | _ => none)
def c_X12_stateOf : List z_E := [
  (0, .iconst 1, 1, .int ((1 : Int32)), [], z_g0),
  (1, .istore_n 2, 1, .null, [], z_g0),
  (2, .iconst 0, 1, .int ((0 : Int32)), [], z_g0),
  (3, .istore_n 3, 1, .null, [], z_g0),
  (4, .iload_n 3, 1, .null, [], z_g0),
  (5, .bipush 32, 2, .int ((32 : Int32)), [], z_g0),
  (7, .if_icmp .ge 33, 3, .null, [40], z_g0),
  (10, .iload_n 2, 1, .null, [], z_g0),
  (11, .ifCond .eq 21, 3, .null, [32], z_g0),
  (14, .aload_n 0, 1, .null, [], z_g0),
  (15, .getfield 221, 3, .null, [13, 98, 3], z_g0),
  (18, .bipush 32, 2, .int ((32 : Int32)), [], z_g0),
  (20, .iload_n 1, 1, .null, [], z_g0),
  (21, .imul, 1, .null, [], z_g0),
  (22, .iload_n 3, 1, .null, [], z_g0),
  (23, .iadd, 1, .null, [], z_g0),
  (24, .iaload, 1, .null, [101], z_g0),
  (25, .ifCond .ne 7, 3, .null, [32], z_g0),
  (28, .iconst 1, 1, .int ((1 : Int32)), [], z_g0),
  (29, .goto 4, 3, .null, [33], z_g0),
  (32, .iconst 0, 1, .int ((0 : Int32)), [], z_g0),
  (33, .istore_n 2, 1, .null, [], z_g0),
  (34, .iinc 3 1, 3, .int (1 : Int32), [], z_g0),
  (37, .goto (-33), 3, .null, [4], z_g0),
  (40, .aload_n 0, 1, .null, [], z_g0),
  (41, .iload_n 1, 1, .null, [], z_g0),
  (42, .invokevirtual 659, 3, .null, [1, 13, 0], g_X12_isWhole),
  (45, .ifCond .ne 13, 3, .null, [58], z_g0),
  (48, .iload_n 2, 1, .null, [], z_g0),
  (49, .ifCond .eq 7, 3, .null, [56], z_g0),
  (52, .iconst 4, 1, .int ((4 : Int32)), [], z_g0),
  (53, .goto 4, 3, .null, [57], z_g0),
  (56, .iconst 3, 1, .int ((3 : Int32)), [], z_g0),
  (57, .ireturn, 1, .null, [], z_g0),
  (58, .aload_n 0, 1, .null, [], z_g0),
  (59, .iload_n 1, 1, .null, [], z_g0),
  (60, .invokevirtual 662, 3, .null, [1, 13, 0], g_X12_firstOf),
  (63, .istore_n 3, 1, .null, [], z_g0),
  (64, .iconst 1, 1, .int ((1 : Int32)), [], z_g0),
  (65, .istore 4, 2, .null, [], z_g0),
  (67, .iconst 0, 1, .int ((0 : Int32)), [], z_g0),
  (68, .istore 5, 2, .null, [], z_g0),
  (70, .iload 5, 2, .null, [], z_g0),
  (72, .bipush 32, 2, .int ((32 : Int32)), [], z_g0),
  (74, .if_icmp .ge 48, 3, .null, [122], z_g0),
  (77, .iload 4, 2, .null, [], z_g0),
  (79, .ifCond .eq 34, 3, .null, [113], z_g0),
  (82, .aload_n 0, 1, .null, [], z_g0),
  (83, .getfield 221, 3, .null, [13, 98, 3], z_g0),
  (86, .bipush 32, 2, .int ((32 : Int32)), [], z_g0),
  (88, .iload_n 1, 1, .null, [], z_g0),
  (89, .imul, 1, .null, [], z_g0),
  (90, .iload 5, 2, .null, [], z_g0),
  (92, .iadd, 1, .null, [], z_g0),
  (93, .iaload, 1, .null, [101], z_g0),
  (94, .aload_n 0, 1, .null, [], z_g0),
  (95, .getfield 221, 3, .null, [13, 98, 3], z_g0),
  (98, .bipush 32, 2, .int ((32 : Int32)), [], z_g0),
  (100, .iload_n 3, 1, .null, [], z_g0),
  (101, .imul, 1, .null, [], z_g0),
  (102, .iload 5, 2, .null, [], z_g0),
  (104, .iadd, 1, .null, [], z_g0),
  (105, .iaload, 1, .null, [101], z_g0),
  (106, .if_icmp .ne 7, 3, .null, [113], z_g0),
  (109, .iconst 1, 1, .int ((1 : Int32)), [], z_g0),
  (110, .goto 4, 3, .null, [114], z_g0),
  (113, .iconst 0, 1, .int ((0 : Int32)), [], z_g0),
  (114, .istore 4, 2, .null, [], z_g0),
  (116, .iinc 5 1, 3, .int (1 : Int32), [], z_g0),
  (119, .goto (-49), 3, .null, [70], z_g0),
  (122, .iload_n 3, 1, .null, [], z_g0),
  (123, .iload_n 1, 1, .null, [], z_g0),
  (124, .if_icmp .ne 7, 3, .null, [131], z_g0),
  (127, .iconst 0, 1, .int ((0 : Int32)), [], z_g0),
  (128, .goto 13, 3, .null, [141], z_g0),
  (131, .iload 4, 2, .null, [], z_g0),
  (133, .ifCond .eq 7, 3, .null, [140], z_g0),
  (136, .iconst 2, 1, .int ((2 : Int32)), [], z_g0),
  (137, .goto 4, 3, .null, [141], z_g0),
  (140, .iconst 1, 1, .int ((1 : Int32)), [], z_g0),
  (141, .ireturn, 1, .null, [], z_g0)]
def a_X12_stateOf_4 {ρ : Type} (k : Nat → Int32 → Int32 → Int32 → z_St → Option ρ) (ls : z_Lv) (st : List Value) (S : z_St) : Option ρ := z_gR ls 0 fun v0 => z_gI ls 1 fun v1 => z_gI ls 2 fun v2 => z_gI ls 3 fun v3 => z_p0 st (k v0 v1 v2 v3 S)
def a_X12_stateOf_70 {ρ : Type} (k : Nat → Int32 → Int32 → Int32 → Int32 → z_St → Option ρ) (ls : z_Lv) (st : List Value) (S : z_St) : Option ρ := z_gR ls 0 fun v0 => z_gI ls 1 fun v1 => z_gI ls 3 fun v3 => z_gI ls 4 fun v4 => z_gI ls 5 fun v5 => z_p0 st (k v0 v1 v3 v4 v5 S)
set_option maxRecDepth 100000 in
theorem r_X12_stateOf_70 (n : Nat) (v0 : Nat) (v1 : Int32) (v3 : Int32) (v4 : Int32) (v5 : Int32) (S : z_St) : z_seg z_rI (c_X12_stateOf) [4, 70] (fun pc => cond (Nat.beq pc 70) (a_X12_stateOf_70 (l_X12_stateOf_70 n)) (fun _ _ _ => none)) 84 (z_to 70 (c_X12_stateOf)) [(0, .ref v0), (1, .int v1), (3, .int v3), (4, .int v4), (5, .int v5)] [] S = l_X12_stateOf_70 (n + 1) v0 v1 v3 v4 v5 S := rfl
set_option maxRecDepth 100000 in
theorem r_X12_stateOf_4 (n : Nat) (v0 : Nat) (v1 : Int32) (v2 : Int32) (v3 : Int32) (S : z_St) : z_seg z_rI (c_X12_stateOf) [4, 70] (fun pc => cond (Nat.beq pc 4) (a_X12_stateOf_4 (l_X12_stateOf_4 n)) (cond (Nat.beq pc 70) (a_X12_stateOf_70 (l_X12_stateOf_70 z_N)) (fun _ _ _ => none))) 84 (z_to 4 (c_X12_stateOf)) [(0, .ref v0), (1, .int v1), (2, .int v2), (3, .int v3)] [] S = l_X12_stateOf_4 (n + 1) v0 v1 v2 v3 S := rfl
set_option maxRecDepth 100000 in
theorem r_X12_stateOf (v0 : Nat) (v1 : Int32) (S : z_St) : z_seg z_rI (c_X12_stateOf) [4, 70] (fun pc => cond (Nat.beq pc 4) (a_X12_stateOf_4 (l_X12_stateOf_4 z_N)) (fun _ _ _ => none)) 84 (c_X12_stateOf) [(0, .ref v0), (1, .int v1)] [] S = b_X12_stateOf v0 v1 S := rfl
def l_X12_open_9 : Nat → Nat → Int32 → Int32 → z_St → Option (Int32 × z_St)
  | 0 => fun _ _ _ _ => none
  | n + 1 => fun (v0 : Nat) (v1 : Int32) (v2 : Int32) (S : z_St) =>
if ((32 : Int32)) ≤ v2 then
(some (v1, S))
else
(z_chk S v0 13 (
(f_X12_stateOf v0 v2 S).bind fun q2 =>
if q2.1 = 0 then
(let x5 := v1 + ((1 : Int32))
let x6 := v2 + (1 : Int32)
l_X12_open_9 n v0 x5 x6 q2.2)
else
(let x3 := v1 + ((0 : Int32))
let x4 := v2 + (1 : Int32)
l_X12_open_9 n v0 x3 x4 q2.2)))
def b_X12_open (v0 : Nat) (S : z_St) : Option (Int32 × z_St) :=
z_chk S v0 13 (
let S1 := z_wi S v0 0 ((0 : Int32))
l_X12_open_9 z_N v0 ((0 : Int32)) ((0 : Int32)) S1)
def f_X12_open : Nat → z_St → Option (Int32 × z_St) := z_op (b_X12_open)
theorem e_X12_open (v0 : Nat) (S : z_St) : f_X12_open v0 S = b_X12_open v0 S := congrFun (congrFun (z_op_eq (b_X12_open)) v0) S
def g_X12_open : z_G := .inl (fun as S => match as with
  | [.ref v0] => f_X12_open v0 S
  | _ => none)
def c_X12_open : List z_E := [
  (0, .aload_n 0, 1, .null, [], z_g0),
  (1, .iconst 0, 1, .int ((0 : Int32)), [], z_g0),
  (2, .putfield 224, 3, .null, [13, 0, 0], z_g0),
  (5, .iconst 0, 1, .int ((0 : Int32)), [], z_g0),
  (6, .istore_n 1, 1, .null, [], z_g0),
  (7, .iconst 0, 1, .int ((0 : Int32)), [], z_g0),
  (8, .istore_n 2, 1, .null, [], z_g0),
  (9, .iload_n 2, 1, .null, [], z_g0),
  (10, .bipush 32, 2, .int ((32 : Int32)), [], z_g0),
  (12, .if_icmp .ge 25, 3, .null, [37], z_g0),
  (15, .iload_n 1, 1, .null, [], z_g0),
  (16, .aload_n 0, 1, .null, [], z_g0),
  (17, .iload_n 2, 1, .null, [], z_g0),
  (18, .invokevirtual 665, 3, .null, [1, 13, 0], g_X12_stateOf),
  (21, .ifCond .ne 7, 3, .null, [28], z_g0),
  (24, .iconst 1, 1, .int ((1 : Int32)), [], z_g0),
  (25, .goto 4, 3, .null, [29], z_g0),
  (28, .iconst 0, 1, .int ((0 : Int32)), [], z_g0),
  (29, .iadd, 1, .null, [], z_g0),
  (30, .istore_n 1, 1, .null, [], z_g0),
  (31, .iinc 2 1, 3, .int (1 : Int32), [], z_g0),
  (34, .goto (-25), 3, .null, [9], z_g0),
  (37, .iload_n 1, 1, .null, [], z_g0),
  (38, .ireturn, 1, .null, [], z_g0)]
def a_X12_open_9 {ρ : Type} (k : Nat → Int32 → Int32 → z_St → Option ρ) (ls : z_Lv) (st : List Value) (S : z_St) : Option ρ := z_gR ls 0 fun v0 => z_gI ls 1 fun v1 => z_gI ls 2 fun v2 => z_p0 st (k v0 v1 v2 S)
set_option maxRecDepth 100000 in
theorem r_X12_open_9 (n : Nat) (v0 : Nat) (v1 : Int32) (v2 : Int32) (S : z_St) : z_seg z_rI (c_X12_open) [9] (fun pc => cond (Nat.beq pc 9) (a_X12_open_9 (l_X12_open_9 n)) (fun _ _ _ => none)) 27 (z_to 9 (c_X12_open)) [(0, .ref v0), (1, .int v1), (2, .int v2)] [] S = l_X12_open_9 (n + 1) v0 v1 v2 S := rfl
set_option maxRecDepth 100000 in
theorem r_X12_open (v0 : Nat) (S : z_St) : z_seg z_rI (c_X12_open) [9] (fun pc => cond (Nat.beq pc 9) (a_X12_open_9 (l_X12_open_9 z_N)) (fun _ _ _ => none)) 27 (c_X12_open) [(0, .ref v0)] [] S = b_X12_open v0 S := rfl
def l_X12_rowAt_28 (k_4 : Nat → Int32 → Int32 → Int32 → z_St → Option (Int32 × z_St)) : Nat → Nat → Int32 → Int32 → Int32 → Int32 → Int32 → z_St → Option (Int32 × z_St)
  | 0 => fun _ _ _ _ _ _ _ => none
  | n + 1 => fun (v0 : Nat) (v1 : Int32) (v2 : Int32) (v3 : Int32) (v4 : Int32) (v5 : Int32) (S : z_St) =>
if ((32 : Int32)) ≤ v5 then
(if v4 = v1 then
(let x4 := v3 + (1 : Int32)
k_4 v0 v1 v3 x4 S)
else
(let x3 := v3 + (1 : Int32)
k_4 v0 v1 v2 x3 S))
else
(z_chk S v0 13 (
(f_X12_stateOf v0 v5 S).bind fun q5 =>
if q5.1 = 0 then
(z_chk q5.2 v0 13 (
(f_X12_numberOf v0 v5 q5.2).bind fun q8 =>
z_chk q8.2 v0 13 (
(f_X12_numberOf v0 v3 q8.2).bind fun q9 =>
if q9.1 ≤ q8.1 then
(let x10 := v4 + ((0 : Int32))
let x11 := v5 + (1 : Int32)
l_X12_rowAt_28 k_4 n v0 v1 v2 v3 x10 x11 q9.2)
else
(let x12 := v4 + ((1 : Int32))
let x13 := v5 + (1 : Int32)
l_X12_rowAt_28 k_4 n v0 v1 v2 v3 x12 x13 q9.2))))
else
(let x6 := v4 + ((0 : Int32))
let x7 := v5 + (1 : Int32)
l_X12_rowAt_28 k_4 n v0 v1 v2 v3 x6 x7 q5.2)))
def l_X12_rowAt_4 : Nat → Nat → Int32 → Int32 → Int32 → z_St → Option (Int32 × z_St)
  | 0 => fun _ _ _ _ _ => none
  | n + 1 => fun (v0 : Nat) (v1 : Int32) (v2 : Int32) (v3 : Int32) (S : z_St) =>
if ((32 : Int32)) ≤ v3 then
(some (v2, S))
else
(if v1 < 0 then
(some (v2, S))
else
(z_chk S v0 13 (
(f_X12_stateOf v0 v3 S).bind fun q1 =>
if q1.1 = 0 then
(l_X12_rowAt_28 (l_X12_rowAt_4 n) z_N v0 v1 v2 v3 ((0 : Int32)) ((0 : Int32)) q1.2)
else
(let x2 := v3 + (1 : Int32)
l_X12_rowAt_4 n v0 v1 v2 x2 q1.2))))
def b_X12_rowAt (v0 : Nat) (v1 : Int32) (S : z_St) : Option (Int32 × z_St) :=
l_X12_rowAt_4 z_N v0 v1 ((-1 : Int32)) ((0 : Int32)) S
def f_X12_rowAt : Nat → Int32 → z_St → Option (Int32 × z_St) := z_op (b_X12_rowAt)
theorem e_X12_rowAt (v0 : Nat) (v1 : Int32) (S : z_St) : f_X12_rowAt v0 v1 S = b_X12_rowAt v0 v1 S := congrFun (congrFun (congrFun (z_op_eq (b_X12_rowAt)) v0) v1) S
def g_X12_rowAt : z_G := .inl (fun as S => match as with
  | [.ref v0, .int v1] => f_X12_rowAt v0 v1 S
  | _ => none)
def c_X12_rowAt : List z_E := [
  (0, .iconst (-1), 1, .int ((-1 : Int32)), [], z_g0),
  (1, .istore_n 2, 1, .null, [], z_g0),
  (2, .iconst 0, 1, .int ((0 : Int32)), [], z_g0),
  (3, .istore_n 3, 1, .null, [], z_g0),
  (4, .iload_n 3, 1, .null, [], z_g0),
  (5, .bipush 32, 2, .int ((32 : Int32)), [], z_g0),
  (7, .if_icmp .ge 85, 3, .null, [92], z_g0),
  (10, .iload_n 1, 1, .null, [], z_g0),
  (11, .ifCond .lt 81, 3, .null, [92], z_g0),
  (14, .aload_n 0, 1, .null, [], z_g0),
  (15, .iload_n 3, 1, .null, [], z_g0),
  (16, .invokevirtual 665, 3, .null, [1, 13, 0], g_X12_stateOf),
  (19, .ifCond .ne 67, 3, .null, [86], z_g0),
  (22, .iconst 0, 1, .int ((0 : Int32)), [], z_g0),
  (23, .istore 4, 2, .null, [], z_g0),
  (25, .iconst 0, 1, .int ((0 : Int32)), [], z_g0),
  (26, .istore 5, 2, .null, [], z_g0),
  (28, .iload 5, 2, .null, [], z_g0),
  (30, .bipush 32, 2, .int ((32 : Int32)), [], z_g0),
  (32, .if_icmp .ge 42, 3, .null, [74], z_g0),
  (35, .iload 4, 2, .null, [], z_g0),
  (37, .aload_n 0, 1, .null, [], z_g0),
  (38, .iload 5, 2, .null, [], z_g0),
  (40, .invokevirtual 665, 3, .null, [1, 13, 0], g_X12_stateOf),
  (43, .ifCond .ne 21, 3, .null, [64], z_g0),
  (46, .aload_n 0, 1, .null, [], z_g0),
  (47, .iload 5, 2, .null, [], z_g0),
  (49, .invokevirtual 656, 3, .null, [1, 13, 0], g_X12_numberOf),
  (52, .aload_n 0, 1, .null, [], z_g0),
  (53, .iload_n 3, 1, .null, [], z_g0),
  (54, .invokevirtual 656, 3, .null, [1, 13, 0], g_X12_numberOf),
  (57, .if_icmp .ge 7, 3, .null, [64], z_g0),
  (60, .iconst 1, 1, .int ((1 : Int32)), [], z_g0),
  (61, .goto 4, 3, .null, [65], z_g0),
  (64, .iconst 0, 1, .int ((0 : Int32)), [], z_g0),
  (65, .iadd, 1, .null, [], z_g0),
  (66, .istore 4, 2, .null, [], z_g0),
  (68, .iinc 5 1, 3, .int (1 : Int32), [], z_g0),
  (71, .goto (-43), 3, .null, [28], z_g0),
  (74, .iload 4, 2, .null, [], z_g0),
  (76, .iload_n 1, 1, .null, [], z_g0),
  (77, .if_icmp .ne 7, 3, .null, [84], z_g0),
  (80, .iload_n 3, 1, .null, [], z_g0),
  (81, .goto 4, 3, .null, [85], z_g0),
  (84, .iload_n 2, 1, .null, [], z_g0),
  (85, .istore_n 2, 1, .null, [], z_g0),
  (86, .iinc 3 1, 3, .int (1 : Int32), [], z_g0),
  (89, .goto (-85), 3, .null, [4], z_g0),
  (92, .iload_n 2, 1, .null, [], z_g0),
  (93, .ireturn, 1, .null, [], z_g0)]
def a_X12_rowAt_4 {ρ : Type} (k : Nat → Int32 → Int32 → Int32 → z_St → Option ρ) (ls : z_Lv) (st : List Value) (S : z_St) : Option ρ := z_gR ls 0 fun v0 => z_gI ls 1 fun v1 => z_gI ls 2 fun v2 => z_gI ls 3 fun v3 => z_p0 st (k v0 v1 v2 v3 S)
def a_X12_rowAt_28 {ρ : Type} (k : Nat → Int32 → Int32 → Int32 → Int32 → Int32 → z_St → Option ρ) (ls : z_Lv) (st : List Value) (S : z_St) : Option ρ := z_gR ls 0 fun v0 => z_gI ls 1 fun v1 => z_gI ls 2 fun v2 => z_gI ls 3 fun v3 => z_gI ls 4 fun v4 => z_gI ls 5 fun v5 => z_p0 st (k v0 v1 v2 v3 v4 v5 S)
set_option maxRecDepth 100000 in
theorem r_X12_rowAt_28 (k_4 : Nat → Int32 → Int32 → Int32 → z_St → Option (Int32 × z_St)) (n : Nat) (v0 : Nat) (v1 : Int32) (v2 : Int32) (v3 : Int32) (v4 : Int32) (v5 : Int32) (S : z_St) : z_seg z_rI (c_X12_rowAt) [4, 28] (fun pc => cond (Nat.beq pc 4) (a_X12_rowAt_4 k_4) (cond (Nat.beq pc 28) (a_X12_rowAt_28 (l_X12_rowAt_28 k_4 n)) (fun _ _ _ => none))) 53 (z_to 28 (c_X12_rowAt)) [(0, .ref v0), (1, .int v1), (2, .int v2), (3, .int v3), (4, .int v4), (5, .int v5)] [] S = l_X12_rowAt_28 k_4 (n + 1) v0 v1 v2 v3 v4 v5 S := rfl
set_option maxRecDepth 100000 in
theorem r_X12_rowAt_4 (n : Nat) (v0 : Nat) (v1 : Int32) (v2 : Int32) (v3 : Int32) (S : z_St) : z_seg z_rI (c_X12_rowAt) [4, 28] (fun pc => cond (Nat.beq pc 4) (a_X12_rowAt_4 (l_X12_rowAt_4 n)) (cond (Nat.beq pc 28) (a_X12_rowAt_28 (l_X12_rowAt_28 (l_X12_rowAt_4 n) z_N)) (fun _ _ _ => none))) 53 (z_to 4 (c_X12_rowAt)) [(0, .ref v0), (1, .int v1), (2, .int v2), (3, .int v3)] [] S = l_X12_rowAt_4 (n + 1) v0 v1 v2 v3 S := rfl
set_option maxRecDepth 100000 in
theorem r_X12_rowAt (v0 : Nat) (v1 : Int32) (S : z_St) : z_seg z_rI (c_X12_rowAt) [4, 28] (fun pc => cond (Nat.beq pc 4) (a_X12_rowAt_4 (l_X12_rowAt_4 z_N)) (fun _ _ _ => none)) 53 (c_X12_rowAt) [(0, .ref v0), (1, .int v1)] [] S = b_X12_rowAt v0 v1 S := rfl
def b_X12_opened (v0 : Nat) (v1 : Int32) (v2 : Int32) (S : z_St) : Option (Int32 × z_St) :=
z_chk S v0 13 (
let S1 := z_wi S v0 0 ((0 : Int32))
z_chk S1 v0 13 (
(f_X12_rowAt v0 v1 S1).bind fun q2 =>
if q2.1 = ((-1 : Int32)) then
(some ((-2000000001 : Int32), q2.2))
else
(z_chk q2.2 v0 13 (
z_onV (va_rf (z_r q2.2 v0 98)) fun b3 =>
z_inb q2.2 b3 101 ((((32 : Int32)) * q2.1) + ((2 : Int32))) (
let x4 := (z_i q2.2 b3 ((((32 : Int32)) * q2.1) + ((2 : Int32))).toNatClampNeg)
(f_X12_in v2.toInt64 ((10 : Int64)) ((((9 : Int32)) + x4).toInt64) q2.2).bind fun q5 =>
if q5.1 = 0 then
(if v2 = 0 then
(z_chk q5.2 v0 13 (
(f_X12_numberOf v0 q2.1 q5.2).bind fun q6 =>
some (q6.1, q6.2)))
else
(if v2 = ((1 : Int32)) then
(some (x4, q5.2))
else
(if v2 = ((2 : Int32)) then
(some (q2.1, q5.2))
else
(some ((-2000000002 : Int32), q5.2)))))
else
(z_chk q5.2 v0 13 (
z_onV (va_rf (z_r q5.2 v0 98)) fun b7 =>
z_inb q5.2 b7 101 (((((32 : Int32)) * q2.1) + v2) - ((7 : Int32))) (
some ((z_i q5.2 b7 (((((32 : Int32)) * q2.1) + v2) - ((7 : Int32))).toNatClampNeg), q5.2)))))))))
def f_X12_opened : Nat → Int32 → Int32 → z_St → Option (Int32 × z_St) := z_op (b_X12_opened)
theorem e_X12_opened (v0 : Nat) (v1 : Int32) (v2 : Int32) (S : z_St) : f_X12_opened v0 v1 v2 S = b_X12_opened v0 v1 v2 S := congrFun (congrFun (congrFun (congrFun (z_op_eq (b_X12_opened)) v0) v1) v2) S
def g_X12_opened : z_G := .inl (fun as S => match as with
  | [.ref v0, .int v1, .int v2] => f_X12_opened v0 v1 v2 S
  | _ => none)
def c_X12_opened : List z_E := [
  (0, .aload_n 0, 1, .null, [], z_g0),
  (1, .iconst 0, 1, .int ((0 : Int32)), [], z_g0),
  (2, .putfield 224, 3, .null, [13, 0, 0], z_g0),
  (5, .aload_n 0, 1, .null, [], z_g0),
  (6, .iload_n 1, 1, .null, [], z_g0),
  (7, .invokevirtual 668, 3, .null, [1, 13, 0], g_X12_rowAt),
  (10, .istore_n 3, 1, .null, [], z_g0),
  (11, .iload_n 3, 1, .null, [], z_g0),
  (12, .iconst (-1), 1, .int ((-1 : Int32)), [], z_g0),
  (13, .if_icmp .ne 7, 3, .null, [20], z_g0),
  (16, .ldc_w 296, 3, .int (-2000000001 : Int32), [], z_g0),
  (19, .ireturn, 1, .null, [], z_g0),
  (20, .aload_n 0, 1, .null, [], z_g0),
  (21, .getfield 221, 3, .null, [13, 98, 3], z_g0),
  (24, .bipush 32, 2, .int ((32 : Int32)), [], z_g0),
  (26, .iload_n 3, 1, .null, [], z_g0),
  (27, .imul, 1, .null, [], z_g0),
  (28, .iconst 2, 1, .int ((2 : Int32)), [], z_g0),
  (29, .iadd, 1, .null, [], z_g0),
  (30, .iaload, 1, .null, [101], z_g0),
  (31, .istore 4, 2, .null, [], z_g0),
  (33, .iload_n 2, 1, .null, [], z_g0),
  (34, .i2l, 1, .null, [], z_g0),
  (35, .ldc2_w 671, 3, .long (10 : Int64), [], z_g0),
  (38, .bipush 9, 2, .int ((9 : Int32)), [], z_g0),
  (40, .iload 4, 2, .null, [], z_g0),
  (42, .iadd, 1, .null, [], z_g0),
  (43, .i2l, 1, .null, [], z_g0),
  (44, .invokestatic 274, 3, .null, [0, 0, 0, 0], g_X12_in),
  (47, .ifCond .eq 18, 3, .null, [65], z_g0),
  (50, .aload_n 0, 1, .null, [], z_g0),
  (51, .getfield 221, 3, .null, [13, 98, 3], z_g0),
  (54, .bipush 32, 2, .int ((32 : Int32)), [], z_g0),
  (56, .iload_n 3, 1, .null, [], z_g0),
  (57, .imul, 1, .null, [], z_g0),
  (58, .iload_n 2, 1, .null, [], z_g0),
  (59, .iadd, 1, .null, [], z_g0),
  (60, .bipush 7, 2, .int ((7 : Int32)), [], z_g0),
  (62, .isub, 1, .null, [], z_g0),
  (63, .iaload, 1, .null, [101], z_g0),
  (64, .ireturn, 1, .null, [], z_g0),
  (65, .iload_n 2, 1, .null, [], z_g0),
  (66, .ifCond .ne 11, 3, .null, [77], z_g0),
  (69, .aload_n 0, 1, .null, [], z_g0),
  (70, .iload_n 3, 1, .null, [], z_g0),
  (71, .invokevirtual 656, 3, .null, [1, 13, 0], g_X12_numberOf),
  (74, .goto 25, 3, .null, [99], z_g0),
  (77, .iload_n 2, 1, .null, [], z_g0),
  (78, .iconst 1, 1, .int ((1 : Int32)), [], z_g0),
  (79, .if_icmp .ne 8, 3, .null, [87], z_g0),
  (82, .iload 4, 2, .null, [], z_g0),
  (84, .goto 15, 3, .null, [99], z_g0),
  (87, .iload_n 2, 1, .null, [], z_g0),
  (88, .iconst 2, 1, .int ((2 : Int32)), [], z_g0),
  (89, .if_icmp .ne 7, 3, .null, [96], z_g0),
  (92, .iload_n 3, 1, .null, [], z_g0),
  (93, .goto 6, 3, .null, [99], z_g0),
  (96, .ldc_w 280, 3, .int (-2000000002 : Int32), [], z_g0),
  (99, .ireturn, 1, .null, [], z_g0)]
set_option maxRecDepth 100000 in
theorem r_X12_opened (v0 : Nat) (v1 : Int32) (v2 : Int32) (S : z_St) : z_seg z_rI (c_X12_opened) [] (fun pc => fun _ _ _ => none) 62 (c_X12_opened) [(0, .ref v0), (1, .int v1), (2, .int v2)] [] S = b_X12_opened v0 v1 v2 S := rfl
def l_X12_lost_40 : Nat → Nat → Int32 → Int32 → Int32 → Int32 → Int32 → z_St → Option (Int32 × z_St)
  | 0 => fun _ _ _ _ _ _ _ => none
  | n + 1 => fun (v0 : Nat) (v2 : Int32) (v3 : Int32) (v4 : Int32) (v5 : Int32) (v6 : Int32) (S : z_St) =>
if ((32 : Int32)) ≤ v6 then
(if v2 = ((-1 : Int32)) then
(some (v4, S))
else
(some (v5, S)))
else
(z_chk S v0 13 (
(f_X12_stateOf v0 v6 S).bind fun q3 =>
if q3.1 = v3 then
(if v4 = v2 then
(let x7 := v4 + (1 : Int32)
let x8 := v6 + (1 : Int32)
l_X12_lost_40 n v0 v2 v3 x7 v6 x8 q3.2)
else
(let x5 := v4 + (1 : Int32)
let x6 := v6 + (1 : Int32)
l_X12_lost_40 n v0 v2 v3 x5 v5 x6 q3.2))
else
(let x4 := v6 + (1 : Int32)
l_X12_lost_40 n v0 v2 v3 v4 v5 x4 q3.2)))
def b_X12_lost (v0 : Nat) (v1 : Int32) (v2 : Int32) (S : z_St) : Option (Int32 × z_St) :=
z_chk S v0 13 (
let S1 := z_wi S v0 0 ((0 : Int32))
(f_X12_in v1.toInt64 ((0 : Int64)) ((2 : Int64)) S1).bind fun q2 =>
if q2.1 = 0 then
(some ((-2000000002 : Int32), q2.2))
else
(if v1 = 0 then
(l_X12_lost_40 z_N v0 v2 ((3 : Int32)) ((0 : Int32)) ((-1 : Int32)) ((0 : Int32)) q2.2)
else
(l_X12_lost_40 z_N v0 v2 v1 ((0 : Int32)) ((-1 : Int32)) ((0 : Int32)) q2.2)))
def f_X12_lost : Nat → Int32 → Int32 → z_St → Option (Int32 × z_St) := z_op (b_X12_lost)
theorem e_X12_lost (v0 : Nat) (v1 : Int32) (v2 : Int32) (S : z_St) : f_X12_lost v0 v1 v2 S = b_X12_lost v0 v1 v2 S := congrFun (congrFun (congrFun (congrFun (z_op_eq (b_X12_lost)) v0) v1) v2) S
def g_X12_lost : z_G := .inl (fun as S => match as with
  | [.ref v0, .int v1, .int v2] => f_X12_lost v0 v1 v2 S
  | _ => none)
def c_X12_lost : List z_E := [
  (0, .aload_n 0, 1, .null, [], z_g0),
  (1, .iconst 0, 1, .int ((0 : Int32)), [], z_g0),
  (2, .putfield 224, 3, .null, [13, 0, 0], z_g0),
  (5, .iload_n 1, 1, .null, [], z_g0),
  (6, .i2l, 1, .null, [], z_g0),
  (7, .lconst 0, 1, .long (0 : Int64), [], z_g0),
  (8, .ldc2_w 265, 3, .long (2 : Int64), [], z_g0),
  (11, .invokestatic 274, 3, .null, [0, 0, 0, 0], g_X12_in),
  (14, .ifCond .ne 7, 3, .null, [21], z_g0),
  (17, .ldc_w 280, 3, .int (-2000000002 : Int32), [], z_g0),
  (20, .ireturn, 1, .null, [], z_g0),
  (21, .iload_n 1, 1, .null, [], z_g0),
  (22, .ifCond .ne 7, 3, .null, [29], z_g0),
  (25, .iconst 3, 1, .int ((3 : Int32)), [], z_g0),
  (26, .goto 4, 3, .null, [30], z_g0),
  (29, .iload_n 1, 1, .null, [], z_g0),
  (30, .istore_n 3, 1, .null, [], z_g0),
  (31, .iconst 0, 1, .int ((0 : Int32)), [], z_g0),
  (32, .istore 4, 2, .null, [], z_g0),
  (34, .iconst (-1), 1, .int ((-1 : Int32)), [], z_g0),
  (35, .istore 5, 2, .null, [], z_g0),
  (37, .iconst 0, 1, .int ((0 : Int32)), [], z_g0),
  (38, .istore 6, 2, .null, [], z_g0),
  (40, .iload 6, 2, .null, [], z_g0),
  (42, .bipush 32, 2, .int ((32 : Int32)), [], z_g0),
  (44, .if_icmp .ge 37, 3, .null, [81], z_g0),
  (47, .aload_n 0, 1, .null, [], z_g0),
  (48, .iload 6, 2, .null, [], z_g0),
  (50, .invokevirtual 665, 3, .null, [1, 13, 0], g_X12_stateOf),
  (53, .iload_n 3, 1, .null, [], z_g0),
  (54, .if_icmp .ne 21, 3, .null, [75], z_g0),
  (57, .iload 4, 2, .null, [], z_g0),
  (59, .iload_n 2, 1, .null, [], z_g0),
  (60, .if_icmp .ne 8, 3, .null, [68], z_g0),
  (63, .iload 6, 2, .null, [], z_g0),
  (65, .goto 5, 3, .null, [70], z_g0),
  (68, .iload 5, 2, .null, [], z_g0),
  (70, .istore 5, 2, .null, [], z_g0),
  (72, .iinc 4 1, 3, .int (1 : Int32), [], z_g0),
  (75, .iinc 6 1, 3, .int (1 : Int32), [], z_g0),
  (78, .goto (-38), 3, .null, [40], z_g0),
  (81, .iload_n 2, 1, .null, [], z_g0),
  (82, .iconst (-1), 1, .int ((-1 : Int32)), [], z_g0),
  (83, .if_icmp .ne 8, 3, .null, [91], z_g0),
  (86, .iload 4, 2, .null, [], z_g0),
  (88, .goto 5, 3, .null, [93], z_g0),
  (91, .iload 5, 2, .null, [], z_g0),
  (93, .ireturn, 1, .null, [], z_g0)]
def a_X12_lost_40 {ρ : Type} (k : Nat → Int32 → Int32 → Int32 → Int32 → Int32 → z_St → Option ρ) (ls : z_Lv) (st : List Value) (S : z_St) : Option ρ := z_gR ls 0 fun v0 => z_gI ls 2 fun v2 => z_gI ls 3 fun v3 => z_gI ls 4 fun v4 => z_gI ls 5 fun v5 => z_gI ls 6 fun v6 => z_p0 st (k v0 v2 v3 v4 v5 v6 S)
set_option maxRecDepth 100000 in
theorem r_X12_lost_40 (n : Nat) (v0 : Nat) (v2 : Int32) (v3 : Int32) (v4 : Int32) (v5 : Int32) (v6 : Int32) (S : z_St) : z_seg z_rI (c_X12_lost) [40] (fun pc => cond (Nat.beq pc 40) (a_X12_lost_40 (l_X12_lost_40 n)) (fun _ _ _ => none)) 51 (z_to 40 (c_X12_lost)) [(0, .ref v0), (2, .int v2), (3, .int v3), (4, .int v4), (5, .int v5), (6, .int v6)] [] S = l_X12_lost_40 (n + 1) v0 v2 v3 v4 v5 v6 S := rfl
set_option maxRecDepth 100000 in
theorem r_X12_lost (v0 : Nat) (v1 : Int32) (v2 : Int32) (S : z_St) : z_seg z_rI (c_X12_lost) [40] (fun pc => cond (Nat.beq pc 40) (a_X12_lost_40 (l_X12_lost_40 z_N)) (fun _ _ _ => none)) 51 (c_X12_lost) [(0, .ref v0), (1, .int v1), (2, .int v2)] [] S = b_X12_lost v0 v1 v2 S := rfl
def j_X0_tryPlan_79 (kp : Nat → Nat → Int32 → Int32 → z_St → Option (Int64 × z_St)) (v0 : Nat) (v1 : Nat) (v3 : Int32) (v5 : Int32) (v6 : Int64) (S : z_St) : Option (Int64 × z_St) :=
if v5 = ((-1 : Int32)) then
(some (v6, S))
else
(z_chk S v0 1 (
(kp v0 v1 v5 (v3 + ((1 : Int32))) S).bind fun q11 =>
if (lg_cmp q11.1 ((0 : Int64))) = 0 then
(some (v6, q11.2))
else
(if (lg_cmp v6 ((0 : Int64))) = 0 then
(some (q11.1, q11.2))
else
(z_chk q11.2 v0 1 (
z_chk q11.2 v0 1 (
let S12 := z_wi q11.2 v0 9 (((z_i q11.2 v0 9)) + ((1 : Int32)))
some (q11.1, S12)))))))
def b_X0_tryPlan (kp : Nat → Nat → Int32 → Int32 → z_St → Option (Int64 × z_St)) (v0 : Nat) (v1 : Nat) (v2 : Int32) (v3 : Int32) (S : z_St) : Option (Int64 × z_St) :=
z_chk S v0 1 (
z_onV (va_rf (z_r S v0 0)) fun b1 =>
z_inb S b1 101 (v2 + ((3 : Int32))) (
let x2 := (z_i S b1 (v2 + ((3 : Int32))).toNatClampNeg)
z_chk S v0 1 (
z_onV (va_rf (z_r S v0 0)) fun b3 =>
z_inb S b3 101 (v2 + ((4 : Int32))) (
let x4 := (z_i S b3 (v2 + ((4 : Int32))).toNatClampNeg)
z_chk S v0 1 (
z_onV (va_rf (z_r S v0 0)) fun b5 =>
z_inb S b5 101 (v2 + ((1 : Int32))) (
z_chk S v0 1 (
(kp v0 v1 ((z_i S b5 (v2 + ((1 : Int32))).toNatClampNeg)) (v3 + ((1 : Int32))) S).bind fun q6 =>
(f_X0_wayOf q6.1 q6.2).bind fun q7 =>
z_chk q7.2 v0 1 (
z_onV (va_rf (z_r q7.2 v0 0)) fun b8 =>
z_inb q7.2 b8 101 (v2 + ((2 : Int32))) (
(f_X0_isCaught q7.1 ((z_i q7.2 b8 (v2 + ((2 : Int32))).toNatClampNeg)) q7.2).bind fun q9 =>
if q9.1 = 0 then
(j_X0_tryPlan_79 kp v0 v1 v3 x4 q6.1 q9.2)
else
(if x2 = ((-1 : Int32)) then
(j_X0_tryPlan_79 kp v0 v1 v3 x4 ((0 : Int64)) q9.2)
else
(z_chk q9.2 v0 1 (
(kp v0 v1 x2 (v3 + ((1 : Int32))) q9.2).bind fun q10 =>
j_X0_tryPlan_79 kp v0 v1 v3 x4 q10.1 q10.2))))))))))))
def f_X0_tryPlan (kp : Nat → Nat → Int32 → Int32 → z_St → Option (Int64 × z_St)) : Nat → Nat → Int32 → Int32 → z_St → Option (Int64 × z_St) := z_op (b_X0_tryPlan kp)
theorem e_X0_tryPlan (kp : Nat → Nat → Int32 → Int32 → z_St → Option (Int64 × z_St)) (v0 : Nat) (v1 : Nat) (v2 : Int32) (v3 : Int32) (S : z_St) : f_X0_tryPlan kp v0 v1 v2 v3 S = b_X0_tryPlan kp v0 v1 v2 v3 S := congrFun (congrFun (congrFun (congrFun (congrFun (z_op_eq (b_X0_tryPlan kp)) v0) v1) v2) v3) S
def g_X0_tryPlan (kp : Nat → Nat → Int32 → Int32 → z_St → Option (Int64 × z_St)) : z_G := .inr (.inl (fun as S => match as with
  | [.ref v0, .ref v1, .int v2, .int v3] => f_X0_tryPlan kp v0 v1 v2 v3 S
  | _ => none))
def c_X0_tryPlan (kp : Nat → Nat → Int32 → Int32 → z_St → Option (Int64 × z_St)) : List z_E := [
  (0, .aload_n 0, 1, .null, [], z_g0),
  (1, .getfield 11, 3, .null, [1, 0, 3], z_g0),
  (4, .iload_n 2, 1, .null, [], z_g0),
  (5, .iconst 3, 1, .int ((3 : Int32)), [], z_g0),
  (6, .iadd, 1, .null, [], z_g0),
  (7, .iaload, 1, .null, [101], z_g0),
  (8, .istore 4, 2, .null, [], z_g0),
  (10, .aload_n 0, 1, .null, [], z_g0),
  (11, .getfield 11, 3, .null, [1, 0, 3], z_g0),
  (14, .iload_n 2, 1, .null, [], z_g0),
  (15, .iconst 4, 1, .int ((4 : Int32)), [], z_g0),
  (16, .iadd, 1, .null, [], z_g0),
  (17, .iaload, 1, .null, [101], z_g0),
  (18, .istore 5, 2, .null, [], z_g0),
  (20, .aload_n 0, 1, .null, [], z_g0),
  (21, .aload_n 1, 1, .null, [], z_g0),
  (22, .aload_n 0, 1, .null, [], z_g0),
  (23, .getfield 11, 3, .null, [1, 0, 3], z_g0),
  (26, .iload_n 2, 1, .null, [], z_g0),
  (27, .iconst 1, 1, .int ((1 : Int32)), [], z_g0),
  (28, .iadd, 1, .null, [], z_g0),
  (29, .iaload, 1, .null, [101], z_g0),
  (30, .iload_n 3, 1, .null, [], z_g0),
  (31, .iconst 1, 1, .int ((1 : Int32)), [], z_g0),
  (32, .iadd, 1, .null, [], z_g0),
  (33, .invokevirtual 62, 3, .null, [1, 1, 0, 0, 1], (.inr (.inl (fun as S => match as with | [.ref a, .ref b, .int c, .int e] => kp a b c e S | _ => none)))),
  (36, .lstore 6, 2, .null, [], z_g0),
  (38, .lload 6, 2, .null, [], z_g0),
  (40, .invokestatic 66, 3, .null, [0, 0], g_X0_wayOf),
  (43, .aload_n 0, 1, .null, [], z_g0),
  (44, .getfield 11, 3, .null, [1, 0, 3], z_g0),
  (47, .iload_n 2, 1, .null, [], z_g0),
  (48, .iconst 2, 1, .int ((2 : Int32)), [], z_g0),
  (49, .iadd, 1, .null, [], z_g0),
  (50, .iaload, 1, .null, [101], z_g0),
  (51, .invokestatic 143, 3, .null, [0, 0, 0], g_X0_isCaught),
  (54, .ifCond .eq 25, 3, .null, [79], z_g0),
  (57, .iload 4, 2, .null, [], z_g0),
  (59, .iconst (-1), 1, .int ((-1 : Int32)), [], z_g0),
  (60, .if_icmp .ne 7, 3, .null, [67], z_g0),
  (63, .lconst 0, 1, .long (0 : Int64), [], z_g0),
  (64, .goto 13, 3, .null, [77], z_g0),
  (67, .aload_n 0, 1, .null, [], z_g0),
  (68, .aload_n 1, 1, .null, [], z_g0),
  (69, .iload 4, 2, .null, [], z_g0),
  (71, .iload_n 3, 1, .null, [], z_g0),
  (72, .iconst 1, 1, .int ((1 : Int32)), [], z_g0),
  (73, .iadd, 1, .null, [], z_g0),
  (74, .invokevirtual 62, 3, .null, [1, 1, 0, 0, 1], (.inr (.inl (fun as S => match as with | [.ref a, .ref b, .int c, .int e] => kp a b c e S | _ => none)))),
  (77, .lstore 6, 2, .null, [], z_g0),
  (79, .iload 5, 2, .null, [], z_g0),
  (81, .iconst (-1), 1, .int ((-1 : Int32)), [], z_g0),
  (82, .if_icmp .ne 6, 3, .null, [88], z_g0),
  (85, .lload 6, 2, .null, [], z_g0),
  (87, .lreturn, 1, .null, [], z_g0),
  (88, .aload_n 0, 1, .null, [], z_g0),
  (89, .aload_n 1, 1, .null, [], z_g0),
  (90, .iload 5, 2, .null, [], z_g0),
  (92, .iload_n 3, 1, .null, [], z_g0),
  (93, .iconst 1, 1, .int ((1 : Int32)), [], z_g0),
  (94, .iadd, 1, .null, [], z_g0),
  (95, .invokevirtual 62, 3, .null, [1, 1, 0, 0, 1], (.inr (.inl (fun as S => match as with | [.ref a, .ref b, .int c, .int e] => kp a b c e S | _ => none)))),
  (98, .lstore 8, 2, .null, [], z_g0),
  (100, .lload 8, 2, .null, [], z_g0),
  (102, .lconst 0, 1, .long (0 : Int64), [], z_g0),
  (103, .lcmp, 1, .null, [], z_g0),
  (104, .ifCond .ne 6, 3, .null, [110], z_g0),
  (107, .lload 6, 2, .null, [], z_g0),
  (109, .lreturn, 1, .null, [], z_g0),
  (110, .lload 6, 2, .null, [], z_g0),
  (112, .lconst 0, 1, .long (0 : Int64), [], z_g0),
  (113, .lcmp, 1, .null, [], z_g0),
  (114, .ifCond .eq 13, 3, .null, [127], z_g0),
  (117, .aload_n 0, 1, .null, [], z_g0),
  (118, .dup, 1, .null, [], z_g0),
  (119, .getfield 52, 3, .null, [1, 9, 0], z_g0),
  (122, .iconst 1, 1, .int ((1 : Int32)), [], z_g0),
  (123, .iadd, 1, .null, [], z_g0),
  (124, .putfield 52, 3, .null, [1, 9, 0], z_g0),
  (127, .lload 8, 2, .null, [], z_g0),
  (129, .lreturn, 1, .null, [], z_g0)]
def a_X0_tryPlan_79 {ρ : Type} (k : Nat → Nat → Int32 → Int32 → Int64 → z_St → Option ρ) (ls : z_Lv) (st : List Value) (S : z_St) : Option ρ := z_gR ls 0 fun v0 => z_gR ls 1 fun v1 => z_gI ls 3 fun v3 => z_gI ls 5 fun v5 => z_gJ ls 6 fun v6 => z_p0 st (k v0 v1 v3 v5 v6 S)
set_option maxRecDepth 100000 in
theorem r_X0_tryPlan_79 (kp : Nat → Nat → Int32 → Int32 → z_St → Option (Int64 × z_St)) (v0 : Nat) (v1 : Nat) (v3 : Int32) (v5 : Int32) (v6 : Int64) (S : z_St) : z_seg z_rL (c_X0_tryPlan kp) [79] (fun pc => fun _ _ _ => none) 84 (z_to 79 (c_X0_tryPlan kp)) [(0, .ref v0), (1, .ref v1), (3, .int v3), (5, .int v5), (6, .long v6)] [] S = j_X0_tryPlan_79 kp v0 v1 v3 v5 v6 S := rfl
set_option maxRecDepth 100000 in
theorem r_X0_tryPlan (kp : Nat → Nat → Int32 → Int32 → z_St → Option (Int64 × z_St)) (v0 : Nat) (v1 : Nat) (v2 : Int32) (v3 : Int32) (S : z_St) : z_seg z_rL (c_X0_tryPlan kp) [79] (fun pc => cond (Nat.beq pc 79) (a_X0_tryPlan_79 (j_X0_tryPlan_79 kp)) (fun _ _ _ => none)) 84 (c_X0_tryPlan kp) [(0, .ref v0), (1, .ref v1), (2, .int v2), (3, .int v3)] [] S = b_X0_tryPlan kp v0 v1 v2 v3 S := rfl
def b_X0_doStep (kp : Nat → Nat → Int32 → Int32 → z_St → Option (Int64 × z_St)) (v0 : Nat) (v1 : Nat) (v2 : Int32) (v3 : Int32) (S : z_St) : Option (Int64 × z_St) :=
z_chk S v0 1 (
z_onV (va_rf (z_r S v0 0)) fun b1 =>
z_inb S b1 101 (v2 + ((1 : Int32))) (
let x2 := (z_i S b1 (v2 + ((1 : Int32))).toNatClampNeg)
z_chk S v0 1 (
z_onV (va_rf (z_r S v0 0)) fun b3 =>
z_inb S b3 101 (v2 + ((2 : Int32))) (
let x4 := (z_i S b3 (v2 + ((2 : Int32))).toNatClampNeg)
z_chk S v0 1 (
z_onV (va_rf (z_r S v0 0)) fun b5 =>
z_inb S b5 101 v2 (
if ((z_i S b5 v2.toNatClampNeg)) = (0 : Int32) then
(z_chk S v0 1 (
z_onV (va_rf (z_r S v0 0)) fun b6 =>
z_inb S b6 101 (v2 + ((3 : Int32))) (
z_chk S v0 1 (
(f_X0_putCell v0 v1 x2 x4 ((z_i S b6 (v2 + ((3 : Int32))).toNatClampNeg)) S).bind fun q7 =>
some (q7.1, q7.2)))))
else
if ((z_i S b5 v2.toNatClampNeg)) = (1 : Int32) then
(z_chk S v0 1 (
(f_X0_takeLitres v0 x2 S).bind fun q8 =>
some (q8.1, q8.2)))
else
if ((z_i S b5 v2.toNatClampNeg)) = (2 : Int32) then
(if x2 = ((7 : Int32)) then
((f_X0_outcomeOf x2 x4 S).bind fun q9 =>
some (q9.1, q9.2))
else
(if x2 = ((8 : Int32)) then
((f_X0_outcomeOf x2 x4 S).bind fun q11 =>
some (q11.1, q11.2))
else
((f_X0_outcomeOf x2 ((0 : Int32)) S).bind fun q10 =>
some (q10.1, q10.2))))
else
if ((z_i S b5 v2.toNatClampNeg)) = (3 : Int32) then
(z_chk S v0 1 (
z_onV (va_rf (z_r S v0 3)) fun b12 =>
z_inb S b12 101 x2 (
z_inb S b12 101 x2 (
let S13 := z_wi S b12 x2.toNatClampNeg (((z_i S b12 x2.toNatClampNeg)) + ((1 : Int32)))
some ((0 : Int64), S13)))))
else
if ((z_i S b5 v2.toNatClampNeg)) = (4 : Int32) then
(z_chk S v0 1 (
(f_X0_turnGate v0 x2 x4 S).bind fun q14 =>
some (q14.1, q14.2)))
else
if ((z_i S b5 v2.toNatClampNeg)) = (5 : Int32) then
(z_chk S v0 1 (
(f_X0_keepSignal v0 x2 S).bind fun q15 =>
some ((0 : Int64), q15)))
else
if ((z_i S b5 v2.toNatClampNeg)) = (6 : Int32) then
(z_chk S v0 1 (
(kp v0 v1 x2 (v3 + ((1 : Int32))) S).bind fun q16 =>
some (q16.1, q16.2)))
else
if ((z_i S b5 v2.toNatClampNeg)) = (7 : Int32) then
(z_chk S v0 1 (
(f_X0_tryPlan kp v0 v1 v2 v3 S).bind fun q17 =>
some (q17.1, q17.2)))
else
if ((z_i S b5 v2.toNatClampNeg)) = (8 : Int32) then
((f_X0_outcomeOf ((9 : Int32)) x2 S).bind fun q18 =>
some (q18.1, q18.2))
else
(z_chk S v0 1 (
(f_X0_sumInto v0 x2 x4 S).bind fun q19 =>
some (q19.1, q19.2)))))))))
def f_X0_doStep (kp : Nat → Nat → Int32 → Int32 → z_St → Option (Int64 × z_St)) : Nat → Nat → Int32 → Int32 → z_St → Option (Int64 × z_St) := z_op (b_X0_doStep kp)
theorem e_X0_doStep (kp : Nat → Nat → Int32 → Int32 → z_St → Option (Int64 × z_St)) (v0 : Nat) (v1 : Nat) (v2 : Int32) (v3 : Int32) (S : z_St) : f_X0_doStep kp v0 v1 v2 v3 S = b_X0_doStep kp v0 v1 v2 v3 S := congrFun (congrFun (congrFun (congrFun (congrFun (z_op_eq (b_X0_doStep kp)) v0) v1) v2) v3) S
def g_X0_doStep (kp : Nat → Nat → Int32 → Int32 → z_St → Option (Int64 × z_St)) : z_G := .inr (.inl (fun as S => match as with
  | [.ref v0, .ref v1, .int v2, .int v3] => f_X0_doStep kp v0 v1 v2 v3 S
  | _ => none))
def c_X0_doStep (kp : Nat → Nat → Int32 → Int32 → z_St → Option (Int64 × z_St)) : List z_E := [
  (0, .aload_n 0, 1, .null, [], z_g0),
  (1, .getfield 11, 3, .null, [1, 0, 3], z_g0),
  (4, .iload_n 2, 1, .null, [], z_g0),
  (5, .iconst 1, 1, .int ((1 : Int32)), [], z_g0),
  (6, .iadd, 1, .null, [], z_g0),
  (7, .iaload, 1, .null, [101], z_g0),
  (8, .istore 4, 2, .null, [], z_g0),
  (10, .aload_n 0, 1, .null, [], z_g0),
  (11, .getfield 11, 3, .null, [1, 0, 3], z_g0),
  (14, .iload_n 2, 1, .null, [], z_g0),
  (15, .iconst 2, 1, .int ((2 : Int32)), [], z_g0),
  (16, .iadd, 1, .null, [], z_g0),
  (17, .iaload, 1, .null, [101], z_g0),
  (18, .istore 5, 2, .null, [], z_g0),
  (20, .aload_n 0, 1, .null, [], z_g0),
  (21, .getfield 11, 3, .null, [1, 0, 3], z_g0),
  (24, .iload_n 2, 1, .null, [], z_g0),
  (25, .iaload, 1, .null, [101], z_g0),
  (26, .tableswitch 158 0 8 #[50, 68, 75, 101, 114, 123, 131, 142, 150], 50, .null, [184, 0, 76, 94, 101, 127, 140, 149, 157, 168, 176], z_g0),
  (76, .aload_n 0, 1, .null, [], z_g0),
  (77, .aload_n 1, 1, .null, [], z_g0),
  (78, .iload 4, 2, .null, [], z_g0),
  (80, .iload 5, 2, .null, [], z_g0),
  (82, .aload_n 0, 1, .null, [], z_g0),
  (83, .getfield 11, 3, .null, [1, 0, 3], z_g0),
  (86, .iload_n 2, 1, .null, [], z_g0),
  (87, .iconst 3, 1, .int ((3 : Int32)), [], z_g0),
  (88, .iadd, 1, .null, [], z_g0),
  (89, .iaload, 1, .null, [101], z_g0),
  (90, .invokevirtual 95, 3, .null, [1, 1, 0, 0, 0, 1], g_X0_putCell),
  (93, .lreturn, 1, .null, [], z_g0),
  (94, .aload_n 0, 1, .null, [], z_g0),
  (95, .iload 4, 2, .null, [], z_g0),
  (97, .invokevirtual 99, 3, .null, [1, 1, 0], g_X0_takeLitres),
  (100, .lreturn, 1, .null, [], z_g0),
  (101, .iload 4, 2, .null, [], z_g0),
  (103, .iload 4, 2, .null, [], z_g0),
  (105, .bipush 7, 2, .int ((7 : Int32)), [], z_g0),
  (107, .if_icmp .eq 10, 3, .null, [117], z_g0),
  (110, .iload 4, 2, .null, [], z_g0),
  (112, .bipush 8, 2, .int ((8 : Int32)), [], z_g0),
  (114, .if_icmp .ne 8, 3, .null, [122], z_g0),
  (117, .iload 5, 2, .null, [], z_g0),
  (119, .goto 4, 3, .null, [123], z_g0),
  (122, .iconst 0, 1, .int ((0 : Int32)), [], z_g0),
  (123, .invokestatic 84, 3, .null, [0, 0, 0], g_X0_outcomeOf),
  (126, .lreturn, 1, .null, [], z_g0),
  (127, .aload_n 0, 1, .null, [], z_g0),
  (128, .getfield 18, 3, .null, [1, 3, 3], z_g0),
  (131, .iload 4, 2, .null, [], z_g0),
  (133, .dup2, 1, .null, [1], z_g0),
  (134, .iaload, 1, .null, [101], z_g0),
  (135, .iconst 1, 1, .int ((1 : Int32)), [], z_g0),
  (136, .iadd, 1, .null, [], z_g0),
  (137, .iastore, 1, .null, [], z_g0),
  (138, .lconst 0, 1, .long (0 : Int64), [], z_g0),
  (139, .lreturn, 1, .null, [], z_g0),
  (140, .aload_n 0, 1, .null, [], z_g0),
  (141, .iload 4, 2, .null, [], z_g0),
  (143, .iload 5, 2, .null, [], z_g0),
  (145, .invokevirtual 103, 3, .null, [1, 1, 0, 0], g_X0_turnGate),
  (148, .lreturn, 1, .null, [], z_g0),
  (149, .aload_n 0, 1, .null, [], z_g0),
  (150, .iload 4, 2, .null, [], z_g0),
  (152, .invokevirtual 106, 3, .null, [1, 1, 0], g_X0_keepSignal),
  (155, .lconst 0, 1, .long (0 : Int64), [], z_g0),
  (156, .lreturn, 1, .null, [], z_g0),
  (157, .aload_n 0, 1, .null, [], z_g0),
  (158, .aload_n 1, 1, .null, [], z_g0),
  (159, .iload 4, 2, .null, [], z_g0),
  (161, .iload_n 3, 1, .null, [], z_g0),
  (162, .iconst 1, 1, .int ((1 : Int32)), [], z_g0),
  (163, .iadd, 1, .null, [], z_g0),
  (164, .invokevirtual 62, 3, .null, [1, 1, 0, 0, 1], (.inr (.inl (fun as S => match as with | [.ref a, .ref b, .int c, .int e] => kp a b c e S | _ => none)))),
  (167, .lreturn, 1, .null, [], z_g0),
  (168, .aload_n 0, 1, .null, [], z_g0),
  (169, .aload_n 1, 1, .null, [], z_g0),
  (170, .iload_n 2, 1, .null, [], z_g0),
  (171, .iload_n 3, 1, .null, [], z_g0),
  (172, .invokevirtual 110, 3, .null, [1, 1, 0, 0, 1], (g_X0_tryPlan kp)),
  (175, .lreturn, 1, .null, [], z_g0),
  (176, .bipush 9, 2, .int ((9 : Int32)), [], z_g0),
  (178, .iload 4, 2, .null, [], z_g0),
  (180, .invokestatic 84, 3, .null, [0, 0, 0], g_X0_outcomeOf),
  (183, .lreturn, 1, .null, [], z_g0),
  (184, .aload_n 0, 1, .null, [], z_g0),
  (185, .iload 4, 2, .null, [], z_g0),
  (187, .iload 5, 2, .null, [], z_g0),
  (189, .invokevirtual 113, 3, .null, [1, 1, 0, 0], g_X0_sumInto),
  (192, .lreturn, 1, .null, [], z_g0)]
set_option maxRecDepth 100000 in
theorem r_X0_doStep (kp : Nat → Nat → Int32 → Int32 → z_St → Option (Int64 × z_St)) (v0 : Nat) (v1 : Nat) (v2 : Int32) (v3 : Int32) (S : z_St) : z_seg z_rL (c_X0_doStep kp) [] (fun pc => fun _ _ _ => none) 93 (c_X0_doStep kp) [(0, .ref v0), (1, .ref v1), (2, .int v2), (3, .int v3)] [] S = b_X0_doStep kp v0 v1 v2 v3 S := rfl
def l_X0_doPlan_22 (kp : Nat → Nat → Int32 → Int32 → z_St → Option (Int64 × z_St)) : Nat → Nat → Nat → Int32 → Int32 → Int64 → Int32 → Int32 → z_St → Option (Int64 × z_St)
  | 0 => fun _ _ _ _ _ _ _ _ => none
  | n + 1 => fun (v0 : Nat) (v1 : Nat) (v2 : Int32) (v3 : Int32) (v4 : Int64) (v6 : Int32) (v7 : Int32) (S : z_St) =>
z_chk S v0 1 (
z_onV (va_rf (z_r S v0 1)) fun b2 =>
z_inb S b2 101 v2 (
if ((z_i S b2 v2.toNatClampNeg)) ≤ v7 then
(z_chk S v0 1 (
(f_X0_letGo v0 v2 v6 S).bind fun q3 =>
some (v4, q3)))
else
(if (lg_cmp v4 ((0 : Int64))) = 0 then
(z_chk S v0 1 (
if ((z_i S v0 8)) < ((48 : Int32)) then
(z_chk S v0 1 (
z_chk S v0 1 (
let S5 := z_wi S v0 8 (((z_i S v0 8)) + ((1 : Int32)))
let x6 := v6 + (1 : Int32)
(f_X0_stepAt v2 v7 S5).bind fun q7 =>
z_chk q7.2 v0 1 (
(f_X0_doStep kp v0 v1 q7.1 v3 q7.2).bind fun q8 =>
let x9 := v7 + (1 : Int32)
l_X0_doPlan_22 kp n v0 v1 v2 v3 q8.1 x6 x9 q8.2))))
else
((f_X0_outcomeOf ((8 : Int32)) ((3 : Int32)) S).bind fun q10 =>
let x11 := v7 + (1 : Int32)
l_X0_doPlan_22 kp n v0 v1 v2 v3 q10.1 v6 x11 q10.2)))
else
(z_chk S v0 1 (
(f_X0_letGo v0 v2 v6 S).bind fun q4 =>
some (v4, q4))))))
def f_X0_doPlan : Nat → Nat → Nat → Int32 → Int32 → z_St → Option (Int64 × z_St)
  | 0 => fun _ _ _ _ _ => none
  | d + 1 => fun (v0 : Nat) (v1 : Nat) (v2 : Int32) (v3 : Int32) (S : z_St) =>
if v3 ≤ ((8 : Int32)) then
(l_X0_doPlan_22 (f_X0_doPlan d) z_N v0 v1 v2 v3 ((0 : Int64)) ((0 : Int32)) ((0 : Int32)) S)
else
((f_X0_outcomeOf ((8 : Int32)) ((3 : Int32)) S).bind fun q1 =>
some (q1.1, q1.2))
def g_X0_doPlan (d : Nat) : z_G := .inr (.inl (fun as S => match as with
  | [.ref v0, .ref v1, .int v2, .int v3] => f_X0_doPlan d v0 v1 v2 v3 S
  | _ => none))
def c_X0_doPlan (kp : Nat → Nat → Int32 → Int32 → z_St → Option (Int64 × z_St)) : List z_E := [
  (0, .iload_n 3, 1, .null, [], z_g0),
  (1, .bipush 8, 2, .int ((8 : Int32)), [], z_g0),
  (3, .if_icmp .le 10, 3, .null, [13], z_g0),
  (6, .bipush 8, 2, .int ((8 : Int32)), [], z_g0),
  (8, .iconst 3, 1, .int ((3 : Int32)), [], z_g0),
  (9, .invokestatic 84, 3, .null, [0, 0, 0], g_X0_outcomeOf),
  (12, .lreturn, 1, .null, [], z_g0),
  (13, .lconst 0, 1, .long (0 : Int64), [], z_g0),
  (14, .lstore 4, 2, .null, [], z_g0),
  (16, .iconst 0, 1, .int ((0 : Int32)), [], z_g0),
  (17, .istore 6, 2, .null, [], z_g0),
  (19, .iconst 0, 1, .int ((0 : Int32)), [], z_g0),
  (20, .istore 7, 2, .null, [], z_g0),
  (22, .iload 7, 2, .null, [], z_g0),
  (24, .aload_n 0, 1, .null, [], z_g0),
  (25, .getfield 15, 3, .null, [1, 1, 3], z_g0),
  (28, .iload_n 2, 1, .null, [], z_g0),
  (29, .iaload, 1, .null, [101], z_g0),
  (30, .if_icmp .ge 63, 3, .null, [93], z_g0),
  (33, .lload 4, 2, .null, [], z_g0),
  (35, .lconst 0, 1, .long (0 : Int64), [], z_g0),
  (36, .lcmp, 1, .null, [], z_g0),
  (37, .ifCond .ne 56, 3, .null, [93], z_g0),
  (40, .aload_n 0, 1, .null, [], z_g0),
  (41, .getfield 48, 3, .null, [1, 8, 0], z_g0),
  (44, .bipush 48, 2, .int ((48 : Int32)), [], z_g0),
  (46, .if_icmp .lt 14, 3, .null, [60], z_g0),
  (49, .bipush 8, 2, .int ((8 : Int32)), [], z_g0),
  (51, .iconst 3, 1, .int ((3 : Int32)), [], z_g0),
  (52, .invokestatic 84, 3, .null, [0, 0, 0], g_X0_outcomeOf),
  (55, .lstore 4, 2, .null, [], z_g0),
  (57, .goto 30, 3, .null, [87], z_g0),
  (60, .aload_n 0, 1, .null, [], z_g0),
  (61, .dup, 1, .null, [], z_g0),
  (62, .getfield 48, 3, .null, [1, 8, 0], z_g0),
  (65, .iconst 1, 1, .int ((1 : Int32)), [], z_g0),
  (66, .iadd, 1, .null, [], z_g0),
  (67, .putfield 48, 3, .null, [1, 8, 0], z_g0),
  (70, .iinc 6 1, 3, .int (1 : Int32), [], z_g0),
  (73, .aload_n 0, 1, .null, [], z_g0),
  (74, .aload_n 1, 1, .null, [], z_g0),
  (75, .iload_n 2, 1, .null, [], z_g0),
  (76, .iload 7, 2, .null, [], z_g0),
  (78, .invokestatic 42, 3, .null, [0, 0, 0], g_X0_stepAt),
  (81, .iload_n 3, 1, .null, [], z_g0),
  (82, .invokevirtual 88, 3, .null, [1, 1, 0, 0, 1], (g_X0_doStep kp)),
  (85, .lstore 4, 2, .null, [], z_g0),
  (87, .iinc 7 1, 3, .int (1 : Int32), [], z_g0),
  (90, .goto (-68), 3, .null, [22], z_g0),
  (93, .aload_n 0, 1, .null, [], z_g0),
  (94, .iload_n 2, 1, .null, [], z_g0),
  (95, .iload 6, 2, .null, [], z_g0),
  (97, .invokevirtual 91, 3, .null, [1, 1, 0, 0], g_X0_letGo),
  (100, .lload 4, 2, .null, [], z_g0),
  (102, .lreturn, 1, .null, [], z_g0)]
def a_X0_doPlan_22 {ρ : Type} (k : Nat → Nat → Int32 → Int32 → Int64 → Int32 → Int32 → z_St → Option ρ) (ls : z_Lv) (st : List Value) (S : z_St) : Option ρ := z_gR ls 0 fun v0 => z_gR ls 1 fun v1 => z_gI ls 2 fun v2 => z_gI ls 3 fun v3 => z_gJ ls 4 fun v4 => z_gI ls 6 fun v6 => z_gI ls 7 fun v7 => z_p0 st (k v0 v1 v2 v3 v4 v6 v7 S)
set_option maxRecDepth 100000 in
theorem r_X0_doPlan_22 (kp : Nat → Nat → Int32 → Int32 → z_St → Option (Int64 × z_St)) (n : Nat) (v0 : Nat) (v1 : Nat) (v2 : Int32) (v3 : Int32) (v4 : Int64) (v6 : Int32) (v7 : Int32) (S : z_St) : z_seg z_rL (c_X0_doPlan kp) [22] (fun pc => cond (Nat.beq pc 22) (a_X0_doPlan_22 (l_X0_doPlan_22 kp n)) (fun _ _ _ => none)) 58 (z_to 22 (c_X0_doPlan kp)) [(0, .ref v0), (1, .ref v1), (2, .int v2), (3, .int v3), (4, .long v4), (6, .int v6), (7, .int v7)] [] S = l_X0_doPlan_22 kp (n + 1) v0 v1 v2 v3 v4 v6 v7 S := rfl
set_option maxRecDepth 100000 in
theorem r_X0_doPlan (d : Nat) (v0 : Nat) (v1 : Nat) (v2 : Int32) (v3 : Int32) (S : z_St) : z_seg z_rL (c_X0_doPlan (f_X0_doPlan d)) [22] (fun pc => cond (Nat.beq pc 22) (a_X0_doPlan_22 (l_X0_doPlan_22 (f_X0_doPlan d) z_N)) (fun _ _ _ => none)) 58 (c_X0_doPlan (f_X0_doPlan d)) [(0, .ref v0), (1, .ref v1), (2, .int v2), (3, .int v3)] [] S = f_X0_doPlan (d + 1) v0 v1 v2 v3 S := rfl
def j_X0_perform_61 (v0 : Nat) (v1 : Nat) (v3 : Int64) (v5 : Int64) (v7 : Int32) (t0 : Nat) (t1 : Int32) (S : z_St) : Option (Int64 × z_St) :=
z_chk S t0 1 (
let S8 := z_wi S t0 7 t1
if (lg_cmp v5 ((0 : Int64))) = 0 then
(some (v5, S8))
else
(if v7 = 0 then
(z_chk S8 v0 1 (
let S9 := z_wl S8 v0 2 v3
z_chk S9 v0 1 (
(f_X0_undoCells v0 v1 S9).bind fun q10 =>
some (v5, q10))))
else
(some (v5, S8))))
def j_X0_perform_44 (v0 : Nat) (v1 : Nat) (v3 : Int64) (v5 : Int64) (t0 : Int32) (S : z_St) : Option (Int64 × z_St) :=
if t0 = 0 then
(j_X0_perform_61 v0 v1 v3 v5 t0 v0 ((0 : Int32)) S)
else
((f_X0_loadOf v5 S).bind fun q7 =>
j_X0_perform_61 v0 v1 v3 v5 t0 v0 q7.1 q7.2)
def b_X0_perform (v0 : Nat) (v1 : Nat) (v2 : Int32) (S : z_St) : Option (Int64 × z_St) :=
z_chk S v0 1 (
let S1 := z_wi S v0 8 ((0 : Int32))
z_chk S1 v0 1 (
let S2 := z_wi S1 v0 9 ((0 : Int32))
z_chk S2 v0 1 (
let S3 := z_wi S2 v0 13 ((0 : Int32))
z_chk S3 v0 1 (
let x4 := (z_l S3 v0 2)
z_chk S3 v0 1 (
(f_X0_doPlan z_9 v0 v1 v2 ((1 : Int32)) S3).bind fun q5 =>
(f_X0_wayOf q5.1 q5.2).bind fun q6 =>
if q6.1 = ((9 : Int32)) then
(j_X0_perform_44 v0 v1 x4 q5.1 ((1 : Int32)) q6.2)
else
(j_X0_perform_44 v0 v1 x4 q5.1 ((0 : Int32)) q6.2))))))
def f_X0_perform : Nat → Nat → Int32 → z_St → Option (Int64 × z_St) := z_op (b_X0_perform)
theorem e_X0_perform (v0 : Nat) (v1 : Nat) (v2 : Int32) (S : z_St) : f_X0_perform v0 v1 v2 S = b_X0_perform v0 v1 v2 S := congrFun (congrFun (congrFun (congrFun (z_op_eq (b_X0_perform)) v0) v1) v2) S
def g_X0_perform : z_G := .inr (.inl (fun as S => match as with
  | [.ref v0, .ref v1, .int v2] => f_X0_perform v0 v1 v2 S
  | _ => none))
def c_X0_perform : List z_E := [
  (0, .aload_n 0, 1, .null, [], z_g0),
  (1, .iconst 0, 1, .int ((0 : Int32)), [], z_g0),
  (2, .putfield 48, 3, .null, [1, 8, 0], z_g0),
  (5, .aload_n 0, 1, .null, [], z_g0),
  (6, .iconst 0, 1, .int ((0 : Int32)), [], z_g0),
  (7, .putfield 52, 3, .null, [1, 9, 0], z_g0),
  (10, .aload_n 0, 1, .null, [], z_g0),
  (11, .iconst 0, 1, .int ((0 : Int32)), [], z_g0),
  (12, .putfield 55, 3, .null, [1, 13, 0], z_g0),
  (15, .aload_n 0, 1, .null, [], z_g0),
  (16, .getfield 58, 3, .null, [1, 2, 1], z_g0),
  (19, .lstore_n 3, 1, .null, [], z_g0),
  (20, .aload_n 0, 1, .null, [], z_g0),
  (21, .aload_n 1, 1, .null, [], z_g0),
  (22, .iload_n 2, 1, .null, [], z_g0),
  (23, .iconst 1, 1, .int ((1 : Int32)), [], z_g0),
  (24, .invokevirtual 62, 3, .null, [1, 1, 0, 0, 1], (g_X0_doPlan z_9)),
  (27, .lstore 5, 2, .null, [], z_g0),
  (29, .lload 5, 2, .null, [], z_g0),
  (31, .invokestatic 66, 3, .null, [0, 0], g_X0_wayOf),
  (34, .bipush 9, 2, .int ((9 : Int32)), [], z_g0),
  (36, .if_icmp .ne 7, 3, .null, [43], z_g0),
  (39, .iconst 1, 1, .int ((1 : Int32)), [], z_g0),
  (40, .goto 4, 3, .null, [44], z_g0),
  (43, .iconst 0, 1, .int ((0 : Int32)), [], z_g0),
  (44, .istore 7, 2, .null, [], z_g0),
  (46, .aload_n 0, 1, .null, [], z_g0),
  (47, .iload 7, 2, .null, [], z_g0),
  (49, .ifCond .eq 11, 3, .null, [60], z_g0),
  (52, .lload 5, 2, .null, [], z_g0),
  (54, .invokestatic 70, 3, .null, [0, 0], g_X0_loadOf),
  (57, .goto 4, 3, .null, [61], z_g0),
  (60, .iconst 0, 1, .int ((0 : Int32)), [], z_g0),
  (61, .putfield 73, 3, .null, [1, 7, 0], z_g0),
  (64, .lload 5, 2, .null, [], z_g0),
  (66, .lconst 0, 1, .long (0 : Int64), [], z_g0),
  (67, .lcmp, 1, .null, [], z_g0),
  (68, .ifCond .eq 18, 3, .null, [86], z_g0),
  (71, .iload 7, 2, .null, [], z_g0),
  (73, .ifCond .ne 13, 3, .null, [86], z_g0),
  (76, .aload_n 0, 1, .null, [], z_g0),
  (77, .lload_n 3, 1, .null, [], z_g0),
  (78, .putfield 58, 3, .null, [1, 2, 1], z_g0),
  (81, .aload_n 0, 1, .null, [], z_g0),
  (82, .aload_n 1, 1, .null, [], z_g0),
  (83, .invokevirtual 76, 3, .null, [1, 1, 1], g_X0_undoCells),
  (86, .lload 5, 2, .null, [], z_g0),
  (88, .lreturn, 1, .null, [], z_g0)]
def a_X0_perform_44 {ρ : Type} (k : Nat → Nat → Int64 → Int64 → Int32 → z_St → Option ρ) (ls : z_Lv) (st : List Value) (S : z_St) : Option ρ := z_gR ls 0 fun v0 => z_gR ls 1 fun v1 => z_gJ ls 3 fun v3 => z_gJ ls 5 fun v5 => z_pI st fun t0 s0 => z_p0 s0 (k v0 v1 v3 v5 t0 S)
def a_X0_perform_61 {ρ : Type} (k : Nat → Nat → Int64 → Int64 → Int32 → Nat → Int32 → z_St → Option ρ) (ls : z_Lv) (st : List Value) (S : z_St) : Option ρ := z_gR ls 0 fun v0 => z_gR ls 1 fun v1 => z_gJ ls 3 fun v3 => z_gJ ls 5 fun v5 => z_gI ls 7 fun v7 => z_pI st fun t1 s1 => z_pR s1 fun t0 s0 => z_p0 s0 (k v0 v1 v3 v5 v7 t0 t1 S)
set_option maxRecDepth 100000 in
theorem r_X0_perform_61 (v0 : Nat) (v1 : Nat) (v3 : Int64) (v5 : Int64) (v7 : Int32) (t0 : Nat) (t1 : Int32) (S : z_St) : z_seg z_rL (c_X0_perform) [44, 61] (fun pc => fun _ _ _ => none) 51 (z_to 61 (c_X0_perform)) [(0, .ref v0), (1, .ref v1), (3, .long v3), (5, .long v5), (7, .int v7)] [.int t1, .ref t0] S = j_X0_perform_61 v0 v1 v3 v5 v7 t0 t1 S := rfl
set_option maxRecDepth 100000 in
theorem r_X0_perform_44 (v0 : Nat) (v1 : Nat) (v3 : Int64) (v5 : Int64) (t0 : Int32) (S : z_St) : z_seg z_rL (c_X0_perform) [44, 61] (fun pc => cond (Nat.beq pc 61) (a_X0_perform_61 (j_X0_perform_61)) (fun _ _ _ => none)) 51 (z_to 44 (c_X0_perform)) [(0, .ref v0), (1, .ref v1), (3, .long v3), (5, .long v5)] [.int t0] S = j_X0_perform_44 v0 v1 v3 v5 t0 S := rfl
set_option maxRecDepth 100000 in
theorem r_X0_perform (v0 : Nat) (v1 : Nat) (v2 : Int32) (S : z_St) : z_seg z_rL (c_X0_perform) [44, 61] (fun pc => cond (Nat.beq pc 44) (a_X0_perform_44 (j_X0_perform_44)) (fun _ _ _ => none)) 51 (c_X0_perform) [(0, .ref v0), (1, .ref v1), (2, .int v2)] [] S = b_X0_perform v0 v1 v2 S := rfl
def b_X11_act (v0 : Nat) (v1 : Int32) (S : z_St) : Option (Int32 × z_St) :=
(f_X11_outOf v1 ((0 : Int32)) ((11 : Int32)) S).bind fun q1 =>
if q1.1 = 0 then
(z_chk q1.2 v0 12 (
z_chk q1.2 v0 12 (
z_onV (va_rf (z_r q1.2 v0 0)) fun b2 =>
z_onV (va_rf (z_r q1.2 v0 12)) fun b3 =>
z_chk q1.2 b3 1 (
(f_X0_perform b3 b2 v1 q1.2).bind fun q4 =>
if (lg_cmp q4.1 ((0 : Int64))) = 0 then
(z_chk q4.2 v0 12 (
(f_X11_passes v0 ((0 : Int32)) q4.2).bind fun q9 =>
some (q9.1, q9.2)))
else
((f_X0_wayOf q4.1 q4.2).bind fun q5 =>
if q5.1 = ((9 : Int32)) then
(z_chk q5.2 v0 12 (
(f_X11_passes v0 ((1 : Int32)) q5.2).bind fun q8 =>
some (q8.1, q8.2)))
else
((f_X0_loadOf q4.1 q5.2).bind fun q6 =>
z_chk q6.2 v0 12 (
(f_X11_failsWith v0 q5.1 q6.1 q6.2).bind fun q7 =>
some (q7.1, q7.2))))))))
else
(some ((-2000000001 : Int32), q1.2))
def f_X11_act : Nat → Int32 → z_St → Option (Int32 × z_St) := z_op (b_X11_act)
theorem e_X11_act (v0 : Nat) (v1 : Int32) (S : z_St) : f_X11_act v0 v1 S = b_X11_act v0 v1 S := congrFun (congrFun (congrFun (z_op_eq (b_X11_act)) v0) v1) S
def g_X11_act : z_G := .inl (fun as S => match as with
  | [.ref v0, .int v1] => f_X11_act v0 v1 S
  | _ => none)
def c_X11_act : List z_E := [
  (0, .iload_n 1, 1, .null, [], z_g0),
  (1, .iconst 0, 1, .int ((0 : Int32)), [], z_g0),
  (2, .bipush 11, 2, .int ((11 : Int32)), [], z_g0),
  (4, .invokestatic 81, 3, .null, [0, 0, 0, 0], g_X11_outOf),
  (7, .ifCond .eq 6, 3, .null, [13], z_g0),
  (10, .ldc 109, 2, .int (-2000000001 : Int32), [], z_g0),
  (12, .ireturn, 1, .null, [], z_g0),
  (13, .aload_n 0, 1, .null, [], z_g0),
  (14, .getfield 49, 3, .null, [12, 12, 3], z_g0),
  (17, .aload_n 0, 1, .null, [], z_g0),
  (18, .getfield 11, 3, .null, [12, 0, 3], z_g0),
  (21, .iload_n 1, 1, .null, [], z_g0),
  (22, .invokevirtual 289, 3, .null, [1, 1, 0, 1], g_X0_perform),
  (25, .lstore_n 2, 1, .null, [], z_g0),
  (26, .lload_n 2, 1, .null, [], z_g0),
  (27, .lconst 0, 1, .long (0 : Int64), [], z_g0),
  (28, .lcmp, 1, .null, [], z_g0),
  (29, .ifCond .ne 9, 3, .null, [38], z_g0),
  (32, .aload_n 0, 1, .null, [], z_g0),
  (33, .iconst 0, 1, .int ((0 : Int32)), [], z_g0),
  (34, .invokevirtual 102, 3, .null, [1, 12, 0], g_X11_passes),
  (37, .ireturn, 1, .null, [], z_g0),
  (38, .lload_n 2, 1, .null, [], z_g0),
  (39, .invokestatic 293, 3, .null, [0, 0], g_X0_wayOf),
  (42, .istore 4, 2, .null, [], z_g0),
  (44, .iload 4, 2, .null, [], z_g0),
  (46, .bipush 9, 2, .int ((9 : Int32)), [], z_g0),
  (48, .if_icmp .ne 9, 3, .null, [57], z_g0),
  (51, .aload_n 0, 1, .null, [], z_g0),
  (52, .iconst 1, 1, .int ((1 : Int32)), [], z_g0),
  (53, .invokevirtual 102, 3, .null, [1, 12, 0], g_X11_passes),
  (56, .ireturn, 1, .null, [], z_g0),
  (57, .aload_n 0, 1, .null, [], z_g0),
  (58, .iload 4, 2, .null, [], z_g0),
  (60, .lload_n 2, 1, .null, [], z_g0),
  (61, .invokestatic 296, 3, .null, [0, 0], g_X0_loadOf),
  (64, .invokevirtual 212, 3, .null, [1, 12, 0, 0], g_X11_failsWith),
  (67, .ireturn, 1, .null, [], z_g0)]
set_option maxRecDepth 100000 in
theorem r_X11_act (v0 : Nat) (v1 : Int32) (S : z_St) : z_seg z_rI (c_X11_act) [] (fun pc => fun _ _ _ => none) 41 (c_X11_act) [(0, .ref v0), (1, .int v1)] [] S = b_X11_act v0 v1 S := rfl
end
