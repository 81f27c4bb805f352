noncomputable section
def b_X8_strictRank (v0 : Int64) (S : z_St) : Option (Int64 × z_St) :=
if (lg_cmp v0 ((0 : Int64))) < 0 then
(some (((-1 : Int64)) - (v0 &&& ((9223372036854775807 : Int64))), S))
else
(some (v0, S))
def f_X8_strictRank : Int64 → z_St → Option (Int64 × z_St) := z_op (b_X8_strictRank)
theorem e_X8_strictRank (v0 : Int64) (S : z_St) : f_X8_strictRank v0 S = b_X8_strictRank v0 S := congrFun (congrFun (z_op_eq (b_X8_strictRank)) v0) S
def g_X8_strictRank : z_G := .inr (.inl (fun as S => match as with
  | [.long v0] => f_X8_strictRank v0 S
  | _ => none))
def c_X8_strictRank : List z_E := [
  (0, .lload_n 0, 1, .null, [], z_g0),
  (1, .lconst 0, 1, .long (0 : Int64), [], z_g0),
  (2, .lcmp, 1, .null, [], z_g0),
  (3, .ifCond .lt 7, 3, .null, [10], z_g0),
  (6, .lload_n 0, 1, .null, [], z_g0),
  (7, .goto 12, 3, .null, [19], z_g0),
  (10, .ldc2_w 77, 3, .long (-1 : Int64), [], z_g0),
  (13, .lload_n 0, 1, .null, [], z_g0),
  (14, .ldc2_w 70, 3, .long (9223372036854775807 : Int64), [], z_g0),
  (17, .land, 1, .null, [], z_g0),
  (18, .lsub, 1, .null, [], z_g0),
  (19, .lreturn, 1, .null, [], z_g0)]
set_option maxRecDepth 100000 in
theorem r_X8_strictRank (v0 : Int64) (S : z_St) : z_seg z_rL (c_X8_strictRank) [] (fun pc => fun _ _ _ => none) 15 (c_X8_strictRank) [(0, .long v0)] [] S = b_X8_strictRank v0 S := rfl
def j_X8_middleOfNumbers_107 (v1 : Int32) (v2 : Nat) (S : z_St) : Option (Int64 × z_St) :=
if v1 = 0 then
(some ((9221120237041090560 : Int64), S))
else
(z_nz ((2 : Int32)) (
z_inb S v2 102 ((v1 - ((1 : Int32))) / ((2 : Int32))) (
some ((z_l S v2 ((v1 - ((1 : Int32))) / ((2 : Int32))).toNatClampNeg), S))))
def j_X8_middleOfNumbers_87 (k_9 : Nat → Int32 → Nat → Int32 → Int32 → z_St → Option (Int64 × z_St)) (v0 : Nat) (v1 : Int32) (v2 : Nat) (v3 : Int32) (v4 : Int32) (v5 : Int32) (S : z_St) : Option (Int64 × z_St) :=
z_chk S v0 9 (
z_onV (va_rf (z_r S v0 1)) fun b12 =>
z_inb S b12 102 v4 (
z_inb S v2 102 v5 (
let S13 := z_wl S v2 v5.toNatClampNeg ((z_l S b12 v4.toNatClampNeg))
let x14 := v3 + (1 : Int32)
let x15 := v4 + (1 : Int32)
k_9 v0 v1 v2 x14 x15 S13)))
def l_X8_middleOfNumbers_43 (k_9 : Nat → Int32 → Nat → Int32 → Int32 → z_St → Option (Int64 × z_St)) : Nat → Nat → Int32 → Nat → Int32 → Int32 → Int32 → z_St → Option (Int64 × z_St)
  | 0 => fun _ _ _ _ _ _ _ => none
  | n + 1 => fun (v0 : Nat) (v1 : Int32) (v2 : Nat) (v3 : Int32) (v4 : Int32) (v5 : Int32) (S : z_St) =>
if v5 ≤ 0 then
(j_X8_middleOfNumbers_87 k_9 v0 v1 v2 v3 v4 v5 S)
else
(z_inb S v2 102 (v5 - ((1 : Int32))) (
(f_X8_strictRank ((z_l S v2 (v5 - ((1 : Int32))).toNatClampNeg)) S).bind fun q7 =>
z_chk q7.2 v0 9 (
z_onV (va_rf (z_r q7.2 v0 1)) fun b8 =>
z_inb q7.2 b8 102 v4 (
(f_X8_strictRank ((z_l q7.2 b8 v4.toNatClampNeg)) q7.2).bind fun q9 =>
if (lg_cmp q7.1 q9.1) ≤ 0 then
(j_X8_middleOfNumbers_87 k_9 v0 v1 v2 v3 v4 v5 q9.2)
else
(z_inb q9.2 v2 102 (v5 - ((1 : Int32))) (
z_inb q9.2 v2 102 v5 (
let S10 := z_wl q9.2 v2 v5.toNatClampNeg ((z_l q9.2 v2 (v5 - ((1 : Int32))).toNatClampNeg))
let x11 := v5 + (-1 : Int32)
l_X8_middleOfNumbers_43 k_9 n v0 v1 v2 v3 v4 x11 S10)))))))
def l_X8_middleOfNumbers_9 : Nat → Nat → Int32 → Nat → Int32 → Int32 → z_St → Option (Int64 × z_St)
  | 0 => fun _ _ _ _ _ _ => none
  | n + 1 => fun (v0 : Nat) (v1 : Int32) (v2 : Nat) (v3 : Int32) (v4 : Int32) (S : z_St) =>
z_chk S v0 9 (
z_onV (va_rf (z_r S v0 1)) fun b3 =>
z_chk S b3 102 (
if (Int32.ofNat (z_n S b3)) ≤ v4 then
(j_X8_middleOfNumbers_107 v1 v2 S)
else
(if v1 ≤ v3 then
(j_X8_middleOfNumbers_107 v1 v2 S)
else
(z_chk S v0 9 (
z_onV (va_rf (z_r S v0 1)) fun b4 =>
z_inb S b4 102 v4 (
(f_X11_noNumber ((z_l S b4 v4.toNatClampNeg)) S).bind fun q5 =>
if q5.1 = 0 then
(l_X8_middleOfNumbers_43 (l_X8_middleOfNumbers_9 n) z_N v0 v1 v2 v3 v4 v3 q5.2)
else
(let x6 := v4 + (1 : Int32)
l_X8_middleOfNumbers_9 n v0 v1 v2 v3 x6 q5.2)))))))
def b_X8_middleOfNumbers (v0 : Nat) (v1 : Int32) (S : z_St) : Option (Int64 × z_St) :=
z_len v1 30000 (
let a1 := z_x S
let S2 := z_new S 102 v1.toNatClampNeg
l_X8_middleOfNumbers_9 z_N v0 v1 a1 ((0 : Int32)) ((0 : Int32)) S2)
def f_X8_middleOfNumbers : Nat → Int32 → z_St → Option (Int64 × z_St) := z_op (b_X8_middleOfNumbers)
theorem e_X8_middleOfNumbers (v0 : Nat) (v1 : Int32) (S : z_St) : f_X8_middleOfNumbers v0 v1 S = b_X8_middleOfNumbers v0 v1 S := congrFun (congrFun (congrFun (z_op_eq (b_X8_middleOfNumbers)) v0) v1) S
def g_X8_middleOfNumbers : z_G := .inr (.inl (fun as S => match as with
  | [.ref v0, .int v1] => f_X8_middleOfNumbers v0 v1 S
  | _ => none))
def c_X8_middleOfNumbers : List z_E := [
  (0, .iload_n 1, 1, .null, [], z_g0),
  (1, .newarray .long, 2, .null, [102], z_g0),
  (3, .astore_n 2, 1, .null, [], z_g0),
  (4, .iconst 0, 1, .int ((0 : Int32)), [], z_g0),
  (5, .istore_n 3, 1, .null, [], z_g0),
  (6, .iconst 0, 1, .int ((0 : Int32)), [], z_g0),
  (7, .istore 4, 2, .null, [], z_g0),
  (9, .iload 4, 2, .null, [], z_g0),
  (11, .aload_n 0, 1, .null, [], z_g0),
  (12, .getfield 15, 3, .null, [9, 1, 3], z_g0),
  (15, .arraylength, 1, .null, [102], z_g0),
  (16, .if_icmp .ge 91, 3, .null, [107], z_g0),
  (19, .iload_n 3, 1, .null, [], z_g0),
  (20, .iload_n 1, 1, .null, [], z_g0),
  (21, .if_icmp .ge 86, 3, .null, [107], z_g0),
  (24, .aload_n 0, 1, .null, [], z_g0),
  (25, .getfield 15, 3, .null, [9, 1, 3], z_g0),
  (28, .iload 4, 2, .null, [], z_g0),
  (30, .laload, 1, .null, [], z_g0),
  (31, .invokestatic 23, 3, .null, [0, 0], g_X11_noNumber),
  (34, .ifCond .eq 6, 3, .null, [40], z_g0),
  (37, .goto 64, 3, .null, [101], z_g0),
  (40, .iload_n 3, 1, .null, [], z_g0),
  (41, .istore 5, 2, .null, [], z_g0),
  (43, .iload 5, 2, .null, [], z_g0),
  (45, .ifCond .le 42, 3, .null, [87], z_g0),
  (48, .aload_n 2, 1, .null, [], z_g0),
  (49, .iload 5, 2, .null, [], z_g0),
  (51, .iconst 1, 1, .int ((1 : Int32)), [], z_g0),
  (52, .isub, 1, .null, [], z_g0),
  (53, .laload, 1, .null, [], z_g0),
  (54, .invokestatic 74, 3, .null, [0, 0], g_X8_strictRank),
  (57, .aload_n 0, 1, .null, [], z_g0),
  (58, .getfield 15, 3, .null, [9, 1, 3], z_g0),
  (61, .iload 4, 2, .null, [], z_g0),
  (63, .laload, 1, .null, [], z_g0),
  (64, .invokestatic 74, 3, .null, [0, 0], g_X8_strictRank),
  (67, .lcmp, 1, .null, [], z_g0),
  (68, .ifCond .le 19, 3, .null, [87], z_g0),
  (71, .aload_n 2, 1, .null, [], z_g0),
  (72, .iload 5, 2, .null, [], z_g0),
  (74, .aload_n 2, 1, .null, [], z_g0),
  (75, .iload 5, 2, .null, [], z_g0),
  (77, .iconst 1, 1, .int ((1 : Int32)), [], z_g0),
  (78, .isub, 1, .null, [], z_g0),
  (79, .laload, 1, .null, [], z_g0),
  (80, .lastore, 1, .null, [], z_g0),
  (81, .iinc 5 (-1), 3, .int (-1 : Int32), [], z_g0),
  (84, .goto (-41), 3, .null, [43], z_g0),
  (87, .aload_n 2, 1, .null, [], z_g0),
  (88, .iload 5, 2, .null, [], z_g0),
  (90, .aload_n 0, 1, .null, [], z_g0),
  (91, .getfield 15, 3, .null, [9, 1, 3], z_g0),
  (94, .iload 4, 2, .null, [], z_g0),
  (96, .laload, 1, .null, [], z_g0),
  (97, .lastore, 1, .null, [], z_g0),
  (98, .iinc 3 1, 3, .int (1 : Int32), [], z_g0),
  (101, .iinc 4 1, 3, .int (1 : Int32), [], z_g0),
  (104, .goto (-95), 3, .null, [9], z_g0),
  (107, .iload_n 1, 1, .null, [], z_g0),
  (108, .ifCond .ne 9, 3, .null, [117], z_g0),
  (111, .ldc2_w 27, 3, .long (9221120237041090560 : Int64), [], z_g0),
  (114, .goto 10, 3, .null, [124], z_g0),
  (117, .aload_n 2, 1, .null, [], z_g0),
  (118, .iload_n 1, 1, .null, [], z_g0),
  (119, .iconst 1, 1, .int ((1 : Int32)), [], z_g0),
  (120, .isub, 1, .null, [], z_g0),
  (121, .iconst 2, 1, .int ((2 : Int32)), [], z_g0),
  (122, .idiv, 1, .null, [], z_g0),
  (123, .laload, 1, .null, [], z_g0),
  (124, .lreturn, 1, .null, [], z_g0)]
def a_X8_middleOfNumbers_9 {ρ : Type} (k : Nat → Int32 → Nat → Int32 → Int32 → z_St → Option ρ) (ls : z_Lv) (st : List Value) (S : z_St) : Option ρ := z_gR ls 0 fun v0 => z_gI ls 1 fun v1 => z_gR ls 2 fun v2 => z_gI ls 3 fun v3 => z_gI ls 4 fun v4 => z_p0 st (k v0 v1 v2 v3 v4 S)
def a_X8_middleOfNumbers_43 {ρ : Type} (k : Nat → Int32 → Nat → Int32 → Int32 → Int32 → z_St → Option ρ) (ls : z_Lv) (st : List Value) (S : z_St) : Option ρ := z_gR ls 0 fun v0 => z_gI ls 1 fun v1 => z_gR ls 2 fun v2 => z_gI ls 3 fun v3 => z_gI ls 4 fun v4 => z_gI ls 5 fun v5 => z_p0 st (k v0 v1 v2 v3 v4 v5 S)
def a_X8_middleOfNumbers_87 {ρ : Type} (k : Nat → Int32 → Nat → Int32 → Int32 → Int32 → z_St → Option ρ) (ls : z_Lv) (st : List Value) (S : z_St) : Option ρ := z_gR ls 0 fun v0 => z_gI ls 1 fun v1 => z_gR ls 2 fun v2 => z_gI ls 3 fun v3 => z_gI ls 4 fun v4 => z_gI ls 5 fun v5 => z_p0 st (k v0 v1 v2 v3 v4 v5 S)
def a_X8_middleOfNumbers_107 {ρ : Type} (k : Int32 → Nat → z_St → Option ρ) (ls : z_Lv) (st : List Value) (S : z_St) : Option ρ := z_gI ls 1 fun v1 => z_gR ls 2 fun v2 => z_p0 st (k v1 v2 S)
set_option maxRecDepth 100000 in
theorem r_X8_middleOfNumbers_107 (v1 : Int32) (v2 : Nat) (S : z_St) : z_seg z_rL (c_X8_middleOfNumbers) [9, 43, 87, 107] (fun pc => fun _ _ _ => none) 74 (z_to 107 (c_X8_middleOfNumbers)) [(1, .int v1), (2, .ref v2)] [] S = j_X8_middleOfNumbers_107 v1 v2 S := rfl
set_option maxRecDepth 100000 in
theorem r_X8_middleOfNumbers_87 (k_9 : Nat → Int32 → Nat → Int32 → Int32 → z_St → Option (Int64 × z_St)) (v0 : Nat) (v1 : Int32) (v2 : Nat) (v3 : Int32) (v4 : Int32) (v5 : Int32) (S : z_St) : z_seg z_rL (c_X8_middleOfNumbers) [9, 43, 87, 107] (fun pc => cond (Nat.beq pc 9) (a_X8_middleOfNumbers_9 k_9) (fun _ _ _ => none)) 74 (z_to 87 (c_X8_middleOfNumbers)) [(0, .ref v0), (1, .int v1), (2, .ref v2), (3, .int v3), (4, .int v4), (5, .int v5)] [] S = j_X8_middleOfNumbers_87 k_9 v0 v1 v2 v3 v4 v5 S := rfl
set_option maxRecDepth 100000 in
theorem r_X8_middleOfNumbers_43 (k_9 : Nat → Int32 → Nat → Int32 → Int32 → z_St → Option (Int64 × z_St)) (n : Nat) (v0 : Nat) (v1 : Int32) (v2 : Nat) (v3 : Int32) (v4 : Int32) (v5 : Int32) (S : z_St) : z_seg z_rL (c_X8_middleOfNumbers) [9, 43, 87, 107] (fun pc => cond (Nat.beq pc 43) (a_X8_middleOfNumbers_43 (l_X8_middleOfNumbers_43 k_9 n)) (cond (Nat.beq pc 87) (a_X8_middleOfNumbers_87 (j_X8_middleOfNumbers_87 k_9)) (fun _ _ _ => none))) 74 (z_to 43 (c_X8_middleOfNumbers)) [(0, .ref v0), (1, .int v1), (2, .ref v2), (3, .int v3), (4, .int v4), (5, .int v5)] [] S = l_X8_middleOfNumbers_43 k_9 (n + 1) v0 v1 v2 v3 v4 v5 S := rfl
set_option maxRecDepth 100000 in
theorem r_X8_middleOfNumbers_9 (n : Nat) (v0 : Nat) (v1 : Int32) (v2 : Nat) (v3 : Int32) (v4 : Int32) (S : z_St) : z_seg z_rL (c_X8_middleOfNumbers) [9, 43, 87, 107] (fun pc => cond (Nat.beq pc 9) (a_X8_middleOfNumbers_9 (l_X8_middleOfNumbers_9 n)) (cond (Nat.beq pc 43) (a_X8_middleOfNumbers_43 (l_X8_middleOfNumbers_43 (l_X8_middleOfNumbers_9 n) z_N)) (cond (Nat.beq pc 107) (a_X8_middleOfNumbers_107 (j_X8_middleOfNumbers_107)) (fun _ _ _ => none)))) 74 (z_to 9 (c_X8_middleOfNumbers)) [(0, .ref v0), (1, .int v1), (2, .ref v2), (3, .int v3), (4, .int v4)] [] S = l_X8_middleOfNumbers_9 (n + 1) v0 v1 v2 v3 v4 S := rfl
set_option maxRecDepth 100000 in
theorem r_X8_middleOfNumbers (v0 : Nat) (v1 : Int32) (S : z_St) : z_seg z_rL (c_X8_middleOfNumbers) [9, 43, 87, 107] (fun pc => cond (Nat.beq pc 9) (a_X8_middleOfNumbers_9 (l_X8_middleOfNumbers_9 z_N)) (fun _ _ _ => none)) 74 (c_X8_middleOfNumbers) [(0, .ref v0), (1, .int v1)] [] S = b_X8_middleOfNumbers v0 v1 S := rfl
def j_X8_flowOf_76 (v0 : Nat) (v1 : Int32) (S : z_St) : Option (Int64 × z_St) :=
if v1 = ((1 : Int32)) then
(z_chk S v0 9 (
(f_X8_outermost v0 ((1 : Int32)) S).bind fun q6 =>
some (q6.1, q6.2)))
else
(if v1 = ((5 : Int32)) then
(z_chk S v0 9 (
(f_X8_outermost v0 ((1 : Int32)) S).bind fun q8 =>
some (q8.1, q8.2)))
else
(z_chk S v0 9 (
(f_X8_outermost v0 ((0 : Int32)) S).bind fun q7 =>
some (q7.1, q7.2))))
def j_X8_flowOf_27 (v0 : Nat) (v1 : Int32) (v2 : Int32) (S : z_St) : Option (Int64 × z_St) :=
if v1 = (2 : Int32) then
(z_chk S v0 9 (
(f_X8_meanOfNumbers v0 v2 S).bind fun q3 =>
some (q3.1, q3.2)))
else
if v1 = (3 : Int32) then
(z_chk S v0 9 (
(f_X8_middleOfNumbers v0 v2 S).bind fun q4 =>
some (q4.1, q4.2)))
else
if v1 = (4 : Int32) then
(j_X8_flowOf_76 v0 v1 S)
else
if v1 = (5 : Int32) then
(j_X8_flowOf_76 v0 v1 S)
else
if v1 = (6 : Int32) then
(z_chk S v0 9 (
(f_X8_meanOfNumbers v0 v2 S).bind fun q5 =>
some (q5.1, q5.2)))
else
(j_X8_flowOf_76 v0 v1 S)
def b_X8_flowOf (v0 : Nat) (v1 : Int32) (S : z_St) : Option (Int64 × z_St) :=
z_chk S v0 9 (
(f_X8_numberCount v0 S).bind fun q1 =>
if q1.1 = 0 then
(some ((9221120237041090560 : Int64), q1.2))
else
(if v1 < ((4 : Int32)) then
(j_X8_flowOf_27 v0 v1 q1.1 q1.2)
else
(z_chk q1.2 v0 9 (
z_onV (va_rf (z_r q1.2 v0 1)) fun b2 =>
z_chk q1.2 b2 102 (
if (Int32.ofNat (z_n q1.2 b2)) ≤ q1.1 then
(j_X8_flowOf_27 v0 v1 q1.1 q1.2)
else
(some ((9221120237041090560 : Int64), q1.2)))))))
def f_X8_flowOf : Nat → Int32 → z_St → Option (Int64 × z_St) := z_op (b_X8_flowOf)
theorem e_X8_flowOf (v0 : Nat) (v1 : Int32) (S : z_St) : f_X8_flowOf v0 v1 S = b_X8_flowOf v0 v1 S := congrFun (congrFun (congrFun (z_op_eq (b_X8_flowOf)) v0) v1) S
def g_X8_flowOf : z_G := .inr (.inl (fun as S => match as with
  | [.ref v0, .int v1] => f_X8_flowOf v0 v1 S
  | _ => none))
def c_X8_flowOf : List z_E := [
  (0, .aload_n 0, 1, .null, [], z_g0),
  (1, .invokevirtual 48, 3, .null, [1, 9], g_X8_numberCount),
  (4, .istore_n 2, 1, .null, [], z_g0),
  (5, .iload_n 2, 1, .null, [], z_g0),
  (6, .ifCond .eq 17, 3, .null, [23], z_g0),
  (9, .iload_n 1, 1, .null, [], z_g0),
  (10, .iconst 4, 1, .int ((4 : Int32)), [], z_g0),
  (11, .if_icmp .lt 16, 3, .null, [27], z_g0),
  (14, .iload_n 2, 1, .null, [], z_g0),
  (15, .aload_n 0, 1, .null, [], z_g0),
  (16, .getfield 15, 3, .null, [9, 1, 3], z_g0),
  (19, .arraylength, 1, .null, [102], z_g0),
  (20, .if_icmp .ge 7, 3, .null, [27], z_g0),
  (23, .ldc2_w 27, 3, .long (9221120237041090560 : Int64), [], z_g0),
  (26, .lreturn, 1, .null, [], z_g0),
  (27, .iload_n 1, 1, .null, [], z_g0),
  (28, .tableswitch 48 2 6 #[36, 42, 48, 48, 36], 36, .null, [76, 2, 64, 70, 76, 76, 64], z_g0),
  (64, .aload_n 0, 1, .null, [], z_g0),
  (65, .iload_n 2, 1, .null, [], z_g0),
  (66, .invokevirtual 52, 3, .null, [1, 9, 0], g_X8_meanOfNumbers),
  (69, .lreturn, 1, .null, [], z_g0),
  (70, .aload_n 0, 1, .null, [], z_g0),
  (71, .iload_n 2, 1, .null, [], z_g0),
  (72, .invokevirtual 55, 3, .null, [1, 9, 0], g_X8_middleOfNumbers),
  (75, .lreturn, 1, .null, [], z_g0),
  (76, .aload_n 0, 1, .null, [], z_g0),
  (77, .iload_n 1, 1, .null, [], z_g0),
  (78, .iconst 1, 1, .int ((1 : Int32)), [], z_g0),
  (79, .if_icmp .eq 8, 3, .null, [87], z_g0),
  (82, .iload_n 1, 1, .null, [], z_g0),
  (83, .iconst 5, 1, .int ((5 : Int32)), [], z_g0),
  (84, .if_icmp .ne 7, 3, .null, [91], z_g0),
  (87, .iconst 1, 1, .int ((1 : Int32)), [], z_g0),
  (88, .goto 4, 3, .null, [92], z_g0),
  (91, .iconst 0, 1, .int ((0 : Int32)), [], z_g0),
  (92, .invokevirtual 58, 3, .null, [1, 9, 0], g_X8_outermost),
  (95, .lreturn, 1, .null, [], z_g0)]
def a_X8_flowOf_27 {ρ : Type} (k : Nat → Int32 → Int32 → z_St → Option ρ) (ls : z_Lv) (st : List Value) (S : z_St) : Option ρ := z_gR ls 0 fun v0 => z_gI ls 1 fun v1 => z_gI ls 2 fun v2 => z_p0 st (k v0 v1 v2 S)
def a_X8_flowOf_76 {ρ : Type} (k : Nat → Int32 → z_St → Option ρ) (ls : z_Lv) (st : List Value) (S : z_St) : Option ρ := z_gR ls 0 fun v0 => z_gI ls 1 fun v1 => z_p0 st (k v0 v1 S)
set_option maxRecDepth 100000 in
theorem r_X8_flowOf_76 (v0 : Nat) (v1 : Int32) (S : z_St) : z_seg z_rL (c_X8_flowOf) [27, 76] (fun pc => fun _ _ _ => none) 40 (z_to 76 (c_X8_flowOf)) [(0, .ref v0), (1, .int v1)] [] S = j_X8_flowOf_76 v0 v1 S := rfl
set_option maxRecDepth 100000 in
theorem r_X8_flowOf_27 (v0 : Nat) (v1 : Int32) (v2 : Int32) (S : z_St) : z_seg z_rL (c_X8_flowOf) [27, 76] (fun pc => cond (Nat.beq pc 76) (a_X8_flowOf_76 (j_X8_flowOf_76)) (fun _ _ _ => none)) 40 (z_to 27 (c_X8_flowOf)) [(0, .ref v0), (1, .int v1), (2, .int v2)] [] S = j_X8_flowOf_27 v0 v1 v2 S := rfl
set_option maxRecDepth 100000 in
theorem r_X8_flowOf (v0 : Nat) (v1 : Int32) (S : z_St) : z_seg z_rL (c_X8_flowOf) [27, 76] (fun pc => cond (Nat.beq pc 27) (a_X8_flowOf_27 (j_X8_flowOf_27)) (fun _ _ _ => none)) 40 (c_X8_flowOf) [(0, .ref v0), (1, .int v1)] [] S = b_X8_flowOf v0 v1 S := rfl
def b_X9_init (v0 : Nat) (v1 : Int32) (v2 : Int32) (S : z_St) : Option z_St :=
z_chk S v0 10 (
let S1 := z_wi S v0 0 v1
z_chk S1 v0 10 (
let S2 := z_wi S1 v0 1 v2
some S2))
def f_X9_init : Nat → Int32 → Int32 → z_St → Option z_St := z_op (b_X9_init)
theorem e_X9_init (v0 : Nat) (v1 : Int32) (v2 : Int32) (S : z_St) : f_X9_init v0 v1 v2 S = b_X9_init v0 v1 v2 S := congrFun (congrFun (congrFun (congrFun (z_op_eq (b_X9_init)) v0) v1) v2) S
def g_X9_init : z_G := .inr (.inr (.inr (fun as S => match as with
  | [.ref v0, .int v1, .int v2] => f_X9_init v0 v1 v2 S
  | _ => none)))
def c_X9_init : List z_E := [
  (0, .aload_n 0, 1, .null, [], z_g0),
  (1, .invokespecial 1, 3, .null, [2], z_g0),
  (4, .aload_n 0, 1, .null, [], z_g0),
  (5, .iload_n 1, 1, .null, [], z_g0),
  (6, .putfield 7, 3, .null, [10, 0, 0], z_g0),
  (9, .aload_n 0, 1, .null, [], z_g0),
  (10, .iload_n 2, 1, .null, [], z_g0),
  (11, .putfield 13, 3, .null, [10, 1, 0], z_g0),
  (14, .return_, 1, .null, [], z_g0)]
set_option maxRecDepth 100000 in
theorem r_X9_init (v0 : Nat) (v1 : Int32) (v2 : Int32) (S : z_St) : z_seg z_rV (c_X9_init) [] (fun pc => fun _ _ _ => none) 12 (c_X9_init) [(0, .ref v0), (1, .int v1), (2, .int v2)] [] S = b_X9_init v0 v1 v2 S := rfl
def b_X9_isFor (v0 : Nat) (v1 : Int32) (S : z_St) : Option (Int32 × z_St) :=
if v1 = (6 : Int32) then
(z_chk S v0 10 (
if ((1 : Int32)) < ((z_i S v0 0)) then
(z_rb ((0 : Int32)) S)
else
(z_rb ((1 : Int32)) S)))
else
if v1 = (7 : Int32) then
(z_chk S v0 10 (
if ((z_i S v0 0)) ≤ ((1 : Int32)) then
(z_rb ((0 : Int32)) S)
else
(z_rb ((1 : Int32)) S)))
else
if v1 = (8 : Int32) then
(z_chk S v0 10 (
z_nz ((2 : Int32)) (
if (((z_i S v0 0)) - ((z_i S v0 0)) / ((2 : Int32)) * ((2 : Int32))) = ((1 : Int32)) then
(z_rb ((1 : Int32)) S)
else
(z_rb ((0 : Int32)) S))))
else
if v1 = (9 : Int32) then
(z_rb ((1 : Int32)) S)
else
(z_chk S v0 10 (
if ((z_i S v0 0)) = v1 then
(z_rb ((1 : Int32)) S)
else
(z_chk S v0 10 (
z_chk S v0 10 (
z_nz ((2 : Int32)) (
if (((z_i S v0 0)) - (((z_i S v0 0)) - ((z_i S v0 0)) / ((2 : Int32)) * ((2 : Int32)))) = v1 then
(z_rb ((1 : Int32)) S)
else
(z_rb ((0 : Int32)) S)))))))
def f_X9_isFor : Nat → Int32 → z_St → Option (Int32 × z_St) := z_op (b_X9_isFor)
theorem e_X9_isFor (v0 : Nat) (v1 : Int32) (S : z_St) : f_X9_isFor v0 v1 S = b_X9_isFor v0 v1 S := congrFun (congrFun (congrFun (z_op_eq (b_X9_isFor)) v0) v1) S
def g_X9_isFor : z_G := .inl (fun as S => match as with
  | [.ref v0, .int v1] => f_X9_isFor v0 v1 S
  | _ => none)
def c_X9_isFor : List z_E := [
  (0, .iload_n 1, 1, .null, [], z_g0),
  (1, .tableswitch 77 6 9 #[31, 45, 59, 75], 31, .null, [78, 6, 32, 46, 60, 76], z_g0),
  (32, .aload_n 0, 1, .null, [], z_g0),
  (33, .getfield 7, 3, .null, [10, 0, 0], z_g0),
  (36, .iconst 1, 1, .int ((1 : Int32)), [], z_g0),
  (37, .if_icmp .gt 7, 3, .null, [44], z_g0),
  (40, .iconst 1, 1, .int ((1 : Int32)), [], z_g0),
  (41, .goto 4, 3, .null, [45], z_g0),
  (44, .iconst 0, 1, .int ((0 : Int32)), [], z_g0),
  (45, .ireturn, 1, .null, [], z_g0),
  (46, .aload_n 0, 1, .null, [], z_g0),
  (47, .getfield 7, 3, .null, [10, 0, 0], z_g0),
  (50, .iconst 1, 1, .int ((1 : Int32)), [], z_g0),
  (51, .if_icmp .le 7, 3, .null, [58], z_g0),
  (54, .iconst 1, 1, .int ((1 : Int32)), [], z_g0),
  (55, .goto 4, 3, .null, [59], z_g0),
  (58, .iconst 0, 1, .int ((0 : Int32)), [], z_g0),
  (59, .ireturn, 1, .null, [], z_g0),
  (60, .aload_n 0, 1, .null, [], z_g0),
  (61, .getfield 7, 3, .null, [10, 0, 0], z_g0),
  (64, .iconst 2, 1, .int ((2 : Int32)), [], z_g0),
  (65, .irem, 1, .null, [], z_g0),
  (66, .iconst 1, 1, .int ((1 : Int32)), [], z_g0),
  (67, .if_icmp .ne 7, 3, .null, [74], z_g0),
  (70, .iconst 1, 1, .int ((1 : Int32)), [], z_g0),
  (71, .goto 4, 3, .null, [75], z_g0),
  (74, .iconst 0, 1, .int ((0 : Int32)), [], z_g0),
  (75, .ireturn, 1, .null, [], z_g0),
  (76, .iconst 1, 1, .int ((1 : Int32)), [], z_g0),
  (77, .ireturn, 1, .null, [], z_g0),
  (78, .aload_n 0, 1, .null, [], z_g0),
  (79, .getfield 7, 3, .null, [10, 0, 0], z_g0),
  (82, .iload_n 1, 1, .null, [], z_g0),
  (83, .if_icmp .eq 18, 3, .null, [101], z_g0),
  (86, .aload_n 0, 1, .null, [], z_g0),
  (87, .getfield 7, 3, .null, [10, 0, 0], z_g0),
  (90, .aload_n 0, 1, .null, [], z_g0),
  (91, .getfield 7, 3, .null, [10, 0, 0], z_g0),
  (94, .iconst 2, 1, .int ((2 : Int32)), [], z_g0),
  (95, .irem, 1, .null, [], z_g0),
  (96, .isub, 1, .null, [], z_g0),
  (97, .iload_n 1, 1, .null, [], z_g0),
  (98, .if_icmp .ne 7, 3, .null, [105], z_g0),
  (101, .iconst 1, 1, .int ((1 : Int32)), [], z_g0),
  (102, .goto 4, 3, .null, [106], z_g0),
  (105, .iconst 0, 1, .int ((0 : Int32)), [], z_g0),
  (106, .ireturn, 1, .null, [], z_g0)]
set_option maxRecDepth 100000 in
theorem r_X9_isFor (v0 : Nat) (v1 : Int32) (S : z_St) : z_seg z_rZ (c_X9_isFor) [] (fun pc => fun _ _ _ => none) 50 (c_X9_isFor) [(0, .ref v0), (1, .int v1)] [] S = b_X9_isFor v0 v1 S := rfl
def b_X9_canTell (v0 : Nat) (v1 : Int32) (S : z_St) : Option (Int32 × z_St) :=
if v1 = (2 : Int32) then
(z_chk S v0 10 (
(f_X9_isFor v0 ((6 : Int32)) S).bind fun q1 =>
z_rb q1.1 q1.2))
else
if v1 = (3 : Int32) then
(z_chk S v0 10 (
(f_X9_isFor v0 ((7 : Int32)) S).bind fun q2 =>
z_rb q2.1 q2.2))
else
if v1 = (4 : Int32) then
(z_chk S v0 10 (
(f_X9_isFor v0 ((8 : Int32)) S).bind fun q3 =>
z_rb q3.1 q3.2))
else
(z_rb ((1 : Int32)) S)
def f_X9_canTell : Nat → Int32 → z_St → Option (Int32 × z_St) := z_op (b_X9_canTell)
theorem e_X9_canTell (v0 : Nat) (v1 : Int32) (S : z_St) : f_X9_canTell v0 v1 S = b_X9_canTell v0 v1 S := congrFun (congrFun (congrFun (z_op_eq (b_X9_canTell)) v0) v1) S
def g_X9_canTell : z_G := .inl (fun as S => match as with
  | [.ref v0, .int v1] => f_X9_canTell v0 v1 S
  | _ => none)
def c_X9_canTell : List z_E := [
  (0, .iload_n 1, 1, .null, [], z_g0),
  (1, .tableswitch 48 2 4 #[27, 34, 41], 27, .null, [49, 2, 28, 35, 42], z_g0),
  (28, .aload_n 0, 1, .null, [], z_g0),
  (29, .bipush 6, 2, .int ((6 : Int32)), [], z_g0),
  (31, .invokevirtual 16, 3, .null, [1, 10, 0], g_X9_isFor),
  (34, .ireturn, 1, .null, [], z_g0),
  (35, .aload_n 0, 1, .null, [], z_g0),
  (36, .bipush 7, 2, .int ((7 : Int32)), [], z_g0),
  (38, .invokevirtual 16, 3, .null, [1, 10, 0], g_X9_isFor),
  (41, .ireturn, 1, .null, [], z_g0),
  (42, .aload_n 0, 1, .null, [], z_g0),
  (43, .bipush 8, 2, .int ((8 : Int32)), [], z_g0),
  (45, .invokevirtual 16, 3, .null, [1, 10, 0], g_X9_isFor),
  (48, .ireturn, 1, .null, [], z_g0),
  (49, .iconst 1, 1, .int ((1 : Int32)), [], z_g0),
  (50, .ireturn, 1, .null, [], z_g0)]
set_option maxRecDepth 100000 in
theorem r_X9_canTell (v0 : Nat) (v1 : Int32) (S : z_St) : z_seg z_rZ (c_X9_canTell) [] (fun pc => fun _ _ _ => none) 19 (c_X9_canTell) [(0, .ref v0), (1, .int v1)] [] S = b_X9_canTell v0 v1 S := rfl
def b_X9_sign (v0 : Nat) (S : z_St) : Option (Int32 × z_St) :=
z_chk S v0 10 (
if ((z_i S v0 0)) < 0 then
(some ((0 : Int32), S))
else
(z_chk S v0 10 (
z_chk S (z_s S 0) 121 (
if (Int32.ofNat (z_n S (z_s S 0))) ≤ ((z_i S v0 0)) then
(some ((0 : Int32), S))
else
(z_chk S v0 10 (
z_inb S (z_s S 0) 121 ((z_i S v0 0)) (
some ((z_i S (z_s S 0) ((z_i S v0 0)).toNatClampNeg), S))))))))
def f_X9_sign : Nat → z_St → Option (Int32 × z_St) := z_op (b_X9_sign)
theorem e_X9_sign (v0 : Nat) (S : z_St) : f_X9_sign v0 S = b_X9_sign v0 S := congrFun (congrFun (z_op_eq (b_X9_sign)) v0) S
def g_X9_sign : z_G := .inl (fun as S => match as with
  | [.ref v0] => f_X9_sign v0 S
  | _ => none)
def c_X9_sign : List z_E := [
  (0, .aload_n 0, 1, .null, [], z_g0),
  (1, .getfield 7, 3, .null, [10, 0, 0], z_g0),
  (4, .ifCond .lt 25, 3, .null, [29], z_g0),
  (7, .aload_n 0, 1, .null, [], z_g0),
  (8, .getfield 7, 3, .null, [10, 0, 0], z_g0),
  (11, .getstatic 27, 3, .null, [0], z_g0),
  (14, .arraylength, 1, .null, [121], z_g0),
  (15, .if_icmp .ge 14, 3, .null, [29], z_g0),
  (18, .getstatic 27, 3, .null, [0], z_g0),
  (21, .aload_n 0, 1, .null, [], z_g0),
  (22, .getfield 7, 3, .null, [10, 0, 0], z_g0),
  (25, .iaload, 1, .null, [121], z_g0),
  (26, .goto 4, 3, .null, [30], z_g0),
  (29, .iconst 0, 1, .int ((0 : Int32)), [], z_g0),
  (30, .ireturn, 1, .null, [], z_g0)]
set_option maxRecDepth 100000 in
theorem r_X9_sign (v0 : Nat) (S : z_St) : z_seg z_rI (c_X9_sign) [] (fun pc => fun _ _ _ => none) 18 (c_X9_sign) [(0, .ref v0)] [] S = b_X9_sign v0 S := rfl
def b_X9_weight (v0 : Nat) (S : z_St) : Option (Int32 × z_St) :=
z_chk S v0 10 (
if ((z_i S v0 0)) = ((1 : Int32)) then
(z_chk S v0 10 (
some (((z_i S v0 1)) + ((7 : Int32)), S)))
else
(z_chk S v0 10 (
if ((z_i S v0 0)) = ((5 : Int32)) then
(z_chk S v0 10 (
some (((2 : Int32)) * ((z_i S v0 1)), S)))
else
(z_chk S v0 10 (
some ((z_i S v0 1), S))))))
def f_X9_weight : Nat → z_St → Option (Int32 × z_St) := z_op (b_X9_weight)
theorem e_X9_weight (v0 : Nat) (S : z_St) : f_X9_weight v0 S = b_X9_weight v0 S := congrFun (congrFun (z_op_eq (b_X9_weight)) v0) S
def g_X9_weight : z_G := .inl (fun as S => match as with
  | [.ref v0] => f_X9_weight v0 S
  | _ => none)
def c_X9_weight : List z_E := [
  (0, .aload_n 0, 1, .null, [], z_g0),
  (1, .getfield 7, 3, .null, [10, 0, 0], z_g0),
  (4, .iconst 1, 1, .int ((1 : Int32)), [], z_g0),
  (5, .if_icmp .ne 11, 3, .null, [16], z_g0),
  (8, .aload_n 0, 1, .null, [], z_g0),
  (9, .getfield 13, 3, .null, [10, 1, 0], z_g0),
  (12, .bipush 7, 2, .int ((7 : Int32)), [], z_g0),
  (14, .iadd, 1, .null, [], z_g0),
  (15, .ireturn, 1, .null, [], z_g0),
  (16, .aload_n 0, 1, .null, [], z_g0),
  (17, .getfield 7, 3, .null, [10, 0, 0], z_g0),
  (20, .iconst 5, 1, .int ((5 : Int32)), [], z_g0),
  (21, .if_icmp .ne 12, 3, .null, [33], z_g0),
  (24, .iconst 2, 1, .int ((2 : Int32)), [], z_g0),
  (25, .aload_n 0, 1, .null, [], z_g0),
  (26, .getfield 13, 3, .null, [10, 1, 0], z_g0),
  (29, .imul, 1, .null, [], z_g0),
  (30, .goto 7, 3, .null, [37], z_g0),
  (33, .aload_n 0, 1, .null, [], z_g0),
  (34, .getfield 13, 3, .null, [10, 1, 0], z_g0),
  (37, .ireturn, 1, .null, [], z_g0)]
set_option maxRecDepth 100000 in
theorem r_X9_weight (v0 : Nat) (S : z_St) : z_seg z_rI (c_X9_weight) [] (fun pc => fun _ _ _ => none) 24 (c_X9_weight) [(0, .ref v0)] [] S = b_X9_weight v0 S := rfl
def b_X9_tell (v0 : Nat) (v1 : Int32) (S : z_St) : Option (Int32 × z_St) :=
if v1 = (0 : Int32) then
(z_chk S v0 10 (
(f_X9_sign v0 S).bind fun q1 =>
some (q1.1, q1.2)))
else
if v1 = (1 : Int32) then
(z_chk S v0 10 (
(f_X9_weight v0 S).bind fun q2 =>
some (q2.1, q2.2)))
else
if v1 = (2 : Int32) then
(z_chk S v0 10 (
if ((z_i S v0 0)) = ((1 : Int32)) then
(z_chk S v0 10 (
(f_X9_weight v0 S).bind fun q5 =>
some (((3 : Int32)) * q5.1, q5.2)))
else
(z_chk S v0 10 (
(f_X9_sign v0 S).bind fun q3 =>
z_chk q3.2 v0 10 (
(f_X9_weight v0 q3.2).bind fun q4 =>
some ((((10 : Int32)) * q3.1) + q4.1, q4.2))))))
else
if v1 = (3 : Int32) then
(z_chk S v0 10 (
(f_X9_weight v0 S).bind fun q6 =>
z_chk q6.2 v0 10 (
(f_X9_sign v0 q6.2).bind fun q7 =>
z_chk q7.2 v0 10 (
if ((z_i q7.2 v0 0)) = ((3 : Int32)) then
(some (((((5 : Int32)) * q6.1) + q7.1) + ((100 : Int32)), q7.2))
else
(some (((((5 : Int32)) * q6.1) + q7.1) + ((0 : Int32)), q7.2))))))
else
if v1 = (4 : Int32) then
(z_chk S v0 10 (
(f_X9_weight v0 S).bind fun q8 =>
z_chk q8.2 v0 10 (
(f_X9_weight v0 q8.2).bind fun q9 =>
z_chk q9.2 v0 10 (
if ((z_i q9.2 v0 0)) = ((5 : Int32)) then
(z_chk q9.2 v0 10 (
(f_X9_sign v0 q9.2).bind fun q10 =>
some ((q8.1 * q9.1) - q10.1, q10.2)))
else
(some ((q8.1 * q9.1) - ((0 : Int32)), q9.2))))))
else
(z_chk S v0 10 (
(f_X9_sign v0 S).bind fun q11 =>
some (((1000 : Int32)) * q11.1, q11.2)))
def f_X9_tell : Nat → Int32 → z_St → Option (Int32 × z_St) := z_op (b_X9_tell)
theorem e_X9_tell (v0 : Nat) (v1 : Int32) (S : z_St) : f_X9_tell v0 v1 S = b_X9_tell v0 v1 S := congrFun (congrFun (congrFun (z_op_eq (b_X9_tell)) v0) v1) S
def g_X9_tell : z_G := .inl (fun as S => match as with
  | [.ref v0, .int v1] => f_X9_tell v0 v1 S
  | _ => none)
def c_X9_tell : List z_E := [
  (0, .iload_n 1, 1, .null, [], z_g0),
  (1, .tableswitch 129 0 4 #[35, 40, 45, 75, 102], 35, .null, [130, 0, 36, 41, 46, 76, 103], z_g0),
  (36, .aload_n 0, 1, .null, [], z_g0),
  (37, .invokevirtual 20, 3, .null, [1, 10], g_X9_sign),
  (40, .ireturn, 1, .null, [], z_g0),
  (41, .aload_n 0, 1, .null, [], z_g0),
  (42, .invokevirtual 24, 3, .null, [1, 10], g_X9_weight),
  (45, .ireturn, 1, .null, [], z_g0),
  (46, .aload_n 0, 1, .null, [], z_g0),
  (47, .getfield 7, 3, .null, [10, 0, 0], z_g0),
  (50, .iconst 1, 1, .int ((1 : Int32)), [], z_g0),
  (51, .if_icmp .ne 12, 3, .null, [63], z_g0),
  (54, .iconst 3, 1, .int ((3 : Int32)), [], z_g0),
  (55, .aload_n 0, 1, .null, [], z_g0),
  (56, .invokevirtual 24, 3, .null, [1, 10], g_X9_weight),
  (59, .imul, 1, .null, [], z_g0),
  (60, .goto 15, 3, .null, [75], z_g0),
  (63, .bipush 10, 2, .int ((10 : Int32)), [], z_g0),
  (65, .aload_n 0, 1, .null, [], z_g0),
  (66, .invokevirtual 20, 3, .null, [1, 10], g_X9_sign),
  (69, .imul, 1, .null, [], z_g0),
  (70, .aload_n 0, 1, .null, [], z_g0),
  (71, .invokevirtual 24, 3, .null, [1, 10], g_X9_weight),
  (74, .iadd, 1, .null, [], z_g0),
  (75, .ireturn, 1, .null, [], z_g0),
  (76, .iconst 5, 1, .int ((5 : Int32)), [], z_g0),
  (77, .aload_n 0, 1, .null, [], z_g0),
  (78, .invokevirtual 24, 3, .null, [1, 10], g_X9_weight),
  (81, .imul, 1, .null, [], z_g0),
  (82, .aload_n 0, 1, .null, [], z_g0),
  (83, .invokevirtual 20, 3, .null, [1, 10], g_X9_sign),
  (86, .iadd, 1, .null, [], z_g0),
  (87, .aload_n 0, 1, .null, [], z_g0),
  (88, .getfield 7, 3, .null, [10, 0, 0], z_g0),
  (91, .iconst 3, 1, .int ((3 : Int32)), [], z_g0),
  (92, .if_icmp .ne 8, 3, .null, [100], z_g0),
  (95, .bipush 100, 2, .int ((100 : Int32)), [], z_g0),
  (97, .goto 4, 3, .null, [101], z_g0),
  (100, .iconst 0, 1, .int ((0 : Int32)), [], z_g0),
  (101, .iadd, 1, .null, [], z_g0),
  (102, .ireturn, 1, .null, [], z_g0),
  (103, .aload_n 0, 1, .null, [], z_g0),
  (104, .invokevirtual 24, 3, .null, [1, 10], g_X9_weight),
  (107, .aload_n 0, 1, .null, [], z_g0),
  (108, .invokevirtual 24, 3, .null, [1, 10], g_X9_weight),
  (111, .imul, 1, .null, [], z_g0),
  (112, .aload_n 0, 1, .null, [], z_g0),
  (113, .getfield 7, 3, .null, [10, 0, 0], z_g0),
  (116, .iconst 5, 1, .int ((5 : Int32)), [], z_g0),
  (117, .if_icmp .ne 10, 3, .null, [127], z_g0),
  (120, .aload_n 0, 1, .null, [], z_g0),
  (121, .invokevirtual 20, 3, .null, [1, 10], g_X9_sign),
  (124, .goto 4, 3, .null, [128], z_g0),
  (127, .iconst 0, 1, .int ((0 : Int32)), [], z_g0),
  (128, .isub, 1, .null, [], z_g0),
  (129, .ireturn, 1, .null, [], z_g0),
  (130, .sipush 1000, 3, .int ((1000 : Int32)), [], z_g0),
  (133, .aload_n 0, 1, .null, [], z_g0),
  (134, .invokevirtual 20, 3, .null, [1, 10], g_X9_sign),
  (137, .imul, 1, .null, [], z_g0),
  (138, .ireturn, 1, .null, [], z_g0)]
set_option maxRecDepth 100000 in
theorem r_X9_tell (v0 : Nat) (v1 : Int32) (S : z_St) : z_seg z_rI (c_X9_tell) [] (fun pc => fun _ _ _ => none) 64 (c_X9_tell) [(0, .ref v0), (1, .int v1)] [] S = b_X9_tell v0 v1 S := rfl
def j_X11_init_98 (v0 : Nat) (S : z_St) : Option z_St :=
let a34 := z_x S
let S35 := z_new S 6 5
z_chk S35 a34 6 (
(f_X5_init a34 S35).bind fun q36 =>
z_chk q36 v0 12 (
let S37 := z_wr q36 v0 15 (some a34)
let a38 := z_x S37
let S39 := z_new S37 3 3
z_chk S39 a38 3 (
(f_X2_init a38 S39).bind fun q40 =>
z_chk q40 v0 12 (
let S41 := z_wr q40 v0 16 (some a38)
some S41))))
def b_X11_init (v0 : Nat) (S : z_St) : Option z_St :=
z_len ((40 : Int32)) 30000 (
let a1 := z_x S
let S2 := z_new S 110 ((40 : Int32)).toNatClampNeg
z_chk S2 v0 12 (
let S3 := z_wr S2 v0 0 (some a1)
z_len ((20 : Int32)) 30000 (
let a4 := z_x S3
let S5 := z_new S3 111 ((20 : Int32)).toNatClampNeg
z_chk S5 v0 12 (
let S6 := z_wr S5 v0 2 (some a4)
z_len ((40 : Int32)) 30000 (
let a7 := z_x S6
let S8 := z_new S6 112 ((40 : Int32)).toNatClampNeg
z_chk S8 v0 12 (
let S9 := z_wr S8 v0 4 (some a7)
z_len ((20 : Int32)) 30000 (
let a10 := z_x S9
let S11 := z_new S9 113 ((20 : Int32)).toNatClampNeg
z_chk S11 v0 12 (
let S12 := z_wr S11 v0 6 (some a10)
z_len ((20 : Int32)) 30000 (
let a13 := z_x S12
let S14 := z_new S12 114 ((20 : Int32)).toNatClampNeg
z_chk S14 v0 12 (
let S15 := z_wr S14 v0 8 (some a13)
z_len ((10 : Int32)) 30000 (
let a16 := z_x S15
let S17 := z_new S15 101 ((10 : Int32)).toNatClampNeg
z_chk S17 v0 12 (
let S18 := z_wr S17 v0 10 (some a16)
z_len ((10 : Int32)) 30000 (
let a19 := z_x S18
let S20 := z_new S18 101 ((10 : Int32)).toNatClampNeg
z_chk S20 v0 12 (
let S21 := z_wr S20 v0 11 (some a19)
let a22 := z_x S21
let S23 := z_new S21 1 14
z_chk S23 a22 1 (
(f_X0_init a22 S23).bind fun q24 =>
z_chk q24 v0 12 (
let S25 := z_wr q24 v0 12 (some a22)
let a26 := z_x S25
let S27 := z_new S25 7 17
z_chk S27 a26 7 (
(f_X6_init a26 S27).bind fun q28 =>
z_chk q28 v0 12 (
let S29 := z_wr q28 v0 13 (some a26)
let a30 := z_x S29
let S31 := z_new S29 5 12
z_chk S31 a30 5 (
(f_X4_init a30 S31).bind fun q32 =>
z_chk q32 v0 12 (
let S33 := z_wr q32 v0 14 (some a30)
j_X11_init_98 v0 S33))))))))))))))))))))
def f_X11_init : Nat → z_St → Option z_St := z_op (b_X11_init)
theorem e_X11_init (v0 : Nat) (S : z_St) : f_X11_init v0 S = b_X11_init v0 S := congrFun (congrFun (z_op_eq (b_X11_init)) v0) S
def g_X11_init : z_G := .inr (.inr (.inr (fun as S => match as with
  | [.ref v0] => f_X11_init v0 S
  | _ => none)))
def c_X11_init : List z_E := [
  (0, .aload_n 0, 1, .null, [], z_g0),
  (1, .invokespecial 1, 3, .null, [2], z_g0),
  (4, .aload_n 0, 1, .null, [], z_g0),
  (5, .bipush 40, 2, .int ((40 : Int32)), [], z_g0),
  (7, .anewarray 9, 3, .null, [110], z_g0),
  (10, .putfield 11, 3, .null, [12, 0, 3], z_g0),
  (13, .aload_n 0, 1, .null, [], z_g0),
  (14, .bipush 20, 2, .int ((20 : Int32)), [], z_g0),
  (16, .anewarray 15, 3, .null, [111], z_g0),
  (19, .putfield 17, 3, .null, [12, 2, 3], z_g0),
  (22, .aload_n 0, 1, .null, [], z_g0),
  (23, .bipush 40, 2, .int ((40 : Int32)), [], z_g0),
  (25, .anewarray 21, 3, .null, [112], z_g0),
  (28, .putfield 23, 3, .null, [12, 4, 3], z_g0),
  (31, .aload_n 0, 1, .null, [], z_g0),
  (32, .bipush 20, 2, .int ((20 : Int32)), [], z_g0),
  (34, .anewarray 27, 3, .null, [113], z_g0),
  (37, .putfield 29, 3, .null, [12, 6, 3], z_g0),
  (40, .aload_n 0, 1, .null, [], z_g0),
  (41, .bipush 20, 2, .int ((20 : Int32)), [], z_g0),
  (43, .anewarray 33, 3, .null, [114], z_g0),
  (46, .putfield 35, 3, .null, [12, 8, 3], z_g0),
  (49, .aload_n 0, 1, .null, [], z_g0),
  (50, .bipush 10, 2, .int ((10 : Int32)), [], z_g0),
  (52, .newarray .int, 2, .null, [101], z_g0),
  (54, .putfield 39, 3, .null, [12, 10, 3], z_g0),
  (57, .aload_n 0, 1, .null, [], z_g0),
  (58, .bipush 10, 2, .int ((10 : Int32)), [], z_g0),
  (60, .newarray .int, 2, .null, [101], z_g0),
  (62, .putfield 43, 3, .null, [12, 11, 3], z_g0),
  (65, .aload_n 0, 1, .null, [], z_g0),
  (66, .new 46, 3, .null, [1, 14], z_g0),
  (69, .dup, 1, .null, [], z_g0),
  (70, .invokespecial 48, 3, .null, [1, 1], g_X0_init),
  (73, .putfield 49, 3, .null, [12, 12, 3], z_g0),
  (76, .aload_n 0, 1, .null, [], z_g0),
  (77, .new 53, 3, .null, [7, 17], z_g0),
  (80, .dup, 1, .null, [], z_g0),
  (81, .invokespecial 55, 3, .null, [1, 7], g_X6_init),
  (84, .putfield 56, 3, .null, [12, 13, 3], z_g0),
  (87, .aload_n 0, 1, .null, [], z_g0),
  (88, .new 60, 3, .null, [5, 12], z_g0),
  (91, .dup, 1, .null, [], z_g0),
  (92, .invokespecial 62, 3, .null, [1, 5], g_X4_init),
  (95, .putfield 63, 3, .null, [12, 14, 3], z_g0),
  (98, .aload_n 0, 1, .null, [], z_g0),
  (99, .new 67, 3, .null, [6, 5], z_g0),
  (102, .dup, 1, .null, [], z_g0),
  (103, .invokespecial 69, 3, .null, [1, 6], g_X5_init),
  (106, .putfield 70, 3, .null, [12, 15, 3], z_g0),
  (109, .aload_n 0, 1, .null, [], z_g0),
  (110, .new 74, 3, .null, [3, 3], z_g0),
  (113, .dup, 1, .null, [], z_g0),
  (114, .invokespecial 76, 3, .null, [1, 3], g_X2_init),
  (117, .putfield 77, 3, .null, [12, 16, 3], z_g0),
  (120, .return_, 1, .null, [], z_g0)]
def a_X11_init_98 {ρ : Type} (k : Nat → z_St → Option ρ) (ls : z_Lv) (st : List Value) (S : z_St) : Option ρ := z_gR ls 0 fun v0 => z_p0 st (k v0 S)
set_option maxRecDepth 100000 in
theorem r_X11_init_98 (v0 : Nat) (S : z_St) : z_seg z_rV (c_X11_init) [98] (fun pc => fun _ _ _ => none) 59 (z_to 98 (c_X11_init)) [(0, .ref v0)] [] S = j_X11_init_98 v0 S := rfl
set_option maxRecDepth 100000 in
theorem r_X11_init (v0 : Nat) (S : z_St) : z_seg z_rV (c_X11_init) [98] (fun pc => cond (Nat.beq pc 98) (a_X11_init_98 (j_X11_init_98)) (fun _ _ _ => none)) 59 (c_X11_init) [(0, .ref v0)] [] S = b_X11_init v0 S := rfl
def b_X11_failsWith (v0 : Nat) (v1 : Int32) (v2 : Int32) (S : z_St) : Option (Int32 × z_St) :=
z_chk S v0 12 (
let S1 := z_wi S v0 17 v1
z_chk S1 v0 12 (
let S2 := z_wi S1 v0 18 v2
some (((-2000000010 : Int32)) - v1, S2)))
def f_X11_failsWith : Nat → Int32 → Int32 → z_St → Option (Int32 × z_St) := z_op (b_X11_failsWith)
theorem e_X11_failsWith (v0 : Nat) (v1 : Int32) (v2 : Int32) (S : z_St) : f_X11_failsWith v0 v1 v2 S = b_X11_failsWith v0 v1 v2 S := congrFun (congrFun (congrFun (congrFun (z_op_eq (b_X11_failsWith)) v0) v1) v2) S
def g_X11_failsWith : z_G := .inl (fun as S => match as with
  | [.ref v0, .int v1, .int v2] => f_X11_failsWith v0 v1 v2 S
  | _ => none)
def c_X11_failsWith : List z_E := [
  (0, .aload_n 0, 1, .null, [], z_g0),
  (1, .iload_n 1, 1, .null, [], z_g0),
  (2, .putfield 299, 3, .null, [12, 17, 0], z_g0),
  (5, .aload_n 0, 1, .null, [], z_g0),
  (6, .iload_n 2, 1, .null, [], z_g0),
  (7, .putfield 302, 3, .null, [12, 18, 0], z_g0),
  (10, .ldc_w 513, 3, .int (-2000000010 : Int32), [], z_g0),
  (13, .iload_n 1, 1, .null, [], z_g0),
  (14, .isub, 1, .null, [], z_g0),
  (15, .ireturn, 1, .null, [], z_g0)]
set_option maxRecDepth 100000 in
theorem r_X11_failsWith (v0 : Nat) (v1 : Int32) (v2 : Int32) (S : z_St) : z_seg z_rI (c_X11_failsWith) [] (fun pc => fun _ _ _ => none) 13 (c_X11_failsWith) [(0, .ref v0), (1, .int v1), (2, .int v2)] [] S = b_X11_failsWith v0 v1 v2 S := rfl
def b_X11_fails (v0 : Nat) (v1 : Int32) (S : z_St) : Option (Int32 × z_St) :=
z_chk S v0 12 (
(f_X11_failsWith v0 v1 ((0 : Int32)) S).bind fun q1 =>
some (q1.1, q1.2))
def f_X11_fails : Nat → Int32 → z_St → Option (Int32 × z_St) := z_op (b_X11_fails)
theorem e_X11_fails (v0 : Nat) (v1 : Int32) (S : z_St) : f_X11_fails v0 v1 S = b_X11_fails v0 v1 S := congrFun (congrFun (congrFun (z_op_eq (b_X11_fails)) v0) v1) S
def g_X11_fails : z_G := .inl (fun as S => match as with
  | [.ref v0, .int v1] => f_X11_fails v0 v1 S
  | _ => none)
def c_X11_fails : List z_E := [
  (0, .aload_n 0, 1, .null, [], z_g0),
  (1, .iload_n 1, 1, .null, [], z_g0),
  (2, .iconst 0, 1, .int ((0 : Int32)), [], z_g0),
  (3, .invokevirtual 212, 3, .null, [1, 12, 0, 0], g_X11_failsWith),
  (6, .ireturn, 1, .null, [], z_g0)]
set_option maxRecDepth 100000 in
theorem r_X11_fails (v0 : Nat) (v1 : Int32) (S : z_St) : z_seg z_rI (c_X11_fails) [] (fun pc => fun _ _ _ => none) 8 (c_X11_fails) [(0, .ref v0), (1, .int v1)] [] S = b_X11_fails v0 v1 S := rfl
def b_X11_passes (v0 : Nat) (v1 : Int32) (S : z_St) : Option (Int32 × z_St) :=
z_chk S v0 12 (
let S1 := z_wi S v0 17 ((0 : Int32))
z_chk S1 v0 12 (
let S2 := z_wi S1 v0 18 ((0 : Int32))
some (v1, S2)))
def f_X11_passes : Nat → Int32 → z_St → Option (Int32 × z_St) := z_op (b_X11_passes)
theorem e_X11_passes (v0 : Nat) (v1 : Int32) (S : z_St) : f_X11_passes v0 v1 S = b_X11_passes v0 v1 S := congrFun (congrFun (congrFun (z_op_eq (b_X11_passes)) v0) v1) S
def g_X11_passes : z_G := .inl (fun as S => match as with
  | [.ref v0, .int v1] => f_X11_passes v0 v1 S
  | _ => none)
def c_X11_passes : List z_E := [
  (0, .aload_n 0, 1, .null, [], z_g0),
  (1, .iconst 0, 1, .int ((0 : Int32)), [], z_g0),
  (2, .putfield 299, 3, .null, [12, 17, 0], z_g0),
  (5, .aload_n 0, 1, .null, [], z_g0),
  (6, .iconst 0, 1, .int ((0 : Int32)), [], z_g0),
  (7, .putfield 302, 3, .null, [12, 18, 0], z_g0),
  (10, .iload_n 1, 1, .null, [], z_g0),
  (11, .ireturn, 1, .null, [], z_g0)]
set_option maxRecDepth 100000 in
theorem r_X11_passes (v0 : Nat) (v1 : Int32) (S : z_St) : z_seg z_rI (c_X11_passes) [] (fun pc => fun _ _ _ => none) 11 (c_X11_passes) [(0, .ref v0), (1, .int v1)] [] S = b_X11_passes v0 v1 S := rfl
def b_X11_keepRow (v0 : Nat) (v1 : Nat) (S : z_St) : Option (Int32 × z_St) :=
z_chk S v0 12 (
z_chk S v0 12 (
z_onV (va_rf (z_r S v0 0)) fun b1 =>
z_inb S b1 110 ((z_i S v0 1)) (
z_chk S v1 9 (
let S2 := z_wr S b1 ((z_i S v0 1)).toNatClampNeg (some v1)
z_chk S2 v0 12 (
z_chk S2 v0 12 (
let S3 := z_wi S2 v0 1 (((z_i S2 v0 1)) + ((1 : Int32)))
z_chk S3 v0 12 (
some (((z_i S3 v0 1)) - ((1 : Int32)), S3))))))))
def f_X11_keepRow : Nat → Nat → z_St → Option (Int32 × z_St) := z_op (b_X11_keepRow)
theorem e_X11_keepRow (v0 : Nat) (v1 : Nat) (S : z_St) : f_X11_keepRow v0 v1 S = b_X11_keepRow v0 v1 S := congrFun (congrFun (congrFun (z_op_eq (b_X11_keepRow)) v0) v1) S
def g_X11_keepRow : z_G := .inl (fun as S => match as with
  | [.ref v0, .ref v1] => f_X11_keepRow v0 v1 S
  | _ => none)
def c_X11_keepRow : List z_E := [
  (0, .aload_n 0, 1, .null, [], z_g0),
  (1, .getfield 11, 3, .null, [12, 0, 3], z_g0),
  (4, .aload_n 0, 1, .null, [], z_g0),
  (5, .getfield 86, 3, .null, [12, 1, 0], z_g0),
  (8, .aload_n 1, 1, .null, [], z_g0),
  (9, .aastore, 1, .null, [110, 9], z_g0),
  (10, .aload_n 0, 1, .null, [], z_g0),
  (11, .dup, 1, .null, [], z_g0),
  (12, .getfield 86, 3, .null, [12, 1, 0], z_g0),
  (15, .iconst 1, 1, .int ((1 : Int32)), [], z_g0),
  (16, .iadd, 1, .null, [], z_g0),
  (17, .putfield 86, 3, .null, [12, 1, 0], z_g0),
  (20, .aload_n 0, 1, .null, [], z_g0),
  (21, .getfield 86, 3, .null, [12, 1, 0], z_g0),
  (24, .iconst 1, 1, .int ((1 : Int32)), [], z_g0),
  (25, .isub, 1, .null, [], z_g0),
  (26, .ireturn, 1, .null, [], z_g0)]
set_option maxRecDepth 100000 in
theorem r_X11_keepRow (v0 : Nat) (v1 : Nat) (S : z_St) : z_seg z_rI (c_X11_keepRow) [] (fun pc => fun _ _ _ => none) 20 (c_X11_keepRow) [(0, .ref v0), (1, .ref v1)] [] S = b_X11_keepRow v0 v1 S := rfl
def b_X11_row (v0 : Nat) (v1 : Int32) (v2 : Int32) (S : z_St) : Option (Int32 × z_St) :=
(f_X11_outOf v1 ((0 : Int32)) ((7 : Int32)) S).bind fun q1 =>
if q1.1 = 0 then
(if v2 ≤ ((64 : Int32)) then
(z_chk q1.2 v0 12 (
if ((z_i q1.2 v0 1)) < ((40 : Int32)) then
(if 0 ≤ v2 then
(let a2 := z_x q1.2
let S3 := z_new q1.2 9 2
z_chk S3 a2 9 (
(f_X8_init a2 v1 v2 S3).bind fun q4 =>
z_chk q4 v0 12 (
(f_X11_keepRow v0 a2 q4).bind fun q5 =>
z_chk q5.2 v0 12 (
(f_X11_passes v0 q5.1 q5.2).bind fun q6 =>
some (q6.1, q6.2)))))
else
(z_chk q1.2 v0 12 (
(f_X11_fails v0 ((3 : Int32)) q1.2).bind fun q7 =>
some (q7.1, q7.2))))
else
(some ((-2000000004 : Int32), q1.2))))
else
(some ((-2000000002 : Int32), q1.2)))
else
(some ((-2000000002 : Int32), q1.2))
def f_X11_row : Nat → Int32 → Int32 → z_St → Option (Int32 × z_St) := z_op (b_X11_row)
theorem e_X11_row (v0 : Nat) (v1 : Int32) (v2 : Int32) (S : z_St) : f_X11_row v0 v1 v2 S = b_X11_row v0 v1 v2 S := congrFun (congrFun (congrFun (congrFun (z_op_eq (b_X11_row)) v0) v1) v2) S
def g_X11_row : z_G := .inl (fun as S => match as with
  | [.ref v0, .int v1, .int v2] => f_X11_row v0 v1 v2 S
  | _ => none)
def c_X11_row : List z_E := [
  (0, .iload_n 1, 1, .null, [], z_g0),
  (1, .iconst 0, 1, .int ((0 : Int32)), [], z_g0),
  (2, .bipush 7, 2, .int ((7 : Int32)), [], z_g0),
  (4, .invokestatic 81, 3, .null, [0, 0, 0, 0], g_X11_outOf),
  (7, .ifCond .ne 9, 3, .null, [16], z_g0),
  (10, .iload_n 2, 1, .null, [], z_g0),
  (11, .bipush 64, 2, .int ((64 : Int32)), [], z_g0),
  (13, .if_icmp .le 6, 3, .null, [19], z_g0),
  (16, .ldc 85, 2, .int (-2000000002 : Int32), [], z_g0),
  (18, .ireturn, 1, .null, [], z_g0),
  (19, .aload_n 0, 1, .null, [], z_g0),
  (20, .getfield 86, 3, .null, [12, 1, 0], z_g0),
  (23, .bipush 40, 2, .int ((40 : Int32)), [], z_g0),
  (25, .if_icmp .lt 6, 3, .null, [31], z_g0),
  (28, .ldc 90, 2, .int (-2000000004 : Int32), [], z_g0),
  (30, .ireturn, 1, .null, [], z_g0),
  (31, .iload_n 2, 1, .null, [], z_g0),
  (32, .ifCond .ge 9, 3, .null, [41], z_g0),
  (35, .aload_n 0, 1, .null, [], z_g0),
  (36, .iconst 3, 1, .int ((3 : Int32)), [], z_g0),
  (37, .invokevirtual 91, 3, .null, [1, 12, 0], g_X11_fails),
  (40, .ireturn, 1, .null, [], z_g0),
  (41, .aload_n 0, 1, .null, [], z_g0),
  (42, .aload_n 0, 1, .null, [], z_g0),
  (43, .new 9, 3, .null, [9, 2], z_g0),
  (46, .dup, 1, .null, [], z_g0),
  (47, .iload_n 1, 1, .null, [], z_g0),
  (48, .iload_n 2, 1, .null, [], z_g0),
  (49, .invokespecial 95, 3, .null, [1, 9, 0, 0], g_X8_init),
  (52, .invokevirtual 98, 3, .null, [1, 12, 1], g_X11_keepRow),
  (55, .invokevirtual 102, 3, .null, [1, 12, 0], g_X11_passes),
  (58, .ireturn, 1, .null, [], z_g0)]
set_option maxRecDepth 100000 in
theorem r_X11_row (v0 : Nat) (v1 : Int32) (v2 : Int32) (S : z_St) : z_seg z_rI (c_X11_row) [] (fun pc => fun _ _ _ => none) 35 (c_X11_row) [(0, .ref v0), (1, .int v1), (2, .int v2)] [] S = b_X11_row v0 v1 v2 S := rfl
def b_X11_nameless (v0 : Int32) (v1 : Int32) (S : z_St) : Option (Int32 × z_St) :=
if v0 < ((-1 : Int32)) then
(z_rb ((1 : Int32)) S)
else
(if v0 < v1 then
(z_rb ((0 : Int32)) S)
else
(z_rb ((1 : Int32)) S))
def f_X11_nameless : Int32 → Int32 → z_St → Option (Int32 × z_St) := z_op (b_X11_nameless)
theorem e_X11_nameless (v0 : Int32) (v1 : Int32) (S : z_St) : f_X11_nameless v0 v1 S = b_X11_nameless v0 v1 S := congrFun (congrFun (congrFun (z_op_eq (b_X11_nameless)) v0) v1) S
def g_X11_nameless : z_G := .inl (fun as S => match as with
  | [.int v0, .int v1] => f_X11_nameless v0 v1 S
  | _ => none)
def c_X11_nameless : List z_E := [
  (0, .iload_n 0, 1, .null, [], z_g0),
  (1, .iconst (-1), 1, .int ((-1 : Int32)), [], z_g0),
  (2, .if_icmp .lt 8, 3, .null, [10], z_g0),
  (5, .iload_n 0, 1, .null, [], z_g0),
  (6, .iload_n 1, 1, .null, [], z_g0),
  (7, .if_icmp .lt 7, 3, .null, [14], z_g0),
  (10, .iconst 1, 1, .int ((1 : Int32)), [], z_g0),
  (11, .goto 4, 3, .null, [15], z_g0),
  (14, .iconst 0, 1, .int ((0 : Int32)), [], z_g0),
  (15, .ireturn, 1, .null, [], z_g0)]
set_option maxRecDepth 100000 in
theorem r_X11_nameless (v0 : Int32) (v1 : Int32) (S : z_St) : z_seg z_rZ (c_X11_nameless) [] (fun pc => fun _ _ _ => none) 13 (c_X11_nameless) [(0, .int v0), (1, .int v1)] [] S = b_X11_nameless v0 v1 S := rfl
def b_X11_cellFailure (v0 : Nat) (v1 : Int32) (v2 : Int32) (S : z_St) : Option (Int32 × z_St) :=
if v1 = ((-1 : Int32)) then
(some ((1 : Int32), S))
else
(z_chk S v0 12 (
z_onV (va_rf (z_r S v0 0)) fun b1 =>
z_inb S b1 110 v1 (
z_onV (va_rf (z_r S b1 v1.toNatClampNeg)) fun b2 =>
z_chk S b2 9 (
(f_X8_hasCell b2 v2 S).bind fun q3 =>
if q3.1 = 0 then
(some ((2 : Int32), q3.2))
else
(some ((0 : Int32), q3.2))))))
def f_X11_cellFailure : Nat → Int32 → Int32 → z_St → Option (Int32 × z_St) := z_op (b_X11_cellFailure)
theorem e_X11_cellFailure (v0 : Nat) (v1 : Int32) (v2 : Int32) (S : z_St) : f_X11_cellFailure v0 v1 v2 S = b_X11_cellFailure v0 v1 v2 S := congrFun (congrFun (congrFun (congrFun (z_op_eq (b_X11_cellFailure)) v0) v1) v2) S
def g_X11_cellFailure : z_G := .inl (fun as S => match as with
  | [.ref v0, .int v1, .int v2] => f_X11_cellFailure v0 v1 v2 S
  | _ => none)
def c_X11_cellFailure : List z_E := [
  (0, .iload_n 1, 1, .null, [], z_g0),
  (1, .iconst (-1), 1, .int ((-1 : Int32)), [], z_g0),
  (2, .if_icmp .ne 5, 3, .null, [7], z_g0),
  (5, .iconst 1, 1, .int ((1 : Int32)), [], z_g0),
  (6, .ireturn, 1, .null, [], z_g0),
  (7, .aload_n 0, 1, .null, [], z_g0),
  (8, .getfield 11, 3, .null, [12, 0, 3], z_g0),
  (11, .iload_n 1, 1, .null, [], z_g0),
  (12, .aaload, 1, .null, [110], z_g0),
  (13, .iload_n 2, 1, .null, [], z_g0),
  (14, .invokevirtual 263, 3, .null, [1, 9, 0], g_X8_hasCell),
  (17, .ifCond .eq 7, 3, .null, [24], z_g0),
  (20, .iconst 0, 1, .int ((0 : Int32)), [], z_g0),
  (21, .goto 4, 3, .null, [25], z_g0),
  (24, .iconst 2, 1, .int ((2 : Int32)), [], z_g0),
  (25, .ireturn, 1, .null, [], z_g0)]
set_option maxRecDepth 100000 in
theorem r_X11_cellFailure (v0 : Nat) (v1 : Int32) (v2 : Int32) (S : z_St) : z_seg z_rI (c_X11_cellFailure) [] (fun pc => fun _ _ _ => none) 19 (c_X11_cellFailure) [(0, .ref v0), (1, .int v1), (2, .int v2)] [] S = b_X11_cellFailure v0 v1 v2 S := rfl
def b_X11_put (v0 : Nat) (v1 : Int32) (v2 : Int32) (v3 : Int64) (S : z_St) : Option (Int32 × z_St) :=
z_chk S v0 12 (
(f_X11_nameless v1 ((z_i S v0 1)) S).bind fun q1 =>
if q1.1 = 0 then
(z_chk q1.2 v0 12 (
(f_X11_cellFailure v0 v1 v2 q1.2).bind fun q2 =>
if q2.1 = 0 then
(z_chk q2.2 v0 12 (
z_onV (va_rf (z_r q2.2 v0 0)) fun b3 =>
z_inb q2.2 b3 110 v1 (
z_onV (va_rf (z_r q2.2 b3 v1.toNatClampNeg)) fun b4 =>
z_chk q2.2 b4 9 (
(f_X8_setWhole b4 v2 v3 q2.2).bind fun q5 =>
z_chk q5 v0 12 (
(f_X11_passes v0 ((1 : Int32)) q5).bind fun q6 =>
some (q6.1, q6.2))))))
else
(z_chk q2.2 v0 12 (
(f_X11_fails v0 q2.1 q2.2).bind fun q7 =>
some (q7.1, q7.2)))))
else
(some ((-2000000001 : Int32), q1.2)))
def f_X11_put : Nat → Int32 → Int32 → Int64 → z_St → Option (Int32 × z_St) := z_op (b_X11_put)
theorem e_X11_put (v0 : Nat) (v1 : Int32) (v2 : Int32) (v3 : Int64) (S : z_St) : f_X11_put v0 v1 v2 v3 S = b_X11_put v0 v1 v2 v3 S := congrFun (congrFun (congrFun (congrFun (congrFun (z_op_eq (b_X11_put)) v0) v1) v2) v3) S
def g_X11_put : z_G := .inl (fun as S => match as with
  | [.ref v0, .int v1, .int v2, .long v3] => f_X11_put v0 v1 v2 v3 S
  | _ => none)
def c_X11_put : List z_E := [
  (0, .iload_n 1, 1, .null, [], z_g0),
  (1, .aload_n 0, 1, .null, [], z_g0),
  (2, .getfield 86, 3, .null, [12, 1, 0], z_g0),
  (5, .invokestatic 105, 3, .null, [0, 0, 0], g_X11_nameless),
  (8, .ifCond .eq 6, 3, .null, [14], z_g0),
  (11, .ldc 109, 2, .int (-2000000001 : Int32), [], z_g0),
  (13, .ireturn, 1, .null, [], z_g0),
  (14, .aload_n 0, 1, .null, [], z_g0),
  (15, .iload_n 1, 1, .null, [], z_g0),
  (16, .iload_n 2, 1, .null, [], z_g0),
  (17, .invokevirtual 110, 3, .null, [1, 12, 0, 0], g_X11_cellFailure),
  (20, .istore 5, 2, .null, [], z_g0),
  (22, .iload 5, 2, .null, [], z_g0),
  (24, .ifCond .eq 10, 3, .null, [34], z_g0),
  (27, .aload_n 0, 1, .null, [], z_g0),
  (28, .iload 5, 2, .null, [], z_g0),
  (30, .invokevirtual 91, 3, .null, [1, 12, 0], g_X11_fails),
  (33, .ireturn, 1, .null, [], z_g0),
  (34, .aload_n 0, 1, .null, [], z_g0),
  (35, .getfield 11, 3, .null, [12, 0, 3], z_g0),
  (38, .iload_n 1, 1, .null, [], z_g0),
  (39, .aaload, 1, .null, [110], z_g0),
  (40, .iload_n 2, 1, .null, [], z_g0),
  (41, .lload_n 3, 1, .null, [], z_g0),
  (42, .invokevirtual 114, 3, .null, [1, 9, 0, 0], g_X8_setWhole),
  (45, .aload_n 0, 1, .null, [], z_g0),
  (46, .iconst 1, 1, .int ((1 : Int32)), [], z_g0),
  (47, .invokevirtual 102, 3, .null, [1, 12, 0], g_X11_passes),
  (50, .ireturn, 1, .null, [], z_g0)]
set_option maxRecDepth 100000 in
theorem r_X11_put (v0 : Nat) (v1 : Int32) (v2 : Int32) (v3 : Int64) (S : z_St) : z_seg z_rI (c_X11_put) [] (fun pc => fun _ _ _ => none) 32 (c_X11_put) [(0, .ref v0), (1, .int v1), (2, .int v2), (3, .long v3)] [] S = b_X11_put v0 v1 v2 v3 S := rfl
def b_X11_putReal (v0 : Nat) (v1 : Int32) (v2 : Int32) (v3 : Int64) (S : z_St) : Option (Int32 × z_St) :=
z_chk S v0 12 (
(f_X11_nameless v1 ((z_i S v0 1)) S).bind fun q1 =>
if q1.1 = 0 then
(z_chk q1.2 v0 12 (
(f_X11_cellFailure v0 v1 v2 q1.2).bind fun q2 =>
if q2.1 = 0 then
(z_chk q2.2 v0 12 (
z_onV (va_rf (z_r q2.2 v0 0)) fun b3 =>
z_inb q2.2 b3 110 v1 (
z_onV (va_rf (z_r q2.2 b3 v1.toNatClampNeg)) fun b4 =>
z_chk q2.2 b4 9 (
z_chk q2.2 b4 9 (
(f_X8_cellOfReal ((z_i q2.2 b4 0)) v3 q2.2).bind fun q5 =>
z_onV (va_rf (z_r q2.2 b4 1)) fun b6 =>
z_inb q5.2 b6 102 v2 (
let S7 := z_wl q5.2 b6 v2.toNatClampNeg q5.1
z_chk S7 v0 12 (
(f_X11_passes v0 ((1 : Int32)) S7).bind fun q8 =>
some (q8.1, q8.2))))))))
else
(z_chk q2.2 v0 12 (
(f_X11_fails v0 q2.1 q2.2).bind fun q9 =>
some (q9.1, q9.2)))))
else
(some ((-2000000001 : Int32), q1.2)))
def f_X11_putReal : Nat → Int32 → Int32 → Int64 → z_St → Option (Int32 × z_St) := z_op (b_X11_putReal)
theorem e_X11_putReal (v0 : Nat) (v1 : Int32) (v2 : Int32) (v3 : Int64) (S : z_St) : f_X11_putReal v0 v1 v2 v3 S = b_X11_putReal v0 v1 v2 v3 S := congrFun (congrFun (congrFun (congrFun (congrFun (z_op_eq (b_X11_putReal)) v0) v1) v2) v3) S
def g_X11_putReal : z_G := .inl (fun as S => match as with
  | [.ref v0, .int v1, .int v2, .long v3] => f_X11_putReal v0 v1 v2 v3 S
  | _ => none)
def c_X11_putReal : List z_E := [
  (0, .iload_n 1, 1, .null, [], z_g0),
  (1, .aload_n 0, 1, .null, [], z_g0),
  (2, .getfield 86, 3, .null, [12, 1, 0], z_g0),
  (5, .invokestatic 105, 3, .null, [0, 0, 0], g_X11_nameless),
  (8, .ifCond .eq 6, 3, .null, [14], z_g0),
  (11, .ldc 109, 2, .int (-2000000001 : Int32), [], z_g0),
  (13, .ireturn, 1, .null, [], z_g0),
  (14, .aload_n 0, 1, .null, [], z_g0),
  (15, .iload_n 1, 1, .null, [], z_g0),
  (16, .iload_n 2, 1, .null, [], z_g0),
  (17, .invokevirtual 110, 3, .null, [1, 12, 0, 0], g_X11_cellFailure),
  (20, .istore 5, 2, .null, [], z_g0),
  (22, .iload 5, 2, .null, [], z_g0),
  (24, .ifCond .eq 10, 3, .null, [34], z_g0),
  (27, .aload_n 0, 1, .null, [], z_g0),
  (28, .iload 5, 2, .null, [], z_g0),
  (30, .invokevirtual 91, 3, .null, [1, 12, 0], g_X11_fails),
  (33, .ireturn, 1, .null, [], z_g0),
  (34, .aload_n 0, 1, .null, [], z_g0),
  (35, .getfield 11, 3, .null, [12, 0, 3], z_g0),
  (38, .iload_n 1, 1, .null, [], z_g0),
  (39, .aaload, 1, .null, [110], z_g0),
  (40, .astore 6, 2, .null, [], z_g0),
  (42, .aload 6, 2, .null, [], z_g0),
  (44, .getfield 118, 3, .null, [9, 1, 3], z_g0),
  (47, .iload_n 2, 1, .null, [], z_g0),
  (48, .aload 6, 2, .null, [], z_g0),
  (50, .getfield 122, 3, .null, [9, 0, 0], z_g0),
  (53, .lload_n 3, 1, .null, [], z_g0),
  (54, .invokestatic 125, 3, .null, [0, 0, 0], g_X8_cellOfReal),
  (57, .lastore, 1, .null, [], z_g0),
  (58, .aload_n 0, 1, .null, [], z_g0),
  (59, .iconst 1, 1, .int ((1 : Int32)), [], z_g0),
  (60, .invokevirtual 102, 3, .null, [1, 12, 0], g_X11_passes),
  (63, .ireturn, 1, .null, [], z_g0)]
set_option maxRecDepth 100000 in
theorem r_X11_putReal (v0 : Nat) (v1 : Int32) (v2 : Int32) (v3 : Int64) (S : z_St) : z_seg z_rI (c_X11_putReal) [] (fun pc => fun _ _ _ => none) 38 (c_X11_putReal) [(0, .ref v0), (1, .int v1), (2, .int v2), (3, .long v3)] [] S = b_X11_putReal v0 v1 v2 v3 S := rfl
def b_X11_passesLong (v0 : Nat) (v1 : Int64) (S : z_St) : Option (Int64 × z_St) :=
z_chk S v0 12 (
let S1 := z_wi S v0 17 ((0 : Int32))
z_chk S1 v0 12 (
let S2 := z_wi S1 v0 18 ((0 : Int32))
some (v1, S2)))
def f_X11_passesLong : Nat → Int64 → z_St → Option (Int64 × z_St) := z_op (b_X11_passesLong)
theorem e_X11_passesLong (v0 : Nat) (v1 : Int64) (S : z_St) : f_X11_passesLong v0 v1 S = b_X11_passesLong v0 v1 S := congrFun (congrFun (congrFun (z_op_eq (b_X11_passesLong)) v0) v1) S
def g_X11_passesLong : z_G := .inr (.inl (fun as S => match as with
  | [.ref v0, .long v1] => f_X11_passesLong v0 v1 S
  | _ => none))
def c_X11_passesLong : List z_E := [
  (0, .aload_n 0, 1, .null, [], z_g0),
  (1, .iconst 0, 1, .int ((0 : Int32)), [], z_g0),
  (2, .putfield 299, 3, .null, [12, 17, 0], z_g0),
  (5, .aload_n 0, 1, .null, [], z_g0),
  (6, .iconst 0, 1, .int ((0 : Int32)), [], z_g0),
  (7, .putfield 302, 3, .null, [12, 18, 0], z_g0),
  (10, .lload_n 1, 1, .null, [], z_g0),
  (11, .lreturn, 1, .null, [], z_g0)]
set_option maxRecDepth 100000 in
theorem r_X11_passesLong (v0 : Nat) (v1 : Int64) (S : z_St) : z_seg z_rL (c_X11_passesLong) [] (fun pc => fun _ _ _ => none) 11 (c_X11_passesLong) [(0, .ref v0), (1, .long v1)] [] S = b_X11_passesLong v0 v1 S := rfl
def b_X11_get (v0 : Nat) (v1 : Int32) (v2 : Int32) (S : z_St) : Option (Int64 × z_St) :=
z_chk S v0 12 (
(f_X11_nameless v1 ((z_i S v0 1)) S).bind fun q1 =>
if q1.1 = 0 then
(z_chk q1.2 v0 12 (
(f_X11_cellFailure v0 v1 v2 q1.2).bind fun q2 =>
if q2.1 = 0 then
(z_chk q2.2 v0 12 (
z_onV (va_rf (z_r q2.2 v0 0)) fun b3 =>
z_inb q2.2 b3 110 v1 (
z_onV (va_rf (z_r q2.2 b3 v1.toNatClampNeg)) fun b4 =>
z_chk q2.2 b4 9 (
(f_X8_wholeAt b4 v2 q2.2).bind fun q5 =>
z_chk q5.2 v0 12 (
(f_X11_passesLong v0 q5.1 q5.2).bind fun q6 =>
some (q6.1, q6.2))))))
else
(z_chk q2.2 v0 12 (
(f_X11_fails v0 q2.1 q2.2).bind fun q7 =>
some (q7.1.toInt64, q7.2)))))
else
(some ((-2000000001 : Int64), q1.2)))
def f_X11_get : Nat → Int32 → Int32 → z_St → Option (Int64 × z_St) := z_op (b_X11_get)
theorem e_X11_get (v0 : Nat) (v1 : Int32) (v2 : Int32) (S : z_St) : f_X11_get v0 v1 v2 S = b_X11_get v0 v1 v2 S := congrFun (congrFun (congrFun (congrFun (z_op_eq (b_X11_get)) v0) v1) v2) S
def g_X11_get : z_G := .inr (.inl (fun as S => match as with
  | [.ref v0, .int v1, .int v2] => f_X11_get v0 v1 v2 S
  | _ => none))
def c_X11_get : List z_E := [
  (0, .iload_n 1, 1, .null, [], z_g0),
  (1, .aload_n 0, 1, .null, [], z_g0),
  (2, .getfield 86, 3, .null, [12, 1, 0], z_g0),
  (5, .invokestatic 105, 3, .null, [0, 0, 0], g_X11_nameless),
  (8, .ifCond .eq 7, 3, .null, [15], z_g0),
  (11, .ldc2_w 129, 3, .long (-2000000001 : Int64), [], z_g0),
  (14, .lreturn, 1, .null, [], z_g0),
  (15, .aload_n 0, 1, .null, [], z_g0),
  (16, .iload_n 1, 1, .null, [], z_g0),
  (17, .iload_n 2, 1, .null, [], z_g0),
  (18, .invokevirtual 110, 3, .null, [1, 12, 0, 0], g_X11_cellFailure),
  (21, .istore_n 3, 1, .null, [], z_g0),
  (22, .iload_n 3, 1, .null, [], z_g0),
  (23, .ifCond .eq 10, 3, .null, [33], z_g0),
  (26, .aload_n 0, 1, .null, [], z_g0),
  (27, .iload_n 3, 1, .null, [], z_g0),
  (28, .invokevirtual 91, 3, .null, [1, 12, 0], g_X11_fails),
  (31, .i2l, 1, .null, [], z_g0),
  (32, .lreturn, 1, .null, [], z_g0),
  (33, .aload_n 0, 1, .null, [], z_g0),
  (34, .aload_n 0, 1, .null, [], z_g0),
  (35, .getfield 11, 3, .null, [12, 0, 3], z_g0),
  (38, .iload_n 1, 1, .null, [], z_g0),
  (39, .aaload, 1, .null, [110], z_g0),
  (40, .iload_n 2, 1, .null, [], z_g0),
  (41, .invokevirtual 131, 3, .null, [1, 9, 0], g_X8_wholeAt),
  (44, .invokevirtual 135, 3, .null, [1, 12, 0], g_X11_passesLong),
  (47, .lreturn, 1, .null, [], z_g0)]
set_option maxRecDepth 100000 in
theorem r_X11_get (v0 : Nat) (v1 : Int32) (v2 : Int32) (S : z_St) : z_seg z_rL (c_X11_get) [] (fun pc => fun _ _ _ => none) 31 (c_X11_get) [(0, .ref v0), (1, .int v1), (2, .int v2)] [] S = b_X11_get v0 v1 v2 S := rfl
def b_X11_getReal (v0 : Nat) (v1 : Int32) (v2 : Int32) (S : z_St) : Option (Int64 × z_St) :=
z_chk S v0 12 (
(f_X11_nameless v1 ((z_i S v0 1)) S).bind fun q1 =>
if q1.1 = 0 then
(z_chk q1.2 v0 12 (
(f_X11_cellFailure v0 v1 v2 q1.2).bind fun q2 =>
if q2.1 = 0 then
(z_chk q2.2 v0 12 (
z_onV (va_rf (z_r q2.2 v0 0)) fun b3 =>
z_inb q2.2 b3 110 v1 (
z_onV (va_rf (z_r q2.2 b3 v1.toNatClampNeg)) fun b4 =>
z_chk q2.2 b4 9 (
(f_X8_realAt b4 v2 q2.2).bind fun q5 =>
z_chk q5.2 v0 12 (
(f_X11_passesLong v0 q5.1 q5.2).bind fun q6 =>
some (q6.1, q6.2))))))
else
(z_chk q2.2 v0 12 (
(f_X11_fails v0 q2.1 q2.2).bind fun q7 =>
some (q7.1.toInt64, q7.2)))))
else
(some ((-2000000001 : Int64), q1.2)))
def f_X11_getReal : Nat → Int32 → Int32 → z_St → Option (Int64 × z_St) := z_op (b_X11_getReal)
theorem e_X11_getReal (v0 : Nat) (v1 : Int32) (v2 : Int32) (S : z_St) : f_X11_getReal v0 v1 v2 S = b_X11_getReal v0 v1 v2 S := congrFun (congrFun (congrFun (congrFun (z_op_eq (b_X11_getReal)) v0) v1) v2) S
def g_X11_getReal : z_G := .inr (.inl (fun as S => match as with
  | [.ref v0, .int v1, .int v2] => f_X11_getReal v0 v1 v2 S
  | _ => none))
def c_X11_getReal : List z_E := [
  (0, .iload_n 1, 1, .null, [], z_g0),
  (1, .aload_n 0, 1, .null, [], z_g0),
  (2, .getfield 86, 3, .null, [12, 1, 0], z_g0),
  (5, .invokestatic 105, 3, .null, [0, 0, 0], g_X11_nameless),
  (8, .ifCond .eq 7, 3, .null, [15], z_g0),
  (11, .ldc2_w 129, 3, .long (-2000000001 : Int64), [], z_g0),
  (14, .lreturn, 1, .null, [], z_g0),
  (15, .aload_n 0, 1, .null, [], z_g0),
  (16, .iload_n 1, 1, .null, [], z_g0),
  (17, .iload_n 2, 1, .null, [], z_g0),
  (18, .invokevirtual 110, 3, .null, [1, 12, 0, 0], g_X11_cellFailure),
  (21, .istore_n 3, 1, .null, [], z_g0),
  (22, .iload_n 3, 1, .null, [], z_g0),
  (23, .ifCond .eq 10, 3, .null, [33], z_g0),
  (26, .aload_n 0, 1, .null, [], z_g0),
  (27, .iload_n 3, 1, .null, [], z_g0),
  (28, .invokevirtual 91, 3, .null, [1, 12, 0], g_X11_fails),
  (31, .i2l, 1, .null, [], z_g0),
  (32, .lreturn, 1, .null, [], z_g0),
  (33, .aload_n 0, 1, .null, [], z_g0),
  (34, .aload_n 0, 1, .null, [], z_g0),
  (35, .getfield 11, 3, .null, [12, 0, 3], z_g0),
  (38, .iload_n 1, 1, .null, [], z_g0),
  (39, .aaload, 1, .null, [110], z_g0),
  (40, .iload_n 2, 1, .null, [], z_g0),
  (41, .invokevirtual 139, 3, .null, [1, 9, 0], g_X8_realAt),
  (44, .invokevirtual 135, 3, .null, [1, 12, 0], g_X11_passesLong),
  (47, .lreturn, 1, .null, [], z_g0)]
set_option maxRecDepth 100000 in
theorem r_X11_getReal (v0 : Nat) (v1 : Int32) (v2 : Int32) (S : z_St) : z_seg z_rL (c_X11_getReal) [] (fun pc => fun _ _ _ => none) 31 (c_X11_getReal) [(0, .ref v0), (1, .int v1), (2, .int v2)] [] S = b_X11_getReal v0 v1 v2 S := rfl
def b_X11_raise (v0 : Nat) (v1 : Int32) (v2 : Int32) (v3 : Int64) (v5 : Int32) (S : z_St) : Option (Int64 × z_St) :=
z_chk S v0 12 (
(f_X11_nameless v1 ((z_i S v0 1)) S).bind fun q1 =>
if q1.1 = 0 then
(z_chk q1.2 v0 12 (
(f_X11_cellFailure v0 v1 v2 q1.2).bind fun q2 =>
if q2.1 = 0 then
(z_chk q2.2 v0 12 (
z_onV (va_rf (z_r q2.2 v0 0)) fun b3 =>
z_inb q2.2 b3 110 v1 (
z_onV (va_rf (z_r q2.2 b3 v1.toNatClampNeg)) fun b4 =>
z_chk q2.2 b4 9 (
(f_X8_wholeAt b4 v2 q2.2).bind fun q5 =>
z_chk q5.2 b4 9 (
z_chk q5.2 b4 9 (
z_chk q5.2 b4 9 (
z_onV (va_rf (z_r q5.2 b4 1)) fun b6 =>
z_inb q5.2 b6 102 v2 (
(f_X8_cellMore ((z_i q5.2 b4 0)) ((z_l q5.2 b6 v2.toNatClampNeg)) v3 q5.2).bind fun q7 =>
z_onV (va_rf (z_r q5.2 b4 1)) fun b8 =>
z_inb q7.2 b8 102 v2 (
let S9 := z_wl q7.2 b8 v2.toNatClampNeg q7.1
if v5 = 0 then
(z_chk S9 b4 9 (
(f_X8_wholeAt b4 v2 S9).bind fun q10 =>
z_chk q10.2 v0 12 (
(f_X11_passesLong v0 q10.1 q10.2).bind fun q11 =>
some (q11.1, q11.2))))
else
(z_chk S9 v0 12 (
(f_X11_passesLong v0 q5.1 S9).bind fun q12 =>
some (q12.1, q12.2))))))))))))
else
(z_chk q2.2 v0 12 (
(f_X11_fails v0 q2.1 q2.2).bind fun q13 =>
some (q13.1.toInt64, q13.2)))))
else
(some ((-2000000001 : Int64), q1.2)))
def f_X11_raise : Nat → Int32 → Int32 → Int64 → Int32 → z_St → Option (Int64 × z_St) := z_op (b_X11_raise)
theorem e_X11_raise (v0 : Nat) (v1 : Int32) (v2 : Int32) (v3 : Int64) (v5 : Int32) (S : z_St) : f_X11_raise v0 v1 v2 v3 v5 S = b_X11_raise v0 v1 v2 v3 v5 S := congrFun (congrFun (congrFun (congrFun (congrFun (congrFun (z_op_eq (b_X11_raise)) v0) v1) v2) v3) v5) S
def g_X11_raise : z_G := .inr (.inl (fun as S => match as with
  | [.ref v0, .int v1, .int v2, .long v3, .int v5] => f_X11_raise v0 v1 v2 v3 v5 S
  | _ => none))
def c_X11_raise : List z_E := [
  (0, .iload_n 1, 1, .null, [], z_g0),
  (1, .aload_n 0, 1, .null, [], z_g0),
  (2, .getfield 86, 3, .null, [12, 1, 0], z_g0),
  (5, .invokestatic 105, 3, .null, [0, 0, 0], g_X11_nameless),
  (8, .ifCond .eq 7, 3, .null, [15], z_g0),
  (11, .ldc2_w 129, 3, .long (-2000000001 : Int64), [], z_g0),
  (14, .lreturn, 1, .null, [], z_g0),
  (15, .aload_n 0, 1, .null, [], z_g0),
  (16, .iload_n 1, 1, .null, [], z_g0),
  (17, .iload_n 2, 1, .null, [], z_g0),
  (18, .invokevirtual 110, 3, .null, [1, 12, 0, 0], g_X11_cellFailure),
  (21, .istore 6, 2, .null, [], z_g0),
  (23, .iload 6, 2, .null, [], z_g0),
  (25, .ifCond .eq 11, 3, .null, [36], z_g0),
  (28, .aload_n 0, 1, .null, [], z_g0),
  (29, .iload 6, 2, .null, [], z_g0),
  (31, .invokevirtual 91, 3, .null, [1, 12, 0], g_X11_fails),
  (34, .i2l, 1, .null, [], z_g0),
  (35, .lreturn, 1, .null, [], z_g0),
  (36, .aload_n 0, 1, .null, [], z_g0),
  (37, .getfield 11, 3, .null, [12, 0, 3], z_g0),
  (40, .iload_n 1, 1, .null, [], z_g0),
  (41, .aaload, 1, .null, [110], z_g0),
  (42, .astore 7, 2, .null, [], z_g0),
  (44, .aload 7, 2, .null, [], z_g0),
  (46, .iload_n 2, 1, .null, [], z_g0),
  (47, .invokevirtual 131, 3, .null, [1, 9, 0], g_X8_wholeAt),
  (50, .lstore 8, 2, .null, [], z_g0),
  (52, .aload 7, 2, .null, [], z_g0),
  (54, .getfield 118, 3, .null, [9, 1, 3], z_g0),
  (57, .iload_n 2, 1, .null, [], z_g0),
  (58, .aload 7, 2, .null, [], z_g0),
  (60, .getfield 122, 3, .null, [9, 0, 0], z_g0),
  (63, .aload 7, 2, .null, [], z_g0),
  (65, .getfield 118, 3, .null, [9, 1, 3], z_g0),
  (68, .iload_n 2, 1, .null, [], z_g0),
  (69, .laload, 1, .null, [], z_g0),
  (70, .lload_n 3, 1, .null, [], z_g0),
  (71, .invokestatic 142, 3, .null, [0, 0, 0, 0], g_X8_cellMore),
  (74, .lastore, 1, .null, [], z_g0),
  (75, .aload_n 0, 1, .null, [], z_g0),
  (76, .iload 5, 2, .null, [], z_g0),
  (78, .ifCond .eq 8, 3, .null, [86], z_g0),
  (81, .lload 8, 2, .null, [], z_g0),
  (83, .goto 9, 3, .null, [92], z_g0),
  (86, .aload 7, 2, .null, [], z_g0),
  (88, .iload_n 2, 1, .null, [], z_g0),
  (89, .invokevirtual 131, 3, .null, [1, 9, 0], g_X8_wholeAt),
  (92, .invokevirtual 135, 3, .null, [1, 12, 0], g_X11_passesLong),
  (95, .lreturn, 1, .null, [], z_g0)]
set_option maxRecDepth 100000 in
theorem r_X11_raise (v0 : Nat) (v1 : Int32) (v2 : Int32) (v3 : Int64) (v5 : Int32) (S : z_St) : z_seg z_rL (c_X11_raise) [] (fun pc => fun _ _ _ => none) 53 (c_X11_raise) [(0, .ref v0), (1, .int v1), (2, .int v2), (3, .long v3), (5, .int v5)] [] S = b_X11_raise v0 v1 v2 v3 v5 S := rfl
def b_X11_join (v0 : Nat) (v1 : Int32) (v2 : Int32) (S : z_St) : Option (Int32 × z_St) :=
z_chk S v0 12 (
(f_X11_nameless v1 ((z_i S v0 1)) S).bind fun q1 =>
if q1.1 = 0 then
(z_chk q1.2 v0 12 (
(f_X11_nameless v2 ((z_i q1.2 v0 1)) q1.2).bind fun q2 =>
if q2.1 = 0 then
(if v1 = ((-1 : Int32)) then
(z_chk q2.2 v0 12 (
(f_X11_fails v0 ((1 : Int32)) q2.2).bind fun q3 =>
some (q3.1, q3.2)))
else
(if v2 = ((-1 : Int32)) then
(z_chk q2.2 v0 12 (
(f_X11_fails v0 ((1 : Int32)) q2.2).bind fun q26 =>
some (q26.1, q26.2)))
else
(z_chk q2.2 v0 12 (
z_onV (va_rf (z_r q2.2 v0 0)) fun b4 =>
z_inb q2.2 b4 110 v1 (
z_onV (va_rf (z_r q2.2 b4 v1.toNatClampNeg)) fun b5 =>
z_chk q2.2 v0 12 (
z_onV (va_rf (z_r q2.2 v0 0)) fun b6 =>
z_inb q2.2 b6 110 v2 (
z_onV (va_rf (z_r q2.2 b6 v2.toNatClampNeg)) fun b7 =>
z_chk q2.2 b5 9 (
z_onV (va_rf (z_r q2.2 b5 1)) fun b8 =>
z_chk q2.2 b8 102 (
z_chk q2.2 b7 9 (
z_onV (va_rf (z_r q2.2 b7 1)) fun b9 =>
z_chk q2.2 b9 102 (
let x10 := (Int32.ofNat (z_n q2.2 b8)) + (Int32.ofNat (z_n q2.2 b9))
if x10 ≤ ((64 : Int32)) then
(z_chk q2.2 v0 12 (
if ((z_i q2.2 v0 1)) < ((40 : Int32)) then
(z_chk q2.2 b5 9 (
z_chk q2.2 b7 9 (
if ((z_i q2.2 b5 0)) = ((z_i q2.2 b7 0)) then
(let a11 := z_x q2.2
let S12 := z_new q2.2 9 2
z_chk S12 b5 9 (
z_chk S12 a11 9 (
(f_X8_init a11 ((z_i S12 b5 0)) x10 S12).bind fun q13 =>
z_chk q13 b5 9 (
z_chk q13 a11 9 (
z_chk q13 b5 9 (
z_onV (va_rf (z_r q13 b5 1)) fun b14 =>
z_chk q13 b14 102 (
z_onV (va_rf (z_r q13 a11 1)) fun b15 =>
z_onV (va_rf (z_r q13 b5 1)) fun b16 =>
z_cpy q13 102 b16 ((0 : Int32)) b15 ((0 : Int32)) (Int32.ofNat (z_n q13 b14)) (
let S17 := z_cl q13 b16 ((0 : Int32)).toNatClampNeg b15 ((0 : Int32)).toNatClampNeg (Int32.ofNat (z_n q13 b14)).toNatClampNeg
z_chk S17 b7 9 (
z_chk S17 a11 9 (
z_chk S17 b5 9 (
z_onV (va_rf (z_r S17 b5 1)) fun b18 =>
z_chk S17 b18 102 (
z_chk S17 b7 9 (
z_onV (va_rf (z_r S17 b7 1)) fun b19 =>
z_chk S17 b19 102 (
z_onV (va_rf (z_r S17 a11 1)) fun b20 =>
z_onV (va_rf (z_r S17 b7 1)) fun b21 =>
z_cpy S17 102 b21 ((0 : Int32)) b20 (Int32.ofNat (z_n S17 b18)) (Int32.ofNat (z_n S17 b19)) (
let S22 := z_cl S17 b21 ((0 : Int32)).toNatClampNeg b20 (Int32.ofNat (z_n S17 b18)).toNatClampNeg (Int32.ofNat (z_n S17 b19)).toNatClampNeg
z_chk S22 v0 12 (
(f_X11_keepRow v0 a11 S22).bind fun q23 =>
z_chk q23.2 v0 12 (
(f_X11_passes v0 q23.1 q23.2).bind fun q24 =>
some (q24.1, q24.2))))))))))))))))))
else
(z_chk q2.2 v0 12 (
(f_X11_fails v0 ((5 : Int32)) q2.2).bind fun q25 =>
some (q25.1, q25.2))))))
else
(some ((-2000000004 : Int32), q2.2))))
else
(some ((-2000000002 : Int32), q2.2)))))))))))))
else
(some ((-2000000001 : Int32), q2.2))))
else
(some ((-2000000001 : Int32), q1.2)))
def f_X11_join : Nat → Int32 → Int32 → z_St → Option (Int32 × z_St) := z_op (b_X11_join)
theorem e_X11_join (v0 : Nat) (v1 : Int32) (v2 : Int32) (S : z_St) : f_X11_join v0 v1 v2 S = b_X11_join v0 v1 v2 S := congrFun (congrFun (congrFun (congrFun (z_op_eq (b_X11_join)) v0) v1) v2) S
def g_X11_join : z_G := .inl (fun as S => match as with
  | [.ref v0, .int v1, .int v2] => f_X11_join v0 v1 v2 S
  | _ => none)
def c_X11_join : List z_E := [
  (0, .iload_n 1, 1, .null, [], z_g0),
  (1, .aload_n 0, 1, .null, [], z_g0),
  (2, .getfield 86, 3, .null, [12, 1, 0], z_g0),
  (5, .invokestatic 105, 3, .null, [0, 0, 0], g_X11_nameless),
  (8, .ifCond .ne 14, 3, .null, [22], z_g0),
  (11, .iload_n 2, 1, .null, [], z_g0),
  (12, .aload_n 0, 1, .null, [], z_g0),
  (13, .getfield 86, 3, .null, [12, 1, 0], z_g0),
  (16, .invokestatic 105, 3, .null, [0, 0, 0], g_X11_nameless),
  (19, .ifCond .eq 6, 3, .null, [25], z_g0),
  (22, .ldc 109, 2, .int (-2000000001 : Int32), [], z_g0),
  (24, .ireturn, 1, .null, [], z_g0),
  (25, .iload_n 1, 1, .null, [], z_g0),
  (26, .iconst (-1), 1, .int ((-1 : Int32)), [], z_g0),
  (27, .if_icmp .eq 8, 3, .null, [35], z_g0),
  (30, .iload_n 2, 1, .null, [], z_g0),
  (31, .iconst (-1), 1, .int ((-1 : Int32)), [], z_g0),
  (32, .if_icmp .ne 9, 3, .null, [41], z_g0),
  (35, .aload_n 0, 1, .null, [], z_g0),
  (36, .iconst 1, 1, .int ((1 : Int32)), [], z_g0),
  (37, .invokevirtual 91, 3, .null, [1, 12, 0], g_X11_fails),
  (40, .ireturn, 1, .null, [], z_g0),
  (41, .aload_n 0, 1, .null, [], z_g0),
  (42, .getfield 11, 3, .null, [12, 0, 3], z_g0),
  (45, .iload_n 1, 1, .null, [], z_g0),
  (46, .aaload, 1, .null, [110], z_g0),
  (47, .astore_n 3, 1, .null, [], z_g0),
  (48, .aload_n 0, 1, .null, [], z_g0),
  (49, .getfield 11, 3, .null, [12, 0, 3], z_g0),
  (52, .iload_n 2, 1, .null, [], z_g0),
  (53, .aaload, 1, .null, [110], z_g0),
  (54, .astore 4, 2, .null, [], z_g0),
  (56, .aload_n 3, 1, .null, [], z_g0),
  (57, .getfield 118, 3, .null, [9, 1, 3], z_g0),
  (60, .arraylength, 1, .null, [102], z_g0),
  (61, .aload 4, 2, .null, [], z_g0),
  (63, .getfield 118, 3, .null, [9, 1, 3], z_g0),
  (66, .arraylength, 1, .null, [102], z_g0),
  (67, .iadd, 1, .null, [], z_g0),
  (68, .istore 5, 2, .null, [], z_g0),
  (70, .iload 5, 2, .null, [], z_g0),
  (72, .bipush 64, 2, .int ((64 : Int32)), [], z_g0),
  (74, .if_icmp .le 6, 3, .null, [80], z_g0),
  (77, .ldc 85, 2, .int (-2000000002 : Int32), [], z_g0),
  (79, .ireturn, 1, .null, [], z_g0),
  (80, .aload_n 0, 1, .null, [], z_g0),
  (81, .getfield 86, 3, .null, [12, 1, 0], z_g0),
  (84, .bipush 40, 2, .int ((40 : Int32)), [], z_g0),
  (86, .if_icmp .lt 6, 3, .null, [92], z_g0),
  (89, .ldc 90, 2, .int (-2000000004 : Int32), [], z_g0),
  (91, .ireturn, 1, .null, [], z_g0),
  (92, .aload_n 3, 1, .null, [], z_g0),
  (93, .getfield 122, 3, .null, [9, 0, 0], z_g0),
  (96, .aload 4, 2, .null, [], z_g0),
  (98, .getfield 122, 3, .null, [9, 0, 0], z_g0),
  (101, .if_icmp .eq 9, 3, .null, [110], z_g0),
  (104, .aload_n 0, 1, .null, [], z_g0),
  (105, .iconst 5, 1, .int ((5 : Int32)), [], z_g0),
  (106, .invokevirtual 91, 3, .null, [1, 12, 0], g_X11_fails),
  (109, .ireturn, 1, .null, [], z_g0),
  (110, .new 9, 3, .null, [9, 2], z_g0),
  (113, .dup, 1, .null, [], z_g0),
  (114, .aload_n 3, 1, .null, [], z_g0),
  (115, .getfield 122, 3, .null, [9, 0, 0], z_g0),
  (118, .iload 5, 2, .null, [], z_g0),
  (120, .invokespecial 95, 3, .null, [1, 9, 0, 0], g_X8_init),
  (123, .astore 6, 2, .null, [], z_g0),
  (125, .aload_n 3, 1, .null, [], z_g0),
  (126, .getfield 118, 3, .null, [9, 1, 3], z_g0),
  (129, .iconst 0, 1, .int ((0 : Int32)), [], z_g0),
  (130, .aload 6, 2, .null, [], z_g0),
  (132, .getfield 118, 3, .null, [9, 1, 3], z_g0),
  (135, .iconst 0, 1, .int ((0 : Int32)), [], z_g0),
  (136, .aload_n 3, 1, .null, [], z_g0),
  (137, .getfield 118, 3, .null, [9, 1, 3], z_g0),
  (140, .arraylength, 1, .null, [102], z_g0),
  (141, .invokestatic 146, 3, .null, [3, 102], z_g0),
  (144, .aload 4, 2, .null, [], z_g0),
  (146, .getfield 118, 3, .null, [9, 1, 3], z_g0),
  (149, .iconst 0, 1, .int ((0 : Int32)), [], z_g0),
  (150, .aload 6, 2, .null, [], z_g0),
  (152, .getfield 118, 3, .null, [9, 1, 3], z_g0),
  (155, .aload_n 3, 1, .null, [], z_g0),
  (156, .getfield 118, 3, .null, [9, 1, 3], z_g0),
  (159, .arraylength, 1, .null, [102], z_g0),
  (160, .aload 4, 2, .null, [], z_g0),
  (162, .getfield 118, 3, .null, [9, 1, 3], z_g0),
  (165, .arraylength, 1, .null, [102], z_g0),
  (166, .invokestatic 146, 3, .null, [3, 102], z_g0),
  (169, .aload_n 0, 1, .null, [], z_g0),
  (170, .aload_n 0, 1, .null, [], z_g0),
  (171, .aload 6, 2, .null, [], z_g0),
  (173, .invokevirtual 98, 3, .null, [1, 12, 1], g_X11_keepRow),
  (176, .invokevirtual 102, 3, .null, [1, 12, 0], g_X11_passes),
  (179, .ireturn, 1, .null, [], z_g0)]
set_option maxRecDepth 100000 in
theorem r_X11_join (v0 : Nat) (v1 : Int32) (v2 : Int32) (S : z_St) : z_seg z_rI (c_X11_join) [] (fun pc => fun _ _ _ => none) 98 (c_X11_join) [(0, .ref v0), (1, .int v1), (2, .int v2)] [] S = b_X11_join v0 v1 v2 S := rfl
def b_X11_fits (v0 : Int32) (v1 : Int32) (v2 : Int32) (S : z_St) : Option (Int32 × z_St) :=
if v0 < 0 then
(z_rb ((0 : Int32)) S)
else
(if v1 < 0 then
(z_rb ((0 : Int32)) S)
else
(if (v2 - v1) < v0 then
(z_rb ((0 : Int32)) S)
else
(z_rb ((1 : Int32)) S)))
def f_X11_fits : Int32 → Int32 → Int32 → z_St → Option (Int32 × z_St) := z_op (b_X11_fits)
theorem e_X11_fits (v0 : Int32) (v1 : Int32) (v2 : Int32) (S : z_St) : f_X11_fits v0 v1 v2 S = b_X11_fits v0 v1 v2 S := congrFun (congrFun (congrFun (congrFun (z_op_eq (b_X11_fits)) v0) v1) v2) S
def g_X11_fits : z_G := .inl (fun as S => match as with
  | [.int v0, .int v1, .int v2] => f_X11_fits v0 v1 v2 S
  | _ => none)
def c_X11_fits : List z_E := [
  (0, .iload_n 0, 1, .null, [], z_g0),
  (1, .ifCond .lt 18, 3, .null, [19], z_g0),
  (4, .iload_n 1, 1, .null, [], z_g0),
  (5, .ifCond .lt 14, 3, .null, [19], z_g0),
  (8, .iload_n 0, 1, .null, [], z_g0),
  (9, .iload_n 2, 1, .null, [], z_g0),
  (10, .iload_n 1, 1, .null, [], z_g0),
  (11, .isub, 1, .null, [], z_g0),
  (12, .if_icmp .gt 7, 3, .null, [19], z_g0),
  (15, .iconst 1, 1, .int ((1 : Int32)), [], z_g0),
  (16, .goto 4, 3, .null, [20], z_g0),
  (19, .iconst 0, 1, .int ((0 : Int32)), [], z_g0),
  (20, .ireturn, 1, .null, [], z_g0)]
set_option maxRecDepth 100000 in
theorem r_X11_fits (v0 : Int32) (v1 : Int32) (v2 : Int32) (S : z_St) : z_seg z_rZ (c_X11_fits) [] (fun pc => fun _ _ _ => none) 16 (c_X11_fits) [(0, .int v0), (1, .int v1), (2, .int v2)] [] S = b_X11_fits v0 v1 v2 S := rfl
def b_X11_shift (v0 : Nat) (v1 : Int32) (v2 : Int32) (v3 : Int32) (v4 : Int32) (v5 : Int32) (S : z_St) : Option (Int32 × z_St) :=
z_chk S v0 12 (
(f_X11_nameless v1 ((z_i S v0 1)) S).bind fun q1 =>
if q1.1 = 0 then
(z_chk q1.2 v0 12 (
(f_X11_nameless v3 ((z_i q1.2 v0 1)) q1.2).bind fun q2 =>
if q2.1 = 0 then
(if v1 = ((-1 : Int32)) then
(z_chk q2.2 v0 12 (
(f_X11_fails v0 ((1 : Int32)) q2.2).bind fun q3 =>
some (q3.1, q3.2)))
else
(if v3 = ((-1 : Int32)) then
(z_chk q2.2 v0 12 (
(f_X11_fails v0 ((1 : Int32)) q2.2).bind fun q19 =>
some (q19.1, q19.2)))
else
(z_chk q2.2 v0 12 (
z_onV (va_rf (z_r q2.2 v0 0)) fun b4 =>
z_inb q2.2 b4 110 v1 (
z_onV (va_rf (z_r q2.2 b4 v1.toNatClampNeg)) fun b5 =>
z_chk q2.2 v0 12 (
z_onV (va_rf (z_r q2.2 v0 0)) fun b6 =>
z_inb q2.2 b6 110 v3 (
z_onV (va_rf (z_r q2.2 b6 v3.toNatClampNeg)) fun b7 =>
z_chk q2.2 b5 9 (
z_chk q2.2 b7 9 (
if ((z_i q2.2 b5 0)) = ((z_i q2.2 b7 0)) then
(z_chk q2.2 b5 9 (
z_onV (va_rf (z_r q2.2 b5 1)) fun b8 =>
z_chk q2.2 b8 102 (
(f_X11_fits v2 v5 (Int32.ofNat (z_n q2.2 b8)) q2.2).bind fun q9 =>
if q9.1 = 0 then
(z_chk q9.2 v0 12 (
(f_X11_fails v0 ((2 : Int32)) q9.2).bind fun q10 =>
some (q10.1, q10.2)))
else
(z_chk q9.2 b7 9 (
z_onV (va_rf (z_r q9.2 b7 1)) fun b11 =>
z_chk q9.2 b11 102 (
(f_X11_fits v4 v5 (Int32.ofNat (z_n q9.2 b11)) q9.2).bind fun q12 =>
if q12.1 = 0 then
(z_chk q12.2 v0 12 (
(f_X11_fails v0 ((2 : Int32)) q12.2).bind fun q17 =>
some (q17.1, q17.2)))
else
(z_chk q12.2 b5 9 (
z_chk q12.2 b7 9 (
z_onV (va_rf (z_r q12.2 b7 1)) fun b13 =>
z_onV (va_rf (z_r q12.2 b5 1)) fun b14 =>
z_cpy q12.2 102 b14 v2 b13 v4 v5 (
let S15 := z_cl q12.2 b14 v2.toNatClampNeg b13 v4.toNatClampNeg v5.toNatClampNeg
z_chk S15 v0 12 (
(f_X11_passes v0 ((1 : Int32)) S15).bind fun q16 =>
some (q16.1, q16.2))))))))))))
else
(z_chk q2.2 v0 12 (
(f_X11_fails v0 ((5 : Int32)) q2.2).bind fun q18 =>
some (q18.1, q18.2))))))))))))
else
(some ((-2000000001 : Int32), q2.2))))
else
(some ((-2000000001 : Int32), q1.2)))
def f_X11_shift : Nat → Int32 → Int32 → Int32 → Int32 → Int32 → z_St → Option (Int32 × z_St) := z_op (b_X11_shift)
theorem e_X11_shift (v0 : Nat) (v1 : Int32) (v2 : Int32) (v3 : Int32) (v4 : Int32) (v5 : Int32) (S : z_St) : f_X11_shift v0 v1 v2 v3 v4 v5 S = b_X11_shift v0 v1 v2 v3 v4 v5 S := congrFun (congrFun (congrFun (congrFun (congrFun (congrFun (congrFun (z_op_eq (b_X11_shift)) v0) v1) v2) v3) v4) v5) S
def g_X11_shift : z_G := .inl (fun as S => match as with
  | [.ref v0, .int v1, .int v2, .int v3, .int v4, .int v5] => f_X11_shift v0 v1 v2 v3 v4 v5 S
  | _ => none)
def c_X11_shift : List z_E := [
  (0, .iload_n 1, 1, .null, [], z_g0),
  (1, .aload_n 0, 1, .null, [], z_g0),
  (2, .getfield 86, 3, .null, [12, 1, 0], z_g0),
  (5, .invokestatic 105, 3, .null, [0, 0, 0], g_X11_nameless),
  (8, .ifCond .ne 14, 3, .null, [22], z_g0),
  (11, .iload_n 3, 1, .null, [], z_g0),
  (12, .aload_n 0, 1, .null, [], z_g0),
  (13, .getfield 86, 3, .null, [12, 1, 0], z_g0),
  (16, .invokestatic 105, 3, .null, [0, 0, 0], g_X11_nameless),
  (19, .ifCond .eq 6, 3, .null, [25], z_g0),
  (22, .ldc 109, 2, .int (-2000000001 : Int32), [], z_g0),
  (24, .ireturn, 1, .null, [], z_g0),
  (25, .iload_n 1, 1, .null, [], z_g0),
  (26, .iconst (-1), 1, .int ((-1 : Int32)), [], z_g0),
  (27, .if_icmp .eq 8, 3, .null, [35], z_g0),
  (30, .iload_n 3, 1, .null, [], z_g0),
  (31, .iconst (-1), 1, .int ((-1 : Int32)), [], z_g0),
  (32, .if_icmp .ne 9, 3, .null, [41], z_g0),
  (35, .aload_n 0, 1, .null, [], z_g0),
  (36, .iconst 1, 1, .int ((1 : Int32)), [], z_g0),
  (37, .invokevirtual 91, 3, .null, [1, 12, 0], g_X11_fails),
  (40, .ireturn, 1, .null, [], z_g0),
  (41, .aload_n 0, 1, .null, [], z_g0),
  (42, .getfield 11, 3, .null, [12, 0, 3], z_g0),
  (45, .iload_n 1, 1, .null, [], z_g0),
  (46, .aaload, 1, .null, [110], z_g0),
  (47, .astore 6, 2, .null, [], z_g0),
  (49, .aload_n 0, 1, .null, [], z_g0),
  (50, .getfield 11, 3, .null, [12, 0, 3], z_g0),
  (53, .iload_n 3, 1, .null, [], z_g0),
  (54, .aaload, 1, .null, [110], z_g0),
  (55, .astore 7, 2, .null, [], z_g0),
  (57, .aload 6, 2, .null, [], z_g0),
  (59, .getfield 122, 3, .null, [9, 0, 0], z_g0),
  (62, .aload 7, 2, .null, [], z_g0),
  (64, .getfield 122, 3, .null, [9, 0, 0], z_g0),
  (67, .if_icmp .eq 9, 3, .null, [76], z_g0),
  (70, .aload_n 0, 1, .null, [], z_g0),
  (71, .iconst 5, 1, .int ((5 : Int32)), [], z_g0),
  (72, .invokevirtual 91, 3, .null, [1, 12, 0], g_X11_fails),
  (75, .ireturn, 1, .null, [], z_g0),
  (76, .iload_n 2, 1, .null, [], z_g0),
  (77, .iload 5, 2, .null, [], z_g0),
  (79, .aload 6, 2, .null, [], z_g0),
  (81, .getfield 118, 3, .null, [9, 1, 3], z_g0),
  (84, .arraylength, 1, .null, [102], z_g0),
  (85, .invokestatic 152, 3, .null, [0, 0, 0, 0], g_X11_fits),
  (88, .ifCond .eq 19, 3, .null, [107], z_g0),
  (91, .iload 4, 2, .null, [], z_g0),
  (93, .iload 5, 2, .null, [], z_g0),
  (95, .aload 7, 2, .null, [], z_g0),
  (97, .getfield 118, 3, .null, [9, 1, 3], z_g0),
  (100, .arraylength, 1, .null, [102], z_g0),
  (101, .invokestatic 152, 3, .null, [0, 0, 0, 0], g_X11_fits),
  (104, .ifCond .ne 9, 3, .null, [113], z_g0),
  (107, .aload_n 0, 1, .null, [], z_g0),
  (108, .iconst 2, 1, .int ((2 : Int32)), [], z_g0),
  (109, .invokevirtual 91, 3, .null, [1, 12, 0], g_X11_fails),
  (112, .ireturn, 1, .null, [], z_g0),
  (113, .aload 6, 2, .null, [], z_g0),
  (115, .getfield 118, 3, .null, [9, 1, 3], z_g0),
  (118, .iload_n 2, 1, .null, [], z_g0),
  (119, .aload 7, 2, .null, [], z_g0),
  (121, .getfield 118, 3, .null, [9, 1, 3], z_g0),
  (124, .iload 4, 2, .null, [], z_g0),
  (126, .iload 5, 2, .null, [], z_g0),
  (128, .invokestatic 146, 3, .null, [3, 102], z_g0),
  (131, .aload_n 0, 1, .null, [], z_g0),
  (132, .iconst 1, 1, .int ((1 : Int32)), [], z_g0),
  (133, .invokevirtual 102, 3, .null, [1, 12, 0], g_X11_passes),
  (136, .ireturn, 1, .null, [], z_g0)]
set_option maxRecDepth 100000 in
theorem r_X11_shift (v0 : Nat) (v1 : Int32) (v2 : Int32) (v3 : Int32) (v4 : Int32) (v5 : Int32) (S : z_St) : z_seg z_rI (c_X11_shift) [] (fun pc => fun _ _ _ => none) 74 (c_X11_shift) [(0, .ref v0), (1, .int v1), (2, .int v2), (3, .int v3), (4, .int v4), (5, .int v5)] [] S = b_X11_shift v0 v1 v2 v3 v4 v5 S := rfl
def j_X11_like_35 (v1 : Int32) (v2 : Int32) (S : z_St) : Option (Int32 × z_St) :=
if v1 = v2 then
(some ((1 : Int32), S))
else
(some ((0 : Int32), S))
def b_X11_like (v0 : Nat) (v1 : Int32) (v2 : Int32) (S : z_St) : Option (Int32 × z_St) :=
z_chk S v0 12 (
(f_X11_nameless v1 ((z_i S v0 1)) S).bind fun q1 =>
if q1.1 = 0 then
(z_chk q1.2 v0 12 (
(f_X11_nameless v2 ((z_i q1.2 v0 1)) q1.2).bind fun q2 =>
if q2.1 = 0 then
(if v1 = ((-1 : Int32)) then
(j_X11_like_35 v1 v2 q2.2)
else
(if v2 = ((-1 : Int32)) then
(j_X11_like_35 v1 v2 q2.2)
else
(z_chk q2.2 v0 12 (
z_onV (va_rf (z_r q2.2 v0 0)) fun b3 =>
z_inb q2.2 b3 110 v1 (
z_chk q2.2 v0 12 (
z_onV (va_rf (z_r q2.2 v0 0)) fun b4 =>
z_inb q2.2 b4 110 v2 (
z_onV (va_rf (z_r q2.2 b4 v2.toNatClampNeg)) fun b5 =>
z_onV (va_rf (z_r q2.2 b3 v1.toNatClampNeg)) fun b6 =>
z_chk q2.2 b6 9 (
(f_X8_isLike b6 b5 q2.2).bind fun q7 =>
if q7.1 = 0 then
(some ((0 : Int32), q7.2))
else
(some ((1 : Int32), q7.2))))))))))
else
(some ((-2000000001 : Int32), q2.2))))
else
(some ((-2000000001 : Int32), q1.2)))
def f_X11_like : Nat → Int32 → Int32 → z_St → Option (Int32 × z_St) := z_op (b_X11_like)
theorem e_X11_like (v0 : Nat) (v1 : Int32) (v2 : Int32) (S : z_St) : f_X11_like v0 v1 v2 S = b_X11_like v0 v1 v2 S := congrFun (congrFun (congrFun (congrFun (z_op_eq (b_X11_like)) v0) v1) v2) S
def g_X11_like : z_G := .inl (fun as S => match as with
  | [.ref v0, .int v1, .int v2] => f_X11_like v0 v1 v2 S
  | _ => none)
def c_X11_like : List z_E := [
  (0, .iload_n 1, 1, .null, [], z_g0),
  (1, .aload_n 0, 1, .null, [], z_g0),
  (2, .getfield 86, 3, .null, [12, 1, 0], z_g0),
  (5, .invokestatic 105, 3, .null, [0, 0, 0], g_X11_nameless),
  (8, .ifCond .ne 14, 3, .null, [22], z_g0),
  (11, .iload_n 2, 1, .null, [], z_g0),
  (12, .aload_n 0, 1, .null, [], z_g0),
  (13, .getfield 86, 3, .null, [12, 1, 0], z_g0),
  (16, .invokestatic 105, 3, .null, [0, 0, 0], g_X11_nameless),
  (19, .ifCond .eq 6, 3, .null, [25], z_g0),
  (22, .ldc 109, 2, .int (-2000000001 : Int32), [], z_g0),
  (24, .ireturn, 1, .null, [], z_g0),
  (25, .iload_n 1, 1, .null, [], z_g0),
  (26, .iconst (-1), 1, .int ((-1 : Int32)), [], z_g0),
  (27, .if_icmp .eq 8, 3, .null, [35], z_g0),
  (30, .iload_n 2, 1, .null, [], z_g0),
  (31, .iconst (-1), 1, .int ((-1 : Int32)), [], z_g0),
  (32, .if_icmp .ne 14, 3, .null, [46], z_g0),
  (35, .iload_n 1, 1, .null, [], z_g0),
  (36, .iload_n 2, 1, .null, [], z_g0),
  (37, .if_icmp .ne 7, 3, .null, [44], z_g0),
  (40, .iconst 1, 1, .int ((1 : Int32)), [], z_g0),
  (41, .goto 4, 3, .null, [45], z_g0),
  (44, .iconst 0, 1, .int ((0 : Int32)), [], z_g0),
  (45, .ireturn, 1, .null, [], z_g0),
  (46, .aload_n 0, 1, .null, [], z_g0),
  (47, .getfield 11, 3, .null, [12, 0, 3], z_g0),
  (50, .iload_n 1, 1, .null, [], z_g0),
  (51, .aaload, 1, .null, [110], z_g0),
  (52, .aload_n 0, 1, .null, [], z_g0),
  (53, .getfield 11, 3, .null, [12, 0, 3], z_g0),
  (56, .iload_n 2, 1, .null, [], z_g0),
  (57, .aaload, 1, .null, [110], z_g0),
  (58, .invokevirtual 155, 3, .null, [1, 9, 1], g_X8_isLike),
  (61, .ifCond .eq 7, 3, .null, [68], z_g0),
  (64, .iconst 1, 1, .int ((1 : Int32)), [], z_g0),
  (65, .goto 4, 3, .null, [69], z_g0),
  (68, .iconst 0, 1, .int ((0 : Int32)), [], z_g0),
  (69, .ireturn, 1, .null, [], z_g0)]
def a_X11_like_35 {ρ : Type} (k : Int32 → Int32 → z_St → Option ρ) (ls : z_Lv) (st : List Value) (S : z_St) : Option ρ := z_gI ls 1 fun v1 => z_gI ls 2 fun v2 => z_p0 st (k v1 v2 S)
set_option maxRecDepth 100000 in
theorem r_X11_like_35 (v1 : Int32) (v2 : Int32) (S : z_St) : z_seg z_rI (c_X11_like) [35] (fun pc => fun _ _ _ => none) 42 (z_to 35 (c_X11_like)) [(1, .int v1), (2, .int v2)] [] S = j_X11_like_35 v1 v2 S := rfl
set_option maxRecDepth 100000 in
theorem r_X11_like (v0 : Nat) (v1 : Int32) (v2 : Int32) (S : z_St) : z_seg z_rI (c_X11_like) [35] (fun pc => cond (Nat.beq pc 35) (a_X11_like_35 (j_X11_like_35)) (fun _ _ _ => none)) 42 (c_X11_like) [(0, .ref v0), (1, .int v1), (2, .int v2)] [] S = b_X11_like v0 v1 v2 S := rfl
def b_X11_count (v0 : Nat) (v1 : Int32) (v2 : Int32) (S : z_St) : Option (Int32 × z_St) :=
z_chk S v0 12 (
(f_X11_nameless v1 ((z_i S v0 1)) S).bind fun q1 =>
if q1.1 = 0 then
((f_X11_outOf v2 ((0 : Int32)) ((2 : Int32)) q1.2).bind fun q2 =>
if q2.1 = 0 then
(if v1 = ((-1 : Int32)) then
(z_chk q2.2 v0 12 (
(f_X11_fails v0 ((1 : Int32)) q2.2).bind fun q10 =>
some (q10.1, q10.2)))
else
(z_chk q2.2 v0 12 (
z_onV (va_rf (z_r q2.2 v0 0)) fun b3 =>
z_inb q2.2 b3 110 v1 (
z_onV (va_rf (z_r q2.2 b3 v1.toNatClampNeg)) fun b4 =>
if v2 = 0 then
(z_chk q2.2 b4 9 (
z_onV (va_rf (z_r q2.2 b4 1)) fun b8 =>
z_chk q2.2 b8 102 (
z_chk q2.2 v0 12 (
(f_X11_passes v0 (Int32.ofNat (z_n q2.2 b8)) q2.2).bind fun q9 =>
some (q9.1, q9.2)))))
else
(if v2 = ((1 : Int32)) then
(z_chk q2.2 b4 9 (
z_chk q2.2 v0 12 (
(f_X11_passes v0 ((z_i q2.2 b4 0)) q2.2).bind fun q7 =>
some (q7.1, q7.2))))
else
(z_chk q2.2 b4 9 (
(f_X8_notZero b4 q2.2).bind fun q5 =>
z_chk q5.2 v0 12 (
(f_X11_passes v0 q5.1 q5.2).bind fun q6 =>
some (q6.1, q6.2)))))))))
else
(some ((-2000000002 : Int32), q2.2)))
else
(some ((-2000000001 : Int32), q1.2)))
def f_X11_count : Nat → Int32 → Int32 → z_St → Option (Int32 × z_St) := z_op (b_X11_count)
theorem e_X11_count (v0 : Nat) (v1 : Int32) (v2 : Int32) (S : z_St) : f_X11_count v0 v1 v2 S = b_X11_count v0 v1 v2 S := congrFun (congrFun (congrFun (congrFun (z_op_eq (b_X11_count)) v0) v1) v2) S
def g_X11_count : z_G := .inl (fun as S => match as with
  | [.ref v0, .int v1, .int v2] => f_X11_count v0 v1 v2 S
  | _ => none)
def c_X11_count : List z_E := [
  (0, .iload_n 1, 1, .null, [], z_g0),
  (1, .aload_n 0, 1, .null, [], z_g0),
  (2, .getfield 86, 3, .null, [12, 1, 0], z_g0),
  (5, .invokestatic 105, 3, .null, [0, 0, 0], g_X11_nameless),
  (8, .ifCond .eq 6, 3, .null, [14], z_g0),
  (11, .ldc 109, 2, .int (-2000000001 : Int32), [], z_g0),
  (13, .ireturn, 1, .null, [], z_g0),
  (14, .iload_n 2, 1, .null, [], z_g0),
  (15, .iconst 0, 1, .int ((0 : Int32)), [], z_g0),
  (16, .iconst 2, 1, .int ((2 : Int32)), [], z_g0),
  (17, .invokestatic 81, 3, .null, [0, 0, 0, 0], g_X11_outOf),
  (20, .ifCond .eq 6, 3, .null, [26], z_g0),
  (23, .ldc 85, 2, .int (-2000000002 : Int32), [], z_g0),
  (25, .ireturn, 1, .null, [], z_g0),
  (26, .iload_n 1, 1, .null, [], z_g0),
  (27, .iconst (-1), 1, .int ((-1 : Int32)), [], z_g0),
  (28, .if_icmp .ne 9, 3, .null, [37], z_g0),
  (31, .aload_n 0, 1, .null, [], z_g0),
  (32, .iconst 1, 1, .int ((1 : Int32)), [], z_g0),
  (33, .invokevirtual 91, 3, .null, [1, 12, 0], g_X11_fails),
  (36, .ireturn, 1, .null, [], z_g0),
  (37, .aload_n 0, 1, .null, [], z_g0),
  (38, .getfield 11, 3, .null, [12, 0, 3], z_g0),
  (41, .iload_n 1, 1, .null, [], z_g0),
  (42, .aaload, 1, .null, [110], z_g0),
  (43, .astore_n 3, 1, .null, [], z_g0),
  (44, .iload_n 2, 1, .null, [], z_g0),
  (45, .ifCond .ne 13, 3, .null, [58], z_g0),
  (48, .aload_n 0, 1, .null, [], z_g0),
  (49, .aload_n 3, 1, .null, [], z_g0),
  (50, .getfield 118, 3, .null, [9, 1, 3], z_g0),
  (53, .arraylength, 1, .null, [102], z_g0),
  (54, .invokevirtual 102, 3, .null, [1, 12, 0], g_X11_passes),
  (57, .ireturn, 1, .null, [], z_g0),
  (58, .aload_n 0, 1, .null, [], z_g0),
  (59, .iload_n 2, 1, .null, [], z_g0),
  (60, .iconst 1, 1, .int ((1 : Int32)), [], z_g0),
  (61, .if_icmp .ne 10, 3, .null, [71], z_g0),
  (64, .aload_n 3, 1, .null, [], z_g0),
  (65, .getfield 122, 3, .null, [9, 0, 0], z_g0),
  (68, .goto 7, 3, .null, [75], z_g0),
  (71, .aload_n 3, 1, .null, [], z_g0),
  (72, .invokevirtual 159, 3, .null, [1, 9], g_X8_notZero),
  (75, .invokevirtual 102, 3, .null, [1, 12, 0], g_X11_passes),
  (78, .ireturn, 1, .null, [], z_g0)]
set_option maxRecDepth 100000 in
theorem r_X11_count (v0 : Nat) (v1 : Int32) (v2 : Int32) (S : z_St) : z_seg z_rI (c_X11_count) [] (fun pc => fun _ _ _ => none) 48 (c_X11_count) [(0, .ref v0), (1, .int v1), (2, .int v2)] [] S = b_X11_count v0 v1 v2 S := rfl
def b_X11_find (v0 : Nat) (v1 : Int32) (v2 : Int64) (S : z_St) : Option (Int32 × z_St) :=
z_chk S v0 12 (
(f_X11_nameless v1 ((z_i S v0 1)) S).bind fun q1 =>
if q1.1 = 0 then
(if v1 = ((-1 : Int32)) then
(z_chk q1.2 v0 12 (
(f_X11_fails v0 ((1 : Int32)) q1.2).bind fun q6 =>
some (q6.1, q6.2)))
else
(z_chk q1.2 v0 12 (
z_onV (va_rf (z_r q1.2 v0 0)) fun b2 =>
z_inb q1.2 b2 110 v1 (
z_onV (va_rf (z_r q1.2 b2 v1.toNatClampNeg)) fun b3 =>
z_chk q1.2 b3 9 (
(f_X8_lastOf b3 v2 q1.2).bind fun q4 =>
z_chk q4.2 v0 12 (
(f_X11_passes v0 q4.1 q4.2).bind fun q5 =>
some (q5.1, q5.2)))))))
else
(some ((-2000000001 : Int32), q1.2)))
def f_X11_find : Nat → Int32 → Int64 → z_St → Option (Int32 × z_St) := z_op (b_X11_find)
theorem e_X11_find (v0 : Nat) (v1 : Int32) (v2 : Int64) (S : z_St) : f_X11_find v0 v1 v2 S = b_X11_find v0 v1 v2 S := congrFun (congrFun (congrFun (congrFun (z_op_eq (b_X11_find)) v0) v1) v2) S
def g_X11_find : z_G := .inl (fun as S => match as with
  | [.ref v0, .int v1, .long v2] => f_X11_find v0 v1 v2 S
  | _ => none)
def c_X11_find : List z_E := [
  (0, .iload_n 1, 1, .null, [], z_g0),
  (1, .aload_n 0, 1, .null, [], z_g0),
  (2, .getfield 86, 3, .null, [12, 1, 0], z_g0),
  (5, .invokestatic 105, 3, .null, [0, 0, 0], g_X11_nameless),
  (8, .ifCond .eq 6, 3, .null, [14], z_g0),
  (11, .ldc 109, 2, .int (-2000000001 : Int32), [], z_g0),
  (13, .ireturn, 1, .null, [], z_g0),
  (14, .iload_n 1, 1, .null, [], z_g0),
  (15, .iconst (-1), 1, .int ((-1 : Int32)), [], z_g0),
  (16, .if_icmp .ne 9, 3, .null, [25], z_g0),
  (19, .aload_n 0, 1, .null, [], z_g0),
  (20, .iconst 1, 1, .int ((1 : Int32)), [], z_g0),
  (21, .invokevirtual 91, 3, .null, [1, 12, 0], g_X11_fails),
  (24, .ireturn, 1, .null, [], z_g0),
  (25, .aload_n 0, 1, .null, [], z_g0),
  (26, .aload_n 0, 1, .null, [], z_g0),
  (27, .getfield 11, 3, .null, [12, 0, 3], z_g0),
  (30, .iload_n 1, 1, .null, [], z_g0),
  (31, .aaload, 1, .null, [110], z_g0),
  (32, .lload_n 2, 1, .null, [], z_g0),
  (33, .invokevirtual 163, 3, .null, [1, 9, 0], g_X8_lastOf),
  (36, .invokevirtual 102, 3, .null, [1, 12, 0], g_X11_passes),
  (39, .ireturn, 1, .null, [], z_g0)]
set_option maxRecDepth 100000 in
theorem r_X11_find (v0 : Nat) (v1 : Int32) (v2 : Int64) (S : z_St) : z_seg z_rI (c_X11_find) [] (fun pc => fun _ _ _ => none) 26 (c_X11_find) [(0, .ref v0), (1, .int v1), (2, .long v2)] [] S = b_X11_find v0 v1 v2 S := rfl
def b_X11_mean (v0 : Nat) (v1 : Int32) (S : z_St) : Option (Int64 × z_St) :=
z_chk S v0 12 (
(f_X11_nameless v1 ((z_i S v0 1)) S).bind fun q1 =>
if q1.1 = 0 then
(if v1 = ((-1 : Int32)) then
(z_chk q1.2 v0 12 (
(f_X11_fails v0 ((1 : Int32)) q1.2).bind fun q9 =>
some (q9.1.toInt64, q9.2)))
else
(z_chk q1.2 v0 12 (
z_onV (va_rf (z_r q1.2 v0 0)) fun b2 =>
z_inb q1.2 b2 110 v1 (
z_onV (va_rf (z_r q1.2 b2 v1.toNatClampNeg)) fun b3 =>
z_chk q1.2 b3 9 (
z_onV (va_rf (z_r q1.2 b3 1)) fun b4 =>
z_chk q1.2 b4 102 (
if (Int32.ofNat (z_n q1.2 b4)) = 0 then
(z_chk q1.2 v0 12 (
(f_X11_fails v0 ((6 : Int32)) q1.2).bind fun q8 =>
some (q8.1.toInt64, q8.2)))
else
(z_chk q1.2 b3 9 (
(f_X8_wholesTogether b3 q1.2).bind fun q5 =>
z_chk q5.2 b3 9 (
z_onV (va_rf (z_r q5.2 b3 1)) fun b6 =>
z_chk q5.2 b6 102 (
z_nzl ((Int32.ofNat (z_n q5.2 b6)).toInt64) (
z_chk q5.2 v0 12 (
(f_X11_passesLong v0 (q5.1 / ((Int32.ofNat (z_n q5.2 b6)).toInt64)) q5.2).bind fun q7 =>
some (q7.1, q7.2)))))))))))))
else
(some ((-2000000001 : Int64), q1.2)))
def f_X11_mean : Nat → Int32 → z_St → Option (Int64 × z_St) := z_op (b_X11_mean)
theorem e_X11_mean (v0 : Nat) (v1 : Int32) (S : z_St) : f_X11_mean v0 v1 S = b_X11_mean v0 v1 S := congrFun (congrFun (congrFun (z_op_eq (b_X11_mean)) v0) v1) S
def g_X11_mean : z_G := .inr (.inl (fun as S => match as with
  | [.ref v0, .int v1] => f_X11_mean v0 v1 S
  | _ => none))
def c_X11_mean : List z_E := [
  (0, .iload_n 1, 1, .null, [], z_g0),
  (1, .aload_n 0, 1, .null, [], z_g0),
  (2, .getfield 86, 3, .null, [12, 1, 0], z_g0),
  (5, .invokestatic 105, 3, .null, [0, 0, 0], g_X11_nameless),
  (8, .ifCond .eq 7, 3, .null, [15], z_g0),
  (11, .ldc2_w 129, 3, .long (-2000000001 : Int64), [], z_g0),
  (14, .lreturn, 1, .null, [], z_g0),
  (15, .iload_n 1, 1, .null, [], z_g0),
  (16, .iconst (-1), 1, .int ((-1 : Int32)), [], z_g0),
  (17, .if_icmp .ne 10, 3, .null, [27], z_g0),
  (20, .aload_n 0, 1, .null, [], z_g0),
  (21, .iconst 1, 1, .int ((1 : Int32)), [], z_g0),
  (22, .invokevirtual 91, 3, .null, [1, 12, 0], g_X11_fails),
  (25, .i2l, 1, .null, [], z_g0),
  (26, .lreturn, 1, .null, [], z_g0),
  (27, .aload_n 0, 1, .null, [], z_g0),
  (28, .getfield 11, 3, .null, [12, 0, 3], z_g0),
  (31, .iload_n 1, 1, .null, [], z_g0),
  (32, .aaload, 1, .null, [110], z_g0),
  (33, .astore_n 2, 1, .null, [], z_g0),
  (34, .aload_n 2, 1, .null, [], z_g0),
  (35, .getfield 118, 3, .null, [9, 1, 3], z_g0),
  (38, .arraylength, 1, .null, [102], z_g0),
  (39, .ifCond .ne 11, 3, .null, [50], z_g0),
  (42, .aload_n 0, 1, .null, [], z_g0),
  (43, .bipush 6, 2, .int ((6 : Int32)), [], z_g0),
  (45, .invokevirtual 91, 3, .null, [1, 12, 0], g_X11_fails),
  (48, .i2l, 1, .null, [], z_g0),
  (49, .lreturn, 1, .null, [], z_g0),
  (50, .aload_n 0, 1, .null, [], z_g0),
  (51, .aload_n 2, 1, .null, [], z_g0),
  (52, .invokevirtual 167, 3, .null, [1, 9], g_X8_wholesTogether),
  (55, .aload_n 2, 1, .null, [], z_g0),
  (56, .getfield 118, 3, .null, [9, 1, 3], z_g0),
  (59, .arraylength, 1, .null, [102], z_g0),
  (60, .i2l, 1, .null, [], z_g0),
  (61, .ldiv, 1, .null, [], z_g0),
  (62, .invokevirtual 135, 3, .null, [1, 12, 0], g_X11_passesLong),
  (65, .lreturn, 1, .null, [], z_g0)]
set_option maxRecDepth 100000 in
theorem r_X11_mean (v0 : Nat) (v1 : Int32) (S : z_St) : z_seg z_rL (c_X11_mean) [] (fun pc => fun _ _ _ => none) 42 (c_X11_mean) [(0, .ref v0), (1, .int v1)] [] S = b_X11_mean v0 v1 S := rfl
def j_X11_bed_97 (v0 : Nat) (S : z_St) : Option (Int32 × z_St) :=
z_chk S v0 12 (
z_chk S v0 12 (
let S11 := z_wi S v0 3 (((z_i S v0 3)) + ((1 : Int32)))
z_chk S11 v0 12 (
z_chk S11 v0 12 (
(f_X11_passes v0 (((z_i S11 v0 3)) - ((1 : Int32))) S11).bind fun q12 =>
some (q12.1, q12.2)))))
def j_X11_bed_19 (v0 : Nat) (v1 : Int32) (v2 : Int32) (v3 : Int32) (S : z_St) : Option (Int32 × z_St) :=
if ((16 : Int32)) < v2 then
(some ((-2000000002 : Int32), S))
else
(if v3 ≤ ((64 : Int32)) then
(z_chk S v0 12 (
if ((z_i S v0 3)) < ((20 : Int32)) then
(if v2 < 0 then
(z_chk S v0 12 (
(f_X11_fails v0 ((3 : Int32)) S).bind fun q1 =>
some (q1.1, q1.2)))
else
(if ((-1 : Int32)) ≤ v3 then
(z_chk S v0 12 (
z_chk S v0 12 (
let a2 := z_x S
let S3 := z_new S 2 2
z_chk S3 a2 2 (
(f_X1_init a2 v1 v2 S3).bind fun q4 =>
z_onV (va_rf (z_r S v0 2)) fun b5 =>
z_inb q4 b5 111 ((z_i S v0 3)) (
z_chk q4 a2 2 (
let S6 := z_wr q4 b5 ((z_i S v0 3)).toNatClampNeg (some a2)
if v3 = ((-1 : Int32)) then
(j_X11_bed_97 v0 S6)
else
(z_chk S6 v0 12 (
z_chk S6 v0 12 (
z_onV (va_rf (z_r S6 v0 2)) fun b7 =>
z_inb S6 b7 111 ((z_i S6 v0 3)) (
z_onV (va_rf (z_r S6 b7 ((z_i S6 v0 3)).toNatClampNeg)) fun b8 =>
z_chk S6 b8 2 (
(f_X1_fill b8 v3 S6).bind fun q9 =>
j_X11_bed_97 v0 q9)))))))))))
else
(z_chk S v0 12 (
(f_X11_fails v0 ((3 : Int32)) S).bind fun q10 =>
some (q10.1, q10.2)))))
else
(some ((-2000000004 : Int32), S))))
else
(some ((-2000000002 : Int32), S)))
def b_X11_bed (v0 : Nat) (v1 : Int32) (v2 : Int32) (v3 : Int32) (S : z_St) : Option (Int32 × z_St) :=
if v1 = ((1 : Int32)) then
(j_X11_bed_19 v0 v1 v2 v3 S)
else
(if v1 = ((3 : Int32)) then
(j_X11_bed_19 v0 v1 v2 v3 S)
else
(if v1 = ((6 : Int32)) then
(j_X11_bed_19 v0 v1 v2 v3 S)
else
(some ((-2000000002 : Int32), S))))
def f_X11_bed : Nat → Int32 → Int32 → Int32 → z_St → Option (Int32 × z_St) := z_op (b_X11_bed)
theorem e_X11_bed (v0 : Nat) (v1 : Int32) (v2 : Int32) (v3 : Int32) (S : z_St) : f_X11_bed v0 v1 v2 v3 S = b_X11_bed v0 v1 v2 v3 S := congrFun (congrFun (congrFun (congrFun (congrFun (z_op_eq (b_X11_bed)) v0) v1) v2) v3) S
def g_X11_bed : z_G := .inl (fun as S => match as with
  | [.ref v0, .int v1, .int v2, .int v3] => f_X11_bed v0 v1 v2 v3 S
  | _ => none)
def c_X11_bed : List z_E := [
  (0, .iload_n 1, 1, .null, [], z_g0),
  (1, .iconst 1, 1, .int ((1 : Int32)), [], z_g0),
  (2, .if_icmp .eq 17, 3, .null, [19], z_g0),
  (5, .iload_n 1, 1, .null, [], z_g0),
  (6, .iconst 3, 1, .int ((3 : Int32)), [], z_g0),
  (7, .if_icmp .eq 12, 3, .null, [19], z_g0),
  (10, .iload_n 1, 1, .null, [], z_g0),
  (11, .bipush 6, 2, .int ((6 : Int32)), [], z_g0),
  (13, .if_icmp .eq 6, 3, .null, [19], z_g0),
  (16, .ldc 85, 2, .int (-2000000002 : Int32), [], z_g0),
  (18, .ireturn, 1, .null, [], z_g0),
  (19, .iload_n 2, 1, .null, [], z_g0),
  (20, .bipush 16, 2, .int ((16 : Int32)), [], z_g0),
  (22, .if_icmp .gt 9, 3, .null, [31], z_g0),
  (25, .iload_n 3, 1, .null, [], z_g0),
  (26, .bipush 64, 2, .int ((64 : Int32)), [], z_g0),
  (28, .if_icmp .le 6, 3, .null, [34], z_g0),
  (31, .ldc 85, 2, .int (-2000000002 : Int32), [], z_g0),
  (33, .ireturn, 1, .null, [], z_g0),
  (34, .aload_n 0, 1, .null, [], z_g0),
  (35, .getfield 171, 3, .null, [12, 3, 0], z_g0),
  (38, .bipush 20, 2, .int ((20 : Int32)), [], z_g0),
  (40, .if_icmp .lt 6, 3, .null, [46], z_g0),
  (43, .ldc 90, 2, .int (-2000000004 : Int32), [], z_g0),
  (45, .ireturn, 1, .null, [], z_g0),
  (46, .iload_n 2, 1, .null, [], z_g0),
  (47, .ifCond .lt 8, 3, .null, [55], z_g0),
  (50, .iload_n 3, 1, .null, [], z_g0),
  (51, .iconst (-1), 1, .int ((-1 : Int32)), [], z_g0),
  (52, .if_icmp .ge 9, 3, .null, [61], z_g0),
  (55, .aload_n 0, 1, .null, [], z_g0),
  (56, .iconst 3, 1, .int ((3 : Int32)), [], z_g0),
  (57, .invokevirtual 91, 3, .null, [1, 12, 0], g_X11_fails),
  (60, .ireturn, 1, .null, [], z_g0),
  (61, .aload_n 0, 1, .null, [], z_g0),
  (62, .getfield 17, 3, .null, [12, 2, 3], z_g0),
  (65, .aload_n 0, 1, .null, [], z_g0),
  (66, .getfield 171, 3, .null, [12, 3, 0], z_g0),
  (69, .new 15, 3, .null, [2, 2], z_g0),
  (72, .dup, 1, .null, [], z_g0),
  (73, .iload_n 1, 1, .null, [], z_g0),
  (74, .iload_n 2, 1, .null, [], z_g0),
  (75, .invokespecial 174, 3, .null, [1, 2, 0, 0], g_X1_init),
  (78, .aastore, 1, .null, [111, 2], z_g0),
  (79, .iload_n 3, 1, .null, [], z_g0),
  (80, .iconst (-1), 1, .int ((-1 : Int32)), [], z_g0),
  (81, .if_icmp .eq 16, 3, .null, [97], z_g0),
  (84, .aload_n 0, 1, .null, [], z_g0),
  (85, .getfield 17, 3, .null, [12, 2, 3], z_g0),
  (88, .aload_n 0, 1, .null, [], z_g0),
  (89, .getfield 171, 3, .null, [12, 3, 0], z_g0),
  (92, .aaload, 1, .null, [111], z_g0),
  (93, .iload_n 3, 1, .null, [], z_g0),
  (94, .invokevirtual 175, 3, .null, [1, 2, 0], g_X1_fill),
  (97, .aload_n 0, 1, .null, [], z_g0),
  (98, .dup, 1, .null, [], z_g0),
  (99, .getfield 171, 3, .null, [12, 3, 0], z_g0),
  (102, .iconst 1, 1, .int ((1 : Int32)), [], z_g0),
  (103, .iadd, 1, .null, [], z_g0),
  (104, .putfield 171, 3, .null, [12, 3, 0], z_g0),
  (107, .aload_n 0, 1, .null, [], z_g0),
  (108, .aload_n 0, 1, .null, [], z_g0),
  (109, .getfield 171, 3, .null, [12, 3, 0], z_g0),
  (112, .iconst 1, 1, .int ((1 : Int32)), [], z_g0),
  (113, .isub, 1, .null, [], z_g0),
  (114, .invokevirtual 102, 3, .null, [1, 12, 0], g_X11_passes),
  (117, .ireturn, 1, .null, [], z_g0)]
def a_X11_bed_19 {ρ : Type} (k : Nat → Int32 → Int32 → Int32 → z_St → Option ρ) (ls : z_Lv) (st : List Value) (S : z_St) : Option ρ := z_gR ls 0 fun v0 => z_gI ls 1 fun v1 => z_gI ls 2 fun v2 => z_gI ls 3 fun v3 => z_p0 st (k v0 v1 v2 v3 S)
def a_X11_bed_97 {ρ : Type} (k : Nat → z_St → Option ρ) (ls : z_Lv) (st : List Value) (S : z_St) : Option ρ := z_gR ls 0 fun v0 => z_p0 st (k v0 S)
set_option maxRecDepth 100000 in
theorem r_X11_bed_97 (v0 : Nat) (S : z_St) : z_seg z_rI (c_X11_bed) [19, 97] (fun pc => fun _ _ _ => none) 70 (z_to 97 (c_X11_bed)) [(0, .ref v0)] [] S = j_X11_bed_97 v0 S := rfl
set_option maxRecDepth 100000 in
theorem r_X11_bed_19 (v0 : Nat) (v1 : Int32) (v2 : Int32) (v3 : Int32) (S : z_St) : z_seg z_rI (c_X11_bed) [19, 97] (fun pc => cond (Nat.beq pc 97) (a_X11_bed_97 (j_X11_bed_97)) (fun _ _ _ => none)) 70 (z_to 19 (c_X11_bed)) [(0, .ref v0), (1, .int v1), (2, .int v2), (3, .int v3)] [] S = j_X11_bed_19 v0 v1 v2 v3 S := rfl
set_option maxRecDepth 100000 in
theorem r_X11_bed (v0 : Nat) (v1 : Int32) (v2 : Int32) (v3 : Int32) (S : z_St) : z_seg z_rI (c_X11_bed) [19, 97] (fun pc => cond (Nat.beq pc 19) (a_X11_bed_19 (j_X11_bed_19)) (fun _ _ _ => none)) 70 (c_X11_bed) [(0, .ref v0), (1, .int v1), (2, .int v2), (3, .int v3)] [] S = b_X11_bed v0 v1 v2 v3 S := rfl
def j_X11_lay_86 (v0 : Nat) (v2 : Int32) (v3 : Int32) (v4 : Nat) (S : z_St) : Option (Int32 × z_St) :=
z_chk S v4 2 (
if v3 = ((-1 : Int32)) then
(z_onV (va_rf (z_r S v4 1)) fun b19 =>
z_inb S b19 110 v2 (
let S20 := z_wr S b19 v2.toNatClampNeg none
z_chk S20 v0 12 (
(f_X11_passes v0 ((1 : Int32)) S20).bind fun q21 =>
some (q21.1, q21.2))))
else
(z_chk S v0 12 (
z_onV (va_rf (z_r S v0 0)) fun b11 =>
z_inb S b11 110 v3 (
z_onV (va_rf (z_r S v4 1)) fun b12 =>
z_inb S b12 110 v2 (
z_rv (va_rf (z_r S b11 v3.toNatClampNeg)) fun o13 => match o13 with
| none => (let S15 := z_wr S b12 v2.toNatClampNeg none
z_chk S15 v0 12 (
(f_X11_passes v0 ((1 : Int32)) S15).bind fun q17 =>
some (q17.1, q17.2)))
| some b14 => z_chk S b14 9 (let S16 := z_wr S b12 v2.toNatClampNeg (some b14)
z_chk S16 v0 12 (
(f_X11_passes v0 ((1 : Int32)) S16).bind fun q18 =>
some (q18.1, q18.2))))))))
def b_X11_lay (v0 : Nat) (v1 : Int32) (v2 : Int32) (v3 : Int32) (S : z_St) : Option (Int32 × z_St) :=
z_chk S v0 12 (
(f_X11_outOf v1 ((0 : Int32)) (((z_i S v0 3)) - ((1 : Int32))) S).bind fun q1 =>
if q1.1 = 0 then
(z_chk q1.2 v0 12 (
(f_X11_nameless v3 ((z_i q1.2 v0 1)) q1.2).bind fun q2 =>
if q2.1 = 0 then
(z_chk q2.2 v0 12 (
z_onV (va_rf (z_r q2.2 v0 2)) fun b3 =>
z_inb q2.2 b3 111 v1 (
z_onV (va_rf (z_r q2.2 b3 v1.toNatClampNeg)) fun b4 =>
z_chk q2.2 b4 2 (
z_onV (va_rf (z_r q2.2 b4 1)) fun b5 =>
z_chk q2.2 b5 110 (
(f_X11_outOf v2 ((0 : Int32)) ((Int32.ofNat (z_n q2.2 b5)) - ((1 : Int32))) q2.2).bind fun q6 =>
if q6.1 = 0 then
(if v3 = ((-1 : Int32)) then
(j_X11_lay_86 v0 v2 v3 b4 q6.2)
else
(z_chk q6.2 v0 12 (
z_onV (va_rf (z_r q6.2 v0 0)) fun b7 =>
z_inb q6.2 b7 110 v3 (
z_onV (va_rf (z_r q6.2 b7 v3.toNatClampNeg)) fun b8 =>
z_chk q6.2 b8 9 (
z_chk q6.2 b4 2 (
if ((z_i q6.2 b8 0)) = ((z_i q6.2 b4 0)) then
(j_X11_lay_86 v0 v2 v3 b4 q6.2)
else
(z_chk q6.2 v0 12 (
(f_X11_fails v0 ((5 : Int32)) q6.2).bind fun q9 =>
some (q9.1, q9.2)))))))))
else
(z_chk q6.2 v0 12 (
(f_X11_fails v0 ((2 : Int32)) q6.2).bind fun q10 =>
some (q10.1, q10.2))))))))
else
(some ((-2000000001 : Int32), q2.2))))
else
(some ((-2000000001 : Int32), q1.2)))
def f_X11_lay : Nat → Int32 → Int32 → Int32 → z_St → Option (Int32 × z_St) := z_op (b_X11_lay)
theorem e_X11_lay (v0 : Nat) (v1 : Int32) (v2 : Int32) (v3 : Int32) (S : z_St) : f_X11_lay v0 v1 v2 v3 S = b_X11_lay v0 v1 v2 v3 S := congrFun (congrFun (congrFun (congrFun (congrFun (z_op_eq (b_X11_lay)) v0) v1) v2) v3) S
def g_X11_lay : z_G := .inl (fun as S => match as with
  | [.ref v0, .int v1, .int v2, .int v3] => f_X11_lay v0 v1 v2 v3 S
  | _ => none)
def c_X11_lay : List z_E := [
  (0, .iload_n 1, 1, .null, [], z_g0),
  (1, .iconst 0, 1, .int ((0 : Int32)), [], z_g0),
  (2, .aload_n 0, 1, .null, [], z_g0),
  (3, .getfield 171, 3, .null, [12, 3, 0], z_g0),
  (6, .iconst 1, 1, .int ((1 : Int32)), [], z_g0),
  (7, .isub, 1, .null, [], z_g0),
  (8, .invokestatic 81, 3, .null, [0, 0, 0, 0], g_X11_outOf),
  (11, .ifCond .ne 14, 3, .null, [25], z_g0),
  (14, .iload_n 3, 1, .null, [], z_g0),
  (15, .aload_n 0, 1, .null, [], z_g0),
  (16, .getfield 86, 3, .null, [12, 1, 0], z_g0),
  (19, .invokestatic 105, 3, .null, [0, 0, 0], g_X11_nameless),
  (22, .ifCond .eq 6, 3, .null, [28], z_g0),
  (25, .ldc 109, 2, .int (-2000000001 : Int32), [], z_g0),
  (27, .ireturn, 1, .null, [], z_g0),
  (28, .aload_n 0, 1, .null, [], z_g0),
  (29, .getfield 17, 3, .null, [12, 2, 3], z_g0),
  (32, .iload_n 1, 1, .null, [], z_g0),
  (33, .aaload, 1, .null, [111], z_g0),
  (34, .astore 4, 2, .null, [], z_g0),
  (36, .iload_n 2, 1, .null, [], z_g0),
  (37, .iconst 0, 1, .int ((0 : Int32)), [], z_g0),
  (38, .aload 4, 2, .null, [], z_g0),
  (40, .getfield 179, 3, .null, [2, 1, 3], z_g0),
  (43, .arraylength, 1, .null, [110], z_g0),
  (44, .iconst 1, 1, .int ((1 : Int32)), [], z_g0),
  (45, .isub, 1, .null, [], z_g0),
  (46, .invokestatic 81, 3, .null, [0, 0, 0, 0], g_X11_outOf),
  (49, .ifCond .eq 9, 3, .null, [58], z_g0),
  (52, .aload_n 0, 1, .null, [], z_g0),
  (53, .iconst 2, 1, .int ((2 : Int32)), [], z_g0),
  (54, .invokevirtual 91, 3, .null, [1, 12, 0], g_X11_fails),
  (57, .ireturn, 1, .null, [], z_g0),
  (58, .iload_n 3, 1, .null, [], z_g0),
  (59, .iconst (-1), 1, .int ((-1 : Int32)), [], z_g0),
  (60, .if_icmp .eq 26, 3, .null, [86], z_g0),
  (63, .aload_n 0, 1, .null, [], z_g0),
  (64, .getfield 11, 3, .null, [12, 0, 3], z_g0),
  (67, .iload_n 3, 1, .null, [], z_g0),
  (68, .aaload, 1, .null, [110], z_g0),
  (69, .getfield 122, 3, .null, [9, 0, 0], z_g0),
  (72, .aload 4, 2, .null, [], z_g0),
  (74, .getfield 182, 3, .null, [2, 0, 0], z_g0),
  (77, .if_icmp .eq 9, 3, .null, [86], z_g0),
  (80, .aload_n 0, 1, .null, [], z_g0),
  (81, .iconst 5, 1, .int ((5 : Int32)), [], z_g0),
  (82, .invokevirtual 91, 3, .null, [1, 12, 0], g_X11_fails),
  (85, .ireturn, 1, .null, [], z_g0),
  (86, .aload 4, 2, .null, [], z_g0),
  (88, .getfield 179, 3, .null, [2, 1, 3], z_g0),
  (91, .iload_n 2, 1, .null, [], z_g0),
  (92, .iload_n 3, 1, .null, [], z_g0),
  (93, .iconst (-1), 1, .int ((-1 : Int32)), [], z_g0),
  (94, .if_icmp .ne 7, 3, .null, [101], z_g0),
  (97, .aconst_null, 1, .null, [], z_g0),
  (98, .goto 9, 3, .null, [107], z_g0),
  (101, .aload_n 0, 1, .null, [], z_g0),
  (102, .getfield 11, 3, .null, [12, 0, 3], z_g0),
  (105, .iload_n 3, 1, .null, [], z_g0),
  (106, .aaload, 1, .null, [110], z_g0),
  (107, .aastore, 1, .null, [110, 9], z_g0),
  (108, .aload_n 0, 1, .null, [], z_g0),
  (109, .iconst 1, 1, .int ((1 : Int32)), [], z_g0),
  (110, .invokevirtual 102, 3, .null, [1, 12, 0], g_X11_passes),
  (113, .ireturn, 1, .null, [], z_g0)]
def a_X11_lay_86 {ρ : Type} (k : Nat → Int32 → Int32 → Nat → z_St → Option ρ) (ls : z_Lv) (st : List Value) (S : z_St) : Option ρ := z_gR ls 0 fun v0 => z_gI ls 2 fun v2 => z_gI ls 3 fun v3 => z_gR ls 4 fun v4 => z_p0 st (k v0 v2 v3 v4 S)
set_option maxRecDepth 100000 in
theorem r_X11_lay_86 (v0 : Nat) (v2 : Int32) (v3 : Int32) (v4 : Nat) (S : z_St) : z_seg z_rI (c_X11_lay) [86] (fun pc => fun _ _ _ => none) 68 (z_to 86 (c_X11_lay)) [(0, .ref v0), (2, .int v2), (3, .int v3), (4, .ref v4)] [] S = j_X11_lay_86 v0 v2 v3 v4 S := rfl
set_option maxRecDepth 100000 in
theorem r_X11_lay (v0 : Nat) (v1 : Int32) (v2 : Int32) (v3 : Int32) (S : z_St) : z_seg z_rI (c_X11_lay) [86] (fun pc => cond (Nat.beq pc 86) (a_X11_lay_86 (j_X11_lay_86)) (fun _ _ _ => none)) 68 (c_X11_lay) [(0, .ref v0), (1, .int v1), (2, .int v2), (3, .int v3)] [] S = b_X11_lay v0 v1 v2 v3 S := rfl
def b_X11_spot (v0 : Nat) (v1 : Int32) (v2 : Int32) (v3 : Int32) (S : z_St) : Option (Int64 × z_St) :=
z_chk S v0 12 (
(f_X11_outOf v1 ((0 : Int32)) (((z_i S v0 3)) - ((1 : Int32))) S).bind fun q1 =>
if q1.1 = 0 then
(z_chk q1.2 v0 12 (
z_onV (va_rf (z_r q1.2 v0 2)) fun b2 =>
z_inb q1.2 b2 111 v1 (
z_onV (va_rf (z_r q1.2 b2 v1.toNatClampNeg)) fun b3 =>
z_chk q1.2 b3 2 (
(f_X1_spotFailure b3 v2 v3 q1.2).bind fun q4 =>
if q4.1 = 0 then
(z_chk q4.2 v0 12 (
z_onV (va_rf (z_r q4.2 v0 2)) fun b5 =>
z_inb q4.2 b5 111 v1 (
z_onV (va_rf (z_r q4.2 b5 v1.toNatClampNeg)) fun b6 =>
z_chk q4.2 b6 2 (
z_onV (va_rf (z_r q4.2 b6 1)) fun b7 =>
z_inb q4.2 b7 110 v2 (
z_onV (va_rf (z_r q4.2 b7 v2.toNatClampNeg)) fun b8 =>
z_chk q4.2 b8 9 (
(f_X8_wholeAt b8 v3 q4.2).bind fun q9 =>
z_chk q9.2 v0 12 (
(f_X11_passesLong v0 q9.1 q9.2).bind fun q10 =>
some (q10.1, q10.2))))))))
else
(z_chk q4.2 v0 12 (
(f_X11_fails v0 q4.1 q4.2).bind fun q11 =>
some (q11.1.toInt64, q11.2)))))))
else
(some ((-2000000001 : Int64), q1.2)))
def f_X11_spot : Nat → Int32 → Int32 → Int32 → z_St → Option (Int64 × z_St) := z_op (b_X11_spot)
theorem e_X11_spot (v0 : Nat) (v1 : Int32) (v2 : Int32) (v3 : Int32) (S : z_St) : f_X11_spot v0 v1 v2 v3 S = b_X11_spot v0 v1 v2 v3 S := congrFun (congrFun (congrFun (congrFun (congrFun (z_op_eq (b_X11_spot)) v0) v1) v2) v3) S
def g_X11_spot : z_G := .inr (.inl (fun as S => match as with
  | [.ref v0, .int v1, .int v2, .int v3] => f_X11_spot v0 v1 v2 v3 S
  | _ => none))
def c_X11_spot : List z_E := [
  (0, .iload_n 1, 1, .null, [], z_g0),
  (1, .iconst 0, 1, .int ((0 : Int32)), [], z_g0),
  (2, .aload_n 0, 1, .null, [], z_g0),
  (3, .getfield 171, 3, .null, [12, 3, 0], z_g0),
  (6, .iconst 1, 1, .int ((1 : Int32)), [], z_g0),
  (7, .isub, 1, .null, [], z_g0),
  (8, .invokestatic 81, 3, .null, [0, 0, 0, 0], g_X11_outOf),
  (11, .ifCond .eq 7, 3, .null, [18], z_g0),
  (14, .ldc2_w 129, 3, .long (-2000000001 : Int64), [], z_g0),
  (17, .lreturn, 1, .null, [], z_g0),
  (18, .aload_n 0, 1, .null, [], z_g0),
  (19, .getfield 17, 3, .null, [12, 2, 3], z_g0),
  (22, .iload_n 1, 1, .null, [], z_g0),
  (23, .aaload, 1, .null, [111], z_g0),
  (24, .iload_n 2, 1, .null, [], z_g0),
  (25, .iload_n 3, 1, .null, [], z_g0),
  (26, .invokevirtual 183, 3, .null, [1, 2, 0, 0], g_X1_spotFailure),
  (29, .istore 4, 2, .null, [], z_g0),
  (31, .iload 4, 2, .null, [], z_g0),
  (33, .ifCond .eq 11, 3, .null, [44], z_g0),
  (36, .aload_n 0, 1, .null, [], z_g0),
  (37, .iload 4, 2, .null, [], z_g0),
  (39, .invokevirtual 91, 3, .null, [1, 12, 0], g_X11_fails),
  (42, .i2l, 1, .null, [], z_g0),
  (43, .lreturn, 1, .null, [], z_g0),
  (44, .aload_n 0, 1, .null, [], z_g0),
  (45, .aload_n 0, 1, .null, [], z_g0),
  (46, .getfield 17, 3, .null, [12, 2, 3], z_g0),
  (49, .iload_n 1, 1, .null, [], z_g0),
  (50, .aaload, 1, .null, [111], z_g0),
  (51, .getfield 179, 3, .null, [2, 1, 3], z_g0),
  (54, .iload_n 2, 1, .null, [], z_g0),
  (55, .aaload, 1, .null, [110], z_g0),
  (56, .iload_n 3, 1, .null, [], z_g0),
  (57, .invokevirtual 131, 3, .null, [1, 9, 0], g_X8_wholeAt),
  (60, .invokevirtual 135, 3, .null, [1, 12, 0], g_X11_passesLong),
  (63, .lreturn, 1, .null, [], z_g0)]
set_option maxRecDepth 100000 in
theorem r_X11_spot (v0 : Nat) (v1 : Int32) (v2 : Int32) (v3 : Int32) (S : z_St) : z_seg z_rL (c_X11_spot) [] (fun pc => fun _ _ _ => none) 40 (c_X11_spot) [(0, .ref v0), (1, .int v1), (2, .int v2), (3, .int v3)] [] S = b_X11_spot v0 v1 v2 v3 S := rfl
def b_X11_setSpot (v0 : Nat) (v1 : Int32) (v2 : Int32) (v3 : Int32) (v4 : Int64) (S : z_St) : Option (Int32 × z_St) :=
z_chk S v0 12 (
(f_X11_outOf v1 ((0 : Int32)) (((z_i S v0 3)) - ((1 : Int32))) S).bind fun q1 =>
if q1.1 = 0 then
(z_chk q1.2 v0 12 (
z_onV (va_rf (z_r q1.2 v0 2)) fun b2 =>
z_inb q1.2 b2 111 v1 (
z_onV (va_rf (z_r q1.2 b2 v1.toNatClampNeg)) fun b3 =>
z_chk q1.2 b3 2 (
(f_X1_spotFailure b3 v2 v3 q1.2).bind fun q4 =>
if q4.1 = 0 then
(z_chk q4.2 v0 12 (
z_onV (va_rf (z_r q4.2 v0 2)) fun b5 =>
z_inb q4.2 b5 111 v1 (
z_onV (va_rf (z_r q4.2 b5 v1.toNatClampNeg)) fun b6 =>
z_chk q4.2 b6 2 (
z_onV (va_rf (z_r q4.2 b6 1)) fun b7 =>
z_inb q4.2 b7 110 v2 (
z_onV (va_rf (z_r q4.2 b7 v2.toNatClampNeg)) fun b8 =>
z_chk q4.2 b8 9 (
(f_X8_setWhole b8 v3 v4 q4.2).bind fun q9 =>
z_chk q9 v0 12 (
(f_X11_passes v0 ((1 : Int32)) q9).bind fun q10 =>
some (q10.1, q10.2))))))))
else
(z_chk q4.2 v0 12 (
(f_X11_fails v0 q4.1 q4.2).bind fun q11 =>
some (q11.1, q11.2)))))))
else
(some ((-2000000001 : Int32), q1.2)))
def f_X11_setSpot : Nat → Int32 → Int32 → Int32 → Int64 → z_St → Option (Int32 × z_St) := z_op (b_X11_setSpot)
theorem e_X11_setSpot (v0 : Nat) (v1 : Int32) (v2 : Int32) (v3 : Int32) (v4 : Int64) (S : z_St) : f_X11_setSpot v0 v1 v2 v3 v4 S = b_X11_setSpot v0 v1 v2 v3 v4 S := congrFun (congrFun (congrFun (congrFun (congrFun (congrFun (z_op_eq (b_X11_setSpot)) v0) v1) v2) v3) v4) S
def g_X11_setSpot : z_G := .inl (fun as S => match as with
  | [.ref v0, .int v1, .int v2, .int v3, .long v4] => f_X11_setSpot v0 v1 v2 v3 v4 S
  | _ => none)
def c_X11_setSpot : List z_E := [
  (0, .iload_n 1, 1, .null, [], z_g0),
  (1, .iconst 0, 1, .int ((0 : Int32)), [], z_g0),
  (2, .aload_n 0, 1, .null, [], z_g0),
  (3, .getfield 171, 3, .null, [12, 3, 0], z_g0),
  (6, .iconst 1, 1, .int ((1 : Int32)), [], z_g0),
  (7, .isub, 1, .null, [], z_g0),
  (8, .invokestatic 81, 3, .null, [0, 0, 0, 0], g_X11_outOf),
  (11, .ifCond .eq 6, 3, .null, [17], z_g0),
  (14, .ldc 109, 2, .int (-2000000001 : Int32), [], z_g0),
  (16, .ireturn, 1, .null, [], z_g0),
  (17, .aload_n 0, 1, .null, [], z_g0),
  (18, .getfield 17, 3, .null, [12, 2, 3], z_g0),
  (21, .iload_n 1, 1, .null, [], z_g0),
  (22, .aaload, 1, .null, [111], z_g0),
  (23, .iload_n 2, 1, .null, [], z_g0),
  (24, .iload_n 3, 1, .null, [], z_g0),
  (25, .invokevirtual 183, 3, .null, [1, 2, 0, 0], g_X1_spotFailure),
  (28, .istore 6, 2, .null, [], z_g0),
  (30, .iload 6, 2, .null, [], z_g0),
  (32, .ifCond .eq 10, 3, .null, [42], z_g0),
  (35, .aload_n 0, 1, .null, [], z_g0),
  (36, .iload 6, 2, .null, [], z_g0),
  (38, .invokevirtual 91, 3, .null, [1, 12, 0], g_X11_fails),
  (41, .ireturn, 1, .null, [], z_g0),
  (42, .aload_n 0, 1, .null, [], z_g0),
  (43, .getfield 17, 3, .null, [12, 2, 3], z_g0),
  (46, .iload_n 1, 1, .null, [], z_g0),
  (47, .aaload, 1, .null, [111], z_g0),
  (48, .getfield 179, 3, .null, [2, 1, 3], z_g0),
  (51, .iload_n 2, 1, .null, [], z_g0),
  (52, .aaload, 1, .null, [110], z_g0),
  (53, .iload_n 3, 1, .null, [], z_g0),
  (54, .lload 4, 2, .null, [], z_g0),
  (56, .invokevirtual 114, 3, .null, [1, 9, 0, 0], g_X8_setWhole),
  (59, .aload_n 0, 1, .null, [], z_g0),
  (60, .iconst 1, 1, .int ((1 : Int32)), [], z_g0),
  (61, .invokevirtual 102, 3, .null, [1, 12, 0], g_X11_passes),
  (64, .ireturn, 1, .null, [], z_g0)]
set_option maxRecDepth 100000 in
theorem r_X11_setSpot (v0 : Nat) (v1 : Int32) (v2 : Int32) (v3 : Int32) (v4 : Int64) (S : z_St) : z_seg z_rI (c_X11_setSpot) [] (fun pc => fun _ _ _ => none) 41 (c_X11_setSpot) [(0, .ref v0), (1, .int v1), (2, .int v2), (3, .int v3), (4, .long v4)] [] S = b_X11_setSpot v0 v1 v2 v3 v4 S := rfl
def b_X11_bare (v0 : Nat) (v1 : Int32) (v2 : Int32) (S : z_St) : Option (Int32 × z_St) :=
z_chk S v0 12 (
(f_X11_outOf v1 ((0 : Int32)) (((z_i S v0 3)) - ((1 : Int32))) S).bind fun q1 =>
if q1.1 = 0 then
(z_chk q1.2 v0 12 (
z_onV (va_rf (z_r q1.2 v0 2)) fun b2 =>
z_inb q1.2 b2 111 v1 (
z_onV (va_rf (z_r q1.2 b2 v1.toNatClampNeg)) fun b3 =>
z_chk q1.2 b3 2 (
(f_X1_bareStrip b3 v2 q1.2).bind fun q4 =>
some (q4.1, q4.2)))))
else
(some ((-2000000001 : Int32), q1.2)))
def f_X11_bare : Nat → Int32 → Int32 → z_St → Option (Int32 × z_St) := z_op (b_X11_bare)
theorem e_X11_bare (v0 : Nat) (v1 : Int32) (v2 : Int32) (S : z_St) : f_X11_bare v0 v1 v2 S = b_X11_bare v0 v1 v2 S := congrFun (congrFun (congrFun (congrFun (z_op_eq (b_X11_bare)) v0) v1) v2) S
def g_X11_bare : z_G := .inl (fun as S => match as with
  | [.ref v0, .int v1, .int v2] => f_X11_bare v0 v1 v2 S
  | _ => none)
def c_X11_bare : List z_E := [
  (0, .iload_n 1, 1, .null, [], z_g0),
  (1, .iconst 0, 1, .int ((0 : Int32)), [], z_g0),
  (2, .aload_n 0, 1, .null, [], z_g0),
  (3, .getfield 171, 3, .null, [12, 3, 0], z_g0),
  (6, .iconst 1, 1, .int ((1 : Int32)), [], z_g0),
  (7, .isub, 1, .null, [], z_g0),
  (8, .invokestatic 81, 3, .null, [0, 0, 0, 0], g_X11_outOf),
  (11, .ifCond .eq 6, 3, .null, [17], z_g0),
  (14, .ldc 109, 2, .int (-2000000001 : Int32), [], z_g0),
  (16, .ireturn, 1, .null, [], z_g0),
  (17, .aload_n 0, 1, .null, [], z_g0),
  (18, .getfield 17, 3, .null, [12, 2, 3], z_g0),
  (21, .iload_n 1, 1, .null, [], z_g0),
  (22, .aaload, 1, .null, [111], z_g0),
  (23, .iload_n 2, 1, .null, [], z_g0),
  (24, .invokevirtual 186, 3, .null, [1, 2, 0], g_X1_bareStrip),
  (27, .ireturn, 1, .null, [], z_g0)]
set_option maxRecDepth 100000 in
theorem r_X11_bare (v0 : Nat) (v1 : Int32) (v2 : Int32) (S : z_St) : z_seg z_rI (c_X11_bare) [] (fun pc => fun _ _ _ => none) 20 (c_X11_bare) [(0, .ref v0), (1, .int v1), (2, .int v2)] [] S = b_X11_bare v0 v1 v2 S := rfl
def b_X11_thing (v0 : Nat) (v1 : Int32) (v2 : Int32) (S : z_St) : Option (Int32 × z_St) :=
(f_X11_outOf v1 ((0 : Int32)) ((5 : Int32)) S).bind fun q1 =>
if q1.1 = 0 then
((f_X11_outOf v2 ((0 : Int32)) ((1000 : Int32)) q1.2).bind fun q2 =>
if q2.1 = 0 then
(z_chk q2.2 v0 12 (
if ((z_i q2.2 v0 5)) < ((40 : Int32)) then
(z_chk q2.2 v0 12 (
z_chk q2.2 v0 12 (
let a3 := z_x q2.2
let S4 := z_new q2.2 10 2
z_chk S4 a3 10 (
(f_X9_init a3 v1 v2 S4).bind fun q5 =>
z_onV (va_rf (z_r q2.2 v0 4)) fun b6 =>
z_inb q5 b6 112 ((z_i q2.2 v0 5)) (
z_chk q5 a3 10 (
let S7 := z_wr q5 b6 ((z_i q2.2 v0 5)).toNatClampNeg (some a3)
z_chk S7 v0 12 (
z_chk S7 v0 12 (
let S8 := z_wi S7 v0 5 (((z_i S7 v0 5)) + ((1 : Int32)))
z_chk S8 v0 12 (
some (((z_i S8 v0 5)) - ((1 : Int32)), S8))))))))))
else
(some ((-2000000004 : Int32), q2.2))))
else
(some ((-2000000002 : Int32), q2.2)))
else
(some ((-2000000002 : Int32), q1.2))
def f_X11_thing : Nat → Int32 → Int32 → z_St → Option (Int32 × z_St) := z_op (b_X11_thing)
theorem e_X11_thing (v0 : Nat) (v1 : Int32) (v2 : Int32) (S : z_St) : f_X11_thing v0 v1 v2 S = b_X11_thing v0 v1 v2 S := congrFun (congrFun (congrFun (congrFun (z_op_eq (b_X11_thing)) v0) v1) v2) S
def g_X11_thing : z_G := .inl (fun as S => match as with
  | [.ref v0, .int v1, .int v2] => f_X11_thing v0 v1 v2 S
  | _ => none)
def c_X11_thing : List z_E := [
  (0, .iload_n 1, 1, .null, [], z_g0),
  (1, .iconst 0, 1, .int ((0 : Int32)), [], z_g0),
  (2, .iconst 5, 1, .int ((5 : Int32)), [], z_g0),
  (3, .invokestatic 81, 3, .null, [0, 0, 0, 0], g_X11_outOf),
  (6, .ifCond .ne 14, 3, .null, [20], z_g0),
  (9, .iload_n 2, 1, .null, [], z_g0),
  (10, .iconst 0, 1, .int ((0 : Int32)), [], z_g0),
  (11, .sipush 1000, 3, .int ((1000 : Int32)), [], z_g0),
  (14, .invokestatic 81, 3, .null, [0, 0, 0, 0], g_X11_outOf),
  (17, .ifCond .eq 6, 3, .null, [23], z_g0),
  (20, .ldc 85, 2, .int (-2000000002 : Int32), [], z_g0),
  (22, .ireturn, 1, .null, [], z_g0),
  (23, .aload_n 0, 1, .null, [], z_g0),
  (24, .getfield 189, 3, .null, [12, 5, 0], z_g0),
  (27, .bipush 40, 2, .int ((40 : Int32)), [], z_g0),
  (29, .if_icmp .lt 6, 3, .null, [35], z_g0),
  (32, .ldc 90, 2, .int (-2000000004 : Int32), [], z_g0),
  (34, .ireturn, 1, .null, [], z_g0),
  (35, .aload_n 0, 1, .null, [], z_g0),
  (36, .getfield 23, 3, .null, [12, 4, 3], z_g0),
  (39, .aload_n 0, 1, .null, [], z_g0),
  (40, .getfield 189, 3, .null, [12, 5, 0], z_g0),
  (43, .new 21, 3, .null, [10, 2], z_g0),
  (46, .dup, 1, .null, [], z_g0),
  (47, .iload_n 1, 1, .null, [], z_g0),
  (48, .iload_n 2, 1, .null, [], z_g0),
  (49, .invokespecial 192, 3, .null, [1, 10, 0, 0], g_X9_init),
  (52, .aastore, 1, .null, [112, 10], z_g0),
  (53, .aload_n 0, 1, .null, [], z_g0),
  (54, .dup, 1, .null, [], z_g0),
  (55, .getfield 189, 3, .null, [12, 5, 0], z_g0),
  (58, .iconst 1, 1, .int ((1 : Int32)), [], z_g0),
  (59, .iadd, 1, .null, [], z_g0),
  (60, .putfield 189, 3, .null, [12, 5, 0], z_g0),
  (63, .aload_n 0, 1, .null, [], z_g0),
  (64, .getfield 189, 3, .null, [12, 5, 0], z_g0),
  (67, .iconst 1, 1, .int ((1 : Int32)), [], z_g0),
  (68, .isub, 1, .null, [], z_g0),
  (69, .ireturn, 1, .null, [], z_g0)]
set_option maxRecDepth 100000 in
theorem r_X11_thing (v0 : Nat) (v1 : Int32) (v2 : Int32) (S : z_St) : z_seg z_rI (c_X11_thing) [] (fun pc => fun _ _ _ => none) 42 (c_X11_thing) [(0, .ref v0), (1, .int v1), (2, .int v2)] [] S = b_X11_thing v0 v1 v2 S := rfl
def b_X11_told (v0 : Nat) (v1 : Int32) (v2 : Int32) (S : z_St) : Option (Int32 × z_St) :=
if v1 = ((-1 : Int32)) then
(z_chk S v0 12 (
(f_X11_fails v0 ((1 : Int32)) S).bind fun q9 =>
some (q9.1, q9.2)))
else
(z_chk S v0 12 (
z_onV (va_rf (z_r S v0 4)) fun b1 =>
z_inb S b1 112 v1 (
z_onV (va_rf (z_r S b1 v1.toNatClampNeg)) fun b2 =>
z_chk S b2 10 (
(f_X9_canTell b2 v2 S).bind fun q3 =>
if q3.1 = 0 then
(z_chk q3.2 v0 12 (
(f_X11_fails v0 ((4 : Int32)) q3.2).bind fun q8 =>
some (q8.1, q8.2)))
else
(z_chk q3.2 v0 12 (
z_onV (va_rf (z_r q3.2 v0 4)) fun b4 =>
z_inb q3.2 b4 112 v1 (
z_onV (va_rf (z_r q3.2 b4 v1.toNatClampNeg)) fun b5 =>
z_chk q3.2 b5 10 (
(f_X9_tell b5 v2 q3.2).bind fun q6 =>
z_chk q6.2 v0 12 (
(f_X11_passes v0 q6.1 q6.2).bind fun q7 =>
some (q7.1, q7.2))))))))))
def f_X11_told : Nat → Int32 → Int32 → z_St → Option (Int32 × z_St) := z_op (b_X11_told)
theorem e_X11_told (v0 : Nat) (v1 : Int32) (v2 : Int32) (S : z_St) : f_X11_told v0 v1 v2 S = b_X11_told v0 v1 v2 S := congrFun (congrFun (congrFun (congrFun (z_op_eq (b_X11_told)) v0) v1) v2) S
def g_X11_told : z_G := .inl (fun as S => match as with
  | [.ref v0, .int v1, .int v2] => f_X11_told v0 v1 v2 S
  | _ => none)
def c_X11_told : List z_E := [
  (0, .iload_n 1, 1, .null, [], z_g0),
  (1, .iconst (-1), 1, .int ((-1 : Int32)), [], z_g0),
  (2, .if_icmp .ne 9, 3, .null, [11], z_g0),
  (5, .aload_n 0, 1, .null, [], z_g0),
  (6, .iconst 1, 1, .int ((1 : Int32)), [], z_g0),
  (7, .invokevirtual 91, 3, .null, [1, 12, 0], g_X11_fails),
  (10, .ireturn, 1, .null, [], z_g0),
  (11, .aload_n 0, 1, .null, [], z_g0),
  (12, .getfield 23, 3, .null, [12, 4, 3], z_g0),
  (15, .iload_n 1, 1, .null, [], z_g0),
  (16, .aaload, 1, .null, [112], z_g0),
  (17, .iload_n 2, 1, .null, [], z_g0),
  (18, .invokevirtual 517, 3, .null, [1, 10, 0], g_X9_canTell),
  (21, .ifCond .ne 9, 3, .null, [30], z_g0),
  (24, .aload_n 0, 1, .null, [], z_g0),
  (25, .iconst 4, 1, .int ((4 : Int32)), [], z_g0),
  (26, .invokevirtual 91, 3, .null, [1, 12, 0], g_X11_fails),
  (29, .ireturn, 1, .null, [], z_g0),
  (30, .aload_n 0, 1, .null, [], z_g0),
  (31, .aload_n 0, 1, .null, [], z_g0),
  (32, .getfield 23, 3, .null, [12, 4, 3], z_g0),
  (35, .iload_n 1, 1, .null, [], z_g0),
  (36, .aaload, 1, .null, [112], z_g0),
  (37, .iload_n 2, 1, .null, [], z_g0),
  (38, .invokevirtual 520, 3, .null, [1, 10, 0], g_X9_tell),
  (41, .invokevirtual 102, 3, .null, [1, 12, 0], g_X11_passes),
  (44, .ireturn, 1, .null, [], z_g0)]
set_option maxRecDepth 100000 in
theorem r_X11_told (v0 : Nat) (v1 : Int32) (v2 : Int32) (S : z_St) : z_seg z_rI (c_X11_told) [] (fun pc => fun _ _ _ => none) 30 (c_X11_told) [(0, .ref v0), (1, .int v1), (2, .int v2)] [] S = b_X11_told v0 v1 v2 S := rfl
def b_X11_says (v0 : Nat) (v1 : Int32) (v2 : Int32) (S : z_St) : Option (Int32 × z_St) :=
z_chk S v0 12 (
(f_X11_nameless v1 ((z_i S v0 5)) S).bind fun q1 =>
if q1.1 = 0 then
((f_X11_outOf v2 ((0 : Int32)) ((5 : Int32)) q1.2).bind fun q2 =>
if q2.1 = 0 then
(z_chk q2.2 v0 12 (
(f_X11_told v0 v1 v2 q2.2).bind fun q3 =>
some (q3.1, q3.2)))
else
(some ((-2000000002 : Int32), q2.2)))
else
(some ((-2000000001 : Int32), q1.2)))
def f_X11_says : Nat → Int32 → Int32 → z_St → Option (Int32 × z_St) := z_op (b_X11_says)
theorem e_X11_says (v0 : Nat) (v1 : Int32) (v2 : Int32) (S : z_St) : f_X11_says v0 v1 v2 S = b_X11_says v0 v1 v2 S := congrFun (congrFun (congrFun (congrFun (z_op_eq (b_X11_says)) v0) v1) v2) S
def g_X11_says : z_G := .inl (fun as S => match as with
  | [.ref v0, .int v1, .int v2] => f_X11_says v0 v1 v2 S
  | _ => none)
def c_X11_says : List z_E := [
  (0, .iload_n 1, 1, .null, [], z_g0),
  (1, .aload_n 0, 1, .null, [], z_g0),
  (2, .getfield 189, 3, .null, [12, 5, 0], z_g0),
  (5, .invokestatic 105, 3, .null, [0, 0, 0], g_X11_nameless),
  (8, .ifCond .eq 6, 3, .null, [14], z_g0),
  (11, .ldc 109, 2, .int (-2000000001 : Int32), [], z_g0),
  (13, .ireturn, 1, .null, [], z_g0),
  (14, .iload_n 2, 1, .null, [], z_g0),
  (15, .iconst 0, 1, .int ((0 : Int32)), [], z_g0),
  (16, .iconst 5, 1, .int ((5 : Int32)), [], z_g0),
  (17, .invokestatic 81, 3, .null, [0, 0, 0, 0], g_X11_outOf),
  (20, .ifCond .eq 6, 3, .null, [26], z_g0),
  (23, .ldc 85, 2, .int (-2000000002 : Int32), [], z_g0),
  (25, .ireturn, 1, .null, [], z_g0),
  (26, .aload_n 0, 1, .null, [], z_g0),
  (27, .iload_n 1, 1, .null, [], z_g0),
  (28, .iload_n 2, 1, .null, [], z_g0),
  (29, .invokevirtual 193, 3, .null, [1, 12, 0, 0], g_X11_told),
  (32, .ireturn, 1, .null, [], z_g0)]
set_option maxRecDepth 100000 in
theorem r_X11_says (v0 : Nat) (v1 : Int32) (v2 : Int32) (S : z_St) : z_seg z_rI (c_X11_says) [] (fun pc => fun _ _ _ => none) 22 (c_X11_says) [(0, .ref v0), (1, .int v1), (2, .int v2)] [] S = b_X11_says v0 v1 v2 S := rfl
def b_X11_rack (v0 : Nat) (v1 : Int32) (v2 : Int32) (S : z_St) : Option (Int32 × z_St) :=
(f_X11_outOf v1 ((0 : Int32)) ((9 : Int32)) S).bind fun q1 =>
if q1.1 = 0 then
(if v2 ≤ ((16 : Int32)) then
(z_chk q1.2 v0 12 (
if ((z_i q1.2 v0 7)) < ((20 : Int32)) then
(if 0 ≤ v2 then
(z_chk q1.2 v0 12 (
z_chk q1.2 v0 12 (
let a2 := z_x q1.2
let S3 := z_new q1.2 8 2
z_chk S3 a2 8 (
(f_X7_init a2 v1 v2 S3).bind fun q4 =>
z_onV (va_rf (z_r q1.2 v0 6)) fun b5 =>
z_inb q4 b5 113 ((z_i q1.2 v0 7)) (
z_chk q4 a2 8 (
let S6 := z_wr q4 b5 ((z_i q1.2 v0 7)).toNatClampNeg (some a2)
z_chk S6 v0 12 (
z_chk S6 v0 12 (
let S7 := z_wi S6 v0 7 (((z_i S6 v0 7)) + ((1 : Int32)))
z_chk S7 v0 12 (
z_chk S7 v0 12 (
(f_X11_passes v0 (((z_i S7 v0 7)) - ((1 : Int32))) S7).bind fun q8 =>
some (q8.1, q8.2)))))))))))
else
(z_chk q1.2 v0 12 (
(f_X11_fails v0 ((3 : Int32)) q1.2).bind fun q9 =>
some (q9.1, q9.2))))
else
(some ((-2000000004 : Int32), q1.2))))
else
(some ((-2000000002 : Int32), q1.2)))
else
(some ((-2000000002 : Int32), q1.2))
def f_X11_rack : Nat → Int32 → Int32 → z_St → Option (Int32 × z_St) := z_op (b_X11_rack)
theorem e_X11_rack (v0 : Nat) (v1 : Int32) (v2 : Int32) (S : z_St) : f_X11_rack v0 v1 v2 S = b_X11_rack v0 v1 v2 S := congrFun (congrFun (congrFun (congrFun (z_op_eq (b_X11_rack)) v0) v1) v2) S
def g_X11_rack : z_G := .inl (fun as S => match as with
  | [.ref v0, .int v1, .int v2] => f_X11_rack v0 v1 v2 S
  | _ => none)
def c_X11_rack : List z_E := [
  (0, .iload_n 1, 1, .null, [], z_g0),
  (1, .iconst 0, 1, .int ((0 : Int32)), [], z_g0),
  (2, .bipush 9, 2, .int ((9 : Int32)), [], z_g0),
  (4, .invokestatic 81, 3, .null, [0, 0, 0, 0], g_X11_outOf),
  (7, .ifCond .ne 9, 3, .null, [16], z_g0),
  (10, .iload_n 2, 1, .null, [], z_g0),
  (11, .bipush 16, 2, .int ((16 : Int32)), [], z_g0),
  (13, .if_icmp .le 6, 3, .null, [19], z_g0),
  (16, .ldc 85, 2, .int (-2000000002 : Int32), [], z_g0),
  (18, .ireturn, 1, .null, [], z_g0),
  (19, .aload_n 0, 1, .null, [], z_g0),
  (20, .getfield 196, 3, .null, [12, 7, 0], z_g0),
  (23, .bipush 20, 2, .int ((20 : Int32)), [], z_g0),
  (25, .if_icmp .lt 6, 3, .null, [31], z_g0),
  (28, .ldc 90, 2, .int (-2000000004 : Int32), [], z_g0),
  (30, .ireturn, 1, .null, [], z_g0),
  (31, .iload_n 2, 1, .null, [], z_g0),
  (32, .ifCond .ge 9, 3, .null, [41], z_g0),
  (35, .aload_n 0, 1, .null, [], z_g0),
  (36, .iconst 3, 1, .int ((3 : Int32)), [], z_g0),
  (37, .invokevirtual 91, 3, .null, [1, 12, 0], g_X11_fails),
  (40, .ireturn, 1, .null, [], z_g0),
  (41, .aload_n 0, 1, .null, [], z_g0),
  (42, .getfield 29, 3, .null, [12, 6, 3], z_g0),
  (45, .aload_n 0, 1, .null, [], z_g0),
  (46, .getfield 196, 3, .null, [12, 7, 0], z_g0),
  (49, .new 27, 3, .null, [8, 2], z_g0),
  (52, .dup, 1, .null, [], z_g0),
  (53, .iload_n 1, 1, .null, [], z_g0),
  (54, .iload_n 2, 1, .null, [], z_g0),
  (55, .invokespecial 199, 3, .null, [1, 8, 0, 0], g_X7_init),
  (58, .aastore, 1, .null, [113, 8], z_g0),
  (59, .aload_n 0, 1, .null, [], z_g0),
  (60, .dup, 1, .null, [], z_g0),
  (61, .getfield 196, 3, .null, [12, 7, 0], z_g0),
  (64, .iconst 1, 1, .int ((1 : Int32)), [], z_g0),
  (65, .iadd, 1, .null, [], z_g0),
  (66, .putfield 196, 3, .null, [12, 7, 0], z_g0),
  (69, .aload_n 0, 1, .null, [], z_g0),
  (70, .aload_n 0, 1, .null, [], z_g0),
  (71, .getfield 196, 3, .null, [12, 7, 0], z_g0),
  (74, .iconst 1, 1, .int ((1 : Int32)), [], z_g0),
  (75, .isub, 1, .null, [], z_g0),
  (76, .invokevirtual 102, 3, .null, [1, 12, 0], g_X11_passes),
  (79, .ireturn, 1, .null, [], z_g0)]
set_option maxRecDepth 100000 in
theorem r_X11_rack (v0 : Nat) (v1 : Int32) (v2 : Int32) (S : z_St) : z_seg z_rI (c_X11_rack) [] (fun pc => fun _ _ _ => none) 48 (c_X11_rack) [(0, .ref v0), (1, .int v1), (2, .int v2)] [] S = b_X11_rack v0 v1 v2 S := rfl
end
