noncomputable section
def l_X2_firstOf_2 : Nat → Nat → Int32 → Int32 → z_St → Option (Int32 × z_St)
  | 0 => fun _ _ _ _ => none
  | n + 1 => fun (v0 : Nat) (v1 : Int32) (v2 : Int32) (S : z_St) =>
if ((31 : Int32)) ≤ v2 then
(some (v2, S))
else
(z_chk S v0 3 (
z_onV (va_rf (z_r S v0 1)) fun b1 =>
z_inb S b1 101 v2 (
if ((z_i S b1 v2.toNatClampNeg)) = v1 then
(some (v2, S))
else
(let x2 := v2 + (1 : Int32)
l_X2_firstOf_2 n v0 v1 x2 S))))
def b_X2_firstOf (v0 : Nat) (v1 : Int32) (S : z_St) : Option (Int32 × z_St) :=
l_X2_firstOf_2 z_N v0 v1 ((0 : Int32)) S
def f_X2_firstOf : Nat → Int32 → z_St → Option (Int32 × z_St) := z_op (b_X2_firstOf)
theorem e_X2_firstOf (v0 : Nat) (v1 : Int32) (S : z_St) : f_X2_firstOf v0 v1 S = b_X2_firstOf v0 v1 S := congrFun (congrFun (congrFun (z_op_eq (b_X2_firstOf)) v0) v1) S
def g_X2_firstOf : z_G := .inl (fun as S => match as with
  | [.ref v0, .int v1] => f_X2_firstOf v0 v1 S
  | _ => none)
def c_X2_firstOf : List z_E := [
  (0, .iconst 0, 1, .int ((0 : Int32)), [], z_g0),
  (1, .istore_n 2, 1, .null, [], z_g0),
  (2, .iload_n 2, 1, .null, [], z_g0),
  (3, .bipush 31, 2, .int ((31 : Int32)), [], z_g0),
  (5, .if_icmp .ge 19, 3, .null, [24], z_g0),
  (8, .aload_n 0, 1, .null, [], z_g0),
  (9, .getfield 15, 3, .null, [3, 1, 3], z_g0),
  (12, .iload_n 2, 1, .null, [], z_g0),
  (13, .iaload, 1, .null, [101], z_g0),
  (14, .iload_n 1, 1, .null, [], z_g0),
  (15, .if_icmp .eq 9, 3, .null, [24], z_g0),
  (18, .iinc 2 1, 3, .int (1 : Int32), [], z_g0),
  (21, .goto (-19), 3, .null, [2], z_g0),
  (24, .iload_n 2, 1, .null, [], z_g0),
  (25, .ireturn, 1, .null, [], z_g0)]
def a_X2_firstOf_2 {ρ : Type} (k : Nat → Int32 → Int32 → z_St → Option ρ) (ls : z_Lv) (st : List Value) (S : z_St) : Option ρ := z_gR ls 0 fun v0 => z_gI ls 1 fun v1 => z_gI ls 2 fun v2 => z_p0 st (k v0 v1 v2 S)
set_option maxRecDepth 100000 in
theorem r_X2_firstOf_2 (n : Nat) (v0 : Nat) (v1 : Int32) (v2 : Int32) (S : z_St) : z_seg z_rI (c_X2_firstOf) [2] (fun pc => cond (Nat.beq pc 2) (a_X2_firstOf_2 (l_X2_firstOf_2 n)) (fun _ _ _ => none)) 18 (z_to 2 (c_X2_firstOf)) [(0, .ref v0), (1, .int v1), (2, .int v2)] [] S = l_X2_firstOf_2 (n + 1) v0 v1 v2 S := rfl
set_option maxRecDepth 100000 in
theorem r_X2_firstOf (v0 : Nat) (v1 : Int32) (S : z_St) : z_seg z_rI (c_X2_firstOf) [2] (fun pc => cond (Nat.beq pc 2) (a_X2_firstOf_2 (l_X2_firstOf_2 z_N)) (fun _ _ _ => none)) 18 (c_X2_firstOf) [(0, .ref v0), (1, .int v1)] [] S = b_X2_firstOf v0 v1 S := rfl
def b_X2_fateOf (v0 : Nat) (v1 : Int32) (S : z_St) : Option (Int32 × z_St) :=
z_chk S v0 3 (
z_onV (va_rf (z_r S v0 1)) fun b1 =>
z_inb S b1 101 v1 (
if ((z_i S b1 v1.toNatClampNeg)) = 0 then
(z_chk S v0 3 (
(f_X2_isEmpty v0 v1 S).bind fun q5 =>
if q5.1 = 0 then
(some ((2 : Int32), q5.2))
else
(some ((0 : Int32), q5.2))))
else
(z_chk S v0 3 (
z_onV (va_rf (z_r S v0 1)) fun b2 =>
z_inb S b2 101 v1 (
z_chk S v0 3 (
(f_X2_firstOf v0 ((z_i S b2 v1.toNatClampNeg)) S).bind fun q3 =>
if q3.1 = v1 then
(some ((1 : Int32), q3.2))
else
(z_chk q3.2 v0 3 (
(f_X2_isSame v0 q3.1 v1 q3.2).bind fun q4 =>
if q4.1 = 0 then
(some ((3 : Int32), q4.2))
else
(some ((4 : Int32), q4.2))))))))))
def f_X2_fateOf : Nat → Int32 → z_St → Option (Int32 × z_St) := z_op (b_X2_fateOf)
theorem e_X2_fateOf (v0 : Nat) (v1 : Int32) (S : z_St) : f_X2_fateOf v0 v1 S = b_X2_fateOf v0 v1 S := congrFun (congrFun (congrFun (z_op_eq (b_X2_fateOf)) v0) v1) S
def g_X2_fateOf : z_G := .inl (fun as S => match as with
  | [.ref v0, .int v1] => f_X2_fateOf v0 v1 S
  | _ => none)
def c_X2_fateOf : List z_E := [
  (0, .aload_n 0, 1, .null, [], z_g0),
  (1, .getfield 15, 3, .null, [3, 1, 3], z_g0),
  (4, .iload_n 1, 1, .null, [], z_g0),
  (5, .iaload, 1, .null, [101], z_g0),
  (6, .ifCond .ne 17, 3, .null, [23], z_g0),
  (9, .aload_n 0, 1, .null, [], z_g0),
  (10, .iload_n 1, 1, .null, [], z_g0),
  (11, .invokevirtual 63, 3, .null, [1, 3, 0], g_X2_isEmpty),
  (14, .ifCond .eq 7, 3, .null, [21], z_g0),
  (17, .iconst 0, 1, .int ((0 : Int32)), [], z_g0),
  (18, .goto 4, 3, .null, [22], z_g0),
  (21, .iconst 2, 1, .int ((2 : Int32)), [], z_g0),
  (22, .ireturn, 1, .null, [], z_g0),
  (23, .aload_n 0, 1, .null, [], z_g0),
  (24, .aload_n 0, 1, .null, [], z_g0),
  (25, .getfield 15, 3, .null, [3, 1, 3], z_g0),
  (28, .iload_n 1, 1, .null, [], z_g0),
  (29, .iaload, 1, .null, [101], z_g0),
  (30, .invokevirtual 67, 3, .null, [1, 3, 0], g_X2_firstOf),
  (33, .istore_n 2, 1, .null, [], z_g0),
  (34, .iload_n 2, 1, .null, [], z_g0),
  (35, .iload_n 1, 1, .null, [], z_g0),
  (36, .if_icmp .ne 5, 3, .null, [41], z_g0),
  (39, .iconst 1, 1, .int ((1 : Int32)), [], z_g0),
  (40, .ireturn, 1, .null, [], z_g0),
  (41, .aload_n 0, 1, .null, [], z_g0),
  (42, .iload_n 2, 1, .null, [], z_g0),
  (43, .iload_n 1, 1, .null, [], z_g0),
  (44, .invokevirtual 70, 3, .null, [1, 3, 0, 0], g_X2_isSame),
  (47, .ifCond .eq 7, 3, .null, [54], z_g0),
  (50, .iconst 4, 1, .int ((4 : Int32)), [], z_g0),
  (51, .goto 4, 3, .null, [55], z_g0),
  (54, .iconst 3, 1, .int ((3 : Int32)), [], z_g0),
  (55, .ireturn, 1, .null, [], z_g0)]
set_option maxRecDepth 100000 in
theorem r_X2_fateOf (v0 : Nat) (v1 : Int32) (S : z_St) : z_seg z_rI (c_X2_fateOf) [] (fun pc => fun _ _ _ => none) 37 (c_X2_fateOf) [(0, .ref v0), (1, .int v1)] [] S = b_X2_fateOf v0 v1 S := rfl
def l_X2_pagesOf_4 : Nat → Nat → Int32 → Int32 → Int32 → z_St → Option (Int32 × z_St)
  | 0 => fun _ _ _ _ _ => none
  | n + 1 => fun (v0 : Nat) (v1 : Int32) (v2 : Int32) (v3 : Int32) (S : z_St) =>
if ((32 : Int32)) ≤ v3 then
(some (v2, S))
else
(z_chk S v0 3 (
(f_X2_fateOf v0 v3 S).bind fun q1 =>
if q1.1 = v1 then
(let x3 := v2 + (1 : Int32)
let x4 := v3 + (1 : Int32)
l_X2_pagesOf_4 n v0 v1 x3 x4 q1.2)
else
(let x2 := v3 + (1 : Int32)
l_X2_pagesOf_4 n v0 v1 v2 x2 q1.2)))
def b_X2_pagesOf (v0 : Nat) (v1 : Int32) (S : z_St) : Option (Int32 × z_St) :=
l_X2_pagesOf_4 z_N v0 v1 ((0 : Int32)) ((0 : Int32)) S
def f_X2_pagesOf : Nat → Int32 → z_St → Option (Int32 × z_St) := z_op (b_X2_pagesOf)
theorem e_X2_pagesOf (v0 : Nat) (v1 : Int32) (S : z_St) : f_X2_pagesOf v0 v1 S = b_X2_pagesOf v0 v1 S := congrFun (congrFun (congrFun (z_op_eq (b_X2_pagesOf)) v0) v1) S
def g_X2_pagesOf : z_G := .inl (fun as S => match as with
  | [.ref v0, .int v1] => f_X2_pagesOf v0 v1 S
  | _ => none)
def c_X2_pagesOf : List z_E := [
  (0, .iconst 0, 1, .int ((0 : Int32)), [], z_g0),
  (1, .istore_n 2, 1, .null, [], z_g0),
  (2, .iconst 0, 1, .int ((0 : Int32)), [], z_g0),
  (3, .istore_n 3, 1, .null, [], z_g0),
  (4, .iload_n 3, 1, .null, [], z_g0),
  (5, .bipush 32, 2, .int ((32 : Int32)), [], z_g0),
  (7, .if_icmp .ge 21, 3, .null, [28], z_g0),
  (10, .aload_n 0, 1, .null, [], z_g0),
  (11, .iload_n 3, 1, .null, [], z_g0),
  (12, .invokevirtual 74, 3, .null, [1, 3, 0], g_X2_fateOf),
  (15, .iload_n 1, 1, .null, [], z_g0),
  (16, .if_icmp .ne 6, 3, .null, [22], z_g0),
  (19, .iinc 2 1, 3, .int (1 : Int32), [], z_g0),
  (22, .iinc 3 1, 3, .int (1 : Int32), [], z_g0),
  (25, .goto (-21), 3, .null, [4], z_g0),
  (28, .iload_n 2, 1, .null, [], z_g0),
  (29, .ireturn, 1, .null, [], z_g0)]
def a_X2_pagesOf_4 {ρ : Type} (k : Nat → Int32 → Int32 → Int32 → z_St → Option ρ) (ls : z_Lv) (st : List Value) (S : z_St) : Option ρ := z_gR ls 0 fun v0 => z_gI ls 1 fun v1 => z_gI ls 2 fun v2 => z_gI ls 3 fun v3 => z_p0 st (k v0 v1 v2 v3 S)
set_option maxRecDepth 100000 in
theorem r_X2_pagesOf_4 (n : Nat) (v0 : Nat) (v1 : Int32) (v2 : Int32) (v3 : Int32) (S : z_St) : z_seg z_rI (c_X2_pagesOf) [4] (fun pc => cond (Nat.beq pc 4) (a_X2_pagesOf_4 (l_X2_pagesOf_4 n)) (fun _ _ _ => none)) 20 (z_to 4 (c_X2_pagesOf)) [(0, .ref v0), (1, .int v1), (2, .int v2), (3, .int v3)] [] S = l_X2_pagesOf_4 (n + 1) v0 v1 v2 v3 S := rfl
set_option maxRecDepth 100000 in
theorem r_X2_pagesOf (v0 : Nat) (v1 : Int32) (S : z_St) : z_seg z_rI (c_X2_pagesOf) [4] (fun pc => cond (Nat.beq pc 4) (a_X2_pagesOf_4 (l_X2_pagesOf_4 z_N)) (fun _ _ _ => none)) 20 (c_X2_pagesOf) [(0, .ref v0), (1, .int v1)] [] S = b_X2_pagesOf v0 v1 S := rfl
def l_X2_pageOf_5 : Nat → Nat → Int32 → Int32 → Int32 → Int32 → z_St → Option (Int32 × z_St)
  | 0 => fun _ _ _ _ _ _ => none
  | n + 1 => fun (v0 : Nat) (v1 : Int32) (v2 : Int32) (v3 : Int32) (v4 : Int32) (S : z_St) =>
if ((32 : Int32)) ≤ v4 then
(some ((-1 : Int32), S))
else
(z_chk S v0 3 (
(f_X2_fateOf v0 v4 S).bind fun q1 =>
if q1.1 = v1 then
(if v3 = v2 then
(some (v4, q1.2))
else
(let x2 := v3 + (1 : Int32)
let x3 := v4 + (1 : Int32)
l_X2_pageOf_5 n v0 v1 v2 x2 x3 q1.2))
else
(let x4 := v4 + (1 : Int32)
l_X2_pageOf_5 n v0 v1 v2 v3 x4 q1.2)))
def b_X2_pageOf (v0 : Nat) (v1 : Int32) (v2 : Int32) (S : z_St) : Option (Int32 × z_St) :=
l_X2_pageOf_5 z_N v0 v1 v2 ((0 : Int32)) ((0 : Int32)) S
def f_X2_pageOf : Nat → Int32 → Int32 → z_St → Option (Int32 × z_St) := z_op (b_X2_pageOf)
theorem e_X2_pageOf (v0 : Nat) (v1 : Int32) (v2 : Int32) (S : z_St) : f_X2_pageOf v0 v1 v2 S = b_X2_pageOf v0 v1 v2 S := congrFun (congrFun (congrFun (congrFun (z_op_eq (b_X2_pageOf)) v0) v1) v2) S
def g_X2_pageOf : z_G := .inl (fun as S => match as with
  | [.ref v0, .int v1, .int v2] => f_X2_pageOf v0 v1 v2 S
  | _ => none)
def c_X2_pageOf : List z_E := [
  (0, .iconst 0, 1, .int ((0 : Int32)), [], z_g0),
  (1, .istore_n 3, 1, .null, [], z_g0),
  (2, .iconst 0, 1, .int ((0 : Int32)), [], z_g0),
  (3, .istore 4, 2, .null, [], z_g0),
  (5, .iload 4, 2, .null, [], z_g0),
  (7, .bipush 32, 2, .int ((32 : Int32)), [], z_g0),
  (9, .if_icmp .ge 33, 3, .null, [42], z_g0),
  (12, .aload_n 0, 1, .null, [], z_g0),
  (13, .iload 4, 2, .null, [], z_g0),
  (15, .invokevirtual 74, 3, .null, [1, 3, 0], g_X2_fateOf),
  (18, .iload_n 1, 1, .null, [], z_g0),
  (19, .if_icmp .eq 6, 3, .null, [25], z_g0),
  (22, .goto 14, 3, .null, [36], z_g0),
  (25, .iload_n 3, 1, .null, [], z_g0),
  (26, .iload_n 2, 1, .null, [], z_g0),
  (27, .if_icmp .ne 6, 3, .null, [33], z_g0),
  (30, .iload 4, 2, .null, [], z_g0),
  (32, .ireturn, 1, .null, [], z_g0),
  (33, .iinc 3 1, 3, .int (1 : Int32), [], z_g0),
  (36, .iinc 4 1, 3, .int (1 : Int32), [], z_g0),
  (39, .goto (-34), 3, .null, [5], z_g0),
  (42, .iconst (-1), 1, .int ((-1 : Int32)), [], z_g0),
  (43, .ireturn, 1, .null, [], z_g0)]
def a_X2_pageOf_5 {ρ : Type} (k : Nat → Int32 → Int32 → Int32 → Int32 → z_St → Option ρ) (ls : z_Lv) (st : List Value) (S : z_St) : Option ρ := z_gR ls 0 fun v0 => z_gI ls 1 fun v1 => z_gI ls 2 fun v2 => z_gI ls 3 fun v3 => z_gI ls 4 fun v4 => z_p0 st (k v0 v1 v2 v3 v4 S)
set_option maxRecDepth 100000 in
theorem r_X2_pageOf_5 (n : Nat) (v0 : Nat) (v1 : Int32) (v2 : Int32) (v3 : Int32) (v4 : Int32) (S : z_St) : z_seg z_rI (c_X2_pageOf) [5] (fun pc => cond (Nat.beq pc 5) (a_X2_pageOf_5 (l_X2_pageOf_5 n)) (fun _ _ _ => none)) 26 (z_to 5 (c_X2_pageOf)) [(0, .ref v0), (1, .int v1), (2, .int v2), (3, .int v3), (4, .int v4)] [] S = l_X2_pageOf_5 (n + 1) v0 v1 v2 v3 v4 S := rfl
set_option maxRecDepth 100000 in
theorem r_X2_pageOf (v0 : Nat) (v1 : Int32) (v2 : Int32) (S : z_St) : z_seg z_rI (c_X2_pageOf) [5] (fun pc => cond (Nat.beq pc 5) (a_X2_pageOf_5 (l_X2_pageOf_5 z_N)) (fun _ _ _ => none)) 26 (c_X2_pageOf) [(0, .ref v0), (1, .int v1), (2, .int v2)] [] S = b_X2_pageOf v0 v1 v2 S := rfl
def l_X2_leastAbove_4 : Nat → Nat → Int32 → Int32 → Int32 → z_St → Option (Int32 × z_St)
  | 0 => fun _ _ _ _ _ => none
  | n + 1 => fun (v0 : Nat) (v1 : Int32) (v2 : Int32) (v3 : Int32) (S : z_St) =>
if ((32 : Int32)) ≤ v3 then
(some (v2, S))
else
(z_chk S v0 3 (
z_onV (va_rf (z_r S v0 1)) fun b1 =>
z_inb S b1 101 v3 (
if ((z_i S b1 v3.toNatClampNeg)) ≤ v1 then
(let x2 := v3 + (1 : Int32)
l_X2_leastAbove_4 n v0 v1 v2 x2 S)
else
(if v2 = 0 then
(z_chk S v0 3 (
z_onV (va_rf (z_r S v0 1)) fun b3 =>
z_inb S b3 101 v3 (
let x4 := (z_i S b3 v3.toNatClampNeg)
let x5 := v3 + (1 : Int32)
l_X2_leastAbove_4 n v0 v1 x4 x5 S)))
else
(z_chk S v0 3 (
z_onV (va_rf (z_r S v0 1)) fun b6 =>
z_inb S b6 101 v3 (
if v2 ≤ ((z_i S b6 v3.toNatClampNeg)) then
(let x7 := v3 + (1 : Int32)
l_X2_leastAbove_4 n v0 v1 v2 x7 S)
else
(z_chk S v0 3 (
z_onV (va_rf (z_r S v0 1)) fun b8 =>
z_inb S b8 101 v3 (
let x9 := (z_i S b8 v3.toNatClampNeg)
let x10 := v3 + (1 : Int32)
l_X2_leastAbove_4 n v0 v1 x9 x10 S))))))))))
def b_X2_leastAbove (v0 : Nat) (v1 : Int32) (S : z_St) : Option (Int32 × z_St) :=
l_X2_leastAbove_4 z_N v0 v1 ((0 : Int32)) ((0 : Int32)) S
def f_X2_leastAbove : Nat → Int32 → z_St → Option (Int32 × z_St) := z_op (b_X2_leastAbove)
theorem e_X2_leastAbove (v0 : Nat) (v1 : Int32) (S : z_St) : f_X2_leastAbove v0 v1 S = b_X2_leastAbove v0 v1 S := congrFun (congrFun (congrFun (z_op_eq (b_X2_leastAbove)) v0) v1) S
def g_X2_leastAbove : z_G := .inl (fun as S => match as with
  | [.ref v0, .int v1] => f_X2_leastAbove v0 v1 S
  | _ => none)
def c_X2_leastAbove : List z_E := [
  (0, .iconst 0, 1, .int ((0 : Int32)), [], z_g0),
  (1, .istore_n 2, 1, .null, [], z_g0),
  (2, .iconst 0, 1, .int ((0 : Int32)), [], z_g0),
  (3, .istore_n 3, 1, .null, [], z_g0),
  (4, .iload_n 3, 1, .null, [], z_g0),
  (5, .bipush 32, 2, .int ((32 : Int32)), [], z_g0),
  (7, .if_icmp .ge 40, 3, .null, [47], z_g0),
  (10, .aload_n 0, 1, .null, [], z_g0),
  (11, .getfield 15, 3, .null, [3, 1, 3], z_g0),
  (14, .iload_n 3, 1, .null, [], z_g0),
  (15, .iaload, 1, .null, [101], z_g0),
  (16, .iload_n 1, 1, .null, [], z_g0),
  (17, .if_icmp .le 24, 3, .null, [41], z_g0),
  (20, .iload_n 2, 1, .null, [], z_g0),
  (21, .ifCond .eq 13, 3, .null, [34], z_g0),
  (24, .aload_n 0, 1, .null, [], z_g0),
  (25, .getfield 15, 3, .null, [3, 1, 3], z_g0),
  (28, .iload_n 3, 1, .null, [], z_g0),
  (29, .iaload, 1, .null, [101], z_g0),
  (30, .iload_n 2, 1, .null, [], z_g0),
  (31, .if_icmp .ge 10, 3, .null, [41], z_g0),
  (34, .aload_n 0, 1, .null, [], z_g0),
  (35, .getfield 15, 3, .null, [3, 1, 3], z_g0),
  (38, .iload_n 3, 1, .null, [], z_g0),
  (39, .iaload, 1, .null, [101], z_g0),
  (40, .istore_n 2, 1, .null, [], z_g0),
  (41, .iinc 3 1, 3, .int (1 : Int32), [], z_g0),
  (44, .goto (-40), 3, .null, [4], z_g0),
  (47, .iload_n 2, 1, .null, [], z_g0),
  (48, .ireturn, 1, .null, [], z_g0)]
def a_X2_leastAbove_4 {ρ : Type} (k : Nat → Int32 → Int32 → Int32 → z_St → Option ρ) (ls : z_Lv) (st : List Value) (S : z_St) : Option ρ := z_gR ls 0 fun v0 => z_gI ls 1 fun v1 => z_gI ls 2 fun v2 => z_gI ls 3 fun v3 => z_p0 st (k v0 v1 v2 v3 S)
set_option maxRecDepth 100000 in
theorem r_X2_leastAbove_4 (n : Nat) (v0 : Nat) (v1 : Int32) (v2 : Int32) (v3 : Int32) (S : z_St) : z_seg z_rI (c_X2_leastAbove) [4] (fun pc => cond (Nat.beq pc 4) (a_X2_leastAbove_4 (l_X2_leastAbove_4 n)) (fun _ _ _ => none)) 33 (z_to 4 (c_X2_leastAbove)) [(0, .ref v0), (1, .int v1), (2, .int v2), (3, .int v3)] [] S = l_X2_leastAbove_4 (n + 1) v0 v1 v2 v3 S := rfl
set_option maxRecDepth 100000 in
theorem r_X2_leastAbove (v0 : Nat) (v1 : Int32) (S : z_St) : z_seg z_rI (c_X2_leastAbove) [4] (fun pc => cond (Nat.beq pc 4) (a_X2_leastAbove_4 (l_X2_leastAbove_4 z_N)) (fun _ _ _ => none)) 33 (c_X2_leastAbove) [(0, .ref v0), (1, .int v1)] [] S = b_X2_leastAbove v0 v1 S := rfl
def l_X2_pageOfRow_10 : Nat → Nat → Int32 → Int32 → Int32 → z_St → Option (Int32 × z_St)
  | 0 => fun _ _ _ _ _ => none
  | n + 1 => fun (v0 : Nat) (v1 : Int32) (v2 : Int32) (v3 : Int32) (S : z_St) =>
if v1 < v3 then
(z_chk S v0 3 (
(f_X2_firstOf v0 v2 S).bind fun q1 =>
some (q1.1, q1.2)))
else
(if ((32 : Int32)) < v3 then
(z_chk S v0 3 (
(f_X2_firstOf v0 v2 S).bind fun q2 =>
some (q2.1, q2.2)))
else
(z_chk S v0 3 (
(f_X2_leastAbove v0 v2 S).bind fun q3 =>
if q3.1 = 0 then
(some ((-1 : Int32), q3.2))
else
(let x4 := v3 + (1 : Int32)
l_X2_pageOfRow_10 n v0 v1 q3.1 x4 q3.2))))
def b_X2_pageOfRow (v0 : Nat) (v1 : Int32) (S : z_St) : Option (Int32 × z_St) :=
if 0 ≤ v1 then
(l_X2_pageOfRow_10 z_N v0 v1 ((0 : Int32)) ((0 : Int32)) S)
else
(some ((-1 : Int32), S))
def f_X2_pageOfRow : Nat → Int32 → z_St → Option (Int32 × z_St) := z_op (b_X2_pageOfRow)
theorem e_X2_pageOfRow (v0 : Nat) (v1 : Int32) (S : z_St) : f_X2_pageOfRow v0 v1 S = b_X2_pageOfRow v0 v1 S := congrFun (congrFun (congrFun (z_op_eq (b_X2_pageOfRow)) v0) v1) S
def g_X2_pageOfRow : z_G := .inl (fun as S => match as with
  | [.ref v0, .int v1] => f_X2_pageOfRow v0 v1 S
  | _ => none)
def c_X2_pageOfRow : List z_E := [
  (0, .iload_n 1, 1, .null, [], z_g0),
  (1, .ifCond .ge 5, 3, .null, [6], z_g0),
  (4, .iconst (-1), 1, .int ((-1 : Int32)), [], z_g0),
  (5, .ireturn, 1, .null, [], z_g0),
  (6, .iconst 0, 1, .int ((0 : Int32)), [], z_g0),
  (7, .istore_n 2, 1, .null, [], z_g0),
  (8, .iconst 0, 1, .int ((0 : Int32)), [], z_g0),
  (9, .istore_n 3, 1, .null, [], z_g0),
  (10, .iload_n 3, 1, .null, [], z_g0),
  (11, .iload_n 1, 1, .null, [], z_g0),
  (12, .if_icmp .gt 27, 3, .null, [39], z_g0),
  (15, .iload_n 3, 1, .null, [], z_g0),
  (16, .bipush 32, 2, .int ((32 : Int32)), [], z_g0),
  (18, .if_icmp .gt 21, 3, .null, [39], z_g0),
  (21, .aload_n 0, 1, .null, [], z_g0),
  (22, .iload_n 2, 1, .null, [], z_g0),
  (23, .invokevirtual 77, 3, .null, [1, 3, 0], g_X2_leastAbove),
  (26, .istore_n 2, 1, .null, [], z_g0),
  (27, .iload_n 2, 1, .null, [], z_g0),
  (28, .ifCond .ne 5, 3, .null, [33], z_g0),
  (31, .iconst (-1), 1, .int ((-1 : Int32)), [], z_g0),
  (32, .ireturn, 1, .null, [], z_g0),
  (33, .iinc 3 1, 3, .int (1 : Int32), [], z_g0),
  (36, .goto (-26), 3, .null, [10], z_g0),
  (39, .aload_n 0, 1, .null, [], z_g0),
  (40, .iload_n 2, 1, .null, [], z_g0),
  (41, .invokevirtual 67, 3, .null, [1, 3, 0], g_X2_firstOf),
  (44, .ireturn, 1, .null, [], z_g0)]
def a_X2_pageOfRow_10 {ρ : Type} (k : Nat → Int32 → Int32 → Int32 → z_St → Option ρ) (ls : z_Lv) (st : List Value) (S : z_St) : Option ρ := z_gR ls 0 fun v0 => z_gI ls 1 fun v1 => z_gI ls 2 fun v2 => z_gI ls 3 fun v3 => z_p0 st (k v0 v1 v2 v3 S)
set_option maxRecDepth 100000 in
theorem r_X2_pageOfRow_10 (n : Nat) (v0 : Nat) (v1 : Int32) (v2 : Int32) (v3 : Int32) (S : z_St) : z_seg z_rI (c_X2_pageOfRow) [10] (fun pc => cond (Nat.beq pc 10) (a_X2_pageOfRow_10 (l_X2_pageOfRow_10 n)) (fun _ _ _ => none)) 31 (z_to 10 (c_X2_pageOfRow)) [(0, .ref v0), (1, .int v1), (2, .int v2), (3, .int v3)] [] S = l_X2_pageOfRow_10 (n + 1) v0 v1 v2 v3 S := rfl
set_option maxRecDepth 100000 in
theorem r_X2_pageOfRow (v0 : Nat) (v1 : Int32) (S : z_St) : z_seg z_rI (c_X2_pageOfRow) [10] (fun pc => cond (Nat.beq pc 10) (a_X2_pageOfRow_10 (l_X2_pageOfRow_10 z_N)) (fun _ _ _ => none)) 31 (c_X2_pageOfRow) [(0, .ref v0), (1, .int v1)] [] S = b_X2_pageOfRow v0 v1 S := rfl
def b_X3_init (v0 : Nat) (S : z_St) : Option z_St :=
z_len ((8 : Int32)) 30000 (
let a1 := z_x S
let S2 := z_new S 102 ((8 : Int32)).toNatClampNeg
z_chk S2 v0 4 (
let S3 := z_wr S2 v0 0 (some a1)
z_chk S3 v0 4 (
let S4 := z_wi S3 v0 1 ((-1 : Int32))
z_chk S4 v0 4 (
let S5 := z_wi S4 v0 2 ((-1 : Int32))
some S5))))
def f_X3_init : Nat → z_St → Option z_St := z_op (b_X3_init)
theorem e_X3_init (v0 : Nat) (S : z_St) : f_X3_init v0 S = b_X3_init v0 S := congrFun (congrFun (z_op_eq (b_X3_init)) v0) S
def g_X3_init : z_G := .inr (.inr (.inr (fun as S => match as with
  | [.ref v0] => f_X3_init v0 S
  | _ => none)))
def c_X3_init : List z_E := [
  (0, .aload_n 0, 1, .null, [], z_g0),
  (1, .invokespecial 3, 3, .null, [2], z_g0),
  (4, .aload_n 0, 1, .null, [], z_g0),
  (5, .bipush 8, 2, .int ((8 : Int32)), [], z_g0),
  (7, .newarray .long, 2, .null, [102], z_g0),
  (9, .putfield 11, 3, .null, [4, 0, 3], z_g0),
  (12, .aload_n 0, 1, .null, [], z_g0),
  (13, .iconst (-1), 1, .int ((-1 : Int32)), [], z_g0),
  (14, .putfield 15, 3, .null, [4, 1, 0], z_g0),
  (17, .aload_n 0, 1, .null, [], z_g0),
  (18, .iconst (-1), 1, .int ((-1 : Int32)), [], z_g0),
  (19, .putfield 19, 3, .null, [4, 2, 0], z_g0),
  (22, .return_, 1, .null, [], z_g0)]
set_option maxRecDepth 100000 in
theorem r_X3_init (v0 : Nat) (S : z_St) : z_seg z_rV (c_X3_init) [] (fun pc => fun _ _ _ => none) 16 (c_X3_init) [(0, .ref v0)] [] S = b_X3_init v0 S := rfl
def b_X3_wholeAt (v0 : Nat) (v1 : Int32) (S : z_St) : Option (Int64 × z_St) :=
z_inb S (z_s S 1) 121 v1 (
z_chk S v0 4 (
z_onV (va_rf (z_r S v0 0)) fun b1 =>
z_inb S b1 102 v1 (
(f_X8_wholeOfCell ((z_i S (z_s S 1) v1.toNatClampNeg)) ((z_l S b1 v1.toNatClampNeg)) S).bind fun q2 =>
some (q2.1, q2.2))))
def f_X3_wholeAt : Nat → Int32 → z_St → Option (Int64 × z_St) := z_op (b_X3_wholeAt)
theorem e_X3_wholeAt (v0 : Nat) (v1 : Int32) (S : z_St) : f_X3_wholeAt v0 v1 S = b_X3_wholeAt v0 v1 S := congrFun (congrFun (congrFun (z_op_eq (b_X3_wholeAt)) v0) v1) S
def g_X3_wholeAt : z_G := .inr (.inl (fun as S => match as with
  | [.ref v0, .int v1] => f_X3_wholeAt v0 v1 S
  | _ => none))
def c_X3_wholeAt : List z_E := [
  (0, .getstatic 22, 3, .null, [1], z_g0),
  (3, .iload_n 1, 1, .null, [], z_g0),
  (4, .iaload, 1, .null, [121], z_g0),
  (5, .aload_n 0, 1, .null, [], z_g0),
  (6, .getfield 11, 3, .null, [4, 0, 3], z_g0),
  (9, .iload_n 1, 1, .null, [], z_g0),
  (10, .laload, 1, .null, [], z_g0),
  (11, .invokestatic 26, 3, .null, [0, 0, 0], g_X8_wholeOfCell),
  (14, .lreturn, 1, .null, [], z_g0)]
set_option maxRecDepth 100000 in
theorem r_X3_wholeAt (v0 : Nat) (v1 : Int32) (S : z_St) : z_seg z_rL (c_X3_wholeAt) [] (fun pc => fun _ _ _ => none) 12 (c_X3_wholeAt) [(0, .ref v0), (1, .int v1)] [] S = b_X3_wholeAt v0 v1 S := rfl
def b_X4_init (v0 : Nat) (S : z_St) : Option z_St :=
z_len ((12 : Int32)) 30000 (
let a1 := z_x S
let S2 := z_new S 101 ((12 : Int32)).toNatClampNeg
z_chk S2 v0 5 (
let S3 := z_wr S2 v0 0 (some a1)
z_len ((12 : Int32)) 30000 (
let a4 := z_x S3
let S5 := z_new S3 101 ((12 : Int32)).toNatClampNeg
z_chk S5 v0 5 (
let S6 := z_wr S5 v0 1 (some a4)
z_len ((12 : Int32)) 30000 (
let a7 := z_x S6
let S8 := z_new S6 101 ((12 : Int32)).toNatClampNeg
z_chk S8 v0 5 (
let S9 := z_wr S8 v0 2 (some a7)
z_len ((12 : Int32)) 30000 (
let a10 := z_x S9
let S11 := z_new S9 103 ((12 : Int32)).toNatClampNeg
z_chk S11 v0 5 (
let S12 := z_wr S11 v0 3 (some a10)
z_len ((12 : Int32)) 30000 (
let a13 := z_x S12
let S14 := z_new S12 103 ((12 : Int32)).toNatClampNeg
z_chk S14 v0 5 (
let S15 := z_wr S14 v0 4 (some a13)
z_len ((12 : Int32)) 30000 (
let a16 := z_x S15
let S17 := z_new S15 103 ((12 : Int32)).toNatClampNeg
z_chk S17 v0 5 (
let S18 := z_wr S17 v0 5 (some a16)
z_len ((12 : Int32)) 30000 (
let a19 := z_x S18
let S20 := z_new S18 101 ((12 : Int32)).toNatClampNeg
z_chk S20 v0 5 (
let S21 := z_wr S20 v0 7 (some a19)
z_len ((12 : Int32)) 30000 (
let a22 := z_x S21
let S23 := z_new S21 101 ((12 : Int32)).toNatClampNeg
z_chk S23 v0 5 (
let S24 := z_wr S23 v0 8 (some a22)
z_len ((12 : Int32)) 30000 (
let a25 := z_x S24
let S26 := z_new S24 102 ((12 : Int32)).toNatClampNeg
z_chk S26 v0 5 (
let S27 := z_wr S26 v0 9 (some a25)
z_len ((12 : Int32)) 30000 (
let a28 := z_x S27
let S29 := z_new S27 102 ((12 : Int32)).toNatClampNeg
z_chk S29 v0 5 (
let S30 := z_wr S29 v0 10 (some a28)
some S30))))))))))))))))))))
def f_X4_init : Nat → z_St → Option z_St := z_op (b_X4_init)
theorem e_X4_init (v0 : Nat) (S : z_St) : f_X4_init v0 S = b_X4_init v0 S := congrFun (congrFun (z_op_eq (b_X4_init)) v0) S
def g_X4_init : z_G := .inr (.inr (.inr (fun as S => match as with
  | [.ref v0] => f_X4_init v0 S
  | _ => none)))
def c_X4_init : List z_E := [
  (0, .aload_n 0, 1, .null, [], z_g0),
  (1, .invokespecial 3, 3, .null, [2], z_g0),
  (4, .aload_n 0, 1, .null, [], z_g0),
  (5, .bipush 12, 2, .int ((12 : Int32)), [], z_g0),
  (7, .newarray .int, 2, .null, [101], z_g0),
  (9, .putfield 11, 3, .null, [5, 0, 3], z_g0),
  (12, .aload_n 0, 1, .null, [], z_g0),
  (13, .bipush 12, 2, .int ((12 : Int32)), [], z_g0),
  (15, .newarray .int, 2, .null, [101], z_g0),
  (17, .putfield 15, 3, .null, [5, 1, 3], z_g0),
  (20, .aload_n 0, 1, .null, [], z_g0),
  (21, .bipush 12, 2, .int ((12 : Int32)), [], z_g0),
  (23, .newarray .int, 2, .null, [101], z_g0),
  (25, .putfield 18, 3, .null, [5, 2, 3], z_g0),
  (28, .aload_n 0, 1, .null, [], z_g0),
  (29, .bipush 12, 2, .int ((12 : Int32)), [], z_g0),
  (31, .newarray .double, 2, .null, [103], z_g0),
  (33, .putfield 21, 3, .null, [5, 3, 3], z_g0),
  (36, .aload_n 0, 1, .null, [], z_g0),
  (37, .bipush 12, 2, .int ((12 : Int32)), [], z_g0),
  (39, .newarray .double, 2, .null, [103], z_g0),
  (41, .putfield 25, 3, .null, [5, 4, 3], z_g0),
  (44, .aload_n 0, 1, .null, [], z_g0),
  (45, .bipush 12, 2, .int ((12 : Int32)), [], z_g0),
  (47, .newarray .double, 2, .null, [103], z_g0),
  (49, .putfield 28, 3, .null, [5, 5, 3], z_g0),
  (52, .aload_n 0, 1, .null, [], z_g0),
  (53, .bipush 12, 2, .int ((12 : Int32)), [], z_g0),
  (55, .newarray .int, 2, .null, [101], z_g0),
  (57, .putfield 31, 3, .null, [5, 7, 3], z_g0),
  (60, .aload_n 0, 1, .null, [], z_g0),
  (61, .bipush 12, 2, .int ((12 : Int32)), [], z_g0),
  (63, .newarray .int, 2, .null, [101], z_g0),
  (65, .putfield 34, 3, .null, [5, 8, 3], z_g0),
  (68, .aload_n 0, 1, .null, [], z_g0),
  (69, .bipush 12, 2, .int ((12 : Int32)), [], z_g0),
  (71, .newarray .long, 2, .null, [102], z_g0),
  (73, .putfield 37, 3, .null, [5, 9, 3], z_g0),
  (76, .aload_n 0, 1, .null, [], z_g0),
  (77, .bipush 12, 2, .int ((12 : Int32)), [], z_g0),
  (79, .newarray .long, 2, .null, [102], z_g0),
  (81, .putfield 41, 3, .null, [5, 10, 3], z_g0),
  (84, .return_, 1, .null, [], z_g0)]
set_option maxRecDepth 100000 in
theorem r_X4_init (v0 : Nat) (S : z_St) : z_seg z_rV (c_X4_init) [] (fun pc => fun _ _ _ => none) 46 (c_X4_init) [(0, .ref v0)] [] S = b_X4_init v0 S := rfl
def b_X4_keepRule (v0 : Nat) (v1 : Int32) (v2 : Int32) (v3 : Int32) (v4 : UInt64) (v6 : UInt64) (v8 : UInt64) (S : z_St) : Option (Int32 × z_St) :=
z_chk S v0 5 (
z_chk S v0 5 (
z_onV (va_rf (z_r S v0 0)) fun b1 =>
z_inb S b1 101 ((z_i S v0 6)) (
let S2 := z_wi S b1 ((z_i S v0 6)).toNatClampNeg v1
z_chk S2 v0 5 (
z_chk S2 v0 5 (
z_onV (va_rf (z_r S2 v0 1)) fun b3 =>
z_inb S2 b3 101 ((z_i S2 v0 6)) (
let S4 := z_wi S2 b3 ((z_i S2 v0 6)).toNatClampNeg v2
z_chk S4 v0 5 (
z_chk S4 v0 5 (
z_onV (va_rf (z_r S4 v0 2)) fun b5 =>
z_inb S4 b5 101 ((z_i S4 v0 6)) (
let S6 := z_wi S4 b5 ((z_i S4 v0 6)).toNatClampNeg v3
z_chk S6 v0 5 (
z_chk S6 v0 5 (
z_onV (va_rf (z_r S6 v0 3)) fun b7 =>
z_inb S6 b7 103 ((z_i S6 v0 6)) (
let S8 := z_wd S6 b7 ((z_i S6 v0 6)).toNatClampNeg v4
z_chk S8 v0 5 (
z_chk S8 v0 5 (
z_onV (va_rf (z_r S8 v0 4)) fun b9 =>
z_inb S8 b9 103 ((z_i S8 v0 6)) (
let S10 := z_wd S8 b9 ((z_i S8 v0 6)).toNatClampNeg v6
z_chk S10 v0 5 (
z_chk S10 v0 5 (
z_onV (va_rf (z_r S10 v0 5)) fun b11 =>
z_inb S10 b11 103 ((z_i S10 v0 6)) (
let S12 := z_wd S10 b11 ((z_i S10 v0 6)).toNatClampNeg v8
z_chk S12 v0 5 (
z_chk S12 v0 5 (
let S13 := z_wi S12 v0 6 (((z_i S12 v0 6)) + ((1 : Int32)))
z_chk S13 v0 5 (
some (((z_i S13 v0 6)) - ((1 : Int32)), S13))))))))))))))))))))))
def f_X4_keepRule : Nat → Int32 → Int32 → Int32 → UInt64 → UInt64 → UInt64 → z_St → Option (Int32 × z_St) := z_op (b_X4_keepRule)
theorem e_X4_keepRule (v0 : Nat) (v1 : Int32) (v2 : Int32) (v3 : Int32) (v4 : UInt64) (v6 : UInt64) (v8 : UInt64) (S : z_St) : f_X4_keepRule v0 v1 v2 v3 v4 v6 v8 S = b_X4_keepRule v0 v1 v2 v3 v4 v6 v8 S := congrFun (congrFun (congrFun (congrFun (congrFun (congrFun (congrFun (congrFun (z_op_eq (b_X4_keepRule)) v0) v1) v2) v3) v4) v6) v8) S
def g_X4_keepRule : z_G := .inl (fun as S => match as with
  | [.ref v0, .int v1, .int v2, .int v3, .double v4, .double v6, .double v8] => f_X4_keepRule v0 v1 v2 v3 v4 v6 v8 S
  | _ => none)
def c_X4_keepRule : List z_E := [
  (0, .aload_n 0, 1, .null, [], z_g0),
  (1, .getfield 11, 3, .null, [5, 0, 3], z_g0),
  (4, .aload_n 0, 1, .null, [], z_g0),
  (5, .getfield 44, 3, .null, [5, 6, 0], z_g0),
  (8, .iload_n 1, 1, .null, [], z_g0),
  (9, .iastore, 1, .null, [], z_g0),
  (10, .aload_n 0, 1, .null, [], z_g0),
  (11, .getfield 15, 3, .null, [5, 1, 3], z_g0),
  (14, .aload_n 0, 1, .null, [], z_g0),
  (15, .getfield 44, 3, .null, [5, 6, 0], z_g0),
  (18, .iload_n 2, 1, .null, [], z_g0),
  (19, .iastore, 1, .null, [], z_g0),
  (20, .aload_n 0, 1, .null, [], z_g0),
  (21, .getfield 18, 3, .null, [5, 2, 3], z_g0),
  (24, .aload_n 0, 1, .null, [], z_g0),
  (25, .getfield 44, 3, .null, [5, 6, 0], z_g0),
  (28, .iload_n 3, 1, .null, [], z_g0),
  (29, .iastore, 1, .null, [], z_g0),
  (30, .aload_n 0, 1, .null, [], z_g0),
  (31, .getfield 21, 3, .null, [5, 3, 3], z_g0),
  (34, .aload_n 0, 1, .null, [], z_g0),
  (35, .getfield 44, 3, .null, [5, 6, 0], z_g0),
  (38, .dload 4, 2, .null, [], z_g0),
  (40, .dastore, 1, .null, [], z_g0),
  (41, .aload_n 0, 1, .null, [], z_g0),
  (42, .getfield 25, 3, .null, [5, 4, 3], z_g0),
  (45, .aload_n 0, 1, .null, [], z_g0),
  (46, .getfield 44, 3, .null, [5, 6, 0], z_g0),
  (49, .dload 6, 2, .null, [], z_g0),
  (51, .dastore, 1, .null, [], z_g0),
  (52, .aload_n 0, 1, .null, [], z_g0),
  (53, .getfield 28, 3, .null, [5, 5, 3], z_g0),
  (56, .aload_n 0, 1, .null, [], z_g0),
  (57, .getfield 44, 3, .null, [5, 6, 0], z_g0),
  (60, .dload 8, 2, .null, [], z_g0),
  (62, .dastore, 1, .null, [], z_g0),
  (63, .aload_n 0, 1, .null, [], z_g0),
  (64, .dup, 1, .null, [], z_g0),
  (65, .getfield 44, 3, .null, [5, 6, 0], z_g0),
  (68, .iconst 1, 1, .int ((1 : Int32)), [], z_g0),
  (69, .iadd, 1, .null, [], z_g0),
  (70, .putfield 44, 3, .null, [5, 6, 0], z_g0),
  (73, .aload_n 0, 1, .null, [], z_g0),
  (74, .getfield 44, 3, .null, [5, 6, 0], z_g0),
  (77, .iconst 1, 1, .int ((1 : Int32)), [], z_g0),
  (78, .isub, 1, .null, [], z_g0),
  (79, .ireturn, 1, .null, [], z_g0)]
set_option maxRecDepth 100000 in
theorem r_X4_keepRule (v0 : Nat) (v1 : Int32) (v2 : Int32) (v3 : Int32) (v4 : UInt64) (v6 : UInt64) (v8 : UInt64) (S : z_St) : z_seg z_rI (c_X4_keepRule) [] (fun pc => fun _ _ _ => none) 50 (c_X4_keepRule) [(0, .ref v0), (1, .int v1), (2, .int v2), (3, .int v3), (4, .double v4), (6, .double v6), (8, .double v8)] [] S = b_X4_keepRule v0 v1 v2 v3 v4 v6 v8 S := rfl
def j_X4_firstRule_66 (k_6 : Nat → Int32 → UInt64 → Int32 → Int32 → z_St → Option (Int32 × z_St)) (v0 : Nat) (v1 : Int32) (v2 : UInt64) (v4 : Int32) (v5 : Int32) (t0 : Int32) (S : z_St) : Option (Int32 × z_St) :=
if t0 = 0 then
(let x5 := v5 + (1 : Int32)
k_6 v0 v1 v2 v4 x5 S)
else
(if v4 = ((-1 : Int32)) then
(let x6 := v5 + (1 : Int32)
k_6 v0 v1 v2 v5 x6 S)
else
(z_chk S v0 5 (
z_onV (va_rf (z_r S v0 0)) fun b7 =>
z_inb S b7 101 v5 (
z_chk S v0 5 (
z_onV (va_rf (z_r S v0 0)) fun b8 =>
z_inb S b8 101 v4 (
if ((z_i S b8 v4.toNatClampNeg)) ≤ ((z_i S b7 v5.toNatClampNeg)) then
(let x9 := v5 + (1 : Int32)
k_6 v0 v1 v2 v4 x9 S)
else
(let x10 := v5 + (1 : Int32)
k_6 v0 v1 v2 v5 x10 S)))))))
def l_X4_firstRule_6 : Nat → Nat → Int32 → UInt64 → Int32 → Int32 → z_St → Option (Int32 × z_St)
  | 0 => fun _ _ _ _ _ _ => none
  | n + 1 => fun (v0 : Nat) (v1 : Int32) (v2 : UInt64) (v4 : Int32) (v5 : Int32) (S : z_St) =>
z_chk S v0 5 (
if ((z_i S v0 6)) ≤ v5 then
(some (v4, S))
else
(z_chk S v0 5 (
z_onV (va_rf (z_r S v0 1)) fun b1 =>
z_inb S b1 101 v5 (
if v1 < ((z_i S b1 v5.toNatClampNeg)) then
(j_X4_firstRule_66 (l_X4_firstRule_6 n) v0 v1 v2 v4 v5 ((0 : Int32)) S)
else
(z_chk S v0 5 (
z_onV (va_rf (z_r S v0 2)) fun b2 =>
z_inb S b2 101 v5 (
if ((z_i S b2 v5.toNatClampNeg)) < v1 then
(j_X4_firstRule_66 (l_X4_firstRule_6 n) v0 v1 v2 v4 v5 ((0 : Int32)) S)
else
(z_chk S v0 5 (
z_onV (va_rf (z_r S v0 3)) fun b3 =>
z_inb S b3 103 v5 (
if 0 < (Op.cmpValue (FP.dcmp ((z_d S b3 v5.toNatClampNeg)) v2) .g) then
(j_X4_firstRule_66 (l_X4_firstRule_6 n) v0 v1 v2 v4 v5 ((0 : Int32)) S)
else
(z_chk S v0 5 (
z_onV (va_rf (z_r S v0 4)) fun b4 =>
z_inb S b4 103 v5 (
if 0 ≤ (Op.cmpValue (FP.dcmp v2 ((z_d S b4 v5.toNatClampNeg))) .g) then
(j_X4_firstRule_66 (l_X4_firstRule_6 n) v0 v1 v2 v4 v5 ((0 : Int32)) S)
else
(j_X4_firstRule_66 (l_X4_firstRule_6 n) v0 v1 v2 v4 v5 ((1 : Int32)) S))))))))))))))
def b_X4_firstRule (v0 : Nat) (v1 : Int32) (v2 : UInt64) (S : z_St) : Option (Int32 × z_St) :=
l_X4_firstRule_6 z_N v0 v1 v2 ((-1 : Int32)) ((0 : Int32)) S
def f_X4_firstRule : Nat → Int32 → UInt64 → z_St → Option (Int32 × z_St) := z_op (b_X4_firstRule)
theorem e_X4_firstRule (v0 : Nat) (v1 : Int32) (v2 : UInt64) (S : z_St) : f_X4_firstRule v0 v1 v2 S = b_X4_firstRule v0 v1 v2 S := congrFun (congrFun (congrFun (congrFun (z_op_eq (b_X4_firstRule)) v0) v1) v2) S
def g_X4_firstRule : z_G := .inl (fun as S => match as with
  | [.ref v0, .int v1, .double v2] => f_X4_firstRule v0 v1 v2 S
  | _ => none)
def c_X4_firstRule : List z_E := [
  (0, .iconst (-1), 1, .int ((-1 : Int32)), [], z_g0),
  (1, .istore 4, 2, .null, [], z_g0),
  (3, .iconst 0, 1, .int ((0 : Int32)), [], z_g0),
  (4, .istore 5, 2, .null, [], z_g0),
  (6, .iload 5, 2, .null, [], z_g0),
  (8, .aload_n 0, 1, .null, [], z_g0),
  (9, .getfield 44, 3, .null, [5, 6, 0], z_g0),
  (12, .if_icmp .ge 94, 3, .null, [106], z_g0),
  (15, .aload_n 0, 1, .null, [], z_g0),
  (16, .getfield 15, 3, .null, [5, 1, 3], z_g0),
  (19, .iload 5, 2, .null, [], z_g0),
  (21, .iaload, 1, .null, [101], z_g0),
  (22, .iload_n 1, 1, .null, [], z_g0),
  (23, .if_icmp .gt 42, 3, .null, [65], z_g0),
  (26, .iload_n 1, 1, .null, [], z_g0),
  (27, .aload_n 0, 1, .null, [], z_g0),
  (28, .getfield 18, 3, .null, [5, 2, 3], z_g0),
  (31, .iload 5, 2, .null, [], z_g0),
  (33, .iaload, 1, .null, [101], z_g0),
  (34, .if_icmp .gt 31, 3, .null, [65], z_g0),
  (37, .aload_n 0, 1, .null, [], z_g0),
  (38, .getfield 21, 3, .null, [5, 3, 3], z_g0),
  (41, .iload 5, 2, .null, [], z_g0),
  (43, .daload, 1, .null, [], z_g0),
  (44, .dload_n 2, 1, .null, [], z_g0),
  (45, .dcmp .g, 1, .null, [], z_g0),
  (46, .ifCond .gt 19, 3, .null, [65], z_g0),
  (49, .dload_n 2, 1, .null, [], z_g0),
  (50, .aload_n 0, 1, .null, [], z_g0),
  (51, .getfield 25, 3, .null, [5, 4, 3], z_g0),
  (54, .iload 5, 2, .null, [], z_g0),
  (56, .daload, 1, .null, [], z_g0),
  (57, .dcmp .g, 1, .null, [], z_g0),
  (58, .ifCond .ge 7, 3, .null, [65], z_g0),
  (61, .iconst 1, 1, .int ((1 : Int32)), [], z_g0),
  (62, .goto 4, 3, .null, [66], z_g0),
  (65, .iconst 0, 1, .int ((0 : Int32)), [], z_g0),
  (66, .istore 6, 2, .null, [], z_g0),
  (68, .iload 6, 2, .null, [], z_g0),
  (70, .ifCond .eq 30, 3, .null, [100], z_g0),
  (73, .iload 4, 2, .null, [], z_g0),
  (75, .iconst (-1), 1, .int ((-1 : Int32)), [], z_g0),
  (76, .if_icmp .eq 20, 3, .null, [96], z_g0),
  (79, .aload_n 0, 1, .null, [], z_g0),
  (80, .getfield 11, 3, .null, [5, 0, 3], z_g0),
  (83, .iload 5, 2, .null, [], z_g0),
  (85, .iaload, 1, .null, [101], z_g0),
  (86, .aload_n 0, 1, .null, [], z_g0),
  (87, .getfield 11, 3, .null, [5, 0, 3], z_g0),
  (90, .iload 4, 2, .null, [], z_g0),
  (92, .iaload, 1, .null, [101], z_g0),
  (93, .if_icmp .ge 7, 3, .null, [100], z_g0),
  (96, .iload 5, 2, .null, [], z_g0),
  (98, .istore 4, 2, .null, [], z_g0),
  (100, .iinc 5 1, 3, .int (1 : Int32), [], z_g0),
  (103, .goto (-97), 3, .null, [6], z_g0),
  (106, .iload 4, 2, .null, [], z_g0),
  (108, .ireturn, 1, .null, [], z_g0)]
def a_X4_firstRule_6 {ρ : Type} (k : Nat → Int32 → UInt64 → Int32 → Int32 → z_St → Option ρ) (ls : z_Lv) (st : List Value) (S : z_St) : Option ρ := z_gR ls 0 fun v0 => z_gI ls 1 fun v1 => z_gD ls 2 fun v2 => z_gI ls 4 fun v4 => z_gI ls 5 fun v5 => z_p0 st (k v0 v1 v2 v4 v5 S)
def a_X4_firstRule_66 {ρ : Type} (k : Nat → Int32 → UInt64 → Int32 → Int32 → Int32 → z_St → Option ρ) (ls : z_Lv) (st : List Value) (S : z_St) : Option ρ := z_gR ls 0 fun v0 => z_gI ls 1 fun v1 => z_gD ls 2 fun v2 => z_gI ls 4 fun v4 => z_gI ls 5 fun v5 => z_pI st fun t0 s0 => z_p0 s0 (k v0 v1 v2 v4 v5 t0 S)
set_option maxRecDepth 100000 in
theorem r_X4_firstRule_66 (k_6 : Nat → Int32 → UInt64 → Int32 → Int32 → z_St → Option (Int32 × z_St)) (v0 : Nat) (v1 : Int32) (v2 : UInt64) (v4 : Int32) (v5 : Int32) (t0 : Int32) (S : z_St) : z_seg z_rI (c_X4_firstRule) [6, 66] (fun pc => cond (Nat.beq pc 6) (a_X4_firstRule_6 k_6) (fun _ _ _ => none)) 61 (z_to 66 (c_X4_firstRule)) [(0, .ref v0), (1, .int v1), (2, .double v2), (4, .int v4), (5, .int v5)] [.int t0] S = j_X4_firstRule_66 k_6 v0 v1 v2 v4 v5 t0 S := rfl
set_option maxRecDepth 100000 in
theorem r_X4_firstRule_6 (n : Nat) (v0 : Nat) (v1 : Int32) (v2 : UInt64) (v4 : Int32) (v5 : Int32) (S : z_St) : z_seg z_rI (c_X4_firstRule) [6, 66] (fun pc => cond (Nat.beq pc 66) (a_X4_firstRule_66 (j_X4_firstRule_66 (l_X4_firstRule_6 n))) (fun _ _ _ => none)) 61 (z_to 6 (c_X4_firstRule)) [(0, .ref v0), (1, .int v1), (2, .double v2), (4, .int v4), (5, .int v5)] [] S = l_X4_firstRule_6 (n + 1) v0 v1 v2 v4 v5 S := rfl
set_option maxRecDepth 100000 in
theorem r_X4_firstRule (v0 : Nat) (v1 : Int32) (v2 : UInt64) (S : z_St) : z_seg z_rI (c_X4_firstRule) [6, 66] (fun pc => cond (Nat.beq pc 6) (a_X4_firstRule_6 (l_X4_firstRule_6 z_N)) (fun _ _ _ => none)) 61 (c_X4_firstRule) [(0, .ref v0), (1, .int v1), (2, .double v2)] [] S = b_X4_firstRule v0 v1 v2 S := rfl
def b_X4_wishAt (v0 : Nat) (v1 : Int32) (v2 : UInt64) (S : z_St) : Option (UInt64 × z_St) :=
z_chk S v0 5 (
(f_X4_firstRule v0 v1 v2 S).bind fun q1 =>
if q1.1 = ((-1 : Int32)) then
(some (FP.dconst0, q1.2))
else
(z_chk q1.2 v0 5 (
z_onV (va_rf (z_r q1.2 v0 5)) fun b2 =>
z_inb q1.2 b2 103 q1.1 (
some ((z_d q1.2 b2 q1.1.toNatClampNeg), q1.2)))))
def f_X4_wishAt : Nat → Int32 → UInt64 → z_St → Option (UInt64 × z_St) := z_op (b_X4_wishAt)
theorem e_X4_wishAt (v0 : Nat) (v1 : Int32) (v2 : UInt64) (S : z_St) : f_X4_wishAt v0 v1 v2 S = b_X4_wishAt v0 v1 v2 S := congrFun (congrFun (congrFun (congrFun (z_op_eq (b_X4_wishAt)) v0) v1) v2) S
def g_X4_wishAt : z_G := .inr (.inr (.inl (fun as S => match as with
  | [.ref v0, .int v1, .double v2] => f_X4_wishAt v0 v1 v2 S
  | _ => none)))
def c_X4_wishAt : List z_E := [
  (0, .aload_n 0, 1, .null, [], z_g0),
  (1, .iload_n 1, 1, .null, [], z_g0),
  (2, .dload_n 2, 1, .null, [], z_g0),
  (3, .invokevirtual 48, 3, .null, [1, 5, 0, 0], g_X4_firstRule),
  (6, .istore 4, 2, .null, [], z_g0),
  (8, .iload 4, 2, .null, [], z_g0),
  (10, .iconst (-1), 1, .int ((-1 : Int32)), [], z_g0),
  (11, .if_icmp .ne 7, 3, .null, [18], z_g0),
  (14, .dconst 0, 1, .double FP.dconst0, [], z_g0),
  (15, .goto 10, 3, .null, [25], z_g0),
  (18, .aload_n 0, 1, .null, [], z_g0),
  (19, .getfield 28, 3, .null, [5, 5, 3], z_g0),
  (22, .iload 4, 2, .null, [], z_g0),
  (24, .daload, 1, .null, [], z_g0),
  (25, .dreturn, 1, .null, [], z_g0)]
set_option maxRecDepth 100000 in
theorem r_X4_wishAt (v0 : Nat) (v1 : Int32) (v2 : UInt64) (S : z_St) : z_seg z_rD (c_X4_wishAt) [] (fun pc => fun _ _ _ => none) 18 (c_X4_wishAt) [(0, .ref v0), (1, .int v1), (2, .double v2)] [] S = b_X4_wishAt v0 v1 v2 S := rfl
def b_X4_keepRight (v0 : Nat) (v1 : Int32) (v2 : Int32) (v3 : Int64) (S : z_St) : Option (Int32 × z_St) :=
z_chk S v0 5 (
z_chk S v0 5 (
z_onV (va_rf (z_r S v0 7)) fun b1 =>
z_inb S b1 101 ((z_i S v0 11)) (
let S2 := z_wi S b1 ((z_i S v0 11)).toNatClampNeg v1
z_chk S2 v0 5 (
z_chk S2 v0 5 (
z_onV (va_rf (z_r S2 v0 8)) fun b3 =>
z_inb S2 b3 101 ((z_i S2 v0 11)) (
let S4 := z_wi S2 b3 ((z_i S2 v0 11)).toNatClampNeg v2
z_chk S4 v0 5 (
z_chk S4 v0 5 (
z_onV (va_rf (z_r S4 v0 9)) fun b5 =>
z_inb S4 b5 102 ((z_i S4 v0 11)) (
let S6 := z_wl S4 b5 ((z_i S4 v0 11)).toNatClampNeg v3
z_chk S6 v0 5 (
z_chk S6 v0 5 (
let S7 := z_wi S6 v0 11 (((z_i S6 v0 11)) + ((1 : Int32)))
z_chk S7 v0 5 (
some (((z_i S7 v0 11)) - ((1 : Int32)), S7)))))))))))))
def f_X4_keepRight : Nat → Int32 → Int32 → Int64 → z_St → Option (Int32 × z_St) := z_op (b_X4_keepRight)
theorem e_X4_keepRight (v0 : Nat) (v1 : Int32) (v2 : Int32) (v3 : Int64) (S : z_St) : f_X4_keepRight v0 v1 v2 v3 S = b_X4_keepRight v0 v1 v2 v3 S := congrFun (congrFun (congrFun (congrFun (congrFun (z_op_eq (b_X4_keepRight)) v0) v1) v2) v3) S
def g_X4_keepRight : z_G := .inl (fun as S => match as with
  | [.ref v0, .int v1, .int v2, .long v3] => f_X4_keepRight v0 v1 v2 v3 S
  | _ => none)
def c_X4_keepRight : List z_E := [
  (0, .aload_n 0, 1, .null, [], z_g0),
  (1, .getfield 31, 3, .null, [5, 7, 3], z_g0),
  (4, .aload_n 0, 1, .null, [], z_g0),
  (5, .getfield 52, 3, .null, [5, 11, 0], z_g0),
  (8, .iload_n 1, 1, .null, [], z_g0),
  (9, .iastore, 1, .null, [], z_g0),
  (10, .aload_n 0, 1, .null, [], z_g0),
  (11, .getfield 34, 3, .null, [5, 8, 3], z_g0),
  (14, .aload_n 0, 1, .null, [], z_g0),
  (15, .getfield 52, 3, .null, [5, 11, 0], z_g0),
  (18, .iload_n 2, 1, .null, [], z_g0),
  (19, .iastore, 1, .null, [], z_g0),
  (20, .aload_n 0, 1, .null, [], z_g0),
  (21, .getfield 37, 3, .null, [5, 9, 3], z_g0),
  (24, .aload_n 0, 1, .null, [], z_g0),
  (25, .getfield 52, 3, .null, [5, 11, 0], z_g0),
  (28, .lload_n 3, 1, .null, [], z_g0),
  (29, .lastore, 1, .null, [], z_g0),
  (30, .aload_n 0, 1, .null, [], z_g0),
  (31, .dup, 1, .null, [], z_g0),
  (32, .getfield 52, 3, .null, [5, 11, 0], z_g0),
  (35, .iconst 1, 1, .int ((1 : Int32)), [], z_g0),
  (36, .iadd, 1, .null, [], z_g0),
  (37, .putfield 52, 3, .null, [5, 11, 0], z_g0),
  (40, .aload_n 0, 1, .null, [], z_g0),
  (41, .getfield 52, 3, .null, [5, 11, 0], z_g0),
  (44, .iconst 1, 1, .int ((1 : Int32)), [], z_g0),
  (45, .isub, 1, .null, [], z_g0),
  (46, .ireturn, 1, .null, [], z_g0)]
set_option maxRecDepth 100000 in
theorem r_X4_keepRight (v0 : Nat) (v1 : Int32) (v2 : Int32) (v3 : Int64) (S : z_St) : z_seg z_rI (c_X4_keepRight) [] (fun pc => fun _ _ _ => none) 32 (c_X4_keepRight) [(0, .ref v0), (1, .int v1), (2, .int v2), (3, .long v3)] [] S = b_X4_keepRight v0 v1 v2 v3 S := rfl
def l_X4_nextRank_5 : Nat → Nat → Int32 → Int32 → Int32 → z_St → Option (Int32 × z_St)
  | 0 => fun _ _ _ _ _ => none
  | n + 1 => fun (v0 : Nat) (v1 : Int32) (v2 : Int32) (v3 : Int32) (S : z_St) =>
z_chk S v0 5 (
if ((z_i S v0 11)) ≤ v3 then
(some (v2, S))
else
(z_chk S v0 5 (
z_onV (va_rf (z_r S v0 7)) fun b1 =>
z_inb S b1 101 v3 (
if ((z_i S b1 v3.toNatClampNeg)) ≤ v1 then
(let x2 := v3 + (1 : Int32)
l_X4_nextRank_5 n v0 v1 v2 x2 S)
else
(z_chk S v0 5 (
z_onV (va_rf (z_r S v0 7)) fun b3 =>
z_inb S b3 101 v3 (
if v2 ≤ ((z_i S b3 v3.toNatClampNeg)) then
(let x4 := v3 + (1 : Int32)
l_X4_nextRank_5 n v0 v1 v2 x4 S)
else
(z_chk S v0 5 (
z_onV (va_rf (z_r S v0 7)) fun b5 =>
z_inb S b5 101 v3 (
let x6 := (z_i S b5 v3.toNatClampNeg)
let x7 := v3 + (1 : Int32)
l_X4_nextRank_5 n v0 v1 x6 x7 S))))))))))
def b_X4_nextRank (v0 : Nat) (v1 : Int32) (S : z_St) : Option (Int32 × z_St) :=
l_X4_nextRank_5 z_N v0 v1 ((100 : Int32)) ((0 : Int32)) S
def f_X4_nextRank : Nat → Int32 → z_St → Option (Int32 × z_St) := z_op (b_X4_nextRank)
theorem e_X4_nextRank (v0 : Nat) (v1 : Int32) (S : z_St) : f_X4_nextRank v0 v1 S = b_X4_nextRank v0 v1 S := congrFun (congrFun (congrFun (z_op_eq (b_X4_nextRank)) v0) v1) S
def g_X4_nextRank : z_G := .inl (fun as S => match as with
  | [.ref v0, .int v1] => f_X4_nextRank v0 v1 S
  | _ => none)
def c_X4_nextRank : List z_E := [
  (0, .bipush 100, 2, .int ((100 : Int32)), [], z_g0),
  (2, .istore_n 2, 1, .null, [], z_g0),
  (3, .iconst 0, 1, .int ((0 : Int32)), [], z_g0),
  (4, .istore_n 3, 1, .null, [], z_g0),
  (5, .iload_n 3, 1, .null, [], z_g0),
  (6, .aload_n 0, 1, .null, [], z_g0),
  (7, .getfield 52, 3, .null, [5, 11, 0], z_g0),
  (10, .if_icmp .ge 36, 3, .null, [46], z_g0),
  (13, .aload_n 0, 1, .null, [], z_g0),
  (14, .getfield 31, 3, .null, [5, 7, 3], z_g0),
  (17, .iload_n 3, 1, .null, [], z_g0),
  (18, .iaload, 1, .null, [101], z_g0),
  (19, .iload_n 1, 1, .null, [], z_g0),
  (20, .if_icmp .le 20, 3, .null, [40], z_g0),
  (23, .aload_n 0, 1, .null, [], z_g0),
  (24, .getfield 31, 3, .null, [5, 7, 3], z_g0),
  (27, .iload_n 3, 1, .null, [], z_g0),
  (28, .iaload, 1, .null, [101], z_g0),
  (29, .iload_n 2, 1, .null, [], z_g0),
  (30, .if_icmp .ge 10, 3, .null, [40], z_g0),
  (33, .aload_n 0, 1, .null, [], z_g0),
  (34, .getfield 31, 3, .null, [5, 7, 3], z_g0),
  (37, .iload_n 3, 1, .null, [], z_g0),
  (38, .iaload, 1, .null, [101], z_g0),
  (39, .istore_n 2, 1, .null, [], z_g0),
  (40, .iinc 3 1, 3, .int (1 : Int32), [], z_g0),
  (43, .goto (-38), 3, .null, [5], z_g0),
  (46, .iload_n 2, 1, .null, [], z_g0),
  (47, .ireturn, 1, .null, [], z_g0)]
def a_X4_nextRank_5 {ρ : Type} (k : Nat → Int32 → Int32 → Int32 → z_St → Option ρ) (ls : z_Lv) (st : List Value) (S : z_St) : Option ρ := z_gR ls 0 fun v0 => z_gI ls 1 fun v1 => z_gI ls 2 fun v2 => z_gI ls 3 fun v3 => z_p0 st (k v0 v1 v2 v3 S)
set_option maxRecDepth 100000 in
theorem r_X4_nextRank_5 (n : Nat) (v0 : Nat) (v1 : Int32) (v2 : Int32) (v3 : Int32) (S : z_St) : z_seg z_rI (c_X4_nextRank) [5] (fun pc => cond (Nat.beq pc 5) (a_X4_nextRank_5 (l_X4_nextRank_5 n)) (fun _ _ _ => none)) 32 (z_to 5 (c_X4_nextRank)) [(0, .ref v0), (1, .int v1), (2, .int v2), (3, .int v3)] [] S = l_X4_nextRank_5 (n + 1) v0 v1 v2 v3 S := rfl
set_option maxRecDepth 100000 in
theorem r_X4_nextRank (v0 : Nat) (v1 : Int32) (S : z_St) : z_seg z_rI (c_X4_nextRank) [5] (fun pc => cond (Nat.beq pc 5) (a_X4_nextRank_5 (l_X4_nextRank_5 z_N)) (fun _ _ _ => none)) 32 (c_X4_nextRank) [(0, .ref v0), (1, .int v1)] [] S = b_X4_nextRank v0 v1 S := rfl
def b_X4_give (v0 : Nat) (v1 : Int32) (v2 : Int64) (S : z_St) : Option (Int64 × z_St) :=
z_chk S v0 5 (
z_onV (va_rf (z_r S v0 9)) fun b1 =>
z_inb S b1 102 v1 (
z_chk S v0 5 (
z_onV (va_rf (z_r S v0 10)) fun b2 =>
z_inb S b2 102 v1 (
(f_J9_min_f86c9 v2 (((z_l S b1 v1.toNatClampNeg)) - ((z_l S b2 v1.toNatClampNeg))) S).bind fun q3 =>
z_chk q3.2 v0 5 (
z_onV (va_rf (z_r q3.2 v0 10)) fun b4 =>
z_inb q3.2 b4 102 v1 (
z_inb q3.2 b4 102 v1 (
let S5 := z_wl q3.2 b4 v1.toNatClampNeg (((z_l q3.2 b4 v1.toNatClampNeg)) + q3.1)
some (q3.1, S5))))))))
def f_X4_give : Nat → Int32 → Int64 → z_St → Option (Int64 × z_St) := z_op (b_X4_give)
theorem e_X4_give (v0 : Nat) (v1 : Int32) (v2 : Int64) (S : z_St) : f_X4_give v0 v1 v2 S = b_X4_give v0 v1 v2 S := congrFun (congrFun (congrFun (congrFun (z_op_eq (b_X4_give)) v0) v1) v2) S
def g_X4_give : z_G := .inr (.inl (fun as S => match as with
  | [.ref v0, .int v1, .long v2] => f_X4_give v0 v1 v2 S
  | _ => none))
def c_X4_give : List z_E := [
  (0, .lload_n 2, 1, .null, [], z_g0),
  (1, .aload_n 0, 1, .null, [], z_g0),
  (2, .getfield 37, 3, .null, [5, 9, 3], z_g0),
  (5, .iload_n 1, 1, .null, [], z_g0),
  (6, .laload, 1, .null, [], z_g0),
  (7, .aload_n 0, 1, .null, [], z_g0),
  (8, .getfield 41, 3, .null, [5, 10, 3], z_g0),
  (11, .iload_n 1, 1, .null, [], z_g0),
  (12, .laload, 1, .null, [], z_g0),
  (13, .lsub, 1, .null, [], z_g0),
  (14, .invokestatic 66, 3, .null, [0, 0, 0], g_J9_min_f86c9),
  (17, .lstore 4, 2, .null, [], z_g0),
  (19, .aload_n 0, 1, .null, [], z_g0),
  (20, .getfield 41, 3, .null, [5, 10, 3], z_g0),
  (23, .iload_n 1, 1, .null, [], z_g0),
  (24, .dup2, 1, .null, [1], z_g0),
  (25, .laload, 1, .null, [], z_g0),
  (26, .lload 4, 2, .null, [], z_g0),
  (28, .ladd, 1, .null, [], z_g0),
  (29, .lastore, 1, .null, [], z_g0),
  (30, .lload 4, 2, .null, [], z_g0),
  (32, .lreturn, 1, .null, [], z_g0)]
set_option maxRecDepth 100000 in
theorem r_X4_give (v0 : Nat) (v1 : Int32) (v2 : Int64) (S : z_St) : z_seg z_rL (c_X4_give) [] (fun pc => fun _ _ _ => none) 25 (c_X4_give) [(0, .ref v0), (1, .int v1), (2, .long v2)] [] S = b_X4_give v0 v1 v2 S := rfl
def l_X4_partRank_144 : Nat → Nat → Int32 → Int64 → Int32 → z_St → Option (Int64 × z_St)
  | 0 => fun _ _ _ _ _ => none
  | n + 1 => fun (v0 : Nat) (v1 : Int32) (v8 : Int64) (v10 : Int32) (S : z_St) =>
z_chk S v0 5 (
if ((z_i S v0 11)) ≤ v10 then
(some (v8, S))
else
(z_chk S v0 5 (
z_onV (va_rf (z_r S v0 7)) fun b9 =>
z_inb S b9 101 v10 (
if ((z_i S b9 v10.toNatClampNeg)) = v1 then
(z_chk S v0 5 (
(f_X4_give v0 v10 v8 S).bind fun q11 =>
let x12 := v8 - q11.1
let x13 := v10 + (1 : Int32)
l_X4_partRank_144 n v0 v1 x12 x13 q11.2))
else
(let x10 := v10 + (1 : Int32)
l_X4_partRank_144 n v0 v1 v8 x10 S)))))
def l_X4_partRank_91 : Nat → Nat → Int32 → Int64 → Int64 → Int64 → Int32 → z_St → Option (Int64 × z_St)
  | 0 => fun _ _ _ _ _ _ _ => none
  | n + 1 => fun (v0 : Nat) (v1 : Int32) (v2 : Int64) (v6 : Int64) (v8 : Int64) (v10 : Int32) (S : z_St) =>
z_chk S v0 5 (
if ((z_i S v0 11)) ≤ v10 then
(l_X4_partRank_144 z_N v0 v1 v8 ((0 : Int32)) S)
else
(z_chk S v0 5 (
z_onV (va_rf (z_r S v0 7)) fun b14 =>
z_inb S b14 101 v10 (
if ((z_i S b14 v10.toNatClampNeg)) = v1 then
(z_chk S v0 5 (
z_onV (va_rf (z_r S v0 8)) fun b16 =>
z_inb S b16 101 v10 (
z_nzl v6 (
z_chk S v0 5 (
(f_X4_give v0 v10 ((v2 * (((z_i S b16 v10.toNatClampNeg)).toInt64)) / v6) S).bind fun q17 =>
let x18 := v8 - q17.1
let x19 := v10 + (1 : Int32)
l_X4_partRank_91 n v0 v1 v2 v6 x18 x19 q17.2)))))
else
(let x15 := v10 + (1 : Int32)
l_X4_partRank_91 n v0 v1 v2 v6 v8 x15 S)))))
def l_X4_partRank_9 : Nat → Nat → Int32 → Int64 → Int64 → Int64 → Int32 → z_St → Option (Int64 × z_St)
  | 0 => fun _ _ _ _ _ _ _ => none
  | n + 1 => fun (v0 : Nat) (v1 : Int32) (v2 : Int64) (v4 : Int64) (v6 : Int64) (v8 : Int32) (S : z_St) =>
z_chk S v0 5 (
if ((z_i S v0 11)) ≤ v8 then
(if (lg_cmp v4 v2) ≤ 0 then
(l_X4_partRank_144 z_N v0 v1 v2 ((0 : Int32)) S)
else
(if (lg_cmp v6 ((0 : Int64))) ≤ 0 then
(l_X4_partRank_144 z_N v0 v1 v2 ((0 : Int32)) S)
else
(l_X4_partRank_91 z_N v0 v1 v2 v6 v2 ((0 : Int32)) S)))
else
(z_chk S v0 5 (
z_onV (va_rf (z_r S v0 7)) fun b1 =>
z_inb S b1 101 v8 (
if ((z_i S b1 v8.toNatClampNeg)) = v1 then
(z_chk S v0 5 (
z_onV (va_rf (z_r S v0 9)) fun b2 =>
z_inb S b2 102 v8 (
z_chk S v0 5 (
z_onV (va_rf (z_r S v0 10)) fun b3 =>
z_inb S b3 102 v8 (
let x4 := v4 + (((z_l S b2 v8.toNatClampNeg)) - ((z_l S b3 v8.toNatClampNeg)))
z_chk S v0 5 (
z_onV (va_rf (z_r S v0 8)) fun b5 =>
z_inb S b5 101 v8 (
let x6 := v6 + (((z_i S b5 v8.toNatClampNeg)).toInt64)
let x7 := v8 + (1 : Int32)
l_X4_partRank_9 n v0 v1 v2 x4 x6 x7 S)))))))
else
(let x8 := v8 + (1 : Int32)
l_X4_partRank_9 n v0 v1 v2 v4 v6 x8 S)))))
def b_X4_partRank (v0 : Nat) (v1 : Int32) (v2 : Int64) (S : z_St) : Option (Int64 × z_St) :=
l_X4_partRank_9 z_N v0 v1 v2 ((0 : Int64)) ((0 : Int64)) ((0 : Int32)) S
def f_X4_partRank : Nat → Int32 → Int64 → z_St → Option (Int64 × z_St) := z_op (b_X4_partRank)
theorem e_X4_partRank (v0 : Nat) (v1 : Int32) (v2 : Int64) (S : z_St) : f_X4_partRank v0 v1 v2 S = b_X4_partRank v0 v1 v2 S := congrFun (congrFun (congrFun (congrFun (z_op_eq (b_X4_partRank)) v0) v1) v2) S
def g_X4_partRank : z_G := .inr (.inl (fun as S => match as with
  | [.ref v0, .int v1, .long v2] => f_X4_partRank v0 v1 v2 S
  | _ => none))
def c_X4_partRank : List z_E := [
  (0, .lconst 0, 1, .long (0 : Int64), [], z_g0),
  (1, .lstore 4, 2, .null, [], z_g0),
  (3, .lconst 0, 1, .long (0 : Int64), [], z_g0),
  (4, .lstore 6, 2, .null, [], z_g0),
  (6, .iconst 0, 1, .int ((0 : Int32)), [], z_g0),
  (7, .istore 8, 2, .null, [], z_g0),
  (9, .iload 8, 2, .null, [], z_g0),
  (11, .aload_n 0, 1, .null, [], z_g0),
  (12, .getfield 52, 3, .null, [5, 11, 0], z_g0),
  (15, .if_icmp .ge 56, 3, .null, [71], z_g0),
  (18, .aload_n 0, 1, .null, [], z_g0),
  (19, .getfield 31, 3, .null, [5, 7, 3], z_g0),
  (22, .iload 8, 2, .null, [], z_g0),
  (24, .iaload, 1, .null, [101], z_g0),
  (25, .iload_n 1, 1, .null, [], z_g0),
  (26, .if_icmp .eq 6, 3, .null, [32], z_g0),
  (29, .goto 36, 3, .null, [65], z_g0),
  (32, .lload 4, 2, .null, [], z_g0),
  (34, .aload_n 0, 1, .null, [], z_g0),
  (35, .getfield 37, 3, .null, [5, 9, 3], z_g0),
  (38, .iload 8, 2, .null, [], z_g0),
  (40, .laload, 1, .null, [], z_g0),
  (41, .aload_n 0, 1, .null, [], z_g0),
  (42, .getfield 41, 3, .null, [5, 10, 3], z_g0),
  (45, .iload 8, 2, .null, [], z_g0),
  (47, .laload, 1, .null, [], z_g0),
  (48, .lsub, 1, .null, [], z_g0),
  (49, .ladd, 1, .null, [], z_g0),
  (50, .lstore 4, 2, .null, [], z_g0),
  (52, .lload 6, 2, .null, [], z_g0),
  (54, .aload_n 0, 1, .null, [], z_g0),
  (55, .getfield 34, 3, .null, [5, 8, 3], z_g0),
  (58, .iload 8, 2, .null, [], z_g0),
  (60, .iaload, 1, .null, [101], z_g0),
  (61, .i2l, 1, .null, [], z_g0),
  (62, .ladd, 1, .null, [], z_g0),
  (63, .lstore 6, 2, .null, [], z_g0),
  (65, .iinc 8 1, 3, .int (1 : Int32), [], z_g0),
  (68, .goto (-59), 3, .null, [9], z_g0),
  (71, .lload_n 2, 1, .null, [], z_g0),
  (72, .lstore 8, 2, .null, [], z_g0),
  (74, .lload 4, 2, .null, [], z_g0),
  (76, .lload_n 2, 1, .null, [], z_g0),
  (77, .lcmp, 1, .null, [], z_g0),
  (78, .ifCond .le 63, 3, .null, [141], z_g0),
  (81, .lload 6, 2, .null, [], z_g0),
  (83, .lconst 0, 1, .long (0 : Int64), [], z_g0),
  (84, .lcmp, 1, .null, [], z_g0),
  (85, .ifCond .le 56, 3, .null, [141], z_g0),
  (88, .iconst 0, 1, .int ((0 : Int32)), [], z_g0),
  (89, .istore 10, 2, .null, [], z_g0),
  (91, .iload 10, 2, .null, [], z_g0),
  (93, .aload_n 0, 1, .null, [], z_g0),
  (94, .getfield 52, 3, .null, [5, 11, 0], z_g0),
  (97, .if_icmp .ge 44, 3, .null, [141], z_g0),
  (100, .aload_n 0, 1, .null, [], z_g0),
  (101, .getfield 31, 3, .null, [5, 7, 3], z_g0),
  (104, .iload 10, 2, .null, [], z_g0),
  (106, .iaload, 1, .null, [101], z_g0),
  (107, .iload_n 1, 1, .null, [], z_g0),
  (108, .if_icmp .ne 27, 3, .null, [135], z_g0),
  (111, .lload 8, 2, .null, [], z_g0),
  (113, .aload_n 0, 1, .null, [], z_g0),
  (114, .iload 10, 2, .null, [], z_g0),
  (116, .lload_n 2, 1, .null, [], z_g0),
  (117, .aload_n 0, 1, .null, [], z_g0),
  (118, .getfield 34, 3, .null, [5, 8, 3], z_g0),
  (121, .iload 10, 2, .null, [], z_g0),
  (123, .iaload, 1, .null, [101], z_g0),
  (124, .i2l, 1, .null, [], z_g0),
  (125, .lmul, 1, .null, [], z_g0),
  (126, .lload 6, 2, .null, [], z_g0),
  (128, .ldiv, 1, .null, [], z_g0),
  (129, .invokevirtual 63, 3, .null, [1, 5, 0, 0], g_X4_give),
  (132, .lsub, 1, .null, [], z_g0),
  (133, .lstore 8, 2, .null, [], z_g0),
  (135, .iinc 10 1, 3, .int (1 : Int32), [], z_g0),
  (138, .goto (-47), 3, .null, [91], z_g0),
  (141, .iconst 0, 1, .int ((0 : Int32)), [], z_g0),
  (142, .istore 10, 2, .null, [], z_g0),
  (144, .iload 10, 2, .null, [], z_g0),
  (146, .aload_n 0, 1, .null, [], z_g0),
  (147, .getfield 52, 3, .null, [5, 11, 0], z_g0),
  (150, .if_icmp .ge 33, 3, .null, [183], z_g0),
  (153, .aload_n 0, 1, .null, [], z_g0),
  (154, .getfield 31, 3, .null, [5, 7, 3], z_g0),
  (157, .iload 10, 2, .null, [], z_g0),
  (159, .iaload, 1, .null, [101], z_g0),
  (160, .iload_n 1, 1, .null, [], z_g0),
  (161, .if_icmp .ne 16, 3, .null, [177], z_g0),
  (164, .lload 8, 2, .null, [], z_g0),
  (166, .aload_n 0, 1, .null, [], z_g0),
  (167, .iload 10, 2, .null, [], z_g0),
  (169, .lload 8, 2, .null, [], z_g0),
  (171, .invokevirtual 63, 3, .null, [1, 5, 0, 0], g_X4_give),
  (174, .lsub, 1, .null, [], z_g0),
  (175, .lstore 8, 2, .null, [], z_g0),
  (177, .iinc 10 1, 3, .int (1 : Int32), [], z_g0),
  (180, .goto (-36), 3, .null, [144], z_g0),
  (183, .lload 8, 2, .null, [], z_g0),
  (185, .lreturn, 1, .null, [], z_g0)]
def a_X4_partRank_9 {ρ : Type} (k : Nat → Int32 → Int64 → Int64 → Int64 → Int32 → z_St → Option ρ) (ls : z_Lv) (st : List Value) (S : z_St) : Option ρ := z_gR ls 0 fun v0 => z_gI ls 1 fun v1 => z_gJ ls 2 fun v2 => z_gJ ls 4 fun v4 => z_gJ ls 6 fun v6 => z_gI ls 8 fun v8 => z_p0 st (k v0 v1 v2 v4 v6 v8 S)
def a_X4_partRank_91 {ρ : Type} (k : Nat → Int32 → Int64 → Int64 → Int64 → Int32 → z_St → Option ρ) (ls : z_Lv) (st : List Value) (S : z_St) : Option ρ := z_gR ls 0 fun v0 => z_gI ls 1 fun v1 => z_gJ ls 2 fun v2 => z_gJ ls 6 fun v6 => z_gJ ls 8 fun v8 => z_gI ls 10 fun v10 => z_p0 st (k v0 v1 v2 v6 v8 v10 S)
def a_X4_partRank_144 {ρ : Type} (k : Nat → Int32 → Int64 → Int32 → z_St → Option ρ) (ls : z_Lv) (st : List Value) (S : z_St) : Option ρ := z_gR ls 0 fun v0 => z_gI ls 1 fun v1 => z_gJ ls 8 fun v8 => z_gI ls 10 fun v10 => z_p0 st (k v0 v1 v8 v10 S)
set_option maxRecDepth 100000 in
theorem r_X4_partRank_144 (n : Nat) (v0 : Nat) (v1 : Int32) (v8 : Int64) (v10 : Int32) (S : z_St) : z_seg z_rL (c_X4_partRank) [9, 91, 144] (fun pc => cond (Nat.beq pc 144) (a_X4_partRank_144 (l_X4_partRank_144 n)) (fun _ _ _ => none)) 104 (z_to 144 (c_X4_partRank)) [(0, .ref v0), (1, .int v1), (8, .long v8), (10, .int v10)] [] S = l_X4_partRank_144 (n + 1) v0 v1 v8 v10 S := rfl
set_option maxRecDepth 100000 in
theorem r_X4_partRank_91 (n : Nat) (v0 : Nat) (v1 : Int32) (v2 : Int64) (v6 : Int64) (v8 : Int64) (v10 : Int32) (S : z_St) : z_seg z_rL (c_X4_partRank) [9, 91, 144] (fun pc => cond (Nat.beq pc 91) (a_X4_partRank_91 (l_X4_partRank_91 n)) (cond (Nat.beq pc 144) (a_X4_partRank_144 (l_X4_partRank_144 z_N)) (fun _ _ _ => none))) 104 (z_to 91 (c_X4_partRank)) [(0, .ref v0), (1, .int v1), (2, .long v2), (6, .long v6), (8, .long v8), (10, .int v10)] [] S = l_X4_partRank_91 (n + 1) v0 v1 v2 v6 v8 v10 S := rfl
set_option maxRecDepth 100000 in
theorem r_X4_partRank_9 (n : Nat) (v0 : Nat) (v1 : Int32) (v2 : Int64) (v4 : Int64) (v6 : Int64) (v8 : Int32) (S : z_St) : z_seg z_rL (c_X4_partRank) [9, 91, 144] (fun pc => cond (Nat.beq pc 9) (a_X4_partRank_9 (l_X4_partRank_9 n)) (cond (Nat.beq pc 91) (a_X4_partRank_91 (l_X4_partRank_91 z_N)) (cond (Nat.beq pc 144) (a_X4_partRank_144 (l_X4_partRank_144 z_N)) (fun _ _ _ => none)))) 104 (z_to 9 (c_X4_partRank)) [(0, .ref v0), (1, .int v1), (2, .long v2), (4, .long v4), (6, .long v6), (8, .int v8)] [] S = l_X4_partRank_9 (n + 1) v0 v1 v2 v4 v6 v8 S := rfl
set_option maxRecDepth 100000 in
theorem r_X4_partRank (v0 : Nat) (v1 : Int32) (v2 : Int64) (S : z_St) : z_seg z_rL (c_X4_partRank) [9, 91, 144] (fun pc => cond (Nat.beq pc 9) (a_X4_partRank_9 (l_X4_partRank_9 z_N)) (fun _ _ _ => none)) 104 (c_X4_partRank) [(0, .ref v0), (1, .int v1), (2, .long v2)] [] S = b_X4_partRank v0 v1 v2 S := rfl
def l_X4_leftOfParting_12 : Nat → Nat → Int64 → Int32 → Int32 → z_St → Option (Int64 × z_St)
  | 0 => fun _ _ _ _ _ => none
  | n + 1 => fun (v0 : Nat) (v3 : Int64) (v5 : Int32) (v6 : Int32) (S : z_St) =>
z_chk S v0 5 (
if ((z_i S v0 11)) ≤ v6 then
(some (v3, S))
else
(if ((100 : Int32)) ≤ v5 then
(some (v3, S))
else
(z_chk S v0 5 (
(f_X4_partRank v0 v5 v3 S).bind fun q2 =>
z_chk q2.2 v0 5 (
(f_X4_nextRank v0 v5 q2.2).bind fun q3 =>
let x4 := v6 + (1 : Int32)
l_X4_leftOfParting_12 n v0 q2.1 q3.1 x4 q3.2)))))
def b_X4_leftOfParting (v0 : Nat) (v1 : Int64) (S : z_St) : Option (Int64 × z_St) :=
z_chk S v0 5 (
(f_X4_nextRank v0 ((-1 : Int32)) S).bind fun q1 =>
l_X4_leftOfParting_12 z_N v0 v1 q1.1 ((0 : Int32)) q1.2)
def f_X4_leftOfParting : Nat → Int64 → z_St → Option (Int64 × z_St) := z_op (b_X4_leftOfParting)
theorem e_X4_leftOfParting (v0 : Nat) (v1 : Int64) (S : z_St) : f_X4_leftOfParting v0 v1 S = b_X4_leftOfParting v0 v1 S := congrFun (congrFun (congrFun (z_op_eq (b_X4_leftOfParting)) v0) v1) S
def g_X4_leftOfParting : z_G := .inr (.inl (fun as S => match as with
  | [.ref v0, .long v1] => f_X4_leftOfParting v0 v1 S
  | _ => none))
def c_X4_leftOfParting : List z_E := [
  (0, .lload_n 1, 1, .null, [], z_g0),
  (1, .lstore_n 3, 1, .null, [], z_g0),
  (2, .aload_n 0, 1, .null, [], z_g0),
  (3, .iconst (-1), 1, .int ((-1 : Int32)), [], z_g0),
  (4, .invokevirtual 55, 3, .null, [1, 5, 0], g_X4_nextRank),
  (7, .istore 5, 2, .null, [], z_g0),
  (9, .iconst 0, 1, .int ((0 : Int32)), [], z_g0),
  (10, .istore 6, 2, .null, [], z_g0),
  (12, .iload 6, 2, .null, [], z_g0),
  (14, .aload_n 0, 1, .null, [], z_g0),
  (15, .getfield 52, 3, .null, [5, 11, 0], z_g0),
  (18, .if_icmp .ge 32, 3, .null, [50], z_g0),
  (21, .iload 5, 2, .null, [], z_g0),
  (23, .bipush 100, 2, .int ((100 : Int32)), [], z_g0),
  (25, .if_icmp .ge 25, 3, .null, [50], z_g0),
  (28, .aload_n 0, 1, .null, [], z_g0),
  (29, .iload 5, 2, .null, [], z_g0),
  (31, .lload_n 3, 1, .null, [], z_g0),
  (32, .invokevirtual 59, 3, .null, [1, 5, 0, 0], g_X4_partRank),
  (35, .lstore_n 3, 1, .null, [], z_g0),
  (36, .aload_n 0, 1, .null, [], z_g0),
  (37, .iload 5, 2, .null, [], z_g0),
  (39, .invokevirtual 55, 3, .null, [1, 5, 0], g_X4_nextRank),
  (42, .istore 5, 2, .null, [], z_g0),
  (44, .iinc 6 1, 3, .int (1 : Int32), [], z_g0),
  (47, .goto (-35), 3, .null, [12], z_g0),
  (50, .lload_n 3, 1, .null, [], z_g0),
  (51, .lreturn, 1, .null, [], z_g0)]
def a_X4_leftOfParting_12 {ρ : Type} (k : Nat → Int64 → Int32 → Int32 → z_St → Option ρ) (ls : z_Lv) (st : List Value) (S : z_St) : Option ρ := z_gR ls 0 fun v0 => z_gJ ls 3 fun v3 => z_gI ls 5 fun v5 => z_gI ls 6 fun v6 => z_p0 st (k v0 v3 v5 v6 S)
set_option maxRecDepth 100000 in
theorem r_X4_leftOfParting_12 (n : Nat) (v0 : Nat) (v3 : Int64) (v5 : Int32) (v6 : Int32) (S : z_St) : z_seg z_rL (c_X4_leftOfParting) [12] (fun pc => cond (Nat.beq pc 12) (a_X4_leftOfParting_12 (l_X4_leftOfParting_12 n)) (fun _ _ _ => none)) 31 (z_to 12 (c_X4_leftOfParting)) [(0, .ref v0), (3, .long v3), (5, .int v5), (6, .int v6)] [] S = l_X4_leftOfParting_12 (n + 1) v0 v3 v5 v6 S := rfl
set_option maxRecDepth 100000 in
theorem r_X4_leftOfParting (v0 : Nat) (v1 : Int64) (S : z_St) : z_seg z_rL (c_X4_leftOfParting) [12] (fun pc => cond (Nat.beq pc 12) (a_X4_leftOfParting_12 (l_X4_leftOfParting_12 z_N)) (fun _ _ _ => none)) 31 (c_X4_leftOfParting) [(0, .ref v0), (1, .long v1)] [] S = b_X4_leftOfParting v0 v1 S := rfl
def b_X5_init (v0 : Nat) (S : z_St) : Option z_St :=
z_chk S v0 6 (
let S1 := z_wi S v0 0 ((12 : Int32))
z_len ((72 : Int32)) 30000 (
let a2 := z_x S1
let S3 := z_new S1 103 ((72 : Int32)).toNatClampNeg
z_chk S3 v0 6 (
let S4 := z_wr S3 v0 1 (some a2)
z_len ((72 : Int32)) 30000 (
let a5 := z_x S4
let S6 := z_new S4 104 ((72 : Int32)).toNatClampNeg
z_chk S6 v0 6 (
let S7 := z_wr S6 v0 2 (some a5)
z_len ((8 : Int32)) 30000 (
let a8 := z_x S7
let S9 := z_new S7 103 ((8 : Int32)).toNatClampNeg
z_chk S9 v0 6 (
let S10 := z_wr S9 v0 3 (some a8)
z_len ((8 : Int32)) 30000 (
let a11 := z_x S10
let S12 := z_new S10 104 ((8 : Int32)).toNatClampNeg
z_chk S12 v0 6 (
let S13 := z_wr S12 v0 4 (some a11)
some S13)))))))))
def f_X5_init : Nat → z_St → Option z_St := z_op (b_X5_init)
theorem e_X5_init (v0 : Nat) (S : z_St) : f_X5_init v0 S = b_X5_init v0 S := congrFun (congrFun (z_op_eq (b_X5_init)) v0) S
def g_X5_init : z_G := .inr (.inr (.inr (fun as S => match as with
  | [.ref v0] => f_X5_init v0 S
  | _ => none)))
def c_X5_init : List z_E := [
  (0, .aload_n 0, 1, .null, [], z_g0),
  (1, .invokespecial 3, 3, .null, [2], z_g0),
  (4, .aload_n 0, 1, .null, [], z_g0),
  (5, .bipush 12, 2, .int ((12 : Int32)), [], z_g0),
  (7, .putfield 11, 3, .null, [6, 0, 0], z_g0),
  (10, .aload_n 0, 1, .null, [], z_g0),
  (11, .bipush 72, 2, .int ((72 : Int32)), [], z_g0),
  (13, .newarray .double, 2, .null, [103], z_g0),
  (15, .putfield 15, 3, .null, [6, 1, 3], z_g0),
  (18, .aload_n 0, 1, .null, [], z_g0),
  (19, .bipush 72, 2, .int ((72 : Int32)), [], z_g0),
  (21, .newarray .boolean, 2, .null, [104], z_g0),
  (23, .putfield 19, 3, .null, [6, 2, 3], z_g0),
  (26, .aload_n 0, 1, .null, [], z_g0),
  (27, .bipush 8, 2, .int ((8 : Int32)), [], z_g0),
  (29, .newarray .double, 2, .null, [103], z_g0),
  (31, .putfield 23, 3, .null, [6, 3, 3], z_g0),
  (34, .aload_n 0, 1, .null, [], z_g0),
  (35, .bipush 8, 2, .int ((8 : Int32)), [], z_g0),
  (37, .newarray .boolean, 2, .null, [104], z_g0),
  (39, .putfield 26, 3, .null, [6, 4, 3], z_g0),
  (42, .return_, 1, .null, [], z_g0)]
set_option maxRecDepth 100000 in
theorem r_X5_init (v0 : Nat) (S : z_St) : z_seg z_rV (c_X5_init) [] (fun pc => fun _ _ _ => none) 25 (c_X5_init) [(0, .ref v0)] [] S = b_X5_init v0 S := rfl
def j_X5_tellInflow_22 (v0 : Nat) (v1 : Int32) (v2 : Int32) (v3 : Int64) (t0 : Nat) (t1 : Int32) (t2 : Int32) (S : z_St) : Option z_St :=
z_inb S t0 104 t1 (
let S4 := z_wi S t0 t1.toNatClampNeg (vp_nar .boolean t2)
z_chk S4 v0 6 (
(f_X11_realOf v3 S4).bind fun q5 =>
z_onV (va_rf (z_r S4 v0 1)) fun b6 =>
z_inb q5.2 b6 103 ((v1 * ((12 : Int32))) + v2) (
let S7 := z_wd q5.2 b6 ((v1 * ((12 : Int32))) + v2).toNatClampNeg q5.1
some S7)))
def b_X5_tellInflow (v0 : Nat) (v1 : Int32) (v2 : Int32) (v3 : Int64) (S : z_St) : Option z_St :=
z_chk S v0 6 (
(f_X11_noNumber v3 S).bind fun q1 =>
if q1.1 = 0 then
(z_onV (va_rf (z_r S v0 2)) fun b3 =>
j_X5_tellInflow_22 v0 v1 v2 v3 b3 ((v1 * ((12 : Int32))) + v2) ((1 : Int32)) q1.2)
else
(z_onV (va_rf (z_r S v0 2)) fun b2 =>
j_X5_tellInflow_22 v0 v1 v2 v3 b2 ((v1 * ((12 : Int32))) + v2) ((0 : Int32)) q1.2))
def f_X5_tellInflow : Nat → Int32 → Int32 → Int64 → z_St → Option z_St := z_op (b_X5_tellInflow)
theorem e_X5_tellInflow (v0 : Nat) (v1 : Int32) (v2 : Int32) (v3 : Int64) (S : z_St) : f_X5_tellInflow v0 v1 v2 v3 S = b_X5_tellInflow v0 v1 v2 v3 S := congrFun (congrFun (congrFun (congrFun (congrFun (z_op_eq (b_X5_tellInflow)) v0) v1) v2) v3) S
def g_X5_tellInflow : z_G := .inr (.inr (.inr (fun as S => match as with
  | [.ref v0, .int v1, .int v2, .long v3] => f_X5_tellInflow v0 v1 v2 v3 S
  | _ => none)))
def c_X5_tellInflow : List z_E := [
  (0, .aload_n 0, 1, .null, [], z_g0),
  (1, .getfield 19, 3, .null, [6, 2, 3], z_g0),
  (4, .iload_n 1, 1, .null, [], z_g0),
  (5, .bipush 12, 2, .int ((12 : Int32)), [], z_g0),
  (7, .imul, 1, .null, [], z_g0),
  (8, .iload_n 2, 1, .null, [], z_g0),
  (9, .iadd, 1, .null, [], z_g0),
  (10, .lload_n 3, 1, .null, [], z_g0),
  (11, .invokestatic 29, 3, .null, [0, 0], g_X11_noNumber),
  (14, .ifCond .ne 7, 3, .null, [21], z_g0),
  (17, .iconst 1, 1, .int ((1 : Int32)), [], z_g0),
  (18, .goto 4, 3, .null, [22], z_g0),
  (21, .iconst 0, 1, .int ((0 : Int32)), [], z_g0),
  (22, .bastore, 1, .null, [104], z_g0),
  (23, .aload_n 0, 1, .null, [], z_g0),
  (24, .getfield 15, 3, .null, [6, 1, 3], z_g0),
  (27, .iload_n 1, 1, .null, [], z_g0),
  (28, .bipush 12, 2, .int ((12 : Int32)), [], z_g0),
  (30, .imul, 1, .null, [], z_g0),
  (31, .iload_n 2, 1, .null, [], z_g0),
  (32, .iadd, 1, .null, [], z_g0),
  (33, .lload_n 3, 1, .null, [], z_g0),
  (34, .invokestatic 33, 3, .null, [0, 0], g_X11_realOf),
  (37, .dastore, 1, .null, [], z_g0),
  (38, .return_, 1, .null, [], z_g0)]
def a_X5_tellInflow_22 {ρ : Type} (k : Nat → Int32 → Int32 → Int64 → Nat → Int32 → Int32 → z_St → Option ρ) (ls : z_Lv) (st : List Value) (S : z_St) : Option ρ := z_gR ls 0 fun v0 => z_gI ls 1 fun v1 => z_gI ls 2 fun v2 => z_gJ ls 3 fun v3 => z_pI st fun t2 s2 => z_pI s2 fun t1 s1 => z_pR s1 fun t0 s0 => z_p0 s0 (k v0 v1 v2 v3 t0 t1 t2 S)
set_option maxRecDepth 100000 in
theorem r_X5_tellInflow_22 (v0 : Nat) (v1 : Int32) (v2 : Int32) (v3 : Int64) (t0 : Nat) (t1 : Int32) (t2 : Int32) (S : z_St) : z_seg z_rV (c_X5_tellInflow) [22] (fun pc => fun _ _ _ => none) 28 (z_to 22 (c_X5_tellInflow)) [(0, .ref v0), (1, .int v1), (2, .int v2), (3, .long v3)] [.int t2, .int t1, .ref t0] S = j_X5_tellInflow_22 v0 v1 v2 v3 t0 t1 t2 S := rfl
set_option maxRecDepth 100000 in
theorem r_X5_tellInflow (v0 : Nat) (v1 : Int32) (v2 : Int32) (v3 : Int64) (S : z_St) : z_seg z_rV (c_X5_tellInflow) [22] (fun pc => cond (Nat.beq pc 22) (a_X5_tellInflow_22 (j_X5_tellInflow_22)) (fun _ _ _ => none)) 28 (c_X5_tellInflow) [(0, .ref v0), (1, .int v1), (2, .int v2), (3, .long v3)] [] S = b_X5_tellInflow v0 v1 v2 v3 S := rfl
def j_X5_tellRelease_17 (v0 : Nat) (v1 : Int32) (v2 : Int64) (t0 : Nat) (t1 : Int32) (t2 : Int32) (S : z_St) : Option z_St :=
z_inb S t0 104 t1 (
let S4 := z_wi S t0 t1.toNatClampNeg (vp_nar .boolean t2)
z_chk S4 v0 6 (
(f_X11_realOf v2 S4).bind fun q5 =>
z_onV (va_rf (z_r S4 v0 3)) fun b6 =>
z_inb q5.2 b6 103 v1 (
let S7 := z_wd q5.2 b6 v1.toNatClampNeg q5.1
some S7)))
def b_X5_tellRelease (v0 : Nat) (v1 : Int32) (v2 : Int64) (S : z_St) : Option z_St :=
z_chk S v0 6 (
(f_X11_noNumber v2 S).bind fun q1 =>
if q1.1 = 0 then
(z_onV (va_rf (z_r S v0 4)) fun b3 =>
j_X5_tellRelease_17 v0 v1 v2 b3 v1 ((1 : Int32)) q1.2)
else
(z_onV (va_rf (z_r S v0 4)) fun b2 =>
j_X5_tellRelease_17 v0 v1 v2 b2 v1 ((0 : Int32)) q1.2))
def f_X5_tellRelease : Nat → Int32 → Int64 → z_St → Option z_St := z_op (b_X5_tellRelease)
theorem e_X5_tellRelease (v0 : Nat) (v1 : Int32) (v2 : Int64) (S : z_St) : f_X5_tellRelease v0 v1 v2 S = b_X5_tellRelease v0 v1 v2 S := congrFun (congrFun (congrFun (congrFun (z_op_eq (b_X5_tellRelease)) v0) v1) v2) S
def g_X5_tellRelease : z_G := .inr (.inr (.inr (fun as S => match as with
  | [.ref v0, .int v1, .long v2] => f_X5_tellRelease v0 v1 v2 S
  | _ => none)))
def c_X5_tellRelease : List z_E := [
  (0, .aload_n 0, 1, .null, [], z_g0),
  (1, .getfield 26, 3, .null, [6, 4, 3], z_g0),
  (4, .iload_n 1, 1, .null, [], z_g0),
  (5, .lload_n 2, 1, .null, [], z_g0),
  (6, .invokestatic 29, 3, .null, [0, 0], g_X11_noNumber),
  (9, .ifCond .ne 7, 3, .null, [16], z_g0),
  (12, .iconst 1, 1, .int ((1 : Int32)), [], z_g0),
  (13, .goto 4, 3, .null, [17], z_g0),
  (16, .iconst 0, 1, .int ((0 : Int32)), [], z_g0),
  (17, .bastore, 1, .null, [104], z_g0),
  (18, .aload_n 0, 1, .null, [], z_g0),
  (19, .getfield 23, 3, .null, [6, 3, 3], z_g0),
  (22, .iload_n 1, 1, .null, [], z_g0),
  (23, .lload_n 2, 1, .null, [], z_g0),
  (24, .invokestatic 33, 3, .null, [0, 0], g_X11_realOf),
  (27, .dastore, 1, .null, [], z_g0),
  (28, .return_, 1, .null, [], z_g0)]
def a_X5_tellRelease_17 {ρ : Type} (k : Nat → Int32 → Int64 → Nat → Int32 → Int32 → z_St → Option ρ) (ls : z_Lv) (st : List Value) (S : z_St) : Option ρ := z_gR ls 0 fun v0 => z_gI ls 1 fun v1 => z_gJ ls 2 fun v2 => z_pI st fun t2 s2 => z_pI s2 fun t1 s1 => z_pR s1 fun t0 s0 => z_p0 s0 (k v0 v1 v2 t0 t1 t2 S)
set_option maxRecDepth 100000 in
theorem r_X5_tellRelease_17 (v0 : Nat) (v1 : Int32) (v2 : Int64) (t0 : Nat) (t1 : Int32) (t2 : Int32) (S : z_St) : z_seg z_rV (c_X5_tellRelease) [17] (fun pc => fun _ _ _ => none) 20 (z_to 17 (c_X5_tellRelease)) [(0, .ref v0), (1, .int v1), (2, .long v2)] [.int t2, .int t1, .ref t0] S = j_X5_tellRelease_17 v0 v1 v2 t0 t1 t2 S := rfl
set_option maxRecDepth 100000 in
theorem r_X5_tellRelease (v0 : Nat) (v1 : Int32) (v2 : Int64) (S : z_St) : z_seg z_rV (c_X5_tellRelease) [17] (fun pc => cond (Nat.beq pc 17) (a_X5_tellRelease_17 (j_X5_tellRelease_17)) (fun _ _ _ => none)) 20 (c_X5_tellRelease) [(0, .ref v0), (1, .int v1), (2, .long v2)] [] S = b_X5_tellRelease v0 v1 v2 S := rfl
def b_X5_hasRelease (v0 : Nat) (v1 : Int32) (S : z_St) : Option (Int32 × z_St) :=
if v1 < 0 then
(z_rb ((0 : Int32)) S)
else
(if ((8 : Int32)) ≤ v1 then
(z_rb ((0 : Int32)) S)
else
(z_chk S v0 6 (
z_onV (va_rf (z_r S v0 4)) fun b1 =>
z_inb S b1 104 v1 (
if ((z_i S b1 v1.toNatClampNeg)) = 0 then
(z_rb ((0 : Int32)) S)
else
(z_rb ((1 : Int32)) S)))))
def f_X5_hasRelease : Nat → Int32 → z_St → Option (Int32 × z_St) := z_op (b_X5_hasRelease)
theorem e_X5_hasRelease (v0 : Nat) (v1 : Int32) (S : z_St) : f_X5_hasRelease v0 v1 S = b_X5_hasRelease v0 v1 S := congrFun (congrFun (congrFun (z_op_eq (b_X5_hasRelease)) v0) v1) S
def g_X5_hasRelease : z_G := .inl (fun as S => match as with
  | [.ref v0, .int v1] => f_X5_hasRelease v0 v1 S
  | _ => none)
def c_X5_hasRelease : List z_E := [
  (0, .iload_n 1, 1, .null, [], z_g0),
  (1, .ifCond .lt 22, 3, .null, [23], z_g0),
  (4, .iload_n 1, 1, .null, [], z_g0),
  (5, .bipush 8, 2, .int ((8 : Int32)), [], z_g0),
  (7, .if_icmp .ge 16, 3, .null, [23], z_g0),
  (10, .aload_n 0, 1, .null, [], z_g0),
  (11, .getfield 26, 3, .null, [6, 4, 3], z_g0),
  (14, .iload_n 1, 1, .null, [], z_g0),
  (15, .baload, 1, .null, [104], z_g0),
  (16, .ifCond .eq 7, 3, .null, [23], z_g0),
  (19, .iconst 1, 1, .int ((1 : Int32)), [], z_g0),
  (20, .goto 4, 3, .null, [24], z_g0),
  (23, .iconst 0, 1, .int ((0 : Int32)), [], z_g0),
  (24, .ireturn, 1, .null, [], z_g0)]
set_option maxRecDepth 100000 in
theorem r_X5_hasRelease (v0 : Nat) (v1 : Int32) (S : z_St) : z_seg z_rZ (c_X5_hasRelease) [] (fun pc => fun _ _ _ => none) 17 (c_X5_hasRelease) [(0, .ref v0), (1, .int v1)] [] S = b_X5_hasRelease v0 v1 S := rfl
def l_X5_lacks_2 : Nat → Nat → Int32 → Int32 → z_St → Option (Int32 × z_St)
  | 0 => fun _ _ _ _ => none
  | n + 1 => fun (v0 : Nat) (v1 : Int32) (v2 : Int32) (S : z_St) =>
z_chk S v0 6 (
if ((z_i S v0 0)) ≤ v2 then
(z_rb ((0 : Int32)) S)
else
(z_chk S v0 6 (
z_onV (va_rf (z_r S v0 2)) fun b1 =>
z_inb S b1 104 ((v1 * ((12 : Int32))) + v2) (
if ((z_i S b1 ((v1 * ((12 : Int32))) + v2).toNatClampNeg)) = 0 then
(z_rb ((1 : Int32)) S)
else
(let x2 := v2 + (1 : Int32)
l_X5_lacks_2 n v0 v1 x2 S)))))
def b_X5_lacks (v0 : Nat) (v1 : Int32) (S : z_St) : Option (Int32 × z_St) :=
l_X5_lacks_2 z_N v0 v1 ((0 : Int32)) S
def f_X5_lacks : Nat → Int32 → z_St → Option (Int32 × z_St) := z_op (b_X5_lacks)
theorem e_X5_lacks (v0 : Nat) (v1 : Int32) (S : z_St) : f_X5_lacks v0 v1 S = b_X5_lacks v0 v1 S := congrFun (congrFun (congrFun (z_op_eq (b_X5_lacks)) v0) v1) S
def g_X5_lacks : z_G := .inl (fun as S => match as with
  | [.ref v0, .int v1] => f_X5_lacks v0 v1 S
  | _ => none)
def c_X5_lacks : List z_E := [
  (0, .iconst 0, 1, .int ((0 : Int32)), [], z_g0),
  (1, .istore_n 2, 1, .null, [], z_g0),
  (2, .iload_n 2, 1, .null, [], z_g0),
  (3, .aload_n 0, 1, .null, [], z_g0),
  (4, .getfield 11, 3, .null, [6, 0, 0], z_g0),
  (7, .if_icmp .ge 25, 3, .null, [32], z_g0),
  (10, .aload_n 0, 1, .null, [], z_g0),
  (11, .getfield 19, 3, .null, [6, 2, 3], z_g0),
  (14, .iload_n 1, 1, .null, [], z_g0),
  (15, .bipush 12, 2, .int ((12 : Int32)), [], z_g0),
  (17, .imul, 1, .null, [], z_g0),
  (18, .iload_n 2, 1, .null, [], z_g0),
  (19, .iadd, 1, .null, [], z_g0),
  (20, .baload, 1, .null, [104], z_g0),
  (21, .ifCond .ne 5, 3, .null, [26], z_g0),
  (24, .iconst 1, 1, .int ((1 : Int32)), [], z_g0),
  (25, .ireturn, 1, .null, [], z_g0),
  (26, .iinc 2 1, 3, .int (1 : Int32), [], z_g0),
  (29, .goto (-27), 3, .null, [2], z_g0),
  (32, .iconst 0, 1, .int ((0 : Int32)), [], z_g0),
  (33, .ireturn, 1, .null, [], z_g0)]
def a_X5_lacks_2 {ρ : Type} (k : Nat → Int32 → Int32 → z_St → Option ρ) (ls : z_Lv) (st : List Value) (S : z_St) : Option ρ := z_gR ls 0 fun v0 => z_gI ls 1 fun v1 => z_gI ls 2 fun v2 => z_p0 st (k v0 v1 v2 S)
set_option maxRecDepth 100000 in
theorem r_X5_lacks_2 (n : Nat) (v0 : Nat) (v1 : Int32) (v2 : Int32) (S : z_St) : z_seg z_rZ (c_X5_lacks) [2] (fun pc => cond (Nat.beq pc 2) (a_X5_lacks_2 (l_X5_lacks_2 n)) (fun _ _ _ => none)) 24 (z_to 2 (c_X5_lacks)) [(0, .ref v0), (1, .int v1), (2, .int v2)] [] S = l_X5_lacks_2 (n + 1) v0 v1 v2 S := rfl
set_option maxRecDepth 100000 in
theorem r_X5_lacks (v0 : Nat) (v1 : Int32) (S : z_St) : z_seg z_rZ (c_X5_lacks) [2] (fun pc => cond (Nat.beq pc 2) (a_X5_lacks_2 (l_X5_lacks_2 z_N)) (fun _ _ _ => none)) 24 (c_X5_lacks) [(0, .ref v0), (1, .int v1)] [] S = b_X5_lacks v0 v1 S := rfl
def b_X5_nextVolume (v0 : Nat) (v1 : UInt64) (v3 : Int32) (v4 : Int32) (v5 : Int32) (S : z_St) : Option (UInt64 × z_St) :=
z_chk S v0 6 (
z_onV (va_rf (z_r S v0 1)) fun b1 =>
z_inb S b1 103 ((v3 * ((12 : Int32))) + v5) (
z_nn (FP.dadd v1 ((z_d S b1 ((v3 * ((12 : Int32))) + v5).toNatClampNeg))) (
z_chk S v0 6 (
z_onV (va_rf (z_r S v0 3)) fun b2 =>
z_inb S b2 103 v4 (
z_nn (FP.dsub (FP.dadd v1 ((z_d S b1 ((v3 * ((12 : Int32))) + v5).toNatClampNeg))) ((z_d S b2 v4.toNatClampNeg))) (
let x3 := FP.dsub (FP.dadd v1 ((z_d S b1 ((v3 * ((12 : Int32))) + v5).toNatClampNeg))) ((z_d S b2 v4.toNatClampNeg))
if 0 ≤ (Op.cmpValue (FP.dcmp x3 FP.dconst0) .g) then
(some (x3, S))
else
(some (FP.dconst0, S))))))))
def f_X5_nextVolume : Nat → UInt64 → Int32 → Int32 → Int32 → z_St → Option (UInt64 × z_St) := z_op (b_X5_nextVolume)
theorem e_X5_nextVolume (v0 : Nat) (v1 : UInt64) (v3 : Int32) (v4 : Int32) (v5 : Int32) (S : z_St) : f_X5_nextVolume v0 v1 v3 v4 v5 S = b_X5_nextVolume v0 v1 v3 v4 v5 S := congrFun (congrFun (congrFun (congrFun (congrFun (congrFun (z_op_eq (b_X5_nextVolume)) v0) v1) v3) v4) v5) S
def g_X5_nextVolume : z_G := .inr (.inr (.inl (fun as S => match as with
  | [.ref v0, .double v1, .int v3, .int v4, .int v5] => f_X5_nextVolume v0 v1 v3 v4 v5 S
  | _ => none)))
def c_X5_nextVolume : List z_E := [
  (0, .dload_n 1, 1, .null, [], z_g0),
  (1, .aload_n 0, 1, .null, [], z_g0),
  (2, .getfield 15, 3, .null, [6, 1, 3], z_g0),
  (5, .iload_n 3, 1, .null, [], z_g0),
  (6, .bipush 12, 2, .int ((12 : Int32)), [], z_g0),
  (8, .imul, 1, .null, [], z_g0),
  (9, .iload 5, 2, .null, [], z_g0),
  (11, .iadd, 1, .null, [], z_g0),
  (12, .daload, 1, .null, [], z_g0),
  (13, .dadd, 1, .null, [], z_g0),
  (14, .aload_n 0, 1, .null, [], z_g0),
  (15, .getfield 23, 3, .null, [6, 3, 3], z_g0),
  (18, .iload 4, 2, .null, [], z_g0),
  (20, .daload, 1, .null, [], z_g0),
  (21, .dsub, 1, .null, [], z_g0),
  (22, .dstore 6, 2, .null, [], z_g0),
  (24, .dload 6, 2, .null, [], z_g0),
  (26, .dconst 0, 1, .double FP.dconst0, [], z_g0),
  (27, .dcmp .g, 1, .null, [], z_g0),
  (28, .ifCond .ge 7, 3, .null, [35], z_g0),
  (31, .dconst 0, 1, .double FP.dconst0, [], z_g0),
  (32, .goto 5, 3, .null, [37], z_g0),
  (35, .dload 6, 2, .null, [], z_g0),
  (37, .dreturn, 1, .null, [], z_g0)]
set_option maxRecDepth 100000 in
theorem r_X5_nextVolume (v0 : Nat) (v1 : UInt64) (v3 : Int32) (v4 : Int32) (v5 : Int32) (S : z_St) : z_seg z_rD (c_X5_nextVolume) [] (fun pc => fun _ _ _ => none) 27 (c_X5_nextVolume) [(0, .ref v0), (1, .double v1), (3, .int v3), (4, .int v4), (5, .int v5)] [] S = b_X5_nextVolume v0 v1 v3 v4 v5 S := rfl
def l_X5_volumeBehind_6 : Nat → Nat → Int32 → Int32 → Int32 → UInt64 → Int32 → z_St → Option (UInt64 × z_St)
  | 0 => fun _ _ _ _ _ _ _ => none
  | n + 1 => fun (v0 : Nat) (v3 : Int32) (v4 : Int32) (v5 : Int32) (v6 : UInt64) (v8 : Int32) (S : z_St) =>
if v5 < v8 then
(some (v6, S))
else
(z_chk S v0 6 (
(f_X5_nextVolume v0 v6 v3 v4 v8 S).bind fun q1 =>
let x2 := v8 + (1 : Int32)
l_X5_volumeBehind_6 n v0 v3 v4 v5 q1.1 x2 q1.2))
def b_X5_volumeBehind (v0 : Nat) (v1 : UInt64) (v3 : Int32) (v4 : Int32) (v5 : Int32) (S : z_St) : Option (UInt64 × z_St) :=
l_X5_volumeBehind_6 z_N v0 v3 v4 v5 v1 ((0 : Int32)) S
def f_X5_volumeBehind : Nat → UInt64 → Int32 → Int32 → Int32 → z_St → Option (UInt64 × z_St) := z_op (b_X5_volumeBehind)
theorem e_X5_volumeBehind (v0 : Nat) (v1 : UInt64) (v3 : Int32) (v4 : Int32) (v5 : Int32) (S : z_St) : f_X5_volumeBehind v0 v1 v3 v4 v5 S = b_X5_volumeBehind v0 v1 v3 v4 v5 S := congrFun (congrFun (congrFun (congrFun (congrFun (congrFun (z_op_eq (b_X5_volumeBehind)) v0) v1) v3) v4) v5) S
def g_X5_volumeBehind : z_G := .inr (.inr (.inl (fun as S => match as with
  | [.ref v0, .double v1, .int v3, .int v4, .int v5] => f_X5_volumeBehind v0 v1 v3 v4 v5 S
  | _ => none)))
def c_X5_volumeBehind : List z_E := [
  (0, .dload_n 1, 1, .null, [], z_g0),
  (1, .dstore 6, 2, .null, [], z_g0),
  (3, .iconst 0, 1, .int ((0 : Int32)), [], z_g0),
  (4, .istore 8, 2, .null, [], z_g0),
  (6, .iload 8, 2, .null, [], z_g0),
  (8, .iload 5, 2, .null, [], z_g0),
  (10, .if_icmp .gt 22, 3, .null, [32], z_g0),
  (13, .aload_n 0, 1, .null, [], z_g0),
  (14, .dload 6, 2, .null, [], z_g0),
  (16, .iload_n 3, 1, .null, [], z_g0),
  (17, .iload 4, 2, .null, [], z_g0),
  (19, .iload 8, 2, .null, [], z_g0),
  (21, .invokevirtual 37, 3, .null, [1, 6, 0, 0, 0, 0], g_X5_nextVolume),
  (24, .dstore 6, 2, .null, [], z_g0),
  (26, .iinc 8 1, 3, .int (1 : Int32), [], z_g0),
  (29, .goto (-23), 3, .null, [6], z_g0),
  (32, .dload 6, 2, .null, [], z_g0),
  (34, .dreturn, 1, .null, [], z_g0)]
def a_X5_volumeBehind_6 {ρ : Type} (k : Nat → Int32 → Int32 → Int32 → UInt64 → Int32 → z_St → Option ρ) (ls : z_Lv) (st : List Value) (S : z_St) : Option ρ := z_gR ls 0 fun v0 => z_gI ls 3 fun v3 => z_gI ls 4 fun v4 => z_gI ls 5 fun v5 => z_gD ls 6 fun v6 => z_gI ls 8 fun v8 => z_p0 st (k v0 v3 v4 v5 v6 v8 S)
set_option maxRecDepth 100000 in
theorem r_X5_volumeBehind_6 (n : Nat) (v0 : Nat) (v3 : Int32) (v4 : Int32) (v5 : Int32) (v6 : UInt64) (v8 : Int32) (S : z_St) : z_seg z_rD (c_X5_volumeBehind) [6] (fun pc => cond (Nat.beq pc 6) (a_X5_volumeBehind_6 (l_X5_volumeBehind_6 n)) (fun _ _ _ => none)) 21 (z_to 6 (c_X5_volumeBehind)) [(0, .ref v0), (3, .int v3), (4, .int v4), (5, .int v5), (6, .double v6), (8, .int v8)] [] S = l_X5_volumeBehind_6 (n + 1) v0 v3 v4 v5 v6 v8 S := rfl
set_option maxRecDepth 100000 in
theorem r_X5_volumeBehind (v0 : Nat) (v1 : UInt64) (v3 : Int32) (v4 : Int32) (v5 : Int32) (S : z_St) : z_seg z_rD (c_X5_volumeBehind) [6] (fun pc => cond (Nat.beq pc 6) (a_X5_volumeBehind_6 (l_X5_volumeBehind_6 z_N)) (fun _ _ _ => none)) 21 (c_X5_volumeBehind) [(0, .ref v0), (1, .double v1), (3, .int v3), (4, .int v4), (5, .int v5)] [] S = b_X5_volumeBehind v0 v1 v3 v4 v5 S := rfl
def b_X6_unitsAt (v0 : Int32) (S : z_St) : Option (Int32 × z_St) :=
some (((((1000 : Int32)) * v0) * v0) + (((2000 : Int32)) * v0), S)
def f_X6_unitsAt : Int32 → z_St → Option (Int32 × z_St) := z_op (b_X6_unitsAt)
theorem e_X6_unitsAt (v0 : Int32) (S : z_St) : f_X6_unitsAt v0 S = b_X6_unitsAt v0 S := congrFun (congrFun (z_op_eq (b_X6_unitsAt)) v0) S
def g_X6_unitsAt : z_G := .inl (fun as S => match as with
  | [.int v0] => f_X6_unitsAt v0 S
  | _ => none)
def c_X6_unitsAt : List z_E := [
  (0, .sipush 1000, 3, .int ((1000 : Int32)), [], z_g0),
  (3, .iload_n 0, 1, .null, [], z_g0),
  (4, .imul, 1, .null, [], z_g0),
  (5, .iload_n 0, 1, .null, [], z_g0),
  (6, .imul, 1, .null, [], z_g0),
  (7, .sipush 2000, 3, .int ((2000 : Int32)), [], z_g0),
  (10, .iload_n 0, 1, .null, [], z_g0),
  (11, .imul, 1, .null, [], z_g0),
  (12, .iadd, 1, .null, [], z_g0),
  (13, .ireturn, 1, .null, [], z_g0)]
set_option maxRecDepth 100000 in
theorem r_X6_unitsAt (v0 : Int32) (S : z_St) : z_seg z_rI (c_X6_unitsAt) [] (fun pc => fun _ _ _ => none) 13 (c_X6_unitsAt) [(0, .int v0)] [] S = b_X6_unitsAt v0 S := rfl
def l_X5_lossOf_17 : Nat → Nat → Int32 → Int32 → UInt64 → UInt64 → UInt64 → Int32 → z_St → Option (UInt64 × z_St)
  | 0 => fun _ _ _ _ _ _ _ _ => none
  | n + 1 => fun (v0 : Nat) (v3 : Int32) (v4 : Int32) (v5 : UInt64) (v7 : UInt64) (v9 : UInt64) (v11 : Int32) (S : z_St) =>
z_chk S v0 6 (
if ((z_i S v0 0)) ≤ v11 then
(z_nn (FP.dmul v9 v9) (
z_chk S v0 6 (
z_onV (va_rf (z_r S v0 3)) fun b3 =>
z_inb S b3 103 v4 (
z_nn (FP.dmul ((z_d S b3 v4.toNatClampNeg)) ((4621819117588971520 : UInt64))) (
z_nn (FP.dadd (FP.dmul v9 v9) (FP.dmul ((z_d S b3 v4.toNatClampNeg)) ((4621819117588971520 : UInt64)))) (
some (FP.dadd (FP.dmul v9 v9) (FP.dmul ((z_d S b3 v4.toNatClampNeg)) ((4621819117588971520 : UInt64))), S)))))))
else
(z_chk S v0 6 (
(f_X5_nextVolume v0 v7 v3 v4 v11 S).bind fun q4 =>
z_nn (FP.dsub q4.1 v5) (
let x5 := FP.dsub q4.1 v5
if (Op.cmpValue (FP.dcmp x5 v9) .l) ≤ 0 then
(let x6 := v11 + (1 : Int32)
l_X5_lossOf_17 n v0 v3 v4 v5 q4.1 v9 x6 q4.2)
else
(let x7 := v11 + (1 : Int32)
l_X5_lossOf_17 n v0 v3 v4 v5 q4.1 x5 x7 q4.2)))))
def b_X5_lossOf (v0 : Nat) (v1 : UInt64) (v3 : Int32) (v4 : Int32) (S : z_St) : Option (UInt64 × z_St) :=
(f_X6_unitsAt ((30 : Int32)) S).bind fun q1 =>
let x2 := FP.i2d q1.1
l_X5_lossOf_17 z_N v0 v3 v4 x2 v1 FP.dconst0 ((0 : Int32)) q1.2
def f_X5_lossOf : Nat → UInt64 → Int32 → Int32 → z_St → Option (UInt64 × z_St) := z_op (b_X5_lossOf)
theorem e_X5_lossOf (v0 : Nat) (v1 : UInt64) (v3 : Int32) (v4 : Int32) (S : z_St) : f_X5_lossOf v0 v1 v3 v4 S = b_X5_lossOf v0 v1 v3 v4 S := congrFun (congrFun (congrFun (congrFun (congrFun (z_op_eq (b_X5_lossOf)) v0) v1) v3) v4) S
def g_X5_lossOf : z_G := .inr (.inr (.inl (fun as S => match as with
  | [.ref v0, .double v1, .int v3, .int v4] => f_X5_lossOf v0 v1 v3 v4 S
  | _ => none)))
def c_X5_lossOf : List z_E := [
  (0, .bipush 30, 2, .int ((30 : Int32)), [], z_g0),
  (2, .invokestatic 41, 3, .null, [0, 0], g_X6_unitsAt),
  (5, .i2d, 1, .null, [], z_g0),
  (6, .dstore 5, 2, .null, [], z_g0),
  (8, .dload_n 1, 1, .null, [], z_g0),
  (9, .dstore 7, 2, .null, [], z_g0),
  (11, .dconst 0, 1, .double FP.dconst0, [], z_g0),
  (12, .dstore 9, 2, .null, [], z_g0),
  (14, .iconst 0, 1, .int ((0 : Int32)), [], z_g0),
  (15, .istore 11, 2, .null, [], z_g0),
  (17, .iload 11, 2, .null, [], z_g0),
  (19, .aload_n 0, 1, .null, [], z_g0),
  (20, .getfield 11, 3, .null, [6, 0, 0], z_g0),
  (23, .if_icmp .ge 41, 3, .null, [64], z_g0),
  (26, .aload_n 0, 1, .null, [], z_g0),
  (27, .dload 7, 2, .null, [], z_g0),
  (29, .iload_n 3, 1, .null, [], z_g0),
  (30, .iload 4, 2, .null, [], z_g0),
  (32, .iload 11, 2, .null, [], z_g0),
  (34, .invokevirtual 37, 3, .null, [1, 6, 0, 0, 0, 0], g_X5_nextVolume),
  (37, .dstore 7, 2, .null, [], z_g0),
  (39, .dload 7, 2, .null, [], z_g0),
  (41, .dload 5, 2, .null, [], z_g0),
  (43, .dsub, 1, .null, [], z_g0),
  (44, .dstore 12, 2, .null, [], z_g0),
  (46, .dload 12, 2, .null, [], z_g0),
  (48, .dload 9, 2, .null, [], z_g0),
  (50, .dcmp .l, 1, .null, [], z_g0),
  (51, .ifCond .le 7, 3, .null, [58], z_g0),
  (54, .dload 12, 2, .null, [], z_g0),
  (56, .dstore 9, 2, .null, [], z_g0),
  (58, .iinc 11 1, 3, .int (1 : Int32), [], z_g0),
  (61, .goto (-44), 3, .null, [17], z_g0),
  (64, .dload 9, 2, .null, [], z_g0),
  (66, .dload 9, 2, .null, [], z_g0),
  (68, .dmul, 1, .null, [], z_g0),
  (69, .aload_n 0, 1, .null, [], z_g0),
  (70, .getfield 23, 3, .null, [6, 3, 3], z_g0),
  (73, .iload 4, 2, .null, [], z_g0),
  (75, .daload, 1, .null, [], z_g0),
  (76, .ldc2_w 47, 3, .double (4621819117588971520 : UInt64), [], z_g0),
  (79, .dmul, 1, .null, [], z_g0),
  (80, .dadd, 1, .null, [], z_g0),
  (81, .dreturn, 1, .null, [], z_g0)]
def a_X5_lossOf_17 {ρ : Type} (k : Nat → Int32 → Int32 → UInt64 → UInt64 → UInt64 → Int32 → z_St → Option ρ) (ls : z_Lv) (st : List Value) (S : z_St) : Option ρ := z_gR ls 0 fun v0 => z_gI ls 3 fun v3 => z_gI ls 4 fun v4 => z_gD ls 5 fun v5 => z_gD ls 7 fun v7 => z_gD ls 9 fun v9 => z_gI ls 11 fun v11 => z_p0 st (k v0 v3 v4 v5 v7 v9 v11 S)
set_option maxRecDepth 100000 in
theorem r_X5_lossOf_17 (n : Nat) (v0 : Nat) (v3 : Int32) (v4 : Int32) (v5 : UInt64) (v7 : UInt64) (v9 : UInt64) (v11 : Int32) (S : z_St) : z_seg z_rD (c_X5_lossOf) [17] (fun pc => cond (Nat.beq pc 17) (a_X5_lossOf_17 (l_X5_lossOf_17 n)) (fun _ _ _ => none)) 47 (z_to 17 (c_X5_lossOf)) [(0, .ref v0), (3, .int v3), (4, .int v4), (5, .double v5), (7, .double v7), (9, .double v9), (11, .int v11)] [] S = l_X5_lossOf_17 (n + 1) v0 v3 v4 v5 v7 v9 v11 S := rfl
set_option maxRecDepth 100000 in
theorem r_X5_lossOf (v0 : Nat) (v1 : UInt64) (v3 : Int32) (v4 : Int32) (S : z_St) : z_seg z_rD (c_X5_lossOf) [17] (fun pc => cond (Nat.beq pc 17) (a_X5_lossOf_17 (l_X5_lossOf_17 z_N)) (fun _ _ _ => none)) 47 (c_X5_lossOf) [(0, .ref v0), (1, .double v1), (3, .int v3), (4, .int v4)] [] S = b_X5_lossOf v0 v1 v3 v4 S := rfl
def l_X5_regretOf_6 : Nat → Nat → UInt64 → Int32 → UInt64 → Int32 → z_St → Option (UInt64 × z_St)
  | 0 => fun _ _ _ _ _ _ => none
  | n + 1 => fun (v0 : Nat) (v1 : UInt64) (v3 : Int32) (v4 : UInt64) (v6 : Int32) (S : z_St) =>
if ((6 : Int32)) ≤ v6 then
(some (v4, S))
else
(z_chk S v0 6 (
(f_X5_lacks v0 v6 S).bind fun q1 =>
if q1.1 = 0 then
(z_chk q1.2 v0 6 (
(f_X5_lossOf v0 v1 v6 v3 q1.2).bind fun q2 =>
if (Op.cmpValue (FP.dcmp q2.1 v4) .l) ≤ 0 then
(let x3 := v6 + (1 : Int32)
l_X5_regretOf_6 n v0 v1 v3 v4 x3 q2.2)
else
(let x4 := v6 + (1 : Int32)
l_X5_regretOf_6 n v0 v1 v3 q2.1 x4 q2.2)))
else
(let x5 := v6 + (1 : Int32)
l_X5_regretOf_6 n v0 v1 v3 v4 x5 q1.2)))
def b_X5_regretOf (v0 : Nat) (v1 : UInt64) (v3 : Int32) (S : z_St) : Option (UInt64 × z_St) :=
l_X5_regretOf_6 z_N v0 v1 v3 FP.dconst0 ((0 : Int32)) S
def f_X5_regretOf : Nat → UInt64 → Int32 → z_St → Option (UInt64 × z_St) := z_op (b_X5_regretOf)
theorem e_X5_regretOf (v0 : Nat) (v1 : UInt64) (v3 : Int32) (S : z_St) : f_X5_regretOf v0 v1 v3 S = b_X5_regretOf v0 v1 v3 S := congrFun (congrFun (congrFun (congrFun (z_op_eq (b_X5_regretOf)) v0) v1) v3) S
def g_X5_regretOf : z_G := .inr (.inr (.inl (fun as S => match as with
  | [.ref v0, .double v1, .int v3] => f_X5_regretOf v0 v1 v3 S
  | _ => none)))
def c_X5_regretOf : List z_E := [
  (0, .dconst 0, 1, .double FP.dconst0, [], z_g0),
  (1, .dstore 4, 2, .null, [], z_g0),
  (3, .iconst 0, 1, .int ((0 : Int32)), [], z_g0),
  (4, .istore 6, 2, .null, [], z_g0),
  (6, .iload 6, 2, .null, [], z_g0),
  (8, .bipush 6, 2, .int ((6 : Int32)), [], z_g0),
  (10, .if_icmp .ge 43, 3, .null, [53], z_g0),
  (13, .aload_n 0, 1, .null, [], z_g0),
  (14, .iload 6, 2, .null, [], z_g0),
  (16, .invokevirtual 49, 3, .null, [1, 6, 0], g_X5_lacks),
  (19, .ifCond .eq 6, 3, .null, [25], z_g0),
  (22, .goto 25, 3, .null, [47], z_g0),
  (25, .aload_n 0, 1, .null, [], z_g0),
  (26, .dload_n 1, 1, .null, [], z_g0),
  (27, .iload 6, 2, .null, [], z_g0),
  (29, .iload_n 3, 1, .null, [], z_g0),
  (30, .invokevirtual 53, 3, .null, [1, 6, 0, 0, 0], g_X5_lossOf),
  (33, .dstore 7, 2, .null, [], z_g0),
  (35, .dload 7, 2, .null, [], z_g0),
  (37, .dload 4, 2, .null, [], z_g0),
  (39, .dcmp .l, 1, .null, [], z_g0),
  (40, .ifCond .le 7, 3, .null, [47], z_g0),
  (43, .dload 7, 2, .null, [], z_g0),
  (45, .dstore 4, 2, .null, [], z_g0),
  (47, .iinc 6 1, 3, .int (1 : Int32), [], z_g0),
  (50, .goto (-44), 3, .null, [6], z_g0),
  (53, .dload 4, 2, .null, [], z_g0),
  (55, .dreturn, 1, .null, [], z_g0)]
def a_X5_regretOf_6 {ρ : Type} (k : Nat → UInt64 → Int32 → UInt64 → Int32 → z_St → Option ρ) (ls : z_Lv) (st : List Value) (S : z_St) : Option ρ := z_gR ls 0 fun v0 => z_gD ls 1 fun v1 => z_gI ls 3 fun v3 => z_gD ls 4 fun v4 => z_gI ls 6 fun v6 => z_p0 st (k v0 v1 v3 v4 v6 S)
set_option maxRecDepth 100000 in
theorem r_X5_regretOf_6 (n : Nat) (v0 : Nat) (v1 : UInt64) (v3 : Int32) (v4 : UInt64) (v6 : Int32) (S : z_St) : z_seg z_rD (c_X5_regretOf) [6] (fun pc => cond (Nat.beq pc 6) (a_X5_regretOf_6 (l_X5_regretOf_6 n)) (fun _ _ _ => none)) 31 (z_to 6 (c_X5_regretOf)) [(0, .ref v0), (1, .double v1), (3, .int v3), (4, .double v4), (6, .int v6)] [] S = l_X5_regretOf_6 (n + 1) v0 v1 v3 v4 v6 S := rfl
set_option maxRecDepth 100000 in
theorem r_X5_regretOf (v0 : Nat) (v1 : UInt64) (v3 : Int32) (S : z_St) : z_seg z_rD (c_X5_regretOf) [6] (fun pc => cond (Nat.beq pc 6) (a_X5_regretOf_6 (l_X5_regretOf_6 z_N)) (fun _ _ _ => none)) 31 (c_X5_regretOf) [(0, .ref v0), (1, .double v1), (3, .int v3)] [] S = b_X5_regretOf v0 v1 v3 S := rfl
def l_X5_leastRegret_8 : Nat → Nat → UInt64 → Int32 → UInt64 → Int32 → z_St → Option (Int32 × z_St)
  | 0 => fun _ _ _ _ _ _ => none
  | n + 1 => fun (v0 : Nat) (v1 : UInt64) (v3 : Int32) (v4 : UInt64) (v6 : Int32) (S : z_St) =>
if ((8 : Int32)) ≤ v6 then
(some (v3, S))
else
(z_chk S v0 6 (
z_onV (va_rf (z_r S v0 4)) fun b1 =>
z_inb S b1 104 v6 (
if ((z_i S b1 v6.toNatClampNeg)) = 0 then
(let x10 := v6 + (1 : Int32)
l_X5_leastRegret_8 n v0 v1 v3 v4 x10 S)
else
(z_chk S v0 6 (
(f_X5_regretOf v0 v1 v6 S).bind fun q2 =>
if v3 = ((-1 : Int32)) then
(let x3 := v6 + (1 : Int32)
l_X5_leastRegret_8 n v0 v1 v6 q2.1 x3 q2.2)
else
(if (Op.cmpValue (FP.dcmp q2.1 v4) .g) < 0 then
(let x4 := v6 + (1 : Int32)
l_X5_leastRegret_8 n v0 v1 v6 q2.1 x4 q2.2)
else
(if (Op.cmpValue (FP.dcmp q2.1 v4) .l) = 0 then
(z_chk q2.2 v0 6 (
z_onV (va_rf (z_r q2.2 v0 3)) fun b6 =>
z_inb q2.2 b6 103 v6 (
z_chk q2.2 v0 6 (
z_onV (va_rf (z_r q2.2 v0 3)) fun b7 =>
z_inb q2.2 b7 103 v3 (
if 0 ≤ (Op.cmpValue (FP.dcmp ((z_d q2.2 b6 v6.toNatClampNeg)) ((z_d q2.2 b7 v3.toNatClampNeg))) .g) then
(let x8 := v6 + (1 : Int32)
l_X5_leastRegret_8 n v0 v1 v3 v4 x8 q2.2)
else
(let x9 := v6 + (1 : Int32)
l_X5_leastRegret_8 n v0 v1 v6 q2.1 x9 q2.2))))))
else
(let x5 := v6 + (1 : Int32)
l_X5_leastRegret_8 n v0 v1 v3 v4 x5 q2.2))))))))
def b_X5_leastRegret (v0 : Nat) (v1 : UInt64) (S : z_St) : Option (Int32 × z_St) :=
l_X5_leastRegret_8 z_N v0 v1 ((-1 : Int32)) FP.dconst0 ((0 : Int32)) S
def f_X5_leastRegret : Nat → UInt64 → z_St → Option (Int32 × z_St) := z_op (b_X5_leastRegret)
theorem e_X5_leastRegret (v0 : Nat) (v1 : UInt64) (S : z_St) : f_X5_leastRegret v0 v1 S = b_X5_leastRegret v0 v1 S := congrFun (congrFun (congrFun (z_op_eq (b_X5_leastRegret)) v0) v1) S
def g_X5_leastRegret : z_G := .inl (fun as S => match as with
  | [.ref v0, .double v1] => f_X5_leastRegret v0 v1 S
  | _ => none)
def c_X5_leastRegret : List z_E := [
  (0, .iconst (-1), 1, .int ((-1 : Int32)), [], z_g0),
  (1, .istore_n 3, 1, .null, [], z_g0),
  (2, .dconst 0, 1, .double FP.dconst0, [], z_g0),
  (3, .dstore 4, 2, .null, [], z_g0),
  (5, .iconst 0, 1, .int ((0 : Int32)), [], z_g0),
  (6, .istore 6, 2, .null, [], z_g0),
  (8, .iload 6, 2, .null, [], z_g0),
  (10, .bipush 8, 2, .int ((8 : Int32)), [], z_g0),
  (12, .if_icmp .ge 76, 3, .null, [88], z_g0),
  (15, .aload_n 0, 1, .null, [], z_g0),
  (16, .getfield 26, 3, .null, [6, 4, 3], z_g0),
  (19, .iload 6, 2, .null, [], z_g0),
  (21, .baload, 1, .null, [104], z_g0),
  (22, .ifCond .ne 6, 3, .null, [28], z_g0),
  (25, .goto 57, 3, .null, [82], z_g0),
  (28, .aload_n 0, 1, .null, [], z_g0),
  (29, .dload_n 1, 1, .null, [], z_g0),
  (30, .iload 6, 2, .null, [], z_g0),
  (32, .invokevirtual 57, 3, .null, [1, 6, 0, 0], g_X5_regretOf),
  (35, .dstore 7, 2, .null, [], z_g0),
  (37, .iload_n 3, 1, .null, [], z_g0),
  (38, .iconst (-1), 1, .int ((-1 : Int32)), [], z_g0),
  (39, .if_icmp .eq 36, 3, .null, [75], z_g0),
  (42, .dload 7, 2, .null, [], z_g0),
  (44, .dload 4, 2, .null, [], z_g0),
  (46, .dcmp .g, 1, .null, [], z_g0),
  (47, .ifCond .lt 28, 3, .null, [75], z_g0),
  (50, .dload 7, 2, .null, [], z_g0),
  (52, .dload 4, 2, .null, [], z_g0),
  (54, .dcmp .l, 1, .null, [], z_g0),
  (55, .ifCond .ne 27, 3, .null, [82], z_g0),
  (58, .aload_n 0, 1, .null, [], z_g0),
  (59, .getfield 23, 3, .null, [6, 3, 3], z_g0),
  (62, .iload 6, 2, .null, [], z_g0),
  (64, .daload, 1, .null, [], z_g0),
  (65, .aload_n 0, 1, .null, [], z_g0),
  (66, .getfield 23, 3, .null, [6, 3, 3], z_g0),
  (69, .iload_n 3, 1, .null, [], z_g0),
  (70, .daload, 1, .null, [], z_g0),
  (71, .dcmp .g, 1, .null, [], z_g0),
  (72, .ifCond .ge 10, 3, .null, [82], z_g0),
  (75, .iload 6, 2, .null, [], z_g0),
  (77, .istore_n 3, 1, .null, [], z_g0),
  (78, .dload 7, 2, .null, [], z_g0),
  (80, .dstore 4, 2, .null, [], z_g0),
  (82, .iinc 6 1, 3, .int (1 : Int32), [], z_g0),
  (85, .goto (-77), 3, .null, [8], z_g0),
  (88, .iload_n 3, 1, .null, [], z_g0),
  (89, .ireturn, 1, .null, [], z_g0)]
def a_X5_leastRegret_8 {ρ : Type} (k : Nat → UInt64 → Int32 → UInt64 → Int32 → z_St → Option ρ) (ls : z_Lv) (st : List Value) (S : z_St) : Option ρ := z_gR ls 0 fun v0 => z_gD ls 1 fun v1 => z_gI ls 3 fun v3 => z_gD ls 4 fun v4 => z_gI ls 6 fun v6 => z_p0 st (k v0 v1 v3 v4 v6 S)
set_option maxRecDepth 100000 in
theorem r_X5_leastRegret_8 (n : Nat) (v0 : Nat) (v1 : UInt64) (v3 : Int32) (v4 : UInt64) (v6 : Int32) (S : z_St) : z_seg z_rI (c_X5_leastRegret) [8] (fun pc => cond (Nat.beq pc 8) (a_X5_leastRegret_8 (l_X5_leastRegret_8 n)) (fun _ _ _ => none)) 52 (z_to 8 (c_X5_leastRegret)) [(0, .ref v0), (1, .double v1), (3, .int v3), (4, .double v4), (6, .int v6)] [] S = l_X5_leastRegret_8 (n + 1) v0 v1 v3 v4 v6 S := rfl
set_option maxRecDepth 100000 in
theorem r_X5_leastRegret (v0 : Nat) (v1 : UInt64) (S : z_St) : z_seg z_rI (c_X5_leastRegret) [8] (fun pc => cond (Nat.beq pc 8) (a_X5_leastRegret_8 (l_X5_leastRegret_8 z_N)) (fun _ _ _ => none)) 52 (c_X5_leastRegret) [(0, .ref v0), (1, .double v1)] [] S = b_X5_leastRegret v0 v1 S := rfl
def l_X5_peakHour_14 : Nat → Nat → Int32 → Int32 → Int32 → z_St → Option (Int32 × z_St)
  | 0 => fun _ _ _ _ _ => none
  | n + 1 => fun (v0 : Nat) (v1 : Int32) (v2 : Int32) (v3 : Int32) (S : z_St) =>
z_chk S v0 6 (
if ((z_i S v0 0)) ≤ v3 then
(some (v2, S))
else
(z_chk S v0 6 (
z_onV (va_rf (z_r S v0 1)) fun b2 =>
z_inb S b2 103 ((v1 * ((12 : Int32))) + v3) (
z_chk S v0 6 (
z_onV (va_rf (z_r S v0 1)) fun b3 =>
z_inb S b3 103 ((v1 * ((12 : Int32))) + v2) (
if (Op.cmpValue (FP.dcmp ((z_d S b2 ((v1 * ((12 : Int32))) + v3).toNatClampNeg)) ((z_d S b3 ((v1 * ((12 : Int32))) + v2).toNatClampNeg))) .l) ≤ 0 then
(let x4 := v3 + (1 : Int32)
l_X5_peakHour_14 n v0 v1 v2 x4 S)
else
(let x5 := v3 + (1 : Int32)
l_X5_peakHour_14 n v0 v1 v3 x5 S)))))))
def b_X5_peakHour (v0 : Nat) (v1 : Int32) (S : z_St) : Option (Int32 × z_St) :=
z_chk S v0 6 (
(f_X5_lacks v0 v1 S).bind fun q1 =>
if q1.1 = 0 then
(l_X5_peakHour_14 z_N v0 v1 ((0 : Int32)) ((1 : Int32)) q1.2)
else
(some ((-1 : Int32), q1.2)))
def f_X5_peakHour : Nat → Int32 → z_St → Option (Int32 × z_St) := z_op (b_X5_peakHour)
theorem e_X5_peakHour (v0 : Nat) (v1 : Int32) (S : z_St) : f_X5_peakHour v0 v1 S = b_X5_peakHour v0 v1 S := congrFun (congrFun (congrFun (z_op_eq (b_X5_peakHour)) v0) v1) S
def g_X5_peakHour : z_G := .inl (fun as S => match as with
  | [.ref v0, .int v1] => f_X5_peakHour v0 v1 S
  | _ => none)
def c_X5_peakHour : List z_E := [
  (0, .aload_n 0, 1, .null, [], z_g0),
  (1, .iload_n 1, 1, .null, [], z_g0),
  (2, .invokevirtual 49, 3, .null, [1, 6, 0], g_X5_lacks),
  (5, .ifCond .eq 5, 3, .null, [10], z_g0),
  (8, .iconst (-1), 1, .int ((-1 : Int32)), [], z_g0),
  (9, .ireturn, 1, .null, [], z_g0),
  (10, .iconst 0, 1, .int ((0 : Int32)), [], z_g0),
  (11, .istore_n 2, 1, .null, [], z_g0),
  (12, .iconst 1, 1, .int ((1 : Int32)), [], z_g0),
  (13, .istore_n 3, 1, .null, [], z_g0),
  (14, .iload_n 3, 1, .null, [], z_g0),
  (15, .aload_n 0, 1, .null, [], z_g0),
  (16, .getfield 11, 3, .null, [6, 0, 0], z_g0),
  (19, .if_icmp .ge 37, 3, .null, [56], z_g0),
  (22, .aload_n 0, 1, .null, [], z_g0),
  (23, .getfield 15, 3, .null, [6, 1, 3], z_g0),
  (26, .iload_n 1, 1, .null, [], z_g0),
  (27, .bipush 12, 2, .int ((12 : Int32)), [], z_g0),
  (29, .imul, 1, .null, [], z_g0),
  (30, .iload_n 3, 1, .null, [], z_g0),
  (31, .iadd, 1, .null, [], z_g0),
  (32, .daload, 1, .null, [], z_g0),
  (33, .aload_n 0, 1, .null, [], z_g0),
  (34, .getfield 15, 3, .null, [6, 1, 3], z_g0),
  (37, .iload_n 1, 1, .null, [], z_g0),
  (38, .bipush 12, 2, .int ((12 : Int32)), [], z_g0),
  (40, .imul, 1, .null, [], z_g0),
  (41, .iload_n 2, 1, .null, [], z_g0),
  (42, .iadd, 1, .null, [], z_g0),
  (43, .daload, 1, .null, [], z_g0),
  (44, .dcmp .l, 1, .null, [], z_g0),
  (45, .ifCond .le 5, 3, .null, [50], z_g0),
  (48, .iload_n 3, 1, .null, [], z_g0),
  (49, .istore_n 2, 1, .null, [], z_g0),
  (50, .iinc 3 1, 3, .int (1 : Int32), [], z_g0),
  (53, .goto (-39), 3, .null, [14], z_g0),
  (56, .iload_n 2, 1, .null, [], z_g0),
  (57, .ireturn, 1, .null, [], z_g0)]
def a_X5_peakHour_14 {ρ : Type} (k : Nat → Int32 → Int32 → Int32 → z_St → Option ρ) (ls : z_Lv) (st : List Value) (S : z_St) : Option ρ := z_gR ls 0 fun v0 => z_gI ls 1 fun v1 => z_gI ls 2 fun v2 => z_gI ls 3 fun v3 => z_p0 st (k v0 v1 v2 v3 S)
set_option maxRecDepth 100000 in
theorem r_X5_peakHour_14 (n : Nat) (v0 : Nat) (v1 : Int32) (v2 : Int32) (v3 : Int32) (S : z_St) : z_seg z_rI (c_X5_peakHour) [14] (fun pc => cond (Nat.beq pc 14) (a_X5_peakHour_14 (l_X5_peakHour_14 n)) (fun _ _ _ => none)) 41 (z_to 14 (c_X5_peakHour)) [(0, .ref v0), (1, .int v1), (2, .int v2), (3, .int v3)] [] S = l_X5_peakHour_14 (n + 1) v0 v1 v2 v3 S := rfl
set_option maxRecDepth 100000 in
theorem r_X5_peakHour (v0 : Nat) (v1 : Int32) (S : z_St) : z_seg z_rI (c_X5_peakHour) [14] (fun pc => cond (Nat.beq pc 14) (a_X5_peakHour_14 (l_X5_peakHour_14 z_N)) (fun _ _ _ => none)) 41 (c_X5_peakHour) [(0, .ref v0), (1, .int v1)] [] S = b_X5_peakHour v0 v1 S := rfl
def l_X5_runsThatLackNot_4 : Nat → Nat → Int32 → Int32 → z_St → Option (Int32 × z_St)
  | 0 => fun _ _ _ _ => none
  | n + 1 => fun (v0 : Nat) (v1 : Int32) (v2 : Int32) (S : z_St) =>
if ((6 : Int32)) ≤ v2 then
(some (v1, S))
else
(z_chk S v0 6 (
(f_X5_lacks v0 v2 S).bind fun q1 =>
if q1.1 = 0 then
(let x3 := v1 + (1 : Int32)
let x4 := v2 + (1 : Int32)
l_X5_runsThatLackNot_4 n v0 x3 x4 q1.2)
else
(let x2 := v2 + (1 : Int32)
l_X5_runsThatLackNot_4 n v0 v1 x2 q1.2)))
def b_X5_runsThatLackNot (v0 : Nat) (S : z_St) : Option (Int32 × z_St) :=
l_X5_runsThatLackNot_4 z_N v0 ((0 : Int32)) ((0 : Int32)) S
def f_X5_runsThatLackNot : Nat → z_St → Option (Int32 × z_St) := z_op (b_X5_runsThatLackNot)
theorem e_X5_runsThatLackNot (v0 : Nat) (S : z_St) : f_X5_runsThatLackNot v0 S = b_X5_runsThatLackNot v0 S := congrFun (congrFun (z_op_eq (b_X5_runsThatLackNot)) v0) S
def g_X5_runsThatLackNot : z_G := .inl (fun as S => match as with
  | [.ref v0] => f_X5_runsThatLackNot v0 S
  | _ => none)
def c_X5_runsThatLackNot : List z_E := [
  (0, .iconst 0, 1, .int ((0 : Int32)), [], z_g0),
  (1, .istore_n 1, 1, .null, [], z_g0),
  (2, .iconst 0, 1, .int ((0 : Int32)), [], z_g0),
  (3, .istore_n 2, 1, .null, [], z_g0),
  (4, .iload_n 2, 1, .null, [], z_g0),
  (5, .bipush 6, 2, .int ((6 : Int32)), [], z_g0),
  (7, .if_icmp .ge 20, 3, .null, [27], z_g0),
  (10, .aload_n 0, 1, .null, [], z_g0),
  (11, .iload_n 2, 1, .null, [], z_g0),
  (12, .invokevirtual 49, 3, .null, [1, 6, 0], g_X5_lacks),
  (15, .ifCond .ne 6, 3, .null, [21], z_g0),
  (18, .iinc 1 1, 3, .int (1 : Int32), [], z_g0),
  (21, .iinc 2 1, 3, .int (1 : Int32), [], z_g0),
  (24, .goto (-20), 3, .null, [4], z_g0),
  (27, .iload_n 1, 1, .null, [], z_g0),
  (28, .ireturn, 1, .null, [], z_g0)]
def a_X5_runsThatLackNot_4 {ρ : Type} (k : Nat → Int32 → Int32 → z_St → Option ρ) (ls : z_Lv) (st : List Value) (S : z_St) : Option ρ := z_gR ls 0 fun v0 => z_gI ls 1 fun v1 => z_gI ls 2 fun v2 => z_p0 st (k v0 v1 v2 S)
set_option maxRecDepth 100000 in
theorem r_X5_runsThatLackNot_4 (n : Nat) (v0 : Nat) (v1 : Int32) (v2 : Int32) (S : z_St) : z_seg z_rI (c_X5_runsThatLackNot) [4] (fun pc => cond (Nat.beq pc 4) (a_X5_runsThatLackNot_4 (l_X5_runsThatLackNot_4 n)) (fun _ _ _ => none)) 19 (z_to 4 (c_X5_runsThatLackNot)) [(0, .ref v0), (1, .int v1), (2, .int v2)] [] S = l_X5_runsThatLackNot_4 (n + 1) v0 v1 v2 S := rfl
set_option maxRecDepth 100000 in
theorem r_X5_runsThatLackNot (v0 : Nat) (S : z_St) : z_seg z_rI (c_X5_runsThatLackNot) [4] (fun pc => cond (Nat.beq pc 4) (a_X5_runsThatLackNot_4 (l_X5_runsThatLackNot_4 z_N)) (fun _ _ _ => none)) 19 (c_X5_runsThatLackNot) [(0, .ref v0)] [] S = b_X5_runsThatLackNot v0 S := rfl
def l_X5_runsAbove_5 : Nat → Nat → UInt64 → Int32 → Int32 → z_St → Option (Int32 × z_St)
  | 0 => fun _ _ _ _ _ => none
  | n + 1 => fun (v0 : Nat) (v1 : UInt64) (v3 : Int32) (v4 : Int32) (S : z_St) =>
if ((6 : Int32)) ≤ v4 then
(some (v3, S))
else
(z_chk S v0 6 (
(f_X5_peakHour v0 v4 S).bind fun q1 =>
if q1.1 = ((-1 : Int32)) then
(let x2 := v4 + (1 : Int32)
l_X5_runsAbove_5 n v0 v1 v3 x2 q1.2)
else
(z_chk q1.2 v0 6 (
z_onV (va_rf (z_r q1.2 v0 1)) fun b3 =>
z_inb q1.2 b3 103 ((v4 * ((12 : Int32))) + q1.1) (
if (Op.cmpValue (FP.dcmp ((z_d q1.2 b3 ((v4 * ((12 : Int32))) + q1.1).toNatClampNeg)) v1) .l) ≤ 0 then
(let x4 := v4 + (1 : Int32)
l_X5_runsAbove_5 n v0 v1 v3 x4 q1.2)
else
(let x5 := v3 + (1 : Int32)
let x6 := v4 + (1 : Int32)
l_X5_runsAbove_5 n v0 v1 x5 x6 q1.2))))))
def b_X5_runsAbove (v0 : Nat) (v1 : UInt64) (S : z_St) : Option (Int32 × z_St) :=
l_X5_runsAbove_5 z_N v0 v1 ((0 : Int32)) ((0 : Int32)) S
def f_X5_runsAbove : Nat → UInt64 → z_St → Option (Int32 × z_St) := z_op (b_X5_runsAbove)
theorem e_X5_runsAbove (v0 : Nat) (v1 : UInt64) (S : z_St) : f_X5_runsAbove v0 v1 S = b_X5_runsAbove v0 v1 S := congrFun (congrFun (congrFun (z_op_eq (b_X5_runsAbove)) v0) v1) S
def g_X5_runsAbove : z_G := .inl (fun as S => match as with
  | [.ref v0, .double v1] => f_X5_runsAbove v0 v1 S
  | _ => none)
def c_X5_runsAbove : List z_E := [
  (0, .iconst 0, 1, .int ((0 : Int32)), [], z_g0),
  (1, .istore_n 3, 1, .null, [], z_g0),
  (2, .iconst 0, 1, .int ((0 : Int32)), [], z_g0),
  (3, .istore 4, 2, .null, [], z_g0),
  (5, .iload 4, 2, .null, [], z_g0),
  (7, .bipush 6, 2, .int ((6 : Int32)), [], z_g0),
  (9, .if_icmp .ge 44, 3, .null, [53], z_g0),
  (12, .aload_n 0, 1, .null, [], z_g0),
  (13, .iload 4, 2, .null, [], z_g0),
  (15, .invokevirtual 61, 3, .null, [1, 6, 0], g_X5_peakHour),
  (18, .istore 5, 2, .null, [], z_g0),
  (20, .iload 5, 2, .null, [], z_g0),
  (22, .iconst (-1), 1, .int ((-1 : Int32)), [], z_g0),
  (23, .if_icmp .eq 24, 3, .null, [47], z_g0),
  (26, .aload_n 0, 1, .null, [], z_g0),
  (27, .getfield 15, 3, .null, [6, 1, 3], z_g0),
  (30, .iload 4, 2, .null, [], z_g0),
  (32, .bipush 12, 2, .int ((12 : Int32)), [], z_g0),
  (34, .imul, 1, .null, [], z_g0),
  (35, .iload 5, 2, .null, [], z_g0),
  (37, .iadd, 1, .null, [], z_g0),
  (38, .daload, 1, .null, [], z_g0),
  (39, .dload_n 1, 1, .null, [], z_g0),
  (40, .dcmp .l, 1, .null, [], z_g0),
  (41, .ifCond .le 6, 3, .null, [47], z_g0),
  (44, .iinc 3 1, 3, .int (1 : Int32), [], z_g0),
  (47, .iinc 4 1, 3, .int (1 : Int32), [], z_g0),
  (50, .goto (-45), 3, .null, [5], z_g0),
  (53, .iload_n 3, 1, .null, [], z_g0),
  (54, .ireturn, 1, .null, [], z_g0)]
def a_X5_runsAbove_5 {ρ : Type} (k : Nat → UInt64 → Int32 → Int32 → z_St → Option ρ) (ls : z_Lv) (st : List Value) (S : z_St) : Option ρ := z_gR ls 0 fun v0 => z_gD ls 1 fun v1 => z_gI ls 3 fun v3 => z_gI ls 4 fun v4 => z_p0 st (k v0 v1 v3 v4 S)
set_option maxRecDepth 100000 in
theorem r_X5_runsAbove_5 (n : Nat) (v0 : Nat) (v1 : UInt64) (v3 : Int32) (v4 : Int32) (S : z_St) : z_seg z_rI (c_X5_runsAbove) [5] (fun pc => cond (Nat.beq pc 5) (a_X5_runsAbove_5 (l_X5_runsAbove_5 n)) (fun _ _ _ => none)) 33 (z_to 5 (c_X5_runsAbove)) [(0, .ref v0), (1, .double v1), (3, .int v3), (4, .int v4)] [] S = l_X5_runsAbove_5 (n + 1) v0 v1 v3 v4 S := rfl
set_option maxRecDepth 100000 in
theorem r_X5_runsAbove (v0 : Nat) (v1 : UInt64) (S : z_St) : z_seg z_rI (c_X5_runsAbove) [5] (fun pc => cond (Nat.beq pc 5) (a_X5_runsAbove_5 (l_X5_runsAbove_5 z_N)) (fun _ _ _ => none)) 33 (c_X5_runsAbove) [(0, .ref v0), (1, .double v1)] [] S = b_X5_runsAbove v0 v1 S := rfl
def l_X10_init_76 : Nat → Nat → Int32 → z_St → Option z_St
  | 0 => fun _ _ _ => none
  | n + 1 => fun (v0 : Nat) (v1 : Int32) (S : z_St) =>
z_chk S v0 11 (
z_onV (va_rf (z_r S v0 2)) fun b20 =>
z_chk S b20 102 (
if (Int32.ofNat (z_n S b20)) ≤ v1 then
(some S)
else
(z_chk S v0 11 (
z_onV (va_rf (z_r S v0 2)) fun b21 =>
z_inb S b21 102 v1 (
let S22 := z_wl S b21 v1.toNatClampNeg ((9221120237041090560 : Int64))
let x23 := v1 + (1 : Int32)
l_X10_init_76 n v0 x23 S22)))))
def l_X10_init_53 : Nat → Nat → Int32 → z_St → Option z_St
  | 0 => fun _ _ _ => none
  | n + 1 => fun (v0 : Nat) (v1 : Int32) (S : z_St) =>
if ((6 : Int32)) ≤ v1 then
(l_X10_init_76 z_N v0 ((0 : Int32)) S)
else
(z_chk S v0 11 (
z_onV (va_rf (z_r S v0 0)) fun b17 =>
z_inb S b17 102 v1 (
let S18 := z_wl S b17 v1.toNatClampNeg ((9221120237041090560 : Int64))
let x19 := v1 + (1 : Int32)
l_X10_init_53 n v0 x19 S18)))
def b_X10_init (v0 : Nat) (S : z_St) : Option z_St :=
z_len ((6 : Int32)) 30000 (
let a1 := z_x S
let S2 := z_new S 102 ((6 : Int32)).toNatClampNeg
z_chk S2 v0 11 (
let S3 := z_wr S2 v0 0 (some a1)
z_chk S3 v0 11 (
let S4 := z_wl S3 v0 1 ((9221120237041090560 : Int64))
z_len ((24 : Int32)) 30000 (
let a5 := z_x S4
let S6 := z_new S4 102 ((24 : Int32)).toNatClampNeg
z_chk S6 v0 11 (
let S7 := z_wr S6 v0 2 (some a5)
z_len ((6 : Int32)) 30000 (
let a8 := z_x S7
let S9 := z_new S7 101 ((6 : Int32)).toNatClampNeg
z_chk S9 v0 11 (
let S10 := z_wr S9 v0 3 (some a8)
z_len ((6 : Int32)) 30000 (
let a11 := z_x S10
let S12 := z_new S10 101 ((6 : Int32)).toNatClampNeg
z_chk S12 v0 11 (
let S13 := z_wr S12 v0 4 (some a11)
z_len ((6 : Int32)) 30000 (
let a14 := z_x S13
let S15 := z_new S13 102 ((6 : Int32)).toNatClampNeg
z_chk S15 v0 11 (
let S16 := z_wr S15 v0 5 (some a14)
l_X10_init_53 z_N v0 ((0 : Int32)) S16)))))))))))
def f_X10_init : Nat → z_St → Option z_St := z_op (b_X10_init)
theorem e_X10_init (v0 : Nat) (S : z_St) : f_X10_init v0 S = b_X10_init v0 S := congrFun (congrFun (z_op_eq (b_X10_init)) v0) S
def g_X10_init : z_G := .inr (.inr (.inr (fun as S => match as with
  | [.ref v0] => f_X10_init v0 S
  | _ => none)))
def c_X10_init : List z_E := [
  (0, .aload_n 0, 1, .null, [], z_g0),
  (1, .invokespecial 3, 3, .null, [2], z_g0),
  (4, .aload_n 0, 1, .null, [], z_g0),
  (5, .bipush 6, 2, .int ((6 : Int32)), [], z_g0),
  (7, .newarray .long, 2, .null, [102], z_g0),
  (9, .putfield 9, 3, .null, [11, 0, 3], z_g0),
  (12, .aload_n 0, 1, .null, [], z_g0),
  (13, .ldc2_w 15, 3, .long (9221120237041090560 : Int64), [], z_g0),
  (16, .putfield 17, 3, .null, [11, 1, 1], z_g0),
  (19, .aload_n 0, 1, .null, [], z_g0),
  (20, .bipush 24, 2, .int ((24 : Int32)), [], z_g0),
  (22, .newarray .long, 2, .null, [102], z_g0),
  (24, .putfield 21, 3, .null, [11, 2, 3], z_g0),
  (27, .aload_n 0, 1, .null, [], z_g0),
  (28, .bipush 6, 2, .int ((6 : Int32)), [], z_g0),
  (30, .newarray .int, 2, .null, [101], z_g0),
  (32, .putfield 24, 3, .null, [11, 3, 3], z_g0),
  (35, .aload_n 0, 1, .null, [], z_g0),
  (36, .bipush 6, 2, .int ((6 : Int32)), [], z_g0),
  (38, .newarray .int, 2, .null, [101], z_g0),
  (40, .putfield 28, 3, .null, [11, 4, 3], z_g0),
  (43, .aload_n 0, 1, .null, [], z_g0),
  (44, .bipush 6, 2, .int ((6 : Int32)), [], z_g0),
  (46, .newarray .long, 2, .null, [102], z_g0),
  (48, .putfield 31, 3, .null, [11, 5, 3], z_g0),
  (51, .iconst 0, 1, .int ((0 : Int32)), [], z_g0),
  (52, .istore_n 1, 1, .null, [], z_g0),
  (53, .iload_n 1, 1, .null, [], z_g0),
  (54, .bipush 6, 2, .int ((6 : Int32)), [], z_g0),
  (56, .if_icmp .ge 18, 3, .null, [74], z_g0),
  (59, .aload_n 0, 1, .null, [], z_g0),
  (60, .getfield 9, 3, .null, [11, 0, 3], z_g0),
  (63, .iload_n 1, 1, .null, [], z_g0),
  (64, .ldc2_w 15, 3, .long (9221120237041090560 : Int64), [], z_g0),
  (67, .lastore, 1, .null, [], z_g0),
  (68, .iinc 1 1, 3, .int (1 : Int32), [], z_g0),
  (71, .goto (-18), 3, .null, [53], z_g0),
  (74, .iconst 0, 1, .int ((0 : Int32)), [], z_g0),
  (75, .istore_n 1, 1, .null, [], z_g0),
  (76, .iload_n 1, 1, .null, [], z_g0),
  (77, .aload_n 0, 1, .null, [], z_g0),
  (78, .getfield 21, 3, .null, [11, 2, 3], z_g0),
  (81, .arraylength, 1, .null, [102], z_g0),
  (82, .if_icmp .ge 18, 3, .null, [100], z_g0),
  (85, .aload_n 0, 1, .null, [], z_g0),
  (86, .getfield 21, 3, .null, [11, 2, 3], z_g0),
  (89, .iload_n 1, 1, .null, [], z_g0),
  (90, .ldc2_w 15, 3, .long (9221120237041090560 : Int64), [], z_g0),
  (93, .lastore, 1, .null, [], z_g0),
  (94, .iinc 1 1, 3, .int (1 : Int32), [], z_g0),
  (97, .goto (-21), 3, .null, [76], z_g0),
  (100, .return_, 1, .null, [], z_g0)]
def a_X10_init_53 {ρ : Type} (k : Nat → Int32 → z_St → Option ρ) (ls : z_Lv) (st : List Value) (S : z_St) : Option ρ := z_gR ls 0 fun v0 => z_gI ls 1 fun v1 => z_p0 st (k v0 v1 S)
def a_X10_init_76 {ρ : Type} (k : Nat → Int32 → z_St → Option ρ) (ls : z_Lv) (st : List Value) (S : z_St) : Option ρ := z_gR ls 0 fun v0 => z_gI ls 1 fun v1 => z_p0 st (k v0 v1 S)
set_option maxRecDepth 100000 in
theorem r_X10_init_76 (n : Nat) (v0 : Nat) (v1 : Int32) (S : z_St) : z_seg z_rV (c_X10_init) [53, 76] (fun pc => cond (Nat.beq pc 76) (a_X10_init_76 (l_X10_init_76 n)) (fun _ _ _ => none)) 55 (z_to 76 (c_X10_init)) [(0, .ref v0), (1, .int v1)] [] S = l_X10_init_76 (n + 1) v0 v1 S := rfl
set_option maxRecDepth 100000 in
theorem r_X10_init_53 (n : Nat) (v0 : Nat) (v1 : Int32) (S : z_St) : z_seg z_rV (c_X10_init) [53, 76] (fun pc => cond (Nat.beq pc 53) (a_X10_init_53 (l_X10_init_53 n)) (cond (Nat.beq pc 76) (a_X10_init_76 (l_X10_init_76 z_N)) (fun _ _ _ => none))) 55 (z_to 53 (c_X10_init)) [(0, .ref v0), (1, .int v1)] [] S = l_X10_init_53 (n + 1) v0 v1 S := rfl
set_option maxRecDepth 100000 in
theorem r_X10_init (v0 : Nat) (S : z_St) : z_seg z_rV (c_X10_init) [53, 76] (fun pc => cond (Nat.beq pc 53) (a_X10_init_53 (l_X10_init_53 z_N)) (fun _ _ _ => none)) 55 (c_X10_init) [(0, .ref v0)] [] S = b_X10_init v0 S := rfl
def l_X6_init_66 : Nat → Nat → Int32 → z_St → Option z_St
  | 0 => fun _ _ _ => none
  | n + 1 => fun (v0 : Nat) (v1 : Int32) (S : z_St) =>
if ((4 : Int32)) ≤ v1 then
(some S)
else
(z_chk S v0 7 (
z_onV (va_rf (z_r S v0 12)) fun b22 =>
z_inb S b22 102 v1 (
let S23 := z_wl S b22 v1.toNatClampNeg ((9221120237041090560 : Int64))
let x24 := v1 + (1 : Int32)
l_X6_init_66 n v0 x24 S23)))
def b_X6_init (v0 : Nat) (S : z_St) : Option z_St :=
z_chk S v0 7 (
let S1 := z_wd S v0 0 ((4681608360884174848 : UInt64))
z_chk S1 v0 7 (
let S2 := z_wd S1 v0 7 ((4593671619917905920 : UInt64))
z_len ((4 : Int32)) 30000 (
let a3 := z_x S2
let S4 := z_new S2 103 ((4 : Int32)).toNatClampNeg
z_chk S4 v0 7 (
let S5 := z_wr S4 v0 11 (some a3)
z_len ((4 : Int32)) 30000 (
let a6 := z_x S5
let S7 := z_new S5 102 ((4 : Int32)).toNatClampNeg
z_chk S7 v0 7 (
let S8 := z_wr S7 v0 12 (some a6)
z_len ((4 : Int32)) 30000 (
let a9 := z_x S8
let S10 := z_new S8 104 ((4 : Int32)).toNatClampNeg
z_chk S10 v0 7 (
let S11 := z_wr S10 v0 13 (some a9)
z_len ((4 : Int32)) 30000 (
let a12 := z_x S11
let S13 := z_new S11 101 ((4 : Int32)).toNatClampNeg
z_chk S13 v0 7 (
let S14 := z_wr S13 v0 14 (some a12)
z_len ((4 : Int32)) 30000 (
let a15 := z_x S14
let S16 := z_new S14 101 ((4 : Int32)).toNatClampNeg
z_chk S16 v0 7 (
let S17 := z_wr S16 v0 15 (some a15)
let a18 := z_x S17
let S19 := z_new S17 11 6
z_chk S19 a18 11 (
(f_X10_init a18 S19).bind fun q20 =>
z_chk q20 v0 7 (
let S21 := z_wr q20 v0 16 (some a18)
l_X6_init_66 z_N v0 ((0 : Int32)) S21))))))))))))))
def f_X6_init : Nat → z_St → Option z_St := z_op (b_X6_init)
theorem e_X6_init (v0 : Nat) (S : z_St) : f_X6_init v0 S = b_X6_init v0 S := congrFun (congrFun (z_op_eq (b_X6_init)) v0) S
def g_X6_init : z_G := .inr (.inr (.inr (fun as S => match as with
  | [.ref v0] => f_X6_init v0 S
  | _ => none)))
def c_X6_init : List z_E := [
  (0, .aload_n 0, 1, .null, [], z_g0),
  (1, .invokespecial 3, 3, .null, [2], z_g0),
  (4, .aload_n 0, 1, .null, [], z_g0),
  (5, .ldc2_w 9, 3, .double (4681608360884174848 : UInt64), [], z_g0),
  (8, .putfield 11, 3, .null, [7, 0, 2], z_g0),
  (11, .aload_n 0, 1, .null, [], z_g0),
  (12, .ldc2_w 17, 3, .double (4593671619917905920 : UInt64), [], z_g0),
  (15, .putfield 19, 3, .null, [7, 7, 2], z_g0),
  (18, .aload_n 0, 1, .null, [], z_g0),
  (19, .iconst 4, 1, .int ((4 : Int32)), [], z_g0),
  (20, .newarray .double, 2, .null, [103], z_g0),
  (22, .putfield 22, 3, .null, [7, 11, 3], z_g0),
  (25, .aload_n 0, 1, .null, [], z_g0),
  (26, .iconst 4, 1, .int ((4 : Int32)), [], z_g0),
  (27, .newarray .long, 2, .null, [102], z_g0),
  (29, .putfield 26, 3, .null, [7, 12, 3], z_g0),
  (32, .aload_n 0, 1, .null, [], z_g0),
  (33, .iconst 4, 1, .int ((4 : Int32)), [], z_g0),
  (34, .newarray .boolean, 2, .null, [104], z_g0),
  (36, .putfield 30, 3, .null, [7, 13, 3], z_g0),
  (39, .aload_n 0, 1, .null, [], z_g0),
  (40, .iconst 4, 1, .int ((4 : Int32)), [], z_g0),
  (41, .newarray .int, 2, .null, [101], z_g0),
  (43, .putfield 34, 3, .null, [7, 14, 3], z_g0),
  (46, .aload_n 0, 1, .null, [], z_g0),
  (47, .iconst 4, 1, .int ((4 : Int32)), [], z_g0),
  (48, .newarray .int, 2, .null, [101], z_g0),
  (50, .putfield 38, 3, .null, [7, 15, 3], z_g0),
  (53, .aload_n 0, 1, .null, [], z_g0),
  (54, .new 41, 3, .null, [11, 6], z_g0),
  (57, .dup, 1, .null, [], z_g0),
  (58, .invokespecial 43, 3, .null, [1, 11], g_X10_init),
  (61, .putfield 44, 3, .null, [7, 16, 3], z_g0),
  (64, .iconst 0, 1, .int ((0 : Int32)), [], z_g0),
  (65, .istore_n 1, 1, .null, [], z_g0),
  (66, .iload_n 1, 1, .null, [], z_g0),
  (67, .iconst 4, 1, .int ((4 : Int32)), [], z_g0),
  (68, .if_icmp .ge 18, 3, .null, [86], z_g0),
  (71, .aload_n 0, 1, .null, [], z_g0),
  (72, .getfield 26, 3, .null, [7, 12, 3], z_g0),
  (75, .iload_n 1, 1, .null, [], z_g0),
  (76, .ldc2_w 48, 3, .long (9221120237041090560 : Int64), [], z_g0),
  (79, .lastore, 1, .null, [], z_g0),
  (80, .iinc 1 1, 3, .int (1 : Int32), [], z_g0),
  (83, .goto (-17), 3, .null, [66], z_g0),
  (86, .return_, 1, .null, [], z_g0)]
def a_X6_init_66 {ρ : Type} (k : Nat → Int32 → z_St → Option ρ) (ls : z_Lv) (st : List Value) (S : z_St) : Option ρ := z_gR ls 0 fun v0 => z_gI ls 1 fun v1 => z_p0 st (k v0 v1 S)
set_option maxRecDepth 100000 in
theorem r_X6_init_66 (n : Nat) (v0 : Nat) (v1 : Int32) (S : z_St) : z_seg z_rV (c_X6_init) [66] (fun pc => cond (Nat.beq pc 66) (a_X6_init_66 (l_X6_init_66 n)) (fun _ _ _ => none)) 49 (z_to 66 (c_X6_init)) [(0, .ref v0), (1, .int v1)] [] S = l_X6_init_66 (n + 1) v0 v1 S := rfl
set_option maxRecDepth 100000 in
theorem r_X6_init (v0 : Nat) (S : z_St) : z_seg z_rV (c_X6_init) [66] (fun pc => cond (Nat.beq pc 66) (a_X6_init_66 (l_X6_init_66 z_N)) (fun _ _ _ => none)) 49 (c_X6_init) [(0, .ref v0)] [] S = b_X6_init v0 S := rfl
def j_X6_levelOf_23 (v0 : UInt64) (v2 : Int32) (S : z_St) : Option (UInt64 × z_St) :=
(f_X6_unitsAt v2 S).bind fun q3 =>
let x4 := FP.i2d q3.1
(f_X6_unitsAt (v2 + ((1 : Int32))) q3.2).bind fun q5 =>
let x6 := FP.i2d q5.1
z_nn (FP.dsub v0 x4) (
z_nn (FP.dsub x6 x4) (
z_nn (FP.ddiv (FP.dsub v0 x4) (FP.dsub x6 x4)) (
z_nn (FP.dadd (FP.i2d v2) (FP.ddiv (FP.dsub v0 x4) (FP.dsub x6 x4))) (
some (FP.dadd (FP.i2d v2) (FP.ddiv (FP.dsub v0 x4) (FP.dsub x6 x4)), q5.2)))))
def l_X6_levelOf_3 : Nat → UInt64 → Int32 → z_St → Option (UInt64 × z_St)
  | 0 => fun _ _ _ => none
  | n + 1 => fun (v0 : UInt64) (v2 : Int32) (S : z_St) =>
if v2 ≤ 0 then
(j_X6_levelOf_23 v0 v2 S)
else
((f_X6_unitsAt v2 S).bind fun q1 =>
if (Op.cmpValue (FP.dcmp (FP.i2d q1.1) v0) .l) ≤ 0 then
(j_X6_levelOf_23 v0 v2 q1.2)
else
(let x2 := v2 + (-1 : Int32)
l_X6_levelOf_3 n v0 x2 q1.2))
def b_X6_levelOf (v0 : UInt64) (S : z_St) : Option (UInt64 × z_St) :=
l_X6_levelOf_3 z_N v0 ((39 : Int32)) S
def f_X6_levelOf : UInt64 → z_St → Option (UInt64 × z_St) := z_op (b_X6_levelOf)
theorem e_X6_levelOf (v0 : UInt64) (S : z_St) : f_X6_levelOf v0 S = b_X6_levelOf v0 S := congrFun (congrFun (z_op_eq (b_X6_levelOf)) v0) S
def g_X6_levelOf : z_G := .inr (.inr (.inl (fun as S => match as with
  | [.double v0] => f_X6_levelOf v0 S
  | _ => none)))
def c_X6_levelOf : List z_E := [
  (0, .bipush 39, 2, .int ((39 : Int32)), [], z_g0),
  (2, .istore_n 2, 1, .null, [], z_g0),
  (3, .iload_n 2, 1, .null, [], z_g0),
  (4, .ifCond .le 19, 3, .null, [23], z_g0),
  (7, .iload_n 2, 1, .null, [], z_g0),
  (8, .invokestatic 50, 3, .null, [0, 0], g_X6_unitsAt),
  (11, .i2d, 1, .null, [], z_g0),
  (12, .dload_n 0, 1, .null, [], z_g0),
  (13, .dcmp .l, 1, .null, [], z_g0),
  (14, .ifCond .le 9, 3, .null, [23], z_g0),
  (17, .iinc 2 (-1), 3, .int (-1 : Int32), [], z_g0),
  (20, .goto (-17), 3, .null, [3], z_g0),
  (23, .iload_n 2, 1, .null, [], z_g0),
  (24, .invokestatic 50, 3, .null, [0, 0], g_X6_unitsAt),
  (27, .i2d, 1, .null, [], z_g0),
  (28, .dstore_n 3, 1, .null, [], z_g0),
  (29, .iload_n 2, 1, .null, [], z_g0),
  (30, .iconst 1, 1, .int ((1 : Int32)), [], z_g0),
  (31, .iadd, 1, .null, [], z_g0),
  (32, .invokestatic 50, 3, .null, [0, 0], g_X6_unitsAt),
  (35, .i2d, 1, .null, [], z_g0),
  (36, .dstore 5, 2, .null, [], z_g0),
  (38, .iload_n 2, 1, .null, [], z_g0),
  (39, .i2d, 1, .null, [], z_g0),
  (40, .dload_n 0, 1, .null, [], z_g0),
  (41, .dload_n 3, 1, .null, [], z_g0),
  (42, .dsub, 1, .null, [], z_g0),
  (43, .dload 5, 2, .null, [], z_g0),
  (45, .dload_n 3, 1, .null, [], z_g0),
  (46, .dsub, 1, .null, [], z_g0),
  (47, .ddiv, 1, .null, [], z_g0),
  (48, .dadd, 1, .null, [], z_g0),
  (49, .dreturn, 1, .null, [], z_g0)]
def a_X6_levelOf_3 {ρ : Type} (k : UInt64 → Int32 → z_St → Option ρ) (ls : z_Lv) (st : List Value) (S : z_St) : Option ρ := z_gD ls 0 fun v0 => z_gI ls 2 fun v2 => z_p0 st (k v0 v2 S)
def a_X6_levelOf_23 {ρ : Type} (k : UInt64 → Int32 → z_St → Option ρ) (ls : z_Lv) (st : List Value) (S : z_St) : Option ρ := z_gD ls 0 fun v0 => z_gI ls 2 fun v2 => z_p0 st (k v0 v2 S)
set_option maxRecDepth 100000 in
theorem r_X6_levelOf_23 (v0 : UInt64) (v2 : Int32) (S : z_St) : z_seg z_rD (c_X6_levelOf) [3, 23] (fun pc => fun _ _ _ => none) 36 (z_to 23 (c_X6_levelOf)) [(0, .double v0), (2, .int v2)] [] S = j_X6_levelOf_23 v0 v2 S := rfl
set_option maxRecDepth 100000 in
theorem r_X6_levelOf_3 (n : Nat) (v0 : UInt64) (v2 : Int32) (S : z_St) : z_seg z_rD (c_X6_levelOf) [3, 23] (fun pc => cond (Nat.beq pc 3) (a_X6_levelOf_3 (l_X6_levelOf_3 n)) (cond (Nat.beq pc 23) (a_X6_levelOf_23 (j_X6_levelOf_23)) (fun _ _ _ => none))) 36 (z_to 3 (c_X6_levelOf)) [(0, .double v0), (2, .int v2)] [] S = l_X6_levelOf_3 (n + 1) v0 v2 S := rfl
set_option maxRecDepth 100000 in
theorem r_X6_levelOf (v0 : UInt64) (S : z_St) : z_seg z_rD (c_X6_levelOf) [3, 23] (fun pc => cond (Nat.beq pc 3) (a_X6_levelOf_3 (l_X6_levelOf_3 z_N)) (fun _ _ _ => none)) 36 (c_X6_levelOf) [(0, .double v0)] [] S = b_X6_levelOf v0 S := rfl
def j_X6_fall_42 (v0 : Nat) (v1 : UInt64) (t0 : UInt64) (S : z_St) : Option z_St :=
z_chk S v0 7 (
z_nn (FP.dsub ((z_d S v0 1)) t0) (
z_chk S v0 7 (
let S2 := z_wd S v0 1 (FP.dsub ((z_d S v0 1)) t0)
z_chk S2 v0 7 (
z_nn (FP.dadd ((z_d S2 v0 2)) v1) (
z_nn (FP.dadd (FP.dadd ((z_d S2 v0 2)) v1) t0) (
z_chk S2 v0 7 (
let S3 := z_wd S2 v0 2 (FP.dadd (FP.dadd ((z_d S2 v0 2)) v1) t0)
some S3)))))))
def b_X6_fall (v0 : Nat) (v1 : UInt64) (v3 : UInt64) (S : z_St) : Option z_St :=
if 0 < (Op.cmpValue (FP.dcmp v3 FP.dconst0) .l) then
(z_chk S v0 7 (
z_nn (FP.dmul ((4611686018427387904 : UInt64)) v3) (
if 0 ≤ (Op.cmpValue (FP.dcmp ((z_d S v0 1)) (FP.dmul ((4611686018427387904 : UInt64)) v3)) .g) then
(z_nn (FP.dmul ((4611686018427387904 : UInt64)) v3) (
j_X6_fall_42 v0 v1 (FP.dmul ((4611686018427387904 : UInt64)) v3) S))
else
(z_chk S v0 7 (
j_X6_fall_42 v0 v1 ((z_d S v0 1)) S)))))
else
(z_chk S v0 7 (
z_nn (FP.dadd ((z_d S v0 1)) v1) (
z_chk S v0 7 (
let S1 := z_wd S v0 1 (FP.dadd ((z_d S v0 1)) v1)
some S1))))
def f_X6_fall : Nat → UInt64 → UInt64 → z_St → Option z_St := z_op (b_X6_fall)
theorem e_X6_fall (v0 : Nat) (v1 : UInt64) (v3 : UInt64) (S : z_St) : f_X6_fall v0 v1 v3 S = b_X6_fall v0 v1 v3 S := congrFun (congrFun (congrFun (congrFun (z_op_eq (b_X6_fall)) v0) v1) v3) S
def g_X6_fall : z_G := .inr (.inr (.inr (fun as S => match as with
  | [.ref v0, .double v1, .double v3] => f_X6_fall v0 v1 v3 S
  | _ => none)))
def c_X6_fall : List z_E := [
  (0, .dload_n 3, 1, .null, [], z_g0),
  (1, .dconst 0, 1, .double FP.dconst0, [], z_g0),
  (2, .dcmp .l, 1, .null, [], z_g0),
  (3, .ifCond .gt 14, 3, .null, [17], z_g0),
  (6, .aload_n 0, 1, .null, [], z_g0),
  (7, .aload_n 0, 1, .null, [], z_g0),
  (8, .getfield 96, 3, .null, [7, 1, 2], z_g0),
  (11, .dload_n 1, 1, .null, [], z_g0),
  (12, .dadd, 1, .null, [], z_g0),
  (13, .putfield 96, 3, .null, [7, 1, 2], z_g0),
  (16, .return_, 1, .null, [], z_g0),
  (17, .aload_n 0, 1, .null, [], z_g0),
  (18, .getfield 96, 3, .null, [7, 1, 2], z_g0),
  (21, .ldc2_w 99, 3, .double (4611686018427387904 : UInt64), [], z_g0),
  (24, .dload_n 3, 1, .null, [], z_g0),
  (25, .dmul, 1, .null, [], z_g0),
  (26, .dcmp .g, 1, .null, [], z_g0),
  (27, .ifCond .ge 10, 3, .null, [37], z_g0),
  (30, .aload_n 0, 1, .null, [], z_g0),
  (31, .getfield 96, 3, .null, [7, 1, 2], z_g0),
  (34, .goto 8, 3, .null, [42], z_g0),
  (37, .ldc2_w 99, 3, .double (4611686018427387904 : UInt64), [], z_g0),
  (40, .dload_n 3, 1, .null, [], z_g0),
  (41, .dmul, 1, .null, [], z_g0),
  (42, .dstore 5, 2, .null, [], z_g0),
  (44, .aload_n 0, 1, .null, [], z_g0),
  (45, .aload_n 0, 1, .null, [], z_g0),
  (46, .getfield 96, 3, .null, [7, 1, 2], z_g0),
  (49, .dload 5, 2, .null, [], z_g0),
  (51, .dsub, 1, .null, [], z_g0),
  (52, .putfield 96, 3, .null, [7, 1, 2], z_g0),
  (55, .aload_n 0, 1, .null, [], z_g0),
  (56, .aload_n 0, 1, .null, [], z_g0),
  (57, .getfield 62, 3, .null, [7, 2, 2], z_g0),
  (60, .dload_n 1, 1, .null, [], z_g0),
  (61, .dadd, 1, .null, [], z_g0),
  (62, .dload 5, 2, .null, [], z_g0),
  (64, .dadd, 1, .null, [], z_g0),
  (65, .putfield 62, 3, .null, [7, 2, 2], z_g0),
  (68, .return_, 1, .null, [], z_g0)]
def a_X6_fall_42 {ρ : Type} (k : Nat → UInt64 → UInt64 → z_St → Option ρ) (ls : z_Lv) (st : List Value) (S : z_St) : Option ρ := z_gR ls 0 fun v0 => z_gD ls 1 fun v1 => z_pD st fun t0 s0 => z_p0 s0 (k v0 v1 t0 S)
set_option maxRecDepth 100000 in
theorem r_X6_fall_42 (v0 : Nat) (v1 : UInt64) (t0 : UInt64) (S : z_St) : z_seg z_rV (c_X6_fall) [42] (fun pc => fun _ _ _ => none) 43 (z_to 42 (c_X6_fall)) [(0, .ref v0), (1, .double v1)] [.double t0] S = j_X6_fall_42 v0 v1 t0 S := rfl
set_option maxRecDepth 100000 in
theorem r_X6_fall (v0 : Nat) (v1 : UInt64) (v3 : UInt64) (S : z_St) : z_seg z_rV (c_X6_fall) [42] (fun pc => cond (Nat.beq pc 42) (a_X6_fall_42 (j_X6_fall_42)) (fun _ _ _ => none)) 43 (c_X6_fall) [(0, .ref v0), (1, .double v1), (3, .double v3)] [] S = b_X6_fall v0 v1 v3 S := rfl
def l_X10_takeIn_2 : Nat → Nat → Int32 → Int32 → z_St → Option z_St
  | 0 => fun _ _ _ _ => none
  | n + 1 => fun (v0 : Nat) (v1 : Int32) (v2 : Int32) (S : z_St) =>
if ((6 : Int32)) ≤ v2 then
(some S)
else
(z_chk S v0 11 (
z_chk S v0 11 (
z_onV (va_rf (z_r S v0 0)) fun b1 =>
z_inb S b1 102 v2 (
z_onV (va_rf (z_r S v0 2)) fun b2 =>
z_inb S b2 102 (v1 + v2) (
let S3 := z_wl S b2 (v1 + v2).toNatClampNeg ((z_l S b1 v2.toNatClampNeg))
z_chk S3 v0 11 (
z_onV (va_rf (z_r S3 v0 0)) fun b4 =>
z_inb S3 b4 102 v2 (
let S5 := z_wl S3 b4 v2.toNatClampNeg ((9221120237041090560 : Int64))
let x6 := v2 + (1 : Int32)
l_X10_takeIn_2 n v0 v1 x6 S5)))))))
def b_X10_takeIn (v0 : Nat) (v1 : Int32) (S : z_St) : Option z_St :=
l_X10_takeIn_2 z_N v0 v1 ((0 : Int32)) S
def f_X10_takeIn : Nat → Int32 → z_St → Option z_St := z_op (b_X10_takeIn)
theorem e_X10_takeIn (v0 : Nat) (v1 : Int32) (S : z_St) : f_X10_takeIn v0 v1 S = b_X10_takeIn v0 v1 S := congrFun (congrFun (congrFun (z_op_eq (b_X10_takeIn)) v0) v1) S
def g_X10_takeIn : z_G := .inr (.inr (.inr (fun as S => match as with
  | [.ref v0, .int v1] => f_X10_takeIn v0 v1 S
  | _ => none)))
def c_X10_takeIn : List z_E := [
  (0, .iconst 0, 1, .int ((0 : Int32)), [], z_g0),
  (1, .istore_n 2, 1, .null, [], z_g0),
  (2, .iload_n 2, 1, .null, [], z_g0),
  (3, .bipush 6, 2, .int ((6 : Int32)), [], z_g0),
  (5, .if_icmp .ge 32, 3, .null, [37], z_g0),
  (8, .aload_n 0, 1, .null, [], z_g0),
  (9, .getfield 21, 3, .null, [11, 2, 3], z_g0),
  (12, .iload_n 1, 1, .null, [], z_g0),
  (13, .iload_n 2, 1, .null, [], z_g0),
  (14, .iadd, 1, .null, [], z_g0),
  (15, .aload_n 0, 1, .null, [], z_g0),
  (16, .getfield 9, 3, .null, [11, 0, 3], z_g0),
  (19, .iload_n 2, 1, .null, [], z_g0),
  (20, .laload, 1, .null, [], z_g0),
  (21, .lastore, 1, .null, [], z_g0),
  (22, .aload_n 0, 1, .null, [], z_g0),
  (23, .getfield 9, 3, .null, [11, 0, 3], z_g0),
  (26, .iload_n 2, 1, .null, [], z_g0),
  (27, .ldc2_w 15, 3, .long (9221120237041090560 : Int64), [], z_g0),
  (30, .lastore, 1, .null, [], z_g0),
  (31, .iinc 2 1, 3, .int (1 : Int32), [], z_g0),
  (34, .goto (-32), 3, .null, [2], z_g0),
  (37, .return_, 1, .null, [], z_g0)]
def a_X10_takeIn_2 {ρ : Type} (k : Nat → Int32 → Int32 → z_St → Option ρ) (ls : z_Lv) (st : List Value) (S : z_St) : Option ρ := z_gR ls 0 fun v0 => z_gI ls 1 fun v1 => z_gI ls 2 fun v2 => z_p0 st (k v0 v1 v2 S)
set_option maxRecDepth 100000 in
theorem r_X10_takeIn_2 (n : Nat) (v0 : Nat) (v1 : Int32) (v2 : Int32) (S : z_St) : z_seg z_rV (c_X10_takeIn) [2] (fun pc => cond (Nat.beq pc 2) (a_X10_takeIn_2 (l_X10_takeIn_2 n)) (fun _ _ _ => none)) 26 (z_to 2 (c_X10_takeIn)) [(0, .ref v0), (1, .int v1), (2, .int v2)] [] S = l_X10_takeIn_2 (n + 1) v0 v1 v2 S := rfl
set_option maxRecDepth 100000 in
theorem r_X10_takeIn (v0 : Nat) (v1 : Int32) (S : z_St) : z_seg z_rV (c_X10_takeIn) [2] (fun pc => cond (Nat.beq pc 2) (a_X10_takeIn_2 (l_X10_takeIn_2 z_N)) (fun _ _ _ => none)) 26 (c_X10_takeIn) [(0, .ref v0), (1, .int v1)] [] S = b_X10_takeIn v0 v1 S := rfl
def j_X10_isFar_32 (t0 : UInt64) (S : z_St) : Option (Int32 × z_St) :=
if (Op.cmpValue (FP.dcmp t0 ((4602678819172646912 : UInt64))) .l) ≤ 0 then
(z_rb ((0 : Int32)) S)
else
(z_rb ((1 : Int32)) S)
def b_X10_isFar (v0 : Int64) (v2 : UInt64) (S : z_St) : Option (Int32 × z_St) :=
(f_X11_noNumber v0 S).bind fun q1 =>
if q1.1 = 0 then
((f_X11_realOf v0 q1.2).bind fun q2 =>
z_nn (FP.dsub q2.1 v2) (
let x3 := FP.dsub q2.1 v2
if 0 ≤ (Op.cmpValue (FP.dcmp x3 FP.dconst0) .g) then
(j_X10_isFar_32 x3 q2.2)
else
(j_X10_isFar_32 (FP.dneg x3) q2.2)))
else
(z_rb ((0 : Int32)) q1.2)
def f_X10_isFar : Int64 → UInt64 → z_St → Option (Int32 × z_St) := z_op (b_X10_isFar)
theorem e_X10_isFar (v0 : Int64) (v2 : UInt64) (S : z_St) : f_X10_isFar v0 v2 S = b_X10_isFar v0 v2 S := congrFun (congrFun (congrFun (z_op_eq (b_X10_isFar)) v0) v2) S
def g_X10_isFar : z_G := .inl (fun as S => match as with
  | [.long v0, .double v2] => f_X10_isFar v0 v2 S
  | _ => none)
def c_X10_isFar : List z_E := [
  (0, .lload_n 0, 1, .null, [], z_g0),
  (1, .invokestatic 50, 3, .null, [0, 0], g_X11_noNumber),
  (4, .ifCond .eq 5, 3, .null, [9], z_g0),
  (7, .iconst 0, 1, .int ((0 : Int32)), [], z_g0),
  (8, .ireturn, 1, .null, [], z_g0),
  (9, .lload_n 0, 1, .null, [], z_g0),
  (10, .invokestatic 54, 3, .null, [0, 0], g_X11_realOf),
  (13, .dload_n 2, 1, .null, [], z_g0),
  (14, .dsub, 1, .null, [], z_g0),
  (15, .dstore 4, 2, .null, [], z_g0),
  (17, .dload 4, 2, .null, [], z_g0),
  (19, .dconst 0, 1, .double FP.dconst0, [], z_g0),
  (20, .dcmp .g, 1, .null, [], z_g0),
  (21, .ifCond .ge 9, 3, .null, [30], z_g0),
  (24, .dload 4, 2, .null, [], z_g0),
  (26, .dneg, 1, .null, [], z_g0),
  (27, .goto 5, 3, .null, [32], z_g0),
  (30, .dload 4, 2, .null, [], z_g0),
  (32, .ldc2_w 58, 3, .double (4602678819172646912 : UInt64), [], z_g0),
  (35, .dcmp .l, 1, .null, [], z_g0),
  (36, .ifCond .le 7, 3, .null, [43], z_g0),
  (39, .iconst 1, 1, .int ((1 : Int32)), [], z_g0),
  (40, .goto 4, 3, .null, [44], z_g0),
  (43, .iconst 0, 1, .int ((0 : Int32)), [], z_g0),
  (44, .ireturn, 1, .null, [], z_g0)]
def a_X10_isFar_32 {ρ : Type} (k : UInt64 → z_St → Option ρ) (ls : z_Lv) (st : List Value) (S : z_St) : Option ρ := z_pD st fun t0 s0 => z_p0 s0 (k t0 S)
set_option maxRecDepth 100000 in
theorem r_X10_isFar_32 (t0 : UInt64) (S : z_St) : z_seg z_rZ (c_X10_isFar) [32] (fun pc => fun _ _ _ => none) 28 (z_to 32 (c_X10_isFar)) [] [.double t0] S = j_X10_isFar_32 t0 S := rfl
set_option maxRecDepth 100000 in
theorem r_X10_isFar (v0 : Int64) (v2 : UInt64) (S : z_St) : z_seg z_rZ (c_X10_isFar) [32] (fun pc => cond (Nat.beq pc 32) (a_X10_isFar_32 (j_X10_isFar_32)) (fun _ _ _ => none)) 28 (c_X10_isFar) [(0, .long v0), (2, .double v2)] [] S = b_X10_isFar v0 v2 S := rfl
end
