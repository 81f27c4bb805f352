noncomputable section
def l_X10_isStill_3 : Nat → Nat → Int32 → Int64 → Int32 → z_St → Option (Int32 × z_St)
  | 0 => fun _ _ _ _ _ => none
  | n + 1 => fun (v0 : Nat) (v1 : Int32) (v2 : Int64) (v4 : Int32) (S : z_St) =>
if ((4 : Int32)) ≤ v4 then
(z_rb ((1 : Int32)) S)
else
(z_chk S v0 11 (
z_onV (va_rf (z_r S v0 2)) fun b1 =>
z_inb S b1 102 ((v4 * ((6 : Int32))) + v1) (
if (lg_cmp ((z_l S b1 ((v4 * ((6 : Int32))) + v1).toNatClampNeg)) v2) = 0 then
(let x2 := v4 + (1 : Int32)
l_X10_isStill_3 n v0 v1 v2 x2 S)
else
(z_rb ((0 : Int32)) S))))
def b_X10_isStill (v0 : Nat) (v1 : Int32) (v2 : Int64) (S : z_St) : Option (Int32 × z_St) :=
l_X10_isStill_3 z_N v0 v1 v2 ((0 : Int32)) S
def f_X10_isStill : Nat → Int32 → Int64 → z_St → Option (Int32 × z_St) := z_op (b_X10_isStill)
theorem e_X10_isStill (v0 : Nat) (v1 : Int32) (v2 : Int64) (S : z_St) : f_X10_isStill v0 v1 v2 S = b_X10_isStill v0 v1 v2 S := congrFun (congrFun (congrFun (congrFun (z_op_eq (b_X10_isStill)) v0) v1) v2) S
def g_X10_isStill : z_G := .inl (fun as S => match as with
  | [.ref v0, .int v1, .long v2] => f_X10_isStill v0 v1 v2 S
  | _ => none)
def c_X10_isStill : List z_E := [
  (0, .iconst 0, 1, .int ((0 : Int32)), [], z_g0),
  (1, .istore 4, 2, .null, [], z_g0),
  (3, .iload 4, 2, .null, [], z_g0),
  (5, .iconst 4, 1, .int ((4 : Int32)), [], z_g0),
  (6, .if_icmp .ge 28, 3, .null, [34], z_g0),
  (9, .aload_n 0, 1, .null, [], z_g0),
  (10, .getfield 21, 3, .null, [11, 2, 3], z_g0),
  (13, .iload 4, 2, .null, [], z_g0),
  (15, .bipush 6, 2, .int ((6 : Int32)), [], z_g0),
  (17, .imul, 1, .null, [], z_g0),
  (18, .iload_n 1, 1, .null, [], z_g0),
  (19, .iadd, 1, .null, [], z_g0),
  (20, .laload, 1, .null, [], z_g0),
  (21, .lload_n 2, 1, .null, [], z_g0),
  (22, .lcmp, 1, .null, [], z_g0),
  (23, .ifCond .eq 5, 3, .null, [28], z_g0),
  (26, .iconst 0, 1, .int ((0 : Int32)), [], z_g0),
  (27, .ireturn, 1, .null, [], z_g0),
  (28, .iinc 4 1, 3, .int (1 : Int32), [], z_g0),
  (31, .goto (-28), 3, .null, [3], z_g0),
  (34, .iconst 1, 1, .int ((1 : Int32)), [], z_g0),
  (35, .ireturn, 1, .null, [], z_g0)]
def a_X10_isStill_3 {ρ : Type} (k : Nat → Int32 → Int64 → Int32 → z_St → Option ρ) (ls : z_Lv) (st : List Value) (S : z_St) : Option ρ := z_gR ls 0 fun v0 => z_gI ls 1 fun v1 => z_gJ ls 2 fun v2 => z_gI ls 4 fun v4 => z_p0 st (k v0 v1 v2 v4 S)
set_option maxRecDepth 100000 in
theorem r_X10_isStill_3 (n : Nat) (v0 : Nat) (v1 : Int32) (v2 : Int64) (v4 : Int32) (S : z_St) : z_seg z_rZ (c_X10_isStill) [3] (fun pc => cond (Nat.beq pc 3) (a_X10_isStill_3 (l_X10_isStill_3 n)) (fun _ _ _ => none)) 25 (z_to 3 (c_X10_isStill)) [(0, .ref v0), (1, .int v1), (2, .long v2), (4, .int v4)] [] S = l_X10_isStill_3 (n + 1) v0 v1 v2 v4 S := rfl
set_option maxRecDepth 100000 in
theorem r_X10_isStill (v0 : Nat) (v1 : Int32) (v2 : Int64) (S : z_St) : z_seg z_rZ (c_X10_isStill) [3] (fun pc => cond (Nat.beq pc 3) (a_X10_isStill_3 (l_X10_isStill_3 z_N)) (fun _ _ _ => none)) 25 (c_X10_isStill) [(0, .ref v0), (1, .int v1), (2, .long v2)] [] S = b_X10_isStill v0 v1 v2 S := rfl
def l_X10_stirs_7 : Nat → Nat → Int32 → Int64 → Int32 → z_St → Option (Int32 × z_St)
  | 0 => fun _ _ _ _ _ => none
  | n + 1 => fun (v0 : Nat) (v1 : Int32) (v2 : Int64) (v4 : Int32) (S : z_St) =>
if ((4 : Int32)) ≤ v4 then
(z_rb ((0 : Int32)) S)
else
(z_chk S v0 11 (
z_onV (va_rf (z_r S v0 2)) fun b1 =>
z_inb S b1 102 ((v4 * ((6 : Int32))) + v1) (
let x2 := (z_l S b1 ((v4 * ((6 : Int32))) + v1).toNatClampNeg)
if (lg_cmp x2 ((9221120237041090560 : Int64))) = 0 then
(let x5 := v4 + (1 : Int32)
l_X10_stirs_7 n v0 v1 v2 x5 S)
else
(if (lg_cmp v2 ((9221120237041090560 : Int64))) = 0 then
(let x3 := v4 + (1 : Int32)
l_X10_stirs_7 n v0 v1 x2 x3 S)
else
(if (lg_cmp x2 v2) = 0 then
(let x4 := v4 + (1 : Int32)
l_X10_stirs_7 n v0 v1 x2 x4 S)
else
(z_rb ((1 : Int32)) S))))))
def b_X10_stirs (v0 : Nat) (v1 : Int32) (S : z_St) : Option (Int32 × z_St) :=
l_X10_stirs_7 z_N v0 v1 ((9221120237041090560 : Int64)) ((0 : Int32)) S
def f_X10_stirs : Nat → Int32 → z_St → Option (Int32 × z_St) := z_op (b_X10_stirs)
theorem e_X10_stirs (v0 : Nat) (v1 : Int32) (S : z_St) : f_X10_stirs v0 v1 S = b_X10_stirs v0 v1 S := congrFun (congrFun (congrFun (z_op_eq (b_X10_stirs)) v0) v1) S
def g_X10_stirs : z_G := .inl (fun as S => match as with
  | [.ref v0, .int v1] => f_X10_stirs v0 v1 S
  | _ => none)
def c_X10_stirs : List z_E := [
  (0, .ldc2_w 15, 3, .long (9221120237041090560 : Int64), [], z_g0),
  (3, .lstore_n 2, 1, .null, [], z_g0),
  (4, .iconst 0, 1, .int ((0 : Int32)), [], z_g0),
  (5, .istore 4, 2, .null, [], z_g0),
  (7, .iload 4, 2, .null, [], z_g0),
  (9, .iconst 4, 1, .int ((4 : Int32)), [], z_g0),
  (10, .if_icmp .ge 55, 3, .null, [65], z_g0),
  (13, .aload_n 0, 1, .null, [], z_g0),
  (14, .getfield 21, 3, .null, [11, 2, 3], z_g0),
  (17, .iload 4, 2, .null, [], z_g0),
  (19, .bipush 6, 2, .int ((6 : Int32)), [], z_g0),
  (21, .imul, 1, .null, [], z_g0),
  (22, .iload_n 1, 1, .null, [], z_g0),
  (23, .iadd, 1, .null, [], z_g0),
  (24, .laload, 1, .null, [], z_g0),
  (25, .lstore 5, 2, .null, [], z_g0),
  (27, .lload 5, 2, .null, [], z_g0),
  (29, .ldc2_w 15, 3, .long (9221120237041090560 : Int64), [], z_g0),
  (32, .lcmp, 1, .null, [], z_g0),
  (33, .ifCond .ne 6, 3, .null, [39], z_g0),
  (36, .goto 23, 3, .null, [59], z_g0),
  (39, .lload_n 2, 1, .null, [], z_g0),
  (40, .ldc2_w 15, 3, .long (9221120237041090560 : Int64), [], z_g0),
  (43, .lcmp, 1, .null, [], z_g0),
  (44, .ifCond .eq 12, 3, .null, [56], z_g0),
  (47, .lload 5, 2, .null, [], z_g0),
  (49, .lload_n 2, 1, .null, [], z_g0),
  (50, .lcmp, 1, .null, [], z_g0),
  (51, .ifCond .eq 5, 3, .null, [56], z_g0),
  (54, .iconst 1, 1, .int ((1 : Int32)), [], z_g0),
  (55, .ireturn, 1, .null, [], z_g0),
  (56, .lload 5, 2, .null, [], z_g0),
  (58, .lstore_n 2, 1, .null, [], z_g0),
  (59, .iinc 4 1, 3, .int (1 : Int32), [], z_g0),
  (62, .goto (-55), 3, .null, [7], z_g0),
  (65, .iconst 0, 1, .int ((0 : Int32)), [], z_g0),
  (66, .ireturn, 1, .null, [], z_g0)]
def a_X10_stirs_7 {ρ : Type} (k : Nat → Int32 → Int64 → Int32 → z_St → Option ρ) (ls : z_Lv) (st : List Value) (S : z_St) : Option ρ := z_gR ls 0 fun v0 => z_gI ls 1 fun v1 => z_gJ ls 2 fun v2 => z_gI ls 4 fun v4 => z_p0 st (k v0 v1 v2 v4 S)
set_option maxRecDepth 100000 in
theorem r_X10_stirs_7 (n : Nat) (v0 : Nat) (v1 : Int32) (v2 : Int64) (v4 : Int32) (S : z_St) : z_seg z_rZ (c_X10_stirs) [7] (fun pc => cond (Nat.beq pc 7) (a_X10_stirs_7 (l_X10_stirs_7 n)) (fun _ _ _ => none)) 40 (z_to 7 (c_X10_stirs)) [(0, .ref v0), (1, .int v1), (2, .long v2), (4, .int v4)] [] S = l_X10_stirs_7 (n + 1) v0 v1 v2 v4 S := rfl
set_option maxRecDepth 100000 in
theorem r_X10_stirs (v0 : Nat) (v1 : Int32) (S : z_St) : z_seg z_rZ (c_X10_stirs) [7] (fun pc => cond (Nat.beq pc 7) (a_X10_stirs_7 (l_X10_stirs_7 z_N)) (fun _ _ _ => none)) 40 (c_X10_stirs) [(0, .ref v0), (1, .int v1)] [] S = b_X10_stirs v0 v1 S := rfl
def l_X10_othersStir_2 : Nat → Nat → Int32 → Int32 → z_St → Option (Int32 × z_St)
  | 0 => fun _ _ _ _ => none
  | n + 1 => fun (v0 : Nat) (v1 : Int32) (v2 : Int32) (S : z_St) =>
if ((6 : Int32)) ≤ v2 then
(z_rb ((0 : Int32)) S)
else
(if v2 = v1 then
(let x1 := v2 + (1 : Int32)
l_X10_othersStir_2 n v0 v1 x1 S)
else
(z_chk S v0 11 (
(f_X10_stirs v0 v2 S).bind fun q2 =>
if q2.1 = 0 then
(let x3 := v2 + (1 : Int32)
l_X10_othersStir_2 n v0 v1 x3 q2.2)
else
(z_rb ((1 : Int32)) q2.2))))
def b_X10_othersStir (v0 : Nat) (v1 : Int32) (S : z_St) : Option (Int32 × z_St) :=
l_X10_othersStir_2 z_N v0 v1 ((0 : Int32)) S
def f_X10_othersStir : Nat → Int32 → z_St → Option (Int32 × z_St) := z_op (b_X10_othersStir)
theorem e_X10_othersStir (v0 : Nat) (v1 : Int32) (S : z_St) : f_X10_othersStir v0 v1 S = b_X10_othersStir v0 v1 S := congrFun (congrFun (congrFun (z_op_eq (b_X10_othersStir)) v0) v1) S
def g_X10_othersStir : z_G := .inl (fun as S => match as with
  | [.ref v0, .int v1] => f_X10_othersStir v0 v1 S
  | _ => none)
def c_X10_othersStir : List z_E := [
  (0, .iconst 0, 1, .int ((0 : Int32)), [], z_g0),
  (1, .istore_n 2, 1, .null, [], z_g0),
  (2, .iload_n 2, 1, .null, [], z_g0),
  (3, .bipush 6, 2, .int ((6 : Int32)), [], z_g0),
  (5, .if_icmp .ge 24, 3, .null, [29], z_g0),
  (8, .iload_n 2, 1, .null, [], z_g0),
  (9, .iload_n 1, 1, .null, [], z_g0),
  (10, .if_icmp .eq 13, 3, .null, [23], z_g0),
  (13, .aload_n 0, 1, .null, [], z_g0),
  (14, .iload_n 2, 1, .null, [], z_g0),
  (15, .invokevirtual 68, 3, .null, [1, 11, 0], g_X10_stirs),
  (18, .ifCond .eq 5, 3, .null, [23], z_g0),
  (21, .iconst 1, 1, .int ((1 : Int32)), [], z_g0),
  (22, .ireturn, 1, .null, [], z_g0),
  (23, .iinc 2 1, 3, .int (1 : Int32), [], z_g0),
  (26, .goto (-24), 3, .null, [2], z_g0),
  (29, .iconst 0, 1, .int ((0 : Int32)), [], z_g0),
  (30, .ireturn, 1, .null, [], z_g0)]
def a_X10_othersStir_2 {ρ : Type} (k : Nat → Int32 → Int32 → z_St → Option ρ) (ls : z_Lv) (st : List Value) (S : z_St) : Option ρ := z_gR ls 0 fun v0 => z_gI ls 1 fun v1 => z_gI ls 2 fun v2 => z_p0 st (k v0 v1 v2 S)
set_option maxRecDepth 100000 in
theorem r_X10_othersStir_2 (n : Nat) (v0 : Nat) (v1 : Int32) (v2 : Int32) (S : z_St) : z_seg z_rZ (c_X10_othersStir) [2] (fun pc => cond (Nat.beq pc 2) (a_X10_othersStir_2 (l_X10_othersStir_2 n)) (fun _ _ _ => none)) 21 (z_to 2 (c_X10_othersStir)) [(0, .ref v0), (1, .int v1), (2, .int v2)] [] S = l_X10_othersStir_2 (n + 1) v0 v1 v2 S := rfl
set_option maxRecDepth 100000 in
theorem r_X10_othersStir (v0 : Nat) (v1 : Int32) (S : z_St) : z_seg z_rZ (c_X10_othersStir) [2] (fun pc => cond (Nat.beq pc 2) (a_X10_othersStir_2 (l_X10_othersStir_2 z_N)) (fun _ _ _ => none)) 21 (c_X10_othersStir) [(0, .ref v0), (1, .int v1)] [] S = b_X10_othersStir v0 v1 S := rfl
def j_X10_fateOf_28 (v0 : Nat) (v1 : Int32) (v4 : Int32) (S : z_St) : Option (Int32 × z_St) :=
if v4 = 0 then
(some ((0 : Int32), S))
else
(z_chk S v0 11 (
z_onV (va_rf (z_r S v0 3)) fun b4 =>
z_inb S b4 101 v1 (
if ((3 : Int32)) ≤ ((z_i S b4 v1.toNatClampNeg)) then
(some ((0 : Int32), S))
else
(some ((3 : Int32), S)))))
def b_X10_fateOf (v0 : Nat) (v1 : Int32) (v2 : Int64) (v4 : Int32) (S : z_St) : Option (Int32 × z_St) :=
(f_X11_noNumber v2 S).bind fun q1 =>
if q1.1 = 0 then
(z_chk q1.2 v0 11 (
(f_X10_isStill v0 v1 v2 q1.2).bind fun q2 =>
if q2.1 = 0 then
(j_X10_fateOf_28 v0 v1 v4 q2.2)
else
(z_chk q2.2 v0 11 (
(f_X10_othersStir v0 v1 q2.2).bind fun q3 =>
if q3.1 = 0 then
(j_X10_fateOf_28 v0 v1 v4 q3.2)
else
(some ((2 : Int32), q3.2))))))
else
(some ((1 : Int32), q1.2))
def f_X10_fateOf : Nat → Int32 → Int64 → Int32 → z_St → Option (Int32 × z_St) := z_op (b_X10_fateOf)
theorem e_X10_fateOf (v0 : Nat) (v1 : Int32) (v2 : Int64) (v4 : Int32) (S : z_St) : f_X10_fateOf v0 v1 v2 v4 S = b_X10_fateOf v0 v1 v2 v4 S := congrFun (congrFun (congrFun (congrFun (congrFun (z_op_eq (b_X10_fateOf)) v0) v1) v2) v4) S
def g_X10_fateOf : z_G := .inl (fun as S => match as with
  | [.ref v0, .int v1, .long v2, .int v4] => f_X10_fateOf v0 v1 v2 v4 S
  | _ => none)
def c_X10_fateOf : List z_E := [
  (0, .lload_n 2, 1, .null, [], z_g0),
  (1, .invokestatic 50, 3, .null, [0, 0], g_X11_noNumber),
  (4, .ifCond .eq 5, 3, .null, [9], z_g0),
  (7, .iconst 1, 1, .int ((1 : Int32)), [], z_g0),
  (8, .ireturn, 1, .null, [], z_g0),
  (9, .aload_n 0, 1, .null, [], z_g0),
  (10, .iload_n 1, 1, .null, [], z_g0),
  (11, .lload_n 2, 1, .null, [], z_g0),
  (12, .invokevirtual 60, 3, .null, [1, 11, 0, 0], g_X10_isStill),
  (15, .ifCond .eq 13, 3, .null, [28], z_g0),
  (18, .aload_n 0, 1, .null, [], z_g0),
  (19, .iload_n 1, 1, .null, [], z_g0),
  (20, .invokevirtual 64, 3, .null, [1, 11, 0], g_X10_othersStir),
  (23, .ifCond .eq 5, 3, .null, [28], z_g0),
  (26, .iconst 2, 1, .int ((2 : Int32)), [], z_g0),
  (27, .ireturn, 1, .null, [], z_g0),
  (28, .iload 4, 2, .null, [], z_g0),
  (30, .ifCond .eq 17, 3, .null, [47], z_g0),
  (33, .aload_n 0, 1, .null, [], z_g0),
  (34, .getfield 24, 3, .null, [11, 3, 3], z_g0),
  (37, .iload_n 1, 1, .null, [], z_g0),
  (38, .iaload, 1, .null, [101], z_g0),
  (39, .iconst 3, 1, .int ((3 : Int32)), [], z_g0),
  (40, .if_icmp .ge 7, 3, .null, [47], z_g0),
  (43, .iconst 3, 1, .int ((3 : Int32)), [], z_g0),
  (44, .goto 4, 3, .null, [48], z_g0),
  (47, .iconst 0, 1, .int ((0 : Int32)), [], z_g0),
  (48, .ireturn, 1, .null, [], z_g0)]
def a_X10_fateOf_28 {ρ : Type} (k : Nat → Int32 → Int32 → z_St → Option ρ) (ls : z_Lv) (st : List Value) (S : z_St) : Option ρ := z_gR ls 0 fun v0 => z_gI ls 1 fun v1 => z_gI ls 4 fun v4 => z_p0 st (k v0 v1 v4 S)
set_option maxRecDepth 100000 in
theorem r_X10_fateOf_28 (v0 : Nat) (v1 : Int32) (v4 : Int32) (S : z_St) : z_seg z_rI (c_X10_fateOf) [28] (fun pc => fun _ _ _ => none) 31 (z_to 28 (c_X10_fateOf)) [(0, .ref v0), (1, .int v1), (4, .int v4)] [] S = j_X10_fateOf_28 v0 v1 v4 S := rfl
set_option maxRecDepth 100000 in
theorem r_X10_fateOf (v0 : Nat) (v1 : Int32) (v2 : Int64) (v4 : Int32) (S : z_St) : z_seg z_rI (c_X10_fateOf) [28] (fun pc => cond (Nat.beq pc 28) (a_X10_fateOf_28 (j_X10_fateOf_28)) (fun _ _ _ => none)) 31 (c_X10_fateOf) [(0, .ref v0), (1, .int v1), (2, .long v2), (4, .int v4)] [] S = b_X10_fateOf v0 v1 v2 v4 S := rfl
def b_X11_rankOf (v0 : Int64) (S : z_St) : Option (Int64 × z_St) :=
if (lg_cmp v0 ((0 : Int64))) < 0 then
(some (-(v0 &&& ((9223372036854775807 : Int64))), S))
else
(some (v0, S))
def f_X11_rankOf : Int64 → z_St → Option (Int64 × z_St) := z_op (b_X11_rankOf)
theorem e_X11_rankOf (v0 : Int64) (S : z_St) : f_X11_rankOf v0 S = b_X11_rankOf v0 S := congrFun (congrFun (z_op_eq (b_X11_rankOf)) v0) S
def g_X11_rankOf : z_G := .inr (.inl (fun as S => match as with
  | [.long v0] => f_X11_rankOf v0 S
  | _ => none))
def c_X11_rankOf : List z_E := [
  (0, .lload_n 0, 1, .null, [], z_g0),
  (1, .lconst 0, 1, .long (0 : Int64), [], z_g0),
  (2, .lcmp, 1, .null, [], z_g0),
  (3, .ifCond .lt 7, 3, .null, [10], z_g0),
  (6, .lload_n 0, 1, .null, [], z_g0),
  (7, .goto 9, 3, .null, [16], z_g0),
  (10, .lload_n 0, 1, .null, [], z_g0),
  (11, .ldc2_w 539, 3, .long (9223372036854775807 : Int64), [], z_g0),
  (14, .land, 1, .null, [], z_g0),
  (15, .lneg, 1, .null, [], z_g0),
  (16, .lreturn, 1, .null, [], z_g0)]
set_option maxRecDepth 100000 in
theorem r_X11_rankOf (v0 : Int64) (S : z_St) : z_seg z_rL (c_X11_rankOf) [] (fun pc => fun _ _ _ => none) 14 (c_X11_rankOf) [(0, .long v0)] [] S = b_X11_rankOf v0 S := rfl
def l_X10_insert_3 : Nat → Nat → Int64 → Int32 → z_St → Option z_St
  | 0 => fun _ _ _ _ => none
  | n + 1 => fun (v0 : Nat) (v1 : Int64) (v4 : Int32) (S : z_St) =>
if v4 ≤ 0 then
(z_chk S v0 11 (
z_onV (va_rf (z_r S v0 5)) fun b1 =>
z_inb S b1 102 v4 (
let S2 := z_wl S b1 v4.toNatClampNeg v1
some S2)))
else
(z_chk S v0 11 (
z_onV (va_rf (z_r S v0 5)) fun b3 =>
z_inb S b3 102 (v4 - ((1 : Int32))) (
(f_X11_rankOf ((z_l S b3 (v4 - ((1 : Int32))).toNatClampNeg)) S).bind fun q4 =>
(f_X11_rankOf v1 q4.2).bind fun q5 =>
if (lg_cmp q4.1 q5.1) ≤ 0 then
(z_chk q5.2 v0 11 (
z_onV (va_rf (z_r q5.2 v0 5)) fun b6 =>
z_inb q5.2 b6 102 v4 (
let S7 := z_wl q5.2 b6 v4.toNatClampNeg v1
some S7)))
else
(z_chk q5.2 v0 11 (
z_chk q5.2 v0 11 (
z_onV (va_rf (z_r q5.2 v0 5)) fun b8 =>
z_inb q5.2 b8 102 (v4 - ((1 : Int32))) (
z_onV (va_rf (z_r q5.2 v0 5)) fun b9 =>
z_inb q5.2 b9 102 v4 (
let S10 := z_wl q5.2 b9 v4.toNatClampNeg ((z_l q5.2 b8 (v4 - ((1 : Int32))).toNatClampNeg))
let x11 := v4 + (-1 : Int32)
l_X10_insert_3 n v0 v1 x11 S10))))))))
def b_X10_insert (v0 : Nat) (v1 : Int64) (v3 : Int32) (S : z_St) : Option z_St :=
l_X10_insert_3 z_N v0 v1 v3 S
def f_X10_insert : Nat → Int64 → Int32 → z_St → Option z_St := z_op (b_X10_insert)
theorem e_X10_insert (v0 : Nat) (v1 : Int64) (v3 : Int32) (S : z_St) : f_X10_insert v0 v1 v3 S = b_X10_insert v0 v1 v3 S := congrFun (congrFun (congrFun (congrFun (z_op_eq (b_X10_insert)) v0) v1) v3) S
def g_X10_insert : z_G := .inr (.inr (.inr (fun as S => match as with
  | [.ref v0, .long v1, .int v3] => f_X10_insert v0 v1 v3 S
  | _ => none)))
def c_X10_insert : List z_E := [
  (0, .iload_n 3, 1, .null, [], z_g0),
  (1, .istore 4, 2, .null, [], z_g0),
  (3, .iload 4, 2, .null, [], z_g0),
  (5, .ifCond .le 45, 3, .null, [50], z_g0),
  (8, .aload_n 0, 1, .null, [], z_g0),
  (9, .getfield 31, 3, .null, [11, 5, 3], z_g0),
  (12, .iload 4, 2, .null, [], z_g0),
  (14, .iconst 1, 1, .int ((1 : Int32)), [], z_g0),
  (15, .isub, 1, .null, [], z_g0),
  (16, .laload, 1, .null, [], z_g0),
  (17, .invokestatic 71, 3, .null, [0, 0], g_X11_rankOf),
  (20, .lload_n 1, 1, .null, [], z_g0),
  (21, .invokestatic 71, 3, .null, [0, 0], g_X11_rankOf),
  (24, .lcmp, 1, .null, [], z_g0),
  (25, .ifCond .le 25, 3, .null, [50], z_g0),
  (28, .aload_n 0, 1, .null, [], z_g0),
  (29, .getfield 31, 3, .null, [11, 5, 3], z_g0),
  (32, .iload 4, 2, .null, [], z_g0),
  (34, .aload_n 0, 1, .null, [], z_g0),
  (35, .getfield 31, 3, .null, [11, 5, 3], z_g0),
  (38, .iload 4, 2, .null, [], z_g0),
  (40, .iconst 1, 1, .int ((1 : Int32)), [], z_g0),
  (41, .isub, 1, .null, [], z_g0),
  (42, .laload, 1, .null, [], z_g0),
  (43, .lastore, 1, .null, [], z_g0),
  (44, .iinc 4 (-1), 3, .int (-1 : Int32), [], z_g0),
  (47, .goto (-44), 3, .null, [3], z_g0),
  (50, .aload_n 0, 1, .null, [], z_g0),
  (51, .getfield 31, 3, .null, [11, 5, 3], z_g0),
  (54, .iload 4, 2, .null, [], z_g0),
  (56, .lload_n 1, 1, .null, [], z_g0),
  (57, .lastore, 1, .null, [], z_g0),
  (58, .return_, 1, .null, [], z_g0)]
def a_X10_insert_3 {ρ : Type} (k : Nat → Int64 → Int32 → z_St → Option ρ) (ls : z_Lv) (st : List Value) (S : z_St) : Option ρ := z_gR ls 0 fun v0 => z_gJ ls 1 fun v1 => z_gI ls 4 fun v4 => z_p0 st (k v0 v1 v4 S)
set_option maxRecDepth 100000 in
theorem r_X10_insert_3 (n : Nat) (v0 : Nat) (v1 : Int64) (v4 : Int32) (S : z_St) : z_seg z_rV (c_X10_insert) [3] (fun pc => cond (Nat.beq pc 3) (a_X10_insert_3 (l_X10_insert_3 n)) (fun _ _ _ => none)) 36 (z_to 3 (c_X10_insert)) [(0, .ref v0), (1, .long v1), (4, .int v4)] [] S = l_X10_insert_3 (n + 1) v0 v1 v4 S := rfl
set_option maxRecDepth 100000 in
theorem r_X10_insert (v0 : Nat) (v1 : Int64) (v3 : Int32) (S : z_St) : z_seg z_rV (c_X10_insert) [3] (fun pc => cond (Nat.beq pc 3) (a_X10_insert_3 (l_X10_insert_3 z_N)) (fun _ _ _ => none)) 36 (c_X10_insert) [(0, .ref v0), (1, .long v1), (3, .int v3)] [] S = b_X10_insert v0 v1 v3 S := rfl
def j_X10_hear_101 (k_20 : Nat → Int32 → UInt64 → Int32 → Int32 → Int32 → z_St → Option (Int64 × z_St)) (v0 : Nat) (v1 : Int32) (v2 : UInt64) (v4 : Int32) (v5 : Int32) (v6 : Int32) (v7 : Int64) (t0 : Nat) (t1 : Int32) (t2 : Int32) (S : z_St) : Option (Int64 × z_St) :=
z_inb S t0 101 t1 (
let S16 := z_wi S t0 t1.toNatClampNeg t2
z_chk S16 v0 11 (
z_onV (va_rf (z_r S16 v0 4)) fun b17 =>
z_inb S16 b17 101 v6 (
if ((z_i S16 b17 v6.toNatClampNeg)) = 0 then
(z_chk S16 v0 11 (
(f_X10_insert v0 v7 v5 S16).bind fun q19 =>
let x20 := v5 + (1 : Int32)
let x21 := v6 + (1 : Int32)
k_20 v0 v1 v2 v4 x20 x21 q19))
else
(let x18 := v6 + (1 : Int32)
k_20 v0 v1 v2 v4 v5 x18 S16))))
def j_X10_hear_58 (k_20 : Nat → Int32 → UInt64 → Int32 → Int32 → Int32 → z_St → Option (Int64 × z_St)) (v0 : Nat) (v1 : Int32) (v2 : UInt64) (v4 : Int32) (v5 : Int32) (v6 : Int32) (v7 : Int64) (t0 : Int32) (S : z_St) : Option (Int64 × z_St) :=
z_chk S v0 11 (
z_chk S v0 11 (
(f_X10_fateOf v0 v6 v7 t0 S).bind fun q10 =>
z_onV (va_rf (z_r S v0 4)) fun b11 =>
z_inb q10.2 b11 101 v6 (
let S12 := z_wi q10.2 b11 v6.toNatClampNeg q10.1
z_chk S12 v0 11 (
if t0 = 0 then
(z_onV (va_rf (z_r S12 v0 3)) fun b13 =>
j_X10_hear_101 k_20 v0 v1 v2 v4 v5 v6 v7 b13 v6 ((0 : Int32)) S12)
else
(z_chk S12 v0 11 (
z_onV (va_rf (z_r S12 v0 3)) fun b14 =>
z_inb S12 b14 101 v6 (
z_onV (va_rf (z_r S12 v0 3)) fun b15 =>
j_X10_hear_101 k_20 v0 v1 v2 v4 v5 v6 v7 b15 v6 (((z_i S12 b14 v6.toNatClampNeg)) + ((1 : Int32))) S12)))))))
def l_X10_hear_20 : Nat → Nat → Int32 → UInt64 → Int32 → Int32 → Int32 → z_St → Option (Int64 × z_St)
  | 0 => fun _ _ _ _ _ _ _ => none
  | n + 1 => fun (v0 : Nat) (v1 : Int32) (v2 : UInt64) (v4 : Int32) (v5 : Int32) (v6 : Int32) (S : z_St) =>
if ((6 : Int32)) ≤ v6 then
(z_chk S v0 11 (
let x3 := (z_l S v0 1)
z_chk S v0 11 (
let S4 := z_wl S v0 1 ((9221120237041090560 : Int64))
(f_X11_noNumber x3 S4).bind fun q5 =>
if q5.1 = 0 then
(some (x3, q5.2))
else
(if v5 = 0 then
(some ((9221120237041090560 : Int64), q5.2))
else
(z_chk q5.2 v0 11 (
z_nz ((2 : Int32)) (
z_onV (va_rf (z_r q5.2 v0 5)) fun b6 =>
z_inb q5.2 b6 102 ((v5 - ((1 : Int32))) / ((2 : Int32))) (
some ((z_l q5.2 b6 ((v5 - ((1 : Int32))) / ((2 : Int32))).toNatClampNeg), q5.2)))))))))
else
(z_chk S v0 11 (
z_onV (va_rf (z_r S v0 2)) fun b7 =>
z_inb S b7 102 (v4 + v6) (
let x8 := (z_l S b7 (v4 + v6).toNatClampNeg)
if v1 ≤ ((1 : Int32)) then
(j_X10_hear_58 (l_X10_hear_20 n) v0 v1 v2 v4 v5 v6 x8 ((0 : Int32)) S)
else
((f_X10_isFar x8 v2 S).bind fun q9 =>
if q9.1 = 0 then
(j_X10_hear_58 (l_X10_hear_20 n) v0 v1 v2 v4 v5 v6 x8 ((0 : Int32)) q9.2)
else
(j_X10_hear_58 (l_X10_hear_20 n) v0 v1 v2 v4 v5 v6 x8 ((1 : Int32)) q9.2)))))
def b_X10_hear (v0 : Nat) (v1 : Int32) (v2 : UInt64) (S : z_St) : Option (Int64 × z_St) :=
let x1 := (v1 &&& ((3 : Int32))) * ((6 : Int32))
z_chk S v0 11 (
(f_X10_takeIn v0 x1 S).bind fun q2 =>
l_X10_hear_20 z_N v0 v1 v2 x1 ((0 : Int32)) ((0 : Int32)) q2)
def f_X10_hear : Nat → Int32 → UInt64 → z_St → Option (Int64 × z_St) := z_op (b_X10_hear)
theorem e_X10_hear (v0 : Nat) (v1 : Int32) (v2 : UInt64) (S : z_St) : f_X10_hear v0 v1 v2 S = b_X10_hear v0 v1 v2 S := congrFun (congrFun (congrFun (congrFun (z_op_eq (b_X10_hear)) v0) v1) v2) S
def g_X10_hear : z_G := .inr (.inl (fun as S => match as with
  | [.ref v0, .int v1, .double v2] => f_X10_hear v0 v1 v2 S
  | _ => none))
def c_X10_hear : List z_E := [
  (0, .iload_n 1, 1, .null, [], z_g0),
  (1, .iconst 3, 1, .int ((3 : Int32)), [], z_g0),
  (2, .iand, 1, .null, [], z_g0),
  (3, .bipush 6, 2, .int ((6 : Int32)), [], z_g0),
  (5, .imul, 1, .null, [], z_g0),
  (6, .istore 4, 2, .null, [], z_g0),
  (8, .aload_n 0, 1, .null, [], z_g0),
  (9, .iload 4, 2, .null, [], z_g0),
  (11, .invokevirtual 34, 3, .null, [1, 11, 0], g_X10_takeIn),
  (14, .iconst 0, 1, .int ((0 : Int32)), [], z_g0),
  (15, .istore 5, 2, .null, [], z_g0),
  (17, .iconst 0, 1, .int ((0 : Int32)), [], z_g0),
  (18, .istore 6, 2, .null, [], z_g0),
  (20, .iload 6, 2, .null, [], z_g0),
  (22, .bipush 6, 2, .int ((6 : Int32)), [], z_g0),
  (24, .if_icmp .ge 105, 3, .null, [129], z_g0),
  (27, .aload_n 0, 1, .null, [], z_g0),
  (28, .getfield 21, 3, .null, [11, 2, 3], z_g0),
  (31, .iload 4, 2, .null, [], z_g0),
  (33, .iload 6, 2, .null, [], z_g0),
  (35, .iadd, 1, .null, [], z_g0),
  (36, .laload, 1, .null, [], z_g0),
  (37, .lstore 7, 2, .null, [], z_g0),
  (39, .iload_n 1, 1, .null, [], z_g0),
  (40, .iconst 1, 1, .int ((1 : Int32)), [], z_g0),
  (41, .if_icmp .le 16, 3, .null, [57], z_g0),
  (44, .lload 7, 2, .null, [], z_g0),
  (46, .dload_n 2, 1, .null, [], z_g0),
  (47, .invokestatic 38, 3, .null, [0, 0, 0], g_X10_isFar),
  (50, .ifCond .eq 7, 3, .null, [57], z_g0),
  (53, .iconst 1, 1, .int ((1 : Int32)), [], z_g0),
  (54, .goto 4, 3, .null, [58], z_g0),
  (57, .iconst 0, 1, .int ((0 : Int32)), [], z_g0),
  (58, .istore 9, 2, .null, [], z_g0),
  (60, .aload_n 0, 1, .null, [], z_g0),
  (61, .getfield 28, 3, .null, [11, 4, 3], z_g0),
  (64, .iload 6, 2, .null, [], z_g0),
  (66, .aload_n 0, 1, .null, [], z_g0),
  (67, .iload 6, 2, .null, [], z_g0),
  (69, .lload 7, 2, .null, [], z_g0),
  (71, .iload 9, 2, .null, [], z_g0),
  (73, .invokevirtual 42, 3, .null, [1, 11, 0, 0, 0], g_X10_fateOf),
  (76, .iastore, 1, .null, [], z_g0),
  (77, .aload_n 0, 1, .null, [], z_g0),
  (78, .getfield 24, 3, .null, [11, 3, 3], z_g0),
  (81, .iload 6, 2, .null, [], z_g0),
  (83, .iload 9, 2, .null, [], z_g0),
  (85, .ifCond .eq 15, 3, .null, [100], z_g0),
  (88, .aload_n 0, 1, .null, [], z_g0),
  (89, .getfield 24, 3, .null, [11, 3, 3], z_g0),
  (92, .iload 6, 2, .null, [], z_g0),
  (94, .iaload, 1, .null, [101], z_g0),
  (95, .iconst 1, 1, .int ((1 : Int32)), [], z_g0),
  (96, .iadd, 1, .null, [], z_g0),
  (97, .goto 4, 3, .null, [101], z_g0),
  (100, .iconst 0, 1, .int ((0 : Int32)), [], z_g0),
  (101, .iastore, 1, .null, [], z_g0),
  (102, .aload_n 0, 1, .null, [], z_g0),
  (103, .getfield 28, 3, .null, [11, 4, 3], z_g0),
  (106, .iload 6, 2, .null, [], z_g0),
  (108, .iaload, 1, .null, [101], z_g0),
  (109, .ifCond .ne 14, 3, .null, [123], z_g0),
  (112, .aload_n 0, 1, .null, [], z_g0),
  (113, .lload 7, 2, .null, [], z_g0),
  (115, .iload 5, 2, .null, [], z_g0),
  (117, .invokevirtual 46, 3, .null, [1, 11, 0, 0], g_X10_insert),
  (120, .iinc 5 1, 3, .int (1 : Int32), [], z_g0),
  (123, .iinc 6 1, 3, .int (1 : Int32), [], z_g0),
  (126, .goto (-106), 3, .null, [20], z_g0),
  (129, .aload_n 0, 1, .null, [], z_g0),
  (130, .getfield 17, 3, .null, [11, 1, 1], z_g0),
  (133, .lstore 6, 2, .null, [], z_g0),
  (135, .aload_n 0, 1, .null, [], z_g0),
  (136, .ldc2_w 15, 3, .long (9221120237041090560 : Int64), [], z_g0),
  (139, .putfield 17, 3, .null, [11, 1, 1], z_g0),
  (142, .lload 6, 2, .null, [], z_g0),
  (144, .invokestatic 50, 3, .null, [0, 0], g_X11_noNumber),
  (147, .ifCond .ne 6, 3, .null, [153], z_g0),
  (150, .lload 6, 2, .null, [], z_g0),
  (152, .lreturn, 1, .null, [], z_g0),
  (153, .iload 5, 2, .null, [], z_g0),
  (155, .ifCond .ne 9, 3, .null, [164], z_g0),
  (158, .ldc2_w 15, 3, .long (9221120237041090560 : Int64), [], z_g0),
  (161, .goto 14, 3, .null, [175], z_g0),
  (164, .aload_n 0, 1, .null, [], z_g0),
  (165, .getfield 31, 3, .null, [11, 5, 3], z_g0),
  (168, .iload 5, 2, .null, [], z_g0),
  (170, .iconst 1, 1, .int ((1 : Int32)), [], z_g0),
  (171, .isub, 1, .null, [], z_g0),
  (172, .iconst 2, 1, .int ((2 : Int32)), [], z_g0),
  (173, .idiv, 1, .null, [], z_g0),
  (174, .laload, 1, .null, [], z_g0),
  (175, .lreturn, 1, .null, [], z_g0)]
def a_X10_hear_20 {ρ : Type} (k : Nat → Int32 → UInt64 → Int32 → Int32 → Int32 → z_St → Option ρ) (ls : z_Lv) (st : List Value) (S : z_St) : Option ρ := z_gR ls 0 fun v0 => z_gI ls 1 fun v1 => z_gD ls 2 fun v2 => z_gI ls 4 fun v4 => z_gI ls 5 fun v5 => z_gI ls 6 fun v6 => z_p0 st (k v0 v1 v2 v4 v5 v6 S)
def a_X10_hear_58 {ρ : Type} (k : Nat → Int32 → UInt64 → Int32 → Int32 → Int32 → Int64 → Int32 → z_St → Option ρ) (ls : z_Lv) (st : List Value) (S : z_St) : Option ρ := z_gR ls 0 fun v0 => z_gI ls 1 fun v1 => z_gD ls 2 fun v2 => z_gI ls 4 fun v4 => z_gI ls 5 fun v5 => z_gI ls 6 fun v6 => z_gJ ls 7 fun v7 => z_pI st fun t0 s0 => z_p0 s0 (k v0 v1 v2 v4 v5 v6 v7 t0 S)
def a_X10_hear_101 {ρ : Type} (k : Nat → Int32 → UInt64 → Int32 → Int32 → Int32 → Int64 → Nat → Int32 → Int32 → z_St → Option ρ) (ls : z_Lv) (st : List Value) (S : z_St) : Option ρ := z_gR ls 0 fun v0 => z_gI ls 1 fun v1 => z_gD ls 2 fun v2 => z_gI ls 4 fun v4 => z_gI ls 5 fun v5 => z_gI ls 6 fun v6 => z_gJ ls 7 fun v7 => z_pI st fun t2 s2 => z_pI s2 fun t1 s1 => z_pR s1 fun t0 s0 => z_p0 s0 (k v0 v1 v2 v4 v5 v6 v7 t0 t1 t2 S)
set_option maxRecDepth 100000 in
theorem r_X10_hear_101 (k_20 : Nat → Int32 → UInt64 → Int32 → Int32 → Int32 → z_St → Option (Int64 × z_St)) (v0 : Nat) (v1 : Int32) (v2 : UInt64) (v4 : Int32) (v5 : Int32) (v6 : Int32) (v7 : Int64) (t0 : Nat) (t1 : Int32) (t2 : Int32) (S : z_St) : z_seg z_rL (c_X10_hear) [20, 58, 101] (fun pc => cond (Nat.beq pc 20) (a_X10_hear_20 k_20) (fun _ _ _ => none)) 96 (z_to 101 (c_X10_hear)) [(0, .ref v0), (1, .int v1), (2, .double v2), (4, .int v4), (5, .int v5), (6, .int v6), (7, .long v7)] [.int t2, .int t1, .ref t0] S = j_X10_hear_101 k_20 v0 v1 v2 v4 v5 v6 v7 t0 t1 t2 S := rfl
set_option maxRecDepth 100000 in
theorem r_X10_hear_58 (k_20 : Nat → Int32 → UInt64 → Int32 → Int32 → Int32 → z_St → Option (Int64 × z_St)) (v0 : Nat) (v1 : Int32) (v2 : UInt64) (v4 : Int32) (v5 : Int32) (v6 : Int32) (v7 : Int64) (t0 : Int32) (S : z_St) : z_seg z_rL (c_X10_hear) [20, 58, 101] (fun pc => cond (Nat.beq pc 101) (a_X10_hear_101 (j_X10_hear_101 k_20)) (fun _ _ _ => none)) 96 (z_to 58 (c_X10_hear)) [(0, .ref v0), (1, .int v1), (2, .double v2), (4, .int v4), (5, .int v5), (6, .int v6), (7, .long v7)] [.int t0] S = j_X10_hear_58 k_20 v0 v1 v2 v4 v5 v6 v7 t0 S := rfl
set_option maxRecDepth 100000 in
theorem r_X10_hear_20 (n : Nat) (v0 : Nat) (v1 : Int32) (v2 : UInt64) (v4 : Int32) (v5 : Int32) (v6 : Int32) (S : z_St) : z_seg z_rL (c_X10_hear) [20, 58, 101] (fun pc => cond (Nat.beq pc 58) (a_X10_hear_58 (j_X10_hear_58 (l_X10_hear_20 n))) (fun _ _ _ => none)) 96 (z_to 20 (c_X10_hear)) [(0, .ref v0), (1, .int v1), (2, .double v2), (4, .int v4), (5, .int v5), (6, .int v6)] [] S = l_X10_hear_20 (n + 1) v0 v1 v2 v4 v5 v6 S := rfl
set_option maxRecDepth 100000 in
theorem r_X10_hear (v0 : Nat) (v1 : Int32) (v2 : UInt64) (S : z_St) : z_seg z_rL (c_X10_hear) [20, 58, 101] (fun pc => cond (Nat.beq pc 20) (a_X10_hear_20 (l_X10_hear_20 z_N)) (fun _ _ _ => none)) 96 (c_X10_hear) [(0, .ref v0), (1, .int v1), (2, .double v2)] [] S = b_X10_hear v0 v1 v2 S := rfl
def j_X6_listen_36 (v0 : Nat) (v5 : Int32) (t0 : Nat) (t1 : UInt64) (S : z_St) : Option z_St :=
z_chk S t0 7 (
let S5 := z_wd S t0 8 t1
if v5 = 0 then
(z_chk S5 v0 7 (
let S6 := z_wi S5 v0 10 ((0 : Int32))
some S6))
else
(z_chk S5 v0 7 (
z_chk S5 v0 7 (
let S7 := z_wi S5 v0 10 (((z_i S5 v0 10)) + ((1 : Int32)))
some S7))))
def b_X6_listen (v0 : Nat) (v1 : UInt64) (S : z_St) : Option z_St :=
z_chk S v0 7 (
z_chk S v0 7 (
z_chk S v0 7 (
z_onV (va_rf (z_r S v0 16)) fun b1 =>
z_chk S b1 11 (
(f_X10_hear b1 ((z_i S v0 9)) ((z_d S v0 8)) S).bind fun q2 =>
(f_X11_noNumber q2.1 q2.2).bind fun q3 =>
if q3.1 = 0 then
((f_X11_realOf q2.1 q3.2).bind fun q4 =>
j_X6_listen_36 v0 q3.1 v0 q4.1 q4.2)
else
(j_X6_listen_36 v0 q3.1 v0 v1 q3.2)))))
def f_X6_listen : Nat → UInt64 → z_St → Option z_St := z_op (b_X6_listen)
theorem e_X6_listen (v0 : Nat) (v1 : UInt64) (S : z_St) : f_X6_listen v0 v1 S = b_X6_listen v0 v1 S := congrFun (congrFun (congrFun (z_op_eq (b_X6_listen)) v0) v1) S
def g_X6_listen : z_G := .inr (.inr (.inr (fun as S => match as with
  | [.ref v0, .double v1] => f_X6_listen v0 v1 S
  | _ => none)))
def c_X6_listen : List z_E := [
  (0, .aload_n 0, 1, .null, [], z_g0),
  (1, .getfield 44, 3, .null, [7, 16, 3], z_g0),
  (4, .aload_n 0, 1, .null, [], z_g0),
  (5, .getfield 54, 3, .null, [7, 9, 0], z_g0),
  (8, .aload_n 0, 1, .null, [], z_g0),
  (9, .getfield 83, 3, .null, [7, 8, 2], z_g0),
  (12, .invokevirtual 101, 3, .null, [1, 11, 0, 0], g_X10_hear),
  (15, .lstore_n 3, 1, .null, [], z_g0),
  (16, .lload_n 3, 1, .null, [], z_g0),
  (17, .invokestatic 105, 3, .null, [0, 0], g_X11_noNumber),
  (20, .istore 5, 2, .null, [], z_g0),
  (22, .aload_n 0, 1, .null, [], z_g0),
  (23, .iload 5, 2, .null, [], z_g0),
  (25, .ifCond .eq 7, 3, .null, [32], z_g0),
  (28, .dload_n 1, 1, .null, [], z_g0),
  (29, .goto 7, 3, .null, [36], z_g0),
  (32, .lload_n 3, 1, .null, [], z_g0),
  (33, .invokestatic 109, 3, .null, [0, 0], g_X11_realOf),
  (36, .putfield 83, 3, .null, [7, 8, 2], z_g0),
  (39, .aload_n 0, 1, .null, [], z_g0),
  (40, .iload 5, 2, .null, [], z_g0),
  (42, .ifCond .eq 12, 3, .null, [54], z_g0),
  (45, .aload_n 0, 1, .null, [], z_g0),
  (46, .getfield 113, 3, .null, [7, 10, 0], z_g0),
  (49, .iconst 1, 1, .int ((1 : Int32)), [], z_g0),
  (50, .iadd, 1, .null, [], z_g0),
  (51, .goto 4, 3, .null, [55], z_g0),
  (54, .iconst 0, 1, .int ((0 : Int32)), [], z_g0),
  (55, .putfield 113, 3, .null, [7, 10, 0], z_g0),
  (58, .return_, 1, .null, [], z_g0)]
def a_X6_listen_36 {ρ : Type} (k : Nat → Int32 → Nat → UInt64 → z_St → Option ρ) (ls : z_Lv) (st : List Value) (S : z_St) : Option ρ := z_gR ls 0 fun v0 => z_gI ls 5 fun v5 => z_pD st fun t1 s1 => z_pR s1 fun t0 s0 => z_p0 s0 (k v0 v5 t0 t1 S)
set_option maxRecDepth 100000 in
theorem r_X6_listen_36 (v0 : Nat) (v5 : Int32) (t0 : Nat) (t1 : UInt64) (S : z_St) : z_seg z_rV (c_X6_listen) [36] (fun pc => fun _ _ _ => none) 33 (z_to 36 (c_X6_listen)) [(0, .ref v0), (5, .int v5)] [.double t1, .ref t0] S = j_X6_listen_36 v0 v5 t0 t1 S := rfl
set_option maxRecDepth 100000 in
theorem r_X6_listen (v0 : Nat) (v1 : UInt64) (S : z_St) : z_seg z_rV (c_X6_listen) [36] (fun pc => cond (Nat.beq pc 36) (a_X6_listen_36 (j_X6_listen_36)) (fun _ _ _ => none)) 33 (c_X6_listen) [(0, .ref v0), (1, .double v1)] [] S = b_X6_listen v0 v1 S := rfl
def l_X6_orderGates_9 (k_2 : Nat → Int32 → z_St → Option z_St) : Nat → Nat → Int32 → Int32 → z_St → Option z_St
  | 0 => fun _ _ _ _ => none
  | n + 1 => fun (v0 : Nat) (v1 : Int32) (v2 : Int32) (S : z_St) =>
if v2 ≤ 0 then
(z_chk S v0 7 (
z_onV (va_rf (z_r S v0 15)) fun b1 =>
z_inb S b1 101 v2 (
let S2 := z_wi S b1 v2.toNatClampNeg v1
let x3 := v1 + (1 : Int32)
k_2 v0 x3 S2)))
else
(z_chk S v0 7 (
z_chk S v0 7 (
z_onV (va_rf (z_r S v0 15)) fun b4 =>
z_inb S b4 101 (v2 - ((1 : Int32))) (
z_onV (va_rf (z_r S v0 14)) fun b5 =>
z_inb S b5 101 ((z_i S b4 (v2 - ((1 : Int32))).toNatClampNeg)) (
z_chk S v0 7 (
z_onV (va_rf (z_r S v0 14)) fun b6 =>
z_inb S b6 101 v1 (
if ((z_i S b5 ((z_i S b4 (v2 - ((1 : Int32))).toNatClampNeg)).toNatClampNeg)) ≤ ((z_i S b6 v1.toNatClampNeg)) then
(z_chk S v0 7 (
z_onV (va_rf (z_r S v0 15)) fun b7 =>
z_inb S b7 101 v2 (
let S8 := z_wi S b7 v2.toNatClampNeg v1
let x9 := v1 + (1 : Int32)
k_2 v0 x9 S8)))
else
(z_chk S v0 7 (
z_chk S v0 7 (
z_onV (va_rf (z_r S v0 15)) fun b10 =>
z_inb S b10 101 (v2 - ((1 : Int32))) (
z_onV (va_rf (z_r S v0 15)) fun b11 =>
z_inb S b11 101 v2 (
let S12 := z_wi S b11 v2.toNatClampNeg ((z_i S b10 (v2 - ((1 : Int32))).toNatClampNeg))
let x13 := v2 + (-1 : Int32)
l_X6_orderGates_9 k_2 n v0 v1 x13 S12))))))))))))
def l_X6_orderGates_2 : Nat → Nat → Int32 → z_St → Option z_St
  | 0 => fun _ _ _ => none
  | n + 1 => fun (v0 : Nat) (v1 : Int32) (S : z_St) =>
if ((4 : Int32)) ≤ v1 then
(some S)
else
(l_X6_orderGates_9 (l_X6_orderGates_2 n) z_N v0 v1 v1 S)
def b_X6_orderGates (v0 : Nat) (S : z_St) : Option z_St :=
l_X6_orderGates_2 z_N v0 ((0 : Int32)) S
def f_X6_orderGates : Nat → z_St → Option z_St := z_op (b_X6_orderGates)
theorem e_X6_orderGates (v0 : Nat) (S : z_St) : f_X6_orderGates v0 S = b_X6_orderGates v0 S := congrFun (congrFun (z_op_eq (b_X6_orderGates)) v0) S
def g_X6_orderGates : z_G := .inr (.inr (.inr (fun as S => match as with
  | [.ref v0] => f_X6_orderGates v0 S
  | _ => none)))
def c_X6_orderGates : List z_E := [
  (0, .iconst 0, 1, .int ((0 : Int32)), [], z_g0),
  (1, .istore_n 1, 1, .null, [], z_g0),
  (2, .iload_n 1, 1, .null, [], z_g0),
  (3, .iconst 4, 1, .int ((4 : Int32)), [], z_g0),
  (4, .if_icmp .ge 64, 3, .null, [68], z_g0),
  (7, .iload_n 1, 1, .null, [], z_g0),
  (8, .istore_n 2, 1, .null, [], z_g0),
  (9, .iload_n 2, 1, .null, [], z_g0),
  (10, .ifCond .le 45, 3, .null, [55], z_g0),
  (13, .aload_n 0, 1, .null, [], z_g0),
  (14, .getfield 34, 3, .null, [7, 14, 3], z_g0),
  (17, .aload_n 0, 1, .null, [], z_g0),
  (18, .getfield 38, 3, .null, [7, 15, 3], z_g0),
  (21, .iload_n 2, 1, .null, [], z_g0),
  (22, .iconst 1, 1, .int ((1 : Int32)), [], z_g0),
  (23, .isub, 1, .null, [], z_g0),
  (24, .iaload, 1, .null, [101], z_g0),
  (25, .iaload, 1, .null, [101], z_g0),
  (26, .aload_n 0, 1, .null, [], z_g0),
  (27, .getfield 34, 3, .null, [7, 14, 3], z_g0),
  (30, .iload_n 1, 1, .null, [], z_g0),
  (31, .iaload, 1, .null, [101], z_g0),
  (32, .if_icmp .le 23, 3, .null, [55], z_g0),
  (35, .aload_n 0, 1, .null, [], z_g0),
  (36, .getfield 38, 3, .null, [7, 15, 3], z_g0),
  (39, .iload_n 2, 1, .null, [], z_g0),
  (40, .aload_n 0, 1, .null, [], z_g0),
  (41, .getfield 38, 3, .null, [7, 15, 3], z_g0),
  (44, .iload_n 2, 1, .null, [], z_g0),
  (45, .iconst 1, 1, .int ((1 : Int32)), [], z_g0),
  (46, .isub, 1, .null, [], z_g0),
  (47, .iaload, 1, .null, [101], z_g0),
  (48, .iastore, 1, .null, [], z_g0),
  (49, .iinc 2 (-1), 3, .int (-1 : Int32), [], z_g0),
  (52, .goto (-43), 3, .null, [9], z_g0),
  (55, .aload_n 0, 1, .null, [], z_g0),
  (56, .getfield 38, 3, .null, [7, 15, 3], z_g0),
  (59, .iload_n 2, 1, .null, [], z_g0),
  (60, .iload_n 1, 1, .null, [], z_g0),
  (61, .iastore, 1, .null, [], z_g0),
  (62, .iinc 1 1, 3, .int (1 : Int32), [], z_g0),
  (65, .goto (-63), 3, .null, [2], z_g0),
  (68, .return_, 1, .null, [], z_g0)]
def a_X6_orderGates_2 {ρ : Type} (k : Nat → Int32 → z_St → Option ρ) (ls : z_Lv) (st : List Value) (S : z_St) : Option ρ := z_gR ls 0 fun v0 => z_gI ls 1 fun v1 => z_p0 st (k v0 v1 S)
def a_X6_orderGates_9 {ρ : Type} (k : Nat → Int32 → Int32 → z_St → Option ρ) (ls : z_Lv) (st : List Value) (S : z_St) : Option ρ := z_gR ls 0 fun v0 => z_gI ls 1 fun v1 => z_gI ls 2 fun v2 => z_p0 st (k v0 v1 v2 S)
set_option maxRecDepth 100000 in
theorem r_X6_orderGates_9 (k_2 : Nat → Int32 → z_St → Option z_St) (n : Nat) (v0 : Nat) (v1 : Int32) (v2 : Int32) (S : z_St) : z_seg z_rV (c_X6_orderGates) [2, 9] (fun pc => cond (Nat.beq pc 2) (a_X6_orderGates_2 k_2) (cond (Nat.beq pc 9) (a_X6_orderGates_9 (l_X6_orderGates_9 k_2 n)) (fun _ _ _ => none))) 46 (z_to 9 (c_X6_orderGates)) [(0, .ref v0), (1, .int v1), (2, .int v2)] [] S = l_X6_orderGates_9 k_2 (n + 1) v0 v1 v2 S := rfl
set_option maxRecDepth 100000 in
theorem r_X6_orderGates_2 (n : Nat) (v0 : Nat) (v1 : Int32) (S : z_St) : z_seg z_rV (c_X6_orderGates) [2, 9] (fun pc => cond (Nat.beq pc 9) (a_X6_orderGates_9 (l_X6_orderGates_9 (l_X6_orderGates_2 n) z_N)) (fun _ _ _ => none)) 46 (z_to 2 (c_X6_orderGates)) [(0, .ref v0), (1, .int v1)] [] S = l_X6_orderGates_2 (n + 1) v0 v1 S := rfl
set_option maxRecDepth 100000 in
theorem r_X6_orderGates (v0 : Nat) (S : z_St) : z_seg z_rV (c_X6_orderGates) [2, 9] (fun pc => cond (Nat.beq pc 2) (a_X6_orderGates_2 (l_X6_orderGates_2 z_N)) (fun _ _ _ => none)) 46 (c_X6_orderGates) [(0, .ref v0)] [] S = b_X6_orderGates v0 S := rfl
def b_X6_targetFor (v0 : Nat) (v1 : UInt64) (v3 : UInt64) (S : z_St) : Option (UInt64 × z_St) :=
z_chk S v0 7 (
if ((z_i S v0 10)) < ((3 : Int32)) then
(if (Op.cmpValue (FP.dcmp v3 FP.dconst0) .l) = 0 then
(some (FP.dconst0, S))
else
(if 0 < (Op.cmpValue (FP.dcmp v1 FP.dconst0) .l) then
(z_nn (FP.ddiv v1 v3) (
let x1 := FP.ddiv v1 v3
if (Op.cmpValue (FP.dcmp x1 FP.dconst1) .l) ≤ 0 then
(some (x1, S))
else
(some (FP.dconst1, S))))
else
(some (FP.dconst0, S))))
else
(some ((4602678819172646912 : UInt64), S)))
def f_X6_targetFor : Nat → UInt64 → UInt64 → z_St → Option (UInt64 × z_St) := z_op (b_X6_targetFor)
theorem e_X6_targetFor (v0 : Nat) (v1 : UInt64) (v3 : UInt64) (S : z_St) : f_X6_targetFor v0 v1 v3 S = b_X6_targetFor v0 v1 v3 S := congrFun (congrFun (congrFun (congrFun (z_op_eq (b_X6_targetFor)) v0) v1) v3) S
def g_X6_targetFor : z_G := .inr (.inr (.inl (fun as S => match as with
  | [.ref v0, .double v1, .double v3] => f_X6_targetFor v0 v1 v3 S
  | _ => none)))
def c_X6_targetFor : List z_E := [
  (0, .aload_n 0, 1, .null, [], z_g0),
  (1, .getfield 113, 3, .null, [7, 10, 0], z_g0),
  (4, .iconst 3, 1, .int ((3 : Int32)), [], z_g0),
  (5, .if_icmp .lt 7, 3, .null, [12], z_g0),
  (8, .ldc2_w 133, 3, .double (4602678819172646912 : UInt64), [], z_g0),
  (11, .dreturn, 1, .null, [], z_g0),
  (12, .dload_n 3, 1, .null, [], z_g0),
  (13, .dconst 0, 1, .double FP.dconst0, [], z_g0),
  (14, .dcmp .l, 1, .null, [], z_g0),
  (15, .ifCond .eq 9, 3, .null, [24], z_g0),
  (18, .dload_n 1, 1, .null, [], z_g0),
  (19, .dconst 0, 1, .double FP.dconst0, [], z_g0),
  (20, .dcmp .l, 1, .null, [], z_g0),
  (21, .ifCond .gt 5, 3, .null, [26], z_g0),
  (24, .dconst 0, 1, .double FP.dconst0, [], z_g0),
  (25, .dreturn, 1, .null, [], z_g0),
  (26, .dload_n 1, 1, .null, [], z_g0),
  (27, .dload_n 3, 1, .null, [], z_g0),
  (28, .ddiv, 1, .null, [], z_g0),
  (29, .dstore 5, 2, .null, [], z_g0),
  (31, .dload 5, 2, .null, [], z_g0),
  (33, .dconst 1, 1, .double FP.dconst1, [], z_g0),
  (34, .dcmp .l, 1, .null, [], z_g0),
  (35, .ifCond .le 7, 3, .null, [42], z_g0),
  (38, .dconst 1, 1, .double FP.dconst1, [], z_g0),
  (39, .goto 5, 3, .null, [44], z_g0),
  (42, .dload 5, 2, .null, [], z_g0),
  (44, .dreturn, 1, .null, [], z_g0)]
set_option maxRecDepth 100000 in
theorem r_X6_targetFor (v0 : Nat) (v1 : UInt64) (v3 : UInt64) (S : z_St) : z_seg z_rD (c_X6_targetFor) [] (fun pc => fun _ _ _ => none) 31 (c_X6_targetFor) [(0, .ref v0), (1, .double v1), (3, .double v3)] [] S = b_X6_targetFor v0 v1 v3 S := rfl
def j_X6_steered_27 (v0 : Nat) (v1 : UInt64) (v7 : UInt64) (S : z_St) : Option (UInt64 × z_St) :=
z_chk S v0 7 (
if 0 ≤ (Op.cmpValue (FP.dcmp v7 (FP.dneg ((z_d S v0 7)))) .g) then
(z_nn (FP.dadd v1 v7) (
some (FP.dadd v1 v7, S)))
else
(z_chk S v0 7 (
let x4 := FP.dneg ((z_d S v0 7))
z_nn (FP.dadd v1 x4) (
some (FP.dadd v1 x4, S)))))
def b_X6_steered (v0 : Nat) (v1 : UInt64) (v3 : UInt64) (v5 : UInt64) (S : z_St) : Option (UInt64 × z_St) :=
z_chk S v0 7 (
(f_X6_targetFor v0 v3 v5 S).bind fun q1 =>
z_nn (FP.dsub q1.1 v1) (
let x2 := FP.dsub q1.1 v1
z_chk q1.2 v0 7 (
if (Op.cmpValue (FP.dcmp x2 ((z_d q1.2 v0 7))) .l) ≤ 0 then
(j_X6_steered_27 v0 v1 x2 q1.2)
else
(z_chk q1.2 v0 7 (
let x3 := (z_d q1.2 v0 7)
j_X6_steered_27 v0 v1 x3 q1.2)))))
def f_X6_steered : Nat → UInt64 → UInt64 → UInt64 → z_St → Option (UInt64 × z_St) := z_op (b_X6_steered)
theorem e_X6_steered (v0 : Nat) (v1 : UInt64) (v3 : UInt64) (v5 : UInt64) (S : z_St) : f_X6_steered v0 v1 v3 v5 S = b_X6_steered v0 v1 v3 v5 S := congrFun (congrFun (congrFun (congrFun (congrFun (z_op_eq (b_X6_steered)) v0) v1) v3) v5) S
def g_X6_steered : z_G := .inr (.inr (.inl (fun as S => match as with
  | [.ref v0, .double v1, .double v3, .double v5] => f_X6_steered v0 v1 v3 v5 S
  | _ => none)))
def c_X6_steered : List z_E := [
  (0, .aload_n 0, 1, .null, [], z_g0),
  (1, .dload_n 3, 1, .null, [], z_g0),
  (2, .dload 5, 2, .null, [], z_g0),
  (4, .invokevirtual 129, 3, .null, [1, 7, 0, 0], g_X6_targetFor),
  (7, .dload_n 1, 1, .null, [], z_g0),
  (8, .dsub, 1, .null, [], z_g0),
  (9, .dstore 7, 2, .null, [], z_g0),
  (11, .dload 7, 2, .null, [], z_g0),
  (13, .aload_n 0, 1, .null, [], z_g0),
  (14, .getfield 19, 3, .null, [7, 7, 2], z_g0),
  (17, .dcmp .l, 1, .null, [], z_g0),
  (18, .ifCond .le 9, 3, .null, [27], z_g0),
  (21, .aload_n 0, 1, .null, [], z_g0),
  (22, .getfield 19, 3, .null, [7, 7, 2], z_g0),
  (25, .dstore 7, 2, .null, [], z_g0),
  (27, .dload 7, 2, .null, [], z_g0),
  (29, .aload_n 0, 1, .null, [], z_g0),
  (30, .getfield 19, 3, .null, [7, 7, 2], z_g0),
  (33, .dneg, 1, .null, [], z_g0),
  (34, .dcmp .g, 1, .null, [], z_g0),
  (35, .ifCond .ge 10, 3, .null, [45], z_g0),
  (38, .aload_n 0, 1, .null, [], z_g0),
  (39, .getfield 19, 3, .null, [7, 7, 2], z_g0),
  (42, .dneg, 1, .null, [], z_g0),
  (43, .dstore 7, 2, .null, [], z_g0),
  (45, .dload_n 1, 1, .null, [], z_g0),
  (46, .dload 7, 2, .null, [], z_g0),
  (48, .dadd, 1, .null, [], z_g0),
  (49, .dreturn, 1, .null, [], z_g0)]
def a_X6_steered_27 {ρ : Type} (k : Nat → UInt64 → UInt64 → z_St → Option ρ) (ls : z_Lv) (st : List Value) (S : z_St) : Option ρ := z_gR ls 0 fun v0 => z_gD ls 1 fun v1 => z_gD ls 7 fun v7 => z_p0 st (k v0 v1 v7 S)
set_option maxRecDepth 100000 in
theorem r_X6_steered_27 (v0 : Nat) (v1 : UInt64) (v7 : UInt64) (S : z_St) : z_seg z_rD (c_X6_steered) [27] (fun pc => fun _ _ _ => none) 32 (z_to 27 (c_X6_steered)) [(0, .ref v0), (1, .double v1), (7, .double v7)] [] S = j_X6_steered_27 v0 v1 v7 S := rfl
set_option maxRecDepth 100000 in
theorem r_X6_steered (v0 : Nat) (v1 : UInt64) (v3 : UInt64) (v5 : UInt64) (S : z_St) : z_seg z_rD (c_X6_steered) [27] (fun pc => cond (Nat.beq pc 27) (a_X6_steered_27 (j_X6_steered_27)) (fun _ _ _ => none)) 32 (c_X6_steered) [(0, .ref v0), (1, .double v1), (3, .double v3), (5, .double v5)] [] S = b_X6_steered v0 v1 v3 v5 S := rfl
def l_X11_rootDigits_12 : Nat → Int64 → Int64 → Int64 → Int32 → z_St → Option (Int64 × z_St)
  | 0 => fun _ _ _ _ _ => none
  | n + 1 => fun (v2 : Int64) (v4 : Int64) (v6 : Int64) (v8 : Int32) (S : z_St) =>
if v8 < 0 then
(if (lg_cmp v2 ((0 : Int64))) = 0 then
(some (v4, S))
else
(some (v4 + (v4 &&& ((1 : Int64))), S)))
else
(let x1 := ((1 : Int64)) <<< (v8.toInt64 &&& 63)
let x2 := v6 + x1
if 0 < (lg_cmp x2 v2) then
(let x3 := v2 <<< (((1 : Int32)).toInt64 &&& 63)
let x4 := v8 + (-1 : Int32)
l_X11_rootDigits_12 n x3 v4 v6 x4 S)
else
(let x5 := x2 + x1
let x6 := v2 - x2
let x7 := v4 + x1
let x8 := x6 <<< (((1 : Int32)).toInt64 &&& 63)
let x9 := v8 + (-1 : Int32)
l_X11_rootDigits_12 n x8 x7 x5 x9 S))
def b_X11_rootDigits (v0 : Int64) (S : z_St) : Option (Int64 × z_St) :=
l_X11_rootDigits_12 z_N v0 ((0 : Int64)) ((0 : Int64)) ((53 : Int32)) S
def f_X11_rootDigits : Int64 → z_St → Option (Int64 × z_St) := z_op (b_X11_rootDigits)
theorem e_X11_rootDigits (v0 : Int64) (S : z_St) : f_X11_rootDigits v0 S = b_X11_rootDigits v0 S := congrFun (congrFun (z_op_eq (b_X11_rootDigits)) v0) S
def g_X11_rootDigits : z_G := .inr (.inl (fun as S => match as with
  | [.long v0] => f_X11_rootDigits v0 S
  | _ => none))
def c_X11_rootDigits : List z_E := [
  (0, .lload_n 0, 1, .null, [], z_g0),
  (1, .lstore_n 2, 1, .null, [], z_g0),
  (2, .lconst 0, 1, .long (0 : Int64), [], z_g0),
  (3, .lstore 4, 2, .null, [], z_g0),
  (5, .lconst 0, 1, .long (0 : Int64), [], z_g0),
  (6, .lstore 6, 2, .null, [], z_g0),
  (8, .bipush 53, 2, .int ((53 : Int32)), [], z_g0),
  (10, .istore 8, 2, .null, [], z_g0),
  (12, .iload 8, 2, .null, [], z_g0),
  (14, .ifCond .lt 52, 3, .null, [66], z_g0),
  (17, .lconst 1, 1, .long (1 : Int64), [], z_g0),
  (18, .iload 8, 2, .null, [], z_g0),
  (20, .lshl, 1, .null, [], z_g0),
  (21, .lstore 9, 2, .null, [], z_g0),
  (23, .lload 6, 2, .null, [], z_g0),
  (25, .lload 9, 2, .null, [], z_g0),
  (27, .ladd, 1, .null, [], z_g0),
  (28, .lstore 11, 2, .null, [], z_g0),
  (30, .lload 11, 2, .null, [], z_g0),
  (32, .lload_n 2, 1, .null, [], z_g0),
  (33, .lcmp, 1, .null, [], z_g0),
  (34, .ifCond .gt 22, 3, .null, [56], z_g0),
  (37, .lload 11, 2, .null, [], z_g0),
  (39, .lload 9, 2, .null, [], z_g0),
  (41, .ladd, 1, .null, [], z_g0),
  (42, .lstore 6, 2, .null, [], z_g0),
  (44, .lload_n 2, 1, .null, [], z_g0),
  (45, .lload 11, 2, .null, [], z_g0),
  (47, .lsub, 1, .null, [], z_g0),
  (48, .lstore_n 2, 1, .null, [], z_g0),
  (49, .lload 4, 2, .null, [], z_g0),
  (51, .lload 9, 2, .null, [], z_g0),
  (53, .ladd, 1, .null, [], z_g0),
  (54, .lstore 4, 2, .null, [], z_g0),
  (56, .lload_n 2, 1, .null, [], z_g0),
  (57, .iconst 1, 1, .int ((1 : Int32)), [], z_g0),
  (58, .lshl, 1, .null, [], z_g0),
  (59, .lstore_n 2, 1, .null, [], z_g0),
  (60, .iinc 8 (-1), 3, .int (-1 : Int32), [], z_g0),
  (63, .goto (-51), 3, .null, [12], z_g0),
  (66, .lload_n 2, 1, .null, [], z_g0),
  (67, .lconst 0, 1, .long (0 : Int64), [], z_g0),
  (68, .lcmp, 1, .null, [], z_g0),
  (69, .ifCond .eq 13, 3, .null, [82], z_g0),
  (72, .lload 4, 2, .null, [], z_g0),
  (74, .lload 4, 2, .null, [], z_g0),
  (76, .lconst 1, 1, .long (1 : Int64), [], z_g0),
  (77, .land, 1, .null, [], z_g0),
  (78, .ladd, 1, .null, [], z_g0),
  (79, .goto 5, 3, .null, [84], z_g0),
  (82, .lload 4, 2, .null, [], z_g0),
  (84, .lreturn, 1, .null, [], z_g0)]
def a_X11_rootDigits_12 {ρ : Type} (k : Int64 → Int64 → Int64 → Int32 → z_St → Option ρ) (ls : z_Lv) (st : List Value) (S : z_St) : Option ρ := z_gJ ls 2 fun v2 => z_gJ ls 4 fun v4 => z_gJ ls 6 fun v6 => z_gI ls 8 fun v8 => z_p0 st (k v2 v4 v6 v8 S)
set_option maxRecDepth 100000 in
theorem r_X11_rootDigits_12 (n : Nat) (v2 : Int64) (v4 : Int64) (v6 : Int64) (v8 : Int32) (S : z_St) : z_seg z_rL (c_X11_rootDigits) [12] (fun pc => cond (Nat.beq pc 12) (a_X11_rootDigits_12 (l_X11_rootDigits_12 n)) (fun _ _ _ => none)) 55 (z_to 12 (c_X11_rootDigits)) [(2, .long v2), (4, .long v4), (6, .long v6), (8, .int v8)] [] S = l_X11_rootDigits_12 (n + 1) v2 v4 v6 v8 S := rfl
set_option maxRecDepth 100000 in
theorem r_X11_rootDigits (v0 : Int64) (S : z_St) : z_seg z_rL (c_X11_rootDigits) [12] (fun pc => cond (Nat.beq pc 12) (a_X11_rootDigits_12 (l_X11_rootDigits_12 z_N)) (fun _ _ _ => none)) 55 (c_X11_rootDigits) [(0, .long v0)] [] S = b_X11_rootDigits v0 S := rfl
def j_X11_root_89 (v2 : Int32) (v5 : Int32) (t0 : Int64) (S : z_St) : Option (UInt64 × z_St) :=
(f_X11_rootDigits t0 S).bind fun q4 =>
(f_X11_realOf ((q4.1 >>> (((1 : Int32)).toInt64 &&& 63)) + ((((v5 >>> (((1 : Int32)) &&& 31)) + ((1022 : Int32))).toInt64) <<< (((52 : Int32)).toInt64 &&& 63))) q4.2).bind fun q5 =>
if v2 = 0 then
(some (q5.1, q5.2))
else
(z_nn (FP.dmul q5.1 ((4363988038922010624 : UInt64))) (
some (FP.dmul q5.1 ((4363988038922010624 : UInt64)), q5.2)))
def j_X11_root_35 (v0 : UInt64) (v2 : Int32) (t0 : UInt64) (S : z_St) : Option (UInt64 × z_St) :=
(f_X11_bitsOf t0 S).bind fun q1 =>
if (lg_cmp q1.1 ((9218868437227405312 : Int64))) < 0 then
(let x2 := ((q1.1 >>> (((52 : Int32)).toInt64 &&& 63)).toInt32) - ((1023 : Int32))
let x3 := (q1.1 &&& ((4503599627370495 : Int64))) ||| ((4503599627370496 : Int64))
if (x2 &&& ((1 : Int32))) = 0 then
(j_X11_root_89 v2 x2 (x3 <<< (((1 : Int32)).toInt64 &&& 63)) q1.2)
else
(j_X11_root_89 v2 x2 (x3 <<< (((2 : Int32)).toInt64 &&& 63)) q1.2))
else
(some (v0, q1.2))
def j_X11_root_21 (v0 : UInt64) (t0 : Int32) (S : z_St) : Option (UInt64 × z_St) :=
if t0 = 0 then
(j_X11_root_35 v0 t0 v0 S)
else
(z_nn (FP.dmul v0 ((5093571178556030976 : UInt64))) (
j_X11_root_35 v0 t0 (FP.dmul v0 ((5093571178556030976 : UInt64))) S))
def b_X11_root (v0 : UInt64) (S : z_St) : Option (UInt64 × z_St) :=
if 0 < (Op.cmpValue (FP.dcmp v0 FP.dconst0) .l) then
(if 0 ≤ (Op.cmpValue (FP.dcmp v0 ((4503599627370496 : UInt64))) .g) then
(j_X11_root_21 v0 ((0 : Int32)) S)
else
(j_X11_root_21 v0 ((1 : Int32)) S))
else
(some (FP.dconst0, S))
def f_X11_root : UInt64 → z_St → Option (UInt64 × z_St) := z_op (b_X11_root)
theorem e_X11_root (v0 : UInt64) (S : z_St) : f_X11_root v0 S = b_X11_root v0 S := congrFun (congrFun (z_op_eq (b_X11_root)) v0) S
def g_X11_root : z_G := .inr (.inr (.inl (fun as S => match as with
  | [.double v0] => f_X11_root v0 S
  | _ => none)))
def c_X11_root : List z_E := [
  (0, .dload_n 0, 1, .null, [], z_g0),
  (1, .dconst 0, 1, .double FP.dconst0, [], z_g0),
  (2, .dcmp .l, 1, .null, [], z_g0),
  (3, .ifCond .gt 5, 3, .null, [8], z_g0),
  (6, .dconst 0, 1, .double FP.dconst0, [], z_g0),
  (7, .dreturn, 1, .null, [], z_g0),
  (8, .dload_n 0, 1, .null, [], z_g0),
  (9, .ldc2_w 564, 3, .double (4503599627370496 : UInt64), [], z_g0),
  (12, .dcmp .g, 1, .null, [], z_g0),
  (13, .ifCond .ge 7, 3, .null, [20], z_g0),
  (16, .iconst 1, 1, .int ((1 : Int32)), [], z_g0),
  (17, .goto 4, 3, .null, [21], z_g0),
  (20, .iconst 0, 1, .int ((0 : Int32)), [], z_g0),
  (21, .istore_n 2, 1, .null, [], z_g0),
  (22, .iload_n 2, 1, .null, [], z_g0),
  (23, .ifCond .eq 11, 3, .null, [34], z_g0),
  (26, .dload_n 0, 1, .null, [], z_g0),
  (27, .ldc2_w 566, 3, .double (5093571178556030976 : UInt64), [], z_g0),
  (30, .dmul, 1, .null, [], z_g0),
  (31, .goto 4, 3, .null, [35], z_g0),
  (34, .dload_n 0, 1, .null, [], z_g0),
  (35, .invokestatic 347, 3, .null, [0, 0], g_X11_bitsOf),
  (38, .lstore_n 3, 1, .null, [], z_g0),
  (39, .lload_n 3, 1, .null, [], z_g0),
  (40, .ldc2_w 541, 3, .long (9218868437227405312 : Int64), [], z_g0),
  (43, .lcmp, 1, .null, [], z_g0),
  (44, .ifCond .lt 5, 3, .null, [49], z_g0),
  (47, .dload_n 0, 1, .null, [], z_g0),
  (48, .dreturn, 1, .null, [], z_g0),
  (49, .lload_n 3, 1, .null, [], z_g0),
  (50, .bipush 52, 2, .int ((52 : Int32)), [], z_g0),
  (52, .lshr, 1, .null, [], z_g0),
  (53, .l2i, 1, .null, [], z_g0),
  (54, .sipush 1023, 3, .int ((1023 : Int32)), [], z_g0),
  (57, .isub, 1, .null, [], z_g0),
  (58, .istore 5, 2, .null, [], z_g0),
  (60, .lload_n 3, 1, .null, [], z_g0),
  (61, .ldc2_w 543, 3, .long (4503599627370495 : Int64), [], z_g0),
  (64, .land, 1, .null, [], z_g0),
  (65, .ldc2_w 547, 3, .long (4503599627370496 : Int64), [], z_g0),
  (68, .lor, 1, .null, [], z_g0),
  (69, .lstore 6, 2, .null, [], z_g0),
  (71, .iload 5, 2, .null, [], z_g0),
  (73, .iconst 1, 1, .int ((1 : Int32)), [], z_g0),
  (74, .iand, 1, .null, [], z_g0),
  (75, .ifCond .eq 10, 3, .null, [85], z_g0),
  (78, .lload 6, 2, .null, [], z_g0),
  (80, .iconst 2, 1, .int ((2 : Int32)), [], z_g0),
  (81, .lshl, 1, .null, [], z_g0),
  (82, .goto 7, 3, .null, [89], z_g0),
  (85, .lload 6, 2, .null, [], z_g0),
  (87, .iconst 1, 1, .int ((1 : Int32)), [], z_g0),
  (88, .lshl, 1, .null, [], z_g0),
  (89, .invokestatic 568, 3, .null, [0, 0], g_X11_rootDigits),
  (92, .lstore 8, 2, .null, [], z_g0),
  (94, .lload 8, 2, .null, [], z_g0),
  (96, .iconst 1, 1, .int ((1 : Int32)), [], z_g0),
  (97, .lshr, 1, .null, [], z_g0),
  (98, .iload 5, 2, .null, [], z_g0),
  (100, .iconst 1, 1, .int ((1 : Int32)), [], z_g0),
  (101, .ishr, 1, .null, [], z_g0),
  (102, .sipush 1022, 3, .int ((1022 : Int32)), [], z_g0),
  (105, .iadd, 1, .null, [], z_g0),
  (106, .i2l, 1, .null, [], z_g0),
  (107, .bipush 52, 2, .int ((52 : Int32)), [], z_g0),
  (109, .lshl, 1, .null, [], z_g0),
  (110, .ladd, 1, .null, [], z_g0),
  (111, .invokestatic 339, 3, .null, [0, 0], g_X11_realOf),
  (114, .dstore 10, 2, .null, [], z_g0),
  (116, .iload_n 2, 1, .null, [], z_g0),
  (117, .ifCond .eq 12, 3, .null, [129], z_g0),
  (120, .dload 10, 2, .null, [], z_g0),
  (122, .ldc2_w 571, 3, .double (4363988038922010624 : UInt64), [], z_g0),
  (125, .dmul, 1, .null, [], z_g0),
  (126, .goto 5, 3, .null, [131], z_g0),
  (129, .dload 10, 2, .null, [], z_g0),
  (131, .dreturn, 1, .null, [], z_g0)]
def a_X11_root_21 {ρ : Type} (k : UInt64 → Int32 → z_St → Option ρ) (ls : z_Lv) (st : List Value) (S : z_St) : Option ρ := z_gD ls 0 fun v0 => z_pI st fun t0 s0 => z_p0 s0 (k v0 t0 S)
def a_X11_root_35 {ρ : Type} (k : UInt64 → Int32 → UInt64 → z_St → Option ρ) (ls : z_Lv) (st : List Value) (S : z_St) : Option ρ := z_gD ls 0 fun v0 => z_gI ls 2 fun v2 => z_pD st fun t0 s0 => z_p0 s0 (k v0 v2 t0 S)
def a_X11_root_89 {ρ : Type} (k : Int32 → Int32 → Int64 → z_St → Option ρ) (ls : z_Lv) (st : List Value) (S : z_St) : Option ρ := z_gI ls 2 fun v2 => z_gI ls 5 fun v5 => z_pJ st fun t0 s0 => z_p0 s0 (k v2 v5 t0 S)
set_option maxRecDepth 100000 in
theorem r_X11_root_89 (v2 : Int32) (v5 : Int32) (t0 : Int64) (S : z_St) : z_seg z_rD (c_X11_root) [21, 35, 89] (fun pc => fun _ _ _ => none) 80 (z_to 89 (c_X11_root)) [(2, .int v2), (5, .int v5)] [.long t0] S = j_X11_root_89 v2 v5 t0 S := rfl
set_option maxRecDepth 100000 in
theorem r_X11_root_35 (v0 : UInt64) (v2 : Int32) (t0 : UInt64) (S : z_St) : z_seg z_rD (c_X11_root) [21, 35, 89] (fun pc => cond (Nat.beq pc 89) (a_X11_root_89 (j_X11_root_89)) (fun _ _ _ => none)) 80 (z_to 35 (c_X11_root)) [(0, .double v0), (2, .int v2)] [.double t0] S = j_X11_root_35 v0 v2 t0 S := rfl
set_option maxRecDepth 100000 in
theorem r_X11_root_21 (v0 : UInt64) (t0 : Int32) (S : z_St) : z_seg z_rD (c_X11_root) [21, 35, 89] (fun pc => cond (Nat.beq pc 35) (a_X11_root_35 (j_X11_root_35)) (fun _ _ _ => none)) 80 (z_to 21 (c_X11_root)) [(0, .double v0)] [.int t0] S = j_X11_root_21 v0 t0 S := rfl
set_option maxRecDepth 100000 in
theorem r_X11_root (v0 : UInt64) (S : z_St) : z_seg z_rD (c_X11_root) [21, 35, 89] (fun pc => cond (Nat.beq pc 21) (a_X11_root_21 (j_X11_root_21)) (fun _ _ _ => none)) 80 (c_X11_root) [(0, .double v0)] [] S = b_X11_root v0 S := rfl
def j_X6_steer_94 (k_18 : Nat → UInt64 → UInt64 → Int32 → z_St → Option z_St) (v0 : Nat) (v3 : UInt64) (v5 : UInt64) (v7 : Int32) (v8 : Int32) (v9 : UInt64) (S : z_St) : Option z_St :=
z_chk S v0 7 (
z_onV (va_rf (z_r S v0 11)) fun b17 =>
z_inb S b17 103 v8 (
z_nn (FP.dmul ((z_d S b17 v8.toNatClampNeg)) v3) (
z_nn (FP.dsub v5 (FP.dmul ((z_d S b17 v8.toNatClampNeg)) v3)) (
let x18 := FP.dsub v5 (FP.dmul ((z_d S b17 v8.toNatClampNeg)) v3)
z_chk S v0 7 (
z_onV (va_rf (z_r S v0 11)) fun b19 =>
z_inb S b19 103 v8 (
(f_X11_bitsOf ((z_d S b19 v8.toNatClampNeg)) S).bind fun q20 =>
(f_X11_bitsOf v9 q20.2).bind fun q21 =>
if (lg_cmp q20.1 q21.1) = 0 then
(let x22 := v7 + (1 : Int32)
k_18 v0 v3 x18 x22 q21.2)
else
(z_chk q21.2 v0 7 (
z_onV (va_rf (z_r q21.2 v0 14)) fun b23 =>
z_inb q21.2 b23 101 v8 (
z_inb q21.2 b23 101 v8 (
let S24 := z_wi q21.2 b23 v8.toNatClampNeg (((z_i q21.2 b23 v8.toNatClampNeg)) + ((1 : Int32)))
let x25 := v7 + (1 : Int32)
k_18 v0 v3 x18 x25 S24))))))))))
def l_X6_steer_18 : Nat → Nat → UInt64 → UInt64 → Int32 → z_St → Option z_St
  | 0 => fun _ _ _ _ _ => none
  | n + 1 => fun (v0 : Nat) (v3 : UInt64) (v5 : UInt64) (v7 : Int32) (S : z_St) =>
if ((4 : Int32)) ≤ v7 then
(some S)
else
(z_chk S v0 7 (
z_onV (va_rf (z_r S v0 15)) fun b3 =>
z_inb S b3 101 v7 (
let x4 := (z_i S b3 v7.toNatClampNeg)
z_chk S v0 7 (
z_onV (va_rf (z_r S v0 11)) fun b5 =>
z_inb S b5 103 x4 (
let x6 := (z_d S b5 x4.toNatClampNeg)
z_chk S v0 7 (
z_onV (va_rf (z_r S v0 13)) fun b7 =>
z_inb S b7 104 x4 (
if ((z_i S b7 x4.toNatClampNeg)) = 0 then
(z_chk S v0 7 (
z_chk S v0 7 (
z_onV (va_rf (z_r S v0 12)) fun b8 =>
z_inb S b8 102 x4 (
(f_X11_noNumber ((z_l S b8 x4.toNatClampNeg)) S).bind fun q9 =>
if q9.1 = 0 then
(z_chk q9.2 v0 7 (
z_onV (va_rf (z_r q9.2 v0 12)) fun b10 =>
z_inb q9.2 b10 102 x4 (
(f_X11_realOf ((z_l q9.2 b10 x4.toNatClampNeg)) q9.2).bind fun q11 =>
z_onV (va_rf (z_r S v0 11)) fun b12 =>
z_inb q11.2 b12 103 x4 (
let S13 := z_wd q11.2 b12 x4.toNatClampNeg q11.1
j_X6_steer_94 (l_X6_steer_18 n) v0 v3 v5 v7 x4 x6 S13))))
else
(z_chk q9.2 v0 7 (
(f_X6_steered v0 x6 v5 v3 q9.2).bind fun q14 =>
z_onV (va_rf (z_r S v0 11)) fun b15 =>
z_inb q14.2 b15 103 x4 (
let S16 := z_wd q14.2 b15 x4.toNatClampNeg q14.1
j_X6_steer_94 (l_X6_steer_18 n) v0 v3 v5 v7 x4 x6 S16)))))))
else
(j_X6_steer_94 (l_X6_steer_18 n) v0 v3 v5 v7 x4 x6 S))))))))
def b_X6_steer (v0 : Nat) (v1 : UInt64) (S : z_St) : Option z_St :=
z_chk S v0 7 (
(f_X11_root ((z_d S v0 8)) S).bind fun q1 =>
z_nn (FP.dmul ((4645744490609377280 : UInt64)) q1.1) (
let x2 := FP.dmul ((4645744490609377280 : UInt64)) q1.1
l_X6_steer_18 z_N v0 x2 v1 ((0 : Int32)) q1.2))
def f_X6_steer : Nat → UInt64 → z_St → Option z_St := z_op (b_X6_steer)
theorem e_X6_steer (v0 : Nat) (v1 : UInt64) (S : z_St) : f_X6_steer v0 v1 S = b_X6_steer v0 v1 S := congrFun (congrFun (congrFun (z_op_eq (b_X6_steer)) v0) v1) S
def g_X6_steer : z_G := .inr (.inr (.inr (fun as S => match as with
  | [.ref v0, .double v1] => f_X6_steer v0 v1 S
  | _ => none)))
def c_X6_steer : List z_E := [
  (0, .ldc2_w 116, 3, .double (4645744490609377280 : UInt64), [], z_g0),
  (3, .aload_n 0, 1, .null, [], z_g0),
  (4, .getfield 83, 3, .null, [7, 8, 2], z_g0),
  (7, .invokestatic 118, 3, .null, [0, 0], g_X11_root),
  (10, .dmul, 1, .null, [], z_g0),
  (11, .dstore_n 3, 1, .null, [], z_g0),
  (12, .dload_n 1, 1, .null, [], z_g0),
  (13, .dstore 5, 2, .null, [], z_g0),
  (15, .iconst 0, 1, .int ((0 : Int32)), [], z_g0),
  (16, .istore 7, 2, .null, [], z_g0),
  (18, .iload 7, 2, .null, [], z_g0),
  (20, .iconst 4, 1, .int ((4 : Int32)), [], z_g0),
  (21, .if_icmp .ge 123, 3, .null, [144], z_g0),
  (24, .aload_n 0, 1, .null, [], z_g0),
  (25, .getfield 38, 3, .null, [7, 15, 3], z_g0),
  (28, .iload 7, 2, .null, [], z_g0),
  (30, .iaload, 1, .null, [101], z_g0),
  (31, .istore 8, 2, .null, [], z_g0),
  (33, .aload_n 0, 1, .null, [], z_g0),
  (34, .getfield 22, 3, .null, [7, 11, 3], z_g0),
  (37, .iload 8, 2, .null, [], z_g0),
  (39, .daload, 1, .null, [], z_g0),
  (40, .dstore 9, 2, .null, [], z_g0),
  (42, .aload_n 0, 1, .null, [], z_g0),
  (43, .getfield 30, 3, .null, [7, 13, 3], z_g0),
  (46, .iload 8, 2, .null, [], z_g0),
  (48, .baload, 1, .null, [104], z_g0),
  (49, .ifCond .ne 45, 3, .null, [94], z_g0),
  (52, .aload_n 0, 1, .null, [], z_g0),
  (53, .getfield 22, 3, .null, [7, 11, 3], z_g0),
  (56, .iload 8, 2, .null, [], z_g0),
  (58, .aload_n 0, 1, .null, [], z_g0),
  (59, .getfield 26, 3, .null, [7, 12, 3], z_g0),
  (62, .iload 8, 2, .null, [], z_g0),
  (64, .laload, 1, .null, [], z_g0),
  (65, .invokestatic 105, 3, .null, [0, 0], g_X11_noNumber),
  (68, .ifCond .eq 15, 3, .null, [83], z_g0),
  (71, .aload_n 0, 1, .null, [], z_g0),
  (72, .dload 9, 2, .null, [], z_g0),
  (74, .dload 5, 2, .null, [], z_g0),
  (76, .dload_n 3, 1, .null, [], z_g0),
  (77, .invokevirtual 121, 3, .null, [1, 7, 0, 0, 0], g_X6_steered),
  (80, .goto 13, 3, .null, [93], z_g0),
  (83, .aload_n 0, 1, .null, [], z_g0),
  (84, .getfield 26, 3, .null, [7, 12, 3], z_g0),
  (87, .iload 8, 2, .null, [], z_g0),
  (89, .laload, 1, .null, [], z_g0),
  (90, .invokestatic 109, 3, .null, [0, 0], g_X11_realOf),
  (93, .dastore, 1, .null, [], z_g0),
  (94, .dload 5, 2, .null, [], z_g0),
  (96, .aload_n 0, 1, .null, [], z_g0),
  (97, .getfield 22, 3, .null, [7, 11, 3], z_g0),
  (100, .iload 8, 2, .null, [], z_g0),
  (102, .daload, 1, .null, [], z_g0),
  (103, .dload_n 3, 1, .null, [], z_g0),
  (104, .dmul, 1, .null, [], z_g0),
  (105, .dsub, 1, .null, [], z_g0),
  (106, .dstore 5, 2, .null, [], z_g0),
  (108, .aload_n 0, 1, .null, [], z_g0),
  (109, .getfield 22, 3, .null, [7, 11, 3], z_g0),
  (112, .iload 8, 2, .null, [], z_g0),
  (114, .daload, 1, .null, [], z_g0),
  (115, .invokestatic 125, 3, .null, [0, 0], g_X11_bitsOf),
  (118, .dload 9, 2, .null, [], z_g0),
  (120, .invokestatic 125, 3, .null, [0, 0], g_X11_bitsOf),
  (123, .lcmp, 1, .null, [], z_g0),
  (124, .ifCond .eq 14, 3, .null, [138], z_g0),
  (127, .aload_n 0, 1, .null, [], z_g0),
  (128, .getfield 34, 3, .null, [7, 14, 3], z_g0),
  (131, .iload 8, 2, .null, [], z_g0),
  (133, .dup2, 1, .null, [1], z_g0),
  (134, .iaload, 1, .null, [101], z_g0),
  (135, .iconst 1, 1, .int ((1 : Int32)), [], z_g0),
  (136, .iadd, 1, .null, [], z_g0),
  (137, .iastore, 1, .null, [], z_g0),
  (138, .iinc 7 1, 3, .int (1 : Int32), [], z_g0),
  (141, .goto (-123), 3, .null, [18], z_g0),
  (144, .return_, 1, .null, [], z_g0)]
def a_X6_steer_18 {ρ : Type} (k : Nat → UInt64 → UInt64 → Int32 → z_St → Option ρ) (ls : z_Lv) (st : List Value) (S : z_St) : Option ρ := z_gR ls 0 fun v0 => z_gD ls 3 fun v3 => z_gD ls 5 fun v5 => z_gI ls 7 fun v7 => z_p0 st (k v0 v3 v5 v7 S)
def a_X6_steer_94 {ρ : Type} (k : Nat → UInt64 → UInt64 → Int32 → Int32 → UInt64 → z_St → Option ρ) (ls : z_Lv) (st : List Value) (S : z_St) : Option ρ := z_gR ls 0 fun v0 => z_gD ls 3 fun v3 => z_gD ls 5 fun v5 => z_gI ls 7 fun v7 => z_gI ls 8 fun v8 => z_gD ls 9 fun v9 => z_p0 st (k v0 v3 v5 v7 v8 v9 S)
set_option maxRecDepth 100000 in
theorem r_X6_steer_94 (k_18 : Nat → UInt64 → UInt64 → Int32 → z_St → Option z_St) (v0 : Nat) (v3 : UInt64) (v5 : UInt64) (v7 : Int32) (v8 : Int32) (v9 : UInt64) (S : z_St) : z_seg z_rV (c_X6_steer) [18, 94] (fun pc => cond (Nat.beq pc 18) (a_X6_steer_18 k_18) (fun _ _ _ => none)) 81 (z_to 94 (c_X6_steer)) [(0, .ref v0), (3, .double v3), (5, .double v5), (7, .int v7), (8, .int v8), (9, .double v9)] [] S = j_X6_steer_94 k_18 v0 v3 v5 v7 v8 v9 S := rfl
set_option maxRecDepth 100000 in
theorem r_X6_steer_18 (n : Nat) (v0 : Nat) (v3 : UInt64) (v5 : UInt64) (v7 : Int32) (S : z_St) : z_seg z_rV (c_X6_steer) [18, 94] (fun pc => cond (Nat.beq pc 94) (a_X6_steer_94 (j_X6_steer_94 (l_X6_steer_18 n))) (fun _ _ _ => none)) 81 (z_to 18 (c_X6_steer)) [(0, .ref v0), (3, .double v3), (5, .double v5), (7, .int v7)] [] S = l_X6_steer_18 (n + 1) v0 v3 v5 v7 S := rfl
set_option maxRecDepth 100000 in
theorem r_X6_steer (v0 : Nat) (v1 : UInt64) (S : z_St) : z_seg z_rV (c_X6_steer) [18, 94] (fun pc => cond (Nat.beq pc 18) (a_X6_steer_18 (l_X6_steer_18 z_N)) (fun _ _ _ => none)) 81 (c_X6_steer) [(0, .ref v0), (1, .double v1)] [] S = b_X6_steer v0 v1 S := rfl
def j_X6_letOut_75 (v0 : Nat) (t0 : Nat) (t1 : UInt64) (S : z_St) : Option z_St :=
z_chk S t0 7 (
let S7 := z_wd S t0 5 t1
z_chk S7 v0 7 (
let S8 := z_wd S7 v0 6 FP.dconst0
z_chk S8 v0 7 (
z_chk S8 v0 7 (
z_nn (FP.dadd ((z_d S8 v0 0)) ((z_d S8 v0 3))) (
z_chk S8 v0 7 (
z_nn (FP.dsub (FP.dadd ((z_d S8 v0 0)) ((z_d S8 v0 3))) ((z_d S8 v0 4))) (
z_chk S8 v0 7 (
z_nn (FP.dsub (FP.dsub (FP.dadd ((z_d S8 v0 0)) ((z_d S8 v0 3))) ((z_d S8 v0 4))) ((z_d S8 v0 5))) (
z_chk S8 v0 7 (
let S9 := z_wd S8 v0 0 (FP.dsub (FP.dsub (FP.dadd ((z_d S8 v0 0)) ((z_d S8 v0 3))) ((z_d S8 v0 4))) ((z_d S8 v0 5)))
(f_X6_unitsAt ((40 : Int32)) S9).bind fun q10 =>
let x11 := FP.i2d q10.1
z_chk q10.2 v0 7 (
if 0 ≤ (Op.cmpValue (FP.dcmp ((z_d q10.2 v0 0)) FP.dconst0) .g) then
(z_chk q10.2 v0 7 (
if (Op.cmpValue (FP.dcmp ((z_d q10.2 v0 0)) x11) .l) ≤ 0 then
(some q10.2)
else
(z_chk q10.2 v0 7 (
z_chk q10.2 v0 7 (
z_nn (FP.dsub ((z_d q10.2 v0 0)) x11) (
z_nn (FP.dadd ((z_d q10.2 v0 5)) (FP.dsub ((z_d q10.2 v0 0)) x11)) (
z_chk q10.2 v0 7 (
let S12 := z_wd q10.2 v0 5 (FP.dadd ((z_d q10.2 v0 5)) (FP.dsub ((z_d q10.2 v0 0)) x11))
z_chk S12 v0 7 (
let S13 := z_wd S12 v0 0 x11
some S13)))))))))
else
(z_chk q10.2 v0 7 (
z_chk q10.2 v0 7 (
let S14 := z_wd q10.2 v0 6 (FP.dneg ((z_d q10.2 v0 0)))
z_chk S14 v0 7 (
let S15 := z_wd S14 v0 0 FP.dconst0
some S15)))))))))))))))
def l_X6_letOut_13 : Nat → Nat → UInt64 → UInt64 → Int32 → z_St → Option z_St
  | 0 => fun _ _ _ _ _ => none
  | n + 1 => fun (v0 : Nat) (v1 : UInt64) (v3 : UInt64) (v5 : Int32) (S : z_St) =>
if ((4 : Int32)) ≤ v5 then
(z_nn (FP.dsub v1 ((4629137466983448576 : UInt64))) (
let x3 := FP.dsub v1 ((4629137466983448576 : UInt64))
if (Op.cmpValue (FP.dcmp x3 FP.dconst0) .l) ≤ 0 then
(j_X6_letOut_75 v0 v0 FP.dconst0 S)
else
(z_nn (FP.dmul x3 x3) (
z_nn (FP.dmul (FP.dmul x3 x3) ((4639481672377565184 : UInt64))) (
j_X6_letOut_75 v0 v0 (FP.dmul (FP.dmul x3 x3) ((4639481672377565184 : UInt64))) S)))))
else
(z_chk S v0 7 (
z_chk S v0 7 (
z_onV (va_rf (z_r S v0 11)) fun b4 =>
z_inb S b4 103 v5 (
z_nn (FP.dmul ((z_d S b4 v5.toNatClampNeg)) ((4645744490609377280 : UInt64))) (
z_nn (FP.dmul (FP.dmul ((z_d S b4 v5.toNatClampNeg)) ((4645744490609377280 : UInt64))) v3) (
z_nn (FP.dadd ((z_d S v0 4)) (FP.dmul (FP.dmul ((z_d S b4 v5.toNatClampNeg)) ((4645744490609377280 : UInt64))) v3)) (
z_chk S v0 7 (
let S5 := z_wd S v0 4 (FP.dadd ((z_d S v0 4)) (FP.dmul (FP.dmul ((z_d S b4 v5.toNatClampNeg)) ((4645744490609377280 : UInt64))) v3))
let x6 := v5 + (1 : Int32)
l_X6_letOut_13 n v0 v1 v3 x6 S5))))))))
def b_X6_letOut (v0 : Nat) (v1 : UInt64) (S : z_St) : Option z_St :=
(f_X11_root v1 S).bind fun q1 =>
z_chk q1.2 v0 7 (
let S2 := z_wd q1.2 v0 4 FP.dconst0
l_X6_letOut_13 z_N v0 v1 q1.1 ((0 : Int32)) S2)
def f_X6_letOut : Nat → UInt64 → z_St → Option z_St := z_op (b_X6_letOut)
theorem e_X6_letOut (v0 : Nat) (v1 : UInt64) (S : z_St) : f_X6_letOut v0 v1 S = b_X6_letOut v0 v1 S := congrFun (congrFun (congrFun (z_op_eq (b_X6_letOut)) v0) v1) S
def g_X6_letOut : z_G := .inr (.inr (.inr (fun as S => match as with
  | [.ref v0, .double v1] => f_X6_letOut v0 v1 S
  | _ => none)))
def c_X6_letOut : List z_E := [
  (0, .dload_n 1, 1, .null, [], z_g0),
  (1, .invokestatic 118, 3, .null, [0, 0], g_X11_root),
  (4, .dstore_n 3, 1, .null, [], z_g0),
  (5, .aload_n 0, 1, .null, [], z_g0),
  (6, .dconst 0, 1, .double FP.dconst0, [], z_g0),
  (7, .putfield 135, 3, .null, [7, 4, 2], z_g0),
  (10, .iconst 0, 1, .int ((0 : Int32)), [], z_g0),
  (11, .istore 5, 2, .null, [], z_g0),
  (13, .iload 5, 2, .null, [], z_g0),
  (15, .iconst 4, 1, .int ((4 : Int32)), [], z_g0),
  (16, .if_icmp .ge 31, 3, .null, [47], z_g0),
  (19, .aload_n 0, 1, .null, [], z_g0),
  (20, .aload_n 0, 1, .null, [], z_g0),
  (21, .getfield 135, 3, .null, [7, 4, 2], z_g0),
  (24, .aload_n 0, 1, .null, [], z_g0),
  (25, .getfield 22, 3, .null, [7, 11, 3], z_g0),
  (28, .iload 5, 2, .null, [], z_g0),
  (30, .daload, 1, .null, [], z_g0),
  (31, .ldc2_w 116, 3, .double (4645744490609377280 : UInt64), [], z_g0),
  (34, .dmul, 1, .null, [], z_g0),
  (35, .dload_n 3, 1, .null, [], z_g0),
  (36, .dmul, 1, .null, [], z_g0),
  (37, .dadd, 1, .null, [], z_g0),
  (38, .putfield 135, 3, .null, [7, 4, 2], z_g0),
  (41, .iinc 5 1, 3, .int (1 : Int32), [], z_g0),
  (44, .goto (-31), 3, .null, [13], z_g0),
  (47, .dload_n 1, 1, .null, [], z_g0),
  (48, .ldc2_w 138, 3, .double (4629137466983448576 : UInt64), [], z_g0),
  (51, .dsub, 1, .null, [], z_g0),
  (52, .dstore 5, 2, .null, [], z_g0),
  (54, .aload_n 0, 1, .null, [], z_g0),
  (55, .dload 5, 2, .null, [], z_g0),
  (57, .dconst 0, 1, .double FP.dconst0, [], z_g0),
  (58, .dcmp .l, 1, .null, [], z_g0),
  (59, .ifCond .le 15, 3, .null, [74], z_g0),
  (62, .dload 5, 2, .null, [], z_g0),
  (64, .dload 5, 2, .null, [], z_g0),
  (66, .dmul, 1, .null, [], z_g0),
  (67, .ldc2_w 140, 3, .double (4639481672377565184 : UInt64), [], z_g0),
  (70, .dmul, 1, .null, [], z_g0),
  (71, .goto 4, 3, .null, [75], z_g0),
  (74, .dconst 0, 1, .double FP.dconst0, [], z_g0),
  (75, .putfield 142, 3, .null, [7, 5, 2], z_g0),
  (78, .aload_n 0, 1, .null, [], z_g0),
  (79, .dconst 0, 1, .double FP.dconst0, [], z_g0),
  (80, .putfield 145, 3, .null, [7, 6, 2], z_g0),
  (83, .aload_n 0, 1, .null, [], z_g0),
  (84, .aload_n 0, 1, .null, [], z_g0),
  (85, .getfield 11, 3, .null, [7, 0, 2], z_g0),
  (88, .aload_n 0, 1, .null, [], z_g0),
  (89, .getfield 67, 3, .null, [7, 3, 2], z_g0),
  (92, .dadd, 1, .null, [], z_g0),
  (93, .aload_n 0, 1, .null, [], z_g0),
  (94, .getfield 135, 3, .null, [7, 4, 2], z_g0),
  (97, .dsub, 1, .null, [], z_g0),
  (98, .aload_n 0, 1, .null, [], z_g0),
  (99, .getfield 142, 3, .null, [7, 5, 2], z_g0),
  (102, .dsub, 1, .null, [], z_g0),
  (103, .putfield 11, 3, .null, [7, 0, 2], z_g0),
  (106, .bipush 40, 2, .int ((40 : Int32)), [], z_g0),
  (108, .invokestatic 50, 3, .null, [0, 0], g_X6_unitsAt),
  (111, .i2d, 1, .null, [], z_g0),
  (112, .dstore 7, 2, .null, [], z_g0),
  (114, .aload_n 0, 1, .null, [], z_g0),
  (115, .getfield 11, 3, .null, [7, 0, 2], z_g0),
  (118, .dconst 0, 1, .double FP.dconst0, [], z_g0),
  (119, .dcmp .g, 1, .null, [], z_g0),
  (120, .ifCond .ge 20, 3, .null, [140], z_g0),
  (123, .aload_n 0, 1, .null, [], z_g0),
  (124, .aload_n 0, 1, .null, [], z_g0),
  (125, .getfield 11, 3, .null, [7, 0, 2], z_g0),
  (128, .dneg, 1, .null, [], z_g0),
  (129, .putfield 145, 3, .null, [7, 6, 2], z_g0),
  (132, .aload_n 0, 1, .null, [], z_g0),
  (133, .dconst 0, 1, .double FP.dconst0, [], z_g0),
  (134, .putfield 11, 3, .null, [7, 0, 2], z_g0),
  (137, .goto 35, 3, .null, [172], z_g0),
  (140, .aload_n 0, 1, .null, [], z_g0),
  (141, .getfield 11, 3, .null, [7, 0, 2], z_g0),
  (144, .dload 7, 2, .null, [], z_g0),
  (146, .dcmp .l, 1, .null, [], z_g0),
  (147, .ifCond .le 25, 3, .null, [172], z_g0),
  (150, .aload_n 0, 1, .null, [], z_g0),
  (151, .aload_n 0, 1, .null, [], z_g0),
  (152, .getfield 142, 3, .null, [7, 5, 2], z_g0),
  (155, .aload_n 0, 1, .null, [], z_g0),
  (156, .getfield 11, 3, .null, [7, 0, 2], z_g0),
  (159, .dload 7, 2, .null, [], z_g0),
  (161, .dsub, 1, .null, [], z_g0),
  (162, .dadd, 1, .null, [], z_g0),
  (163, .putfield 142, 3, .null, [7, 5, 2], z_g0),
  (166, .aload_n 0, 1, .null, [], z_g0),
  (167, .dload 7, 2, .null, [], z_g0),
  (169, .putfield 11, 3, .null, [7, 0, 2], z_g0),
  (172, .return_, 1, .null, [], z_g0)]
def a_X6_letOut_13 {ρ : Type} (k : Nat → UInt64 → UInt64 → Int32 → z_St → Option ρ) (ls : z_Lv) (st : List Value) (S : z_St) : Option ρ := z_gR ls 0 fun v0 => z_gD ls 1 fun v1 => z_gD ls 3 fun v3 => z_gI ls 5 fun v5 => z_p0 st (k v0 v1 v3 v5 S)
def a_X6_letOut_75 {ρ : Type} (k : Nat → Nat → UInt64 → z_St → Option ρ) (ls : z_Lv) (st : List Value) (S : z_St) : Option ρ := z_gR ls 0 fun v0 => z_pD st fun t1 s1 => z_pR s1 fun t0 s0 => z_p0 s0 (k v0 t0 t1 S)
set_option maxRecDepth 100000 in
theorem r_X6_letOut_75 (v0 : Nat) (t0 : Nat) (t1 : UInt64) (S : z_St) : z_seg z_rV (c_X6_letOut) [13, 75] (fun pc => fun _ _ _ => none) 98 (z_to 75 (c_X6_letOut)) [(0, .ref v0)] [.double t1, .ref t0] S = j_X6_letOut_75 v0 t0 t1 S := rfl
set_option maxRecDepth 100000 in
theorem r_X6_letOut_13 (n : Nat) (v0 : Nat) (v1 : UInt64) (v3 : UInt64) (v5 : Int32) (S : z_St) : z_seg z_rV (c_X6_letOut) [13, 75] (fun pc => cond (Nat.beq pc 13) (a_X6_letOut_13 (l_X6_letOut_13 n)) (cond (Nat.beq pc 75) (a_X6_letOut_75 (j_X6_letOut_75)) (fun _ _ _ => none))) 98 (z_to 13 (c_X6_letOut)) [(0, .ref v0), (1, .double v1), (3, .double v3), (5, .int v5)] [] S = l_X6_letOut_13 (n + 1) v0 v1 v3 v5 S := rfl
set_option maxRecDepth 100000 in
theorem r_X6_letOut (v0 : Nat) (v1 : UInt64) (S : z_St) : z_seg z_rV (c_X6_letOut) [13, 75] (fun pc => cond (Nat.beq pc 13) (a_X6_letOut_13 (l_X6_letOut_13 z_N)) (fun _ _ _ => none)) 98 (c_X6_letOut) [(0, .ref v0), (1, .double v1)] [] S = b_X6_letOut v0 v1 S := rfl
def b_X6_takeStep (v0 : Nat) (v1 : UInt64) (v3 : UInt64) (v5 : Nat) (S : z_St) : Option z_St :=
z_chk S v0 7 (
z_chk S v0 7 (
let S1 := z_wi S v0 9 (((z_i S v0 9)) + ((1 : Int32)))
z_chk S1 v0 7 (
(f_X6_fall v0 v1 v3 S1).bind fun q2 =>
z_chk q2 v0 7 (
z_nn (FP.dmul ((z_d q2 v0 2)) ((4598175219545276416 : UInt64))) (
z_chk q2 v0 7 (
let S3 := z_wd q2 v0 3 (FP.dmul ((z_d q2 v0 2)) ((4598175219545276416 : UInt64)))
z_chk S3 v0 7 (
z_chk S3 v0 7 (
z_nn (FP.dsub ((z_d S3 v0 2)) ((z_d S3 v0 3))) (
z_chk S3 v0 7 (
let S4 := z_wd S3 v0 2 (FP.dsub ((z_d S3 v0 2)) ((z_d S3 v0 3)))
z_chk S4 v0 7 (
(f_X6_levelOf ((z_d S4 v0 0)) S4).bind fun q5 =>
z_chk q5.2 v0 7 (
(f_X6_listen v0 q5.1 q5.2).bind fun q6 =>
z_chk q6 v0 7 (
(f_X6_orderGates v0 q6).bind fun q7 =>
z_chk q7 v0 7 (
z_nz ((366 : Int32)) (
z_chk q7 v0 7 (
z_chk q7 v5 5 (
(f_X4_wishAt v5 (((z_i q7 v0 9)) - ((z_i q7 v0 9)) / ((366 : Int32)) * ((366 : Int32))) ((z_d q7 v0 8)) q7).bind fun q8 =>
z_chk q8.2 v0 7 (
(f_X6_steer v0 q8.1 q8.2).bind fun q9 =>
z_chk q9 v0 7 (
(f_X6_letOut v0 q5.1 q9).bind fun q10 =>
some q10)))))))))))))))))))
def f_X6_takeStep : Nat → UInt64 → UInt64 → Nat → z_St → Option z_St := z_op (b_X6_takeStep)
theorem e_X6_takeStep (v0 : Nat) (v1 : UInt64) (v3 : UInt64) (v5 : Nat) (S : z_St) : f_X6_takeStep v0 v1 v3 v5 S = b_X6_takeStep v0 v1 v3 v5 S := congrFun (congrFun (congrFun (congrFun (congrFun (z_op_eq (b_X6_takeStep)) v0) v1) v3) v5) S
def g_X6_takeStep : z_G := .inr (.inr (.inr (fun as S => match as with
  | [.ref v0, .double v1, .double v3, .ref v5] => f_X6_takeStep v0 v1 v3 v5 S
  | _ => none)))
def c_X6_takeStep : List z_E := [
  (0, .aload_n 0, 1, .null, [], z_g0),
  (1, .dup, 1, .null, [], z_g0),
  (2, .getfield 54, 3, .null, [7, 9, 0], z_g0),
  (5, .iconst 1, 1, .int ((1 : Int32)), [], z_g0),
  (6, .iadd, 1, .null, [], z_g0),
  (7, .putfield 54, 3, .null, [7, 9, 0], z_g0),
  (10, .aload_n 0, 1, .null, [], z_g0),
  (11, .dload_n 1, 1, .null, [], z_g0),
  (12, .dload_n 3, 1, .null, [], z_g0),
  (13, .invokevirtual 58, 3, .null, [1, 7, 0, 0], g_X6_fall),
  (16, .aload_n 0, 1, .null, [], z_g0),
  (17, .aload_n 0, 1, .null, [], z_g0),
  (18, .getfield 62, 3, .null, [7, 2, 2], z_g0),
  (21, .ldc2_w 65, 3, .double (4598175219545276416 : UInt64), [], z_g0),
  (24, .dmul, 1, .null, [], z_g0),
  (25, .putfield 67, 3, .null, [7, 3, 2], z_g0),
  (28, .aload_n 0, 1, .null, [], z_g0),
  (29, .aload_n 0, 1, .null, [], z_g0),
  (30, .getfield 62, 3, .null, [7, 2, 2], z_g0),
  (33, .aload_n 0, 1, .null, [], z_g0),
  (34, .getfield 67, 3, .null, [7, 3, 2], z_g0),
  (37, .dsub, 1, .null, [], z_g0),
  (38, .putfield 62, 3, .null, [7, 2, 2], z_g0),
  (41, .aload_n 0, 1, .null, [], z_g0),
  (42, .getfield 11, 3, .null, [7, 0, 2], z_g0),
  (45, .invokestatic 70, 3, .null, [0, 0], g_X6_levelOf),
  (48, .dstore 6, 2, .null, [], z_g0),
  (50, .aload_n 0, 1, .null, [], z_g0),
  (51, .dload 6, 2, .null, [], z_g0),
  (53, .invokevirtual 74, 3, .null, [1, 7, 0], g_X6_listen),
  (56, .aload_n 0, 1, .null, [], z_g0),
  (57, .invokevirtual 78, 3, .null, [1, 7], g_X6_orderGates),
  (60, .aload_n 0, 1, .null, [], z_g0),
  (61, .aload 5, 2, .null, [], z_g0),
  (63, .aload_n 0, 1, .null, [], z_g0),
  (64, .getfield 54, 3, .null, [7, 9, 0], z_g0),
  (67, .sipush 366, 3, .int ((366 : Int32)), [], z_g0),
  (70, .irem, 1, .null, [], z_g0),
  (71, .aload_n 0, 1, .null, [], z_g0),
  (72, .getfield 83, 3, .null, [7, 8, 2], z_g0),
  (75, .invokevirtual 86, 3, .null, [1, 5, 0, 0], g_X4_wishAt),
  (78, .invokevirtual 90, 3, .null, [1, 7, 0], g_X6_steer),
  (81, .aload_n 0, 1, .null, [], z_g0),
  (82, .dload 6, 2, .null, [], z_g0),
  (84, .invokevirtual 93, 3, .null, [1, 7, 0], g_X6_letOut),
  (87, .return_, 1, .null, [], z_g0)]
set_option maxRecDepth 100000 in
theorem r_X6_takeStep (v0 : Nat) (v1 : UInt64) (v3 : UInt64) (v5 : Nat) (S : z_St) : z_seg z_rV (c_X6_takeStep) [] (fun pc => fun _ _ _ => none) 49 (c_X6_takeStep) [(0, .ref v0), (1, .double v1), (3, .double v3), (5, .ref v5)] [] S = b_X6_takeStep v0 v1 v3 v5 S := rfl
def b_X6_bitsAbout (v0 : Nat) (v1 : Int32) (S : z_St) : Option (Int64 × z_St) :=
if v1 = (0 : Int32) then
(z_chk S v0 7 (
(f_X11_bitsOf ((z_d S v0 0)) S).bind fun q1 =>
some (q1.1, q1.2)))
else
if v1 = (1 : Int32) then
(z_chk S v0 7 (
(f_X6_levelOf ((z_d S v0 0)) S).bind fun q2 =>
(f_X11_bitsOf q2.1 q2.2).bind fun q3 =>
some (q3.1, q3.2)))
else
if v1 = (2 : Int32) then
(z_chk S v0 7 (
if ((z_i S v0 9)) = 0 then
(some ((9221120237041090560 : Int64), S))
else
(z_chk S v0 7 (
(f_X11_bitsOf ((z_d S v0 8)) S).bind fun q4 =>
some (q4.1, q4.2)))))
else
if v1 = (3 : Int32) then
(z_chk S v0 7 (
(f_X11_bitsOf ((z_d S v0 2)) S).bind fun q5 =>
some (q5.1, q5.2)))
else
if v1 = (4 : Int32) then
(z_chk S v0 7 (
(f_X11_bitsOf ((z_d S v0 1)) S).bind fun q6 =>
some (q6.1, q6.2)))
else
if v1 = (5 : Int32) then
(z_chk S v0 7 (
(f_X11_bitsOf ((z_d S v0 3)) S).bind fun q7 =>
some (q7.1, q7.2)))
else
if v1 = (6 : Int32) then
(z_chk S v0 7 (
(f_X11_bitsOf ((z_d S v0 4)) S).bind fun q8 =>
some (q8.1, q8.2)))
else
if v1 = (7 : Int32) then
(z_chk S v0 7 (
(f_X11_bitsOf ((z_d S v0 5)) S).bind fun q9 =>
some (q9.1, q9.2)))
else
if v1 = (8 : Int32) then
(z_chk S v0 7 (
(f_X11_bitsOf ((z_d S v0 6)) S).bind fun q10 =>
some (q10.1, q10.2)))
else
if v1 = (9 : Int32) then
(z_chk S v0 7 (
(f_X11_bitsOf ((z_d S v0 7)) S).bind fun q11 =>
some (q11.1, q11.2)))
else
(z_chk S v0 7 (
z_onV (va_rf (z_r S v0 11)) fun b12 =>
z_inb S b12 103 (v1 - ((10 : Int32))) (
(f_X11_bitsOf ((z_d S b12 (v1 - ((10 : Int32))).toNatClampNeg)) S).bind fun q13 =>
some (q13.1, q13.2))))
def f_X6_bitsAbout : Nat → Int32 → z_St → Option (Int64 × z_St) := z_op (b_X6_bitsAbout)
theorem e_X6_bitsAbout (v0 : Nat) (v1 : Int32) (S : z_St) : f_X6_bitsAbout v0 v1 S = b_X6_bitsAbout v0 v1 S := congrFun (congrFun (congrFun (z_op_eq (b_X6_bitsAbout)) v0) v1) S
def g_X6_bitsAbout : z_G := .inr (.inl (fun as S => match as with
  | [.ref v0, .int v1] => f_X6_bitsAbout v0 v1 S
  | _ => none))
def c_X6_bitsAbout : List z_E := [
  (0, .iload_n 1, 1, .null, [], z_g0),
  (1, .tableswitch 151 0 9 #[55, 63, 74, 95, 103, 111, 119, 127, 135, 143], 55, .null, [152, 0, 56, 64, 75, 96, 104, 112, 120, 128, 136, 144], z_g0),
  (56, .aload_n 0, 1, .null, [], z_g0),
  (57, .getfield 11, 3, .null, [7, 0, 2], z_g0),
  (60, .invokestatic 125, 3, .null, [0, 0], g_X11_bitsOf),
  (63, .lreturn, 1, .null, [], z_g0),
  (64, .aload_n 0, 1, .null, [], z_g0),
  (65, .getfield 11, 3, .null, [7, 0, 2], z_g0),
  (68, .invokestatic 70, 3, .null, [0, 0], g_X6_levelOf),
  (71, .invokestatic 125, 3, .null, [0, 0], g_X11_bitsOf),
  (74, .lreturn, 1, .null, [], z_g0),
  (75, .aload_n 0, 1, .null, [], z_g0),
  (76, .getfield 54, 3, .null, [7, 9, 0], z_g0),
  (79, .ifCond .ne 9, 3, .null, [88], z_g0),
  (82, .ldc2_w 48, 3, .long (9221120237041090560 : Int64), [], z_g0),
  (85, .goto 10, 3, .null, [95], z_g0),
  (88, .aload_n 0, 1, .null, [], z_g0),
  (89, .getfield 83, 3, .null, [7, 8, 2], z_g0),
  (92, .invokestatic 125, 3, .null, [0, 0], g_X11_bitsOf),
  (95, .lreturn, 1, .null, [], z_g0),
  (96, .aload_n 0, 1, .null, [], z_g0),
  (97, .getfield 62, 3, .null, [7, 2, 2], z_g0),
  (100, .invokestatic 125, 3, .null, [0, 0], g_X11_bitsOf),
  (103, .lreturn, 1, .null, [], z_g0),
  (104, .aload_n 0, 1, .null, [], z_g0),
  (105, .getfield 96, 3, .null, [7, 1, 2], z_g0),
  (108, .invokestatic 125, 3, .null, [0, 0], g_X11_bitsOf),
  (111, .lreturn, 1, .null, [], z_g0),
  (112, .aload_n 0, 1, .null, [], z_g0),
  (113, .getfield 67, 3, .null, [7, 3, 2], z_g0),
  (116, .invokestatic 125, 3, .null, [0, 0], g_X11_bitsOf),
  (119, .lreturn, 1, .null, [], z_g0),
  (120, .aload_n 0, 1, .null, [], z_g0),
  (121, .getfield 135, 3, .null, [7, 4, 2], z_g0),
  (124, .invokestatic 125, 3, .null, [0, 0], g_X11_bitsOf),
  (127, .lreturn, 1, .null, [], z_g0),
  (128, .aload_n 0, 1, .null, [], z_g0),
  (129, .getfield 142, 3, .null, [7, 5, 2], z_g0),
  (132, .invokestatic 125, 3, .null, [0, 0], g_X11_bitsOf),
  (135, .lreturn, 1, .null, [], z_g0),
  (136, .aload_n 0, 1, .null, [], z_g0),
  (137, .getfield 145, 3, .null, [7, 6, 2], z_g0),
  (140, .invokestatic 125, 3, .null, [0, 0], g_X11_bitsOf),
  (143, .lreturn, 1, .null, [], z_g0),
  (144, .aload_n 0, 1, .null, [], z_g0),
  (145, .getfield 19, 3, .null, [7, 7, 2], z_g0),
  (148, .invokestatic 125, 3, .null, [0, 0], g_X11_bitsOf),
  (151, .lreturn, 1, .null, [], z_g0),
  (152, .aload_n 0, 1, .null, [], z_g0),
  (153, .getfield 22, 3, .null, [7, 11, 3], z_g0),
  (156, .iload_n 1, 1, .null, [], z_g0),
  (157, .bipush 10, 2, .int ((10 : Int32)), [], z_g0),
  (159, .isub, 1, .null, [], z_g0),
  (160, .daload, 1, .null, [], z_g0),
  (161, .invokestatic 125, 3, .null, [0, 0], g_X11_bitsOf),
  (164, .lreturn, 1, .null, [], z_g0)]
set_option maxRecDepth 100000 in
theorem r_X6_bitsAbout (v0 : Nat) (v1 : Int32) (S : z_St) : z_seg z_rL (c_X6_bitsAbout) [] (fun pc => fun _ _ _ => none) 59 (c_X6_bitsAbout) [(0, .ref v0), (1, .int v1)] [] S = b_X6_bitsAbout v0 v1 S := rfl
def l_X7_init_18 : Nat → Nat → Int32 → z_St → Option z_St
  | 0 => fun _ _ _ => none
  | n + 1 => fun (v0 : Nat) (v3 : Int32) (S : z_St) =>
z_chk S v0 8 (
z_onV (va_rf (z_r S v0 1)) fun b5 =>
z_chk S b5 101 (
if (Int32.ofNat (z_n S b5)) ≤ v3 then
(some S)
else
(z_chk S v0 8 (
z_onV (va_rf (z_r S v0 1)) fun b6 =>
z_inb S b6 101 v3 (
let S7 := z_wi S b6 v3.toNatClampNeg ((-1 : Int32))
let x8 := v3 + (1 : Int32)
l_X7_init_18 n v0 x8 S7)))))
def b_X7_init (v0 : Nat) (v1 : Int32) (v2 : Int32) (S : z_St) : Option z_St :=
z_chk S v0 8 (
let S1 := z_wi S v0 0 v1
z_len v2 30000 (
let a2 := z_x S1
let S3 := z_new S1 101 v2.toNatClampNeg
z_chk S3 v0 8 (
let S4 := z_wr S3 v0 1 (some a2)
l_X7_init_18 z_N v0 ((0 : Int32)) S4)))
def f_X7_init : Nat → Int32 → Int32 → z_St → Option z_St := z_op (b_X7_init)
theorem e_X7_init (v0 : Nat) (v1 : Int32) (v2 : Int32) (S : z_St) : f_X7_init v0 v1 v2 S = b_X7_init v0 v1 v2 S := congrFun (congrFun (congrFun (congrFun (z_op_eq (b_X7_init)) v0) v1) v2) S
def g_X7_init : z_G := .inr (.inr (.inr (fun as S => match as with
  | [.ref v0, .int v1, .int v2] => f_X7_init v0 v1 v2 S
  | _ => none)))
def c_X7_init : List z_E := [
  (0, .aload_n 0, 1, .null, [], z_g0),
  (1, .invokespecial 3, 3, .null, [2], z_g0),
  (4, .aload_n 0, 1, .null, [], z_g0),
  (5, .iload_n 1, 1, .null, [], z_g0),
  (6, .putfield 9, 3, .null, [8, 0, 0], z_g0),
  (9, .aload_n 0, 1, .null, [], z_g0),
  (10, .iload_n 2, 1, .null, [], z_g0),
  (11, .newarray .int, 2, .null, [101], z_g0),
  (13, .putfield 15, 3, .null, [8, 1, 3], z_g0),
  (16, .iconst 0, 1, .int ((0 : Int32)), [], z_g0),
  (17, .istore_n 3, 1, .null, [], z_g0),
  (18, .iload_n 3, 1, .null, [], z_g0),
  (19, .aload_n 0, 1, .null, [], z_g0),
  (20, .getfield 15, 3, .null, [8, 1, 3], z_g0),
  (23, .arraylength, 1, .null, [101], z_g0),
  (24, .if_icmp .ge 16, 3, .null, [40], z_g0),
  (27, .aload_n 0, 1, .null, [], z_g0),
  (28, .getfield 15, 3, .null, [8, 1, 3], z_g0),
  (31, .iload_n 3, 1, .null, [], z_g0),
  (32, .iconst (-1), 1, .int ((-1 : Int32)), [], z_g0),
  (33, .iastore, 1, .null, [], z_g0),
  (34, .iinc 3 1, 3, .int (1 : Int32), [], z_g0),
  (37, .goto (-19), 3, .null, [18], z_g0),
  (40, .return_, 1, .null, [], z_g0)]
def a_X7_init_18 {ρ : Type} (k : Nat → Int32 → z_St → Option ρ) (ls : z_Lv) (st : List Value) (S : z_St) : Option ρ := z_gR ls 0 fun v0 => z_gI ls 3 fun v3 => z_p0 st (k v0 v3 S)
set_option maxRecDepth 100000 in
theorem r_X7_init_18 (n : Nat) (v0 : Nat) (v3 : Int32) (S : z_St) : z_seg z_rV (c_X7_init) [18] (fun pc => cond (Nat.beq pc 18) (a_X7_init_18 (l_X7_init_18 n)) (fun _ _ _ => none)) 27 (z_to 18 (c_X7_init)) [(0, .ref v0), (3, .int v3)] [] S = l_X7_init_18 (n + 1) v0 v3 S := rfl
set_option maxRecDepth 100000 in
theorem r_X7_init (v0 : Nat) (v1 : Int32) (v2 : Int32) (S : z_St) : z_seg z_rV (c_X7_init) [18] (fun pc => cond (Nat.beq pc 18) (a_X7_init_18 (l_X7_init_18 z_N)) (fun _ _ _ => none)) 27 (c_X7_init) [(0, .ref v0), (1, .int v1), (2, .int v2)] [] S = b_X7_init v0 v1 v2 S := rfl
def b_X7_isForFloat (v0 : Nat) (S : z_St) : Option (Int32 × z_St) :=
z_chk S v0 8 (
if ((z_i S v0 0)) = 0 then
(z_rb ((1 : Int32)) S)
else
(z_chk S v0 8 (
if ((z_i S v0 0)) = ((1 : Int32)) then
(z_rb ((1 : Int32)) S)
else
(z_rb ((0 : Int32)) S))))
def f_X7_isForFloat : Nat → z_St → Option (Int32 × z_St) := z_op (b_X7_isForFloat)
theorem e_X7_isForFloat (v0 : Nat) (S : z_St) : f_X7_isForFloat v0 S = b_X7_isForFloat v0 S := congrFun (congrFun (z_op_eq (b_X7_isForFloat)) v0) S
def g_X7_isForFloat : z_G := .inl (fun as S => match as with
  | [.ref v0] => f_X7_isForFloat v0 S
  | _ => none)
def c_X7_isForFloat : List z_E := [
  (0, .aload_n 0, 1, .null, [], z_g0),
  (1, .getfield 9, 3, .null, [8, 0, 0], z_g0),
  (4, .ifCond .eq 11, 3, .null, [15], z_g0),
  (7, .aload_n 0, 1, .null, [], z_g0),
  (8, .getfield 9, 3, .null, [8, 0, 0], z_g0),
  (11, .iconst 1, 1, .int ((1 : Int32)), [], z_g0),
  (12, .if_icmp .ne 7, 3, .null, [19], z_g0),
  (15, .iconst 1, 1, .int ((1 : Int32)), [], z_g0),
  (16, .goto 4, 3, .null, [20], z_g0),
  (19, .iconst 0, 1, .int ((0 : Int32)), [], z_g0),
  (20, .ireturn, 1, .null, [], z_g0)]
set_option maxRecDepth 100000 in
theorem r_X7_isForFloat (v0 : Nat) (S : z_St) : z_seg z_rZ (c_X7_isForFloat) [] (fun pc => fun _ _ _ => none) 14 (c_X7_isForFloat) [(0, .ref v0)] [] S = b_X7_isForFloat v0 S := rfl
def b_X7_isForReads (v0 : Nat) (S : z_St) : Option (Int32 × z_St) :=
z_chk S v0 8 (
(f_X7_isForFloat v0 S).bind fun q1 =>
if q1.1 = 0 then
(z_chk q1.2 v0 8 (
if ((z_i q1.2 v0 0)) = ((6 : Int32)) then
(z_rb ((1 : Int32)) q1.2)
else
(z_rb ((0 : Int32)) q1.2)))
else
(z_rb ((1 : Int32)) q1.2))
def f_X7_isForReads : Nat → z_St → Option (Int32 × z_St) := z_op (b_X7_isForReads)
theorem e_X7_isForReads (v0 : Nat) (S : z_St) : f_X7_isForReads v0 S = b_X7_isForReads v0 S := congrFun (congrFun (z_op_eq (b_X7_isForReads)) v0) S
def g_X7_isForReads : z_G := .inl (fun as S => match as with
  | [.ref v0] => f_X7_isForReads v0 S
  | _ => none)
def c_X7_isForReads : List z_E := [
  (0, .aload_n 0, 1, .null, [], z_g0),
  (1, .invokevirtual 21, 3, .null, [1, 8], g_X7_isForFloat),
  (4, .ifCond .ne 12, 3, .null, [16], z_g0),
  (7, .aload_n 0, 1, .null, [], z_g0),
  (8, .getfield 9, 3, .null, [8, 0, 0], z_g0),
  (11, .bipush 6, 2, .int ((6 : Int32)), [], z_g0),
  (13, .if_icmp .ne 7, 3, .null, [20], z_g0),
  (16, .iconst 1, 1, .int ((1 : Int32)), [], z_g0),
  (17, .goto 4, 3, .null, [21], z_g0),
  (20, .iconst 0, 1, .int ((0 : Int32)), [], z_g0),
  (21, .ireturn, 1, .null, [], z_g0)]
set_option maxRecDepth 100000 in
theorem r_X7_isForReads (v0 : Nat) (S : z_St) : z_seg z_rZ (c_X7_isForReads) [] (fun pc => fun _ _ _ => none) 14 (c_X7_isForReads) [(0, .ref v0)] [] S = b_X7_isForReads v0 S := rfl
def b_X8_cellOfReal (v0 : Int32) (v1 : Int64) (S : z_St) : Option (Int64 × z_St) :=
(f_X11_noNumber v1 S).bind fun q1 =>
if q1.1 = 0 then
((f_X11_realOf v1 q1.2).bind fun q2 =>
if v0 = (0 : Int32) then
(some (((FP.d2i q2.1).toInt16.toInt32).toInt64, q2.2))
else
if v0 = (1 : Int32) then
(some ((FP.d2i q2.1).toInt64, q2.2))
else
if v0 = (2 : Int32) then
(z_nf (FP.d2f q2.1) (
z_nn (FP.f2d (FP.d2f q2.1)) (
(f_X11_bitsOf (FP.f2d (FP.d2f q2.1)) q2.2).bind fun q3 =>
some (q3.1, q3.2))))
else
if v0 = (3 : Int32) then
(some (v1, q2.2))
else
if v0 = (4 : Int32) then
(some ((((FP.d2i q2.1).toUInt32 % 65536).toInt32).toInt64, q2.2))
else
if v0 = (5 : Int32) then
(some (((FP.d2i q2.1).toInt8.toInt32).toInt64, q2.2))
else
if v0 = (6 : Int32) then
(if (Op.cmpValue (FP.dcmp q2.1 FP.dconst0) .l) = 0 then
(some ((0 : Int64), q2.2))
else
(some ((1 : Int64), q2.2)))
else
(some (FP.d2l q2.1, q2.2)))
else
(if v0 = ((2 : Int32)) then
(some ((9221120237041090560 : Int64), q1.2))
else
(if v0 = ((3 : Int32)) then
(some ((9221120237041090560 : Int64), q1.2))
else
(if v0 = ((6 : Int32)) then
(some ((1 : Int64), q1.2))
else
(some ((0 : Int64), q1.2)))))
def f_X8_cellOfReal : Int32 → Int64 → z_St → Option (Int64 × z_St) := z_op (b_X8_cellOfReal)
theorem e_X8_cellOfReal (v0 : Int32) (v1 : Int64) (S : z_St) : f_X8_cellOfReal v0 v1 S = b_X8_cellOfReal v0 v1 S := congrFun (congrFun (congrFun (z_op_eq (b_X8_cellOfReal)) v0) v1) S
def g_X8_cellOfReal : z_G := .inr (.inl (fun as S => match as with
  | [.int v0, .long v1] => f_X8_cellOfReal v0 v1 S
  | _ => none))
def c_X8_cellOfReal : List z_E := [
  (0, .lload_n 1, 1, .null, [], z_g0),
  (1, .invokestatic 23, 3, .null, [0, 0], g_X11_noNumber),
  (4, .ifCond .eq 31, 3, .null, [35], z_g0),
  (7, .iload_n 0, 1, .null, [], z_g0),
  (8, .iconst 2, 1, .int ((2 : Int32)), [], z_g0),
  (9, .if_icmp .eq 8, 3, .null, [17], z_g0),
  (12, .iload_n 0, 1, .null, [], z_g0),
  (13, .iconst 3, 1, .int ((3 : Int32)), [], z_g0),
  (14, .if_icmp .ne 9, 3, .null, [23], z_g0),
  (17, .ldc2_w 27, 3, .long (9221120237041090560 : Int64), [], z_g0),
  (20, .goto 14, 3, .null, [34], z_g0),
  (23, .iload_n 0, 1, .null, [], z_g0),
  (24, .bipush 6, 2, .int ((6 : Int32)), [], z_g0),
  (26, .if_icmp .ne 7, 3, .null, [33], z_g0),
  (29, .lconst 1, 1, .long (1 : Int64), [], z_g0),
  (30, .goto 4, 3, .null, [34], z_g0),
  (33, .lconst 0, 1, .long (0 : Int64), [], z_g0),
  (34, .lreturn, 1, .null, [], z_g0),
  (35, .lload_n 1, 1, .null, [], z_g0),
  (36, .invokestatic 29, 3, .null, [0, 0], g_X11_realOf),
  (39, .dstore_n 3, 1, .null, [], z_g0),
  (40, .iload_n 0, 1, .null, [], z_g0),
  (41, .tableswitch 83 0 6 #[43, 48, 52, 59, 61, 66, 71], 43, .null, [124, 0, 84, 89, 93, 100, 102, 107, 112], z_g0),
  (84, .dload_n 3, 1, .null, [], z_g0),
  (85, .d2i, 1, .null, [], z_g0),
  (86, .i2s, 1, .null, [], z_g0),
  (87, .i2l, 1, .null, [], z_g0),
  (88, .lreturn, 1, .null, [], z_g0),
  (89, .dload_n 3, 1, .null, [], z_g0),
  (90, .d2i, 1, .null, [], z_g0),
  (91, .i2l, 1, .null, [], z_g0),
  (92, .lreturn, 1, .null, [], z_g0),
  (93, .dload_n 3, 1, .null, [], z_g0),
  (94, .d2f, 1, .null, [], z_g0),
  (95, .f2d, 1, .null, [], z_g0),
  (96, .invokestatic 19, 3, .null, [0, 0], g_X11_bitsOf),
  (99, .lreturn, 1, .null, [], z_g0),
  (100, .lload_n 1, 1, .null, [], z_g0),
  (101, .lreturn, 1, .null, [], z_g0),
  (102, .dload_n 3, 1, .null, [], z_g0),
  (103, .d2i, 1, .null, [], z_g0),
  (104, .i2c, 1, .null, [], z_g0),
  (105, .i2l, 1, .null, [], z_g0),
  (106, .lreturn, 1, .null, [], z_g0),
  (107, .dload_n 3, 1, .null, [], z_g0),
  (108, .d2i, 1, .null, [], z_g0),
  (109, .i2b, 1, .null, [], z_g0),
  (110, .i2l, 1, .null, [], z_g0),
  (111, .lreturn, 1, .null, [], z_g0),
  (112, .dload_n 3, 1, .null, [], z_g0),
  (113, .dconst 0, 1, .double FP.dconst0, [], z_g0),
  (114, .dcmp .l, 1, .null, [], z_g0),
  (115, .ifCond .eq 7, 3, .null, [122], z_g0),
  (118, .lconst 1, 1, .long (1 : Int64), [], z_g0),
  (119, .goto 4, 3, .null, [123], z_g0),
  (122, .lconst 0, 1, .long (0 : Int64), [], z_g0),
  (123, .lreturn, 1, .null, [], z_g0),
  (124, .dload_n 3, 1, .null, [], z_g0),
  (125, .d2l, 1, .null, [], z_g0),
  (126, .lreturn, 1, .null, [], z_g0)]
set_option maxRecDepth 100000 in
theorem r_X8_cellOfReal (v0 : Int32) (v1 : Int64) (S : z_St) : z_seg z_rL (c_X8_cellOfReal) [] (fun pc => fun _ _ _ => none) 63 (c_X8_cellOfReal) [(0, .int v0), (1, .long v1)] [] S = b_X8_cellOfReal v0 v1 S := rfl
def j_X8_cellMore_40 (v0 : Int32) (v1 : Int64) (v3 : Int64) (S : z_St) : Option (Int64 × z_St) :=
(f_X11_noNumber v1 S).bind fun q2 =>
if q2.1 = 0 then
(if v0 = ((2 : Int32)) then
((f_X11_realOf v1 q2.2).bind fun q5 =>
z_nf (FP.d2f q5.1) (
z_nf (FP.fadd (FP.d2f q5.1) (FP.l2f v3)) (
z_nn (FP.f2d (FP.fadd (FP.d2f q5.1) (FP.l2f v3))) (
(f_X11_bitsOf (FP.f2d (FP.fadd (FP.d2f q5.1) (FP.l2f v3))) q5.2).bind fun q6 =>
some (q6.1, q6.2)))))
else
((f_X11_realOf v1 q2.2).bind fun q3 =>
z_nn (FP.dadd q3.1 (FP.l2d v3)) (
(f_X11_bitsOf (FP.dadd q3.1 (FP.l2d v3)) q3.2).bind fun q4 =>
some (q4.1, q4.2))))
else
(some (v1, q2.2))
def b_X8_cellMore (v0 : Int32) (v1 : Int64) (v3 : Int64) (S : z_St) : Option (Int64 × z_St) :=
if v0 = ((6 : Int32)) then
(if (lg_cmp (v3 &&& ((1 : Int64))) ((0 : Int64))) = 0 then
(some (v1, S))
else
(some (((1 : Int64)) - v1, S)))
else
(if v0 = ((2 : Int32)) then
(j_X8_cellMore_40 v0 v1 v3 S)
else
(if v0 = ((3 : Int32)) then
(j_X8_cellMore_40 v0 v1 v3 S)
else
((f_X8_cellOfWhole v0 (v1 + v3) S).bind fun q1 =>
some (q1.1, q1.2))))
def f_X8_cellMore : Int32 → Int64 → Int64 → z_St → Option (Int64 × z_St) := z_op (b_X8_cellMore)
theorem e_X8_cellMore (v0 : Int32) (v1 : Int64) (v3 : Int64) (S : z_St) : f_X8_cellMore v0 v1 v3 S = b_X8_cellMore v0 v1 v3 S := congrFun (congrFun (congrFun (congrFun (z_op_eq (b_X8_cellMore)) v0) v1) v3) S
def g_X8_cellMore : z_G := .inr (.inl (fun as S => match as with
  | [.int v0, .long v1, .long v3] => f_X8_cellMore v0 v1 v3 S
  | _ => none))
def c_X8_cellMore : List z_E := [
  (0, .iload_n 0, 1, .null, [], z_g0),
  (1, .bipush 6, 2, .int ((6 : Int32)), [], z_g0),
  (3, .if_icmp .ne 19, 3, .null, [22], z_g0),
  (6, .lload_n 3, 1, .null, [], z_g0),
  (7, .lconst 1, 1, .long (1 : Int64), [], z_g0),
  (8, .land, 1, .null, [], z_g0),
  (9, .lconst 0, 1, .long (0 : Int64), [], z_g0),
  (10, .lcmp, 1, .null, [], z_g0),
  (11, .ifCond .eq 9, 3, .null, [20], z_g0),
  (14, .lconst 1, 1, .long (1 : Int64), [], z_g0),
  (15, .lload_n 1, 1, .null, [], z_g0),
  (16, .lsub, 1, .null, [], z_g0),
  (17, .goto 4, 3, .null, [21], z_g0),
  (20, .lload_n 1, 1, .null, [], z_g0),
  (21, .lreturn, 1, .null, [], z_g0),
  (22, .iload_n 0, 1, .null, [], z_g0),
  (23, .iconst 2, 1, .int ((2 : Int32)), [], z_g0),
  (24, .if_icmp .eq 16, 3, .null, [40], z_g0),
  (27, .iload_n 0, 1, .null, [], z_g0),
  (28, .iconst 3, 1, .int ((3 : Int32)), [], z_g0),
  (29, .if_icmp .eq 11, 3, .null, [40], z_g0),
  (32, .iload_n 0, 1, .null, [], z_g0),
  (33, .lload_n 1, 1, .null, [], z_g0),
  (34, .lload_n 3, 1, .null, [], z_g0),
  (35, .ladd, 1, .null, [], z_g0),
  (36, .invokestatic 33, 3, .null, [0, 0, 0], g_X8_cellOfWhole),
  (39, .lreturn, 1, .null, [], z_g0),
  (40, .lload_n 1, 1, .null, [], z_g0),
  (41, .invokestatic 23, 3, .null, [0, 0], g_X11_noNumber),
  (44, .ifCond .eq 5, 3, .null, [49], z_g0),
  (47, .lload_n 1, 1, .null, [], z_g0),
  (48, .lreturn, 1, .null, [], z_g0),
  (49, .iload_n 0, 1, .null, [], z_g0),
  (50, .iconst 2, 1, .int ((2 : Int32)), [], z_g0),
  (51, .if_icmp .ne 18, 3, .null, [69], z_g0),
  (54, .lload_n 1, 1, .null, [], z_g0),
  (55, .invokestatic 29, 3, .null, [0, 0], g_X11_realOf),
  (58, .d2f, 1, .null, [], z_g0),
  (59, .lload_n 3, 1, .null, [], z_g0),
  (60, .l2f, 1, .null, [], z_g0),
  (61, .fadd, 1, .null, [], z_g0),
  (62, .f2d, 1, .null, [], z_g0),
  (63, .invokestatic 19, 3, .null, [0, 0], g_X11_bitsOf),
  (66, .goto 13, 3, .null, [79], z_g0),
  (69, .lload_n 1, 1, .null, [], z_g0),
  (70, .invokestatic 29, 3, .null, [0, 0], g_X11_realOf),
  (73, .lload_n 3, 1, .null, [], z_g0),
  (74, .l2d, 1, .null, [], z_g0),
  (75, .dadd, 1, .null, [], z_g0),
  (76, .invokestatic 19, 3, .null, [0, 0], g_X11_bitsOf),
  (79, .lreturn, 1, .null, [], z_g0)]
def a_X8_cellMore_40 {ρ : Type} (k : Int32 → Int64 → Int64 → z_St → Option ρ) (ls : z_Lv) (st : List Value) (S : z_St) : Option ρ := z_gI ls 0 fun v0 => z_gJ ls 1 fun v1 => z_gJ ls 3 fun v3 => z_p0 st (k v0 v1 v3 S)
set_option maxRecDepth 100000 in
theorem r_X8_cellMore_40 (v0 : Int32) (v1 : Int64) (v3 : Int64) (S : z_St) : z_seg z_rL (c_X8_cellMore) [40] (fun pc => fun _ _ _ => none) 54 (z_to 40 (c_X8_cellMore)) [(0, .int v0), (1, .long v1), (3, .long v3)] [] S = j_X8_cellMore_40 v0 v1 v3 S := rfl
set_option maxRecDepth 100000 in
theorem r_X8_cellMore (v0 : Int32) (v1 : Int64) (v3 : Int64) (S : z_St) : z_seg z_rL (c_X8_cellMore) [40] (fun pc => cond (Nat.beq pc 40) (a_X8_cellMore_40 (j_X8_cellMore_40)) (fun _ _ _ => none)) 54 (c_X8_cellMore) [(0, .int v0), (1, .long v1), (3, .long v3)] [] S = b_X8_cellMore v0 v1 v3 S := rfl
def b_X8_isOfReals (v0 : Nat) (S : z_St) : Option (Int32 × z_St) :=
z_chk S v0 9 (
if ((z_i S v0 0)) = ((2 : Int32)) then
(z_rb ((1 : Int32)) S)
else
(z_chk S v0 9 (
if ((z_i S v0 0)) = ((3 : Int32)) then
(z_rb ((1 : Int32)) S)
else
(z_rb ((0 : Int32)) S))))
def f_X8_isOfReals : Nat → z_St → Option (Int32 × z_St) := z_op (b_X8_isOfReals)
theorem e_X8_isOfReals (v0 : Nat) (S : z_St) : f_X8_isOfReals v0 S = b_X8_isOfReals v0 S := congrFun (congrFun (z_op_eq (b_X8_isOfReals)) v0) S
def g_X8_isOfReals : z_G := .inl (fun as S => match as with
  | [.ref v0] => f_X8_isOfReals v0 S
  | _ => none)
def c_X8_isOfReals : List z_E := [
  (0, .aload_n 0, 1, .null, [], z_g0),
  (1, .getfield 9, 3, .null, [9, 0, 0], z_g0),
  (4, .iconst 2, 1, .int ((2 : Int32)), [], z_g0),
  (5, .if_icmp .eq 11, 3, .null, [16], z_g0),
  (8, .aload_n 0, 1, .null, [], z_g0),
  (9, .getfield 9, 3, .null, [9, 0, 0], z_g0),
  (12, .iconst 3, 1, .int ((3 : Int32)), [], z_g0),
  (13, .if_icmp .ne 7, 3, .null, [20], z_g0),
  (16, .iconst 1, 1, .int ((1 : Int32)), [], z_g0),
  (17, .goto 4, 3, .null, [21], z_g0),
  (20, .iconst 0, 1, .int ((0 : Int32)), [], z_g0),
  (21, .ireturn, 1, .null, [], z_g0)]
set_option maxRecDepth 100000 in
theorem r_X8_isOfReals (v0 : Nat) (S : z_St) : z_seg z_rZ (c_X8_isOfReals) [] (fun pc => fun _ _ _ => none) 15 (c_X8_isOfReals) [(0, .ref v0)] [] S = b_X8_isOfReals v0 S := rfl
def b_X8_setWhole (v0 : Nat) (v1 : Int32) (v2 : Int64) (S : z_St) : Option z_St :=
z_chk S v0 9 (
z_chk S v0 9 (
(f_X8_cellOfWhole ((z_i S v0 0)) v2 S).bind fun q1 =>
z_onV (va_rf (z_r S v0 1)) fun b2 =>
z_inb q1.2 b2 102 v1 (
let S3 := z_wl q1.2 b2 v1.toNatClampNeg q1.1
some S3)))
def f_X8_setWhole : Nat → Int32 → Int64 → z_St → Option z_St := z_op (b_X8_setWhole)
theorem e_X8_setWhole (v0 : Nat) (v1 : Int32) (v2 : Int64) (S : z_St) : f_X8_setWhole v0 v1 v2 S = b_X8_setWhole v0 v1 v2 S := congrFun (congrFun (congrFun (congrFun (z_op_eq (b_X8_setWhole)) v0) v1) v2) S
def g_X8_setWhole : z_G := .inr (.inr (.inr (fun as S => match as with
  | [.ref v0, .int v1, .long v2] => f_X8_setWhole v0 v1 v2 S
  | _ => none)))
def c_X8_setWhole : List z_E := [
  (0, .aload_n 0, 1, .null, [], z_g0),
  (1, .getfield 15, 3, .null, [9, 1, 3], z_g0),
  (4, .iload_n 1, 1, .null, [], z_g0),
  (5, .aload_n 0, 1, .null, [], z_g0),
  (6, .getfield 9, 3, .null, [9, 0, 0], z_g0),
  (9, .lload_n 2, 1, .null, [], z_g0),
  (10, .invokestatic 33, 3, .null, [0, 0, 0], g_X8_cellOfWhole),
  (13, .lastore, 1, .null, [], z_g0),
  (14, .return_, 1, .null, [], z_g0)]
set_option maxRecDepth 100000 in
theorem r_X8_setWhole (v0 : Nat) (v1 : Int32) (v2 : Int64) (S : z_St) : z_seg z_rV (c_X8_setWhole) [] (fun pc => fun _ _ _ => none) 12 (c_X8_setWhole) [(0, .ref v0), (1, .int v1), (2, .long v2)] [] S = b_X8_setWhole v0 v1 v2 S := rfl
def b_X8_realAt (v0 : Nat) (v1 : Int32) (S : z_St) : Option (Int64 × z_St) :=
z_chk S v0 9 (
(f_X8_isOfReals v0 S).bind fun q1 =>
if q1.1 = 0 then
(z_chk q1.2 v0 9 (
z_onV (va_rf (z_r q1.2 v0 1)) fun b2 =>
z_inb q1.2 b2 102 v1 (
(f_X11_bitsOf (FP.l2d ((z_l q1.2 b2 v1.toNatClampNeg))) q1.2).bind fun q3 =>
some (q3.1, q3.2))))
else
(z_chk q1.2 v0 9 (
z_onV (va_rf (z_r q1.2 v0 1)) fun b4 =>
z_inb q1.2 b4 102 v1 (
some ((z_l q1.2 b4 v1.toNatClampNeg), q1.2)))))
def f_X8_realAt : Nat → Int32 → z_St → Option (Int64 × z_St) := z_op (b_X8_realAt)
theorem e_X8_realAt (v0 : Nat) (v1 : Int32) (S : z_St) : f_X8_realAt v0 v1 S = b_X8_realAt v0 v1 S := congrFun (congrFun (congrFun (z_op_eq (b_X8_realAt)) v0) v1) S
def g_X8_realAt : z_G := .inr (.inl (fun as S => match as with
  | [.ref v0, .int v1] => f_X8_realAt v0 v1 S
  | _ => none))
def c_X8_realAt : List z_E := [
  (0, .aload_n 0, 1, .null, [], z_g0),
  (1, .invokevirtual 40, 3, .null, [1, 9], g_X8_isOfReals),
  (4, .ifCond .eq 12, 3, .null, [16], z_g0),
  (7, .aload_n 0, 1, .null, [], z_g0),
  (8, .getfield 15, 3, .null, [9, 1, 3], z_g0),
  (11, .iload_n 1, 1, .null, [], z_g0),
  (12, .laload, 1, .null, [], z_g0),
  (13, .goto 13, 3, .null, [26], z_g0),
  (16, .aload_n 0, 1, .null, [], z_g0),
  (17, .getfield 15, 3, .null, [9, 1, 3], z_g0),
  (20, .iload_n 1, 1, .null, [], z_g0),
  (21, .laload, 1, .null, [], z_g0),
  (22, .l2d, 1, .null, [], z_g0),
  (23, .invokestatic 19, 3, .null, [0, 0], g_X11_bitsOf),
  (26, .lreturn, 1, .null, [], z_g0)]
set_option maxRecDepth 100000 in
theorem r_X8_realAt (v0 : Nat) (v1 : Int32) (S : z_St) : z_seg z_rL (c_X8_realAt) [] (fun pc => fun _ _ _ => none) 18 (c_X8_realAt) [(0, .ref v0), (1, .int v1)] [] S = b_X8_realAt v0 v1 S := rfl
def l_X8_isLike_28 : Nat → Nat → Nat → Int32 → z_St → Option (Int32 × z_St)
  | 0 => fun _ _ _ _ => none
  | n + 1 => fun (v0 : Nat) (v1 : Nat) (v2 : Int32) (S : z_St) =>
z_chk S v0 9 (
z_onV (va_rf (z_r S v0 1)) fun b3 =>
z_chk S b3 102 (
if (Int32.ofNat (z_n S b3)) ≤ v2 then
(z_rb ((1 : Int32)) S)
else
(z_chk S v0 9 (
z_onV (va_rf (z_r S v0 1)) fun b4 =>
z_inb S b4 102 v2 (
z_chk S v1 9 (
z_onV (va_rf (z_r S v1 1)) fun b5 =>
z_inb S b5 102 v2 (
if (lg_cmp ((z_l S b4 v2.toNatClampNeg)) ((z_l S b5 v2.toNatClampNeg))) = 0 then
(let x6 := v2 + (1 : Int32)
l_X8_isLike_28 n v0 v1 x6 S)
else
(z_rb ((0 : Int32)) S))))))))
def b_X8_isLike (v0 : Nat) (v1 : Nat) (S : z_St) : Option (Int32 × z_St) :=
z_chk S v0 9 (
z_chk S v1 9 (
if ((z_i S v0 0)) = ((z_i S v1 0)) then
(z_chk S v0 9 (
z_onV (va_rf (z_r S v0 1)) fun b1 =>
z_chk S b1 102 (
z_chk S v1 9 (
z_onV (va_rf (z_r S v1 1)) fun b2 =>
z_chk S b2 102 (
if (Int32.ofNat (z_n S b1)) = (Int32.ofNat (z_n S b2)) then
(l_X8_isLike_28 z_N v0 v1 ((0 : Int32)) S)
else
(z_rb ((0 : Int32)) S))))))
else
(z_rb ((0 : Int32)) S)))
def f_X8_isLike : Nat → Nat → z_St → Option (Int32 × z_St) := z_op (b_X8_isLike)
theorem e_X8_isLike (v0 : Nat) (v1 : Nat) (S : z_St) : f_X8_isLike v0 v1 S = b_X8_isLike v0 v1 S := congrFun (congrFun (congrFun (z_op_eq (b_X8_isLike)) v0) v1) S
def g_X8_isLike : z_G := .inl (fun as S => match as with
  | [.ref v0, .ref v1] => f_X8_isLike v0 v1 S
  | _ => none)
def c_X8_isLike : List z_E := [
  (0, .aload_n 0, 1, .null, [], z_g0),
  (1, .getfield 9, 3, .null, [9, 0, 0], z_g0),
  (4, .aload_n 1, 1, .null, [], z_g0),
  (5, .getfield 9, 3, .null, [9, 0, 0], z_g0),
  (8, .if_icmp .ne 16, 3, .null, [24], z_g0),
  (11, .aload_n 0, 1, .null, [], z_g0),
  (12, .getfield 15, 3, .null, [9, 1, 3], z_g0),
  (15, .arraylength, 1, .null, [102], z_g0),
  (16, .aload_n 1, 1, .null, [], z_g0),
  (17, .getfield 15, 3, .null, [9, 1, 3], z_g0),
  (20, .arraylength, 1, .null, [102], z_g0),
  (21, .if_icmp .eq 5, 3, .null, [26], z_g0),
  (24, .iconst 0, 1, .int ((0 : Int32)), [], z_g0),
  (25, .ireturn, 1, .null, [], z_g0),
  (26, .iconst 0, 1, .int ((0 : Int32)), [], z_g0),
  (27, .istore_n 2, 1, .null, [], z_g0),
  (28, .iload_n 2, 1, .null, [], z_g0),
  (29, .aload_n 0, 1, .null, [], z_g0),
  (30, .getfield 15, 3, .null, [9, 1, 3], z_g0),
  (33, .arraylength, 1, .null, [102], z_g0),
  (34, .if_icmp .ge 27, 3, .null, [61], z_g0),
  (37, .aload_n 0, 1, .null, [], z_g0),
  (38, .getfield 15, 3, .null, [9, 1, 3], z_g0),
  (41, .iload_n 2, 1, .null, [], z_g0),
  (42, .laload, 1, .null, [], z_g0),
  (43, .aload_n 1, 1, .null, [], z_g0),
  (44, .getfield 15, 3, .null, [9, 1, 3], z_g0),
  (47, .iload_n 2, 1, .null, [], z_g0),
  (48, .laload, 1, .null, [], z_g0),
  (49, .lcmp, 1, .null, [], z_g0),
  (50, .ifCond .eq 5, 3, .null, [55], z_g0),
  (53, .iconst 0, 1, .int ((0 : Int32)), [], z_g0),
  (54, .ireturn, 1, .null, [], z_g0),
  (55, .iinc 2 1, 3, .int (1 : Int32), [], z_g0),
  (58, .goto (-30), 3, .null, [28], z_g0),
  (61, .iconst 1, 1, .int ((1 : Int32)), [], z_g0),
  (62, .ireturn, 1, .null, [], z_g0)]
def a_X8_isLike_28 {ρ : Type} (k : Nat → Nat → Int32 → z_St → Option ρ) (ls : z_Lv) (st : List Value) (S : z_St) : Option ρ := z_gR ls 0 fun v0 => z_gR ls 1 fun v1 => z_gI ls 2 fun v2 => z_p0 st (k v0 v1 v2 S)
set_option maxRecDepth 100000 in
theorem r_X8_isLike_28 (n : Nat) (v0 : Nat) (v1 : Nat) (v2 : Int32) (S : z_St) : z_seg z_rZ (c_X8_isLike) [28] (fun pc => cond (Nat.beq pc 28) (a_X8_isLike_28 (l_X8_isLike_28 n)) (fun _ _ _ => none)) 40 (z_to 28 (c_X8_isLike)) [(0, .ref v0), (1, .ref v1), (2, .int v2)] [] S = l_X8_isLike_28 (n + 1) v0 v1 v2 S := rfl
set_option maxRecDepth 100000 in
theorem r_X8_isLike (v0 : Nat) (v1 : Nat) (S : z_St) : z_seg z_rZ (c_X8_isLike) [28] (fun pc => cond (Nat.beq pc 28) (a_X8_isLike_28 (l_X8_isLike_28 z_N)) (fun _ _ _ => none)) 40 (c_X8_isLike) [(0, .ref v0), (1, .ref v1)] [] S = b_X8_isLike v0 v1 S := rfl
def l_X8_notZero_4 : Nat → Nat → Int32 → Int32 → z_St → Option (Int32 × z_St)
  | 0 => fun _ _ _ _ => none
  | n + 1 => fun (v0 : Nat) (v1 : Int32) (v2 : Int32) (S : z_St) =>
z_chk S v0 9 (
z_onV (va_rf (z_r S v0 1)) fun b1 =>
z_chk S b1 102 (
if (Int32.ofNat (z_n S b1)) ≤ v2 then
(some (v1, S))
else
(z_chk S v0 9 (
(f_X8_wholeAt v0 v2 S).bind fun q2 =>
if (lg_cmp q2.1 ((0 : Int64))) = 0 then
(let x3 := v2 + (1 : Int32)
l_X8_notZero_4 n v0 v1 x3 q2.2)
else
(let x4 := v1 + (1 : Int32)
let x5 := v2 + (1 : Int32)
l_X8_notZero_4 n v0 x4 x5 q2.2)))))
def b_X8_notZero (v0 : Nat) (S : z_St) : Option (Int32 × z_St) :=
l_X8_notZero_4 z_N v0 ((0 : Int32)) ((0 : Int32)) S
def f_X8_notZero : Nat → z_St → Option (Int32 × z_St) := z_op (b_X8_notZero)
theorem e_X8_notZero (v0 : Nat) (S : z_St) : f_X8_notZero v0 S = b_X8_notZero v0 S := congrFun (congrFun (z_op_eq (b_X8_notZero)) v0) S
def g_X8_notZero : z_G := .inl (fun as S => match as with
  | [.ref v0] => f_X8_notZero v0 S
  | _ => none)
def c_X8_notZero : List z_E := [
  (0, .iconst 0, 1, .int ((0 : Int32)), [], z_g0),
  (1, .istore_n 1, 1, .null, [], z_g0),
  (2, .iconst 0, 1, .int ((0 : Int32)), [], z_g0),
  (3, .istore_n 2, 1, .null, [], z_g0),
  (4, .iload_n 2, 1, .null, [], z_g0),
  (5, .aload_n 0, 1, .null, [], z_g0),
  (6, .getfield 15, 3, .null, [9, 1, 3], z_g0),
  (9, .arraylength, 1, .null, [102], z_g0),
  (10, .if_icmp .ge 22, 3, .null, [32], z_g0),
  (13, .aload_n 0, 1, .null, [], z_g0),
  (14, .iload_n 2, 1, .null, [], z_g0),
  (15, .invokevirtual 44, 3, .null, [1, 9, 0], g_X8_wholeAt),
  (18, .lconst 0, 1, .long (0 : Int64), [], z_g0),
  (19, .lcmp, 1, .null, [], z_g0),
  (20, .ifCond .eq 6, 3, .null, [26], z_g0),
  (23, .iinc 1 1, 3, .int (1 : Int32), [], z_g0),
  (26, .iinc 2 1, 3, .int (1 : Int32), [], z_g0),
  (29, .goto (-25), 3, .null, [4], z_g0),
  (32, .iload_n 1, 1, .null, [], z_g0),
  (33, .ireturn, 1, .null, [], z_g0)]
def a_X8_notZero_4 {ρ : Type} (k : Nat → Int32 → Int32 → z_St → Option ρ) (ls : z_Lv) (st : List Value) (S : z_St) : Option ρ := z_gR ls 0 fun v0 => z_gI ls 1 fun v1 => z_gI ls 2 fun v2 => z_p0 st (k v0 v1 v2 S)
set_option maxRecDepth 100000 in
theorem r_X8_notZero_4 (n : Nat) (v0 : Nat) (v1 : Int32) (v2 : Int32) (S : z_St) : z_seg z_rI (c_X8_notZero) [4] (fun pc => cond (Nat.beq pc 4) (a_X8_notZero_4 (l_X8_notZero_4 n)) (fun _ _ _ => none)) 23 (z_to 4 (c_X8_notZero)) [(0, .ref v0), (1, .int v1), (2, .int v2)] [] S = l_X8_notZero_4 (n + 1) v0 v1 v2 S := rfl
set_option maxRecDepth 100000 in
theorem r_X8_notZero (v0 : Nat) (S : z_St) : z_seg z_rI (c_X8_notZero) [4] (fun pc => cond (Nat.beq pc 4) (a_X8_notZero_4 (l_X8_notZero_4 z_N)) (fun _ _ _ => none)) 23 (c_X8_notZero) [(0, .ref v0)] [] S = b_X8_notZero v0 S := rfl
def l_X8_lastOf_8 : Nat → Nat → Int64 → Int32 → z_St → Option (Int32 × z_St)
  | 0 => fun _ _ _ _ => none
  | n + 1 => fun (v0 : Nat) (v1 : Int64) (v3 : Int32) (S : z_St) =>
if v3 < 0 then
(some ((-1 : Int32), S))
else
(z_chk S v0 9 (
(f_X8_wholeAt v0 v3 S).bind fun q3 =>
if (lg_cmp q3.1 v1) = 0 then
(some (v3, q3.2))
else
(let x4 := v3 + (-1 : Int32)
l_X8_lastOf_8 n v0 v1 x4 q3.2)))
def b_X8_lastOf (v0 : Nat) (v1 : Int64) (S : z_St) : Option (Int32 × z_St) :=
z_chk S v0 9 (
z_onV (va_rf (z_r S v0 1)) fun b1 =>
z_chk S b1 102 (
let x2 := (Int32.ofNat (z_n S b1)) - ((1 : Int32))
l_X8_lastOf_8 z_N v0 v1 x2 S))
def f_X8_lastOf : Nat → Int64 → z_St → Option (Int32 × z_St) := z_op (b_X8_lastOf)
theorem e_X8_lastOf (v0 : Nat) (v1 : Int64) (S : z_St) : f_X8_lastOf v0 v1 S = b_X8_lastOf v0 v1 S := congrFun (congrFun (congrFun (z_op_eq (b_X8_lastOf)) v0) v1) S
def g_X8_lastOf : z_G := .inl (fun as S => match as with
  | [.ref v0, .long v1] => f_X8_lastOf v0 v1 S
  | _ => none)
def c_X8_lastOf : List z_E := [
  (0, .aload_n 0, 1, .null, [], z_g0),
  (1, .getfield 15, 3, .null, [9, 1, 3], z_g0),
  (4, .arraylength, 1, .null, [102], z_g0),
  (5, .iconst 1, 1, .int ((1 : Int32)), [], z_g0),
  (6, .isub, 1, .null, [], z_g0),
  (7, .istore_n 3, 1, .null, [], z_g0),
  (8, .iload_n 3, 1, .null, [], z_g0),
  (9, .ifCond .lt 21, 3, .null, [30], z_g0),
  (12, .aload_n 0, 1, .null, [], z_g0),
  (13, .iload_n 3, 1, .null, [], z_g0),
  (14, .invokevirtual 44, 3, .null, [1, 9, 0], g_X8_wholeAt),
  (17, .lload_n 1, 1, .null, [], z_g0),
  (18, .lcmp, 1, .null, [], z_g0),
  (19, .ifCond .ne 5, 3, .null, [24], z_g0),
  (22, .iload_n 3, 1, .null, [], z_g0),
  (23, .ireturn, 1, .null, [], z_g0),
  (24, .iinc 3 (-1), 3, .int (-1 : Int32), [], z_g0),
  (27, .goto (-19), 3, .null, [8], z_g0),
  (30, .iconst (-1), 1, .int ((-1 : Int32)), [], z_g0),
  (31, .ireturn, 1, .null, [], z_g0)]
def a_X8_lastOf_8 {ρ : Type} (k : Nat → Int64 → Int32 → z_St → Option ρ) (ls : z_Lv) (st : List Value) (S : z_St) : Option ρ := z_gR ls 0 fun v0 => z_gJ ls 1 fun v1 => z_gI ls 3 fun v3 => z_p0 st (k v0 v1 v3 S)
set_option maxRecDepth 100000 in
theorem r_X8_lastOf_8 (n : Nat) (v0 : Nat) (v1 : Int64) (v3 : Int32) (S : z_St) : z_seg z_rI (c_X8_lastOf) [8] (fun pc => cond (Nat.beq pc 8) (a_X8_lastOf_8 (l_X8_lastOf_8 n)) (fun _ _ _ => none)) 23 (z_to 8 (c_X8_lastOf)) [(0, .ref v0), (1, .long v1), (3, .int v3)] [] S = l_X8_lastOf_8 (n + 1) v0 v1 v3 S := rfl
set_option maxRecDepth 100000 in
theorem r_X8_lastOf (v0 : Nat) (v1 : Int64) (S : z_St) : z_seg z_rI (c_X8_lastOf) [8] (fun pc => cond (Nat.beq pc 8) (a_X8_lastOf_8 (l_X8_lastOf_8 z_N)) (fun _ _ _ => none)) 23 (c_X8_lastOf) [(0, .ref v0), (1, .long v1)] [] S = b_X8_lastOf v0 v1 S := rfl
def l_X8_wholesTogether_4 : Nat → Nat → Int64 → Int32 → z_St → Option (Int64 × z_St)
  | 0 => fun _ _ _ _ => none
  | n + 1 => fun (v0 : Nat) (v1 : Int64) (v3 : Int32) (S : z_St) =>
z_chk S v0 9 (
z_onV (va_rf (z_r S v0 1)) fun b1 =>
z_chk S b1 102 (
if (Int32.ofNat (z_n S b1)) ≤ v3 then
(some (v1, S))
else
(z_chk S v0 9 (
(f_X8_wholeAt v0 v3 S).bind fun q2 =>
let x3 := v1 + q2.1
let x4 := v3 + (1 : Int32)
l_X8_wholesTogether_4 n v0 x3 x4 q2.2))))
def b_X8_wholesTogether (v0 : Nat) (S : z_St) : Option (Int64 × z_St) :=
l_X8_wholesTogether_4 z_N v0 ((0 : Int64)) ((0 : Int32)) S
def f_X8_wholesTogether : Nat → z_St → Option (Int64 × z_St) := z_op (b_X8_wholesTogether)
theorem e_X8_wholesTogether (v0 : Nat) (S : z_St) : f_X8_wholesTogether v0 S = b_X8_wholesTogether v0 S := congrFun (congrFun (z_op_eq (b_X8_wholesTogether)) v0) S
def g_X8_wholesTogether : z_G := .inr (.inl (fun as S => match as with
  | [.ref v0] => f_X8_wholesTogether v0 S
  | _ => none))
def c_X8_wholesTogether : List z_E := [
  (0, .lconst 0, 1, .long (0 : Int64), [], z_g0),
  (1, .lstore_n 1, 1, .null, [], z_g0),
  (2, .iconst 0, 1, .int ((0 : Int32)), [], z_g0),
  (3, .istore_n 3, 1, .null, [], z_g0),
  (4, .iload_n 3, 1, .null, [], z_g0),
  (5, .aload_n 0, 1, .null, [], z_g0),
  (6, .getfield 15, 3, .null, [9, 1, 3], z_g0),
  (9, .arraylength, 1, .null, [102], z_g0),
  (10, .if_icmp .ge 17, 3, .null, [27], z_g0),
  (13, .lload_n 1, 1, .null, [], z_g0),
  (14, .aload_n 0, 1, .null, [], z_g0),
  (15, .iload_n 3, 1, .null, [], z_g0),
  (16, .invokevirtual 44, 3, .null, [1, 9, 0], g_X8_wholeAt),
  (19, .ladd, 1, .null, [], z_g0),
  (20, .lstore_n 1, 1, .null, [], z_g0),
  (21, .iinc 3 1, 3, .int (1 : Int32), [], z_g0),
  (24, .goto (-20), 3, .null, [4], z_g0),
  (27, .lload_n 1, 1, .null, [], z_g0),
  (28, .lreturn, 1, .null, [], z_g0)]
def a_X8_wholesTogether_4 {ρ : Type} (k : Nat → Int64 → Int32 → z_St → Option ρ) (ls : z_Lv) (st : List Value) (S : z_St) : Option ρ := z_gR ls 0 fun v0 => z_gJ ls 1 fun v1 => z_gI ls 3 fun v3 => z_p0 st (k v0 v1 v3 S)
set_option maxRecDepth 100000 in
theorem r_X8_wholesTogether_4 (n : Nat) (v0 : Nat) (v1 : Int64) (v3 : Int32) (S : z_St) : z_seg z_rL (c_X8_wholesTogether) [4] (fun pc => cond (Nat.beq pc 4) (a_X8_wholesTogether_4 (l_X8_wholesTogether_4 n)) (fun _ _ _ => none)) 22 (z_to 4 (c_X8_wholesTogether)) [(0, .ref v0), (1, .long v1), (3, .int v3)] [] S = l_X8_wholesTogether_4 (n + 1) v0 v1 v3 S := rfl
set_option maxRecDepth 100000 in
theorem r_X8_wholesTogether (v0 : Nat) (S : z_St) : z_seg z_rL (c_X8_wholesTogether) [4] (fun pc => cond (Nat.beq pc 4) (a_X8_wholesTogether_4 (l_X8_wholesTogether_4 z_N)) (fun _ _ _ => none)) 22 (c_X8_wholesTogether) [(0, .ref v0)] [] S = b_X8_wholesTogether v0 S := rfl
def l_X8_numberCount_4 : Nat → Nat → Int32 → Int32 → z_St → Option (Int32 × z_St)
  | 0 => fun _ _ _ _ => none
  | n + 1 => fun (v0 : Nat) (v1 : Int32) (v2 : Int32) (S : z_St) =>
z_chk S v0 9 (
z_onV (va_rf (z_r S v0 1)) fun b1 =>
z_chk S b1 102 (
if (Int32.ofNat (z_n S b1)) ≤ v2 then
(some (v1, S))
else
(z_chk S v0 9 (
z_onV (va_rf (z_r S v0 1)) fun b2 =>
z_inb S b2 102 v2 (
(f_X11_noNumber ((z_l S b2 v2.toNatClampNeg)) S).bind fun q3 =>
if q3.1 = 0 then
(let x5 := v1 + (1 : Int32)
let x6 := v2 + (1 : Int32)
l_X8_numberCount_4 n v0 x5 x6 q3.2)
else
(let x4 := v2 + (1 : Int32)
l_X8_numberCount_4 n v0 v1 x4 q3.2))))))
def b_X8_numberCount (v0 : Nat) (S : z_St) : Option (Int32 × z_St) :=
l_X8_numberCount_4 z_N v0 ((0 : Int32)) ((0 : Int32)) S
def f_X8_numberCount : Nat → z_St → Option (Int32 × z_St) := z_op (b_X8_numberCount)
theorem e_X8_numberCount (v0 : Nat) (S : z_St) : f_X8_numberCount v0 S = b_X8_numberCount v0 S := congrFun (congrFun (z_op_eq (b_X8_numberCount)) v0) S
def g_X8_numberCount : z_G := .inl (fun as S => match as with
  | [.ref v0] => f_X8_numberCount v0 S
  | _ => none)
def c_X8_numberCount : List z_E := [
  (0, .iconst 0, 1, .int ((0 : Int32)), [], z_g0),
  (1, .istore_n 1, 1, .null, [], z_g0),
  (2, .iconst 0, 1, .int ((0 : Int32)), [], z_g0),
  (3, .istore_n 2, 1, .null, [], z_g0),
  (4, .iload_n 2, 1, .null, [], z_g0),
  (5, .aload_n 0, 1, .null, [], z_g0),
  (6, .getfield 15, 3, .null, [9, 1, 3], z_g0),
  (9, .arraylength, 1, .null, [102], z_g0),
  (10, .if_icmp .ge 24, 3, .null, [34], z_g0),
  (13, .aload_n 0, 1, .null, [], z_g0),
  (14, .getfield 15, 3, .null, [9, 1, 3], z_g0),
  (17, .iload_n 2, 1, .null, [], z_g0),
  (18, .laload, 1, .null, [], z_g0),
  (19, .invokestatic 23, 3, .null, [0, 0], g_X11_noNumber),
  (22, .ifCond .ne 6, 3, .null, [28], z_g0),
  (25, .iinc 1 1, 3, .int (1 : Int32), [], z_g0),
  (28, .iinc 2 1, 3, .int (1 : Int32), [], z_g0),
  (31, .goto (-27), 3, .null, [4], z_g0),
  (34, .iload_n 1, 1, .null, [], z_g0),
  (35, .ireturn, 1, .null, [], z_g0)]
def a_X8_numberCount_4 {ρ : Type} (k : Nat → Int32 → Int32 → z_St → Option ρ) (ls : z_Lv) (st : List Value) (S : z_St) : Option ρ := z_gR ls 0 fun v0 => z_gI ls 1 fun v1 => z_gI ls 2 fun v2 => z_p0 st (k v0 v1 v2 S)
set_option maxRecDepth 100000 in
theorem r_X8_numberCount_4 (n : Nat) (v0 : Nat) (v1 : Int32) (v2 : Int32) (S : z_St) : z_seg z_rI (c_X8_numberCount) [4] (fun pc => cond (Nat.beq pc 4) (a_X8_numberCount_4 (l_X8_numberCount_4 n)) (fun _ _ _ => none)) 23 (z_to 4 (c_X8_numberCount)) [(0, .ref v0), (1, .int v1), (2, .int v2)] [] S = l_X8_numberCount_4 (n + 1) v0 v1 v2 S := rfl
set_option maxRecDepth 100000 in
theorem r_X8_numberCount (v0 : Nat) (S : z_St) : z_seg z_rI (c_X8_numberCount) [4] (fun pc => cond (Nat.beq pc 4) (a_X8_numberCount_4 (l_X8_numberCount_4 z_N)) (fun _ _ _ => none)) 23 (c_X8_numberCount) [(0, .ref v0)] [] S = b_X8_numberCount v0 S := rfl
def j_X8_outermost_86 (k_7 : Nat → Int32 → Int64 → Int32 → z_St → Option (Int64 × z_St)) (v0 : Nat) (v1 : Int32) (v2 : Int64) (v4 : Int32) (t0 : Int32) (S : z_St) : Option (Int64 × z_St) :=
(f_X11_noNumber v2 S).bind fun q11 =>
if q11.1 = 0 then
(if t0 = 0 then
(let x15 := v4 + (1 : Int32)
k_7 v0 v1 v2 x15 q11.2)
else
(z_chk q11.2 v0 9 (
z_onV (va_rf (z_r q11.2 v0 1)) fun b16 =>
z_inb q11.2 b16 102 v4 (
let x17 := (z_l q11.2 b16 v4.toNatClampNeg)
let x18 := v4 + (1 : Int32)
k_7 v0 v1 x17 x18 q11.2))))
else
(z_chk q11.2 v0 9 (
z_onV (va_rf (z_r q11.2 v0 1)) fun b12 =>
z_inb q11.2 b12 102 v4 (
let x13 := (z_l q11.2 b12 v4.toNatClampNeg)
let x14 := v4 + (1 : Int32)
k_7 v0 v1 x13 x14 q11.2)))
def l_X8_outermost_7 : Nat → Nat → Int32 → Int64 → Int32 → z_St → Option (Int64 × z_St)
  | 0 => fun _ _ _ _ _ => none
  | n + 1 => fun (v0 : Nat) (v1 : Int32) (v2 : Int64) (v4 : Int32) (S : z_St) =>
z_chk S v0 9 (
z_onV (va_rf (z_r S v0 1)) fun b1 =>
z_chk S b1 102 (
if (Int32.ofNat (z_n S b1)) ≤ v4 then
(some (v2, S))
else
(z_chk S v0 9 (
z_onV (va_rf (z_r S v0 1)) fun b2 =>
z_inb S b2 102 v4 (
(f_X11_noNumber ((z_l S b2 v4.toNatClampNeg)) S).bind fun q3 =>
if q3.1 = 0 then
(if v1 = 0 then
(z_chk q3.2 v0 9 (
z_onV (va_rf (z_r q3.2 v0 1)) fun b4 =>
z_inb q3.2 b4 102 v4 (
(f_X11_rankOf ((z_l q3.2 b4 v4.toNatClampNeg)) q3.2).bind fun q5 =>
(f_X11_rankOf v2 q5.2).bind fun q6 =>
if 0 ≤ (lg_cmp q5.1 q6.1) then
(j_X8_outermost_86 (l_X8_outermost_7 n) v0 v1 v2 v4 ((0 : Int32)) q6.2)
else
(j_X8_outermost_86 (l_X8_outermost_7 n) v0 v1 v2 v4 ((1 : Int32)) q6.2))))
else
(z_chk q3.2 v0 9 (
z_onV (va_rf (z_r q3.2 v0 1)) fun b7 =>
z_inb q3.2 b7 102 v4 (
(f_X11_rankOf ((z_l q3.2 b7 v4.toNatClampNeg)) q3.2).bind fun q8 =>
(f_X11_rankOf v2 q8.2).bind fun q9 =>
if (lg_cmp q8.1 q9.1) ≤ 0 then
(j_X8_outermost_86 (l_X8_outermost_7 n) v0 v1 v2 v4 ((0 : Int32)) q9.2)
else
(j_X8_outermost_86 (l_X8_outermost_7 n) v0 v1 v2 v4 ((1 : Int32)) q9.2)))))
else
(let x10 := v4 + (1 : Int32)
l_X8_outermost_7 n v0 v1 v2 x10 q3.2))))))
def b_X8_outermost (v0 : Nat) (v1 : Int32) (S : z_St) : Option (Int64 × z_St) :=
l_X8_outermost_7 z_N v0 v1 ((9221120237041090560 : Int64)) ((0 : Int32)) S
def f_X8_outermost : Nat → Int32 → z_St → Option (Int64 × z_St) := z_op (b_X8_outermost)
theorem e_X8_outermost (v0 : Nat) (v1 : Int32) (S : z_St) : f_X8_outermost v0 v1 S = b_X8_outermost v0 v1 S := congrFun (congrFun (congrFun (z_op_eq (b_X8_outermost)) v0) v1) S
def g_X8_outermost : z_G := .inr (.inl (fun as S => match as with
  | [.ref v0, .int v1] => f_X8_outermost v0 v1 S
  | _ => none))
def c_X8_outermost : List z_E := [
  (0, .ldc2_w 27, 3, .long (9221120237041090560 : Int64), [], z_g0),
  (3, .lstore_n 2, 1, .null, [], z_g0),
  (4, .iconst 0, 1, .int ((0 : Int32)), [], z_g0),
  (5, .istore 4, 2, .null, [], z_g0),
  (7, .iload 4, 2, .null, [], z_g0),
  (9, .aload_n 0, 1, .null, [], z_g0),
  (10, .getfield 15, 3, .null, [9, 1, 3], z_g0),
  (13, .arraylength, 1, .null, [102], z_g0),
  (14, .if_icmp .ge 100, 3, .null, [114], z_g0),
  (17, .aload_n 0, 1, .null, [], z_g0),
  (18, .getfield 15, 3, .null, [9, 1, 3], z_g0),
  (21, .iload 4, 2, .null, [], z_g0),
  (23, .laload, 1, .null, [], z_g0),
  (24, .invokestatic 23, 3, .null, [0, 0], g_X11_noNumber),
  (27, .ifCond .eq 6, 3, .null, [33], z_g0),
  (30, .goto 78, 3, .null, [108], z_g0),
  (33, .iload_n 1, 1, .null, [], z_g0),
  (34, .ifCond .eq 29, 3, .null, [63], z_g0),
  (37, .aload_n 0, 1, .null, [], z_g0),
  (38, .getfield 15, 3, .null, [9, 1, 3], z_g0),
  (41, .iload 4, 2, .null, [], z_g0),
  (43, .laload, 1, .null, [], z_g0),
  (44, .invokestatic 62, 3, .null, [0, 0], g_X11_rankOf),
  (47, .lload_n 2, 1, .null, [], z_g0),
  (48, .invokestatic 62, 3, .null, [0, 0], g_X11_rankOf),
  (51, .lcmp, 1, .null, [], z_g0),
  (52, .ifCond .le 7, 3, .null, [59], z_g0),
  (55, .iconst 1, 1, .int ((1 : Int32)), [], z_g0),
  (56, .goto 30, 3, .null, [86], z_g0),
  (59, .iconst 0, 1, .int ((0 : Int32)), [], z_g0),
  (60, .goto 26, 3, .null, [86], z_g0),
  (63, .aload_n 0, 1, .null, [], z_g0),
  (64, .getfield 15, 3, .null, [9, 1, 3], z_g0),
  (67, .iload 4, 2, .null, [], z_g0),
  (69, .laload, 1, .null, [], z_g0),
  (70, .invokestatic 62, 3, .null, [0, 0], g_X11_rankOf),
  (73, .lload_n 2, 1, .null, [], z_g0),
  (74, .invokestatic 62, 3, .null, [0, 0], g_X11_rankOf),
  (77, .lcmp, 1, .null, [], z_g0),
  (78, .ifCond .ge 7, 3, .null, [85], z_g0),
  (81, .iconst 1, 1, .int ((1 : Int32)), [], z_g0),
  (82, .goto 4, 3, .null, [86], z_g0),
  (85, .iconst 0, 1, .int ((0 : Int32)), [], z_g0),
  (86, .istore 5, 2, .null, [], z_g0),
  (88, .lload_n 2, 1, .null, [], z_g0),
  (89, .invokestatic 23, 3, .null, [0, 0], g_X11_noNumber),
  (92, .ifCond .ne 8, 3, .null, [100], z_g0),
  (95, .iload 5, 2, .null, [], z_g0),
  (97, .ifCond .eq 11, 3, .null, [108], z_g0),
  (100, .aload_n 0, 1, .null, [], z_g0),
  (101, .getfield 15, 3, .null, [9, 1, 3], z_g0),
  (104, .iload 4, 2, .null, [], z_g0),
  (106, .laload, 1, .null, [], z_g0),
  (107, .lstore_n 2, 1, .null, [], z_g0),
  (108, .iinc 4 1, 3, .int (1 : Int32), [], z_g0),
  (111, .goto (-104), 3, .null, [7], z_g0),
  (114, .lload_n 2, 1, .null, [], z_g0),
  (115, .lreturn, 1, .null, [], z_g0)]
def a_X8_outermost_7 {ρ : Type} (k : Nat → Int32 → Int64 → Int32 → z_St → Option ρ) (ls : z_Lv) (st : List Value) (S : z_St) : Option ρ := z_gR ls 0 fun v0 => z_gI ls 1 fun v1 => z_gJ ls 2 fun v2 => z_gI ls 4 fun v4 => z_p0 st (k v0 v1 v2 v4 S)
def a_X8_outermost_86 {ρ : Type} (k : Nat → Int32 → Int64 → Int32 → Int32 → z_St → Option ρ) (ls : z_Lv) (st : List Value) (S : z_St) : Option ρ := z_gR ls 0 fun v0 => z_gI ls 1 fun v1 => z_gJ ls 2 fun v2 => z_gI ls 4 fun v4 => z_pI st fun t0 s0 => z_p0 s0 (k v0 v1 v2 v4 t0 S)
set_option maxRecDepth 100000 in
theorem r_X8_outermost_86 (k_7 : Nat → Int32 → Int64 → Int32 → z_St → Option (Int64 × z_St)) (v0 : Nat) (v1 : Int32) (v2 : Int64) (v4 : Int32) (t0 : Int32) (S : z_St) : z_seg z_rL (c_X8_outermost) [7, 86] (fun pc => cond (Nat.beq pc 7) (a_X8_outermost_7 k_7) (fun _ _ _ => none)) 61 (z_to 86 (c_X8_outermost)) [(0, .ref v0), (1, .int v1), (2, .long v2), (4, .int v4)] [.int t0] S = j_X8_outermost_86 k_7 v0 v1 v2 v4 t0 S := rfl
set_option maxRecDepth 100000 in
theorem r_X8_outermost_7 (n : Nat) (v0 : Nat) (v1 : Int32) (v2 : Int64) (v4 : Int32) (S : z_St) : z_seg z_rL (c_X8_outermost) [7, 86] (fun pc => cond (Nat.beq pc 7) (a_X8_outermost_7 (l_X8_outermost_7 n)) (cond (Nat.beq pc 86) (a_X8_outermost_86 (j_X8_outermost_86 (l_X8_outermost_7 n))) (fun _ _ _ => none))) 61 (z_to 7 (c_X8_outermost)) [(0, .ref v0), (1, .int v1), (2, .long v2), (4, .int v4)] [] S = l_X8_outermost_7 (n + 1) v0 v1 v2 v4 S := rfl
set_option maxRecDepth 100000 in
theorem r_X8_outermost (v0 : Nat) (v1 : Int32) (S : z_St) : z_seg z_rL (c_X8_outermost) [7, 86] (fun pc => cond (Nat.beq pc 7) (a_X8_outermost_7 (l_X8_outermost_7 z_N)) (fun _ _ _ => none)) 61 (c_X8_outermost) [(0, .ref v0), (1, .int v1)] [] S = b_X8_outermost v0 v1 S := rfl
def j_X8_meanOfNumbers_72 (k_5 : Nat → Int32 → UInt64 → Int32 → z_St → Option (Int64 × z_St)) (v0 : Nat) (v1 : Int32) (v2 : UInt64) (v4 : Int32) (S : z_St) : Option (Int64 × z_St) :=
z_chk S v0 9 (
z_onV (va_rf (z_r S v0 1)) fun b9 =>
z_inb S b9 102 v4 (
(f_X11_realOf ((z_l S b9 v4.toNatClampNeg)) S).bind fun q10 =>
z_nn (FP.dadd v2 q10.1) (
let x11 := FP.dadd v2 q10.1
let x12 := v4 + (1 : Int32)
k_5 v0 v1 x11 x12 q10.2)))
def l_X8_meanOfNumbers_5 : Nat → Nat → Int32 → UInt64 → Int32 → z_St → Option (Int64 × z_St)
  | 0 => fun _ _ _ _ _ => none
  | n + 1 => fun (v0 : Nat) (v1 : Int32) (v2 : UInt64) (v4 : Int32) (S : z_St) =>
z_chk S v0 9 (
z_onV (va_rf (z_r S v0 1)) fun b1 =>
z_chk S b1 102 (
if (Int32.ofNat (z_n S b1)) ≤ v4 then
(if v1 = 0 then
(some ((9221120237041090560 : Int64), S))
else
(z_nn (FP.ddiv v2 (FP.i2d v1)) (
(f_X11_bitsOf (FP.ddiv v2 (FP.i2d v1)) S).bind fun q2 =>
some (q2.1, q2.2))))
else
(z_chk S v0 9 (
z_onV (va_rf (z_r S v0 1)) fun b3 =>
z_inb S b3 102 v4 (
(f_X11_noNumber ((z_l S b3 v4.toNatClampNeg)) S).bind fun q4 =>
if q4.1 = 0 then
((f_X11_bitsOf v2 q4.2).bind fun q5 =>
z_chk q5.2 v0 9 (
z_onV (va_rf (z_r q5.2 v0 1)) fun b6 =>
z_inb q5.2 b6 102 v4 (
if (lg_cmp (q5.1 ^^^ ((z_l q5.2 b6 v4.toNatClampNeg))) ((-9223372036854775808 : Int64))) = 0 then
(z_chk q5.2 v0 9 (
z_onV (va_rf (z_r q5.2 v0 1)) fun b7 =>
z_inb q5.2 b7 102 v4 (
if (lg_cmp (((z_l q5.2 b7 v4.toNatClampNeg)) &&& ((9223372036854775807 : Int64))) ((9218868437227405312 : Int64))) = 0 then
(some ((9221120237041090560 : Int64), q5.2))
else
(j_X8_meanOfNumbers_72 (l_X8_meanOfNumbers_5 n) v0 v1 v2 v4 q5.2))))
else
(j_X8_meanOfNumbers_72 (l_X8_meanOfNumbers_5 n) v0 v1 v2 v4 q5.2))))
else
(let x8 := v4 + (1 : Int32)
l_X8_meanOfNumbers_5 n v0 v1 v2 x8 q4.2))))))
def b_X8_meanOfNumbers (v0 : Nat) (v1 : Int32) (S : z_St) : Option (Int64 × z_St) :=
l_X8_meanOfNumbers_5 z_N v0 v1 FP.dconst0 ((0 : Int32)) S
def f_X8_meanOfNumbers : Nat → Int32 → z_St → Option (Int64 × z_St) := z_op (b_X8_meanOfNumbers)
theorem e_X8_meanOfNumbers (v0 : Nat) (v1 : Int32) (S : z_St) : f_X8_meanOfNumbers v0 v1 S = b_X8_meanOfNumbers v0 v1 S := congrFun (congrFun (congrFun (z_op_eq (b_X8_meanOfNumbers)) v0) v1) S
def g_X8_meanOfNumbers : z_G := .inr (.inl (fun as S => match as with
  | [.ref v0, .int v1] => f_X8_meanOfNumbers v0 v1 S
  | _ => none))
def c_X8_meanOfNumbers : List z_E := [
  (0, .dconst 0, 1, .double FP.dconst0, [], z_g0),
  (1, .dstore_n 2, 1, .null, [], z_g0),
  (2, .iconst 0, 1, .int ((0 : Int32)), [], z_g0),
  (3, .istore 4, 2, .null, [], z_g0),
  (5, .iload 4, 2, .null, [], z_g0),
  (7, .aload_n 0, 1, .null, [], z_g0),
  (8, .getfield 15, 3, .null, [9, 1, 3], z_g0),
  (11, .arraylength, 1, .null, [102], z_g0),
  (12, .if_icmp .ge 79, 3, .null, [91], z_g0),
  (15, .aload_n 0, 1, .null, [], z_g0),
  (16, .getfield 15, 3, .null, [9, 1, 3], z_g0),
  (19, .iload 4, 2, .null, [], z_g0),
  (21, .laload, 1, .null, [], z_g0),
  (22, .invokestatic 23, 3, .null, [0, 0], g_X11_noNumber),
  (25, .ifCond .eq 6, 3, .null, [31], z_g0),
  (28, .goto 57, 3, .null, [85], z_g0),
  (31, .dload_n 2, 1, .null, [], z_g0),
  (32, .invokestatic 19, 3, .null, [0, 0], g_X11_bitsOf),
  (35, .aload_n 0, 1, .null, [], z_g0),
  (36, .getfield 15, 3, .null, [9, 1, 3], z_g0),
  (39, .iload 4, 2, .null, [], z_g0),
  (41, .laload, 1, .null, [], z_g0),
  (42, .lxor, 1, .null, [], z_g0),
  (43, .ldc2_w 68, 3, .long (-9223372036854775808 : Int64), [], z_g0),
  (46, .lcmp, 1, .null, [], z_g0),
  (47, .ifCond .ne 25, 3, .null, [72], z_g0),
  (50, .aload_n 0, 1, .null, [], z_g0),
  (51, .getfield 15, 3, .null, [9, 1, 3], z_g0),
  (54, .iload 4, 2, .null, [], z_g0),
  (56, .laload, 1, .null, [], z_g0),
  (57, .ldc2_w 70, 3, .long (9223372036854775807 : Int64), [], z_g0),
  (60, .land, 1, .null, [], z_g0),
  (61, .ldc2_w 72, 3, .long (9218868437227405312 : Int64), [], z_g0),
  (64, .lcmp, 1, .null, [], z_g0),
  (65, .ifCond .ne 7, 3, .null, [72], z_g0),
  (68, .ldc2_w 27, 3, .long (9221120237041090560 : Int64), [], z_g0),
  (71, .lreturn, 1, .null, [], z_g0),
  (72, .dload_n 2, 1, .null, [], z_g0),
  (73, .aload_n 0, 1, .null, [], z_g0),
  (74, .getfield 15, 3, .null, [9, 1, 3], z_g0),
  (77, .iload 4, 2, .null, [], z_g0),
  (79, .laload, 1, .null, [], z_g0),
  (80, .invokestatic 29, 3, .null, [0, 0], g_X11_realOf),
  (83, .dadd, 1, .null, [], z_g0),
  (84, .dstore_n 2, 1, .null, [], z_g0),
  (85, .iinc 4 1, 3, .int (1 : Int32), [], z_g0),
  (88, .goto (-83), 3, .null, [5], z_g0),
  (91, .iload_n 1, 1, .null, [], z_g0),
  (92, .ifCond .ne 9, 3, .null, [101], z_g0),
  (95, .ldc2_w 27, 3, .long (9221120237041090560 : Int64), [], z_g0),
  (98, .goto 10, 3, .null, [108], z_g0),
  (101, .dload_n 2, 1, .null, [], z_g0),
  (102, .iload_n 1, 1, .null, [], z_g0),
  (103, .i2d, 1, .null, [], z_g0),
  (104, .ddiv, 1, .null, [], z_g0),
  (105, .invokestatic 19, 3, .null, [0, 0], g_X11_bitsOf),
  (108, .lreturn, 1, .null, [], z_g0)]
def a_X8_meanOfNumbers_5 {ρ : Type} (k : Nat → Int32 → UInt64 → Int32 → z_St → Option ρ) (ls : z_Lv) (st : List Value) (S : z_St) : Option ρ := z_gR ls 0 fun v0 => z_gI ls 1 fun v1 => z_gD ls 2 fun v2 => z_gI ls 4 fun v4 => z_p0 st (k v0 v1 v2 v4 S)
def a_X8_meanOfNumbers_72 {ρ : Type} (k : Nat → Int32 → UInt64 → Int32 → z_St → Option ρ) (ls : z_Lv) (st : List Value) (S : z_St) : Option ρ := z_gR ls 0 fun v0 => z_gI ls 1 fun v1 => z_gD ls 2 fun v2 => z_gI ls 4 fun v4 => z_p0 st (k v0 v1 v2 v4 S)
set_option maxRecDepth 100000 in
theorem r_X8_meanOfNumbers_72 (k_5 : Nat → Int32 → UInt64 → Int32 → z_St → Option (Int64 × z_St)) (v0 : Nat) (v1 : Int32) (v2 : UInt64) (v4 : Int32) (S : z_St) : z_seg z_rL (c_X8_meanOfNumbers) [5, 72] (fun pc => cond (Nat.beq pc 5) (a_X8_meanOfNumbers_5 k_5) (fun _ _ _ => none)) 60 (z_to 72 (c_X8_meanOfNumbers)) [(0, .ref v0), (1, .int v1), (2, .double v2), (4, .int v4)] [] S = j_X8_meanOfNumbers_72 k_5 v0 v1 v2 v4 S := rfl
set_option maxRecDepth 100000 in
theorem r_X8_meanOfNumbers_5 (n : Nat) (v0 : Nat) (v1 : Int32) (v2 : UInt64) (v4 : Int32) (S : z_St) : z_seg z_rL (c_X8_meanOfNumbers) [5, 72] (fun pc => cond (Nat.beq pc 5) (a_X8_meanOfNumbers_5 (l_X8_meanOfNumbers_5 n)) (cond (Nat.beq pc 72) (a_X8_meanOfNumbers_72 (j_X8_meanOfNumbers_72 (l_X8_meanOfNumbers_5 n))) (fun _ _ _ => none))) 60 (z_to 5 (c_X8_meanOfNumbers)) [(0, .ref v0), (1, .int v1), (2, .double v2), (4, .int v4)] [] S = l_X8_meanOfNumbers_5 (n + 1) v0 v1 v2 v4 S := rfl
set_option maxRecDepth 100000 in
theorem r_X8_meanOfNumbers (v0 : Nat) (v1 : Int32) (S : z_St) : z_seg z_rL (c_X8_meanOfNumbers) [5, 72] (fun pc => cond (Nat.beq pc 5) (a_X8_meanOfNumbers_5 (l_X8_meanOfNumbers_5 z_N)) (fun _ _ _ => none)) 60 (c_X8_meanOfNumbers) [(0, .ref v0), (1, .int v1)] [] S = b_X8_meanOfNumbers v0 v1 S := rfl
end
