noncomputable section
def l_X12_ring_55 : Nat → Nat → Int32 → z_St → Option (Int32 × z_St)
  | 0 => fun _ _ _ => none
  | n + 1 => fun (v0 : Nat) (v2 : Int32) (S : z_St) =>
if v2 = ((-1 : Int32)) then
(some (v2, S))
else
(z_chk S v0 13 (
z_onV (va_rf (z_r S v0 27)) fun b8 =>
z_inb S b8 104 v2 (
if ((z_i S b8 v2.toNatClampNeg)) = 0 then
(z_chk S v0 13 (
z_onV (va_rf (z_r S v0 27)) fun b9 =>
z_inb S b9 104 v2 (
let S10 := z_wi S b9 v2.toNatClampNeg (vp_nar .boolean ((1 : Int32)))
z_chk S10 v0 13 (
z_onV (va_rf (z_r S10 v0 25)) fun b11 =>
z_inb S10 b11 101 v2 (
let x12 := (z_i S10 b11 v2.toNatClampNeg)
l_X12_ring_55 n v0 x12 S10)))))
else
(some (v2, S)))))
def l_X12_ring_34 : Nat → Nat → Int32 → Int32 → z_St → Option (Int32 × z_St)
  | 0 => fun _ _ _ _ => none
  | n + 1 => fun (v0 : Nat) (v1 : Int32) (v2 : Int32) (S : z_St) =>
if ((20 : Int32)) ≤ v2 then
(l_X12_ring_55 z_N v0 v1 S)
else
(z_chk S v0 13 (
z_onV (va_rf (z_r S v0 27)) fun b5 =>
z_inb S b5 104 v2 (
let S6 := z_wi S b5 v2.toNatClampNeg (vp_nar .boolean ((0 : Int32)))
let x7 := v2 + (1 : Int32)
l_X12_ring_34 n v0 v1 x7 S6)))
def b_X12_ring (v0 : Nat) (v1 : Int32) (S : z_St) : Option (Int32 × z_St) :=
z_chk S v0 13 (
let S1 := z_wi S v0 0 ((0 : Int32))
z_chk S1 v0 13 (
(f_X12_noCard v0 v1 S1).bind fun q2 =>
if q2.1 = 0 then
(if v1 = ((-1 : Int32)) then
(z_chk q2.2 v0 13 (
(f_X12_fails v0 ((1 : Int32)) q2.2).bind fun q4 =>
some (q4.1, q4.2)))
else
(z_chk q2.2 v0 13 (
(f_X12_well v0 q2.2).bind fun q3 =>
l_X12_ring_34 z_N v0 v1 ((0 : Int32)) q3)))
else
(some ((-2000000001 : Int32), q2.2))))
def f_X12_ring : Nat → Int32 → z_St → Option (Int32 × z_St) := z_op (b_X12_ring)
theorem e_X12_ring (v0 : Nat) (v1 : Int32) (S : z_St) : f_X12_ring v0 v1 S = b_X12_ring v0 v1 S := congrFun (congrFun (congrFun (z_op_eq (b_X12_ring)) v0) v1) S
def g_X12_ring : z_G := .inl (fun as S => match as with
  | [.ref v0, .int v1] => f_X12_ring v0 v1 S
  | _ => none)
def c_X12_ring : List z_E := [
  (0, .aload_n 0, 1, .null, [], z_g0),
  (1, .iconst 0, 1, .int ((0 : Int32)), [], z_g0),
  (2, .putfield 224, 3, .null, [13, 0, 0], z_g0),
  (5, .aload_n 0, 1, .null, [], z_g0),
  (6, .iload_n 1, 1, .null, [], z_g0),
  (7, .invokevirtual 380, 3, .null, [1, 13, 0], g_X12_noCard),
  (10, .ifCond .eq 7, 3, .null, [17], z_g0),
  (13, .ldc_w 296, 3, .int (-2000000001 : Int32), [], z_g0),
  (16, .ireturn, 1, .null, [], z_g0),
  (17, .iload_n 1, 1, .null, [], z_g0),
  (18, .iconst (-1), 1, .int ((-1 : Int32)), [], z_g0),
  (19, .if_icmp .ne 9, 3, .null, [28], z_g0),
  (22, .aload_n 0, 1, .null, [], z_g0),
  (23, .iconst 1, 1, .int ((1 : Int32)), [], z_g0),
  (24, .invokevirtual 282, 3, .null, [1, 13, 0], g_X12_fails),
  (27, .ireturn, 1, .null, [], z_g0),
  (28, .aload_n 0, 1, .null, [], z_g0),
  (29, .invokevirtual 286, 3, .null, [1, 13], g_X12_well),
  (32, .iconst 0, 1, .int ((0 : Int32)), [], z_g0),
  (33, .istore_n 2, 1, .null, [], z_g0),
  (34, .iload_n 2, 1, .null, [], z_g0),
  (35, .bipush 20, 2, .int ((20 : Int32)), [], z_g0),
  (37, .if_icmp .ge 16, 3, .null, [53], z_g0),
  (40, .aload_n 0, 1, .null, [], z_g0),
  (41, .getfield 68, 3, .null, [13, 27, 3], z_g0),
  (44, .iload_n 2, 1, .null, [], z_g0),
  (45, .iconst 0, 1, .int ((0 : Int32)), [], z_g0),
  (46, .bastore, 1, .null, [104], z_g0),
  (47, .iinc 2 1, 3, .int (1 : Int32), [], z_g0),
  (50, .goto (-16), 3, .null, [34], z_g0),
  (53, .iload_n 1, 1, .null, [], z_g0),
  (54, .istore_n 2, 1, .null, [], z_g0),
  (55, .iload_n 2, 1, .null, [], z_g0),
  (56, .iconst (-1), 1, .int ((-1 : Int32)), [], z_g0),
  (57, .if_icmp .eq 29, 3, .null, [86], z_g0),
  (60, .aload_n 0, 1, .null, [], z_g0),
  (61, .getfield 68, 3, .null, [13, 27, 3], z_g0),
  (64, .iload_n 2, 1, .null, [], z_g0),
  (65, .baload, 1, .null, [104], z_g0),
  (66, .ifCond .ne 20, 3, .null, [86], z_g0),
  (69, .aload_n 0, 1, .null, [], z_g0),
  (70, .getfield 68, 3, .null, [13, 27, 3], z_g0),
  (73, .iload_n 2, 1, .null, [], z_g0),
  (74, .iconst 1, 1, .int ((1 : Int32)), [], z_g0),
  (75, .bastore, 1, .null, [104], z_g0),
  (76, .aload_n 0, 1, .null, [], z_g0),
  (77, .getfield 62, 3, .null, [13, 25, 3], z_g0),
  (80, .iload_n 2, 1, .null, [], z_g0),
  (81, .iaload, 1, .null, [101], z_g0),
  (82, .istore_n 2, 1, .null, [], z_g0),
  (83, .goto (-28), 3, .null, [55], z_g0),
  (86, .iload_n 2, 1, .null, [], z_g0),
  (87, .ireturn, 1, .null, [], z_g0)]
def a_X12_ring_34 {ρ : Type} (k : Nat → Int32 → Int32 → z_St → Option ρ) (ls : z_Lv) (st : List Value) (S : z_St) : Option ρ := z_gR ls 0 fun v0 => z_gI ls 1 fun v1 => z_gI ls 2 fun v2 => z_p0 st (k v0 v1 v2 S)
def a_X12_ring_55 {ρ : Type} (k : Nat → Int32 → z_St → Option ρ) (ls : z_Lv) (st : List Value) (S : z_St) : Option ρ := z_gR ls 0 fun v0 => z_gI ls 2 fun v2 => z_p0 st (k v0 v2 S)
set_option maxRecDepth 100000 in
theorem r_X12_ring_55 (n : Nat) (v0 : Nat) (v2 : Int32) (S : z_St) : z_seg z_rI (c_X12_ring) [34, 55] (fun pc => cond (Nat.beq pc 55) (a_X12_ring_55 (l_X12_ring_55 n)) (fun _ _ _ => none)) 56 (z_to 55 (c_X12_ring)) [(0, .ref v0), (2, .int v2)] [] S = l_X12_ring_55 (n + 1) v0 v2 S := rfl
set_option maxRecDepth 100000 in
theorem r_X12_ring_34 (n : Nat) (v0 : Nat) (v1 : Int32) (v2 : Int32) (S : z_St) : z_seg z_rI (c_X12_ring) [34, 55] (fun pc => cond (Nat.beq pc 34) (a_X12_ring_34 (l_X12_ring_34 n)) (cond (Nat.beq pc 55) (a_X12_ring_55 (l_X12_ring_55 z_N)) (fun _ _ _ => none))) 56 (z_to 34 (c_X12_ring)) [(0, .ref v0), (1, .int v1), (2, .int v2)] [] S = l_X12_ring_34 (n + 1) v0 v1 v2 S := rfl
set_option maxRecDepth 100000 in
theorem r_X12_ring (v0 : Nat) (v1 : Int32) (S : z_St) : z_seg z_rI (c_X12_ring) [34, 55] (fun pc => cond (Nat.beq pc 34) (a_X12_ring_34 (l_X12_ring_34 z_N)) (fun _ _ _ => none)) 56 (c_X12_ring) [(0, .ref v0), (1, .int v1)] [] S = b_X12_ring v0 v1 S := rfl
def b_X12_cardAsk (v0 : Nat) (v1 : Int32) (v2 : Int32) (S : z_St) : Option (Int32 × z_St) :=
z_chk S v0 13 (
let S1 := z_wi S v0 0 ((0 : Int32))
z_chk S1 v0 13 (
(f_X12_noCard v0 v1 S1).bind fun q2 =>
if q2.1 = 0 then
((f_X12_in v2.toInt64 ((0 : Int64)) ((5 : Int64)) q2.2).bind fun q3 =>
if q3.1 = 0 then
(some ((-2000000002 : Int32), q3.2))
else
(if v1 = ((-1 : Int32)) then
(z_chk q3.2 v0 13 (
(f_X12_fails v0 ((1 : Int32)) q3.2).bind fun q6 =>
some (q6.1, q6.2)))
else
(z_chk q3.2 v0 13 (
z_onV (va_rf (z_r q3.2 v0 26)) fun b4 =>
z_inb q3.2 b4 101 v1 (
z_chk q3.2 v0 13 (
(f_X12_asks v0 ((z_i q3.2 b4 v1.toNatClampNeg)) v2 q3.2).bind fun q5 =>
some (q5.1, q5.2)))))))
else
(some ((-2000000001 : Int32), q2.2))))
def f_X12_cardAsk : Nat → Int32 → Int32 → z_St → Option (Int32 × z_St) := z_op (b_X12_cardAsk)
theorem e_X12_cardAsk (v0 : Nat) (v1 : Int32) (v2 : Int32) (S : z_St) : f_X12_cardAsk v0 v1 v2 S = b_X12_cardAsk v0 v1 v2 S := congrFun (congrFun (congrFun (congrFun (z_op_eq (b_X12_cardAsk)) v0) v1) v2) S
def g_X12_cardAsk : z_G := .inl (fun as S => match as with
  | [.ref v0, .int v1, .int v2] => f_X12_cardAsk v0 v1 v2 S
  | _ => none)
def c_X12_cardAsk : List z_E := [
  (0, .aload_n 0, 1, .null, [], z_g0),
  (1, .iconst 0, 1, .int ((0 : Int32)), [], z_g0),
  (2, .putfield 224, 3, .null, [13, 0, 0], z_g0),
  (5, .aload_n 0, 1, .null, [], z_g0),
  (6, .iload_n 1, 1, .null, [], z_g0),
  (7, .invokevirtual 380, 3, .null, [1, 13, 0], g_X12_noCard),
  (10, .ifCond .eq 7, 3, .null, [17], z_g0),
  (13, .ldc_w 296, 3, .int (-2000000001 : Int32), [], z_g0),
  (16, .ireturn, 1, .null, [], z_g0),
  (17, .iload_n 2, 1, .null, [], z_g0),
  (18, .i2l, 1, .null, [], z_g0),
  (19, .lconst 0, 1, .long (0 : Int64), [], z_g0),
  (20, .ldc2_w 334, 3, .long (5 : Int64), [], z_g0),
  (23, .invokestatic 274, 3, .null, [0, 0, 0, 0], g_X12_in),
  (26, .ifCond .ne 7, 3, .null, [33], z_g0),
  (29, .ldc_w 280, 3, .int (-2000000002 : Int32), [], z_g0),
  (32, .ireturn, 1, .null, [], z_g0),
  (33, .iload_n 1, 1, .null, [], z_g0),
  (34, .iconst (-1), 1, .int ((-1 : Int32)), [], z_g0),
  (35, .if_icmp .ne 11, 3, .null, [46], z_g0),
  (38, .aload_n 0, 1, .null, [], z_g0),
  (39, .iconst 1, 1, .int ((1 : Int32)), [], z_g0),
  (40, .invokevirtual 282, 3, .null, [1, 13, 0], g_X12_fails),
  (43, .goto 14, 3, .null, [57], z_g0),
  (46, .aload_n 0, 1, .null, [], z_g0),
  (47, .aload_n 0, 1, .null, [], z_g0),
  (48, .getfield 65, 3, .null, [13, 26, 3], z_g0),
  (51, .iload_n 1, 1, .null, [], z_g0),
  (52, .iaload, 1, .null, [101], z_g0),
  (53, .iload_n 2, 1, .null, [], z_g0),
  (54, .invokevirtual 356, 3, .null, [1, 13, 0, 0], g_X12_asks),
  (57, .ireturn, 1, .null, [], z_g0)]
set_option maxRecDepth 100000 in
theorem r_X12_cardAsk (v0 : Nat) (v1 : Int32) (v2 : Int32) (S : z_St) : z_seg z_rI (c_X12_cardAsk) [] (fun pc => fun _ _ _ => none) 35 (c_X12_cardAsk) [(0, .ref v0), (1, .int v1), (2, .int v2)] [] S = b_X12_cardAsk v0 v1 v2 S := rfl
def l_X12_copy_47 : Nat → Nat → Int32 → Int32 → z_St → Option (Int32 × z_St)
  | 0 => fun _ _ _ _ => none
  | n + 1 => fun (v0 : Nat) (v1 : Int32) (v2 : Int32) (S : z_St) =>
if ((8 : Int32)) ≤ v2 then
(z_chk S v0 13 (
z_chk S v0 13 (
z_chk S v0 13 (
z_onV (va_rf (z_r S v0 25)) fun b5 =>
z_inb S b5 101 v1 (
z_onV (va_rf (z_r S v0 25)) fun b6 =>
z_inb S b6 101 ((z_i S v0 22)) (
let S7 := z_wi S b6 ((z_i S v0 22)).toNatClampNeg ((z_i S b5 v1.toNatClampNeg))
z_chk S7 v0 13 (
z_chk S7 v0 13 (
z_chk S7 v0 13 (
z_onV (va_rf (z_r S7 v0 26)) fun b8 =>
z_inb S7 b8 101 v1 (
z_onV (va_rf (z_r S7 v0 26)) fun b9 =>
z_inb S7 b9 101 ((z_i S7 v0 22)) (
let S10 := z_wi S7 b9 ((z_i S7 v0 22)).toNatClampNeg ((z_i S7 b8 v1.toNatClampNeg))
z_chk S10 v0 13 (
z_chk S10 v0 13 (
let S11 := z_wi S10 v0 22 (((z_i S10 v0 22)) + ((1 : Int32)))
z_chk S11 v0 13 (
some (((z_i S11 v0 22)) - ((1 : Int32)), S11)))))))))))))))
else
(z_chk S v0 13 (
z_chk S v0 13 (
z_chk S v0 13 (
z_onV (va_rf (z_r S v0 24)) fun b12 =>
z_inb S b12 102 ((((8 : Int32)) * v1) + v2) (
z_onV (va_rf (z_r S v0 24)) fun b13 =>
z_inb S b13 102 ((((8 : Int32)) * ((z_i S v0 22))) + v2) (
let S14 := z_wl S b13 ((((8 : Int32)) * ((z_i S v0 22))) + v2).toNatClampNeg ((z_l S b12 ((((8 : Int32)) * v1) + v2).toNatClampNeg))
let x15 := v2 + (1 : Int32)
l_X12_copy_47 n v0 v1 x15 S14))))))
def b_X12_copy (v0 : Nat) (v1 : Int32) (S : z_St) : Option (Int32 × z_St) :=
z_chk S v0 13 (
let S1 := z_wi S v0 0 ((0 : Int32))
z_chk S1 v0 13 (
(f_X12_noCard v0 v1 S1).bind fun q2 =>
if q2.1 = 0 then
(if v1 = ((-1 : Int32)) then
(z_chk q2.2 v0 13 (
(f_X12_fails v0 ((1 : Int32)) q2.2).bind fun q4 =>
some (q4.1, q4.2)))
else
(z_chk q2.2 v0 13 (
if ((z_i q2.2 v0 22)) = ((20 : Int32)) then
(some ((-2000000004 : Int32), q2.2))
else
(z_chk q2.2 v0 13 (
(f_X12_well v0 q2.2).bind fun q3 =>
l_X12_copy_47 z_N v0 v1 ((0 : Int32)) q3)))))
else
(some ((-2000000001 : Int32), q2.2))))
def f_X12_copy : Nat → Int32 → z_St → Option (Int32 × z_St) := z_op (b_X12_copy)
theorem e_X12_copy (v0 : Nat) (v1 : Int32) (S : z_St) : f_X12_copy v0 v1 S = b_X12_copy v0 v1 S := congrFun (congrFun (congrFun (z_op_eq (b_X12_copy)) v0) v1) S
def g_X12_copy : z_G := .inl (fun as S => match as with
  | [.ref v0, .int v1] => f_X12_copy v0 v1 S
  | _ => none)
def c_X12_copy : List z_E := [
  (0, .aload_n 0, 1, .null, [], z_g0),
  (1, .iconst 0, 1, .int ((0 : Int32)), [], z_g0),
  (2, .putfield 224, 3, .null, [13, 0, 0], z_g0),
  (5, .aload_n 0, 1, .null, [], z_g0),
  (6, .iload_n 1, 1, .null, [], z_g0),
  (7, .invokevirtual 380, 3, .null, [1, 13, 0], g_X12_noCard),
  (10, .ifCond .eq 7, 3, .null, [17], z_g0),
  (13, .ldc_w 296, 3, .int (-2000000001 : Int32), [], z_g0),
  (16, .ireturn, 1, .null, [], z_g0),
  (17, .iload_n 1, 1, .null, [], z_g0),
  (18, .iconst (-1), 1, .int ((-1 : Int32)), [], z_g0),
  (19, .if_icmp .ne 9, 3, .null, [28], z_g0),
  (22, .aload_n 0, 1, .null, [], z_g0),
  (23, .iconst 1, 1, .int ((1 : Int32)), [], z_g0),
  (24, .invokevirtual 282, 3, .null, [1, 13, 0], g_X12_fails),
  (27, .ireturn, 1, .null, [], z_g0),
  (28, .aload_n 0, 1, .null, [], z_g0),
  (29, .getfield 377, 3, .null, [13, 22, 0], z_g0),
  (32, .bipush 20, 2, .int ((20 : Int32)), [], z_g0),
  (34, .if_icmp .ne 7, 3, .null, [41], z_g0),
  (37, .ldc_w 281, 3, .int (-2000000004 : Int32), [], z_g0),
  (40, .ireturn, 1, .null, [], z_g0),
  (41, .aload_n 0, 1, .null, [], z_g0),
  (42, .invokevirtual 286, 3, .null, [1, 13], g_X12_well),
  (45, .iconst 0, 1, .int ((0 : Int32)), [], z_g0),
  (46, .istore_n 2, 1, .null, [], z_g0),
  (47, .iload_n 2, 1, .null, [], z_g0),
  (48, .bipush 8, 2, .int ((8 : Int32)), [], z_g0),
  (50, .if_icmp .ge 34, 3, .null, [84], z_g0),
  (53, .aload_n 0, 1, .null, [], z_g0),
  (54, .getfield 59, 3, .null, [13, 24, 3], z_g0),
  (57, .bipush 8, 2, .int ((8 : Int32)), [], z_g0),
  (59, .aload_n 0, 1, .null, [], z_g0),
  (60, .getfield 377, 3, .null, [13, 22, 0], z_g0),
  (63, .imul, 1, .null, [], z_g0),
  (64, .iload_n 2, 1, .null, [], z_g0),
  (65, .iadd, 1, .null, [], z_g0),
  (66, .aload_n 0, 1, .null, [], z_g0),
  (67, .getfield 59, 3, .null, [13, 24, 3], z_g0),
  (70, .bipush 8, 2, .int ((8 : Int32)), [], z_g0),
  (72, .iload_n 1, 1, .null, [], z_g0),
  (73, .imul, 1, .null, [], z_g0),
  (74, .iload_n 2, 1, .null, [], z_g0),
  (75, .iadd, 1, .null, [], z_g0),
  (76, .laload, 1, .null, [], z_g0),
  (77, .lastore, 1, .null, [], z_g0),
  (78, .iinc 2 1, 3, .int (1 : Int32), [], z_g0),
  (81, .goto (-34), 3, .null, [47], z_g0),
  (84, .aload_n 0, 1, .null, [], z_g0),
  (85, .getfield 62, 3, .null, [13, 25, 3], z_g0),
  (88, .aload_n 0, 1, .null, [], z_g0),
  (89, .getfield 377, 3, .null, [13, 22, 0], z_g0),
  (92, .aload_n 0, 1, .null, [], z_g0),
  (93, .getfield 62, 3, .null, [13, 25, 3], z_g0),
  (96, .iload_n 1, 1, .null, [], z_g0),
  (97, .iaload, 1, .null, [101], z_g0),
  (98, .iastore, 1, .null, [], z_g0),
  (99, .aload_n 0, 1, .null, [], z_g0),
  (100, .getfield 65, 3, .null, [13, 26, 3], z_g0),
  (103, .aload_n 0, 1, .null, [], z_g0),
  (104, .getfield 377, 3, .null, [13, 22, 0], z_g0),
  (107, .aload_n 0, 1, .null, [], z_g0),
  (108, .getfield 65, 3, .null, [13, 26, 3], z_g0),
  (111, .iload_n 1, 1, .null, [], z_g0),
  (112, .iaload, 1, .null, [101], z_g0),
  (113, .iastore, 1, .null, [], z_g0),
  (114, .aload_n 0, 1, .null, [], z_g0),
  (115, .dup, 1, .null, [], z_g0),
  (116, .getfield 377, 3, .null, [13, 22, 0], z_g0),
  (119, .iconst 1, 1, .int ((1 : Int32)), [], z_g0),
  (120, .iadd, 1, .null, [], z_g0),
  (121, .putfield 377, 3, .null, [13, 22, 0], z_g0),
  (124, .aload_n 0, 1, .null, [], z_g0),
  (125, .getfield 377, 3, .null, [13, 22, 0], z_g0),
  (128, .iconst 1, 1, .int ((1 : Int32)), [], z_g0),
  (129, .isub, 1, .null, [], z_g0),
  (130, .ireturn, 1, .null, [], z_g0)]
def a_X12_copy_47 {ρ : Type} (k : Nat → Int32 → Int32 → z_St → Option ρ) (ls : z_Lv) (st : List Value) (S : z_St) : Option ρ := z_gR ls 0 fun v0 => z_gI ls 1 fun v1 => z_gI ls 2 fun v2 => z_p0 st (k v0 v1 v2 S)
set_option maxRecDepth 100000 in
theorem r_X12_copy_47 (n : Nat) (v0 : Nat) (v1 : Int32) (v2 : Int32) (S : z_St) : z_seg z_rI (c_X12_copy) [47] (fun pc => cond (Nat.beq pc 47) (a_X12_copy_47 (l_X12_copy_47 n)) (fun _ _ _ => none)) 80 (z_to 47 (c_X12_copy)) [(0, .ref v0), (1, .int v1), (2, .int v2)] [] S = l_X12_copy_47 (n + 1) v0 v1 v2 S := rfl
set_option maxRecDepth 100000 in
theorem r_X12_copy (v0 : Nat) (v1 : Int32) (S : z_St) : z_seg z_rI (c_X12_copy) [47] (fun pc => cond (Nat.beq pc 47) (a_X12_copy_47 (l_X12_copy_47 z_N)) (fun _ _ _ => none)) 80 (c_X12_copy) [(0, .ref v0), (1, .int v1)] [] S = b_X12_copy v0 v1 S := rfl
def b_X12_isAhead (v0 : UInt64) (v2 : UInt64) (S : z_St) : Option (Int32 × z_St) :=
if (Op.cmpValue (FP.dcmp v0 v2) .g) < 0 then
(z_rb ((1 : Int32)) S)
else
(if (Op.cmpValue (FP.dcmp v0 v2) .l) = 0 then
(if (Op.cmpValue (FP.dcmp v0 FP.dconst0) .l) = 0 then
((f_Jxe99ae_doubleToLongBits_ccdee v0 S).bind fun q1 =>
if 0 ≤ (lg_cmp q1.1 ((0 : Int64))) then
(z_rb ((0 : Int32)) q1.2)
else
((f_Jxe99ae_doubleToLongBits_ccdee v2 q1.2).bind fun q2 =>
if (lg_cmp q2.1 ((0 : Int64))) < 0 then
(z_rb ((0 : Int32)) q2.2)
else
(z_rb ((1 : Int32)) q2.2)))
else
(z_rb ((0 : Int32)) S))
else
(z_rb ((0 : Int32)) S))
def f_X12_isAhead : UInt64 → UInt64 → z_St → Option (Int32 × z_St) := z_op (b_X12_isAhead)
theorem e_X12_isAhead (v0 : UInt64) (v2 : UInt64) (S : z_St) : f_X12_isAhead v0 v2 S = b_X12_isAhead v0 v2 S := congrFun (congrFun (congrFun (z_op_eq (b_X12_isAhead)) v0) v2) S
def g_X12_isAhead : z_G := .inl (fun as S => match as with
  | [.double v0, .double v2] => f_X12_isAhead v0 v2 S
  | _ => none)
def c_X12_isAhead : List z_E := [
  (0, .dload_n 0, 1, .null, [], z_g0),
  (1, .dload_n 2, 1, .null, [], z_g0),
  (2, .dcmp .g, 1, .null, [], z_g0),
  (3, .ifCond .lt 33, 3, .null, [36], z_g0),
  (6, .dload_n 0, 1, .null, [], z_g0),
  (7, .dload_n 2, 1, .null, [], z_g0),
  (8, .dcmp .l, 1, .null, [], z_g0),
  (9, .ifCond .ne 31, 3, .null, [40], z_g0),
  (12, .dload_n 0, 1, .null, [], z_g0),
  (13, .dconst 0, 1, .double FP.dconst0, [], z_g0),
  (14, .dcmp .l, 1, .null, [], z_g0),
  (15, .ifCond .ne 25, 3, .null, [40], z_g0),
  (18, .dload_n 0, 1, .null, [], z_g0),
  (19, .invokestatic 248, 3, .null, [0, 0], g_Jxe99ae_doubleToLongBits_ccdee),
  (22, .lconst 0, 1, .long (0 : Int64), [], z_g0),
  (23, .lcmp, 1, .null, [], z_g0),
  (24, .ifCond .ge 16, 3, .null, [40], z_g0),
  (27, .dload_n 2, 1, .null, [], z_g0),
  (28, .invokestatic 248, 3, .null, [0, 0], g_Jxe99ae_doubleToLongBits_ccdee),
  (31, .lconst 0, 1, .long (0 : Int64), [], z_g0),
  (32, .lcmp, 1, .null, [], z_g0),
  (33, .ifCond .lt 7, 3, .null, [40], z_g0),
  (36, .iconst 1, 1, .int ((1 : Int32)), [], z_g0),
  (37, .goto 4, 3, .null, [41], z_g0),
  (40, .iconst 0, 1, .int ((0 : Int32)), [], z_g0),
  (41, .ireturn, 1, .null, [], z_g0)]
set_option maxRecDepth 100000 in
theorem r_X12_isAhead (v0 : UInt64) (v2 : UInt64) (S : z_St) : z_seg z_rZ (c_X12_isAhead) [] (fun pc => fun _ _ _ => none) 29 (c_X12_isAhead) [(0, .double v0), (2, .double v2)] [] S = b_X12_isAhead v0 v2 S := rfl
def j_X12_middleOf_85 (k_4 : Nat → Int32 → Int32 → Int32 → z_St → Option (UInt64 × z_St)) (v0 : Nat) (v1 : Int32) (v2 : Int32) (v3 : Int32) (v4 : UInt64) (v6 : Int32) (S : z_St) : Option (UInt64 × z_St) :=
z_chk S v0 13 (
z_onV (va_rf (z_r S v0 28)) fun b12 =>
z_inb S b12 103 v6 (
let S13 := z_wd S b12 v6.toNatClampNeg v4
let x14 := v2 + (1 : Int32)
let x15 := v3 + (1 : Int32)
k_4 v0 v1 x14 x15 S13))
def l_X12_middleOf_41 (k_4 : Nat → Int32 → Int32 → Int32 → z_St → Option (UInt64 × z_St)) : Nat → Nat → Int32 → Int32 → Int32 → UInt64 → Int32 → z_St → Option (UInt64 × z_St)
  | 0 => fun _ _ _ _ _ _ _ => none
  | n + 1 => fun (v0 : Nat) (v1 : Int32) (v2 : Int32) (v3 : Int32) (v4 : UInt64) (v6 : Int32) (S : z_St) =>
if v6 ≤ 0 then
(j_X12_middleOf_85 k_4 v0 v1 v2 v3 v4 v6 S)
else
(z_chk S v0 13 (
z_onV (va_rf (z_r S v0 28)) fun b6 =>
z_inb S b6 103 (v6 - ((1 : Int32))) (
(f_X12_isAhead v4 ((z_d S b6 (v6 - ((1 : Int32))).toNatClampNeg)) S).bind fun q7 =>
if q7.1 = 0 then
(j_X12_middleOf_85 k_4 v0 v1 v2 v3 v4 v6 q7.2)
else
(z_chk q7.2 v0 13 (
z_chk q7.2 v0 13 (
z_onV (va_rf (z_r q7.2 v0 28)) fun b8 =>
z_inb q7.2 b8 103 (v6 - ((1 : Int32))) (
z_onV (va_rf (z_r q7.2 v0 28)) fun b9 =>
z_inb q7.2 b9 103 v6 (
let S10 := z_wd q7.2 b9 v6.toNatClampNeg ((z_d q7.2 b8 (v6 - ((1 : Int32))).toNatClampNeg))
let x11 := v6 + (-1 : Int32)
l_X12_middleOf_41 k_4 n v0 v1 v2 v3 v4 x11 S10))))))))
def l_X12_middleOf_4 : Nat → Nat → Int32 → Int32 → Int32 → z_St → Option (UInt64 × z_St)
  | 0 => fun _ _ _ _ _ => none
  | n + 1 => fun (v0 : Nat) (v1 : Int32) (v2 : Int32) (v3 : Int32) (S : z_St) =>
z_chk S v0 13 (
z_onV (va_rf (z_r S v0 5)) fun b1 =>
z_inb S b1 101 v1 (
if ((z_i S b1 v1.toNatClampNeg)) ≤ v3 then
(if v2 = 0 then
(some ((9221120237041090560 : UInt64), S))
else
(z_chk S v0 13 (
z_nz ((2 : Int32)) (
z_onV (va_rf (z_r S v0 28)) fun b2 =>
z_inb S b2 103 ((v2 - ((1 : Int32))) / ((2 : Int32))) (
some ((z_d S b2 ((v2 - ((1 : Int32))) / ((2 : Int32))).toNatClampNeg), S))))))
else
(z_chk S v0 13 (
z_onV (va_rf (z_r S v0 6)) fun b3 =>
z_inb S b3 102 ((((64 : Int32)) * v1) + v3) (
(f_X12_realOf ((z_l S b3 ((((64 : Int32)) * v1) + v3).toNatClampNeg)) S).bind fun q4 =>
if (Op.cmpValue (FP.dcmp q4.1 q4.1) .l) = 0 then
(l_X12_middleOf_41 (l_X12_middleOf_4 n) z_N v0 v1 v2 v3 q4.1 v2 q4.2)
else
(let x5 := v3 + (1 : Int32)
l_X12_middleOf_4 n v0 v1 v2 x5 q4.2))))))
def b_X12_middleOf (v0 : Nat) (v1 : Int32) (S : z_St) : Option (UInt64 × z_St) :=
l_X12_middleOf_4 z_N v0 v1 ((0 : Int32)) ((0 : Int32)) S
def f_X12_middleOf : Nat → Int32 → z_St → Option (UInt64 × z_St) := z_op (b_X12_middleOf)
theorem e_X12_middleOf (v0 : Nat) (v1 : Int32) (S : z_St) : f_X12_middleOf v0 v1 S = b_X12_middleOf v0 v1 S := congrFun (congrFun (congrFun (z_op_eq (b_X12_middleOf)) v0) v1) S
def g_X12_middleOf : z_G := .inr (.inr (.inl (fun as S => match as with
  | [.ref v0, .int v1] => f_X12_middleOf v0 v1 S
  | _ => none)))
def c_X12_middleOf : List z_E := [
  (0, .iconst 0, 1, .int ((0 : Int32)), [], z_g0),
  (1, .istore_n 2, 1, .null, [], z_g0),
  (2, .iconst 0, 1, .int ((0 : Int32)), [], z_g0),
  (3, .istore_n 3, 1, .null, [], z_g0),
  (4, .iload_n 3, 1, .null, [], z_g0),
  (5, .aload_n 0, 1, .null, [], z_g0),
  (6, .getfield 13, 3, .null, [13, 5, 3], z_g0),
  (9, .iload_n 1, 1, .null, [], z_g0),
  (10, .iaload, 1, .null, [101], z_g0),
  (11, .if_icmp .ge 92, 3, .null, [103], z_g0),
  (14, .aload_n 0, 1, .null, [], z_g0),
  (15, .getfield 16, 3, .null, [13, 6, 3], z_g0),
  (18, .bipush 64, 2, .int ((64 : Int32)), [], z_g0),
  (20, .iload_n 1, 1, .null, [], z_g0),
  (21, .imul, 1, .null, [], z_g0),
  (22, .iload_n 3, 1, .null, [], z_g0),
  (23, .iadd, 1, .null, [], z_g0),
  (24, .laload, 1, .null, [], z_g0),
  (25, .invokestatic 262, 3, .null, [0, 0], g_X12_realOf),
  (28, .dstore 4, 2, .null, [], z_g0),
  (30, .dload 4, 2, .null, [], z_g0),
  (32, .dload 4, 2, .null, [], z_g0),
  (34, .dcmp .l, 1, .null, [], z_g0),
  (35, .ifCond .ne 62, 3, .null, [97], z_g0),
  (38, .iload_n 2, 1, .null, [], z_g0),
  (39, .istore 6, 2, .null, [], z_g0),
  (41, .iload 6, 2, .null, [], z_g0),
  (43, .ifCond .le 42, 3, .null, [85], z_g0),
  (46, .dload 4, 2, .null, [], z_g0),
  (48, .aload_n 0, 1, .null, [], z_g0),
  (49, .getfield 72, 3, .null, [13, 28, 3], z_g0),
  (52, .iload 6, 2, .null, [], z_g0),
  (54, .iconst 1, 1, .int ((1 : Int32)), [], z_g0),
  (55, .isub, 1, .null, [], z_g0),
  (56, .daload, 1, .null, [], z_g0),
  (57, .invokestatic 388, 3, .null, [0, 0, 0], g_X12_isAhead),
  (60, .ifCond .eq 25, 3, .null, [85], z_g0),
  (63, .aload_n 0, 1, .null, [], z_g0),
  (64, .getfield 72, 3, .null, [13, 28, 3], z_g0),
  (67, .iload 6, 2, .null, [], z_g0),
  (69, .aload_n 0, 1, .null, [], z_g0),
  (70, .getfield 72, 3, .null, [13, 28, 3], z_g0),
  (73, .iload 6, 2, .null, [], z_g0),
  (75, .iconst 1, 1, .int ((1 : Int32)), [], z_g0),
  (76, .isub, 1, .null, [], z_g0),
  (77, .daload, 1, .null, [], z_g0),
  (78, .dastore, 1, .null, [], z_g0),
  (79, .iinc 6 (-1), 3, .int (-1 : Int32), [], z_g0),
  (82, .goto (-41), 3, .null, [41], z_g0),
  (85, .aload_n 0, 1, .null, [], z_g0),
  (86, .getfield 72, 3, .null, [13, 28, 3], z_g0),
  (89, .iload 6, 2, .null, [], z_g0),
  (91, .dload 4, 2, .null, [], z_g0),
  (93, .dastore, 1, .null, [], z_g0),
  (94, .iinc 2 1, 3, .int (1 : Int32), [], z_g0),
  (97, .iinc 3 1, 3, .int (1 : Int32), [], z_g0),
  (100, .goto (-96), 3, .null, [4], z_g0),
  (103, .iload_n 2, 1, .null, [], z_g0),
  (104, .ifCond .ne 9, 3, .null, [113], z_g0),
  (107, .ldc2_w 131, 3, .double (9221120237041090560 : UInt64), [], z_g0),
  (110, .goto 13, 3, .null, [123], z_g0),
  (113, .aload_n 0, 1, .null, [], z_g0),
  (114, .getfield 72, 3, .null, [13, 28, 3], z_g0),
  (117, .iload_n 2, 1, .null, [], z_g0),
  (118, .iconst 1, 1, .int ((1 : Int32)), [], z_g0),
  (119, .isub, 1, .null, [], z_g0),
  (120, .iconst 2, 1, .int ((2 : Int32)), [], z_g0),
  (121, .idiv, 1, .null, [], z_g0),
  (122, .daload, 1, .null, [], z_g0),
  (123, .dreturn, 1, .null, [], z_g0)]
def a_X12_middleOf_4 {ρ : Type} (k : Nat → Int32 → Int32 → Int32 → z_St → Option ρ) (ls : z_Lv) (st : List Value) (S : z_St) : Option ρ := z_gR ls 0 fun v0 => z_gI ls 1 fun v1 => z_gI ls 2 fun v2 => z_gI ls 3 fun v3 => z_p0 st (k v0 v1 v2 v3 S)
def a_X12_middleOf_41 {ρ : Type} (k : Nat → Int32 → Int32 → Int32 → UInt64 → Int32 → z_St → Option ρ) (ls : z_Lv) (st : List Value) (S : z_St) : Option ρ := z_gR ls 0 fun v0 => z_gI ls 1 fun v1 => z_gI ls 2 fun v2 => z_gI ls 3 fun v3 => z_gD ls 4 fun v4 => z_gI ls 6 fun v6 => z_p0 st (k v0 v1 v2 v3 v4 v6 S)
def a_X12_middleOf_85 {ρ : Type} (k : Nat → Int32 → Int32 → Int32 → UInt64 → Int32 → z_St → Option ρ) (ls : z_Lv) (st : List Value) (S : z_St) : Option ρ := z_gR ls 0 fun v0 => z_gI ls 1 fun v1 => z_gI ls 2 fun v2 => z_gI ls 3 fun v3 => z_gD ls 4 fun v4 => z_gI ls 6 fun v6 => z_p0 st (k v0 v1 v2 v3 v4 v6 S)
set_option maxRecDepth 100000 in
theorem r_X12_middleOf_85 (k_4 : Nat → Int32 → Int32 → Int32 → z_St → Option (UInt64 × z_St)) (v0 : Nat) (v1 : Int32) (v2 : Int32) (v3 : Int32) (v4 : UInt64) (v6 : Int32) (S : z_St) : z_seg z_rD (c_X12_middleOf) [4, 41, 85] (fun pc => cond (Nat.beq pc 4) (a_X12_middleOf_4 k_4) (fun _ _ _ => none)) 73 (z_to 85 (c_X12_middleOf)) [(0, .ref v0), (1, .int v1), (2, .int v2), (3, .int v3), (4, .double v4), (6, .int v6)] [] S = j_X12_middleOf_85 k_4 v0 v1 v2 v3 v4 v6 S := rfl
set_option maxRecDepth 100000 in
theorem r_X12_middleOf_41 (k_4 : Nat → Int32 → Int32 → Int32 → z_St → Option (UInt64 × z_St)) (n : Nat) (v0 : Nat) (v1 : Int32) (v2 : Int32) (v3 : Int32) (v4 : UInt64) (v6 : Int32) (S : z_St) : z_seg z_rD (c_X12_middleOf) [4, 41, 85] (fun pc => cond (Nat.beq pc 41) (a_X12_middleOf_41 (l_X12_middleOf_41 k_4 n)) (cond (Nat.beq pc 85) (a_X12_middleOf_85 (j_X12_middleOf_85 k_4)) (fun _ _ _ => none))) 73 (z_to 41 (c_X12_middleOf)) [(0, .ref v0), (1, .int v1), (2, .int v2), (3, .int v3), (4, .double v4), (6, .int v6)] [] S = l_X12_middleOf_41 k_4 (n + 1) v0 v1 v2 v3 v4 v6 S := rfl
set_option maxRecDepth 100000 in
theorem r_X12_middleOf_4 (n : Nat) (v0 : Nat) (v1 : Int32) (v2 : Int32) (v3 : Int32) (S : z_St) : z_seg z_rD (c_X12_middleOf) [4, 41, 85] (fun pc => cond (Nat.beq pc 4) (a_X12_middleOf_4 (l_X12_middleOf_4 n)) (cond (Nat.beq pc 41) (a_X12_middleOf_41 (l_X12_middleOf_41 (l_X12_middleOf_4 n) z_N)) (fun _ _ _ => none))) 73 (z_to 4 (c_X12_middleOf)) [(0, .ref v0), (1, .int v1), (2, .int v2), (3, .int v3)] [] S = l_X12_middleOf_4 (n + 1) v0 v1 v2 v3 S := rfl
set_option maxRecDepth 100000 in
theorem r_X12_middleOf (v0 : Nat) (v1 : Int32) (S : z_St) : z_seg z_rD (c_X12_middleOf) [4, 41, 85] (fun pc => cond (Nat.beq pc 4) (a_X12_middleOf_4 (l_X12_middleOf_4 z_N)) (fun _ _ _ => none)) 73 (c_X12_middleOf) [(0, .ref v0), (1, .int v1)] [] S = b_X12_middleOf v0 v1 S := rfl
def j_X12_flowOf_188 (v2 : Int32) (v4 : Int32) (v5 : UInt64) (v7 : UInt64) (S : z_St) : Option (UInt64 × z_St) :=
if v2 = ((2 : Int32)) then
(z_nn (FP.ddiv v7 (FP.i2d v4)) (
some (FP.ddiv v7 (FP.i2d v4), S)))
else
(some (v5, S))
def j_X12_flowOf_133 (k_20 : Nat → Int32 → Int32 → Int32 → Int32 → UInt64 → UInt64 → Int32 → Int32 → Int32 → z_St → Option (UInt64 × z_St)) (v0 : Nat) (v1 : Int32) (v2 : Int32) (v3 : Int32) (v4 : Int32) (v5 : UInt64) (v7 : UInt64) (v9 : Int32) (v11 : Int32) (v12 : UInt64) (t0 : Int32) (S : z_St) : Option (UInt64 × z_St) :=
if t0 = 0 then
(z_nn (FP.dadd v7 v12) (
let x7 := FP.dadd v7 v12
let x8 := v4 + (1 : Int32)
let x9 := v11 + (1 : Int32)
k_20 v0 v1 v2 v3 x8 v5 x7 v9 t0 x9 S))
else
(let x10 := v4 + (1 : Int32)
let x11 := v11 + (1 : Int32)
k_20 v0 v1 v2 v3 x10 v5 FP.dconst0 v9 t0 x11 S)
def j_X12_flowOf_97 (k_20 : Nat → Int32 → Int32 → Int32 → Int32 → UInt64 → UInt64 → Int32 → Int32 → Int32 → z_St → Option (UInt64 × z_St)) (v0 : Nat) (v1 : Int32) (v2 : Int32) (v3 : Int32) (v4 : Int32) (v7 : UInt64) (v9 : Int32) (v10 : Int32) (v11 : Int32) (v12 : UInt64) (t0 : UInt64) (S : z_St) : Option (UInt64 × z_St) :=
if v10 = 0 then
((f_X12_isEndless v12 S).bind fun q5 =>
if q5.1 = 0 then
(j_X12_flowOf_133 k_20 v0 v1 v2 v3 v4 t0 v7 v9 v11 v12 ((0 : Int32)) q5.2)
else
((f_X12_isEndless v7 q5.2).bind fun q6 =>
if q6.1 = 0 then
(j_X12_flowOf_133 k_20 v0 v1 v2 v3 v4 t0 v7 v9 v11 v12 ((0 : Int32)) q6.2)
else
(if (Op.cmpValue (FP.dcmp v12 v7) .l) = 0 then
(j_X12_flowOf_133 k_20 v0 v1 v2 v3 v4 t0 v7 v9 v11 v12 ((0 : Int32)) q6.2)
else
(j_X12_flowOf_133 k_20 v0 v1 v2 v3 v4 t0 v7 v9 v11 v12 ((1 : Int32)) q6.2))))
else
(j_X12_flowOf_133 k_20 v0 v1 v2 v3 v4 t0 v7 v9 v11 v12 ((1 : Int32)) S)
def l_X12_flowOf_20 : Nat → Nat → Int32 → Int32 → Int32 → Int32 → UInt64 → UInt64 → Int32 → Int32 → Int32 → z_St → Option (UInt64 × z_St)
  | 0 => fun _ _ _ _ _ _ _ _ _ _ _ => none
  | n + 1 => fun (v0 : Nat) (v1 : Int32) (v2 : Int32) (v3 : Int32) (v4 : Int32) (v5 : UInt64) (v7 : UInt64) (v9 : Int32) (v10 : Int32) (v11 : Int32) (S : z_St) =>
z_chk S v0 13 (
z_onV (va_rf (z_r S v0 5)) fun b1 =>
z_inb S b1 101 v1 (
if ((z_i S b1 v1.toNatClampNeg)) ≤ v11 then
(if v4 = 0 then
(some ((9221120237041090560 : UInt64), S))
else
(if v3 = 0 then
(if v2 = ((2 : Int32)) then
(if v10 = 0 then
(j_X12_flowOf_188 v2 v4 v5 v7 S)
else
(some ((9221120237041090560 : UInt64), S)))
else
(j_X12_flowOf_188 v2 v4 v5 v7 S))
else
(if v9 = 0 then
(if v2 = ((2 : Int32)) then
(if v10 = 0 then
(j_X12_flowOf_188 v2 v4 v5 v7 S)
else
(some ((9221120237041090560 : UInt64), S)))
else
(j_X12_flowOf_188 v2 v4 v5 v7 S))
else
(some ((9221120237041090560 : UInt64), S)))))
else
(z_chk S v0 13 (
z_onV (va_rf (z_r S v0 6)) fun b2 =>
z_inb S b2 102 ((((64 : Int32)) * v1) + v11) (
(f_X12_realOf ((z_l S b2 ((((64 : Int32)) * v1) + v11).toNatClampNeg)) S).bind fun q3 =>
if (Op.cmpValue (FP.dcmp q3.1 q3.1) .l) = 0 then
(if v4 = 0 then
(j_X12_flowOf_97 (l_X12_flowOf_20 n) v0 v1 v2 v3 v4 v7 v9 v10 v11 q3.1 q3.1 q3.2)
else
(if v2 = 0 then
(if 0 ≤ (Op.cmpValue (FP.dcmp q3.1 v5) .g) then
(j_X12_flowOf_97 (l_X12_flowOf_20 n) v0 v1 v2 v3 v4 v7 v9 v10 v11 q3.1 v5 q3.2)
else
(j_X12_flowOf_97 (l_X12_flowOf_20 n) v0 v1 v2 v3 v4 v7 v9 v10 v11 q3.1 q3.1 q3.2))
else
(if (Op.cmpValue (FP.dcmp q3.1 v5) .l) ≤ 0 then
(j_X12_flowOf_97 (l_X12_flowOf_20 n) v0 v1 v2 v3 v4 v7 v9 v10 v11 q3.1 v5 q3.2)
else
(j_X12_flowOf_97 (l_X12_flowOf_20 n) v0 v1 v2 v3 v4 v7 v9 v10 v11 q3.1 q3.1 q3.2))))
else
(let x4 := v11 + (1 : Int32)
l_X12_flowOf_20 n v0 v1 v2 v3 v4 v5 v7 ((1 : Int32)) v10 x4 q3.2))))))
def b_X12_flowOf (v0 : Nat) (v1 : Int32) (v2 : Int32) (v3 : Int32) (S : z_St) : Option (UInt64 × z_St) :=
l_X12_flowOf_20 z_N v0 v1 v2 v3 ((0 : Int32)) ((9221120237041090560 : UInt64)) FP.dconst0 ((0 : Int32)) ((0 : Int32)) ((0 : Int32)) S
def f_X12_flowOf : Nat → Int32 → Int32 → Int32 → z_St → Option (UInt64 × z_St) := z_op (b_X12_flowOf)
theorem e_X12_flowOf (v0 : Nat) (v1 : Int32) (v2 : Int32) (v3 : Int32) (S : z_St) : f_X12_flowOf v0 v1 v2 v3 S = b_X12_flowOf v0 v1 v2 v3 S := congrFun (congrFun (congrFun (congrFun (congrFun (z_op_eq (b_X12_flowOf)) v0) v1) v2) v3) S
def g_X12_flowOf : z_G := .inr (.inr (.inl (fun as S => match as with
  | [.ref v0, .int v1, .int v2, .int v3] => f_X12_flowOf v0 v1 v2 v3 S
  | _ => none)))
def c_X12_flowOf : List z_E := [
  (0, .iconst 0, 1, .int ((0 : Int32)), [], z_g0),
  (1, .istore 4, 2, .null, [], z_g0),
  (3, .ldc2_w 131, 3, .double (9221120237041090560 : UInt64), [], z_g0),
  (6, .dstore 5, 2, .null, [], z_g0),
  (8, .dconst 0, 1, .double FP.dconst0, [], z_g0),
  (9, .dstore 7, 2, .null, [], z_g0),
  (11, .iconst 0, 1, .int ((0 : Int32)), [], z_g0),
  (12, .istore 9, 2, .null, [], z_g0),
  (14, .iconst 0, 1, .int ((0 : Int32)), [], z_g0),
  (15, .istore 10, 2, .null, [], z_g0),
  (17, .iconst 0, 1, .int ((0 : Int32)), [], z_g0),
  (18, .istore 11, 2, .null, [], z_g0),
  (20, .iload 11, 2, .null, [], z_g0),
  (22, .aload_n 0, 1, .null, [], z_g0),
  (23, .getfield 13, 3, .null, [13, 5, 3], z_g0),
  (26, .iload_n 1, 1, .null, [], z_g0),
  (27, .iaload, 1, .null, [101], z_g0),
  (28, .if_icmp .ge 132, 3, .null, [160], z_g0),
  (31, .aload_n 0, 1, .null, [], z_g0),
  (32, .getfield 16, 3, .null, [13, 6, 3], z_g0),
  (35, .bipush 64, 2, .int ((64 : Int32)), [], z_g0),
  (37, .iload_n 1, 1, .null, [], z_g0),
  (38, .imul, 1, .null, [], z_g0),
  (39, .iload 11, 2, .null, [], z_g0),
  (41, .iadd, 1, .null, [], z_g0),
  (42, .laload, 1, .null, [], z_g0),
  (43, .invokestatic 262, 3, .null, [0, 0], g_X12_realOf),
  (46, .dstore 12, 2, .null, [], z_g0),
  (48, .dload 12, 2, .null, [], z_g0),
  (50, .dload 12, 2, .null, [], z_g0),
  (52, .dcmp .l, 1, .null, [], z_g0),
  (53, .ifCond .eq 9, 3, .null, [62], z_g0),
  (56, .iconst 1, 1, .int ((1 : Int32)), [], z_g0),
  (57, .istore 9, 2, .null, [], z_g0),
  (59, .goto 95, 3, .null, [154], z_g0),
  (62, .iload 4, 2, .null, [], z_g0),
  (64, .ifCond .eq 26, 3, .null, [90], z_g0),
  (67, .iload_n 2, 1, .null, [], z_g0),
  (68, .ifCond .ne 14, 3, .null, [82], z_g0),
  (71, .dload 12, 2, .null, [], z_g0),
  (73, .dload 5, 2, .null, [], z_g0),
  (75, .dcmp .g, 1, .null, [], z_g0),
  (76, .ifCond .ge 19, 3, .null, [95], z_g0),
  (79, .goto 11, 3, .null, [90], z_g0),
  (82, .dload 12, 2, .null, [], z_g0),
  (84, .dload 5, 2, .null, [], z_g0),
  (86, .dcmp .l, 1, .null, [], z_g0),
  (87, .ifCond .le 8, 3, .null, [95], z_g0),
  (90, .dload 12, 2, .null, [], z_g0),
  (92, .goto 5, 3, .null, [97], z_g0),
  (95, .dload 5, 2, .null, [], z_g0),
  (97, .dstore 5, 2, .null, [], z_g0),
  (99, .iload 10, 2, .null, [], z_g0),
  (101, .ifCond .ne 27, 3, .null, [128], z_g0),
  (104, .dload 12, 2, .null, [], z_g0),
  (106, .invokestatic 392, 3, .null, [0, 0], g_X12_isEndless),
  (109, .ifCond .eq 23, 3, .null, [132], z_g0),
  (112, .dload 7, 2, .null, [], z_g0),
  (114, .invokestatic 392, 3, .null, [0, 0], g_X12_isEndless),
  (117, .ifCond .eq 15, 3, .null, [132], z_g0),
  (120, .dload 12, 2, .null, [], z_g0),
  (122, .dload 7, 2, .null, [], z_g0),
  (124, .dcmp .l, 1, .null, [], z_g0),
  (125, .ifCond .eq 7, 3, .null, [132], z_g0),
  (128, .iconst 1, 1, .int ((1 : Int32)), [], z_g0),
  (129, .goto 4, 3, .null, [133], z_g0),
  (132, .iconst 0, 1, .int ((0 : Int32)), [], z_g0),
  (133, .istore 10, 2, .null, [], z_g0),
  (135, .iload 10, 2, .null, [], z_g0),
  (137, .ifCond .eq 7, 3, .null, [144], z_g0),
  (140, .dconst 0, 1, .double FP.dconst0, [], z_g0),
  (141, .goto 8, 3, .null, [149], z_g0),
  (144, .dload 7, 2, .null, [], z_g0),
  (146, .dload 12, 2, .null, [], z_g0),
  (148, .dadd, 1, .null, [], z_g0),
  (149, .dstore 7, 2, .null, [], z_g0),
  (151, .iinc 4 1, 3, .int (1 : Int32), [], z_g0),
  (154, .iinc 11 1, 3, .int (1 : Int32), [], z_g0),
  (157, .goto (-137), 3, .null, [20], z_g0),
  (160, .iload 4, 2, .null, [], z_g0),
  (162, .ifCond .eq 22, 3, .null, [184], z_g0),
  (165, .iload_n 3, 1, .null, [], z_g0),
  (166, .ifCond .eq 8, 3, .null, [174], z_g0),
  (169, .iload 9, 2, .null, [], z_g0),
  (171, .ifCond .ne 13, 3, .null, [184], z_g0),
  (174, .iload_n 2, 1, .null, [], z_g0),
  (175, .iconst 2, 1, .int ((2 : Int32)), [], z_g0),
  (176, .if_icmp .ne 12, 3, .null, [188], z_g0),
  (179, .iload 10, 2, .null, [], z_g0),
  (181, .ifCond .eq 7, 3, .null, [188], z_g0),
  (184, .ldc2_w 131, 3, .double (9221120237041090560 : UInt64), [], z_g0),
  (187, .dreturn, 1, .null, [], z_g0),
  (188, .iload_n 2, 1, .null, [], z_g0),
  (189, .iconst 2, 1, .int ((2 : Int32)), [], z_g0),
  (190, .if_icmp .ne 12, 3, .null, [202], z_g0),
  (193, .dload 7, 2, .null, [], z_g0),
  (195, .iload 4, 2, .null, [], z_g0),
  (197, .i2d, 1, .null, [], z_g0),
  (198, .ddiv, 1, .null, [], z_g0),
  (199, .goto 5, 3, .null, [204], z_g0),
  (202, .dload 5, 2, .null, [], z_g0),
  (204, .dreturn, 1, .null, [], z_g0)]
def a_X12_flowOf_20 {ρ : Type} (k : Nat → Int32 → Int32 → Int32 → Int32 → UInt64 → UInt64 → Int32 → Int32 → Int32 → z_St → Option ρ) (ls : z_Lv) (st : List Value) (S : z_St) : Option ρ := z_gR ls 0 fun v0 => z_gI ls 1 fun v1 => z_gI ls 2 fun v2 => z_gI ls 3 fun v3 => z_gI ls 4 fun v4 => z_gD ls 5 fun v5 => z_gD ls 7 fun v7 => z_gI ls 9 fun v9 => z_gI ls 10 fun v10 => z_gI ls 11 fun v11 => z_p0 st (k v0 v1 v2 v3 v4 v5 v7 v9 v10 v11 S)
def a_X12_flowOf_97 {ρ : Type} (k : Nat → Int32 → Int32 → Int32 → Int32 → UInt64 → Int32 → Int32 → Int32 → UInt64 → UInt64 → z_St → Option ρ) (ls : z_Lv) (st : List Value) (S : z_St) : Option ρ := z_gR ls 0 fun v0 => z_gI ls 1 fun v1 => z_gI ls 2 fun v2 => z_gI ls 3 fun v3 => z_gI ls 4 fun v4 => z_gD ls 7 fun v7 => z_gI ls 9 fun v9 => z_gI ls 10 fun v10 => z_gI ls 11 fun v11 => z_gD ls 12 fun v12 => z_pD st fun t0 s0 => z_p0 s0 (k v0 v1 v2 v3 v4 v7 v9 v10 v11 v12 t0 S)
def a_X12_flowOf_133 {ρ : Type} (k : Nat → Int32 → Int32 → Int32 → Int32 → UInt64 → UInt64 → Int32 → Int32 → UInt64 → Int32 → z_St → Option ρ) (ls : z_Lv) (st : List Value) (S : z_St) : Option ρ := z_gR ls 0 fun v0 => z_gI ls 1 fun v1 => z_gI ls 2 fun v2 => z_gI ls 3 fun v3 => z_gI ls 4 fun v4 => z_gD ls 5 fun v5 => z_gD ls 7 fun v7 => z_gI ls 9 fun v9 => z_gI ls 11 fun v11 => z_gD ls 12 fun v12 => z_pI st fun t0 s0 => z_p0 s0 (k v0 v1 v2 v3 v4 v5 v7 v9 v11 v12 t0 S)
def a_X12_flowOf_188 {ρ : Type} (k : Int32 → Int32 → UInt64 → UInt64 → z_St → Option ρ) (ls : z_Lv) (st : List Value) (S : z_St) : Option ρ := z_gI ls 2 fun v2 => z_gI ls 4 fun v4 => z_gD ls 5 fun v5 => z_gD ls 7 fun v7 => z_p0 st (k v2 v4 v5 v7 S)
set_option maxRecDepth 100000 in
theorem r_X12_flowOf_188 (v2 : Int32) (v4 : Int32) (v5 : UInt64) (v7 : UInt64) (S : z_St) : z_seg z_rD (c_X12_flowOf) [20, 97, 133, 188] (fun pc => fun _ _ _ => none) 105 (z_to 188 (c_X12_flowOf)) [(2, .int v2), (4, .int v4), (5, .double v5), (7, .double v7)] [] S = j_X12_flowOf_188 v2 v4 v5 v7 S := rfl
set_option maxRecDepth 100000 in
theorem r_X12_flowOf_133 (k_20 : Nat → Int32 → Int32 → Int32 → Int32 → UInt64 → UInt64 → Int32 → Int32 → Int32 → z_St → Option (UInt64 × z_St)) (v0 : Nat) (v1 : Int32) (v2 : Int32) (v3 : Int32) (v4 : Int32) (v5 : UInt64) (v7 : UInt64) (v9 : Int32) (v11 : Int32) (v12 : UInt64) (t0 : Int32) (S : z_St) : z_seg z_rD (c_X12_flowOf) [20, 97, 133, 188] (fun pc => cond (Nat.beq pc 20) (a_X12_flowOf_20 k_20) (fun _ _ _ => none)) 105 (z_to 133 (c_X12_flowOf)) [(0, .ref v0), (1, .int v1), (2, .int v2), (3, .int v3), (4, .int v4), (5, .double v5), (7, .double v7), (9, .int v9), (11, .int v11), (12, .double v12)] [.int t0] S = j_X12_flowOf_133 k_20 v0 v1 v2 v3 v4 v5 v7 v9 v11 v12 t0 S := rfl
set_option maxRecDepth 100000 in
theorem r_X12_flowOf_97 (k_20 : Nat → Int32 → Int32 → Int32 → Int32 → UInt64 → UInt64 → Int32 → Int32 → Int32 → z_St → Option (UInt64 × z_St)) (v0 : Nat) (v1 : Int32) (v2 : Int32) (v3 : Int32) (v4 : Int32) (v7 : UInt64) (v9 : Int32) (v10 : Int32) (v11 : Int32) (v12 : UInt64) (t0 : UInt64) (S : z_St) : z_seg z_rD (c_X12_flowOf) [20, 97, 133, 188] (fun pc => cond (Nat.beq pc 133) (a_X12_flowOf_133 (j_X12_flowOf_133 k_20)) (fun _ _ _ => none)) 105 (z_to 97 (c_X12_flowOf)) [(0, .ref v0), (1, .int v1), (2, .int v2), (3, .int v3), (4, .int v4), (7, .double v7), (9, .int v9), (10, .int v10), (11, .int v11), (12, .double v12)] [.double t0] S = j_X12_flowOf_97 k_20 v0 v1 v2 v3 v4 v7 v9 v10 v11 v12 t0 S := rfl
set_option maxRecDepth 100000 in
theorem r_X12_flowOf_20 (n : Nat) (v0 : Nat) (v1 : Int32) (v2 : Int32) (v3 : Int32) (v4 : Int32) (v5 : UInt64) (v7 : UInt64) (v9 : Int32) (v10 : Int32) (v11 : Int32) (S : z_St) : z_seg z_rD (c_X12_flowOf) [20, 97, 133, 188] (fun pc => cond (Nat.beq pc 20) (a_X12_flowOf_20 (l_X12_flowOf_20 n)) (cond (Nat.beq pc 97) (a_X12_flowOf_97 (j_X12_flowOf_97 (l_X12_flowOf_20 n))) (cond (Nat.beq pc 188) (a_X12_flowOf_188 (j_X12_flowOf_188)) (fun _ _ _ => none)))) 105 (z_to 20 (c_X12_flowOf)) [(0, .ref v0), (1, .int v1), (2, .int v2), (3, .int v3), (4, .int v4), (5, .double v5), (7, .double v7), (9, .int v9), (10, .int v10), (11, .int v11)] [] S = l_X12_flowOf_20 (n + 1) v0 v1 v2 v3 v4 v5 v7 v9 v10 v11 S := rfl
set_option maxRecDepth 100000 in
theorem r_X12_flowOf (v0 : Nat) (v1 : Int32) (v2 : Int32) (v3 : Int32) (S : z_St) : z_seg z_rD (c_X12_flowOf) [20, 97, 133, 188] (fun pc => cond (Nat.beq pc 20) (a_X12_flowOf_20 (l_X12_flowOf_20 z_N)) (fun _ _ _ => none)) 105 (c_X12_flowOf) [(0, .ref v0), (1, .int v1), (2, .int v2), (3, .int v3)] [] S = b_X12_flowOf v0 v1 v2 v3 S := rfl
def j_X12_flow_92 (v2 : Int32) (t0 : Nat) (t1 : Int32) (t2 : Int32) (S : z_St) : Option (Int64 × z_St) :=
if v2 ≤ ((3 : Int32)) then
(z_chk S t0 13 (
(f_X12_flowOf t0 t1 t2 ((0 : Int32)) S).bind fun q10 =>
(f_X12_bitsOf q10.1 q10.2).bind fun q11 =>
some (q11.1, q11.2)))
else
(z_chk S t0 13 (
(f_X12_flowOf t0 t1 t2 ((1 : Int32)) S).bind fun q12 =>
(f_X12_bitsOf q12.1 q12.2).bind fun q13 =>
some (q13.1, q13.2)))
def b_X12_flow (v0 : Nat) (v1 : Int32) (v2 : Int32) (S : z_St) : Option (Int64 × z_St) :=
z_chk S v0 13 (
let S1 := z_wi S v0 0 ((0 : Int32))
z_chk S1 v0 13 (
(f_X12_noRow v0 v1 S1).bind fun q2 =>
if q2.1 = 0 then
((f_X12_in v2.toInt64 ((0 : Int64)) ((6 : Int64)) q2.2).bind fun q3 =>
if q3.1 = 0 then
(some ((-2000000002 : Int64), q3.2))
else
(if v1 = ((-1 : Int32)) then
(z_chk q3.2 v0 13 (
(f_X12_fails v0 ((1 : Int32)) q3.2).bind fun q9 =>
some (q9.1.toInt64, q9.2)))
else
(z_chk q3.2 v0 13 (
z_onV (va_rf (z_r q3.2 v0 4)) fun b4 =>
z_inb q3.2 b4 101 v1 (
(f_X12_isReal ((z_i q3.2 b4 v1.toNatClampNeg)) q3.2).bind fun q5 =>
if q5.1 = 0 then
(some ((-2000000003 : Int64), q5.2))
else
(z_chk q5.2 v0 13 (
(f_X12_well v0 q5.2).bind fun q6 =>
if v2 = ((3 : Int32)) then
(z_chk q6 v0 13 (
(f_X12_middleOf v0 v1 q6).bind fun q7 =>
(f_X12_bitsOf q7.1 q7.2).bind fun q8 =>
some (q8.1, q8.2)))
else
(if v2 ≤ ((3 : Int32)) then
(j_X12_flow_92 v2 v0 v1 v2 q6)
else
(j_X12_flow_92 v2 v0 v1 (v2 - ((4 : Int32))) q6)))))))))
else
(some ((-2000000001 : Int64), q2.2))))
def f_X12_flow : Nat → Int32 → Int32 → z_St → Option (Int64 × z_St) := z_op (b_X12_flow)
theorem e_X12_flow (v0 : Nat) (v1 : Int32) (v2 : Int32) (S : z_St) : f_X12_flow v0 v1 v2 S = b_X12_flow v0 v1 v2 S := congrFun (congrFun (congrFun (congrFun (z_op_eq (b_X12_flow)) v0) v1) v2) S
def g_X12_flow : z_G := .inr (.inl (fun as S => match as with
  | [.ref v0, .int v1, .int v2] => f_X12_flow v0 v1 v2 S
  | _ => none))
def c_X12_flow : List z_E := [
  (0, .aload_n 0, 1, .null, [], z_g0),
  (1, .iconst 0, 1, .int ((0 : Int32)), [], z_g0),
  (2, .putfield 224, 3, .null, [13, 0, 0], z_g0),
  (5, .aload_n 0, 1, .null, [], z_g0),
  (6, .iload_n 1, 1, .null, [], z_g0),
  (7, .invokevirtual 293, 3, .null, [1, 13, 0], g_X12_noRow),
  (10, .ifCond .eq 7, 3, .null, [17], z_g0),
  (13, .ldc2_w 319, 3, .long (-2000000001 : Int64), [], z_g0),
  (16, .lreturn, 1, .null, [], z_g0),
  (17, .iload_n 2, 1, .null, [], z_g0),
  (18, .i2l, 1, .null, [], z_g0),
  (19, .lconst 0, 1, .long (0 : Int64), [], z_g0),
  (20, .ldc2_w 396, 3, .long (6 : Int64), [], z_g0),
  (23, .invokestatic 274, 3, .null, [0, 0, 0, 0], g_X12_in),
  (26, .ifCond .ne 7, 3, .null, [33], z_g0),
  (29, .ldc2_w 398, 3, .long (-2000000002 : Int64), [], z_g0),
  (32, .lreturn, 1, .null, [], z_g0),
  (33, .iload_n 1, 1, .null, [], z_g0),
  (34, .iconst (-1), 1, .int ((-1 : Int32)), [], z_g0),
  (35, .if_icmp .ne 10, 3, .null, [45], z_g0),
  (38, .aload_n 0, 1, .null, [], z_g0),
  (39, .iconst 1, 1, .int ((1 : Int32)), [], z_g0),
  (40, .invokevirtual 282, 3, .null, [1, 13, 0], g_X12_fails),
  (43, .i2l, 1, .null, [], z_g0),
  (44, .lreturn, 1, .null, [], z_g0),
  (45, .aload_n 0, 1, .null, [], z_g0),
  (46, .getfield 7, 3, .null, [13, 4, 3], z_g0),
  (49, .iload_n 1, 1, .null, [], z_g0),
  (50, .iaload, 1, .null, [101], z_g0),
  (51, .invokestatic 257, 3, .null, [0, 0], g_X12_isReal),
  (54, .ifCond .ne 7, 3, .null, [61], z_g0),
  (57, .ldc2_w 400, 3, .long (-2000000003 : Int64), [], z_g0),
  (60, .lreturn, 1, .null, [], z_g0),
  (61, .aload_n 0, 1, .null, [], z_g0),
  (62, .invokevirtual 286, 3, .null, [1, 13], g_X12_well),
  (65, .iload_n 2, 1, .null, [], z_g0),
  (66, .iconst 3, 1, .int ((3 : Int32)), [], z_g0),
  (67, .if_icmp .ne 11, 3, .null, [78], z_g0),
  (70, .aload_n 0, 1, .null, [], z_g0),
  (71, .iload_n 1, 1, .null, [], z_g0),
  (72, .invokevirtual 402, 3, .null, [1, 13, 0], g_X12_middleOf),
  (75, .goto 30, 3, .null, [105], z_g0),
  (78, .aload_n 0, 1, .null, [], z_g0),
  (79, .iload_n 1, 1, .null, [], z_g0),
  (80, .iload_n 2, 1, .null, [], z_g0),
  (81, .iconst 3, 1, .int ((3 : Int32)), [], z_g0),
  (82, .if_icmp .le 9, 3, .null, [91], z_g0),
  (85, .iload_n 2, 1, .null, [], z_g0),
  (86, .iconst 4, 1, .int ((4 : Int32)), [], z_g0),
  (87, .isub, 1, .null, [], z_g0),
  (88, .goto 4, 3, .null, [92], z_g0),
  (91, .iload_n 2, 1, .null, [], z_g0),
  (92, .iload_n 2, 1, .null, [], z_g0),
  (93, .iconst 3, 1, .int ((3 : Int32)), [], z_g0),
  (94, .if_icmp .le 7, 3, .null, [101], z_g0),
  (97, .iconst 1, 1, .int ((1 : Int32)), [], z_g0),
  (98, .goto 4, 3, .null, [102], z_g0),
  (101, .iconst 0, 1, .int ((0 : Int32)), [], z_g0),
  (102, .invokevirtual 406, 3, .null, [1, 13, 0, 0, 0], g_X12_flowOf),
  (105, .invokestatic 252, 3, .null, [0, 0], g_X12_bitsOf),
  (108, .lreturn, 1, .null, [], z_g0)]
def a_X12_flow_92 {ρ : Type} (k : Int32 → Nat → Int32 → Int32 → z_St → Option ρ) (ls : z_Lv) (st : List Value) (S : z_St) : Option ρ := z_gI ls 2 fun v2 => z_pI st fun t2 s2 => z_pI s2 fun t1 s1 => z_pR s1 fun t0 s0 => z_p0 s0 (k v2 t0 t1 t2 S)
set_option maxRecDepth 100000 in
theorem r_X12_flow_92 (v2 : Int32) (t0 : Nat) (t1 : Int32) (t2 : Int32) (S : z_St) : z_seg z_rL (c_X12_flow) [92] (fun pc => fun _ _ _ => none) 64 (z_to 92 (c_X12_flow)) [(2, .int v2)] [.int t2, .int t1, .ref t0] S = j_X12_flow_92 v2 t0 t1 t2 S := rfl
set_option maxRecDepth 100000 in
theorem r_X12_flow (v0 : Nat) (v1 : Int32) (v2 : Int32) (S : z_St) : z_seg z_rL (c_X12_flow) [92] (fun pc => cond (Nat.beq pc 92) (a_X12_flow_92 (j_X12_flow_92)) (fun _ _ _ => none)) 64 (c_X12_flow) [(0, .ref v0), (1, .int v1), (2, .int v2)] [] S = b_X12_flow v0 v1 v2 S := rfl
def j_X12_test_261 (v5 : Int32) (t0 : Int32) (S : z_St) : Option (Int32 × z_St) :=
if t0 = v5 then
(some ((0 : Int32), S))
else
(some ((1 : Int32), S))
def b_X12_test (v0 : Nat) (v1 : Int32) (v2 : Int32) (v3 : Int32) (v4 : Int32) (v5 : Int32) (S : z_St) : Option (Int32 × z_St) :=
z_chk S v0 13 (
let S1 := z_wi S v0 0 ((0 : Int32))
z_chk S1 v0 13 (
(f_X12_noRow v0 v1 S1).bind fun q2 =>
if q2.1 = 0 then
((f_X12_in v4.toInt64 ((0 : Int64)) ((5 : Int64)) q2.2).bind fun q3 =>
if q3.1 = 0 then
(some ((-2000000002 : Int32), q3.2))
else
(if v1 = ((-1 : Int32)) then
(z_chk q3.2 v0 13 (
(f_X12_fails v0 ((1 : Int32)) q3.2).bind fun q17 =>
some (q17.1, q17.2)))
else
(z_chk q3.2 v0 13 (
z_onV (va_rf (z_r q3.2 v0 4)) fun b4 =>
z_inb q3.2 b4 101 v1 (
(f_X12_isReal ((z_i q3.2 b4 v1.toNatClampNeg)) q3.2).bind fun q5 =>
if q5.1 = 0 then
(some ((-2000000003 : Int32), q5.2))
else
(z_chk q5.2 v0 13 (
z_onV (va_rf (z_r q5.2 v0 5)) fun b6 =>
z_inb q5.2 b6 101 v1 (
(f_X12_in v2.toInt64 ((0 : Int64)) ((((z_i q5.2 b6 v1.toNatClampNeg)) - ((1 : Int32))).toInt64) q5.2).bind fun q7 =>
if q7.1 = 0 then
(z_chk q7.2 v0 13 (
(f_X12_fails v0 ((2 : Int32)) q7.2).bind fun q8 =>
some (q8.1, q8.2)))
else
(z_chk q7.2 v0 13 (
z_onV (va_rf (z_r q7.2 v0 5)) fun b9 =>
z_inb q7.2 b9 101 v1 (
(f_X12_in v3.toInt64 ((0 : Int64)) ((((z_i q7.2 b9 v1.toNatClampNeg)) - ((1 : Int32))).toInt64) q7.2).bind fun q10 =>
if q10.1 = 0 then
(z_chk q10.2 v0 13 (
(f_X12_fails v0 ((2 : Int32)) q10.2).bind fun q16 =>
some (q16.1, q16.2)))
else
(z_chk q10.2 v0 13 (
(f_X12_well v0 q10.2).bind fun q11 =>
z_chk q11 v0 13 (
z_onV (va_rf (z_r q11 v0 6)) fun b12 =>
z_inb q11 b12 102 ((((64 : Int32)) * v1) + v2) (
(f_X12_realOf ((z_l q11 b12 ((((64 : Int32)) * v1) + v2).toNatClampNeg)) q11).bind fun q13 =>
z_chk q13.2 v0 13 (
z_onV (va_rf (z_r q13.2 v0 6)) fun b14 =>
z_inb q13.2 b14 102 ((((64 : Int32)) * v1) + v3) (
(f_X12_realOf ((z_l q13.2 b14 ((((64 : Int32)) * v1) + v3).toNatClampNeg)) q13.2).bind fun q15 =>
if v4 = 0 then
(if 0 ≤ (Op.cmpValue (FP.dcmp q13.1 q15.1) .g) then
(j_X12_test_261 v5 ((0 : Int32)) q15.2)
else
(j_X12_test_261 v5 ((1 : Int32)) q15.2))
else
(if v4 = ((1 : Int32)) then
(if 0 < (Op.cmpValue (FP.dcmp q13.1 q15.1) .g) then
(j_X12_test_261 v5 ((0 : Int32)) q15.2)
else
(j_X12_test_261 v5 ((1 : Int32)) q15.2))
else
(if v4 = ((2 : Int32)) then
(if (Op.cmpValue (FP.dcmp q13.1 q15.1) .l) ≤ 0 then
(j_X12_test_261 v5 ((0 : Int32)) q15.2)
else
(j_X12_test_261 v5 ((1 : Int32)) q15.2))
else
(if v4 = ((3 : Int32)) then
(if (Op.cmpValue (FP.dcmp q13.1 q15.1) .l) < 0 then
(j_X12_test_261 v5 ((0 : Int32)) q15.2)
else
(j_X12_test_261 v5 ((1 : Int32)) q15.2))
else
(if v4 = ((4 : Int32)) then
(if (Op.cmpValue (FP.dcmp q13.1 q15.1) .l) = 0 then
(j_X12_test_261 v5 ((1 : Int32)) q15.2)
else
(j_X12_test_261 v5 ((0 : Int32)) q15.2))
else
(if (Op.cmpValue (FP.dcmp q13.1 q15.1) .l) = 0 then
(j_X12_test_261 v5 ((0 : Int32)) q15.2)
else
(j_X12_test_261 v5 ((1 : Int32)) q15.2)))))))))))))))))))))))
else
(some ((-2000000001 : Int32), q2.2))))
def f_X12_test : Nat → Int32 → Int32 → Int32 → Int32 → Int32 → z_St → Option (Int32 × z_St) := z_op (b_X12_test)
theorem e_X12_test (v0 : Nat) (v1 : Int32) (v2 : Int32) (v3 : Int32) (v4 : Int32) (v5 : Int32) (S : z_St) : f_X12_test v0 v1 v2 v3 v4 v5 S = b_X12_test v0 v1 v2 v3 v4 v5 S := congrFun (congrFun (congrFun (congrFun (congrFun (congrFun (congrFun (z_op_eq (b_X12_test)) v0) v1) v2) v3) v4) v5) S
def g_X12_test : z_G := .inl (fun as S => match as with
  | [.ref v0, .int v1, .int v2, .int v3, .int v4, .int v5] => f_X12_test v0 v1 v2 v3 v4 v5 S
  | _ => none)
def c_X12_test : List z_E := [
  (0, .aload_n 0, 1, .null, [], z_g0),
  (1, .iconst 0, 1, .int ((0 : Int32)), [], z_g0),
  (2, .putfield 224, 3, .null, [13, 0, 0], z_g0),
  (5, .aload_n 0, 1, .null, [], z_g0),
  (6, .iload_n 1, 1, .null, [], z_g0),
  (7, .invokevirtual 293, 3, .null, [1, 13, 0], g_X12_noRow),
  (10, .ifCond .eq 7, 3, .null, [17], z_g0),
  (13, .ldc_w 296, 3, .int (-2000000001 : Int32), [], z_g0),
  (16, .ireturn, 1, .null, [], z_g0),
  (17, .iload 4, 2, .null, [], z_g0),
  (19, .i2l, 1, .null, [], z_g0),
  (20, .lconst 0, 1, .long (0 : Int64), [], z_g0),
  (21, .ldc2_w 334, 3, .long (5 : Int64), [], z_g0),
  (24, .invokestatic 274, 3, .null, [0, 0, 0, 0], g_X12_in),
  (27, .ifCond .ne 7, 3, .null, [34], z_g0),
  (30, .ldc_w 280, 3, .int (-2000000002 : Int32), [], z_g0),
  (33, .ireturn, 1, .null, [], z_g0),
  (34, .iload_n 1, 1, .null, [], z_g0),
  (35, .iconst (-1), 1, .int ((-1 : Int32)), [], z_g0),
  (36, .if_icmp .ne 9, 3, .null, [45], z_g0),
  (39, .aload_n 0, 1, .null, [], z_g0),
  (40, .iconst 1, 1, .int ((1 : Int32)), [], z_g0),
  (41, .invokevirtual 282, 3, .null, [1, 13, 0], g_X12_fails),
  (44, .ireturn, 1, .null, [], z_g0),
  (45, .aload_n 0, 1, .null, [], z_g0),
  (46, .getfield 7, 3, .null, [13, 4, 3], z_g0),
  (49, .iload_n 1, 1, .null, [], z_g0),
  (50, .iaload, 1, .null, [101], z_g0),
  (51, .invokestatic 257, 3, .null, [0, 0], g_X12_isReal),
  (54, .ifCond .ne 7, 3, .null, [61], z_g0),
  (57, .ldc_w 410, 3, .int (-2000000003 : Int32), [], z_g0),
  (60, .ireturn, 1, .null, [], z_g0),
  (61, .iload_n 2, 1, .null, [], z_g0),
  (62, .i2l, 1, .null, [], z_g0),
  (63, .lconst 0, 1, .long (0 : Int64), [], z_g0),
  (64, .aload_n 0, 1, .null, [], z_g0),
  (65, .getfield 13, 3, .null, [13, 5, 3], z_g0),
  (68, .iload_n 1, 1, .null, [], z_g0),
  (69, .iaload, 1, .null, [101], z_g0),
  (70, .iconst 1, 1, .int ((1 : Int32)), [], z_g0),
  (71, .isub, 1, .null, [], z_g0),
  (72, .i2l, 1, .null, [], z_g0),
  (73, .invokestatic 274, 3, .null, [0, 0, 0, 0], g_X12_in),
  (76, .ifCond .eq 21, 3, .null, [97], z_g0),
  (79, .iload_n 3, 1, .null, [], z_g0),
  (80, .i2l, 1, .null, [], z_g0),
  (81, .lconst 0, 1, .long (0 : Int64), [], z_g0),
  (82, .aload_n 0, 1, .null, [], z_g0),
  (83, .getfield 13, 3, .null, [13, 5, 3], z_g0),
  (86, .iload_n 1, 1, .null, [], z_g0),
  (87, .iaload, 1, .null, [101], z_g0),
  (88, .iconst 1, 1, .int ((1 : Int32)), [], z_g0),
  (89, .isub, 1, .null, [], z_g0),
  (90, .i2l, 1, .null, [], z_g0),
  (91, .invokestatic 274, 3, .null, [0, 0, 0, 0], g_X12_in),
  (94, .ifCond .ne 9, 3, .null, [103], z_g0),
  (97, .aload_n 0, 1, .null, [], z_g0),
  (98, .iconst 2, 1, .int ((2 : Int32)), [], z_g0),
  (99, .invokevirtual 282, 3, .null, [1, 13, 0], g_X12_fails),
  (102, .ireturn, 1, .null, [], z_g0),
  (103, .aload_n 0, 1, .null, [], z_g0),
  (104, .invokevirtual 286, 3, .null, [1, 13], g_X12_well),
  (107, .aload_n 0, 1, .null, [], z_g0),
  (108, .getfield 16, 3, .null, [13, 6, 3], z_g0),
  (111, .bipush 64, 2, .int ((64 : Int32)), [], z_g0),
  (113, .iload_n 1, 1, .null, [], z_g0),
  (114, .imul, 1, .null, [], z_g0),
  (115, .iload_n 2, 1, .null, [], z_g0),
  (116, .iadd, 1, .null, [], z_g0),
  (117, .laload, 1, .null, [], z_g0),
  (118, .invokestatic 262, 3, .null, [0, 0], g_X12_realOf),
  (121, .dstore 6, 2, .null, [], z_g0),
  (123, .aload_n 0, 1, .null, [], z_g0),
  (124, .getfield 16, 3, .null, [13, 6, 3], z_g0),
  (127, .bipush 64, 2, .int ((64 : Int32)), [], z_g0),
  (129, .iload_n 1, 1, .null, [], z_g0),
  (130, .imul, 1, .null, [], z_g0),
  (131, .iload_n 3, 1, .null, [], z_g0),
  (132, .iadd, 1, .null, [], z_g0),
  (133, .laload, 1, .null, [], z_g0),
  (134, .invokestatic 262, 3, .null, [0, 0], g_X12_realOf),
  (137, .dstore 8, 2, .null, [], z_g0),
  (139, .iload 4, 2, .null, [], z_g0),
  (141, .ifCond .ne 19, 3, .null, [160], z_g0),
  (144, .dload 6, 2, .null, [], z_g0),
  (146, .dload 8, 2, .null, [], z_g0),
  (148, .dcmp .g, 1, .null, [], z_g0),
  (149, .ifCond .ge 7, 3, .null, [156], z_g0),
  (152, .iconst 1, 1, .int ((1 : Int32)), [], z_g0),
  (153, .goto 108, 3, .null, [261], z_g0),
  (156, .iconst 0, 1, .int ((0 : Int32)), [], z_g0),
  (157, .goto 104, 3, .null, [261], z_g0),
  (160, .iload 4, 2, .null, [], z_g0),
  (162, .iconst 1, 1, .int ((1 : Int32)), [], z_g0),
  (163, .if_icmp .ne 19, 3, .null, [182], z_g0),
  (166, .dload 6, 2, .null, [], z_g0),
  (168, .dload 8, 2, .null, [], z_g0),
  (170, .dcmp .g, 1, .null, [], z_g0),
  (171, .ifCond .gt 7, 3, .null, [178], z_g0),
  (174, .iconst 1, 1, .int ((1 : Int32)), [], z_g0),
  (175, .goto 86, 3, .null, [261], z_g0),
  (178, .iconst 0, 1, .int ((0 : Int32)), [], z_g0),
  (179, .goto 82, 3, .null, [261], z_g0),
  (182, .iload 4, 2, .null, [], z_g0),
  (184, .iconst 2, 1, .int ((2 : Int32)), [], z_g0),
  (185, .if_icmp .ne 19, 3, .null, [204], z_g0),
  (188, .dload 6, 2, .null, [], z_g0),
  (190, .dload 8, 2, .null, [], z_g0),
  (192, .dcmp .l, 1, .null, [], z_g0),
  (193, .ifCond .le 7, 3, .null, [200], z_g0),
  (196, .iconst 1, 1, .int ((1 : Int32)), [], z_g0),
  (197, .goto 64, 3, .null, [261], z_g0),
  (200, .iconst 0, 1, .int ((0 : Int32)), [], z_g0),
  (201, .goto 60, 3, .null, [261], z_g0),
  (204, .iload 4, 2, .null, [], z_g0),
  (206, .iconst 3, 1, .int ((3 : Int32)), [], z_g0),
  (207, .if_icmp .ne 19, 3, .null, [226], z_g0),
  (210, .dload 6, 2, .null, [], z_g0),
  (212, .dload 8, 2, .null, [], z_g0),
  (214, .dcmp .l, 1, .null, [], z_g0),
  (215, .ifCond .lt 7, 3, .null, [222], z_g0),
  (218, .iconst 1, 1, .int ((1 : Int32)), [], z_g0),
  (219, .goto 42, 3, .null, [261], z_g0),
  (222, .iconst 0, 1, .int ((0 : Int32)), [], z_g0),
  (223, .goto 38, 3, .null, [261], z_g0),
  (226, .iload 4, 2, .null, [], z_g0),
  (228, .iconst 4, 1, .int ((4 : Int32)), [], z_g0),
  (229, .if_icmp .ne 19, 3, .null, [248], z_g0),
  (232, .dload 6, 2, .null, [], z_g0),
  (234, .dload 8, 2, .null, [], z_g0),
  (236, .dcmp .l, 1, .null, [], z_g0),
  (237, .ifCond .ne 7, 3, .null, [244], z_g0),
  (240, .iconst 1, 1, .int ((1 : Int32)), [], z_g0),
  (241, .goto 20, 3, .null, [261], z_g0),
  (244, .iconst 0, 1, .int ((0 : Int32)), [], z_g0),
  (245, .goto 16, 3, .null, [261], z_g0),
  (248, .dload 6, 2, .null, [], z_g0),
  (250, .dload 8, 2, .null, [], z_g0),
  (252, .dcmp .l, 1, .null, [], z_g0),
  (253, .ifCond .eq 7, 3, .null, [260], z_g0),
  (256, .iconst 1, 1, .int ((1 : Int32)), [], z_g0),
  (257, .goto 4, 3, .null, [261], z_g0),
  (260, .iconst 0, 1, .int ((0 : Int32)), [], z_g0),
  (261, .istore 10, 2, .null, [], z_g0),
  (263, .iload 10, 2, .null, [], z_g0),
  (265, .iload 5, 2, .null, [], z_g0),
  (267, .if_icmp .eq 7, 3, .null, [274], z_g0),
  (270, .iconst 1, 1, .int ((1 : Int32)), [], z_g0),
  (271, .goto 4, 3, .null, [275], z_g0),
  (274, .iconst 0, 1, .int ((0 : Int32)), [], z_g0),
  (275, .ireturn, 1, .null, [], z_g0)]
def a_X12_test_261 {ρ : Type} (k : Int32 → Int32 → z_St → Option ρ) (ls : z_Lv) (st : List Value) (S : z_St) : Option ρ := z_gI ls 5 fun v5 => z_pI st fun t0 s0 => z_p0 s0 (k v5 t0 S)
set_option maxRecDepth 100000 in
theorem r_X12_test_261 (v5 : Int32) (t0 : Int32) (S : z_St) : z_seg z_rI (c_X12_test) [261] (fun pc => fun _ _ _ => none) 154 (z_to 261 (c_X12_test)) [(5, .int v5)] [.int t0] S = j_X12_test_261 v5 t0 S := rfl
set_option maxRecDepth 100000 in
theorem r_X12_test (v0 : Nat) (v1 : Int32) (v2 : Int32) (v3 : Int32) (v4 : Int32) (v5 : Int32) (S : z_St) : z_seg z_rI (c_X12_test) [261] (fun pc => cond (Nat.beq pc 261) (a_X12_test_261 (j_X12_test_261)) (fun _ _ _ => none)) 154 (c_X12_test) [(0, .ref v0), (1, .int v1), (2, .int v2), (3, .int v3), (4, .int v4), (5, .int v5)] [] S = b_X12_test v0 v1 v2 v3 v4 v5 S := rfl
def j_X12_held_61 (v0 : Int64) (v5 : Int64) (t0 : Int32) (S : z_St) : Option (Int64 × z_St) :=
if t0 = 0 then
(some (v5, S))
else
(if 0 ≤ (lg_cmp v0 ((0 : Int64))) then
(some ((9223372036854775807 : Int64), S))
else
(some ((-9223372036854775808 : Int64), S)))
def j_X12_held_14 (v0 : Int64) (v2 : Int64) (v4 : Int32) (t0 : Int64) (S : z_St) : Option (Int64 × z_St) :=
if v4 = 0 then
(if 0 ≤ (lg_cmp ((v0 ^^^ t0) &&& (v2 ^^^ t0)) ((0 : Int64))) then
(j_X12_held_61 v0 t0 ((0 : Int32)) S)
else
(j_X12_held_61 v0 t0 ((1 : Int32)) S))
else
(if 0 ≤ (lg_cmp ((v0 ^^^ v2) &&& (v0 ^^^ t0)) ((0 : Int64))) then
(j_X12_held_61 v0 t0 ((0 : Int32)) S)
else
(j_X12_held_61 v0 t0 ((1 : Int32)) S))
def b_X12_held (v0 : Int64) (v2 : Int64) (v4 : Int32) (S : z_St) : Option (Int64 × z_St) :=
if v4 = 0 then
(j_X12_held_14 v0 v2 v4 (v0 + v2) S)
else
(j_X12_held_14 v0 v2 v4 (v0 - v2) S)
def f_X12_held : Int64 → Int64 → Int32 → z_St → Option (Int64 × z_St) := z_op (b_X12_held)
theorem e_X12_held (v0 : Int64) (v2 : Int64) (v4 : Int32) (S : z_St) : f_X12_held v0 v2 v4 S = b_X12_held v0 v2 v4 S := congrFun (congrFun (congrFun (congrFun (z_op_eq (b_X12_held)) v0) v2) v4) S
def g_X12_held : z_G := .inr (.inl (fun as S => match as with
  | [.long v0, .long v2, .int v4] => f_X12_held v0 v2 v4 S
  | _ => none))
def c_X12_held : List z_E := [
  (0, .iload 4, 2, .null, [], z_g0),
  (2, .ifCond .eq 9, 3, .null, [11], z_g0),
  (5, .lload_n 0, 1, .null, [], z_g0),
  (6, .lload_n 2, 1, .null, [], z_g0),
  (7, .lsub, 1, .null, [], z_g0),
  (8, .goto 6, 3, .null, [14], z_g0),
  (11, .lload_n 0, 1, .null, [], z_g0),
  (12, .lload_n 2, 1, .null, [], z_g0),
  (13, .ladd, 1, .null, [], z_g0),
  (14, .lstore 5, 2, .null, [], z_g0),
  (16, .iload 4, 2, .null, [], z_g0),
  (18, .ifCond .eq 24, 3, .null, [42], z_g0),
  (21, .lload_n 0, 1, .null, [], z_g0),
  (22, .lload_n 2, 1, .null, [], z_g0),
  (23, .lxor, 1, .null, [], z_g0),
  (24, .lload_n 0, 1, .null, [], z_g0),
  (25, .lload 5, 2, .null, [], z_g0),
  (27, .lxor, 1, .null, [], z_g0),
  (28, .land, 1, .null, [], z_g0),
  (29, .lconst 0, 1, .long (0 : Int64), [], z_g0),
  (30, .lcmp, 1, .null, [], z_g0),
  (31, .ifCond .ge 7, 3, .null, [38], z_g0),
  (34, .iconst 1, 1, .int ((1 : Int32)), [], z_g0),
  (35, .goto 26, 3, .null, [61], z_g0),
  (38, .iconst 0, 1, .int ((0 : Int32)), [], z_g0),
  (39, .goto 22, 3, .null, [61], z_g0),
  (42, .lload_n 0, 1, .null, [], z_g0),
  (43, .lload 5, 2, .null, [], z_g0),
  (45, .lxor, 1, .null, [], z_g0),
  (46, .lload_n 2, 1, .null, [], z_g0),
  (47, .lload 5, 2, .null, [], z_g0),
  (49, .lxor, 1, .null, [], z_g0),
  (50, .land, 1, .null, [], z_g0),
  (51, .lconst 0, 1, .long (0 : Int64), [], z_g0),
  (52, .lcmp, 1, .null, [], z_g0),
  (53, .ifCond .ge 7, 3, .null, [60], z_g0),
  (56, .iconst 1, 1, .int ((1 : Int32)), [], z_g0),
  (57, .goto 4, 3, .null, [61], z_g0),
  (60, .iconst 0, 1, .int ((0 : Int32)), [], z_g0),
  (61, .istore 7, 2, .null, [], z_g0),
  (63, .iload 7, 2, .null, [], z_g0),
  (65, .ifCond .ne 8, 3, .null, [73], z_g0),
  (68, .lload 5, 2, .null, [], z_g0),
  (70, .goto 18, 3, .null, [88], z_g0),
  (73, .lload_n 0, 1, .null, [], z_g0),
  (74, .lconst 0, 1, .long (0 : Int64), [], z_g0),
  (75, .lcmp, 1, .null, [], z_g0),
  (76, .ifCond .ge 9, 3, .null, [85], z_g0),
  (79, .ldc2_w 411, 3, .long (-9223372036854775808 : Int64), [], z_g0),
  (82, .goto 6, 3, .null, [88], z_g0),
  (85, .ldc2_w 234, 3, .long (9223372036854775807 : Int64), [], z_g0),
  (88, .lreturn, 1, .null, [], z_g0)]
def a_X12_held_14 {ρ : Type} (k : Int64 → Int64 → Int32 → Int64 → z_St → Option ρ) (ls : z_Lv) (st : List Value) (S : z_St) : Option ρ := z_gJ ls 0 fun v0 => z_gJ ls 2 fun v2 => z_gI ls 4 fun v4 => z_pJ st fun t0 s0 => z_p0 s0 (k v0 v2 v4 t0 S)
def a_X12_held_61 {ρ : Type} (k : Int64 → Int64 → Int32 → z_St → Option ρ) (ls : z_Lv) (st : List Value) (S : z_St) : Option ρ := z_gJ ls 0 fun v0 => z_gJ ls 5 fun v5 => z_pI st fun t0 s0 => z_p0 s0 (k v0 v5 t0 S)
set_option maxRecDepth 100000 in
theorem r_X12_held_61 (v0 : Int64) (v5 : Int64) (t0 : Int32) (S : z_St) : z_seg z_rL (c_X12_held) [14, 61] (fun pc => fun _ _ _ => none) 55 (z_to 61 (c_X12_held)) [(0, .long v0), (5, .long v5)] [.int t0] S = j_X12_held_61 v0 v5 t0 S := rfl
set_option maxRecDepth 100000 in
theorem r_X12_held_14 (v0 : Int64) (v2 : Int64) (v4 : Int32) (t0 : Int64) (S : z_St) : z_seg z_rL (c_X12_held) [14, 61] (fun pc => cond (Nat.beq pc 61) (a_X12_held_61 (j_X12_held_61)) (fun _ _ _ => none)) 55 (z_to 14 (c_X12_held)) [(0, .long v0), (2, .long v2), (4, .int v4)] [.long t0] S = j_X12_held_14 v0 v2 v4 t0 S := rfl
set_option maxRecDepth 100000 in
theorem r_X12_held (v0 : Int64) (v2 : Int64) (v4 : Int32) (S : z_St) : z_seg z_rL (c_X12_held) [14, 61] (fun pc => cond (Nat.beq pc 14) (a_X12_held_14 (j_X12_held_14)) (fun _ _ _ => none)) 55 (c_X12_held) [(0, .long v0), (2, .long v2), (4, .int v4)] [] S = b_X12_held v0 v2 v4 S := rfl
def j_X12_quotient_74 (v0 : Nat) (v1 : Int64) (v3 : Int64) (v5 : Int32) (S : z_St) : Option (Int64 × z_St) :=
z_chk S v0 13 (
(f_X12_well v0 S).bind fun q5 =>
if v5 = (0 : Int32) then
(z_nzl v3 (
some (v1 / v3, q5)))
else
if v5 = (1 : Int32) then
(z_nzl v3 (
some (v1 - v1 / v3 * v3, q5)))
else
if v5 = (2 : Int32) then
(z_nz v3.toInt32 (
some ((v1.toInt32 / v3.toInt32).toInt64, q5)))
else
if v5 = (3 : Int32) then
(z_nz v3.toInt32 (
some ((v1.toInt32 - v1.toInt32 / v3.toInt32 * v3.toInt32).toInt64, q5)))
else
(if v5 = ((5 : Int32)) then
((f_X12_held v1 v3 ((1 : Int32)) q5).bind fun q7 =>
some (q7.1, q7.2))
else
((f_X12_held v1 v3 ((0 : Int32)) q5).bind fun q6 =>
some (q6.1, q6.2))))
def j_X12_quotient_39 (v0 : Nat) (v1 : Int64) (v3 : Int64) (v5 : Int32) (t0 : Int32) (S : z_St) : Option (Int64 × z_St) :=
if ((4 : Int32)) ≤ v5 then
(j_X12_quotient_74 v0 v1 v3 v5 S)
else
(if t0 = 0 then
(if (lg_cmp v3 ((0 : Int64))) = 0 then
(z_chk S v0 13 (
(f_X12_fails v0 ((6 : Int32)) S).bind fun q3 =>
some (q3.1.toInt64, q3.2)))
else
(j_X12_quotient_74 v0 v1 v3 v5 S))
else
(if v3.toInt32 = 0 then
(z_chk S v0 13 (
(f_X12_fails v0 ((6 : Int32)) S).bind fun q4 =>
some (q4.1.toInt64, q4.2)))
else
(j_X12_quotient_74 v0 v1 v3 v5 S)))
def b_X12_quotient (v0 : Nat) (v1 : Int64) (v3 : Int64) (v5 : Int32) (S : z_St) : Option (Int64 × z_St) :=
z_chk S v0 13 (
let S1 := z_wi S v0 0 ((0 : Int32))
(f_X12_in v5.toInt64 ((0 : Int64)) ((5 : Int64)) S1).bind fun q2 =>
if q2.1 = 0 then
(some ((-2000000002 : Int64), q2.2))
else
(if v5 = ((2 : Int32)) then
(j_X12_quotient_39 v0 v1 v3 v5 ((1 : Int32)) q2.2)
else
(if v5 = ((3 : Int32)) then
(j_X12_quotient_39 v0 v1 v3 v5 ((1 : Int32)) q2.2)
else
(j_X12_quotient_39 v0 v1 v3 v5 ((0 : Int32)) q2.2))))
def f_X12_quotient : Nat → Int64 → Int64 → Int32 → z_St → Option (Int64 × z_St) := z_op (b_X12_quotient)
theorem e_X12_quotient (v0 : Nat) (v1 : Int64) (v3 : Int64) (v5 : Int32) (S : z_St) : f_X12_quotient v0 v1 v3 v5 S = b_X12_quotient v0 v1 v3 v5 S := congrFun (congrFun (congrFun (congrFun (congrFun (z_op_eq (b_X12_quotient)) v0) v1) v3) v5) S
def g_X12_quotient : z_G := .inr (.inl (fun as S => match as with
  | [.ref v0, .long v1, .long v3, .int v5] => f_X12_quotient v0 v1 v3 v5 S
  | _ => none))
def c_X12_quotient : List z_E := [
  (0, .aload_n 0, 1, .null, [], z_g0),
  (1, .iconst 0, 1, .int ((0 : Int32)), [], z_g0),
  (2, .putfield 224, 3, .null, [13, 0, 0], z_g0),
  (5, .iload 5, 2, .null, [], z_g0),
  (7, .i2l, 1, .null, [], z_g0),
  (8, .lconst 0, 1, .long (0 : Int64), [], z_g0),
  (9, .ldc2_w 334, 3, .long (5 : Int64), [], z_g0),
  (12, .invokestatic 274, 3, .null, [0, 0, 0, 0], g_X12_in),
  (15, .ifCond .ne 7, 3, .null, [22], z_g0),
  (18, .ldc2_w 398, 3, .long (-2000000002 : Int64), [], z_g0),
  (21, .lreturn, 1, .null, [], z_g0),
  (22, .iload 5, 2, .null, [], z_g0),
  (24, .iconst 2, 1, .int ((2 : Int32)), [], z_g0),
  (25, .if_icmp .eq 9, 3, .null, [34], z_g0),
  (28, .iload 5, 2, .null, [], z_g0),
  (30, .iconst 3, 1, .int ((3 : Int32)), [], z_g0),
  (31, .if_icmp .ne 7, 3, .null, [38], z_g0),
  (34, .iconst 1, 1, .int ((1 : Int32)), [], z_g0),
  (35, .goto 4, 3, .null, [39], z_g0),
  (38, .iconst 0, 1, .int ((0 : Int32)), [], z_g0),
  (39, .istore 6, 2, .null, [], z_g0),
  (41, .iload 5, 2, .null, [], z_g0),
  (43, .iconst 4, 1, .int ((4 : Int32)), [], z_g0),
  (44, .if_icmp .ge 30, 3, .null, [74], z_g0),
  (47, .iload 6, 2, .null, [], z_g0),
  (49, .ifCond .eq 11, 3, .null, [60], z_g0),
  (52, .lload_n 3, 1, .null, [], z_g0),
  (53, .l2i, 1, .null, [], z_g0),
  (54, .ifCond .ne 20, 3, .null, [74], z_g0),
  (57, .goto 9, 3, .null, [66], z_g0),
  (60, .lload_n 3, 1, .null, [], z_g0),
  (61, .lconst 0, 1, .long (0 : Int64), [], z_g0),
  (62, .lcmp, 1, .null, [], z_g0),
  (63, .ifCond .ne 11, 3, .null, [74], z_g0),
  (66, .aload_n 0, 1, .null, [], z_g0),
  (67, .bipush 6, 2, .int ((6 : Int32)), [], z_g0),
  (69, .invokevirtual 282, 3, .null, [1, 13, 0], g_X12_fails),
  (72, .i2l, 1, .null, [], z_g0),
  (73, .lreturn, 1, .null, [], z_g0),
  (74, .aload_n 0, 1, .null, [], z_g0),
  (75, .invokevirtual 286, 3, .null, [1, 13], g_X12_well),
  (78, .iload 5, 2, .null, [], z_g0),
  (80, .tableswitch 54 0 3 #[32, 36, 40, 47], 32, .null, [134, 0, 112, 116, 120, 127], z_g0),
  (112, .lload_n 1, 1, .null, [], z_g0),
  (113, .lload_n 3, 1, .null, [], z_g0),
  (114, .ldiv, 1, .null, [], z_g0),
  (115, .lreturn, 1, .null, [], z_g0),
  (116, .lload_n 1, 1, .null, [], z_g0),
  (117, .lload_n 3, 1, .null, [], z_g0),
  (118, .lrem, 1, .null, [], z_g0),
  (119, .lreturn, 1, .null, [], z_g0),
  (120, .lload_n 1, 1, .null, [], z_g0),
  (121, .l2i, 1, .null, [], z_g0),
  (122, .lload_n 3, 1, .null, [], z_g0),
  (123, .l2i, 1, .null, [], z_g0),
  (124, .idiv, 1, .null, [], z_g0),
  (125, .i2l, 1, .null, [], z_g0),
  (126, .lreturn, 1, .null, [], z_g0),
  (127, .lload_n 1, 1, .null, [], z_g0),
  (128, .l2i, 1, .null, [], z_g0),
  (129, .lload_n 3, 1, .null, [], z_g0),
  (130, .l2i, 1, .null, [], z_g0),
  (131, .irem, 1, .null, [], z_g0),
  (132, .i2l, 1, .null, [], z_g0),
  (133, .lreturn, 1, .null, [], z_g0),
  (134, .lload_n 1, 1, .null, [], z_g0),
  (135, .lload_n 3, 1, .null, [], z_g0),
  (136, .iload 5, 2, .null, [], z_g0),
  (138, .iconst 5, 1, .int ((5 : Int32)), [], z_g0),
  (139, .if_icmp .ne 7, 3, .null, [146], z_g0),
  (142, .iconst 1, 1, .int ((1 : Int32)), [], z_g0),
  (143, .goto 4, 3, .null, [147], z_g0),
  (146, .iconst 0, 1, .int ((0 : Int32)), [], z_g0),
  (147, .invokestatic 413, 3, .null, [0, 0, 0, 0], g_X12_held),
  (150, .lreturn, 1, .null, [], z_g0)]
def a_X12_quotient_39 {ρ : Type} (k : Nat → Int64 → Int64 → Int32 → Int32 → z_St → Option ρ) (ls : z_Lv) (st : List Value) (S : z_St) : Option ρ := z_gR ls 0 fun v0 => z_gJ ls 1 fun v1 => z_gJ ls 3 fun v3 => z_gI ls 5 fun v5 => z_pI st fun t0 s0 => z_p0 s0 (k v0 v1 v3 v5 t0 S)
def a_X12_quotient_74 {ρ : Type} (k : Nat → Int64 → Int64 → Int32 → z_St → Option ρ) (ls : z_Lv) (st : List Value) (S : z_St) : Option ρ := z_gR ls 0 fun v0 => z_gJ ls 1 fun v1 => z_gJ ls 3 fun v3 => z_gI ls 5 fun v5 => z_p0 st (k v0 v1 v3 v5 S)
set_option maxRecDepth 100000 in
theorem r_X12_quotient_74 (v0 : Nat) (v1 : Int64) (v3 : Int64) (v5 : Int32) (S : z_St) : z_seg z_rL (c_X12_quotient) [39, 74] (fun pc => fun _ _ _ => none) 78 (z_to 74 (c_X12_quotient)) [(0, .ref v0), (1, .long v1), (3, .long v3), (5, .int v5)] [] S = j_X12_quotient_74 v0 v1 v3 v5 S := rfl
set_option maxRecDepth 100000 in
theorem r_X12_quotient_39 (v0 : Nat) (v1 : Int64) (v3 : Int64) (v5 : Int32) (t0 : Int32) (S : z_St) : z_seg z_rL (c_X12_quotient) [39, 74] (fun pc => cond (Nat.beq pc 74) (a_X12_quotient_74 (j_X12_quotient_74)) (fun _ _ _ => none)) 78 (z_to 39 (c_X12_quotient)) [(0, .ref v0), (1, .long v1), (3, .long v3), (5, .int v5)] [.int t0] S = j_X12_quotient_39 v0 v1 v3 v5 t0 S := rfl
set_option maxRecDepth 100000 in
theorem r_X12_quotient (v0 : Nat) (v1 : Int64) (v3 : Int64) (v5 : Int32) (S : z_St) : z_seg z_rL (c_X12_quotient) [39, 74] (fun pc => cond (Nat.beq pc 39) (a_X12_quotient_39 (j_X12_quotient_39)) (fun _ _ _ => none)) 78 (c_X12_quotient) [(0, .ref v0), (1, .long v1), (3, .long v3), (5, .int v5)] [] S = b_X12_quotient v0 v1 v3 v5 S := rfl
def b_X12_isStep (v0 : Int32) (v1 : Int32) (v2 : Int32) (v3 : Int32) (v4 : Int32) (S : z_St) : Option (Int32 × z_St) :=
if v0 = (1 : Int32) then
((f_X12_in v1.toInt64 ((0 : Int64)) ((1000000000 : Int64)) S).bind fun q1 =>
z_rb q1.1 q1.2)
else
if v0 = (2 : Int32) then
((f_X12_in v1.toInt64 ((1 : Int64)) ((8 : Int64)) S).bind fun q2 =>
if q2.1 = 0 then
(z_rb ((0 : Int32)) q2.2)
else
((f_X12_in v2.toInt64 ((0 : Int64)) ((99 : Int64)) q2.2).bind fun q3 =>
if q3.1 = 0 then
(z_rb ((0 : Int32)) q3.2)
else
(z_rb ((1 : Int32)) q3.2)))
else
if v0 = (3 : Int32) then
((f_X12_in v1.toInt64 ((0 : Int64)) ((3 : Int64)) S).bind fun q4 =>
z_rb q4.1 q4.2)
else
if v0 = (4 : Int32) then
((f_X12_in v1.toInt64 ((0 : Int64)) ((3 : Int64)) S).bind fun q5 =>
z_rb q5.1 q5.2)
else
if v0 = (5 : Int32) then
((f_X12_in v0.toInt64 ((0 : Int64)) ((9 : Int64)) S).bind fun q6 =>
z_rb q6.1 q6.2)
else
if v0 = (6 : Int32) then
((f_X12_in v1.toInt64 ((0 : Int64)) ((11 : Int64)) S).bind fun q7 =>
z_rb q7.1 q7.2)
else
if v0 = (7 : Int32) then
((f_X12_in v1.toInt64 ((0 : Int64)) ((11 : Int64)) S).bind fun q8 =>
if q8.1 = 0 then
(z_rb ((0 : Int32)) q8.2)
else
((f_X12_in v2.toInt64 ((0 : Int64)) ((9 : Int64)) q8.2).bind fun q9 =>
if q9.1 = 0 then
(z_rb ((0 : Int32)) q9.2)
else
((f_X12_in v3.toInt64 ((-1 : Int64)) ((11 : Int64)) q9.2).bind fun q10 =>
if q10.1 = 0 then
(z_rb ((0 : Int32)) q10.2)
else
((f_X12_in v4.toInt64 ((-1 : Int64)) ((11 : Int64)) q10.2).bind fun q11 =>
if q11.1 = 0 then
(z_rb ((0 : Int32)) q11.2)
else
(z_rb ((1 : Int32)) q11.2)))))
else
((f_X12_in v0.toInt64 ((0 : Int64)) ((9 : Int64)) S).bind fun q12 =>
z_rb q12.1 q12.2)
def f_X12_isStep : Int32 → Int32 → Int32 → Int32 → Int32 → z_St → Option (Int32 × z_St) := z_op (b_X12_isStep)
theorem e_X12_isStep (v0 : Int32) (v1 : Int32) (v2 : Int32) (v3 : Int32) (v4 : Int32) (S : z_St) : f_X12_isStep v0 v1 v2 v3 v4 S = b_X12_isStep v0 v1 v2 v3 v4 S := congrFun (congrFun (congrFun (congrFun (congrFun (congrFun (z_op_eq (b_X12_isStep)) v0) v1) v2) v3) v4) S
def g_X12_isStep : z_G := .inl (fun as S => match as with
  | [.int v0, .int v1, .int v2, .int v3, .int v4] => f_X12_isStep v0 v1 v2 v3 v4 S
  | _ => none)
def c_X12_isStep : List z_E := [
  (0, .iload_n 0, 1, .null, [], z_g0),
  (1, .tableswitch 162 1 7 #[43, 53, 83, 83, 162, 93, 103], 43, .null, [163, 1, 44, 54, 84, 84, 163, 94, 104], z_g0),
  (44, .iload_n 1, 1, .null, [], z_g0),
  (45, .i2l, 1, .null, [], z_g0),
  (46, .lconst 0, 1, .long (0 : Int64), [], z_g0),
  (47, .ldc2_w 417, 3, .long (1000000000 : Int64), [], z_g0),
  (50, .invokestatic 274, 3, .null, [0, 0, 0, 0], g_X12_in),
  (53, .ireturn, 1, .null, [], z_g0),
  (54, .iload_n 1, 1, .null, [], z_g0),
  (55, .i2l, 1, .null, [], z_g0),
  (56, .lconst 1, 1, .long (1 : Int64), [], z_g0),
  (57, .ldc2_w 419, 3, .long (8 : Int64), [], z_g0),
  (60, .invokestatic 274, 3, .null, [0, 0, 0, 0], g_X12_in),
  (63, .ifCond .eq 19, 3, .null, [82], z_g0),
  (66, .iload_n 2, 1, .null, [], z_g0),
  (67, .i2l, 1, .null, [], z_g0),
  (68, .lconst 0, 1, .long (0 : Int64), [], z_g0),
  (69, .ldc2_w 421, 3, .long (99 : Int64), [], z_g0),
  (72, .invokestatic 274, 3, .null, [0, 0, 0, 0], g_X12_in),
  (75, .ifCond .eq 7, 3, .null, [82], z_g0),
  (78, .iconst 1, 1, .int ((1 : Int32)), [], z_g0),
  (79, .goto 4, 3, .null, [83], z_g0),
  (82, .iconst 0, 1, .int ((0 : Int32)), [], z_g0),
  (83, .ireturn, 1, .null, [], z_g0),
  (84, .iload_n 1, 1, .null, [], z_g0),
  (85, .i2l, 1, .null, [], z_g0),
  (86, .lconst 0, 1, .long (0 : Int64), [], z_g0),
  (87, .ldc2_w 423, 3, .long (3 : Int64), [], z_g0),
  (90, .invokestatic 274, 3, .null, [0, 0, 0, 0], g_X12_in),
  (93, .ireturn, 1, .null, [], z_g0),
  (94, .iload_n 1, 1, .null, [], z_g0),
  (95, .i2l, 1, .null, [], z_g0),
  (96, .lconst 0, 1, .long (0 : Int64), [], z_g0),
  (97, .ldc2_w 425, 3, .long (11 : Int64), [], z_g0),
  (100, .invokestatic 274, 3, .null, [0, 0, 0, 0], g_X12_in),
  (103, .ireturn, 1, .null, [], z_g0),
  (104, .iload_n 1, 1, .null, [], z_g0),
  (105, .i2l, 1, .null, [], z_g0),
  (106, .lconst 0, 1, .long (0 : Int64), [], z_g0),
  (107, .ldc2_w 425, 3, .long (11 : Int64), [], z_g0),
  (110, .invokestatic 274, 3, .null, [0, 0, 0, 0], g_X12_in),
  (113, .ifCond .eq 48, 3, .null, [161], z_g0),
  (116, .iload_n 2, 1, .null, [], z_g0),
  (117, .i2l, 1, .null, [], z_g0),
  (118, .lconst 0, 1, .long (0 : Int64), [], z_g0),
  (119, .ldc2_w 362, 3, .long (9 : Int64), [], z_g0),
  (122, .invokestatic 274, 3, .null, [0, 0, 0, 0], g_X12_in),
  (125, .ifCond .eq 36, 3, .null, [161], z_g0),
  (128, .iload_n 3, 1, .null, [], z_g0),
  (129, .i2l, 1, .null, [], z_g0),
  (130, .ldc2_w 427, 3, .long (-1 : Int64), [], z_g0),
  (133, .ldc2_w 425, 3, .long (11 : Int64), [], z_g0),
  (136, .invokestatic 274, 3, .null, [0, 0, 0, 0], g_X12_in),
  (139, .ifCond .eq 22, 3, .null, [161], z_g0),
  (142, .iload 4, 2, .null, [], z_g0),
  (144, .i2l, 1, .null, [], z_g0),
  (145, .ldc2_w 427, 3, .long (-1 : Int64), [], z_g0),
  (148, .ldc2_w 425, 3, .long (11 : Int64), [], z_g0),
  (151, .invokestatic 274, 3, .null, [0, 0, 0, 0], g_X12_in),
  (154, .ifCond .eq 7, 3, .null, [161], z_g0),
  (157, .iconst 1, 1, .int ((1 : Int32)), [], z_g0),
  (158, .goto 4, 3, .null, [162], z_g0),
  (161, .iconst 0, 1, .int ((0 : Int32)), [], z_g0),
  (162, .ireturn, 1, .null, [], z_g0),
  (163, .iload_n 0, 1, .null, [], z_g0),
  (164, .i2l, 1, .null, [], z_g0),
  (165, .lconst 0, 1, .long (0 : Int64), [], z_g0),
  (166, .ldc2_w 362, 3, .long (9 : Int64), [], z_g0),
  (169, .invokestatic 274, 3, .null, [0, 0, 0, 0], g_X12_in),
  (172, .ireturn, 1, .null, [], z_g0)]
set_option maxRecDepth 100000 in
theorem r_X12_isStep (v0 : Int32) (v1 : Int32) (v2 : Int32) (v3 : Int32) (v4 : Int32) (S : z_St) : z_seg z_rZ (c_X12_isStep) [] (fun pc => fun _ _ _ => none) 73 (c_X12_isStep) [(0, .int v0), (1, .int v1), (2, .int v2), (3, .int v3), (4, .int v4)] [] S = b_X12_isStep v0 v1 v2 v3 v4 S := rfl
def b_X12_step (v0 : Nat) (v1 : Int32) (v2 : Int32) (v3 : Int32) (v4 : Int32) (v5 : Int32) (v6 : Int32) (S : z_St) : Option (Int32 × z_St) :=
z_chk S v0 13 (
let S1 := z_wi S v0 0 ((0 : Int32))
(f_X12_in v1.toInt64 ((0 : Int64)) ((11 : Int64)) S1).bind fun q2 =>
if q2.1 = 0 then
(some ((-2000000001 : Int32), q2.2))
else
((f_X12_isStep v2 v3 v4 v5 v6 q2.2).bind fun q3 =>
if q3.1 = 0 then
(some ((-2000000002 : Int32), q3.2))
else
(z_chk q3.2 v0 13 (
z_onV (va_rf (z_r q3.2 v0 29)) fun b4 =>
z_inb q3.2 b4 101 v1 (
if ((z_i q3.2 b4 v1.toNatClampNeg)) = ((12 : Int32)) then
(some ((-2000000004 : Int32), q3.2))
else
(z_chk q3.2 v0 13 (
z_onV (va_rf (z_r q3.2 v0 29)) fun b5 =>
z_inb q3.2 b5 101 v1 (
let x6 := (((60 : Int32)) * v1) + (((5 : Int32)) * ((z_i q3.2 b5 v1.toNatClampNeg)))
z_chk q3.2 v0 13 (
z_onV (va_rf (z_r q3.2 v0 30)) fun b7 =>
z_inb q3.2 b7 101 x6 (
let S8 := z_wi q3.2 b7 x6.toNatClampNeg v2
z_chk S8 v0 13 (
z_onV (va_rf (z_r S8 v0 30)) fun b9 =>
z_inb S8 b9 101 (x6 + ((1 : Int32))) (
let S10 := z_wi S8 b9 (x6 + ((1 : Int32))).toNatClampNeg v3
z_chk S10 v0 13 (
z_onV (va_rf (z_r S10 v0 30)) fun b11 =>
z_inb S10 b11 101 (x6 + ((2 : Int32))) (
let S12 := z_wi S10 b11 (x6 + ((2 : Int32))).toNatClampNeg v4
z_chk S12 v0 13 (
z_onV (va_rf (z_r S12 v0 30)) fun b13 =>
z_inb S12 b13 101 (x6 + ((3 : Int32))) (
let S14 := z_wi S12 b13 (x6 + ((3 : Int32))).toNatClampNeg v5
z_chk S14 v0 13 (
z_onV (va_rf (z_r S14 v0 30)) fun b15 =>
z_inb S14 b15 101 (x6 + ((4 : Int32))) (
let S16 := z_wi S14 b15 (x6 + ((4 : Int32))).toNatClampNeg v6
z_chk S16 v0 13 (
z_onV (va_rf (z_r S16 v0 29)) fun b17 =>
z_inb S16 b17 101 v1 (
z_inb S16 b17 101 v1 (
let S18 := z_wi S16 b17 v1.toNatClampNeg (((z_i S16 b17 v1.toNatClampNeg)) + ((1 : Int32)))
z_chk S18 v0 13 (
z_onV (va_rf (z_r S18 v0 29)) fun b19 =>
z_inb S18 b19 101 v1 (
some ((z_i S18 b19 v1.toNatClampNeg), S18))))))))))))))))))))))))
def f_X12_step : Nat → Int32 → Int32 → Int32 → Int32 → Int32 → Int32 → z_St → Option (Int32 × z_St) := z_op (b_X12_step)
theorem e_X12_step (v0 : Nat) (v1 : Int32) (v2 : Int32) (v3 : Int32) (v4 : Int32) (v5 : Int32) (v6 : Int32) (S : z_St) : f_X12_step v0 v1 v2 v3 v4 v5 v6 S = b_X12_step v0 v1 v2 v3 v4 v5 v6 S := congrFun (congrFun (congrFun (congrFun (congrFun (congrFun (congrFun (congrFun (z_op_eq (b_X12_step)) v0) v1) v2) v3) v4) v5) v6) S
def g_X12_step : z_G := .inl (fun as S => match as with
  | [.ref v0, .int v1, .int v2, .int v3, .int v4, .int v5, .int v6] => f_X12_step v0 v1 v2 v3 v4 v5 v6 S
  | _ => none)
def c_X12_step : List z_E := [
  (0, .aload_n 0, 1, .null, [], z_g0),
  (1, .iconst 0, 1, .int ((0 : Int32)), [], z_g0),
  (2, .putfield 224, 3, .null, [13, 0, 0], z_g0),
  (5, .iload_n 1, 1, .null, [], z_g0),
  (6, .i2l, 1, .null, [], z_g0),
  (7, .lconst 0, 1, .long (0 : Int64), [], z_g0),
  (8, .ldc2_w 425, 3, .long (11 : Int64), [], z_g0),
  (11, .invokestatic 274, 3, .null, [0, 0, 0, 0], g_X12_in),
  (14, .ifCond .ne 7, 3, .null, [21], z_g0),
  (17, .ldc_w 296, 3, .int (-2000000001 : Int32), [], z_g0),
  (20, .ireturn, 1, .null, [], z_g0),
  (21, .iload_n 2, 1, .null, [], z_g0),
  (22, .iload_n 3, 1, .null, [], z_g0),
  (23, .iload 4, 2, .null, [], z_g0),
  (25, .iload 5, 2, .null, [], z_g0),
  (27, .iload 6, 2, .null, [], z_g0),
  (29, .invokestatic 429, 3, .null, [0, 0, 0, 0, 0, 0], g_X12_isStep),
  (32, .ifCond .ne 7, 3, .null, [39], z_g0),
  (35, .ldc_w 280, 3, .int (-2000000002 : Int32), [], z_g0),
  (38, .ireturn, 1, .null, [], z_g0),
  (39, .aload_n 0, 1, .null, [], z_g0),
  (40, .getfield 76, 3, .null, [13, 29, 3], z_g0),
  (43, .iload_n 1, 1, .null, [], z_g0),
  (44, .iaload, 1, .null, [101], z_g0),
  (45, .bipush 12, 2, .int ((12 : Int32)), [], z_g0),
  (47, .if_icmp .ne 7, 3, .null, [54], z_g0),
  (50, .ldc_w 281, 3, .int (-2000000004 : Int32), [], z_g0),
  (53, .ireturn, 1, .null, [], z_g0),
  (54, .bipush 60, 2, .int ((60 : Int32)), [], z_g0),
  (56, .iload_n 1, 1, .null, [], z_g0),
  (57, .imul, 1, .null, [], z_g0),
  (58, .iconst 5, 1, .int ((5 : Int32)), [], z_g0),
  (59, .aload_n 0, 1, .null, [], z_g0),
  (60, .getfield 76, 3, .null, [13, 29, 3], z_g0),
  (63, .iload_n 1, 1, .null, [], z_g0),
  (64, .iaload, 1, .null, [101], z_g0),
  (65, .imul, 1, .null, [], z_g0),
  (66, .iadd, 1, .null, [], z_g0),
  (67, .istore 7, 2, .null, [], z_g0),
  (69, .aload_n 0, 1, .null, [], z_g0),
  (70, .getfield 79, 3, .null, [13, 30, 3], z_g0),
  (73, .iload 7, 2, .null, [], z_g0),
  (75, .iload_n 2, 1, .null, [], z_g0),
  (76, .iastore, 1, .null, [], z_g0),
  (77, .aload_n 0, 1, .null, [], z_g0),
  (78, .getfield 79, 3, .null, [13, 30, 3], z_g0),
  (81, .iload 7, 2, .null, [], z_g0),
  (83, .iconst 1, 1, .int ((1 : Int32)), [], z_g0),
  (84, .iadd, 1, .null, [], z_g0),
  (85, .iload_n 3, 1, .null, [], z_g0),
  (86, .iastore, 1, .null, [], z_g0),
  (87, .aload_n 0, 1, .null, [], z_g0),
  (88, .getfield 79, 3, .null, [13, 30, 3], z_g0),
  (91, .iload 7, 2, .null, [], z_g0),
  (93, .iconst 2, 1, .int ((2 : Int32)), [], z_g0),
  (94, .iadd, 1, .null, [], z_g0),
  (95, .iload 4, 2, .null, [], z_g0),
  (97, .iastore, 1, .null, [], z_g0),
  (98, .aload_n 0, 1, .null, [], z_g0),
  (99, .getfield 79, 3, .null, [13, 30, 3], z_g0),
  (102, .iload 7, 2, .null, [], z_g0),
  (104, .iconst 3, 1, .int ((3 : Int32)), [], z_g0),
  (105, .iadd, 1, .null, [], z_g0),
  (106, .iload 5, 2, .null, [], z_g0),
  (108, .iastore, 1, .null, [], z_g0),
  (109, .aload_n 0, 1, .null, [], z_g0),
  (110, .getfield 79, 3, .null, [13, 30, 3], z_g0),
  (113, .iload 7, 2, .null, [], z_g0),
  (115, .iconst 4, 1, .int ((4 : Int32)), [], z_g0),
  (116, .iadd, 1, .null, [], z_g0),
  (117, .iload 6, 2, .null, [], z_g0),
  (119, .iastore, 1, .null, [], z_g0),
  (120, .aload_n 0, 1, .null, [], z_g0),
  (121, .getfield 76, 3, .null, [13, 29, 3], z_g0),
  (124, .iload_n 1, 1, .null, [], z_g0),
  (125, .dup2, 1, .null, [1], z_g0),
  (126, .iaload, 1, .null, [101], z_g0),
  (127, .iconst 1, 1, .int ((1 : Int32)), [], z_g0),
  (128, .iadd, 1, .null, [], z_g0),
  (129, .iastore, 1, .null, [], z_g0),
  (130, .aload_n 0, 1, .null, [], z_g0),
  (131, .getfield 76, 3, .null, [13, 29, 3], z_g0),
  (134, .iload_n 1, 1, .null, [], z_g0),
  (135, .iaload, 1, .null, [101], z_g0),
  (136, .ireturn, 1, .null, [], z_g0)]
set_option maxRecDepth 100000 in
theorem r_X12_step (v0 : Nat) (v1 : Int32) (v2 : Int32) (v3 : Int32) (v4 : Int32) (v5 : Int32) (v6 : Int32) (S : z_St) : z_seg z_rI (c_X12_step) [] (fun pc => fun _ _ _ => none) 88 (c_X12_step) [(0, .ref v0), (1, .int v1), (2, .int v2), (3, .int v3), (4, .int v4), (5, .int v5), (6, .int v6)] [] S = b_X12_step v0 v1 v2 v3 v4 v5 v6 S := rfl
def b_X12_wipe (v0 : Nat) (v1 : Int32) (S : z_St) : Option (Int32 × z_St) :=
z_chk S v0 13 (
let S1 := z_wi S v0 0 ((0 : Int32))
(f_X12_in v1.toInt64 ((0 : Int64)) ((11 : Int64)) S1).bind fun q2 =>
if q2.1 = 0 then
(some ((-2000000001 : Int32), q2.2))
else
(z_chk q2.2 v0 13 (
z_onV (va_rf (z_r q2.2 v0 29)) fun b3 =>
z_inb q2.2 b3 101 v1 (
let x4 := (z_i q2.2 b3 v1.toNatClampNeg)
z_chk q2.2 v0 13 (
z_onV (va_rf (z_r q2.2 v0 29)) fun b5 =>
z_inb q2.2 b5 101 v1 (
let S6 := z_wi q2.2 b5 v1.toNatClampNeg ((0 : Int32))
some (x4, S6)))))))
def f_X12_wipe : Nat → Int32 → z_St → Option (Int32 × z_St) := z_op (b_X12_wipe)
theorem e_X12_wipe (v0 : Nat) (v1 : Int32) (S : z_St) : f_X12_wipe v0 v1 S = b_X12_wipe v0 v1 S := congrFun (congrFun (congrFun (z_op_eq (b_X12_wipe)) v0) v1) S
def g_X12_wipe : z_G := .inl (fun as S => match as with
  | [.ref v0, .int v1] => f_X12_wipe v0 v1 S
  | _ => none)
def c_X12_wipe : List z_E := [
  (0, .aload_n 0, 1, .null, [], z_g0),
  (1, .iconst 0, 1, .int ((0 : Int32)), [], z_g0),
  (2, .putfield 224, 3, .null, [13, 0, 0], z_g0),
  (5, .iload_n 1, 1, .null, [], z_g0),
  (6, .i2l, 1, .null, [], z_g0),
  (7, .lconst 0, 1, .long (0 : Int64), [], z_g0),
  (8, .ldc2_w 425, 3, .long (11 : Int64), [], z_g0),
  (11, .invokestatic 274, 3, .null, [0, 0, 0, 0], g_X12_in),
  (14, .ifCond .ne 7, 3, .null, [21], z_g0),
  (17, .ldc_w 296, 3, .int (-2000000001 : Int32), [], z_g0),
  (20, .ireturn, 1, .null, [], z_g0),
  (21, .aload_n 0, 1, .null, [], z_g0),
  (22, .getfield 76, 3, .null, [13, 29, 3], z_g0),
  (25, .iload_n 1, 1, .null, [], z_g0),
  (26, .iaload, 1, .null, [101], z_g0),
  (27, .istore_n 2, 1, .null, [], z_g0),
  (28, .aload_n 0, 1, .null, [], z_g0),
  (29, .getfield 76, 3, .null, [13, 29, 3], z_g0),
  (32, .iload_n 1, 1, .null, [], z_g0),
  (33, .iconst 0, 1, .int ((0 : Int32)), [], z_g0),
  (34, .iastore, 1, .null, [], z_g0),
  (35, .iload_n 2, 1, .null, [], z_g0),
  (36, .ireturn, 1, .null, [], z_g0)]
set_option maxRecDepth 100000 in
theorem r_X12_wipe (v0 : Nat) (v1 : Int32) (S : z_St) : z_seg z_rI (c_X12_wipe) [] (fun pc => fun _ _ _ => none) 26 (c_X12_wipe) [(0, .ref v0), (1, .int v1)] [] S = b_X12_wipe v0 v1 S := rfl
def b_X12_out (v0 : Nat) (v1 : Int32) (v2 : Int32) (v3 : Int32) (S : z_St) : Option z_St :=
if ((1 : Int32)) = 0 ∨ ((1 : Int32)) = 1 then (
z_chk S v0 13 (
let S1 := z_wi S v0 46 ((1 : Int32))
z_chk S1 v0 13 (
let S2 := z_wi S1 v0 47 v1
z_chk S2 v0 13 (
let S3 := z_wi S2 v0 48 v2
z_chk S3 v0 13 (
let S4 := z_wi S3 v0 49 v3
some S4))))) else none
def f_X12_out : Nat → Int32 → Int32 → Int32 → z_St → Option z_St := z_op (b_X12_out)
theorem e_X12_out (v0 : Nat) (v1 : Int32) (v2 : Int32) (v3 : Int32) (S : z_St) : f_X12_out v0 v1 v2 v3 S = b_X12_out v0 v1 v2 v3 S := congrFun (congrFun (congrFun (congrFun (congrFun (z_op_eq (b_X12_out)) v0) v1) v2) v3) S
def g_X12_out : z_G := .inr (.inr (.inr (fun as S => match as with
  | [.ref v0, .int v1, .int v2, .int v3] => f_X12_out v0 v1 v2 v3 S
  | _ => none)))
def c_X12_out : List z_E := [
  (0, .aload_n 0, 1, .null, [], z_g0),
  (1, .iconst 1, 1, .int ((1 : Int32)), [], z_g0),
  (2, .putfield 433, 3, .null, [13, 46, 4], z_g0),
  (5, .aload_n 0, 1, .null, [], z_g0),
  (6, .iload_n 1, 1, .null, [], z_g0),
  (7, .putfield 437, 3, .null, [13, 47, 0], z_g0),
  (10, .aload_n 0, 1, .null, [], z_g0),
  (11, .iload_n 2, 1, .null, [], z_g0),
  (12, .putfield 440, 3, .null, [13, 48, 0], z_g0),
  (15, .aload_n 0, 1, .null, [], z_g0),
  (16, .iload_n 3, 1, .null, [], z_g0),
  (17, .putfield 443, 3, .null, [13, 49, 0], z_g0),
  (20, .return_, 1, .null, [], z_g0)]
set_option maxRecDepth 100000 in
theorem r_X12_out (v0 : Nat) (v1 : Int32) (v2 : Int32) (v3 : Int32) (S : z_St) : z_seg z_rV (c_X12_out) [] (fun pc => fun _ _ _ => none) 16 (c_X12_out) [(0, .ref v0), (1, .int v1), (2, .int v2), (3, .int v3)] [] S = b_X12_out v0 v1 v2 v3 S := rfl
def b_X12_call (v0 : Nat) (v1 : Int32) (S : z_St) : Option z_St :=
z_chk S v0 13 (
if ((z_i S v0 36)) = ((8 : Int32)) then
(z_chk S v0 13 (
(f_X12_out v0 ((1 : Int32)) ((8 : Int32)) ((3 : Int32)) S).bind fun q11 =>
some q11))
else
(z_chk S v0 13 (
z_chk S v0 13 (
z_onV (va_rf (z_r S v0 37)) fun b1 =>
z_inb S b1 101 ((z_i S v0 36)) (
let S2 := z_wi S b1 ((z_i S v0 36)).toNatClampNeg v1
z_chk S2 v0 13 (
z_chk S2 v0 13 (
z_onV (va_rf (z_r S2 v0 38)) fun b3 =>
z_inb S2 b3 101 ((z_i S2 v0 36)) (
let S4 := z_wi S2 b3 ((z_i S2 v0 36)).toNatClampNeg ((0 : Int32))
z_chk S4 v0 13 (
z_chk S4 v0 13 (
z_onV (va_rf (z_r S4 v0 39)) fun b5 =>
z_inb S4 b5 101 ((z_i S4 v0 36)) (
let S6 := z_wi S4 b5 ((z_i S4 v0 36)).toNatClampNeg ((0 : Int32))
z_chk S6 v0 13 (
z_chk S6 v0 13 (
z_chk S6 v0 13 (
z_onV (va_rf (z_r S6 v0 40)) fun b7 =>
z_inb S6 b7 101 ((z_i S6 v0 36)) (
let S8 := z_wi S6 b7 ((z_i S6 v0 36)).toNatClampNeg ((z_i S6 v0 44))
z_chk S8 v0 13 (
z_chk S8 v0 13 (
let S9 := z_wi S8 v0 36 (((z_i S8 v0 36)) + ((1 : Int32)))
if ((0 : Int32)) = 0 ∨ ((0 : Int32)) = 1 then (
z_chk S9 v0 13 (
let S10 := z_wi S9 v0 46 ((0 : Int32))
some S10)) else none)))))))))))))))))
def f_X12_call : Nat → Int32 → z_St → Option z_St := z_op (b_X12_call)
theorem e_X12_call (v0 : Nat) (v1 : Int32) (S : z_St) : f_X12_call v0 v1 S = b_X12_call v0 v1 S := congrFun (congrFun (congrFun (z_op_eq (b_X12_call)) v0) v1) S
def g_X12_call : z_G := .inr (.inr (.inr (fun as S => match as with
  | [.ref v0, .int v1] => f_X12_call v0 v1 S
  | _ => none)))
def c_X12_call : List z_E := [
  (0, .aload_n 0, 1, .null, [], z_g0),
  (1, .getfield 446, 3, .null, [13, 36, 0], z_g0),
  (4, .bipush 8, 2, .int ((8 : Int32)), [], z_g0),
  (6, .if_icmp .ne 12, 3, .null, [18], z_g0),
  (9, .aload_n 0, 1, .null, [], z_g0),
  (10, .iconst 1, 1, .int ((1 : Int32)), [], z_g0),
  (11, .bipush 8, 2, .int ((8 : Int32)), [], z_g0),
  (13, .iconst 3, 1, .int ((3 : Int32)), [], z_g0),
  (14, .invokevirtual 449, 3, .null, [1, 13, 0, 0, 0], g_X12_out),
  (17, .return_, 1, .null, [], z_g0),
  (18, .aload_n 0, 1, .null, [], z_g0),
  (19, .getfield 91, 3, .null, [13, 37, 3], z_g0),
  (22, .aload_n 0, 1, .null, [], z_g0),
  (23, .getfield 446, 3, .null, [13, 36, 0], z_g0),
  (26, .iload_n 1, 1, .null, [], z_g0),
  (27, .iastore, 1, .null, [], z_g0),
  (28, .aload_n 0, 1, .null, [], z_g0),
  (29, .getfield 94, 3, .null, [13, 38, 3], z_g0),
  (32, .aload_n 0, 1, .null, [], z_g0),
  (33, .getfield 446, 3, .null, [13, 36, 0], z_g0),
  (36, .iconst 0, 1, .int ((0 : Int32)), [], z_g0),
  (37, .iastore, 1, .null, [], z_g0),
  (38, .aload_n 0, 1, .null, [], z_g0),
  (39, .getfield 97, 3, .null, [13, 39, 3], z_g0),
  (42, .aload_n 0, 1, .null, [], z_g0),
  (43, .getfield 446, 3, .null, [13, 36, 0], z_g0),
  (46, .iconst 0, 1, .int ((0 : Int32)), [], z_g0),
  (47, .iastore, 1, .null, [], z_g0),
  (48, .aload_n 0, 1, .null, [], z_g0),
  (49, .getfield 100, 3, .null, [13, 40, 3], z_g0),
  (52, .aload_n 0, 1, .null, [], z_g0),
  (53, .getfield 446, 3, .null, [13, 36, 0], z_g0),
  (56, .aload_n 0, 1, .null, [], z_g0),
  (57, .getfield 452, 3, .null, [13, 44, 0], z_g0),
  (60, .iastore, 1, .null, [], z_g0),
  (61, .aload_n 0, 1, .null, [], z_g0),
  (62, .dup, 1, .null, [], z_g0),
  (63, .getfield 446, 3, .null, [13, 36, 0], z_g0),
  (66, .iconst 1, 1, .int ((1 : Int32)), [], z_g0),
  (67, .iadd, 1, .null, [], z_g0),
  (68, .putfield 446, 3, .null, [13, 36, 0], z_g0),
  (71, .aload_n 0, 1, .null, [], z_g0),
  (72, .iconst 0, 1, .int ((0 : Int32)), [], z_g0),
  (73, .putfield 433, 3, .null, [13, 46, 4], z_g0),
  (76, .return_, 1, .null, [], z_g0)]
set_option maxRecDepth 100000 in
theorem r_X12_call (v0 : Nat) (v1 : Int32) (S : z_St) : z_seg z_rV (c_X12_call) [] (fun pc => fun _ _ _ => none) 48 (c_X12_call) [(0, .ref v0), (1, .int v1)] [] S = b_X12_call v0 v1 S := rfl
def l_X12_leave_10 : Nat → Nat → Int32 → Int32 → Int32 → z_St → Option z_St
  | 0 => fun _ _ _ _ _ => none
  | n + 1 => fun (v0 : Nat) (v1 : Int32) (v2 : Int32) (v3 : Int32) (S : z_St) =>
z_chk S v0 13 (
z_chk S v0 13 (
z_chk S v0 13 (
z_onV (va_rf (z_r S v0 40)) fun b2 =>
z_inb S b2 101 ((z_i S v0 36)) (
if ((z_i S v0 44)) ≤ ((z_i S b2 ((z_i S v0 36)).toNatClampNeg)) then
(z_chk S v0 13 (
(f_X12_out v0 v1 v2 v3 S).bind fun q3 =>
some q3))
else
(z_chk S v0 13 (
z_chk S v0 13 (
let S4 := z_wi S v0 44 (((z_i S v0 44)) - ((1 : Int32)))
z_chk S4 v0 13 (
z_chk S4 v0 13 (
z_chk S4 v0 13 (
z_onV (va_rf (z_r S4 v0 45)) fun b5 =>
z_inb S4 b5 101 ((z_i S4 v0 44)) (
z_onV (va_rf (z_r S4 v0 32)) fun b6 =>
z_inb S4 b6 101 ((z_i S4 b5 ((z_i S4 v0 44)).toNatClampNeg)) (
z_inb S4 b6 101 ((z_i S4 b5 ((z_i S4 v0 44)).toNatClampNeg)) (
let S7 := z_wi S4 b6 ((z_i S4 b5 ((z_i S4 v0 44)).toNatClampNeg)).toNatClampNeg (((z_i S4 b6 ((z_i S4 b5 ((z_i S4 v0 44)).toNatClampNeg)).toNatClampNeg)) - ((1 : Int32)))
l_X12_leave_10 n v0 v1 v2 v3 S7)))))))))))))
def b_X12_leave (v0 : Nat) (v1 : Int32) (v2 : Int32) (v3 : Int32) (S : z_St) : Option z_St :=
z_chk S v0 13 (
z_chk S v0 13 (
let S1 := z_wi S v0 36 (((z_i S v0 36)) - ((1 : Int32)))
l_X12_leave_10 z_N v0 v1 v2 v3 S1))
def f_X12_leave : Nat → Int32 → Int32 → Int32 → z_St → Option z_St := z_op (b_X12_leave)
theorem e_X12_leave (v0 : Nat) (v1 : Int32) (v2 : Int32) (v3 : Int32) (S : z_St) : f_X12_leave v0 v1 v2 v3 S = b_X12_leave v0 v1 v2 v3 S := congrFun (congrFun (congrFun (congrFun (congrFun (z_op_eq (b_X12_leave)) v0) v1) v2) v3) S
def g_X12_leave : z_G := .inr (.inr (.inr (fun as S => match as with
  | [.ref v0, .int v1, .int v2, .int v3] => f_X12_leave v0 v1 v2 v3 S
  | _ => none)))
def c_X12_leave : List z_E := [
  (0, .aload_n 0, 1, .null, [], z_g0),
  (1, .dup, 1, .null, [], z_g0),
  (2, .getfield 446, 3, .null, [13, 36, 0], z_g0),
  (5, .iconst 1, 1, .int ((1 : Int32)), [], z_g0),
  (6, .isub, 1, .null, [], z_g0),
  (7, .putfield 446, 3, .null, [13, 36, 0], z_g0),
  (10, .aload_n 0, 1, .null, [], z_g0),
  (11, .getfield 452, 3, .null, [13, 44, 0], z_g0),
  (14, .aload_n 0, 1, .null, [], z_g0),
  (15, .getfield 100, 3, .null, [13, 40, 3], z_g0),
  (18, .aload_n 0, 1, .null, [], z_g0),
  (19, .getfield 446, 3, .null, [13, 36, 0], z_g0),
  (22, .iaload, 1, .null, [101], z_g0),
  (23, .if_icmp .le 34, 3, .null, [57], z_g0),
  (26, .aload_n 0, 1, .null, [], z_g0),
  (27, .dup, 1, .null, [], z_g0),
  (28, .getfield 452, 3, .null, [13, 44, 0], z_g0),
  (31, .iconst 1, 1, .int ((1 : Int32)), [], z_g0),
  (32, .isub, 1, .null, [], z_g0),
  (33, .putfield 452, 3, .null, [13, 44, 0], z_g0),
  (36, .aload_n 0, 1, .null, [], z_g0),
  (37, .getfield 82, 3, .null, [13, 32, 3], z_g0),
  (40, .aload_n 0, 1, .null, [], z_g0),
  (41, .getfield 112, 3, .null, [13, 45, 3], z_g0),
  (44, .aload_n 0, 1, .null, [], z_g0),
  (45, .getfield 452, 3, .null, [13, 44, 0], z_g0),
  (48, .iaload, 1, .null, [101], z_g0),
  (49, .dup2, 1, .null, [1], z_g0),
  (50, .iaload, 1, .null, [101], z_g0),
  (51, .iconst 1, 1, .int ((1 : Int32)), [], z_g0),
  (52, .isub, 1, .null, [], z_g0),
  (53, .iastore, 1, .null, [], z_g0),
  (54, .goto (-44), 3, .null, [10], z_g0),
  (57, .aload_n 0, 1, .null, [], z_g0),
  (58, .iload_n 1, 1, .null, [], z_g0),
  (59, .iload_n 2, 1, .null, [], z_g0),
  (60, .iload_n 3, 1, .null, [], z_g0),
  (61, .invokevirtual 449, 3, .null, [1, 13, 0, 0, 0], g_X12_out),
  (64, .return_, 1, .null, [], z_g0)]
def a_X12_leave_10 {ρ : Type} (k : Nat → Int32 → Int32 → Int32 → z_St → Option ρ) (ls : z_Lv) (st : List Value) (S : z_St) : Option ρ := z_gR ls 0 fun v0 => z_gI ls 1 fun v1 => z_gI ls 2 fun v2 => z_gI ls 3 fun v3 => z_p0 st (k v0 v1 v2 v3 S)
set_option maxRecDepth 100000 in
theorem r_X12_leave_10 (n : Nat) (v0 : Nat) (v1 : Int32) (v2 : Int32) (v3 : Int32) (S : z_St) : z_seg z_rV (c_X12_leave) [10] (fun pc => cond (Nat.beq pc 10) (a_X12_leave_10 (l_X12_leave_10 n)) (fun _ _ _ => none)) 42 (z_to 10 (c_X12_leave)) [(0, .ref v0), (1, .int v1), (2, .int v2), (3, .int v3)] [] S = l_X12_leave_10 (n + 1) v0 v1 v2 v3 S := rfl
set_option maxRecDepth 100000 in
theorem r_X12_leave (v0 : Nat) (v1 : Int32) (v2 : Int32) (v3 : Int32) (S : z_St) : z_seg z_rV (c_X12_leave) [10] (fun pc => cond (Nat.beq pc 10) (a_X12_leave_10 (l_X12_leave_10 z_N)) (fun _ _ _ => none)) 42 (c_X12_leave) [(0, .ref v0), (1, .int v1), (2, .int v2), (3, .int v3)] [] S = b_X12_leave v0 v1 v2 v3 S := rfl
def b_X12_over (v0 : Nat) (S : z_St) : Option z_St :=
z_chk S v0 13 (
let x1 := ((z_i S v0 36)) - ((1 : Int32))
z_chk S v0 13 (
z_onV (va_rf (z_r S v0 39)) fun b2 =>
z_inb S b2 101 x1 (
let S3 := z_wi S b2 x1.toNatClampNeg ((0 : Int32))
if ((0 : Int32)) = 0 ∨ ((0 : Int32)) = 1 then (
z_chk S3 v0 13 (
let S4 := z_wi S3 v0 46 ((0 : Int32))
z_chk S4 v0 13 (
z_onV (va_rf (z_r S4 v0 41)) fun b5 =>
z_inb S4 b5 101 x1 (
if ((z_i S4 b5 x1.toNatClampNeg)) = 0 then
(some S4)
else
(z_chk S4 v0 13 (
z_onV (va_rf (z_r S4 v0 41)) fun b6 =>
z_inb S4 b6 101 x1 (
z_chk S4 v0 13 (
z_onV (va_rf (z_r S4 v0 42)) fun b7 =>
z_inb S4 b7 101 x1 (
z_chk S4 v0 13 (
z_onV (va_rf (z_r S4 v0 43)) fun b8 =>
z_inb S4 b8 101 x1 (
z_chk S4 v0 13 (
(f_X12_leave v0 ((z_i S4 b6 x1.toNatClampNeg)) ((z_i S4 b7 x1.toNatClampNeg)) ((z_i S4 b8 x1.toNatClampNeg)) S4).bind fun q9 =>
some q9)))))))))))) else none)))
def f_X12_over : Nat → z_St → Option z_St := z_op (b_X12_over)
theorem e_X12_over (v0 : Nat) (S : z_St) : f_X12_over v0 S = b_X12_over v0 S := congrFun (congrFun (z_op_eq (b_X12_over)) v0) S
def g_X12_over : z_G := .inr (.inr (.inr (fun as S => match as with
  | [.ref v0] => f_X12_over v0 S
  | _ => none)))
def c_X12_over : List z_E := [
  (0, .aload_n 0, 1, .null, [], z_g0),
  (1, .getfield 446, 3, .null, [13, 36, 0], z_g0),
  (4, .iconst 1, 1, .int ((1 : Int32)), [], z_g0),
  (5, .isub, 1, .null, [], z_g0),
  (6, .istore_n 1, 1, .null, [], z_g0),
  (7, .aload_n 0, 1, .null, [], z_g0),
  (8, .getfield 97, 3, .null, [13, 39, 3], z_g0),
  (11, .iload_n 1, 1, .null, [], z_g0),
  (12, .iconst 0, 1, .int ((0 : Int32)), [], z_g0),
  (13, .iastore, 1, .null, [], z_g0),
  (14, .aload_n 0, 1, .null, [], z_g0),
  (15, .iconst 0, 1, .int ((0 : Int32)), [], z_g0),
  (16, .putfield 433, 3, .null, [13, 46, 4], z_g0),
  (19, .aload_n 0, 1, .null, [], z_g0),
  (20, .getfield 103, 3, .null, [13, 41, 3], z_g0),
  (23, .iload_n 1, 1, .null, [], z_g0),
  (24, .iaload, 1, .null, [101], z_g0),
  (25, .ifCond .eq 25, 3, .null, [50], z_g0),
  (28, .aload_n 0, 1, .null, [], z_g0),
  (29, .aload_n 0, 1, .null, [], z_g0),
  (30, .getfield 103, 3, .null, [13, 41, 3], z_g0),
  (33, .iload_n 1, 1, .null, [], z_g0),
  (34, .iaload, 1, .null, [101], z_g0),
  (35, .aload_n 0, 1, .null, [], z_g0),
  (36, .getfield 106, 3, .null, [13, 42, 3], z_g0),
  (39, .iload_n 1, 1, .null, [], z_g0),
  (40, .iaload, 1, .null, [101], z_g0),
  (41, .aload_n 0, 1, .null, [], z_g0),
  (42, .getfield 109, 3, .null, [13, 43, 3], z_g0),
  (45, .iload_n 1, 1, .null, [], z_g0),
  (46, .iaload, 1, .null, [101], z_g0),
  (47, .invokevirtual 462, 3, .null, [1, 13, 0, 0, 0], g_X12_leave),
  (50, .return_, 1, .null, [], z_g0)]
set_option maxRecDepth 100000 in
theorem r_X12_over (v0 : Nat) (S : z_St) : z_seg z_rV (c_X12_over) [] (fun pc => fun _ _ _ => none) 36 (c_X12_over) [(0, .ref v0)] [] S = b_X12_over v0 S := rfl
def b_X12_last (v0 : Nat) (S : z_St) : Option z_St :=
z_chk S v0 13 (
let x1 := ((z_i S v0 36)) - ((1 : Int32))
z_chk S v0 13 (
z_chk S v0 13 (
z_onV (va_rf (z_r S v0 37)) fun b2 =>
z_inb S b2 101 x1 (
z_chk S v0 13 (
z_onV (va_rf (z_r S v0 38)) fun b3 =>
z_inb S b3 101 x1 (
z_onV (va_rf (z_r S v0 30)) fun b4 =>
z_inb S b4 101 (((((60 : Int32)) * ((z_i S b2 x1.toNatClampNeg))) + (((5 : Int32)) * ((z_i S b3 x1.toNatClampNeg)))) - ((1 : Int32))) (
let x5 := (z_i S b4 (((((60 : Int32)) * ((z_i S b2 x1.toNatClampNeg))) + (((5 : Int32)) * ((z_i S b3 x1.toNatClampNeg)))) - ((1 : Int32))).toNatClampNeg)
z_chk S v0 13 (
z_chk S v0 13 (
z_onV (va_rf (z_r S v0 41)) fun b6 =>
z_inb S b6 101 x1 (
let S7 := z_wi S b6 x1.toNatClampNeg ((z_i S v0 47))
z_chk S7 v0 13 (
z_chk S7 v0 13 (
z_onV (va_rf (z_r S7 v0 42)) fun b8 =>
z_inb S7 b8 101 x1 (
let S9 := z_wi S7 b8 x1.toNatClampNeg ((z_i S7 v0 48))
z_chk S9 v0 13 (
z_chk S9 v0 13 (
z_onV (va_rf (z_r S9 v0 43)) fun b10 =>
z_inb S9 b10 101 x1 (
let S11 := z_wi S9 b10 x1.toNatClampNeg ((z_i S9 v0 49))
if x5 = ((-1 : Int32)) then
(z_chk S11 v0 13 (
(f_X12_over v0 S11).bind fun q12 =>
some q12))
else
(z_chk S11 v0 13 (
z_onV (va_rf (z_r S11 v0 39)) fun b13 =>
z_inb S11 b13 101 x1 (
let S14 := z_wi S11 b13 x1.toNatClampNeg ((4 : Int32))
if ((0 : Int32)) = 0 ∨ ((0 : Int32)) = 1 then (
z_chk S14 v0 13 (
let S15 := z_wi S14 v0 46 ((0 : Int32))
z_chk S15 v0 13 (
(f_X12_call v0 x5 S15).bind fun q16 =>
some q16))) else none)))))))))))))))))))
def f_X12_last : Nat → z_St → Option z_St := z_op (b_X12_last)
theorem e_X12_last (v0 : Nat) (S : z_St) : f_X12_last v0 S = b_X12_last v0 S := congrFun (congrFun (z_op_eq (b_X12_last)) v0) S
def g_X12_last : z_G := .inr (.inr (.inr (fun as S => match as with
  | [.ref v0] => f_X12_last v0 S
  | _ => none)))
def c_X12_last : List z_E := [
  (0, .aload_n 0, 1, .null, [], z_g0),
  (1, .getfield 446, 3, .null, [13, 36, 0], z_g0),
  (4, .iconst 1, 1, .int ((1 : Int32)), [], z_g0),
  (5, .isub, 1, .null, [], z_g0),
  (6, .istore_n 1, 1, .null, [], z_g0),
  (7, .aload_n 0, 1, .null, [], z_g0),
  (8, .getfield 79, 3, .null, [13, 30, 3], z_g0),
  (11, .bipush 60, 2, .int ((60 : Int32)), [], z_g0),
  (13, .aload_n 0, 1, .null, [], z_g0),
  (14, .getfield 91, 3, .null, [13, 37, 3], z_g0),
  (17, .iload_n 1, 1, .null, [], z_g0),
  (18, .iaload, 1, .null, [101], z_g0),
  (19, .imul, 1, .null, [], z_g0),
  (20, .iconst 5, 1, .int ((5 : Int32)), [], z_g0),
  (21, .aload_n 0, 1, .null, [], z_g0),
  (22, .getfield 94, 3, .null, [13, 38, 3], z_g0),
  (25, .iload_n 1, 1, .null, [], z_g0),
  (26, .iaload, 1, .null, [101], z_g0),
  (27, .imul, 1, .null, [], z_g0),
  (28, .iadd, 1, .null, [], z_g0),
  (29, .iconst 1, 1, .int ((1 : Int32)), [], z_g0),
  (30, .isub, 1, .null, [], z_g0),
  (31, .iaload, 1, .null, [101], z_g0),
  (32, .istore_n 2, 1, .null, [], z_g0),
  (33, .aload_n 0, 1, .null, [], z_g0),
  (34, .getfield 103, 3, .null, [13, 41, 3], z_g0),
  (37, .iload_n 1, 1, .null, [], z_g0),
  (38, .aload_n 0, 1, .null, [], z_g0),
  (39, .getfield 437, 3, .null, [13, 47, 0], z_g0),
  (42, .iastore, 1, .null, [], z_g0),
  (43, .aload_n 0, 1, .null, [], z_g0),
  (44, .getfield 106, 3, .null, [13, 42, 3], z_g0),
  (47, .iload_n 1, 1, .null, [], z_g0),
  (48, .aload_n 0, 1, .null, [], z_g0),
  (49, .getfield 440, 3, .null, [13, 48, 0], z_g0),
  (52, .iastore, 1, .null, [], z_g0),
  (53, .aload_n 0, 1, .null, [], z_g0),
  (54, .getfield 109, 3, .null, [13, 43, 3], z_g0),
  (57, .iload_n 1, 1, .null, [], z_g0),
  (58, .aload_n 0, 1, .null, [], z_g0),
  (59, .getfield 443, 3, .null, [13, 49, 0], z_g0),
  (62, .iastore, 1, .null, [], z_g0),
  (63, .iload_n 2, 1, .null, [], z_g0),
  (64, .iconst (-1), 1, .int ((-1 : Int32)), [], z_g0),
  (65, .if_icmp .eq 23, 3, .null, [88], z_g0),
  (68, .aload_n 0, 1, .null, [], z_g0),
  (69, .getfield 97, 3, .null, [13, 39, 3], z_g0),
  (72, .iload_n 1, 1, .null, [], z_g0),
  (73, .iconst 4, 1, .int ((4 : Int32)), [], z_g0),
  (74, .iastore, 1, .null, [], z_g0),
  (75, .aload_n 0, 1, .null, [], z_g0),
  (76, .iconst 0, 1, .int ((0 : Int32)), [], z_g0),
  (77, .putfield 433, 3, .null, [13, 46, 4], z_g0),
  (80, .aload_n 0, 1, .null, [], z_g0),
  (81, .iload_n 2, 1, .null, [], z_g0),
  (82, .invokevirtual 455, 3, .null, [1, 13, 0], g_X12_call),
  (85, .goto 7, 3, .null, [92], z_g0),
  (88, .aload_n 0, 1, .null, [], z_g0),
  (89, .invokevirtual 459, 3, .null, [1, 13], g_X12_over),
  (92, .return_, 1, .null, [], z_g0)]
set_option maxRecDepth 100000 in
theorem r_X12_last (v0 : Nat) (S : z_St) : z_seg z_rV (c_X12_last) [] (fun pc => fun _ _ _ => none) 63 (c_X12_last) [(0, .ref v0)] [] S = b_X12_last v0 S := rfl
def j_X12_hear_246 (v0 : Nat) (v1 : Int32) (t0 : Nat) (t1 : Int32) (t2 : Int32) (S : z_St) : Option z_St :=
z_chk S t0 13 (
let S19 := z_wi S t0 52 (t1 + t2)
z_chk S19 v0 13 (
z_chk S19 v0 13 (
z_onV (va_rf (z_r S19 v0 41)) fun b20 =>
z_inb S19 b20 101 v1 (
let S21 := z_wi S19 b20 v1.toNatClampNeg ((z_i S19 v0 47))
z_chk S21 v0 13 (
z_chk S21 v0 13 (
z_onV (va_rf (z_r S21 v0 42)) fun b22 =>
z_inb S21 b22 101 v1 (
let S23 := z_wi S21 b22 v1.toNatClampNeg ((z_i S21 v0 48))
z_chk S23 v0 13 (
z_chk S23 v0 13 (
z_onV (va_rf (z_r S23 v0 43)) fun b24 =>
z_inb S23 b24 101 v1 (
let S25 := z_wi S23 b24 v1.toNatClampNeg ((z_i S23 v0 49))
z_chk S25 v0 13 (
(f_X12_over v0 S25).bind fun q26 =>
some q26)))))))))))
def j_X12_hear_161 (v0 : Nat) (v1 : Int32) (v4 : Int32) (v5 : Int32) (t0 : Nat) (t1 : Int32) (S : z_St) : Option z_St :=
z_chk S t0 13 (
let S27 := z_wi S t0 47 t1
if v5 = 0 then
(z_chk S27 v0 13 (
(f_X12_last v0 S27).bind fun q28 =>
some q28))
else
(if v4 = ((-1 : Int32)) then
(z_chk S27 v0 13 (
(f_X12_last v0 S27).bind fun q29 =>
some q29))
else
(z_chk S27 v0 13 (
z_onV (va_rf (z_r S27 v0 39)) fun b30 =>
z_inb S27 b30 101 v1 (
let S31 := z_wi S27 b30 v1.toNatClampNeg ((3 : Int32))
if ((0 : Int32)) = 0 ∨ ((0 : Int32)) = 1 then (
z_chk S31 v0 13 (
let S32 := z_wi S31 v0 46 ((0 : Int32))
z_chk S32 v0 13 (
(f_X12_call v0 v4 S32).bind fun q33 =>
some q33))) else none)))))
def j_X12_hear_145 (v0 : Nat) (v1 : Int32) (v4 : Int32) (t0 : Int32) (S : z_St) : Option z_St :=
if t0 = 0 then
(z_chk S v0 13 (
j_X12_hear_161 v0 v1 v4 t0 v0 ((z_i S v0 47)) S))
else
(j_X12_hear_161 v0 v1 v4 t0 v0 ((0 : Int32)) S)
def b_X12_hear (v0 : Nat) (S : z_St) : Option z_St :=
z_chk S v0 13 (
let x1 := ((z_i S v0 36)) - ((1 : Int32))
z_chk S v0 13 (
z_onV (va_rf (z_r S v0 37)) fun b2 =>
z_inb S b2 101 x1 (
z_chk S v0 13 (
z_onV (va_rf (z_r S v0 38)) fun b3 =>
z_inb S b3 101 x1 (
let x4 := ((((60 : Int32)) * ((z_i S b2 x1.toNatClampNeg))) + (((5 : Int32)) * ((z_i S b3 x1.toNatClampNeg)))) - ((5 : Int32))
z_chk S v0 13 (
z_onV (va_rf (z_r S v0 30)) fun b5 =>
z_inb S b5 101 (x4 + ((2 : Int32))) (
let x6 := (z_i S b5 (x4 + ((2 : Int32))).toNatClampNeg)
z_chk S v0 13 (
z_onV (va_rf (z_r S v0 30)) fun b7 =>
z_inb S b7 101 (x4 + ((3 : Int32))) (
let x8 := (z_i S b7 (x4 + ((3 : Int32))).toNatClampNeg)
z_chk S v0 13 (
z_onV (va_rf (z_r S v0 39)) fun b9 =>
z_inb S b9 101 x1 (
if ((z_i S b9 x1.toNatClampNeg)) = ((1 : Int32)) then
(z_chk S v0 13 (
z_onV (va_rf (z_r S v0 39)) fun b15 =>
z_inb S b15 101 x1 (
let S16 := z_wi S b15 x1.toNatClampNeg ((0 : Int32))
if ((0 : Int32)) = 0 ∨ ((0 : Int32)) = 1 then (
z_chk S16 v0 13 (
let S17 := z_wi S16 v0 46 ((0 : Int32))
z_chk S17 v0 13 (
if ((z_i S17 v0 47)) = 0 then
(some S17)
else
(z_chk S17 v0 13 (
z_chk S17 v0 13 (
z_chk S17 v0 13 (
z_chk S17 v0 13 (
(f_X12_leave v0 ((z_i S17 v0 47)) ((z_i S17 v0 48)) ((z_i S17 v0 49)) S17).bind fun q18 =>
some q18)))))))) else none)))
else
(z_chk S v0 13 (
z_onV (va_rf (z_r S v0 39)) fun b10 =>
z_inb S b10 101 x1 (
if ((z_i S b10 x1.toNatClampNeg)) = ((2 : Int32)) then
(z_chk S v0 13 (
if ((z_i S v0 47)) = ((1 : Int32)) then
(if x6 = 0 then
(j_X12_hear_145 v0 x1 x8 ((1 : Int32)) S)
else
(z_chk S v0 13 (
if x6 = ((z_i S v0 48)) then
(j_X12_hear_145 v0 x1 x8 ((1 : Int32)) S)
else
(if x6 = ((9 : Int32)) then
(z_chk S v0 13 (
if ((8 : Int32)) ≤ ((z_i S v0 48)) then
(j_X12_hear_145 v0 x1 x8 ((0 : Int32)) S)
else
(j_X12_hear_145 v0 x1 x8 ((1 : Int32)) S)))
else
(j_X12_hear_145 v0 x1 x8 ((0 : Int32)) S)))))
else
(j_X12_hear_145 v0 x1 x8 ((0 : Int32)) S)))
else
(z_chk S v0 13 (
z_onV (va_rf (z_r S v0 39)) fun b11 =>
z_inb S b11 101 x1 (
if ((z_i S b11 x1.toNatClampNeg)) = ((3 : Int32)) then
(z_chk S v0 13 (
(f_X12_last v0 S).bind fun q14 =>
some q14))
else
(z_chk S v0 13 (
if ((z_i S v0 47)) = 0 then
(z_chk S v0 13 (
(f_X12_over v0 S).bind fun q12 =>
some q12))
else
(z_chk S v0 13 (
z_chk S v0 13 (
z_onV (va_rf (z_r S v0 41)) fun b13 =>
z_inb S b13 101 x1 (
if ((z_i S b13 x1.toNatClampNeg)) = 0 then
(j_X12_hear_246 v0 x1 v0 ((z_i S v0 52)) ((0 : Int32)) S)
else
(j_X12_hear_246 v0 x1 v0 ((z_i S v0 52)) ((1 : Int32)) S))))))))))))))))))))))))
def f_X12_hear : Nat → z_St → Option z_St := z_op (b_X12_hear)
theorem e_X12_hear (v0 : Nat) (S : z_St) : f_X12_hear v0 S = b_X12_hear v0 S := congrFun (congrFun (z_op_eq (b_X12_hear)) v0) S
def g_X12_hear : z_G := .inr (.inr (.inr (fun as S => match as with
  | [.ref v0] => f_X12_hear v0 S
  | _ => none)))
def c_X12_hear : List z_E := [
  (0, .aload_n 0, 1, .null, [], z_g0),
  (1, .getfield 446, 3, .null, [13, 36, 0], z_g0),
  (4, .iconst 1, 1, .int ((1 : Int32)), [], z_g0),
  (5, .isub, 1, .null, [], z_g0),
  (6, .istore_n 1, 1, .null, [], z_g0),
  (7, .bipush 60, 2, .int ((60 : Int32)), [], z_g0),
  (9, .aload_n 0, 1, .null, [], z_g0),
  (10, .getfield 91, 3, .null, [13, 37, 3], z_g0),
  (13, .iload_n 1, 1, .null, [], z_g0),
  (14, .iaload, 1, .null, [101], z_g0),
  (15, .imul, 1, .null, [], z_g0),
  (16, .iconst 5, 1, .int ((5 : Int32)), [], z_g0),
  (17, .aload_n 0, 1, .null, [], z_g0),
  (18, .getfield 94, 3, .null, [13, 38, 3], z_g0),
  (21, .iload_n 1, 1, .null, [], z_g0),
  (22, .iaload, 1, .null, [101], z_g0),
  (23, .imul, 1, .null, [], z_g0),
  (24, .iadd, 1, .null, [], z_g0),
  (25, .iconst 5, 1, .int ((5 : Int32)), [], z_g0),
  (26, .isub, 1, .null, [], z_g0),
  (27, .istore_n 2, 1, .null, [], z_g0),
  (28, .aload_n 0, 1, .null, [], z_g0),
  (29, .getfield 79, 3, .null, [13, 30, 3], z_g0),
  (32, .iload_n 2, 1, .null, [], z_g0),
  (33, .iconst 2, 1, .int ((2 : Int32)), [], z_g0),
  (34, .iadd, 1, .null, [], z_g0),
  (35, .iaload, 1, .null, [101], z_g0),
  (36, .istore_n 3, 1, .null, [], z_g0),
  (37, .aload_n 0, 1, .null, [], z_g0),
  (38, .getfield 79, 3, .null, [13, 30, 3], z_g0),
  (41, .iload_n 2, 1, .null, [], z_g0),
  (42, .iconst 3, 1, .int ((3 : Int32)), [], z_g0),
  (43, .iadd, 1, .null, [], z_g0),
  (44, .iaload, 1, .null, [101], z_g0),
  (45, .istore 4, 2, .null, [], z_g0),
  (47, .aload_n 0, 1, .null, [], z_g0),
  (48, .getfield 97, 3, .null, [13, 39, 3], z_g0),
  (51, .iload_n 1, 1, .null, [], z_g0),
  (52, .iaload, 1, .null, [101], z_g0),
  (53, .iconst 1, 1, .int ((1 : Int32)), [], z_g0),
  (54, .if_icmp .ne 41, 3, .null, [95], z_g0),
  (57, .aload_n 0, 1, .null, [], z_g0),
  (58, .getfield 97, 3, .null, [13, 39, 3], z_g0),
  (61, .iload_n 1, 1, .null, [], z_g0),
  (62, .iconst 0, 1, .int ((0 : Int32)), [], z_g0),
  (63, .iastore, 1, .null, [], z_g0),
  (64, .aload_n 0, 1, .null, [], z_g0),
  (65, .iconst 0, 1, .int ((0 : Int32)), [], z_g0),
  (66, .putfield 433, 3, .null, [13, 46, 4], z_g0),
  (69, .aload_n 0, 1, .null, [], z_g0),
  (70, .getfield 437, 3, .null, [13, 47, 0], z_g0),
  (73, .ifCond .eq 211, 3, .null, [284], z_g0),
  (76, .aload_n 0, 1, .null, [], z_g0),
  (77, .aload_n 0, 1, .null, [], z_g0),
  (78, .getfield 437, 3, .null, [13, 47, 0], z_g0),
  (81, .aload_n 0, 1, .null, [], z_g0),
  (82, .getfield 440, 3, .null, [13, 48, 0], z_g0),
  (85, .aload_n 0, 1, .null, [], z_g0),
  (86, .getfield 443, 3, .null, [13, 49, 0], z_g0),
  (89, .invokevirtual 462, 3, .null, [1, 13, 0, 0, 0], g_X12_leave),
  (92, .goto 192, 3, .null, [284], z_g0),
  (95, .aload_n 0, 1, .null, [], z_g0),
  (96, .getfield 97, 3, .null, [13, 39, 3], z_g0),
  (99, .iload_n 1, 1, .null, [], z_g0),
  (100, .iaload, 1, .null, [101], z_g0),
  (101, .iconst 2, 1, .int ((2 : Int32)), [], z_g0),
  (102, .if_icmp .ne 101, 3, .null, [203], z_g0),
  (105, .aload_n 0, 1, .null, [], z_g0),
  (106, .getfield 437, 3, .null, [13, 47, 0], z_g0),
  (109, .iconst 1, 1, .int ((1 : Int32)), [], z_g0),
  (110, .if_icmp .ne 34, 3, .null, [144], z_g0),
  (113, .iload_n 3, 1, .null, [], z_g0),
  (114, .ifCond .eq 26, 3, .null, [140], z_g0),
  (117, .iload_n 3, 1, .null, [], z_g0),
  (118, .aload_n 0, 1, .null, [], z_g0),
  (119, .getfield 440, 3, .null, [13, 48, 0], z_g0),
  (122, .if_icmp .eq 18, 3, .null, [140], z_g0),
  (125, .iload_n 3, 1, .null, [], z_g0),
  (126, .bipush 9, 2, .int ((9 : Int32)), [], z_g0),
  (128, .if_icmp .ne 16, 3, .null, [144], z_g0),
  (131, .aload_n 0, 1, .null, [], z_g0),
  (132, .getfield 440, 3, .null, [13, 48, 0], z_g0),
  (135, .bipush 8, 2, .int ((8 : Int32)), [], z_g0),
  (137, .if_icmp .ge 7, 3, .null, [144], z_g0),
  (140, .iconst 1, 1, .int ((1 : Int32)), [], z_g0),
  (141, .goto 4, 3, .null, [145], z_g0),
  (144, .iconst 0, 1, .int ((0 : Int32)), [], z_g0),
  (145, .istore 5, 2, .null, [], z_g0),
  (147, .aload_n 0, 1, .null, [], z_g0),
  (148, .iload 5, 2, .null, [], z_g0),
  (150, .ifCond .eq 7, 3, .null, [157], z_g0),
  (153, .iconst 0, 1, .int ((0 : Int32)), [], z_g0),
  (154, .goto 7, 3, .null, [161], z_g0),
  (157, .aload_n 0, 1, .null, [], z_g0),
  (158, .getfield 437, 3, .null, [13, 47, 0], z_g0),
  (161, .putfield 437, 3, .null, [13, 47, 0], z_g0),
  (164, .iload 5, 2, .null, [], z_g0),
  (166, .ifCond .eq 30, 3, .null, [196], z_g0),
  (169, .iload 4, 2, .null, [], z_g0),
  (171, .iconst (-1), 1, .int ((-1 : Int32)), [], z_g0),
  (172, .if_icmp .eq 24, 3, .null, [196], z_g0),
  (175, .aload_n 0, 1, .null, [], z_g0),
  (176, .getfield 97, 3, .null, [13, 39, 3], z_g0),
  (179, .iload_n 1, 1, .null, [], z_g0),
  (180, .iconst 3, 1, .int ((3 : Int32)), [], z_g0),
  (181, .iastore, 1, .null, [], z_g0),
  (182, .aload_n 0, 1, .null, [], z_g0),
  (183, .iconst 0, 1, .int ((0 : Int32)), [], z_g0),
  (184, .putfield 433, 3, .null, [13, 46, 4], z_g0),
  (187, .aload_n 0, 1, .null, [], z_g0),
  (188, .iload 4, 2, .null, [], z_g0),
  (190, .invokevirtual 455, 3, .null, [1, 13, 0], g_X12_call),
  (193, .goto 7, 3, .null, [200], z_g0),
  (196, .aload_n 0, 1, .null, [], z_g0),
  (197, .invokevirtual 465, 3, .null, [1, 13], g_X12_last),
  (200, .goto 84, 3, .null, [284], z_g0),
  (203, .aload_n 0, 1, .null, [], z_g0),
  (204, .getfield 97, 3, .null, [13, 39, 3], z_g0),
  (207, .iload_n 1, 1, .null, [], z_g0),
  (208, .iaload, 1, .null, [101], z_g0),
  (209, .iconst 3, 1, .int ((3 : Int32)), [], z_g0),
  (210, .if_icmp .ne 10, 3, .null, [220], z_g0),
  (213, .aload_n 0, 1, .null, [], z_g0),
  (214, .invokevirtual 465, 3, .null, [1, 13], g_X12_last),
  (217, .goto 67, 3, .null, [284], z_g0),
  (220, .aload_n 0, 1, .null, [], z_g0),
  (221, .getfield 437, 3, .null, [13, 47, 0], z_g0),
  (224, .ifCond .eq 56, 3, .null, [280], z_g0),
  (227, .aload_n 0, 1, .null, [], z_g0),
  (228, .dup, 1, .null, [], z_g0),
  (229, .getfield 468, 3, .null, [13, 52, 0], z_g0),
  (232, .aload_n 0, 1, .null, [], z_g0),
  (233, .getfield 103, 3, .null, [13, 41, 3], z_g0),
  (236, .iload_n 1, 1, .null, [], z_g0),
  (237, .iaload, 1, .null, [101], z_g0),
  (238, .ifCond .eq 7, 3, .null, [245], z_g0),
  (241, .iconst 1, 1, .int ((1 : Int32)), [], z_g0),
  (242, .goto 4, 3, .null, [246], z_g0),
  (245, .iconst 0, 1, .int ((0 : Int32)), [], z_g0),
  (246, .iadd, 1, .null, [], z_g0),
  (247, .putfield 468, 3, .null, [13, 52, 0], z_g0),
  (250, .aload_n 0, 1, .null, [], z_g0),
  (251, .getfield 103, 3, .null, [13, 41, 3], z_g0),
  (254, .iload_n 1, 1, .null, [], z_g0),
  (255, .aload_n 0, 1, .null, [], z_g0),
  (256, .getfield 437, 3, .null, [13, 47, 0], z_g0),
  (259, .iastore, 1, .null, [], z_g0),
  (260, .aload_n 0, 1, .null, [], z_g0),
  (261, .getfield 106, 3, .null, [13, 42, 3], z_g0),
  (264, .iload_n 1, 1, .null, [], z_g0),
  (265, .aload_n 0, 1, .null, [], z_g0),
  (266, .getfield 440, 3, .null, [13, 48, 0], z_g0),
  (269, .iastore, 1, .null, [], z_g0),
  (270, .aload_n 0, 1, .null, [], z_g0),
  (271, .getfield 109, 3, .null, [13, 43, 3], z_g0),
  (274, .iload_n 1, 1, .null, [], z_g0),
  (275, .aload_n 0, 1, .null, [], z_g0),
  (276, .getfield 443, 3, .null, [13, 49, 0], z_g0),
  (279, .iastore, 1, .null, [], z_g0),
  (280, .aload_n 0, 1, .null, [], z_g0),
  (281, .invokevirtual 459, 3, .null, [1, 13], g_X12_over),
  (284, .return_, 1, .null, [], z_g0)]
def a_X12_hear_145 {ρ : Type} (k : Nat → Int32 → Int32 → Int32 → z_St → Option ρ) (ls : z_Lv) (st : List Value) (S : z_St) : Option ρ := z_gR ls 0 fun v0 => z_gI ls 1 fun v1 => z_gI ls 4 fun v4 => z_pI st fun t0 s0 => z_p0 s0 (k v0 v1 v4 t0 S)
def a_X12_hear_161 {ρ : Type} (k : Nat → Int32 → Int32 → Int32 → Nat → Int32 → z_St → Option ρ) (ls : z_Lv) (st : List Value) (S : z_St) : Option ρ := z_gR ls 0 fun v0 => z_gI ls 1 fun v1 => z_gI ls 4 fun v4 => z_gI ls 5 fun v5 => z_pI st fun t1 s1 => z_pR s1 fun t0 s0 => z_p0 s0 (k v0 v1 v4 v5 t0 t1 S)
def a_X12_hear_246 {ρ : Type} (k : Nat → Int32 → Nat → Int32 → Int32 → z_St → Option ρ) (ls : z_Lv) (st : List Value) (S : z_St) : Option ρ := z_gR ls 0 fun v0 => z_gI ls 1 fun v1 => z_pI st fun t2 s2 => z_pI s2 fun t1 s1 => z_pR s1 fun t0 s0 => z_p0 s0 (k v0 v1 t0 t1 t2 S)
set_option maxRecDepth 100000 in
theorem r_X12_hear_246 (v0 : Nat) (v1 : Int32) (t0 : Nat) (t1 : Int32) (t2 : Int32) (S : z_St) : z_seg z_rV (c_X12_hear) [145, 161, 246] (fun pc => fun _ _ _ => none) 165 (z_to 246 (c_X12_hear)) [(0, .ref v0), (1, .int v1)] [.int t2, .int t1, .ref t0] S = j_X12_hear_246 v0 v1 t0 t1 t2 S := rfl
set_option maxRecDepth 100000 in
theorem r_X12_hear_161 (v0 : Nat) (v1 : Int32) (v4 : Int32) (v5 : Int32) (t0 : Nat) (t1 : Int32) (S : z_St) : z_seg z_rV (c_X12_hear) [145, 161, 246] (fun pc => fun _ _ _ => none) 165 (z_to 161 (c_X12_hear)) [(0, .ref v0), (1, .int v1), (4, .int v4), (5, .int v5)] [.int t1, .ref t0] S = j_X12_hear_161 v0 v1 v4 v5 t0 t1 S := rfl
set_option maxRecDepth 100000 in
theorem r_X12_hear_145 (v0 : Nat) (v1 : Int32) (v4 : Int32) (t0 : Int32) (S : z_St) : z_seg z_rV (c_X12_hear) [145, 161, 246] (fun pc => cond (Nat.beq pc 161) (a_X12_hear_161 (j_X12_hear_161)) (fun _ _ _ => none)) 165 (z_to 145 (c_X12_hear)) [(0, .ref v0), (1, .int v1), (4, .int v4)] [.int t0] S = j_X12_hear_145 v0 v1 v4 t0 S := rfl
set_option maxRecDepth 100000 in
theorem r_X12_hear (v0 : Nat) (S : z_St) : z_seg z_rV (c_X12_hear) [145, 161, 246] (fun pc => cond (Nat.beq pc 145) (a_X12_hear_145 (j_X12_hear_145)) (cond (Nat.beq pc 246) (a_X12_hear_246 (j_X12_hear_246)) (fun _ _ _ => none))) 165 (c_X12_hear) [(0, .ref v0)] [] S = b_X12_hear v0 S := rfl
def b_X12_fail (v0 : Nat) (v1 : Int32) (v2 : Int32) (S : z_St) : Option z_St :=
z_chk S v0 13 (
(f_X12_leave v0 ((1 : Int32)) v1 v2 S).bind fun q1 =>
some q1)
def f_X12_fail : Nat → Int32 → Int32 → z_St → Option z_St := z_op (b_X12_fail)
theorem e_X12_fail (v0 : Nat) (v1 : Int32) (v2 : Int32) (S : z_St) : f_X12_fail v0 v1 v2 S = b_X12_fail v0 v1 v2 S := congrFun (congrFun (congrFun (congrFun (z_op_eq (b_X12_fail)) v0) v1) v2) S
def g_X12_fail : z_G := .inr (.inr (.inr (fun as S => match as with
  | [.ref v0, .int v1, .int v2] => f_X12_fail v0 v1 v2 S
  | _ => none)))
def c_X12_fail : List z_E := [
  (0, .aload_n 0, 1, .null, [], z_g0),
  (1, .iconst 1, 1, .int ((1 : Int32)), [], z_g0),
  (2, .iload_n 1, 1, .null, [], z_g0),
  (3, .iload_n 2, 1, .null, [], z_g0),
  (4, .invokevirtual 462, 3, .null, [1, 13, 0, 0, 0], g_X12_leave),
  (7, .return_, 1, .null, [], z_g0)]
set_option maxRecDepth 100000 in
theorem r_X12_fail (v0 : Nat) (v1 : Int32) (v2 : Int32) (S : z_St) : z_seg z_rV (c_X12_fail) [] (fun pc => fun _ _ _ => none) 9 (c_X12_fail) [(0, .ref v0), (1, .int v1), (2, .int v2)] [] S = b_X12_fail v0 v1 v2 S := rfl
def b_X12_putStep (v0 : Nat) (v1 : Int32) (v2 : Int32) (v3 : Int32) (S : z_St) : Option z_St :=
z_chk S v0 13 (
(f_X12_in v1.toInt64 ((0 : Int64)) ((((z_i S v0 3)) - ((1 : Int32))).toInt64) S).bind fun q1 =>
if q1.1 = 0 then
(z_chk q1.2 v0 13 (
(f_X12_fail v0 ((1 : Int32)) ((0 : Int32)) q1.2).bind fun q9 =>
some q9))
else
(z_chk q1.2 v0 13 (
z_onV (va_rf (z_r q1.2 v0 5)) fun b2 =>
z_inb q1.2 b2 101 v1 (
(f_X12_in v2.toInt64 ((0 : Int64)) ((((z_i q1.2 b2 v1.toNatClampNeg)) - ((1 : Int32))).toInt64) q1.2).bind fun q3 =>
if q3.1 = 0 then
(z_chk q3.2 v0 13 (
(f_X12_fail v0 ((2 : Int32)) ((0 : Int32)) q3.2).bind fun q8 =>
some q8))
else
(z_chk q3.2 v0 13 (
z_chk q3.2 v0 13 (
z_onV (va_rf (z_r q3.2 v0 4)) fun b4 =>
z_inb q3.2 b4 101 v1 (
(f_X12_cellOfWhole ((z_i q3.2 b4 v1.toNatClampNeg)) v3.toInt64 q3.2).bind fun q5 =>
z_onV (va_rf (z_r q3.2 v0 6)) fun b6 =>
z_inb q5.2 b6 102 ((((64 : Int32)) * v1) + v2) (
let S7 := z_wl q5.2 b6 ((((64 : Int32)) * v1) + v2).toNatClampNeg q5.1
some S7)))))))))
def f_X12_putStep : Nat → Int32 → Int32 → Int32 → z_St → Option z_St := z_op (b_X12_putStep)
theorem e_X12_putStep (v0 : Nat) (v1 : Int32) (v2 : Int32) (v3 : Int32) (S : z_St) : f_X12_putStep v0 v1 v2 v3 S = b_X12_putStep v0 v1 v2 v3 S := congrFun (congrFun (congrFun (congrFun (congrFun (z_op_eq (b_X12_putStep)) v0) v1) v2) v3) S
def g_X12_putStep : z_G := .inr (.inr (.inr (fun as S => match as with
  | [.ref v0, .int v1, .int v2, .int v3] => f_X12_putStep v0 v1 v2 v3 S
  | _ => none)))
def c_X12_putStep : List z_E := [
  (0, .iload_n 1, 1, .null, [], z_g0),
  (1, .i2l, 1, .null, [], z_g0),
  (2, .lconst 0, 1, .long (0 : Int64), [], z_g0),
  (3, .aload_n 0, 1, .null, [], z_g0),
  (4, .getfield 271, 3, .null, [13, 3, 0], z_g0),
  (7, .iconst 1, 1, .int ((1 : Int32)), [], z_g0),
  (8, .isub, 1, .null, [], z_g0),
  (9, .i2l, 1, .null, [], z_g0),
  (10, .invokestatic 274, 3, .null, [0, 0, 0, 0], g_X12_in),
  (13, .ifCond .ne 12, 3, .null, [25], z_g0),
  (16, .aload_n 0, 1, .null, [], z_g0),
  (17, .iconst 1, 1, .int ((1 : Int32)), [], z_g0),
  (18, .iconst 0, 1, .int ((0 : Int32)), [], z_g0),
  (19, .invokevirtual 474, 3, .null, [1, 13, 0, 0], g_X12_fail),
  (22, .goto 52, 3, .null, [74], z_g0),
  (25, .iload_n 2, 1, .null, [], z_g0),
  (26, .i2l, 1, .null, [], z_g0),
  (27, .lconst 0, 1, .long (0 : Int64), [], z_g0),
  (28, .aload_n 0, 1, .null, [], z_g0),
  (29, .getfield 13, 3, .null, [13, 5, 3], z_g0),
  (32, .iload_n 1, 1, .null, [], z_g0),
  (33, .iaload, 1, .null, [101], z_g0),
  (34, .iconst 1, 1, .int ((1 : Int32)), [], z_g0),
  (35, .isub, 1, .null, [], z_g0),
  (36, .i2l, 1, .null, [], z_g0),
  (37, .invokestatic 274, 3, .null, [0, 0, 0, 0], g_X12_in),
  (40, .ifCond .ne 12, 3, .null, [52], z_g0),
  (43, .aload_n 0, 1, .null, [], z_g0),
  (44, .iconst 2, 1, .int ((2 : Int32)), [], z_g0),
  (45, .iconst 0, 1, .int ((0 : Int32)), [], z_g0),
  (46, .invokevirtual 474, 3, .null, [1, 13, 0, 0], g_X12_fail),
  (49, .goto 25, 3, .null, [74], z_g0),
  (52, .aload_n 0, 1, .null, [], z_g0),
  (53, .getfield 16, 3, .null, [13, 6, 3], z_g0),
  (56, .bipush 64, 2, .int ((64 : Int32)), [], z_g0),
  (58, .iload_n 1, 1, .null, [], z_g0),
  (59, .imul, 1, .null, [], z_g0),
  (60, .iload_n 2, 1, .null, [], z_g0),
  (61, .iadd, 1, .null, [], z_g0),
  (62, .aload_n 0, 1, .null, [], z_g0),
  (63, .getfield 7, 3, .null, [13, 4, 3], z_g0),
  (66, .iload_n 1, 1, .null, [], z_g0),
  (67, .iaload, 1, .null, [101], z_g0),
  (68, .iload_n 3, 1, .null, [], z_g0),
  (69, .i2l, 1, .null, [], z_g0),
  (70, .invokestatic 267, 3, .null, [0, 0, 0], g_X12_cellOfWhole),
  (73, .lastore, 1, .null, [], z_g0),
  (74, .return_, 1, .null, [], z_g0)]
set_option maxRecDepth 100000 in
theorem r_X12_putStep (v0 : Nat) (v1 : Int32) (v2 : Int32) (v3 : Int32) (S : z_St) : z_seg z_rV (c_X12_putStep) [] (fun pc => fun _ _ _ => none) 51 (c_X12_putStep) [(0, .ref v0), (1, .int v1), (2, .int v2), (3, .int v3)] [] S = b_X12_putStep v0 v1 v2 v3 S := rfl
def b_X12_sumStep (v0 : Nat) (v1 : Int32) (v2 : Int32) (S : z_St) : Option z_St :=
if v2 = 0 then
(z_chk S v0 13 (
(f_X12_fail v0 ((6 : Int32)) ((0 : Int32)) S).bind fun q5 =>
some q5))
else
(z_chk S v0 13 (
z_nzl v2.toInt64 (
let x1 := ((z_l S v0 31)) + (v1.toInt64 / v2.toInt64)
(f_X12_in x1 ((0 : Int64)) ((1000000000000000 : Int64)) S).bind fun q2 =>
if q2.1 = 0 then
(z_chk q2.2 v0 13 (
(f_X12_fail v0 ((8 : Int32)) ((2 : Int32)) q2.2).bind fun q4 =>
some q4))
else
(z_chk q2.2 v0 13 (
let S3 := z_wl q2.2 v0 31 x1
some S3)))))
def f_X12_sumStep : Nat → Int32 → Int32 → z_St → Option z_St := z_op (b_X12_sumStep)
theorem e_X12_sumStep (v0 : Nat) (v1 : Int32) (v2 : Int32) (S : z_St) : f_X12_sumStep v0 v1 v2 S = b_X12_sumStep v0 v1 v2 S := congrFun (congrFun (congrFun (congrFun (z_op_eq (b_X12_sumStep)) v0) v1) v2) S
def g_X12_sumStep : z_G := .inr (.inr (.inr (fun as S => match as with
  | [.ref v0, .int v1, .int v2] => f_X12_sumStep v0 v1 v2 S
  | _ => none)))
def c_X12_sumStep : List z_E := [
  (0, .iload_n 2, 1, .null, [], z_g0),
  (1, .ifCond .ne 11, 3, .null, [12], z_g0),
  (4, .aload_n 0, 1, .null, [], z_g0),
  (5, .bipush 6, 2, .int ((6 : Int32)), [], z_g0),
  (7, .iconst 0, 1, .int ((0 : Int32)), [], z_g0),
  (8, .invokevirtual 474, 3, .null, [1, 13, 0, 0], g_X12_fail),
  (11, .return_, 1, .null, [], z_g0),
  (12, .aload_n 0, 1, .null, [], z_g0),
  (13, .getfield 484, 3, .null, [13, 31, 1], z_g0),
  (16, .iload_n 1, 1, .null, [], z_g0),
  (17, .i2l, 1, .null, [], z_g0),
  (18, .iload_n 2, 1, .null, [], z_g0),
  (19, .i2l, 1, .null, [], z_g0),
  (20, .ldiv, 1, .null, [], z_g0),
  (21, .ladd, 1, .null, [], z_g0),
  (22, .lstore_n 3, 1, .null, [], z_g0),
  (23, .lload_n 3, 1, .null, [], z_g0),
  (24, .lconst 0, 1, .long (0 : Int64), [], z_g0),
  (25, .ldc2_w 494, 3, .long (1000000000000000 : Int64), [], z_g0),
  (28, .invokestatic 274, 3, .null, [0, 0, 0, 0], g_X12_in),
  (31, .ifCond .ne 13, 3, .null, [44], z_g0),
  (34, .aload_n 0, 1, .null, [], z_g0),
  (35, .bipush 8, 2, .int ((8 : Int32)), [], z_g0),
  (37, .iconst 2, 1, .int ((2 : Int32)), [], z_g0),
  (38, .invokevirtual 474, 3, .null, [1, 13, 0, 0], g_X12_fail),
  (41, .goto 8, 3, .null, [49], z_g0),
  (44, .aload_n 0, 1, .null, [], z_g0),
  (45, .lload_n 3, 1, .null, [], z_g0),
  (46, .putfield 484, 3, .null, [13, 31, 1], z_g0),
  (49, .return_, 1, .null, [], z_g0)]
set_option maxRecDepth 100000 in
theorem r_X12_sumStep (v0 : Nat) (v1 : Int32) (v2 : Int32) (S : z_St) : z_seg z_rV (c_X12_sumStep) [] (fun pc => fun _ _ _ => none) 33 (c_X12_sumStep) [(0, .ref v0), (1, .int v1), (2, .int v2)] [] S = b_X12_sumStep v0 v1 v2 S := rfl
end
