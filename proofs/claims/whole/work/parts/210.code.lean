noncomputable section
def j_X12_holding_68 (k_6 : Nat → Int32 → UInt64 → Int32 → Int32 → z_St → Option (Int32 × z_St)) (v0 : Nat) (v1 : Int32) (v2 : UInt64) (v4 : Int32) (v5 : Int32) (t0 : Int32) (S : z_St) : Option (Int32 × z_St) :=
if t0 = 0 then
(let x6 := v5 + (1 : Int32)
k_6 v0 v1 v2 v4 x6 S)
else
(if v4 = ((-1 : Int32)) then
(let x7 := v5 + (1 : Int32)
k_6 v0 v1 v2 v5 x7 S)
else
(z_chk S v0 13 (
z_onV (va_rf (z_r S v0 81)) fun b8 =>
z_inb S b8 101 v5 (
z_chk S v0 13 (
z_onV (va_rf (z_r S v0 81)) fun b9 =>
z_inb S b9 101 v4 (
if ((z_i S b9 v4.toNatClampNeg)) ≤ ((z_i S b8 v5.toNatClampNeg)) then
(let x10 := v5 + (1 : Int32)
k_6 v0 v1 v2 v4 x10 S)
else
(let x11 := v5 + (1 : Int32)
k_6 v0 v1 v2 v5 x11 S)))))))
def l_X12_holding_6 : Nat → Nat → Int32 → UInt64 → Int32 → Int32 → z_St → Option (Int32 × z_St)
  | 0 => fun _ _ _ _ _ _ => none
  | n + 1 => fun (v0 : Nat) (v1 : Int32) (v2 : UInt64) (v4 : Int32) (v5 : Int32) (S : z_St) =>
z_chk S v0 13 (
if ((z_i S v0 80)) ≤ v5 then
(some (v4, S))
else
(z_chk S v0 13 (
z_onV (va_rf (z_r S v0 82)) fun b1 =>
z_inb S b1 101 v5 (
z_chk S v0 13 (
z_onV (va_rf (z_r S v0 83)) fun b2 =>
z_inb S b2 101 v5 (
(f_X12_in v1.toInt64 (((z_i S b1 v5.toNatClampNeg)).toInt64) (((z_i S b2 v5.toNatClampNeg)).toInt64) S).bind fun q3 =>
if q3.1 = 0 then
(j_X12_holding_68 (l_X12_holding_6 n) v0 v1 v2 v4 v5 ((0 : Int32)) q3.2)
else
(z_chk q3.2 v0 13 (
z_onV (va_rf (z_r q3.2 v0 84)) fun b4 =>
z_inb q3.2 b4 103 v5 (
if (Op.cmpValue (FP.dcmp v2 ((z_d q3.2 b4 v5.toNatClampNeg))) .l) < 0 then
(j_X12_holding_68 (l_X12_holding_6 n) v0 v1 v2 v4 v5 ((0 : Int32)) q3.2)
else
(z_chk q3.2 v0 13 (
z_onV (va_rf (z_r q3.2 v0 85)) fun b5 =>
z_inb q3.2 b5 103 v5 (
if 0 ≤ (Op.cmpValue (FP.dcmp v2 ((z_d q3.2 b5 v5.toNatClampNeg))) .g) then
(j_X12_holding_68 (l_X12_holding_6 n) v0 v1 v2 v4 v5 ((0 : Int32)) q3.2)
else
(j_X12_holding_68 (l_X12_holding_6 n) v0 v1 v2 v4 v5 ((1 : Int32)) q3.2)))))))))))))
def b_X12_holding (v0 : Nat) (v1 : Int32) (v2 : UInt64) (S : z_St) : Option (Int32 × z_St) :=
l_X12_holding_6 z_N v0 v1 v2 ((-1 : Int32)) ((0 : Int32)) S
def f_X12_holding : Nat → Int32 → UInt64 → z_St → Option (Int32 × z_St) := z_op (b_X12_holding)
theorem e_X12_holding (v0 : Nat) (v1 : Int32) (v2 : UInt64) (S : z_St) : f_X12_holding v0 v1 v2 S = b_X12_holding v0 v1 v2 S := congrFun (congrFun (congrFun (congrFun (z_op_eq (b_X12_holding)) v0) v1) v2) S
def g_X12_holding : z_G := .inl (fun as S => match as with
  | [.ref v0, .int v1, .double v2] => f_X12_holding v0 v1 v2 S
  | _ => none)
def c_X12_holding : List z_E := [
  (0, .iconst (-1), 1, .int ((-1 : Int32)), [], z_g0),
  (1, .istore 4, 2, .null, [], z_g0),
  (3, .iconst 0, 1, .int ((0 : Int32)), [], z_g0),
  (4, .istore 5, 2, .null, [], z_g0),
  (6, .iload 5, 2, .null, [], z_g0),
  (8, .aload_n 0, 1, .null, [], z_g0),
  (9, .getfield 605, 3, .null, [13, 80, 0], z_g0),
  (12, .if_icmp .ge 101, 3, .null, [113], z_g0),
  (15, .iload_n 1, 1, .null, [], z_g0),
  (16, .i2l, 1, .null, [], z_g0),
  (17, .aload_n 0, 1, .null, [], z_g0),
  (18, .getfield 178, 3, .null, [13, 82, 3], z_g0),
  (21, .iload 5, 2, .null, [], z_g0),
  (23, .iaload, 1, .null, [101], z_g0),
  (24, .i2l, 1, .null, [], z_g0),
  (25, .aload_n 0, 1, .null, [], z_g0),
  (26, .getfield 181, 3, .null, [13, 83, 3], z_g0),
  (29, .iload 5, 2, .null, [], z_g0),
  (31, .iaload, 1, .null, [101], z_g0),
  (32, .i2l, 1, .null, [], z_g0),
  (33, .invokestatic 274, 3, .null, [0, 0, 0, 0], g_X12_in),
  (36, .ifCond .eq 31, 3, .null, [67], z_g0),
  (39, .dload_n 2, 1, .null, [], z_g0),
  (40, .aload_n 0, 1, .null, [], z_g0),
  (41, .getfield 184, 3, .null, [13, 84, 3], z_g0),
  (44, .iload 5, 2, .null, [], z_g0),
  (46, .daload, 1, .null, [], z_g0),
  (47, .dcmp .l, 1, .null, [], z_g0),
  (48, .ifCond .lt 19, 3, .null, [67], z_g0),
  (51, .dload_n 2, 1, .null, [], z_g0),
  (52, .aload_n 0, 1, .null, [], z_g0),
  (53, .getfield 187, 3, .null, [13, 85, 3], z_g0),
  (56, .iload 5, 2, .null, [], z_g0),
  (58, .daload, 1, .null, [], z_g0),
  (59, .dcmp .g, 1, .null, [], z_g0),
  (60, .ifCond .ge 7, 3, .null, [67], z_g0),
  (63, .iconst 1, 1, .int ((1 : Int32)), [], z_g0),
  (64, .goto 4, 3, .null, [68], z_g0),
  (67, .iconst 0, 1, .int ((0 : Int32)), [], z_g0),
  (68, .istore 6, 2, .null, [], z_g0),
  (70, .iload 6, 2, .null, [], z_g0),
  (72, .ifCond .eq 31, 3, .null, [103], z_g0),
  (75, .iload 4, 2, .null, [], z_g0),
  (77, .iconst (-1), 1, .int ((-1 : Int32)), [], z_g0),
  (78, .if_icmp .eq 20, 3, .null, [98], z_g0),
  (81, .aload_n 0, 1, .null, [], z_g0),
  (82, .getfield 175, 3, .null, [13, 81, 3], z_g0),
  (85, .iload 5, 2, .null, [], z_g0),
  (87, .iaload, 1, .null, [101], z_g0),
  (88, .aload_n 0, 1, .null, [], z_g0),
  (89, .getfield 175, 3, .null, [13, 81, 3], z_g0),
  (92, .iload 4, 2, .null, [], z_g0),
  (94, .iaload, 1, .null, [101], z_g0),
  (95, .if_icmp .ge 8, 3, .null, [103], z_g0),
  (98, .iload 5, 2, .null, [], z_g0),
  (100, .goto 5, 3, .null, [105], z_g0),
  (103, .iload 4, 2, .null, [], z_g0),
  (105, .istore 4, 2, .null, [], z_g0),
  (107, .iinc 5 1, 3, .int (1 : Int32), [], z_g0),
  (110, .goto (-104), 3, .null, [6], z_g0),
  (113, .iload 4, 2, .null, [], z_g0),
  (115, .ireturn, 1, .null, [], z_g0)]
def a_X12_holding_6 {ρ : Type} (k : Nat → Int32 → UInt64 → Int32 → Int32 → z_St → Option ρ) (ls : z_Lv) (st : List Value) (S : z_St) : Option ρ := z_gR ls 0 fun v0 => z_gI ls 1 fun v1 => z_gD ls 2 fun v2 => z_gI ls 4 fun v4 => z_gI ls 5 fun v5 => z_p0 st (k v0 v1 v2 v4 v5 S)
def a_X12_holding_68 {ρ : Type} (k : Nat → Int32 → UInt64 → Int32 → Int32 → Int32 → z_St → Option ρ) (ls : z_Lv) (st : List Value) (S : z_St) : Option ρ := z_gR ls 0 fun v0 => z_gI ls 1 fun v1 => z_gD ls 2 fun v2 => z_gI ls 4 fun v4 => z_gI ls 5 fun v5 => z_pI st fun t0 s0 => z_p0 s0 (k v0 v1 v2 v4 v5 t0 S)
set_option maxRecDepth 100000 in
theorem r_X12_holding_68 (k_6 : Nat → Int32 → UInt64 → Int32 → Int32 → z_St → Option (Int32 × z_St)) (v0 : Nat) (v1 : Int32) (v2 : UInt64) (v4 : Int32) (v5 : Int32) (t0 : Int32) (S : z_St) : z_seg z_rI (c_X12_holding) [6, 68] (fun pc => cond (Nat.beq pc 6) (a_X12_holding_6 k_6) (fun _ _ _ => none)) 65 (z_to 68 (c_X12_holding)) [(0, .ref v0), (1, .int v1), (2, .double v2), (4, .int v4), (5, .int v5)] [.int t0] S = j_X12_holding_68 k_6 v0 v1 v2 v4 v5 t0 S := rfl
set_option maxRecDepth 100000 in
theorem r_X12_holding_6 (n : Nat) (v0 : Nat) (v1 : Int32) (v2 : UInt64) (v4 : Int32) (v5 : Int32) (S : z_St) : z_seg z_rI (c_X12_holding) [6, 68] (fun pc => cond (Nat.beq pc 68) (a_X12_holding_68 (j_X12_holding_68 (l_X12_holding_6 n))) (fun _ _ _ => none)) 65 (z_to 6 (c_X12_holding)) [(0, .ref v0), (1, .int v1), (2, .double v2), (4, .int v4), (5, .int v5)] [] S = l_X12_holding_6 (n + 1) v0 v1 v2 v4 v5 S := rfl
set_option maxRecDepth 100000 in
theorem r_X12_holding (v0 : Nat) (v1 : Int32) (v2 : UInt64) (S : z_St) : z_seg z_rI (c_X12_holding) [6, 68] (fun pc => cond (Nat.beq pc 6) (a_X12_holding_6 (l_X12_holding_6 z_N)) (fun _ _ _ => none)) 65 (c_X12_holding) [(0, .ref v0), (1, .int v1), (2, .double v2)] [] S = b_X12_holding v0 v1 v2 S := rfl
def b_X12_wished (v0 : Nat) (v1 : Int32) (v2 : UInt64) (S : z_St) : Option (UInt64 × z_St) :=
z_chk S v0 13 (
(f_X12_holding v0 v1 v2 S).bind fun q1 =>
if q1.1 = ((-1 : Int32)) then
(some (FP.dconst0, q1.2))
else
(z_chk q1.2 v0 13 (
z_onV (va_rf (z_r q1.2 v0 86)) fun b2 =>
z_inb q1.2 b2 103 q1.1 (
some ((z_d q1.2 b2 q1.1.toNatClampNeg), q1.2)))))
def f_X12_wished : Nat → Int32 → UInt64 → z_St → Option (UInt64 × z_St) := z_op (b_X12_wished)
theorem e_X12_wished (v0 : Nat) (v1 : Int32) (v2 : UInt64) (S : z_St) : f_X12_wished v0 v1 v2 S = b_X12_wished v0 v1 v2 S := congrFun (congrFun (congrFun (congrFun (z_op_eq (b_X12_wished)) v0) v1) v2) S
def g_X12_wished : z_G := .inr (.inr (.inl (fun as S => match as with
  | [.ref v0, .int v1, .double v2] => f_X12_wished v0 v1 v2 S
  | _ => none)))
def c_X12_wished : List z_E := [
  (0, .aload_n 0, 1, .null, [], z_g0),
  (1, .iload_n 1, 1, .null, [], z_g0),
  (2, .dload_n 2, 1, .null, [], z_g0),
  (3, .invokevirtual 614, 3, .null, [1, 13, 0, 0], g_X12_holding),
  (6, .istore 4, 2, .null, [], z_g0),
  (8, .iload 4, 2, .null, [], z_g0),
  (10, .iconst (-1), 1, .int ((-1 : Int32)), [], z_g0),
  (11, .if_icmp .ne 7, 3, .null, [18], z_g0),
  (14, .dconst 0, 1, .double FP.dconst0, [], z_g0),
  (15, .goto 10, 3, .null, [25], z_g0),
  (18, .aload_n 0, 1, .null, [], z_g0),
  (19, .getfield 190, 3, .null, [13, 86, 3], z_g0),
  (22, .iload 4, 2, .null, [], z_g0),
  (24, .daload, 1, .null, [], z_g0),
  (25, .dreturn, 1, .null, [], z_g0)]
set_option maxRecDepth 100000 in
theorem r_X12_wished (v0 : Nat) (v1 : Int32) (v2 : UInt64) (S : z_St) : z_seg z_rD (c_X12_wished) [] (fun pc => fun _ _ _ => none) 18 (c_X12_wished) [(0, .ref v0), (1, .int v1), (2, .double v2)] [] S = b_X12_wished v0 v1 v2 S := rfl
def j_X12_steer_213 (k_79 : Nat → UInt64 → UInt64 → Int32 → z_St → Option z_St) (v0 : Nat) (v1 : UInt64) (v3 : UInt64) (v6 : Int32) (v7 : Int32) (v8 : UInt64) (S : z_St) : Option z_St :=
z_chk S v0 13 (
z_onV (va_rf (z_r S v0 65)) fun b22 =>
z_inb S b22 103 v7 (
z_nn (FP.dmul ((z_d S b22 v7.toNatClampNeg)) v3) (
z_nn (FP.dsub v1 (FP.dmul ((z_d S b22 v7.toNatClampNeg)) v3)) (
let x23 := FP.dsub v1 (FP.dmul ((z_d S b22 v7.toNatClampNeg)) v3)
z_chk S v0 13 (
z_onV (va_rf (z_r S v0 69)) fun b24 =>
z_inb S b24 101 v7 (
z_chk S v0 13 (
z_onV (va_rf (z_r S v0 65)) fun b25 =>
z_inb S b25 103 v7 (
(f_X12_bitsOf ((z_d S b25 v7.toNatClampNeg)) S).bind fun q26 =>
(f_X12_bitsOf v8 q26.2).bind fun q27 =>
if (lg_cmp q26.1 q27.1) = 0 then
(z_inb q27.2 b24 101 v7 (
let S28 := z_wi q27.2 b24 v7.toNatClampNeg (((z_i S b24 v7.toNatClampNeg)) + ((0 : Int32)))
let x29 := v6 + (1 : Int32)
k_79 v0 x23 v3 x29 S28))
else
(z_inb q27.2 b24 101 v7 (
let S30 := z_wi q27.2 b24 v7.toNatClampNeg (((z_i S b24 v7.toNatClampNeg)) + ((1 : Int32)))
let x31 := v6 + (1 : Int32)
k_79 v0 x23 v3 x31 S30))))))))))
def j_X12_steer_199 (k_79 : Nat → UInt64 → UInt64 → Int32 → z_St → Option z_St) (v0 : Nat) (v1 : UInt64) (v3 : UInt64) (v6 : Int32) (v7 : Int32) (v8 : UInt64) (t0 : UInt64) (S : z_St) : Option z_St :=
z_chk S v0 13 (
z_nn (FP.dadd v8 t0) (
z_onV (va_rf (z_r S v0 65)) fun b32 =>
z_inb S b32 103 v7 (
let S33 := z_wd S b32 v7.toNatClampNeg (FP.dadd v8 t0)
j_X12_steer_213 k_79 v0 v1 v3 v6 v7 v8 S33)))
def j_X12_steer_140 (k_79 : Nat → UInt64 → UInt64 → Int32 → z_St → Option z_St) (v0 : Nat) (v1 : UInt64) (v3 : UInt64) (v6 : Int32) (v7 : Int32) (v8 : UInt64) (S : z_St) : Option z_St :=
z_chk S v0 13 (
z_onV (va_rf (z_r S v0 66)) fun b19 =>
z_inb S b19 104 v7 (
if ((z_i S b19 v7.toNatClampNeg)) = 0 then
(z_chk S v0 13 (
(f_X12_targetOf v0 v3 v1 S).bind fun q20 =>
z_nn (FP.dsub q20.1 v8) (
let x21 := FP.dsub q20.1 v8
z_chk q20.2 v0 13 (
if (Op.cmpValue (FP.dcmp x21 ((z_d q20.2 v0 61))) .l) ≤ 0 then
(z_chk q20.2 v0 13 (
if 0 ≤ (Op.cmpValue (FP.dcmp x21 (FP.dneg ((z_d q20.2 v0 61)))) .g) then
(j_X12_steer_199 k_79 v0 v1 v3 v6 v7 v8 x21 q20.2)
else
(z_chk q20.2 v0 13 (
j_X12_steer_199 k_79 v0 v1 v3 v6 v7 v8 (FP.dneg ((z_d q20.2 v0 61))) q20.2))))
else
(z_chk q20.2 v0 13 (
j_X12_steer_199 k_79 v0 v1 v3 v6 v7 v8 ((z_d q20.2 v0 61)) q20.2))))))
else
(j_X12_steer_213 k_79 v0 v1 v3 v6 v7 v8 S)))
def l_X12_steer_79 : Nat → Nat → UInt64 → UInt64 → Int32 → z_St → Option z_St
  | 0 => fun _ _ _ _ _ => none
  | n + 1 => fun (v0 : Nat) (v1 : UInt64) (v3 : UInt64) (v6 : Int32) (S : z_St) =>
if ((4 : Int32)) ≤ v6 then
(some S)
else
(z_chk S v0 13 (
z_onV (va_rf (z_r S v0 79)) fun b10 =>
z_inb S b10 101 v6 (
let x11 := (z_i S b10 v6.toNatClampNeg)
z_chk S v0 13 (
z_onV (va_rf (z_r S v0 65)) fun b12 =>
z_inb S b12 103 x11 (
let x13 := (z_d S b12 x11.toNatClampNeg)
z_chk S v0 13 (
z_onV (va_rf (z_r S v0 66)) fun b14 =>
z_inb S b14 104 x11 (
if ((z_i S b14 x11.toNatClampNeg)) = 0 then
(z_chk S v0 13 (
z_onV (va_rf (z_r S v0 67)) fun b15 =>
z_inb S b15 104 x11 (
if ((z_i S b15 x11.toNatClampNeg)) = 0 then
(j_X12_steer_140 (l_X12_steer_79 n) v0 v1 v3 v6 x11 x13 S)
else
(z_chk S v0 13 (
z_chk S v0 13 (
z_onV (va_rf (z_r S v0 68)) fun b16 =>
z_inb S b16 103 x11 (
z_onV (va_rf (z_r S v0 65)) fun b17 =>
z_inb S b17 103 x11 (
let S18 := z_wd S b17 x11.toNatClampNeg ((z_d S b16 x11.toNatClampNeg))
j_X12_steer_213 (l_X12_steer_79 n) v0 v1 v3 v6 x11 x13 S18))))))))
else
(j_X12_steer_140 (l_X12_steer_79 n) v0 v1 v3 v6 x11 x13 S))))))))
def l_X12_steer_37 : Nat → Nat → UInt64 → UInt64 → Int32 → Int32 → z_St → Option z_St
  | 0 => fun _ _ _ _ _ _ => none
  | n + 1 => fun (v0 : Nat) (v1 : UInt64) (v3 : UInt64) (v5 : Int32) (v6 : Int32) (S : z_St) =>
if ((4 : Int32)) ≤ v6 then
(l_X12_steer_79 z_N v0 v1 v3 ((0 : Int32)) S)
else
(z_chk S v0 13 (
z_chk S v0 13 (
(f_X12_nextGate v0 v5 S).bind fun q4 =>
z_onV (va_rf (z_r S v0 79)) fun b5 =>
z_inb q4.2 b5 101 v6 (
let S6 := z_wi q4.2 b5 v6.toNatClampNeg q4.1
z_chk S6 v0 13 (
z_onV (va_rf (z_r S6 v0 79)) fun b7 =>
z_inb S6 b7 101 v6 (
let x8 := v5 ||| (((1 : Int32)) <<< (((z_i S6 b7 v6.toNatClampNeg)) &&& 31))
let x9 := v6 + (1 : Int32)
l_X12_steer_37 n v0 v1 v3 x8 x9 S6))))))
def b_X12_steer (v0 : Nat) (S : z_St) : Option z_St :=
z_chk S v0 13 (
z_nz ((366 : Int32)) (
z_chk S v0 13 (
z_chk S v0 13 (
(f_X12_wished v0 ((((z_i S v0 62)) + ((1 : Int32))) - (((z_i S v0 62)) + ((1 : Int32))) / ((366 : Int32)) * ((366 : Int32))) ((z_d S v0 64)) S).bind fun q1 =>
z_chk q1.2 v0 13 (
(f_X12_root ((z_d q1.2 v0 64)) q1.2).bind fun q2 =>
z_nn (FP.dmul ((4645744490609377280 : UInt64)) q2.1) (
let x3 := FP.dmul ((4645744490609377280 : UInt64)) q2.1
l_X12_steer_37 z_N v0 q1.1 x3 ((0 : Int32)) ((0 : Int32)) q2.2))))))
def f_X12_steer : Nat → z_St → Option z_St := z_op (b_X12_steer)
theorem e_X12_steer (v0 : Nat) (S : z_St) : f_X12_steer v0 S = b_X12_steer v0 S := congrFun (congrFun (z_op_eq (b_X12_steer)) v0) S
def g_X12_steer : z_G := .inr (.inr (.inr (fun as S => match as with
  | [.ref v0] => f_X12_steer v0 S
  | _ => none)))
def c_X12_steer : List z_E := [
  (0, .aload_n 0, 1, .null, [], z_g0),
  (1, .aload_n 0, 1, .null, [], z_g0),
  (2, .getfield 533, 3, .null, [13, 62, 0], z_g0),
  (5, .iconst 1, 1, .int ((1 : Int32)), [], z_g0),
  (6, .iadd, 1, .null, [], z_g0),
  (7, .sipush 366, 3, .int ((366 : Int32)), [], z_g0),
  (10, .irem, 1, .null, [], z_g0),
  (11, .aload_n 0, 1, .null, [], z_g0),
  (12, .getfield 133, 3, .null, [13, 64, 2], z_g0),
  (15, .invokevirtual 546, 3, .null, [1, 13, 0, 0], g_X12_wished),
  (18, .dstore_n 1, 1, .null, [], z_g0),
  (19, .ldc2_w 550, 3, .double (4645744490609377280 : UInt64), [], z_g0),
  (22, .aload_n 0, 1, .null, [], z_g0),
  (23, .getfield 133, 3, .null, [13, 64, 2], z_g0),
  (26, .invokestatic 552, 3, .null, [0, 0], g_X12_root),
  (29, .dmul, 1, .null, [], z_g0),
  (30, .dstore_n 3, 1, .null, [], z_g0),
  (31, .iconst 0, 1, .int ((0 : Int32)), [], z_g0),
  (32, .istore 5, 2, .null, [], z_g0),
  (34, .iconst 0, 1, .int ((0 : Int32)), [], z_g0),
  (35, .istore 6, 2, .null, [], z_g0),
  (37, .iload 6, 2, .null, [], z_g0),
  (39, .iconst 4, 1, .int ((4 : Int32)), [], z_g0),
  (40, .if_icmp .ge 36, 3, .null, [76], z_g0),
  (43, .aload_n 0, 1, .null, [], z_g0),
  (44, .getfield 172, 3, .null, [13, 79, 3], z_g0),
  (47, .iload 6, 2, .null, [], z_g0),
  (49, .aload_n 0, 1, .null, [], z_g0),
  (50, .iload 5, 2, .null, [], z_g0),
  (52, .invokevirtual 555, 3, .null, [1, 13, 0], g_X12_nextGate),
  (55, .iastore, 1, .null, [], z_g0),
  (56, .iload 5, 2, .null, [], z_g0),
  (58, .iconst 1, 1, .int ((1 : Int32)), [], z_g0),
  (59, .aload_n 0, 1, .null, [], z_g0),
  (60, .getfield 172, 3, .null, [13, 79, 3], z_g0),
  (63, .iload 6, 2, .null, [], z_g0),
  (65, .iaload, 1, .null, [101], z_g0),
  (66, .ishl, 1, .null, [], z_g0),
  (67, .ior, 1, .null, [], z_g0),
  (68, .istore 5, 2, .null, [], z_g0),
  (70, .iinc 6 1, 3, .int (1 : Int32), [], z_g0),
  (73, .goto (-36), 3, .null, [37], z_g0),
  (76, .iconst 0, 1, .int ((0 : Int32)), [], z_g0),
  (77, .istore 6, 2, .null, [], z_g0),
  (79, .iload 6, 2, .null, [], z_g0),
  (81, .iconst 4, 1, .int ((4 : Int32)), [], z_g0),
  (82, .if_icmp .ge 183, 3, .null, [265], z_g0),
  (85, .aload_n 0, 1, .null, [], z_g0),
  (86, .getfield 172, 3, .null, [13, 79, 3], z_g0),
  (89, .iload 6, 2, .null, [], z_g0),
  (91, .iaload, 1, .null, [101], z_g0),
  (92, .istore 7, 2, .null, [], z_g0),
  (94, .aload_n 0, 1, .null, [], z_g0),
  (95, .getfield 136, 3, .null, [13, 65, 3], z_g0),
  (98, .iload 7, 2, .null, [], z_g0),
  (100, .daload, 1, .null, [], z_g0),
  (101, .dstore 8, 2, .null, [], z_g0),
  (103, .aload_n 0, 1, .null, [], z_g0),
  (104, .getfield 139, 3, .null, [13, 66, 3], z_g0),
  (107, .iload 7, 2, .null, [], z_g0),
  (109, .baload, 1, .null, [104], z_g0),
  (110, .ifCond .ne 30, 3, .null, [140], z_g0),
  (113, .aload_n 0, 1, .null, [], z_g0),
  (114, .getfield 142, 3, .null, [13, 67, 3], z_g0),
  (117, .iload 7, 2, .null, [], z_g0),
  (119, .baload, 1, .null, [104], z_g0),
  (120, .ifCond .eq 20, 3, .null, [140], z_g0),
  (123, .aload_n 0, 1, .null, [], z_g0),
  (124, .getfield 136, 3, .null, [13, 65, 3], z_g0),
  (127, .iload 7, 2, .null, [], z_g0),
  (129, .aload_n 0, 1, .null, [], z_g0),
  (130, .getfield 145, 3, .null, [13, 68, 3], z_g0),
  (133, .iload 7, 2, .null, [], z_g0),
  (135, .daload, 1, .null, [], z_g0),
  (136, .dastore, 1, .null, [], z_g0),
  (137, .goto 76, 3, .null, [213], z_g0),
  (140, .aload_n 0, 1, .null, [], z_g0),
  (141, .getfield 139, 3, .null, [13, 66, 3], z_g0),
  (144, .iload 7, 2, .null, [], z_g0),
  (146, .baload, 1, .null, [104], z_g0),
  (147, .ifCond .ne 66, 3, .null, [213], z_g0),
  (150, .aload_n 0, 1, .null, [], z_g0),
  (151, .dload_n 3, 1, .null, [], z_g0),
  (152, .dload_n 1, 1, .null, [], z_g0),
  (153, .invokevirtual 558, 3, .null, [1, 13, 0, 0], g_X12_targetOf),
  (156, .dload 8, 2, .null, [], z_g0),
  (158, .dsub, 1, .null, [], z_g0),
  (159, .dstore 10, 2, .null, [], z_g0),
  (161, .dload 10, 2, .null, [], z_g0),
  (163, .aload_n 0, 1, .null, [], z_g0),
  (164, .getfield 126, 3, .null, [13, 61, 2], z_g0),
  (167, .dcmp .l, 1, .null, [], z_g0),
  (168, .ifCond .le 10, 3, .null, [178], z_g0),
  (171, .aload_n 0, 1, .null, [], z_g0),
  (172, .getfield 126, 3, .null, [13, 61, 2], z_g0),
  (175, .goto 24, 3, .null, [199], z_g0),
  (178, .dload 10, 2, .null, [], z_g0),
  (180, .aload_n 0, 1, .null, [], z_g0),
  (181, .getfield 126, 3, .null, [13, 61, 2], z_g0),
  (184, .dneg, 1, .null, [], z_g0),
  (185, .dcmp .g, 1, .null, [], z_g0),
  (186, .ifCond .ge 11, 3, .null, [197], z_g0),
  (189, .aload_n 0, 1, .null, [], z_g0),
  (190, .getfield 126, 3, .null, [13, 61, 2], z_g0),
  (193, .dneg, 1, .null, [], z_g0),
  (194, .goto 5, 3, .null, [199], z_g0),
  (197, .dload 10, 2, .null, [], z_g0),
  (199, .dstore 10, 2, .null, [], z_g0),
  (201, .aload_n 0, 1, .null, [], z_g0),
  (202, .getfield 136, 3, .null, [13, 65, 3], z_g0),
  (205, .iload 7, 2, .null, [], z_g0),
  (207, .dload 8, 2, .null, [], z_g0),
  (209, .dload 10, 2, .null, [], z_g0),
  (211, .dadd, 1, .null, [], z_g0),
  (212, .dastore, 1, .null, [], z_g0),
  (213, .dload_n 1, 1, .null, [], z_g0),
  (214, .aload_n 0, 1, .null, [], z_g0),
  (215, .getfield 136, 3, .null, [13, 65, 3], z_g0),
  (218, .iload 7, 2, .null, [], z_g0),
  (220, .daload, 1, .null, [], z_g0),
  (221, .dload_n 3, 1, .null, [], z_g0),
  (222, .dmul, 1, .null, [], z_g0),
  (223, .dsub, 1, .null, [], z_g0),
  (224, .dstore_n 1, 1, .null, [], z_g0),
  (225, .aload_n 0, 1, .null, [], z_g0),
  (226, .getfield 148, 3, .null, [13, 69, 3], z_g0),
  (229, .iload 7, 2, .null, [], z_g0),
  (231, .dup2, 1, .null, [1], z_g0),
  (232, .iaload, 1, .null, [101], z_g0),
  (233, .aload_n 0, 1, .null, [], z_g0),
  (234, .getfield 136, 3, .null, [13, 65, 3], z_g0),
  (237, .iload 7, 2, .null, [], z_g0),
  (239, .daload, 1, .null, [], z_g0),
  (240, .invokestatic 252, 3, .null, [0, 0], g_X12_bitsOf),
  (243, .dload 8, 2, .null, [], z_g0),
  (245, .invokestatic 252, 3, .null, [0, 0], g_X12_bitsOf),
  (248, .lcmp, 1, .null, [], z_g0),
  (249, .ifCond .eq 7, 3, .null, [256], z_g0),
  (252, .iconst 1, 1, .int ((1 : Int32)), [], z_g0),
  (253, .goto 4, 3, .null, [257], z_g0),
  (256, .iconst 0, 1, .int ((0 : Int32)), [], z_g0),
  (257, .iadd, 1, .null, [], z_g0),
  (258, .iastore, 1, .null, [], z_g0),
  (259, .iinc 6 1, 3, .int (1 : Int32), [], z_g0),
  (262, .goto (-183), 3, .null, [79], z_g0),
  (265, .return_, 1, .null, [], z_g0)]
def a_X12_steer_37 {ρ : Type} (k : Nat → UInt64 → UInt64 → Int32 → Int32 → z_St → Option ρ) (ls : z_Lv) (st : List Value) (S : z_St) : Option ρ := z_gR ls 0 fun v0 => z_gD ls 1 fun v1 => z_gD ls 3 fun v3 => z_gI ls 5 fun v5 => z_gI ls 6 fun v6 => z_p0 st (k v0 v1 v3 v5 v6 S)
def a_X12_steer_79 {ρ : Type} (k : Nat → UInt64 → UInt64 → Int32 → z_St → Option ρ) (ls : z_Lv) (st : List Value) (S : z_St) : Option ρ := z_gR ls 0 fun v0 => z_gD ls 1 fun v1 => z_gD ls 3 fun v3 => z_gI ls 6 fun v6 => z_p0 st (k v0 v1 v3 v6 S)
def a_X12_steer_140 {ρ : Type} (k : Nat → UInt64 → UInt64 → Int32 → Int32 → UInt64 → z_St → Option ρ) (ls : z_Lv) (st : List Value) (S : z_St) : Option ρ := z_gR ls 0 fun v0 => z_gD ls 1 fun v1 => z_gD ls 3 fun v3 => z_gI ls 6 fun v6 => z_gI ls 7 fun v7 => z_gD ls 8 fun v8 => z_p0 st (k v0 v1 v3 v6 v7 v8 S)
def a_X12_steer_199 {ρ : Type} (k : Nat → UInt64 → UInt64 → Int32 → Int32 → UInt64 → UInt64 → z_St → Option ρ) (ls : z_Lv) (st : List Value) (S : z_St) : Option ρ := z_gR ls 0 fun v0 => z_gD ls 1 fun v1 => z_gD ls 3 fun v3 => z_gI ls 6 fun v6 => z_gI ls 7 fun v7 => z_gD ls 8 fun v8 => z_pD st fun t0 s0 => z_p0 s0 (k v0 v1 v3 v6 v7 v8 t0 S)
def a_X12_steer_213 {ρ : Type} (k : Nat → UInt64 → UInt64 → Int32 → Int32 → UInt64 → z_St → Option ρ) (ls : z_Lv) (st : List Value) (S : z_St) : Option ρ := z_gR ls 0 fun v0 => z_gD ls 1 fun v1 => z_gD ls 3 fun v3 => z_gI ls 6 fun v6 => z_gI ls 7 fun v7 => z_gD ls 8 fun v8 => z_p0 st (k v0 v1 v3 v6 v7 v8 S)
set_option maxRecDepth 100000 in
theorem r_X12_steer_213 (k_79 : Nat → UInt64 → UInt64 → Int32 → z_St → Option z_St) (v0 : Nat) (v1 : UInt64) (v3 : UInt64) (v6 : Int32) (v7 : Int32) (v8 : UInt64) (S : z_St) : z_seg z_rV (c_X12_steer) [37, 79, 140, 199, 213] (fun pc => cond (Nat.beq pc 79) (a_X12_steer_79 k_79) (fun _ _ _ => none)) 149 (z_to 213 (c_X12_steer)) [(0, .ref v0), (1, .double v1), (3, .double v3), (6, .int v6), (7, .int v7), (8, .double v8)] [] S = j_X12_steer_213 k_79 v0 v1 v3 v6 v7 v8 S := rfl
set_option maxRecDepth 100000 in
theorem r_X12_steer_199 (k_79 : Nat → UInt64 → UInt64 → Int32 → z_St → Option z_St) (v0 : Nat) (v1 : UInt64) (v3 : UInt64) (v6 : Int32) (v7 : Int32) (v8 : UInt64) (t0 : UInt64) (S : z_St) : z_seg z_rV (c_X12_steer) [37, 79, 140, 199, 213] (fun pc => cond (Nat.beq pc 213) (a_X12_steer_213 (j_X12_steer_213 k_79)) (fun _ _ _ => none)) 149 (z_to 199 (c_X12_steer)) [(0, .ref v0), (1, .double v1), (3, .double v3), (6, .int v6), (7, .int v7), (8, .double v8)] [.double t0] S = j_X12_steer_199 k_79 v0 v1 v3 v6 v7 v8 t0 S := rfl
set_option maxRecDepth 100000 in
theorem r_X12_steer_140 (k_79 : Nat → UInt64 → UInt64 → Int32 → z_St → Option z_St) (v0 : Nat) (v1 : UInt64) (v3 : UInt64) (v6 : Int32) (v7 : Int32) (v8 : UInt64) (S : z_St) : z_seg z_rV (c_X12_steer) [37, 79, 140, 199, 213] (fun pc => cond (Nat.beq pc 199) (a_X12_steer_199 (j_X12_steer_199 k_79)) (cond (Nat.beq pc 213) (a_X12_steer_213 (j_X12_steer_213 k_79)) (fun _ _ _ => none))) 149 (z_to 140 (c_X12_steer)) [(0, .ref v0), (1, .double v1), (3, .double v3), (6, .int v6), (7, .int v7), (8, .double v8)] [] S = j_X12_steer_140 k_79 v0 v1 v3 v6 v7 v8 S := rfl
set_option maxRecDepth 100000 in
theorem r_X12_steer_79 (n : Nat) (v0 : Nat) (v1 : UInt64) (v3 : UInt64) (v6 : Int32) (S : z_St) : z_seg z_rV (c_X12_steer) [37, 79, 140, 199, 213] (fun pc => cond (Nat.beq pc 140) (a_X12_steer_140 (j_X12_steer_140 (l_X12_steer_79 n))) (cond (Nat.beq pc 213) (a_X12_steer_213 (j_X12_steer_213 (l_X12_steer_79 n))) (fun _ _ _ => none))) 149 (z_to 79 (c_X12_steer)) [(0, .ref v0), (1, .double v1), (3, .double v3), (6, .int v6)] [] S = l_X12_steer_79 (n + 1) v0 v1 v3 v6 S := rfl
set_option maxRecDepth 100000 in
theorem r_X12_steer_37 (n : Nat) (v0 : Nat) (v1 : UInt64) (v3 : UInt64) (v5 : Int32) (v6 : Int32) (S : z_St) : z_seg z_rV (c_X12_steer) [37, 79, 140, 199, 213] (fun pc => cond (Nat.beq pc 37) (a_X12_steer_37 (l_X12_steer_37 n)) (cond (Nat.beq pc 79) (a_X12_steer_79 (l_X12_steer_79 z_N)) (fun _ _ _ => none))) 149 (z_to 37 (c_X12_steer)) [(0, .ref v0), (1, .double v1), (3, .double v3), (5, .int v5), (6, .int v6)] [] S = l_X12_steer_37 (n + 1) v0 v1 v3 v5 v6 S := rfl
set_option maxRecDepth 100000 in
theorem r_X12_steer (v0 : Nat) (S : z_St) : z_seg z_rV (c_X12_steer) [37, 79, 140, 199, 213] (fun pc => cond (Nat.beq pc 37) (a_X12_steer_37 (l_X12_steer_37 z_N)) (fun _ _ _ => none)) 149 (c_X12_steer) [(0, .ref v0)] [] S = b_X12_steer v0 S := rfl
def j_X12_flowOn_74 (v0 : Nat) (t0 : Nat) (t1 : UInt64) (S : z_St) : Option z_St :=
z_chk S t0 13 (
let S8 := z_wd S t0 59 t1
z_chk S8 v0 13 (
let S9 := z_wd S8 v0 60 FP.dconst0
z_chk S9 v0 13 (
z_chk S9 v0 13 (
z_nn (FP.dadd ((z_d S9 v0 54)) ((z_d S9 v0 57))) (
z_chk S9 v0 13 (
z_nn (FP.dsub (FP.dadd ((z_d S9 v0 54)) ((z_d S9 v0 57))) ((z_d S9 v0 58))) (
z_chk S9 v0 13 (
z_nn (FP.dsub (FP.dsub (FP.dadd ((z_d S9 v0 54)) ((z_d S9 v0 57))) ((z_d S9 v0 58))) ((z_d S9 v0 59))) (
let x10 := FP.dsub (FP.dsub (FP.dadd ((z_d S9 v0 54)) ((z_d S9 v0 57))) ((z_d S9 v0 58))) ((z_d S9 v0 59))
(f_X12_lineOf ((40 : Int32)) S9).bind fun q11 =>
let x12 := FP.l2d q11.1
if 0 ≤ (Op.cmpValue (FP.dcmp x10 FP.dconst0) .g) then
(if (Op.cmpValue (FP.dcmp x10 x12) .l) ≤ 0 then
(z_chk q11.2 v0 13 (
let S13 := z_wd q11.2 v0 54 x10
some S13))
else
(z_chk q11.2 v0 13 (
z_nn (FP.dsub x10 x12) (
z_nn (FP.dadd ((z_d q11.2 v0 59)) (FP.dsub x10 x12)) (
z_chk q11.2 v0 13 (
let S14 := z_wd q11.2 v0 59 (FP.dadd ((z_d q11.2 v0 59)) (FP.dsub x10 x12))
z_chk S14 v0 13 (
let S15 := z_wd S14 v0 54 x12
some S15)))))))
else
(z_nn (FP.dsub FP.dconst0 x10) (
z_chk q11.2 v0 13 (
let S16 := z_wd q11.2 v0 60 (FP.dsub FP.dconst0 x10)
z_chk S16 v0 13 (
let S17 := z_wd S16 v0 54 FP.dconst0
some S17)))))))))))))
def l_X12_flowOn_15 : Nat → Nat → UInt64 → Int32 → z_St → Option z_St
  | 0 => fun _ _ _ _ => none
  | n + 1 => fun (v0 : Nat) (v1 : UInt64) (v3 : Int32) (S : z_St) =>
if ((4 : Int32)) ≤ v3 then
(z_nn (FP.dsub v1 ((4629137466983448576 : UInt64))) (
let x3 := FP.dsub v1 ((4629137466983448576 : UInt64))
if (Op.cmpValue (FP.dcmp x3 FP.dconst0) .l) ≤ 0 then
(j_X12_flowOn_74 v0 v0 FP.dconst0 S)
else
(z_nn (FP.dmul x3 x3) (
z_nn (FP.dmul (FP.dmul x3 x3) ((4639481672377565184 : UInt64))) (
j_X12_flowOn_74 v0 v0 (FP.dmul (FP.dmul x3 x3) ((4639481672377565184 : UInt64))) S)))))
else
(z_chk S v0 13 (
z_chk S v0 13 (
z_onV (va_rf (z_r S v0 65)) fun b4 =>
z_inb S b4 103 v3 (
z_nn (FP.dmul ((z_d S b4 v3.toNatClampNeg)) ((4645744490609377280 : UInt64))) (
(f_X12_root v1 S).bind fun q5 =>
z_nn (FP.dmul (FP.dmul ((z_d S b4 v3.toNatClampNeg)) ((4645744490609377280 : UInt64))) q5.1) (
z_nn (FP.dadd ((z_d S v0 58)) (FP.dmul (FP.dmul ((z_d S b4 v3.toNatClampNeg)) ((4645744490609377280 : UInt64))) q5.1)) (
z_chk q5.2 v0 13 (
let S6 := z_wd q5.2 v0 58 (FP.dadd ((z_d S v0 58)) (FP.dmul (FP.dmul ((z_d S b4 v3.toNatClampNeg)) ((4645744490609377280 : UInt64))) q5.1))
let x7 := v3 + (1 : Int32)
l_X12_flowOn_15 n v0 v1 x7 S6))))))))
def b_X12_flowOn (v0 : Nat) (S : z_St) : Option z_St :=
z_chk S v0 13 (
(f_X12_levelOf ((z_d S v0 54)) S).bind fun q1 =>
z_chk q1.2 v0 13 (
let S2 := z_wd q1.2 v0 58 FP.dconst0
l_X12_flowOn_15 z_N v0 q1.1 ((0 : Int32)) S2))
def f_X12_flowOn : Nat → z_St → Option z_St := z_op (b_X12_flowOn)
theorem e_X12_flowOn (v0 : Nat) (S : z_St) : f_X12_flowOn v0 S = b_X12_flowOn v0 S := congrFun (congrFun (z_op_eq (b_X12_flowOn)) v0) S
def g_X12_flowOn : z_G := .inr (.inr (.inr (fun as S => match as with
  | [.ref v0] => f_X12_flowOn v0 S
  | _ => none)))
def c_X12_flowOn : List z_E := [
  (0, .aload_n 0, 1, .null, [], z_g0),
  (1, .getfield 120, 3, .null, [13, 54, 2], z_g0),
  (4, .invokestatic 517, 3, .null, [0, 0], g_X12_levelOf),
  (7, .dstore_n 1, 1, .null, [], z_g0),
  (8, .aload_n 0, 1, .null, [], z_g0),
  (9, .dconst 0, 1, .double FP.dconst0, [], z_g0),
  (10, .putfield 562, 3, .null, [13, 58, 2], z_g0),
  (13, .iconst 0, 1, .int ((0 : Int32)), [], z_g0),
  (14, .istore_n 3, 1, .null, [], z_g0),
  (15, .iload_n 3, 1, .null, [], z_g0),
  (16, .iconst 4, 1, .int ((4 : Int32)), [], z_g0),
  (17, .if_icmp .ge 33, 3, .null, [50], z_g0),
  (20, .aload_n 0, 1, .null, [], z_g0),
  (21, .aload_n 0, 1, .null, [], z_g0),
  (22, .getfield 562, 3, .null, [13, 58, 2], z_g0),
  (25, .aload_n 0, 1, .null, [], z_g0),
  (26, .getfield 136, 3, .null, [13, 65, 3], z_g0),
  (29, .iload_n 3, 1, .null, [], z_g0),
  (30, .daload, 1, .null, [], z_g0),
  (31, .ldc2_w 550, 3, .double (4645744490609377280 : UInt64), [], z_g0),
  (34, .dmul, 1, .null, [], z_g0),
  (35, .dload_n 1, 1, .null, [], z_g0),
  (36, .invokestatic 552, 3, .null, [0, 0], g_X12_root),
  (39, .dmul, 1, .null, [], z_g0),
  (40, .dadd, 1, .null, [], z_g0),
  (41, .putfield 562, 3, .null, [13, 58, 2], z_g0),
  (44, .iinc 3 1, 3, .int (1 : Int32), [], z_g0),
  (47, .goto (-32), 3, .null, [15], z_g0),
  (50, .dload_n 1, 1, .null, [], z_g0),
  (51, .ldc2_w 565, 3, .double (4629137466983448576 : UInt64), [], z_g0),
  (54, .dsub, 1, .null, [], z_g0),
  (55, .dstore_n 3, 1, .null, [], z_g0),
  (56, .aload_n 0, 1, .null, [], z_g0),
  (57, .dload_n 3, 1, .null, [], z_g0),
  (58, .dconst 0, 1, .double FP.dconst0, [], z_g0),
  (59, .dcmp .l, 1, .null, [], z_g0),
  (60, .ifCond .le 13, 3, .null, [73], z_g0),
  (63, .dload_n 3, 1, .null, [], z_g0),
  (64, .dload_n 3, 1, .null, [], z_g0),
  (65, .dmul, 1, .null, [], z_g0),
  (66, .ldc2_w 567, 3, .double (4639481672377565184 : UInt64), [], z_g0),
  (69, .dmul, 1, .null, [], z_g0),
  (70, .goto 4, 3, .null, [74], z_g0),
  (73, .dconst 0, 1, .double FP.dconst0, [], z_g0),
  (74, .putfield 569, 3, .null, [13, 59, 2], z_g0),
  (77, .aload_n 0, 1, .null, [], z_g0),
  (78, .dconst 0, 1, .double FP.dconst0, [], z_g0),
  (79, .putfield 572, 3, .null, [13, 60, 2], z_g0),
  (82, .aload_n 0, 1, .null, [], z_g0),
  (83, .getfield 120, 3, .null, [13, 54, 2], z_g0),
  (86, .aload_n 0, 1, .null, [], z_g0),
  (87, .getfield 575, 3, .null, [13, 57, 2], z_g0),
  (90, .dadd, 1, .null, [], z_g0),
  (91, .aload_n 0, 1, .null, [], z_g0),
  (92, .getfield 562, 3, .null, [13, 58, 2], z_g0),
  (95, .dsub, 1, .null, [], z_g0),
  (96, .aload_n 0, 1, .null, [], z_g0),
  (97, .getfield 569, 3, .null, [13, 59, 2], z_g0),
  (100, .dsub, 1, .null, [], z_g0),
  (101, .dstore 5, 2, .null, [], z_g0),
  (103, .bipush 40, 2, .int ((40 : Int32)), [], z_g0),
  (105, .invokestatic 507, 3, .null, [0, 0], g_X12_lineOf),
  (108, .l2d, 1, .null, [], z_g0),
  (109, .dstore 7, 2, .null, [], z_g0),
  (111, .dload 5, 2, .null, [], z_g0),
  (113, .dconst 0, 1, .double FP.dconst0, [], z_g0),
  (114, .dcmp .g, 1, .null, [], z_g0),
  (115, .ifCond .ge 17, 3, .null, [132], z_g0),
  (118, .aload_n 0, 1, .null, [], z_g0),
  (119, .dconst 0, 1, .double FP.dconst0, [], z_g0),
  (120, .dload 5, 2, .null, [], z_g0),
  (122, .dsub, 1, .null, [], z_g0),
  (123, .putfield 572, 3, .null, [13, 60, 2], z_g0),
  (126, .dconst 0, 1, .double FP.dconst0, [], z_g0),
  (127, .dstore 5, 2, .null, [], z_g0),
  (129, .goto 29, 3, .null, [158], z_g0),
  (132, .dload 5, 2, .null, [], z_g0),
  (134, .dload 7, 2, .null, [], z_g0),
  (136, .dcmp .l, 1, .null, [], z_g0),
  (137, .ifCond .le 21, 3, .null, [158], z_g0),
  (140, .aload_n 0, 1, .null, [], z_g0),
  (141, .aload_n 0, 1, .null, [], z_g0),
  (142, .getfield 569, 3, .null, [13, 59, 2], z_g0),
  (145, .dload 5, 2, .null, [], z_g0),
  (147, .dload 7, 2, .null, [], z_g0),
  (149, .dsub, 1, .null, [], z_g0),
  (150, .dadd, 1, .null, [], z_g0),
  (151, .putfield 569, 3, .null, [13, 59, 2], z_g0),
  (154, .dload 7, 2, .null, [], z_g0),
  (156, .dstore 5, 2, .null, [], z_g0),
  (158, .aload_n 0, 1, .null, [], z_g0),
  (159, .dload 5, 2, .null, [], z_g0),
  (161, .putfield 120, 3, .null, [13, 54, 2], z_g0),
  (164, .return_, 1, .null, [], z_g0)]
def a_X12_flowOn_15 {ρ : Type} (k : Nat → UInt64 → Int32 → z_St → Option ρ) (ls : z_Lv) (st : List Value) (S : z_St) : Option ρ := z_gR ls 0 fun v0 => z_gD ls 1 fun v1 => z_gI ls 3 fun v3 => z_p0 st (k v0 v1 v3 S)
def a_X12_flowOn_74 {ρ : Type} (k : Nat → Nat → UInt64 → z_St → Option ρ) (ls : z_Lv) (st : List Value) (S : z_St) : Option ρ := z_gR ls 0 fun v0 => z_pD st fun t1 s1 => z_pR s1 fun t0 s0 => z_p0 s0 (k v0 t0 t1 S)
set_option maxRecDepth 100000 in
theorem r_X12_flowOn_74 (v0 : Nat) (t0 : Nat) (t1 : UInt64) (S : z_St) : z_seg z_rV (c_X12_flowOn) [15, 74] (fun pc => fun _ _ _ => none) 97 (z_to 74 (c_X12_flowOn)) [(0, .ref v0)] [.double t1, .ref t0] S = j_X12_flowOn_74 v0 t0 t1 S := rfl
set_option maxRecDepth 100000 in
theorem r_X12_flowOn_15 (n : Nat) (v0 : Nat) (v1 : UInt64) (v3 : Int32) (S : z_St) : z_seg z_rV (c_X12_flowOn) [15, 74] (fun pc => cond (Nat.beq pc 15) (a_X12_flowOn_15 (l_X12_flowOn_15 n)) (cond (Nat.beq pc 74) (a_X12_flowOn_74 (j_X12_flowOn_74)) (fun _ _ _ => none))) 97 (z_to 15 (c_X12_flowOn)) [(0, .ref v0), (1, .double v1), (3, .int v3)] [] S = l_X12_flowOn_15 (n + 1) v0 v1 v3 S := rfl
set_option maxRecDepth 100000 in
theorem r_X12_flowOn (v0 : Nat) (S : z_St) : z_seg z_rV (c_X12_flowOn) [15, 74] (fun pc => cond (Nat.beq pc 15) (a_X12_flowOn_15 (l_X12_flowOn_15 z_N)) (fun _ _ _ => none)) 97 (c_X12_flowOn) [(0, .ref v0)] [] S = b_X12_flowOn v0 S := rfl
def j_X12_run_240 (v0 : Nat) (t0 : Nat) (t1 : Int32) (S : z_St) : Option (Int32 × z_St) :=
z_chk S t0 13 (
let S14 := z_wi S t0 63 t1
z_chk S14 v0 13 (
(f_X12_steer v0 S14).bind fun q15 =>
z_chk q15 v0 13 (
(f_X12_flowOn v0 q15).bind fun q16 =>
z_chk q16 v0 13 (
z_chk q16 v0 13 (
let S17 := z_wi q16 v0 62 (((z_i q16 v0 62)) + ((1 : Int32)))
z_chk S17 v0 13 (
some ((z_i S17 v0 62), S17)))))))
def j_X12_run_221 (v0 : Nat) (v11 : Int32) (t0 : Nat) (t1 : UInt64) (S : z_St) : Option (Int32 × z_St) :=
z_chk S t0 13 (
let S13 := z_wd S t0 64 t1
if v11 = 0 then
(z_chk S13 v0 13 (
j_X12_run_240 v0 v0 (((z_i S13 v0 63)) + ((1 : Int32))) S13))
else
(j_X12_run_240 v0 v0 ((0 : Int32)) S13))
def j_X12_run_201 (v0 : Nat) (v9 : UInt64) (t0 : Int32) (S : z_St) : Option (Int32 × z_St) :=
if t0 = 0 then
(z_chk S v0 13 (
(f_X12_levelOf ((z_d S v0 54)) S).bind fun q12 =>
j_X12_run_221 v0 t0 v0 q12.1 q12.2))
else
(j_X12_run_221 v0 t0 v0 v9 S)
def j_X12_run_181 (v0 : Nat) (t0 : UInt64) (S : z_St) : Option (Int32 × z_St) :=
if ((0 : Int32)) = 0 ∨ ((0 : Int32)) = 1 then (
z_chk S v0 13 (
let S11 := z_wi S v0 75 ((0 : Int32))
if (Op.cmpValue (FP.dcmp t0 t0) .l) = 0 then
(j_X12_run_201 v0 t0 ((1 : Int32)) S11)
else
(j_X12_run_201 v0 t0 ((0 : Int32)) S11))) else none
def j_X12_run_130 (v0 : Nat) (S : z_St) : Option (Int32 × z_St) :=
z_chk S v0 13 (
z_nn (FP.dmul ((z_d S v0 55)) ((4598175219545276416 : UInt64))) (
z_chk S v0 13 (
let S5 := z_wd S v0 57 (FP.dmul ((z_d S v0 55)) ((4598175219545276416 : UInt64)))
z_chk S5 v0 13 (
z_chk S5 v0 13 (
z_nn (FP.dsub ((z_d S5 v0 55)) ((z_d S5 v0 57))) (
z_chk S5 v0 13 (
let S6 := z_wd S5 v0 55 (FP.dsub ((z_d S5 v0 55)) ((z_d S5 v0 57)))
z_chk S6 v0 13 (
(f_X12_hear1 v0 S6).bind fun q7 =>
z_chk q7 v0 13 (
(f_X12_voice v0 q7).bind fun q8 =>
z_chk q8.2 v0 13 (
if ((z_i q8.2 v0 75)) = 0 then
(j_X12_run_181 v0 q8.1 q8.2)
else
(z_chk q8.2 v0 13 (
j_X12_run_181 v0 ((z_d q8.2 v0 76)) q8.2))))))))))))
def j_X12_run_89 (v0 : Nat) (v5 : UInt64) (t0 : UInt64) (S : z_St) : Option (Int32 × z_St) :=
z_chk S v0 13 (
z_nn (FP.dsub ((z_d S v0 56)) t0) (
z_chk S v0 13 (
let S9 := z_wd S v0 56 (FP.dsub ((z_d S v0 56)) t0)
z_chk S9 v0 13 (
z_nn (FP.dadd ((z_d S9 v0 55)) v5) (
z_nn (FP.dadd (FP.dadd ((z_d S9 v0 55)) v5) t0) (
z_chk S9 v0 13 (
let S10 := z_wd S9 v0 55 (FP.dadd (FP.dadd ((z_d S9 v0 55)) v5) t0)
j_X12_run_130 v0 S10)))))))
def b_X12_run (v0 : Nat) (v1 : Int64) (v3 : Int64) (S : z_St) : Option (Int32 × z_St) :=
z_chk S v0 13 (
let S1 := z_wi S v0 0 ((0 : Int32))
(f_X12_realOf v1 S1).bind fun q2 =>
(f_X12_realOf v3 q2.2).bind fun q3 =>
if (Op.cmpValue (FP.dcmp q2.1 FP.dconst0) .l) < 0 then
(some ((-2000000002 : Int32), q3.2))
else
(if 0 < (Op.cmpValue (FP.dcmp q2.1 ((4696837146684686336 : UInt64))) .g) then
(some ((-2000000002 : Int32), q3.2))
else
(if (Op.cmpValue (FP.dcmp q3.1 ((13860109328209412096 : UInt64))) .l) < 0 then
(some ((-2000000002 : Int32), q3.2))
else
(if (Op.cmpValue (FP.dcmp q3.1 ((4636737291354636288 : UInt64))) .g) ≤ 0 then
(if (Op.cmpValue (FP.dcmp q3.1 FP.dconst0) .l) ≤ 0 then
(z_chk q3.2 v0 13 (
z_nn (FP.dadd ((z_d q3.2 v0 56)) q2.1) (
z_chk q3.2 v0 13 (
let S4 := z_wd q3.2 v0 56 (FP.dadd ((z_d q3.2 v0 56)) q2.1)
j_X12_run_130 v0 S4))))
else
(z_chk q3.2 v0 13 (
z_nn (FP.dmul ((4611686018427387904 : UInt64)) q3.1) (
if 0 ≤ (Op.cmpValue (FP.dcmp ((z_d q3.2 v0 56)) (FP.dmul ((4611686018427387904 : UInt64)) q3.1)) .g) then
(z_nn (FP.dmul ((4611686018427387904 : UInt64)) q3.1) (
j_X12_run_89 v0 q2.1 (FP.dmul ((4611686018427387904 : UInt64)) q3.1) q3.2))
else
(z_chk q3.2 v0 13 (
j_X12_run_89 v0 q2.1 ((z_d q3.2 v0 56)) q3.2))))))
else
(some ((-2000000002 : Int32), q3.2))))))
def f_X12_run : Nat → Int64 → Int64 → z_St → Option (Int32 × z_St) := z_op (b_X12_run)
theorem e_X12_run (v0 : Nat) (v1 : Int64) (v3 : Int64) (S : z_St) : f_X12_run v0 v1 v3 S = b_X12_run v0 v1 v3 S := congrFun (congrFun (congrFun (congrFun (z_op_eq (b_X12_run)) v0) v1) v3) S
def g_X12_run : z_G := .inl (fun as S => match as with
  | [.ref v0, .long v1, .long v3] => f_X12_run v0 v1 v3 S
  | _ => none)
def c_X12_run : List z_E := [
  (0, .aload_n 0, 1, .null, [], z_g0),
  (1, .iconst 0, 1, .int ((0 : Int32)), [], z_g0),
  (2, .putfield 224, 3, .null, [13, 0, 0], z_g0),
  (5, .lload_n 1, 1, .null, [], z_g0),
  (6, .invokestatic 262, 3, .null, [0, 0], g_X12_realOf),
  (9, .dstore 5, 2, .null, [], z_g0),
  (11, .lload_n 3, 1, .null, [], z_g0),
  (12, .invokestatic 262, 3, .null, [0, 0], g_X12_realOf),
  (15, .dstore 7, 2, .null, [], z_g0),
  (17, .dload 5, 2, .null, [], z_g0),
  (19, .dconst 0, 1, .double FP.dconst0, [], z_g0),
  (20, .dcmp .l, 1, .null, [], z_g0),
  (21, .ifCond .lt 30, 3, .null, [51], z_g0),
  (24, .dload 5, 2, .null, [], z_g0),
  (26, .ldc2_w 578, 3, .double (4696837146684686336 : UInt64), [], z_g0),
  (29, .dcmp .g, 1, .null, [], z_g0),
  (30, .ifCond .gt 21, 3, .null, [51], z_g0),
  (33, .dload 7, 2, .null, [], z_g0),
  (35, .ldc2_w 580, 3, .double (13860109328209412096 : UInt64), [], z_g0),
  (38, .dcmp .l, 1, .null, [], z_g0),
  (39, .ifCond .lt 12, 3, .null, [51], z_g0),
  (42, .dload 7, 2, .null, [], z_g0),
  (44, .ldc2_w 525, 3, .double (4636737291354636288 : UInt64), [], z_g0),
  (47, .dcmp .g, 1, .null, [], z_g0),
  (48, .ifCond .le 7, 3, .null, [55], z_g0),
  (51, .ldc_w 280, 3, .int (-2000000002 : Int32), [], z_g0),
  (54, .ireturn, 1, .null, [], z_g0),
  (55, .dload 7, 2, .null, [], z_g0),
  (57, .dconst 0, 1, .double FP.dconst0, [], z_g0),
  (58, .dcmp .l, 1, .null, [], z_g0),
  (59, .ifCond .le 60, 3, .null, [119], z_g0),
  (62, .aload_n 0, 1, .null, [], z_g0),
  (63, .getfield 582, 3, .null, [13, 56, 2], z_g0),
  (66, .ldc2_w 585, 3, .double (4611686018427387904 : UInt64), [], z_g0),
  (69, .dload 7, 2, .null, [], z_g0),
  (71, .dmul, 1, .null, [], z_g0),
  (72, .dcmp .g, 1, .null, [], z_g0),
  (73, .ifCond .ge 10, 3, .null, [83], z_g0),
  (76, .aload_n 0, 1, .null, [], z_g0),
  (77, .getfield 582, 3, .null, [13, 56, 2], z_g0),
  (80, .goto 9, 3, .null, [89], z_g0),
  (83, .ldc2_w 585, 3, .double (4611686018427387904 : UInt64), [], z_g0),
  (86, .dload 7, 2, .null, [], z_g0),
  (88, .dmul, 1, .null, [], z_g0),
  (89, .dstore 9, 2, .null, [], z_g0),
  (91, .aload_n 0, 1, .null, [], z_g0),
  (92, .aload_n 0, 1, .null, [], z_g0),
  (93, .getfield 582, 3, .null, [13, 56, 2], z_g0),
  (96, .dload 9, 2, .null, [], z_g0),
  (98, .dsub, 1, .null, [], z_g0),
  (99, .putfield 582, 3, .null, [13, 56, 2], z_g0),
  (102, .aload_n 0, 1, .null, [], z_g0),
  (103, .aload_n 0, 1, .null, [], z_g0),
  (104, .getfield 587, 3, .null, [13, 55, 2], z_g0),
  (107, .dload 5, 2, .null, [], z_g0),
  (109, .dadd, 1, .null, [], z_g0),
  (110, .dload 9, 2, .null, [], z_g0),
  (112, .dadd, 1, .null, [], z_g0),
  (113, .putfield 587, 3, .null, [13, 55, 2], z_g0),
  (116, .goto 14, 3, .null, [130], z_g0),
  (119, .aload_n 0, 1, .null, [], z_g0),
  (120, .aload_n 0, 1, .null, [], z_g0),
  (121, .getfield 582, 3, .null, [13, 56, 2], z_g0),
  (124, .dload 5, 2, .null, [], z_g0),
  (126, .dadd, 1, .null, [], z_g0),
  (127, .putfield 582, 3, .null, [13, 56, 2], z_g0),
  (130, .aload_n 0, 1, .null, [], z_g0),
  (131, .aload_n 0, 1, .null, [], z_g0),
  (132, .getfield 587, 3, .null, [13, 55, 2], z_g0),
  (135, .ldc2_w 590, 3, .double (4598175219545276416 : UInt64), [], z_g0),
  (138, .dmul, 1, .null, [], z_g0),
  (139, .putfield 575, 3, .null, [13, 57, 2], z_g0),
  (142, .aload_n 0, 1, .null, [], z_g0),
  (143, .aload_n 0, 1, .null, [], z_g0),
  (144, .getfield 587, 3, .null, [13, 55, 2], z_g0),
  (147, .aload_n 0, 1, .null, [], z_g0),
  (148, .getfield 575, 3, .null, [13, 57, 2], z_g0),
  (151, .dsub, 1, .null, [], z_g0),
  (152, .putfield 587, 3, .null, [13, 55, 2], z_g0),
  (155, .aload_n 0, 1, .null, [], z_g0),
  (156, .invokevirtual 592, 3, .null, [1, 13], g_X12_hear1),
  (159, .aload_n 0, 1, .null, [], z_g0),
  (160, .invokevirtual 595, 3, .null, [1, 13], g_X12_voice),
  (163, .dstore 9, 2, .null, [], z_g0),
  (165, .aload_n 0, 1, .null, [], z_g0),
  (166, .getfield 527, 3, .null, [13, 75, 0], z_g0),
  (169, .ifCond .eq 10, 3, .null, [179], z_g0),
  (172, .aload_n 0, 1, .null, [], z_g0),
  (173, .getfield 530, 3, .null, [13, 76, 2], z_g0),
  (176, .goto 5, 3, .null, [181], z_g0),
  (179, .dload 9, 2, .null, [], z_g0),
  (181, .dstore 9, 2, .null, [], z_g0),
  (183, .aload_n 0, 1, .null, [], z_g0),
  (184, .iconst 0, 1, .int ((0 : Int32)), [], z_g0),
  (185, .putfield 527, 3, .null, [13, 75, 4], z_g0),
  (188, .dload 9, 2, .null, [], z_g0),
  (190, .dload 9, 2, .null, [], z_g0),
  (192, .dcmp .l, 1, .null, [], z_g0),
  (193, .ifCond .ne 7, 3, .null, [200], z_g0),
  (196, .iconst 1, 1, .int ((1 : Int32)), [], z_g0),
  (197, .goto 4, 3, .null, [201], z_g0),
  (200, .iconst 0, 1, .int ((0 : Int32)), [], z_g0),
  (201, .istore 11, 2, .null, [], z_g0),
  (203, .aload_n 0, 1, .null, [], z_g0),
  (204, .iload 11, 2, .null, [], z_g0),
  (206, .ifCond .eq 8, 3, .null, [214], z_g0),
  (209, .dload 9, 2, .null, [], z_g0),
  (211, .goto 10, 3, .null, [221], z_g0),
  (214, .aload_n 0, 1, .null, [], z_g0),
  (215, .getfield 120, 3, .null, [13, 54, 2], z_g0),
  (218, .invokestatic 517, 3, .null, [0, 0], g_X12_levelOf),
  (221, .putfield 133, 3, .null, [13, 64, 2], z_g0),
  (224, .aload_n 0, 1, .null, [], z_g0),
  (225, .iload 11, 2, .null, [], z_g0),
  (227, .ifCond .eq 7, 3, .null, [234], z_g0),
  (230, .iconst 0, 1, .int ((0 : Int32)), [], z_g0),
  (231, .goto 9, 3, .null, [240], z_g0),
  (234, .aload_n 0, 1, .null, [], z_g0),
  (235, .getfield 543, 3, .null, [13, 63, 0], z_g0),
  (238, .iconst 1, 1, .int ((1 : Int32)), [], z_g0),
  (239, .iadd, 1, .null, [], z_g0),
  (240, .putfield 543, 3, .null, [13, 63, 0], z_g0),
  (243, .aload_n 0, 1, .null, [], z_g0),
  (244, .invokevirtual 599, 3, .null, [1, 13], g_X12_steer),
  (247, .aload_n 0, 1, .null, [], z_g0),
  (248, .invokevirtual 602, 3, .null, [1, 13], g_X12_flowOn),
  (251, .aload_n 0, 1, .null, [], z_g0),
  (252, .dup, 1, .null, [], z_g0),
  (253, .getfield 533, 3, .null, [13, 62, 0], z_g0),
  (256, .iconst 1, 1, .int ((1 : Int32)), [], z_g0),
  (257, .iadd, 1, .null, [], z_g0),
  (258, .putfield 533, 3, .null, [13, 62, 0], z_g0),
  (261, .aload_n 0, 1, .null, [], z_g0),
  (262, .getfield 533, 3, .null, [13, 62, 0], z_g0),
  (265, .ireturn, 1, .null, [], z_g0)]
def a_X12_run_89 {ρ : Type} (k : Nat → UInt64 → UInt64 → z_St → Option ρ) (ls : z_Lv) (st : List Value) (S : z_St) : Option ρ := z_gR ls 0 fun v0 => z_gD ls 5 fun v5 => z_pD st fun t0 s0 => z_p0 s0 (k v0 v5 t0 S)
def a_X12_run_130 {ρ : Type} (k : Nat → z_St → Option ρ) (ls : z_Lv) (st : List Value) (S : z_St) : Option ρ := z_gR ls 0 fun v0 => z_p0 st (k v0 S)
def a_X12_run_181 {ρ : Type} (k : Nat → UInt64 → z_St → Option ρ) (ls : z_Lv) (st : List Value) (S : z_St) : Option ρ := z_gR ls 0 fun v0 => z_pD st fun t0 s0 => z_p0 s0 (k v0 t0 S)
def a_X12_run_201 {ρ : Type} (k : Nat → UInt64 → Int32 → z_St → Option ρ) (ls : z_Lv) (st : List Value) (S : z_St) : Option ρ := z_gR ls 0 fun v0 => z_gD ls 9 fun v9 => z_pI st fun t0 s0 => z_p0 s0 (k v0 v9 t0 S)
def a_X12_run_221 {ρ : Type} (k : Nat → Int32 → Nat → UInt64 → z_St → Option ρ) (ls : z_Lv) (st : List Value) (S : z_St) : Option ρ := z_gR ls 0 fun v0 => z_gI ls 11 fun v11 => z_pD st fun t1 s1 => z_pR s1 fun t0 s0 => z_p0 s0 (k v0 v11 t0 t1 S)
def a_X12_run_240 {ρ : Type} (k : Nat → Nat → Int32 → z_St → Option ρ) (ls : z_Lv) (st : List Value) (S : z_St) : Option ρ := z_gR ls 0 fun v0 => z_pI st fun t1 s1 => z_pR s1 fun t0 s0 => z_p0 s0 (k v0 t0 t1 S)
set_option maxRecDepth 100000 in
theorem r_X12_run_240 (v0 : Nat) (t0 : Nat) (t1 : Int32) (S : z_St) : z_seg z_rI (c_X12_run) [89, 130, 181, 201, 221, 240] (fun pc => fun _ _ _ => none) 138 (z_to 240 (c_X12_run)) [(0, .ref v0)] [.int t1, .ref t0] S = j_X12_run_240 v0 t0 t1 S := rfl
set_option maxRecDepth 100000 in
theorem r_X12_run_221 (v0 : Nat) (v11 : Int32) (t0 : Nat) (t1 : UInt64) (S : z_St) : z_seg z_rI (c_X12_run) [89, 130, 181, 201, 221, 240] (fun pc => cond (Nat.beq pc 240) (a_X12_run_240 (j_X12_run_240)) (fun _ _ _ => none)) 138 (z_to 221 (c_X12_run)) [(0, .ref v0), (11, .int v11)] [.double t1, .ref t0] S = j_X12_run_221 v0 v11 t0 t1 S := rfl
set_option maxRecDepth 100000 in
theorem r_X12_run_201 (v0 : Nat) (v9 : UInt64) (t0 : Int32) (S : z_St) : z_seg z_rI (c_X12_run) [89, 130, 181, 201, 221, 240] (fun pc => cond (Nat.beq pc 221) (a_X12_run_221 (j_X12_run_221)) (fun _ _ _ => none)) 138 (z_to 201 (c_X12_run)) [(0, .ref v0), (9, .double v9)] [.int t0] S = j_X12_run_201 v0 v9 t0 S := rfl
set_option maxRecDepth 100000 in
theorem r_X12_run_181 (v0 : Nat) (t0 : UInt64) (S : z_St) : z_seg z_rI (c_X12_run) [89, 130, 181, 201, 221, 240] (fun pc => cond (Nat.beq pc 201) (a_X12_run_201 (j_X12_run_201)) (fun _ _ _ => none)) 138 (z_to 181 (c_X12_run)) [(0, .ref v0)] [.double t0] S = j_X12_run_181 v0 t0 S := rfl
set_option maxRecDepth 100000 in
theorem r_X12_run_130 (v0 : Nat) (S : z_St) : z_seg z_rI (c_X12_run) [89, 130, 181, 201, 221, 240] (fun pc => cond (Nat.beq pc 181) (a_X12_run_181 (j_X12_run_181)) (fun _ _ _ => none)) 138 (z_to 130 (c_X12_run)) [(0, .ref v0)] [] S = j_X12_run_130 v0 S := rfl
set_option maxRecDepth 100000 in
theorem r_X12_run_89 (v0 : Nat) (v5 : UInt64) (t0 : UInt64) (S : z_St) : z_seg z_rI (c_X12_run) [89, 130, 181, 201, 221, 240] (fun pc => cond (Nat.beq pc 130) (a_X12_run_130 (j_X12_run_130)) (fun _ _ _ => none)) 138 (z_to 89 (c_X12_run)) [(0, .ref v0), (5, .double v5)] [.double t0] S = j_X12_run_89 v0 v5 t0 S := rfl
set_option maxRecDepth 100000 in
theorem r_X12_run (v0 : Nat) (v1 : Int64) (v3 : Int64) (S : z_St) : z_seg z_rI (c_X12_run) [89, 130, 181, 201, 221, 240] (fun pc => cond (Nat.beq pc 89) (a_X12_run_89 (j_X12_run_89)) (cond (Nat.beq pc 130) (a_X12_run_130 (j_X12_run_130)) (fun _ _ _ => none))) 138 (c_X12_run) [(0, .ref v0), (1, .long v1), (3, .long v3)] [] S = b_X12_run v0 v1 v3 S := rfl
def b_X12_lake (v0 : Nat) (v1 : Int32) (S : z_St) : Option (Int64 × z_St) :=
z_chk S v0 13 (
let S1 := z_wi S v0 0 ((0 : Int32))
(f_X12_in v1.toInt64 ((0 : Int64)) ((13 : Int64)) S1).bind fun q2 =>
if q2.1 = 0 then
(some ((-2000000002 : Int64), q2.2))
else
(if v1 = (0 : Int32) then
(z_chk q2.2 v0 13 (
(f_X12_bitsOf ((z_d q2.2 v0 54)) q2.2).bind fun q3 =>
some (q3.1, q3.2)))
else
if v1 = (1 : Int32) then
(z_chk q2.2 v0 13 (
(f_X12_levelOf ((z_d q2.2 v0 54)) q2.2).bind fun q4 =>
(f_X12_bitsOf q4.1 q4.2).bind fun q5 =>
some (q5.1, q5.2)))
else
if v1 = (2 : Int32) then
(z_chk q2.2 v0 13 (
(f_X12_bitsOf ((z_d q2.2 v0 64)) q2.2).bind fun q6 =>
some (q6.1, q6.2)))
else
if v1 = (3 : Int32) then
(z_chk q2.2 v0 13 (
(f_X12_bitsOf ((z_d q2.2 v0 55)) q2.2).bind fun q7 =>
some (q7.1, q7.2)))
else
if v1 = (4 : Int32) then
(z_chk q2.2 v0 13 (
(f_X12_bitsOf ((z_d q2.2 v0 56)) q2.2).bind fun q8 =>
some (q8.1, q8.2)))
else
if v1 = (5 : Int32) then
(z_chk q2.2 v0 13 (
(f_X12_bitsOf ((z_d q2.2 v0 57)) q2.2).bind fun q9 =>
some (q9.1, q9.2)))
else
if v1 = (6 : Int32) then
(z_chk q2.2 v0 13 (
(f_X12_bitsOf ((z_d q2.2 v0 58)) q2.2).bind fun q10 =>
some (q10.1, q10.2)))
else
if v1 = (7 : Int32) then
(z_chk q2.2 v0 13 (
(f_X12_bitsOf ((z_d q2.2 v0 59)) q2.2).bind fun q11 =>
some (q11.1, q11.2)))
else
if v1 = (8 : Int32) then
(z_chk q2.2 v0 13 (
(f_X12_bitsOf ((z_d q2.2 v0 60)) q2.2).bind fun q12 =>
some (q12.1, q12.2)))
else
if v1 = (9 : Int32) then
(z_chk q2.2 v0 13 (
(f_X12_bitsOf ((z_d q2.2 v0 61)) q2.2).bind fun q13 =>
some (q13.1, q13.2)))
else
(z_chk q2.2 v0 13 (
z_onV (va_rf (z_r q2.2 v0 65)) fun b14 =>
z_inb q2.2 b14 103 (v1 - ((10 : Int32))) (
(f_X12_bitsOf ((z_d q2.2 b14 (v1 - ((10 : Int32))).toNatClampNeg)) q2.2).bind fun q15 =>
some (q15.1, q15.2))))))
def f_X12_lake : Nat → Int32 → z_St → Option (Int64 × z_St) := z_op (b_X12_lake)
theorem e_X12_lake (v0 : Nat) (v1 : Int32) (S : z_St) : f_X12_lake v0 v1 S = b_X12_lake v0 v1 S := congrFun (congrFun (congrFun (z_op_eq (b_X12_lake)) v0) v1) S
def g_X12_lake : z_G := .inr (.inl (fun as S => match as with
  | [.ref v0, .int v1] => f_X12_lake v0 v1 S
  | _ => none))
def c_X12_lake : List z_E := [
  (0, .aload_n 0, 1, .null, [], z_g0),
  (1, .iconst 0, 1, .int ((0 : Int32)), [], z_g0),
  (2, .putfield 224, 3, .null, [13, 0, 0], z_g0),
  (5, .iload_n 1, 1, .null, [], z_g0),
  (6, .i2l, 1, .null, [], z_g0),
  (7, .lconst 0, 1, .long (0 : Int64), [], z_g0),
  (8, .ldc2_w 369, 3, .long (13 : Int64), [], z_g0),
  (11, .invokestatic 274, 3, .null, [0, 0, 0, 0], g_X12_in),
  (14, .ifCond .ne 7, 3, .null, [21], z_g0),
  (17, .ldc2_w 398, 3, .long (-2000000002 : Int64), [], z_g0),
  (20, .lreturn, 1, .null, [], z_g0),
  (21, .iload_n 1, 1, .null, [], z_g0),
  (22, .tableswitch 137 0 9 #[54, 62, 73, 81, 89, 97, 105, 113, 121, 129], 54, .null, [159, 0, 76, 84, 95, 103, 111, 119, 127, 135, 143, 151], z_g0),
  (76, .aload_n 0, 1, .null, [], z_g0),
  (77, .getfield 120, 3, .null, [13, 54, 2], z_g0),
  (80, .invokestatic 252, 3, .null, [0, 0], g_X12_bitsOf),
  (83, .lreturn, 1, .null, [], z_g0),
  (84, .aload_n 0, 1, .null, [], z_g0),
  (85, .getfield 120, 3, .null, [13, 54, 2], z_g0),
  (88, .invokestatic 517, 3, .null, [0, 0], g_X12_levelOf),
  (91, .invokestatic 252, 3, .null, [0, 0], g_X12_bitsOf),
  (94, .lreturn, 1, .null, [], z_g0),
  (95, .aload_n 0, 1, .null, [], z_g0),
  (96, .getfield 133, 3, .null, [13, 64, 2], z_g0),
  (99, .invokestatic 252, 3, .null, [0, 0], g_X12_bitsOf),
  (102, .lreturn, 1, .null, [], z_g0),
  (103, .aload_n 0, 1, .null, [], z_g0),
  (104, .getfield 587, 3, .null, [13, 55, 2], z_g0),
  (107, .invokestatic 252, 3, .null, [0, 0], g_X12_bitsOf),
  (110, .lreturn, 1, .null, [], z_g0),
  (111, .aload_n 0, 1, .null, [], z_g0),
  (112, .getfield 582, 3, .null, [13, 56, 2], z_g0),
  (115, .invokestatic 252, 3, .null, [0, 0], g_X12_bitsOf),
  (118, .lreturn, 1, .null, [], z_g0),
  (119, .aload_n 0, 1, .null, [], z_g0),
  (120, .getfield 575, 3, .null, [13, 57, 2], z_g0),
  (123, .invokestatic 252, 3, .null, [0, 0], g_X12_bitsOf),
  (126, .lreturn, 1, .null, [], z_g0),
  (127, .aload_n 0, 1, .null, [], z_g0),
  (128, .getfield 562, 3, .null, [13, 58, 2], z_g0),
  (131, .invokestatic 252, 3, .null, [0, 0], g_X12_bitsOf),
  (134, .lreturn, 1, .null, [], z_g0),
  (135, .aload_n 0, 1, .null, [], z_g0),
  (136, .getfield 569, 3, .null, [13, 59, 2], z_g0),
  (139, .invokestatic 252, 3, .null, [0, 0], g_X12_bitsOf),
  (142, .lreturn, 1, .null, [], z_g0),
  (143, .aload_n 0, 1, .null, [], z_g0),
  (144, .getfield 572, 3, .null, [13, 60, 2], z_g0),
  (147, .invokestatic 252, 3, .null, [0, 0], g_X12_bitsOf),
  (150, .lreturn, 1, .null, [], z_g0),
  (151, .aload_n 0, 1, .null, [], z_g0),
  (152, .getfield 126, 3, .null, [13, 61, 2], z_g0),
  (155, .invokestatic 252, 3, .null, [0, 0], g_X12_bitsOf),
  (158, .lreturn, 1, .null, [], z_g0),
  (159, .aload_n 0, 1, .null, [], z_g0),
  (160, .getfield 136, 3, .null, [13, 65, 3], z_g0),
  (163, .iload_n 1, 1, .null, [], z_g0),
  (164, .bipush 10, 2, .int ((10 : Int32)), [], z_g0),
  (166, .isub, 1, .null, [], z_g0),
  (167, .daload, 1, .null, [], z_g0),
  (168, .invokestatic 252, 3, .null, [0, 0], g_X12_bitsOf),
  (171, .lreturn, 1, .null, [], z_g0)]
set_option maxRecDepth 100000 in
theorem r_X12_lake (v0 : Nat) (v1 : Int32) (S : z_St) : z_seg z_rL (c_X12_lake) [] (fun pc => fun _ _ _ => none) 65 (c_X12_lake) [(0, .ref v0), (1, .int v1)] [] S = b_X12_lake v0 v1 S := rfl
def b_X12_heard (v0 : Nat) (v1 : Int32) (S : z_St) : Option (Int32 × z_St) :=
z_chk S v0 13 (
let S1 := z_wi S v0 0 ((0 : Int32))
(f_X12_in v1.toInt64 ((0 : Int64)) ((5 : Int64)) S1).bind fun q2 =>
if q2.1 = 0 then
(some ((-2000000001 : Int32), q2.2))
else
(z_chk q2.2 v0 13 (
z_onV (va_rf (z_r q2.2 v0 77)) fun b3 =>
z_inb q2.2 b3 101 v1 (
some ((z_i q2.2 b3 v1.toNatClampNeg), q2.2)))))
def f_X12_heard : Nat → Int32 → z_St → Option (Int32 × z_St) := z_op (b_X12_heard)
theorem e_X12_heard (v0 : Nat) (v1 : Int32) (S : z_St) : f_X12_heard v0 v1 S = b_X12_heard v0 v1 S := congrFun (congrFun (congrFun (z_op_eq (b_X12_heard)) v0) v1) S
def g_X12_heard : z_G := .inl (fun as S => match as with
  | [.ref v0, .int v1] => f_X12_heard v0 v1 S
  | _ => none)
def c_X12_heard : List z_E := [
  (0, .aload_n 0, 1, .null, [], z_g0),
  (1, .iconst 0, 1, .int ((0 : Int32)), [], z_g0),
  (2, .putfield 224, 3, .null, [13, 0, 0], z_g0),
  (5, .iload_n 1, 1, .null, [], z_g0),
  (6, .i2l, 1, .null, [], z_g0),
  (7, .lconst 0, 1, .long (0 : Int64), [], z_g0),
  (8, .ldc2_w 334, 3, .long (5 : Int64), [], z_g0),
  (11, .invokestatic 274, 3, .null, [0, 0, 0, 0], g_X12_in),
  (14, .ifCond .eq 12, 3, .null, [26], z_g0),
  (17, .aload_n 0, 1, .null, [], z_g0),
  (18, .getfield 166, 3, .null, [13, 77, 3], z_g0),
  (21, .iload_n 1, 1, .null, [], z_g0),
  (22, .iaload, 1, .null, [101], z_g0),
  (23, .goto 6, 3, .null, [29], z_g0),
  (26, .ldc_w 296, 3, .int (-2000000001 : Int32), [], z_g0),
  (29, .ireturn, 1, .null, [], z_g0)]
set_option maxRecDepth 100000 in
theorem r_X12_heard (v0 : Nat) (v1 : Int32) (S : z_St) : z_seg z_rI (c_X12_heard) [] (fun pc => fun _ _ _ => none) 19 (c_X12_heard) [(0, .ref v0), (1, .int v1)] [] S = b_X12_heard v0 v1 S := rfl
def b_X12_moved (v0 : Nat) (v1 : Int32) (v2 : Int32) (S : z_St) : Option (Int32 × z_St) :=
z_chk S v0 13 (
let S1 := z_wi S v0 0 ((0 : Int32))
(f_X12_in v1.toInt64 ((0 : Int64)) ((3 : Int64)) S1).bind fun q2 =>
if q2.1 = 0 then
(some ((-2000000001 : Int32), q2.2))
else
(if v2 = 0 then
(z_chk q2.2 v0 13 (
z_onV (va_rf (z_r q2.2 v0 69)) fun b5 =>
z_inb q2.2 b5 101 v1 (
some ((z_i q2.2 b5 v1.toNatClampNeg), q2.2))))
else
(if v2 = ((1 : Int32)) then
(z_chk q2.2 v0 13 (
z_onV (va_rf (z_r q2.2 v0 66)) fun b4 =>
z_inb q2.2 b4 104 v1 (
if ((z_i q2.2 b4 v1.toNatClampNeg)) = 0 then
(some ((0 : Int32), q2.2))
else
(some ((1 : Int32), q2.2)))))
else
(if v2 = ((2 : Int32)) then
(z_chk q2.2 v0 13 (
z_onV (va_rf (z_r q2.2 v0 67)) fun b3 =>
z_inb q2.2 b3 104 v1 (
if ((z_i q2.2 b3 v1.toNatClampNeg)) = 0 then
(some ((0 : Int32), q2.2))
else
(some ((1 : Int32), q2.2)))))
else
(some ((-2000000002 : Int32), q2.2))))))
def f_X12_moved : Nat → Int32 → Int32 → z_St → Option (Int32 × z_St) := z_op (b_X12_moved)
theorem e_X12_moved (v0 : Nat) (v1 : Int32) (v2 : Int32) (S : z_St) : f_X12_moved v0 v1 v2 S = b_X12_moved v0 v1 v2 S := congrFun (congrFun (congrFun (congrFun (z_op_eq (b_X12_moved)) v0) v1) v2) S
def g_X12_moved : z_G := .inl (fun as S => match as with
  | [.ref v0, .int v1, .int v2] => f_X12_moved v0 v1 v2 S
  | _ => none)
def c_X12_moved : List z_E := [
  (0, .aload_n 0, 1, .null, [], z_g0),
  (1, .iconst 0, 1, .int ((0 : Int32)), [], z_g0),
  (2, .putfield 224, 3, .null, [13, 0, 0], z_g0),
  (5, .iload_n 1, 1, .null, [], z_g0),
  (6, .i2l, 1, .null, [], z_g0),
  (7, .lconst 0, 1, .long (0 : Int64), [], z_g0),
  (8, .ldc2_w 423, 3, .long (3 : Int64), [], z_g0),
  (11, .invokestatic 274, 3, .null, [0, 0, 0, 0], g_X12_in),
  (14, .ifCond .ne 7, 3, .null, [21], z_g0),
  (17, .ldc_w 296, 3, .int (-2000000001 : Int32), [], z_g0),
  (20, .ireturn, 1, .null, [], z_g0),
  (21, .iload_n 2, 1, .null, [], z_g0),
  (22, .ifCond .ne 12, 3, .null, [34], z_g0),
  (25, .aload_n 0, 1, .null, [], z_g0),
  (26, .getfield 148, 3, .null, [13, 69, 3], z_g0),
  (29, .iload_n 1, 1, .null, [], z_g0),
  (30, .iaload, 1, .null, [101], z_g0),
  (31, .goto 50, 3, .null, [81], z_g0),
  (34, .iload_n 2, 1, .null, [], z_g0),
  (35, .iconst 1, 1, .int ((1 : Int32)), [], z_g0),
  (36, .if_icmp .ne 20, 3, .null, [56], z_g0),
  (39, .aload_n 0, 1, .null, [], z_g0),
  (40, .getfield 139, 3, .null, [13, 66, 3], z_g0),
  (43, .iload_n 1, 1, .null, [], z_g0),
  (44, .baload, 1, .null, [104], z_g0),
  (45, .ifCond .eq 7, 3, .null, [52], z_g0),
  (48, .iconst 1, 1, .int ((1 : Int32)), [], z_g0),
  (49, .goto 32, 3, .null, [81], z_g0),
  (52, .iconst 0, 1, .int ((0 : Int32)), [], z_g0),
  (53, .goto 28, 3, .null, [81], z_g0),
  (56, .iload_n 2, 1, .null, [], z_g0),
  (57, .iconst 2, 1, .int ((2 : Int32)), [], z_g0),
  (58, .if_icmp .ne 20, 3, .null, [78], z_g0),
  (61, .aload_n 0, 1, .null, [], z_g0),
  (62, .getfield 142, 3, .null, [13, 67, 3], z_g0),
  (65, .iload_n 1, 1, .null, [], z_g0),
  (66, .baload, 1, .null, [104], z_g0),
  (67, .ifCond .eq 7, 3, .null, [74], z_g0),
  (70, .iconst 1, 1, .int ((1 : Int32)), [], z_g0),
  (71, .goto 10, 3, .null, [81], z_g0),
  (74, .iconst 0, 1, .int ((0 : Int32)), [], z_g0),
  (75, .goto 6, 3, .null, [81], z_g0),
  (78, .ldc_w 280, 3, .int (-2000000002 : Int32), [], z_g0),
  (81, .ireturn, 1, .null, [], z_g0)]
set_option maxRecDepth 100000 in
theorem r_X12_moved (v0 : Nat) (v1 : Int32) (v2 : Int32) (S : z_St) : z_seg z_rI (c_X12_moved) [] (fun pc => fun _ _ _ => none) 47 (c_X12_moved) [(0, .ref v0), (1, .int v1), (2, .int v2)] [] S = b_X12_moved v0 v1 v2 S := rfl
def b_X12_about (v0 : Nat) (v1 : Int32) (S : z_St) : Option (Int32 × z_St) :=
z_chk S v0 13 (
let S1 := z_wi S v0 0 ((0 : Int32))
if v1 = (0 : Int32) then
(z_chk S1 v0 13 (
some ((z_i S1 v0 62), S1)))
else
if v1 = (1 : Int32) then
(z_chk S1 v0 13 (
some ((z_i S1 v0 63), S1)))
else
if v1 = (2 : Int32) then
(z_chk S1 v0 13 (
some ((z_i S1 v0 3), S1)))
else
if v1 = (3 : Int32) then
(z_chk S1 v0 13 (
some ((z_i S1 v0 8), S1)))
else
if v1 = (4 : Int32) then
(z_chk S1 v0 13 (
some ((z_i S1 v0 12), S1)))
else
if v1 = (5 : Int32) then
(z_chk S1 v0 13 (
some ((z_i S1 v0 15), S1)))
else
if v1 = (6 : Int32) then
(z_chk S1 v0 13 (
some ((z_i S1 v0 22), S1)))
else
if v1 = (7 : Int32) then
(z_chk S1 v0 13 (
some ((z_i S1 v0 34), S1)))
else
if v1 = (8 : Int32) then
(z_chk S1 v0 13 (
some ((z_i S1 v0 80), S1)))
else
if v1 = (9 : Int32) then
(z_chk S1 v0 13 (
some ((z_i S1 v0 87), S1)))
else
if v1 = (10 : Int32) then
(z_chk S1 v0 13 (
some ((z_i S1 v0 99), S1)))
else
(some ((-2000000002 : Int32), S1)))
def f_X12_about : Nat → Int32 → z_St → Option (Int32 × z_St) := z_op (b_X12_about)
theorem e_X12_about (v0 : Nat) (v1 : Int32) (S : z_St) : f_X12_about v0 v1 S = b_X12_about v0 v1 S := congrFun (congrFun (congrFun (z_op_eq (b_X12_about)) v0) v1) S
def g_X12_about : z_G := .inl (fun as S => match as with
  | [.ref v0, .int v1] => f_X12_about v0 v1 S
  | _ => none)
def c_X12_about : List z_E := [
  (0, .aload_n 0, 1, .null, [], z_g0),
  (1, .iconst 0, 1, .int ((0 : Int32)), [], z_g0),
  (2, .putfield 224, 3, .null, [13, 0, 0], z_g0),
  (5, .iload_n 1, 1, .null, [], z_g0),
  (6, .tableswitch 113 0 10 #[58, 63, 68, 73, 78, 83, 88, 93, 98, 103, 108], 58, .null, [119, 0, 64, 69, 74, 79, 84, 89, 94, 99, 104, 109, 114], z_g0),
  (64, .aload_n 0, 1, .null, [], z_g0),
  (65, .getfield 533, 3, .null, [13, 62, 0], z_g0),
  (68, .ireturn, 1, .null, [], z_g0),
  (69, .aload_n 0, 1, .null, [], z_g0),
  (70, .getfield 543, 3, .null, [13, 63, 0], z_g0),
  (73, .ireturn, 1, .null, [], z_g0),
  (74, .aload_n 0, 1, .null, [], z_g0),
  (75, .getfield 271, 3, .null, [13, 3, 0], z_g0),
  (78, .ireturn, 1, .null, [], z_g0),
  (79, .aload_n 0, 1, .null, [], z_g0),
  (80, .getfield 321, 3, .null, [13, 8, 0], z_g0),
  (83, .ireturn, 1, .null, [], z_g0),
  (84, .aload_n 0, 1, .null, [], z_g0),
  (85, .getfield 331, 3, .null, [13, 12, 0], z_g0),
  (88, .ireturn, 1, .null, [], z_g0),
  (89, .aload_n 0, 1, .null, [], z_g0),
  (90, .getfield 359, 3, .null, [13, 15, 0], z_g0),
  (93, .ireturn, 1, .null, [], z_g0),
  (94, .aload_n 0, 1, .null, [], z_g0),
  (95, .getfield 377, 3, .null, [13, 22, 0], z_g0),
  (98, .ireturn, 1, .null, [], z_g0),
  (99, .aload_n 0, 1, .null, [], z_g0),
  (100, .getfield 488, 3, .null, [13, 34, 0], z_g0),
  (103, .ireturn, 1, .null, [], z_g0),
  (104, .aload_n 0, 1, .null, [], z_g0),
  (105, .getfield 605, 3, .null, [13, 80, 0], z_g0),
  (108, .ireturn, 1, .null, [], z_g0),
  (109, .aload_n 0, 1, .null, [], z_g0),
  (110, .getfield 608, 3, .null, [13, 87, 0], z_g0),
  (113, .ireturn, 1, .null, [], z_g0),
  (114, .aload_n 0, 1, .null, [], z_g0),
  (115, .getfield 611, 3, .null, [13, 99, 0], z_g0),
  (118, .ireturn, 1, .null, [], z_g0),
  (119, .ldc_w 280, 3, .int (-2000000002 : Int32), [], z_g0),
  (122, .ireturn, 1, .null, [], z_g0)]
set_option maxRecDepth 100000 in
theorem r_X12_about (v0 : Nat) (v1 : Int32) (S : z_St) : z_seg z_rI (c_X12_about) [] (fun pc => fun _ _ _ => none) 43 (c_X12_about) [(0, .ref v0), (1, .int v1)] [] S = b_X12_about v0 v1 S := rfl
def b_X12_rule (v0 : Nat) (v1 : Int32) (v2 : Int32) (v3 : Int32) (v4 : Int64) (v6 : Int64) (v8 : Int64) (S : z_St) : Option (Int32 × z_St) :=
z_chk S v0 13 (
let S1 := z_wi S v0 0 ((0 : Int32))
(f_X12_realOf v4 S1).bind fun q2 =>
(f_X12_realOf v6 q2.2).bind fun q3 =>
(f_X12_realOf v8 q3.2).bind fun q4 =>
(f_X12_in v1.toInt64 ((0 : Int64)) ((99 : Int64)) q4.2).bind fun q5 =>
if q5.1 = 0 then
(some ((-2000000002 : Int32), q5.2))
else
((f_X12_in v2.toInt64 ((0 : Int64)) v3.toInt64 q5.2).bind fun q6 =>
if q6.1 = 0 then
(some ((-2000000002 : Int32), q6.2))
else
(if ((365 : Int32)) < v3 then
(some ((-2000000002 : Int32), q6.2))
else
(if (Op.cmpValue (FP.dcmp q2.1 q2.1) .l) = 0 then
(if (Op.cmpValue (FP.dcmp q3.1 q3.1) .l) = 0 then
(if (Op.cmpValue (FP.dcmp q4.1 FP.dconst0) .l) < 0 then
(some ((-2000000002 : Int32), q6.2))
else
(if (Op.cmpValue (FP.dcmp q4.1 ((4696837146684686336 : UInt64))) .g) ≤ 0 then
(z_chk q6.2 v0 13 (
if ((z_i q6.2 v0 80)) = ((12 : Int32)) then
(some ((-2000000004 : Int32), q6.2))
else
(z_chk q6.2 v0 13 (
z_chk q6.2 v0 13 (
z_onV (va_rf (z_r q6.2 v0 81)) fun b7 =>
z_inb q6.2 b7 101 ((z_i q6.2 v0 80)) (
let S8 := z_wi q6.2 b7 ((z_i q6.2 v0 80)).toNatClampNeg v1
z_chk S8 v0 13 (
z_chk S8 v0 13 (
z_onV (va_rf (z_r S8 v0 82)) fun b9 =>
z_inb S8 b9 101 ((z_i S8 v0 80)) (
let S10 := z_wi S8 b9 ((z_i S8 v0 80)).toNatClampNeg v2
z_chk S10 v0 13 (
z_chk S10 v0 13 (
z_onV (va_rf (z_r S10 v0 83)) fun b11 =>
z_inb S10 b11 101 ((z_i S10 v0 80)) (
let S12 := z_wi S10 b11 ((z_i S10 v0 80)).toNatClampNeg v3
z_chk S12 v0 13 (
z_chk S12 v0 13 (
z_onV (va_rf (z_r S12 v0 84)) fun b13 =>
z_inb S12 b13 103 ((z_i S12 v0 80)) (
let S14 := z_wd S12 b13 ((z_i S12 v0 80)).toNatClampNeg q2.1
z_chk S14 v0 13 (
z_chk S14 v0 13 (
z_onV (va_rf (z_r S14 v0 85)) fun b15 =>
z_inb S14 b15 103 ((z_i S14 v0 80)) (
let S16 := z_wd S14 b15 ((z_i S14 v0 80)).toNatClampNeg q3.1
z_chk S16 v0 13 (
z_chk S16 v0 13 (
z_onV (va_rf (z_r S16 v0 86)) fun b17 =>
z_inb S16 b17 103 ((z_i S16 v0 80)) (
let S18 := z_wd S16 b17 ((z_i S16 v0 80)).toNatClampNeg q4.1
z_chk S18 v0 13 (
z_chk S18 v0 13 (
let S19 := z_wi S18 v0 80 (((z_i S18 v0 80)) + ((1 : Int32)))
z_chk S19 v0 13 (
some (((z_i S19 v0 80)) - ((1 : Int32)), S19)))))))))))))))))))))))))
else
(some ((-2000000002 : Int32), q6.2))))
else
(some ((-2000000002 : Int32), q6.2)))
else
(some ((-2000000002 : Int32), q6.2))))))
def f_X12_rule : Nat → Int32 → Int32 → Int32 → Int64 → Int64 → Int64 → z_St → Option (Int32 × z_St) := z_op (b_X12_rule)
theorem e_X12_rule (v0 : Nat) (v1 : Int32) (v2 : Int32) (v3 : Int32) (v4 : Int64) (v6 : Int64) (v8 : Int64) (S : z_St) : f_X12_rule v0 v1 v2 v3 v4 v6 v8 S = b_X12_rule v0 v1 v2 v3 v4 v6 v8 S := congrFun (congrFun (congrFun (congrFun (congrFun (congrFun (congrFun (congrFun (z_op_eq (b_X12_rule)) v0) v1) v2) v3) v4) v6) v8) S
def g_X12_rule : z_G := .inl (fun as S => match as with
  | [.ref v0, .int v1, .int v2, .int v3, .long v4, .long v6, .long v8] => f_X12_rule v0 v1 v2 v3 v4 v6 v8 S
  | _ => none)
def c_X12_rule : List z_E := [
  (0, .aload_n 0, 1, .null, [], z_g0),
  (1, .iconst 0, 1, .int ((0 : Int32)), [], z_g0),
  (2, .putfield 224, 3, .null, [13, 0, 0], z_g0),
  (5, .lload 4, 2, .null, [], z_g0),
  (7, .invokestatic 262, 3, .null, [0, 0], g_X12_realOf),
  (10, .dstore 10, 2, .null, [], z_g0),
  (12, .lload 6, 2, .null, [], z_g0),
  (14, .invokestatic 262, 3, .null, [0, 0], g_X12_realOf),
  (17, .dstore 12, 2, .null, [], z_g0),
  (19, .lload 8, 2, .null, [], z_g0),
  (21, .invokestatic 262, 3, .null, [0, 0], g_X12_realOf),
  (24, .dstore 14, 2, .null, [], z_g0),
  (26, .iload_n 1, 1, .null, [], z_g0),
  (27, .i2l, 1, .null, [], z_g0),
  (28, .lconst 0, 1, .long (0 : Int64), [], z_g0),
  (29, .ldc2_w 421, 3, .long (99 : Int64), [], z_g0),
  (32, .invokestatic 274, 3, .null, [0, 0, 0, 0], g_X12_in),
  (35, .ifCond .eq 53, 3, .null, [88], z_g0),
  (38, .iload_n 2, 1, .null, [], z_g0),
  (39, .i2l, 1, .null, [], z_g0),
  (40, .lconst 0, 1, .long (0 : Int64), [], z_g0),
  (41, .iload_n 3, 1, .null, [], z_g0),
  (42, .i2l, 1, .null, [], z_g0),
  (43, .invokestatic 274, 3, .null, [0, 0, 0, 0], g_X12_in),
  (46, .ifCond .eq 42, 3, .null, [88], z_g0),
  (49, .iload_n 3, 1, .null, [], z_g0),
  (50, .sipush 365, 3, .int ((365 : Int32)), [], z_g0),
  (53, .if_icmp .gt 35, 3, .null, [88], z_g0),
  (56, .dload 10, 2, .null, [], z_g0),
  (58, .dload 10, 2, .null, [], z_g0),
  (60, .dcmp .l, 1, .null, [], z_g0),
  (61, .ifCond .ne 27, 3, .null, [88], z_g0),
  (64, .dload 12, 2, .null, [], z_g0),
  (66, .dload 12, 2, .null, [], z_g0),
  (68, .dcmp .l, 1, .null, [], z_g0),
  (69, .ifCond .ne 19, 3, .null, [88], z_g0),
  (72, .dload 14, 2, .null, [], z_g0),
  (74, .dconst 0, 1, .double FP.dconst0, [], z_g0),
  (75, .dcmp .l, 1, .null, [], z_g0),
  (76, .ifCond .lt 12, 3, .null, [88], z_g0),
  (79, .dload 14, 2, .null, [], z_g0),
  (81, .ldc2_w 578, 3, .double (4696837146684686336 : UInt64), [], z_g0),
  (84, .dcmp .g, 1, .null, [], z_g0),
  (85, .ifCond .le 7, 3, .null, [92], z_g0),
  (88, .ldc_w 280, 3, .int (-2000000002 : Int32), [], z_g0),
  (91, .ireturn, 1, .null, [], z_g0),
  (92, .aload_n 0, 1, .null, [], z_g0),
  (93, .getfield 605, 3, .null, [13, 80, 0], z_g0),
  (96, .bipush 12, 2, .int ((12 : Int32)), [], z_g0),
  (98, .if_icmp .ne 7, 3, .null, [105], z_g0),
  (101, .ldc_w 281, 3, .int (-2000000004 : Int32), [], z_g0),
  (104, .ireturn, 1, .null, [], z_g0),
  (105, .aload_n 0, 1, .null, [], z_g0),
  (106, .getfield 175, 3, .null, [13, 81, 3], z_g0),
  (109, .aload_n 0, 1, .null, [], z_g0),
  (110, .getfield 605, 3, .null, [13, 80, 0], z_g0),
  (113, .iload_n 1, 1, .null, [], z_g0),
  (114, .iastore, 1, .null, [], z_g0),
  (115, .aload_n 0, 1, .null, [], z_g0),
  (116, .getfield 178, 3, .null, [13, 82, 3], z_g0),
  (119, .aload_n 0, 1, .null, [], z_g0),
  (120, .getfield 605, 3, .null, [13, 80, 0], z_g0),
  (123, .iload_n 2, 1, .null, [], z_g0),
  (124, .iastore, 1, .null, [], z_g0),
  (125, .aload_n 0, 1, .null, [], z_g0),
  (126, .getfield 181, 3, .null, [13, 83, 3], z_g0),
  (129, .aload_n 0, 1, .null, [], z_g0),
  (130, .getfield 605, 3, .null, [13, 80, 0], z_g0),
  (133, .iload_n 3, 1, .null, [], z_g0),
  (134, .iastore, 1, .null, [], z_g0),
  (135, .aload_n 0, 1, .null, [], z_g0),
  (136, .getfield 184, 3, .null, [13, 84, 3], z_g0),
  (139, .aload_n 0, 1, .null, [], z_g0),
  (140, .getfield 605, 3, .null, [13, 80, 0], z_g0),
  (143, .dload 10, 2, .null, [], z_g0),
  (145, .dastore, 1, .null, [], z_g0),
  (146, .aload_n 0, 1, .null, [], z_g0),
  (147, .getfield 187, 3, .null, [13, 85, 3], z_g0),
  (150, .aload_n 0, 1, .null, [], z_g0),
  (151, .getfield 605, 3, .null, [13, 80, 0], z_g0),
  (154, .dload 12, 2, .null, [], z_g0),
  (156, .dastore, 1, .null, [], z_g0),
  (157, .aload_n 0, 1, .null, [], z_g0),
  (158, .getfield 190, 3, .null, [13, 86, 3], z_g0),
  (161, .aload_n 0, 1, .null, [], z_g0),
  (162, .getfield 605, 3, .null, [13, 80, 0], z_g0),
  (165, .dload 14, 2, .null, [], z_g0),
  (167, .dastore, 1, .null, [], z_g0),
  (168, .aload_n 0, 1, .null, [], z_g0),
  (169, .dup, 1, .null, [], z_g0),
  (170, .getfield 605, 3, .null, [13, 80, 0], z_g0),
  (173, .iconst 1, 1, .int ((1 : Int32)), [], z_g0),
  (174, .iadd, 1, .null, [], z_g0),
  (175, .putfield 605, 3, .null, [13, 80, 0], z_g0),
  (178, .aload_n 0, 1, .null, [], z_g0),
  (179, .getfield 605, 3, .null, [13, 80, 0], z_g0),
  (182, .iconst 1, 1, .int ((1 : Int32)), [], z_g0),
  (183, .isub, 1, .null, [], z_g0),
  (184, .ireturn, 1, .null, [], z_g0)]
set_option maxRecDepth 100000 in
theorem r_X12_rule (v0 : Nat) (v1 : Int32) (v2 : Int32) (v3 : Int32) (v4 : Int64) (v6 : Int64) (v8 : Int64) (S : z_St) : z_seg z_rI (c_X12_rule) [] (fun pc => fun _ _ _ => none) 102 (c_X12_rule) [(0, .ref v0), (1, .int v1), (2, .int v2), (3, .int v3), (4, .long v4), (6, .long v6), (8, .long v8)] [] S = b_X12_rule v0 v1 v2 v3 v4 v6 v8 S := rfl
def b_X12_ruleAt (v0 : Nat) (v1 : Int32) (v2 : Int64) (S : z_St) : Option (Int32 × z_St) :=
z_chk S v0 13 (
let S1 := z_wi S v0 0 ((0 : Int32))
(f_X12_realOf v2 S1).bind fun q2 =>
(f_X12_in v1.toInt64 ((0 : Int64)) ((365 : Int64)) q2.2).bind fun q3 =>
if q3.1 = 0 then
(some ((-2000000002 : Int32), q3.2))
else
(if (Op.cmpValue (FP.dcmp q2.1 q2.1) .l) = 0 then
(z_chk q3.2 v0 13 (
(f_X12_holding v0 v1 q2.1 q3.2).bind fun q4 =>
some (q4.1, q4.2)))
else
(some ((-2000000002 : Int32), q3.2))))
def f_X12_ruleAt : Nat → Int32 → Int64 → z_St → Option (Int32 × z_St) := z_op (b_X12_ruleAt)
theorem e_X12_ruleAt (v0 : Nat) (v1 : Int32) (v2 : Int64) (S : z_St) : f_X12_ruleAt v0 v1 v2 S = b_X12_ruleAt v0 v1 v2 S := congrFun (congrFun (congrFun (congrFun (z_op_eq (b_X12_ruleAt)) v0) v1) v2) S
def g_X12_ruleAt : z_G := .inl (fun as S => match as with
  | [.ref v0, .int v1, .long v2] => f_X12_ruleAt v0 v1 v2 S
  | _ => none)
def c_X12_ruleAt : List z_E := [
  (0, .aload_n 0, 1, .null, [], z_g0),
  (1, .iconst 0, 1, .int ((0 : Int32)), [], z_g0),
  (2, .putfield 224, 3, .null, [13, 0, 0], z_g0),
  (5, .lload_n 2, 1, .null, [], z_g0),
  (6, .invokestatic 262, 3, .null, [0, 0], g_X12_realOf),
  (9, .dstore 4, 2, .null, [], z_g0),
  (11, .iload_n 1, 1, .null, [], z_g0),
  (12, .i2l, 1, .null, [], z_g0),
  (13, .lconst 0, 1, .long (0 : Int64), [], z_g0),
  (14, .ldc2_w 618, 3, .long (365 : Int64), [], z_g0),
  (17, .invokestatic 274, 3, .null, [0, 0, 0, 0], g_X12_in),
  (20, .ifCond .eq 11, 3, .null, [31], z_g0),
  (23, .dload 4, 2, .null, [], z_g0),
  (25, .dload 4, 2, .null, [], z_g0),
  (27, .dcmp .l, 1, .null, [], z_g0),
  (28, .ifCond .eq 9, 3, .null, [37], z_g0),
  (31, .ldc_w 280, 3, .int (-2000000002 : Int32), [], z_g0),
  (34, .goto 10, 3, .null, [44], z_g0),
  (37, .aload_n 0, 1, .null, [], z_g0),
  (38, .iload_n 1, 1, .null, [], z_g0),
  (39, .dload 4, 2, .null, [], z_g0),
  (41, .invokevirtual 614, 3, .null, [1, 13, 0, 0], g_X12_holding),
  (44, .ireturn, 1, .null, [], z_g0)]
set_option maxRecDepth 100000 in
theorem r_X12_ruleAt (v0 : Nat) (v1 : Int32) (v2 : Int64) (S : z_St) : z_seg z_rI (c_X12_ruleAt) [] (fun pc => fun _ _ _ => none) 26 (c_X12_ruleAt) [(0, .ref v0), (1, .int v1), (2, .long v2)] [] S = b_X12_ruleAt v0 v1 v2 S := rfl
def b_X12_right (v0 : Nat) (v1 : Int32) (v2 : Int32) (v3 : Int64) (S : z_St) : Option (Int32 × z_St) :=
z_chk S v0 13 (
let S1 := z_wi S v0 0 ((0 : Int32))
(f_X12_in v1.toInt64 ((0 : Int64)) ((99 : Int64)) S1).bind fun q2 =>
if q2.1 = 0 then
(some ((-2000000002 : Int32), q2.2))
else
((f_X12_in v2.toInt64 ((0 : Int64)) ((1000 : Int64)) q2.2).bind fun q3 =>
if q3.1 = 0 then
(some ((-2000000002 : Int32), q3.2))
else
((f_X12_in v3 ((0 : Int64)) ((1000000000000 : Int64)) q3.2).bind fun q4 =>
if q4.1 = 0 then
(some ((-2000000002 : Int32), q4.2))
else
(z_chk q4.2 v0 13 (
if ((z_i q4.2 v0 87)) = ((12 : Int32)) then
(some ((-2000000004 : Int32), q4.2))
else
(z_chk q4.2 v0 13 (
z_chk q4.2 v0 13 (
z_onV (va_rf (z_r q4.2 v0 88)) fun b5 =>
z_inb q4.2 b5 101 ((z_i q4.2 v0 87)) (
let S6 := z_wi q4.2 b5 ((z_i q4.2 v0 87)).toNatClampNeg v1
z_chk S6 v0 13 (
z_chk S6 v0 13 (
z_onV (va_rf (z_r S6 v0 89)) fun b7 =>
z_inb S6 b7 101 ((z_i S6 v0 87)) (
let S8 := z_wi S6 b7 ((z_i S6 v0 87)).toNatClampNeg v2
z_chk S8 v0 13 (
z_chk S8 v0 13 (
z_onV (va_rf (z_r S8 v0 90)) fun b9 =>
z_inb S8 b9 102 ((z_i S8 v0 87)) (
let S10 := z_wl S8 b9 ((z_i S8 v0 87)).toNatClampNeg v3
z_chk S10 v0 13 (
z_chk S10 v0 13 (
z_onV (va_rf (z_r S10 v0 91)) fun b11 =>
z_inb S10 b11 102 ((z_i S10 v0 87)) (
let S12 := z_wl S10 b11 ((z_i S10 v0 87)).toNatClampNeg ((0 : Int64))
z_chk S12 v0 13 (
z_chk S12 v0 13 (
let S13 := z_wi S12 v0 87 (((z_i S12 v0 87)) + ((1 : Int32)))
z_chk S13 v0 13 (
some (((z_i S13 v0 87)) - ((1 : Int32)), S13))))))))))))))))))))))
def f_X12_right : Nat → Int32 → Int32 → Int64 → z_St → Option (Int32 × z_St) := z_op (b_X12_right)
theorem e_X12_right (v0 : Nat) (v1 : Int32) (v2 : Int32) (v3 : Int64) (S : z_St) : f_X12_right v0 v1 v2 v3 S = b_X12_right v0 v1 v2 v3 S := congrFun (congrFun (congrFun (congrFun (congrFun (z_op_eq (b_X12_right)) v0) v1) v2) v3) S
def g_X12_right : z_G := .inl (fun as S => match as with
  | [.ref v0, .int v1, .int v2, .long v3] => f_X12_right v0 v1 v2 v3 S
  | _ => none)
def c_X12_right : List z_E := [
  (0, .aload_n 0, 1, .null, [], z_g0),
  (1, .iconst 0, 1, .int ((0 : Int32)), [], z_g0),
  (2, .putfield 224, 3, .null, [13, 0, 0], z_g0),
  (5, .iload_n 1, 1, .null, [], z_g0),
  (6, .i2l, 1, .null, [], z_g0),
  (7, .lconst 0, 1, .long (0 : Int64), [], z_g0),
  (8, .ldc2_w 421, 3, .long (99 : Int64), [], z_g0),
  (11, .invokestatic 274, 3, .null, [0, 0, 0, 0], g_X12_in),
  (14, .ifCond .eq 26, 3, .null, [40], z_g0),
  (17, .iload_n 2, 1, .null, [], z_g0),
  (18, .i2l, 1, .null, [], z_g0),
  (19, .lconst 0, 1, .long (0 : Int64), [], z_g0),
  (20, .ldc2_w 336, 3, .long (1000 : Int64), [], z_g0),
  (23, .invokestatic 274, 3, .null, [0, 0, 0, 0], g_X12_in),
  (26, .ifCond .eq 14, 3, .null, [40], z_g0),
  (29, .lload_n 3, 1, .null, [], z_g0),
  (30, .lconst 0, 1, .long (0 : Int64), [], z_g0),
  (31, .ldc2_w 620, 3, .long (1000000000000 : Int64), [], z_g0),
  (34, .invokestatic 274, 3, .null, [0, 0, 0, 0], g_X12_in),
  (37, .ifCond .ne 7, 3, .null, [44], z_g0),
  (40, .ldc_w 280, 3, .int (-2000000002 : Int32), [], z_g0),
  (43, .ireturn, 1, .null, [], z_g0),
  (44, .aload_n 0, 1, .null, [], z_g0),
  (45, .getfield 608, 3, .null, [13, 87, 0], z_g0),
  (48, .bipush 12, 2, .int ((12 : Int32)), [], z_g0),
  (50, .if_icmp .ne 7, 3, .null, [57], z_g0),
  (53, .ldc_w 281, 3, .int (-2000000004 : Int32), [], z_g0),
  (56, .ireturn, 1, .null, [], z_g0),
  (57, .aload_n 0, 1, .null, [], z_g0),
  (58, .getfield 193, 3, .null, [13, 88, 3], z_g0),
  (61, .aload_n 0, 1, .null, [], z_g0),
  (62, .getfield 608, 3, .null, [13, 87, 0], z_g0),
  (65, .iload_n 1, 1, .null, [], z_g0),
  (66, .iastore, 1, .null, [], z_g0),
  (67, .aload_n 0, 1, .null, [], z_g0),
  (68, .getfield 196, 3, .null, [13, 89, 3], z_g0),
  (71, .aload_n 0, 1, .null, [], z_g0),
  (72, .getfield 608, 3, .null, [13, 87, 0], z_g0),
  (75, .iload_n 2, 1, .null, [], z_g0),
  (76, .iastore, 1, .null, [], z_g0),
  (77, .aload_n 0, 1, .null, [], z_g0),
  (78, .getfield 199, 3, .null, [13, 90, 3], z_g0),
  (81, .aload_n 0, 1, .null, [], z_g0),
  (82, .getfield 608, 3, .null, [13, 87, 0], z_g0),
  (85, .lload_n 3, 1, .null, [], z_g0),
  (86, .lastore, 1, .null, [], z_g0),
  (87, .aload_n 0, 1, .null, [], z_g0),
  (88, .getfield 202, 3, .null, [13, 91, 3], z_g0),
  (91, .aload_n 0, 1, .null, [], z_g0),
  (92, .getfield 608, 3, .null, [13, 87, 0], z_g0),
  (95, .lconst 0, 1, .long (0 : Int64), [], z_g0),
  (96, .lastore, 1, .null, [], z_g0),
  (97, .aload_n 0, 1, .null, [], z_g0),
  (98, .dup, 1, .null, [], z_g0),
  (99, .getfield 608, 3, .null, [13, 87, 0], z_g0),
  (102, .iconst 1, 1, .int ((1 : Int32)), [], z_g0),
  (103, .iadd, 1, .null, [], z_g0),
  (104, .putfield 608, 3, .null, [13, 87, 0], z_g0),
  (107, .aload_n 0, 1, .null, [], z_g0),
  (108, .getfield 608, 3, .null, [13, 87, 0], z_g0),
  (111, .iconst 1, 1, .int ((1 : Int32)), [], z_g0),
  (112, .isub, 1, .null, [], z_g0),
  (113, .ireturn, 1, .null, [], z_g0)]
set_option maxRecDepth 100000 in
theorem r_X12_right (v0 : Nat) (v1 : Int32) (v2 : Int32) (v3 : Int64) (S : z_St) : z_seg z_rI (c_X12_right) [] (fun pc => fun _ _ _ => none) 66 (c_X12_right) [(0, .ref v0), (1, .int v1), (2, .int v2), (3, .long v3)] [] S = b_X12_right v0 v1 v2 v3 S := rfl
def j_X12_partRank_274 (k_213 : Nat → Int32 → Int64 → Int32 → z_St → Option (Int64 × z_St)) (v0 : Nat) (v1 : Int32) (v8 : Int64) (v10 : Int32) (t0 : Int64) (S : z_St) : Option (Int64 × z_St) :=
z_chk S v0 13 (
z_onV (va_rf (z_r S v0 91)) fun b30 =>
z_inb S b30 102 v10 (
z_inb S b30 102 v10 (
let S31 := z_wl S b30 v10.toNatClampNeg (((z_l S b30 v10.toNatClampNeg)) + t0)
let x32 := v8 - t0
let x33 := v10 + (1 : Int32)
k_213 v0 v1 x32 x33 S31)))
def l_X12_partRank_213 : Nat → Nat → Int32 → Int64 → Int32 → z_St → Option (Int64 × z_St)
  | 0 => fun _ _ _ _ _ => none
  | n + 1 => fun (v0 : Nat) (v1 : Int32) (v8 : Int64) (v10 : Int32) (S : z_St) =>
z_chk S v0 13 (
if ((z_i S v0 87)) ≤ v10 then
(some (v8, S))
else
(z_chk S v0 13 (
z_onV (va_rf (z_r S v0 88)) fun b20 =>
z_inb S b20 101 v10 (
if ((z_i S b20 v10.toNatClampNeg)) = v1 then
(z_chk S v0 13 (
z_onV (va_rf (z_r S v0 90)) fun b22 =>
z_inb S b22 102 v10 (
z_chk S v0 13 (
z_onV (va_rf (z_r S v0 91)) fun b23 =>
z_inb S b23 102 v10 (
if 0 ≤ (lg_cmp (((z_l S b22 v10.toNatClampNeg)) - ((z_l S b23 v10.toNatClampNeg))) v8) then
(j_X12_partRank_274 (l_X12_partRank_213 n) v0 v1 v8 v10 v8 S)
else
(z_chk S v0 13 (
z_onV (va_rf (z_r S v0 90)) fun b24 =>
z_inb S b24 102 v10 (
z_chk S v0 13 (
z_onV (va_rf (z_r S v0 91)) fun b25 =>
z_inb S b25 102 v10 (
j_X12_partRank_274 (l_X12_partRank_213 n) v0 v1 v8 v10 (((z_l S b24 v10.toNatClampNeg)) - ((z_l S b25 v10.toNatClampNeg))) S))))))))))
else
(let x21 := v10 + (1 : Int32)
l_X12_partRank_213 n v0 v1 v8 x21 S)))))
def j_X12_partRank_183 (k_93 : Nat → Int32 → Int64 → Int64 → Int64 → Int64 → Int32 → z_St → Option (Int64 × z_St)) (v0 : Nat) (v1 : Int32) (v2 : Int64) (v4 : Int64) (v6 : Int64) (v8 : Int64) (v10 : Int32) (t0 : Int64) (S : z_St) : Option (Int64 × z_St) :=
z_chk S v0 13 (
z_onV (va_rf (z_r S v0 91)) fun b26 =>
z_inb S b26 102 v10 (
z_inb S b26 102 v10 (
let S27 := z_wl S b26 v10.toNatClampNeg (((z_l S b26 v10.toNatClampNeg)) + t0)
let x28 := v8 - t0
let x29 := v10 + (1 : Int32)
k_93 v0 v1 v2 v4 v6 x28 x29 S27)))
def l_X12_partRank_93 : Nat → Nat → Int32 → Int64 → Int64 → Int64 → Int64 → Int32 → z_St → Option (Int64 × z_St)
  | 0 => fun _ _ _ _ _ _ _ _ => none
  | n + 1 => fun (v0 : Nat) (v1 : Int32) (v2 : Int64) (v4 : Int64) (v6 : Int64) (v8 : Int64) (v10 : Int32) (S : z_St) =>
z_chk S v0 13 (
if ((z_i S v0 87)) ≤ v10 then
(l_X12_partRank_213 z_N v0 v1 v8 ((0 : Int32)) S)
else
(if (lg_cmp v4 v2) ≤ 0 then
(l_X12_partRank_213 z_N v0 v1 v8 ((0 : Int32)) S)
else
(z_chk S v0 13 (
z_onV (va_rf (z_r S v0 88)) fun b4 =>
z_inb S b4 101 v10 (
if ((z_i S b4 v10.toNatClampNeg)) = v1 then
(if (lg_cmp v6 ((0 : Int64))) ≤ 0 then
(let x6 := v10 + (1 : Int32)
l_X12_partRank_93 n v0 v1 v2 v4 v6 v8 x6 S)
else
(z_chk S v0 13 (
z_onV (va_rf (z_r S v0 89)) fun b7 =>
z_inb S b7 101 v10 (
z_nzl v6 (
let x8 := (v2 * (((z_i S b7 v10.toNatClampNeg)).toInt64)) / v6
z_chk S v0 13 (
z_onV (va_rf (z_r S v0 90)) fun b9 =>
z_inb S b9 102 v10 (
z_chk S v0 13 (
z_onV (va_rf (z_r S v0 91)) fun b10 =>
z_inb S b10 102 v10 (
if (lg_cmp x8 (((z_l S b9 v10.toNatClampNeg)) - ((z_l S b10 v10.toNatClampNeg)))) ≤ 0 then
(j_X12_partRank_183 (l_X12_partRank_93 n) v0 v1 v2 v4 v6 v8 v10 x8 S)
else
(z_chk S v0 13 (
z_onV (va_rf (z_r S v0 90)) fun b11 =>
z_inb S b11 102 v10 (
z_chk S v0 13 (
z_onV (va_rf (z_r S v0 91)) fun b12 =>
z_inb S b12 102 v10 (
j_X12_partRank_183 (l_X12_partRank_93 n) v0 v1 v2 v4 v6 v8 v10 (((z_l S b11 v10.toNatClampNeg)) - ((z_l S b12 v10.toNatClampNeg))) S))))))))))))))
else
(let x5 := v10 + (1 : Int32)
l_X12_partRank_93 n v0 v1 v2 v4 v6 v8 x5 S))))))
def j_X12_partRank_50 (k_9 : Nat → Int32 → Int64 → Int64 → Int64 → Int32 → z_St → Option (Int64 × z_St)) (v0 : Nat) (v1 : Int32) (v2 : Int64) (v6 : Int64) (v8 : Int32) (t0 : Int64) (t1 : Int64) (S : z_St) : Option (Int64 × z_St) :=
let x13 := t0 + t1
z_chk S v0 13 (
z_onV (va_rf (z_r S v0 88)) fun b14 =>
z_inb S b14 101 v8 (
if ((z_i S b14 v8.toNatClampNeg)) = v1 then
(z_chk S v0 13 (
z_onV (va_rf (z_r S v0 89)) fun b17 =>
z_inb S b17 101 v8 (
let x18 := v6 + (((z_i S b17 v8.toNatClampNeg)).toInt64)
let x19 := v8 + (1 : Int32)
k_9 v0 v1 v2 x13 x18 x19 S)))
else
(let x15 := v6 + ((0 : Int64))
let x16 := v8 + (1 : Int32)
k_9 v0 v1 v2 x13 x15 x16 S)))
def l_X12_partRank_9 : Nat → Nat → Int32 → Int64 → Int64 → Int64 → Int32 → z_St → Option (Int64 × z_St)
  | 0 => fun _ _ _ _ _ _ _ => none
  | n + 1 => fun (v0 : Nat) (v1 : Int32) (v2 : Int64) (v4 : Int64) (v6 : Int64) (v8 : Int32) (S : z_St) =>
z_chk S v0 13 (
if ((z_i S v0 87)) ≤ v8 then
(l_X12_partRank_93 z_N v0 v1 v2 v4 v6 v2 ((0 : Int32)) S)
else
(z_chk S v0 13 (
z_onV (va_rf (z_r S v0 88)) fun b1 =>
z_inb S b1 101 v8 (
if ((z_i S b1 v8.toNatClampNeg)) = v1 then
(z_chk S v0 13 (
z_onV (va_rf (z_r S v0 90)) fun b2 =>
z_inb S b2 102 v8 (
z_chk S v0 13 (
z_onV (va_rf (z_r S v0 91)) fun b3 =>
z_inb S b3 102 v8 (
j_X12_partRank_50 (l_X12_partRank_9 n) v0 v1 v2 v6 v8 v4 (((z_l S b2 v8.toNatClampNeg)) - ((z_l S b3 v8.toNatClampNeg))) S)))))
else
(j_X12_partRank_50 (l_X12_partRank_9 n) v0 v1 v2 v6 v8 v4 ((0 : Int64)) S)))))
def b_X12_partRank (v0 : Nat) (v1 : Int32) (v2 : Int64) (S : z_St) : Option (Int64 × z_St) :=
l_X12_partRank_9 z_N v0 v1 v2 ((0 : Int64)) ((0 : Int64)) ((0 : Int32)) S
def f_X12_partRank : Nat → Int32 → Int64 → z_St → Option (Int64 × z_St) := z_op (b_X12_partRank)
theorem e_X12_partRank (v0 : Nat) (v1 : Int32) (v2 : Int64) (S : z_St) : f_X12_partRank v0 v1 v2 S = b_X12_partRank v0 v1 v2 S := congrFun (congrFun (congrFun (congrFun (z_op_eq (b_X12_partRank)) v0) v1) v2) S
def g_X12_partRank : z_G := .inr (.inl (fun as S => match as with
  | [.ref v0, .int v1, .long v2] => f_X12_partRank v0 v1 v2 S
  | _ => none))
def c_X12_partRank : List z_E := [
  (0, .lconst 0, 1, .long (0 : Int64), [], z_g0),
  (1, .lstore 4, 2, .null, [], z_g0),
  (3, .lconst 0, 1, .long (0 : Int64), [], z_g0),
  (4, .lstore 6, 2, .null, [], z_g0),
  (6, .iconst 0, 1, .int ((0 : Int32)), [], z_g0),
  (7, .istore 8, 2, .null, [], z_g0),
  (9, .iload 8, 2, .null, [], z_g0),
  (11, .aload_n 0, 1, .null, [], z_g0),
  (12, .getfield 608, 3, .null, [13, 87, 0], z_g0),
  (15, .if_icmp .ge 72, 3, .null, [87], z_g0),
  (18, .lload 4, 2, .null, [], z_g0),
  (20, .aload_n 0, 1, .null, [], z_g0),
  (21, .getfield 193, 3, .null, [13, 88, 3], z_g0),
  (24, .iload 8, 2, .null, [], z_g0),
  (26, .iaload, 1, .null, [101], z_g0),
  (27, .iload_n 1, 1, .null, [], z_g0),
  (28, .if_icmp .ne 21, 3, .null, [49], z_g0),
  (31, .aload_n 0, 1, .null, [], z_g0),
  (32, .getfield 199, 3, .null, [13, 90, 3], z_g0),
  (35, .iload 8, 2, .null, [], z_g0),
  (37, .laload, 1, .null, [], z_g0),
  (38, .aload_n 0, 1, .null, [], z_g0),
  (39, .getfield 202, 3, .null, [13, 91, 3], z_g0),
  (42, .iload 8, 2, .null, [], z_g0),
  (44, .laload, 1, .null, [], z_g0),
  (45, .lsub, 1, .null, [], z_g0),
  (46, .goto 4, 3, .null, [50], z_g0),
  (49, .lconst 0, 1, .long (0 : Int64), [], z_g0),
  (50, .ladd, 1, .null, [], z_g0),
  (51, .lstore 4, 2, .null, [], z_g0),
  (53, .lload 6, 2, .null, [], z_g0),
  (55, .aload_n 0, 1, .null, [], z_g0),
  (56, .getfield 193, 3, .null, [13, 88, 3], z_g0),
  (59, .iload 8, 2, .null, [], z_g0),
  (61, .iaload, 1, .null, [101], z_g0),
  (62, .iload_n 1, 1, .null, [], z_g0),
  (63, .if_icmp .ne 14, 3, .null, [77], z_g0),
  (66, .aload_n 0, 1, .null, [], z_g0),
  (67, .getfield 196, 3, .null, [13, 89, 3], z_g0),
  (70, .iload 8, 2, .null, [], z_g0),
  (72, .iaload, 1, .null, [101], z_g0),
  (73, .i2l, 1, .null, [], z_g0),
  (74, .goto 4, 3, .null, [78], z_g0),
  (77, .lconst 0, 1, .long (0 : Int64), [], z_g0),
  (78, .ladd, 1, .null, [], z_g0),
  (79, .lstore 6, 2, .null, [], z_g0),
  (81, .iinc 8 1, 3, .int (1 : Int32), [], z_g0),
  (84, .goto (-75), 3, .null, [9], z_g0),
  (87, .lload_n 2, 1, .null, [], z_g0),
  (88, .lstore 8, 2, .null, [], z_g0),
  (90, .iconst 0, 1, .int ((0 : Int32)), [], z_g0),
  (91, .istore 10, 2, .null, [], z_g0),
  (93, .iload 10, 2, .null, [], z_g0),
  (95, .aload_n 0, 1, .null, [], z_g0),
  (96, .getfield 608, 3, .null, [13, 87, 0], z_g0),
  (99, .if_icmp .ge 111, 3, .null, [210], z_g0),
  (102, .lload 4, 2, .null, [], z_g0),
  (104, .lload_n 2, 1, .null, [], z_g0),
  (105, .lcmp, 1, .null, [], z_g0),
  (106, .ifCond .le 104, 3, .null, [210], z_g0),
  (109, .aload_n 0, 1, .null, [], z_g0),
  (110, .getfield 193, 3, .null, [13, 88, 3], z_g0),
  (113, .iload 10, 2, .null, [], z_g0),
  (115, .iaload, 1, .null, [101], z_g0),
  (116, .iload_n 1, 1, .null, [], z_g0),
  (117, .if_icmp .ne 87, 3, .null, [204], z_g0),
  (120, .lload 6, 2, .null, [], z_g0),
  (122, .lconst 0, 1, .long (0 : Int64), [], z_g0),
  (123, .lcmp, 1, .null, [], z_g0),
  (124, .ifCond .le 80, 3, .null, [204], z_g0),
  (127, .lload_n 2, 1, .null, [], z_g0),
  (128, .aload_n 0, 1, .null, [], z_g0),
  (129, .getfield 196, 3, .null, [13, 89, 3], z_g0),
  (132, .iload 10, 2, .null, [], z_g0),
  (134, .iaload, 1, .null, [101], z_g0),
  (135, .i2l, 1, .null, [], z_g0),
  (136, .lmul, 1, .null, [], z_g0),
  (137, .lload 6, 2, .null, [], z_g0),
  (139, .ldiv, 1, .null, [], z_g0),
  (140, .lstore 11, 2, .null, [], z_g0),
  (142, .lload 11, 2, .null, [], z_g0),
  (144, .aload_n 0, 1, .null, [], z_g0),
  (145, .getfield 199, 3, .null, [13, 90, 3], z_g0),
  (148, .iload 10, 2, .null, [], z_g0),
  (150, .laload, 1, .null, [], z_g0),
  (151, .aload_n 0, 1, .null, [], z_g0),
  (152, .getfield 202, 3, .null, [13, 91, 3], z_g0),
  (155, .iload 10, 2, .null, [], z_g0),
  (157, .laload, 1, .null, [], z_g0),
  (158, .lsub, 1, .null, [], z_g0),
  (159, .lcmp, 1, .null, [], z_g0),
  (160, .ifCond .le 21, 3, .null, [181], z_g0),
  (163, .aload_n 0, 1, .null, [], z_g0),
  (164, .getfield 199, 3, .null, [13, 90, 3], z_g0),
  (167, .iload 10, 2, .null, [], z_g0),
  (169, .laload, 1, .null, [], z_g0),
  (170, .aload_n 0, 1, .null, [], z_g0),
  (171, .getfield 202, 3, .null, [13, 91, 3], z_g0),
  (174, .iload 10, 2, .null, [], z_g0),
  (176, .laload, 1, .null, [], z_g0),
  (177, .lsub, 1, .null, [], z_g0),
  (178, .goto 5, 3, .null, [183], z_g0),
  (181, .lload 11, 2, .null, [], z_g0),
  (183, .lstore 11, 2, .null, [], z_g0),
  (185, .aload_n 0, 1, .null, [], z_g0),
  (186, .getfield 202, 3, .null, [13, 91, 3], z_g0),
  (189, .iload 10, 2, .null, [], z_g0),
  (191, .dup2, 1, .null, [1], z_g0),
  (192, .laload, 1, .null, [], z_g0),
  (193, .lload 11, 2, .null, [], z_g0),
  (195, .ladd, 1, .null, [], z_g0),
  (196, .lastore, 1, .null, [], z_g0),
  (197, .lload 8, 2, .null, [], z_g0),
  (199, .lload 11, 2, .null, [], z_g0),
  (201, .lsub, 1, .null, [], z_g0),
  (202, .lstore 8, 2, .null, [], z_g0),
  (204, .iinc 10 1, 3, .int (1 : Int32), [], z_g0),
  (207, .goto (-114), 3, .null, [93], z_g0),
  (210, .iconst 0, 1, .int ((0 : Int32)), [], z_g0),
  (211, .istore 10, 2, .null, [], z_g0),
  (213, .iload 10, 2, .null, [], z_g0),
  (215, .aload_n 0, 1, .null, [], z_g0),
  (216, .getfield 608, 3, .null, [13, 87, 0], z_g0),
  (219, .if_icmp .ge 82, 3, .null, [301], z_g0),
  (222, .aload_n 0, 1, .null, [], z_g0),
  (223, .getfield 193, 3, .null, [13, 88, 3], z_g0),
  (226, .iload 10, 2, .null, [], z_g0),
  (228, .iaload, 1, .null, [101], z_g0),
  (229, .iload_n 1, 1, .null, [], z_g0),
  (230, .if_icmp .ne 65, 3, .null, [295], z_g0),
  (233, .aload_n 0, 1, .null, [], z_g0),
  (234, .getfield 199, 3, .null, [13, 90, 3], z_g0),
  (237, .iload 10, 2, .null, [], z_g0),
  (239, .laload, 1, .null, [], z_g0),
  (240, .aload_n 0, 1, .null, [], z_g0),
  (241, .getfield 202, 3, .null, [13, 91, 3], z_g0),
  (244, .iload 10, 2, .null, [], z_g0),
  (246, .laload, 1, .null, [], z_g0),
  (247, .lsub, 1, .null, [], z_g0),
  (248, .lload 8, 2, .null, [], z_g0),
  (250, .lcmp, 1, .null, [], z_g0),
  (251, .ifCond .ge 21, 3, .null, [272], z_g0),
  (254, .aload_n 0, 1, .null, [], z_g0),
  (255, .getfield 199, 3, .null, [13, 90, 3], z_g0),
  (258, .iload 10, 2, .null, [], z_g0),
  (260, .laload, 1, .null, [], z_g0),
  (261, .aload_n 0, 1, .null, [], z_g0),
  (262, .getfield 202, 3, .null, [13, 91, 3], z_g0),
  (265, .iload 10, 2, .null, [], z_g0),
  (267, .laload, 1, .null, [], z_g0),
  (268, .lsub, 1, .null, [], z_g0),
  (269, .goto 5, 3, .null, [274], z_g0),
  (272, .lload 8, 2, .null, [], z_g0),
  (274, .lstore 11, 2, .null, [], z_g0),
  (276, .aload_n 0, 1, .null, [], z_g0),
  (277, .getfield 202, 3, .null, [13, 91, 3], z_g0),
  (280, .iload 10, 2, .null, [], z_g0),
  (282, .dup2, 1, .null, [1], z_g0),
  (283, .laload, 1, .null, [], z_g0),
  (284, .lload 11, 2, .null, [], z_g0),
  (286, .ladd, 1, .null, [], z_g0),
  (287, .lastore, 1, .null, [], z_g0),
  (288, .lload 8, 2, .null, [], z_g0),
  (290, .lload 11, 2, .null, [], z_g0),
  (292, .lsub, 1, .null, [], z_g0),
  (293, .lstore 8, 2, .null, [], z_g0),
  (295, .iinc 10 1, 3, .int (1 : Int32), [], z_g0),
  (298, .goto (-85), 3, .null, [213], z_g0),
  (301, .lload 8, 2, .null, [], z_g0),
  (303, .lreturn, 1, .null, [], z_g0)]
def a_X12_partRank_9 {ρ : Type} (k : Nat → Int32 → Int64 → Int64 → Int64 → Int32 → z_St → Option ρ) (ls : z_Lv) (st : List Value) (S : z_St) : Option ρ := z_gR ls 0 fun v0 => z_gI ls 1 fun v1 => z_gJ ls 2 fun v2 => z_gJ ls 4 fun v4 => z_gJ ls 6 fun v6 => z_gI ls 8 fun v8 => z_p0 st (k v0 v1 v2 v4 v6 v8 S)
def a_X12_partRank_50 {ρ : Type} (k : Nat → Int32 → Int64 → Int64 → Int32 → Int64 → Int64 → z_St → Option ρ) (ls : z_Lv) (st : List Value) (S : z_St) : Option ρ := z_gR ls 0 fun v0 => z_gI ls 1 fun v1 => z_gJ ls 2 fun v2 => z_gJ ls 6 fun v6 => z_gI ls 8 fun v8 => z_pJ st fun t1 s1 => z_pJ s1 fun t0 s0 => z_p0 s0 (k v0 v1 v2 v6 v8 t0 t1 S)
def a_X12_partRank_93 {ρ : Type} (k : Nat → Int32 → Int64 → Int64 → Int64 → Int64 → Int32 → z_St → Option ρ) (ls : z_Lv) (st : List Value) (S : z_St) : Option ρ := z_gR ls 0 fun v0 => z_gI ls 1 fun v1 => z_gJ ls 2 fun v2 => z_gJ ls 4 fun v4 => z_gJ ls 6 fun v6 => z_gJ ls 8 fun v8 => z_gI ls 10 fun v10 => z_p0 st (k v0 v1 v2 v4 v6 v8 v10 S)
def a_X12_partRank_183 {ρ : Type} (k : Nat → Int32 → Int64 → Int64 → Int64 → Int64 → Int32 → Int64 → z_St → Option ρ) (ls : z_Lv) (st : List Value) (S : z_St) : Option ρ := z_gR ls 0 fun v0 => z_gI ls 1 fun v1 => z_gJ ls 2 fun v2 => z_gJ ls 4 fun v4 => z_gJ ls 6 fun v6 => z_gJ ls 8 fun v8 => z_gI ls 10 fun v10 => z_pJ st fun t0 s0 => z_p0 s0 (k v0 v1 v2 v4 v6 v8 v10 t0 S)
def a_X12_partRank_213 {ρ : Type} (k : Nat → Int32 → Int64 → Int32 → z_St → Option ρ) (ls : z_Lv) (st : List Value) (S : z_St) : Option ρ := z_gR ls 0 fun v0 => z_gI ls 1 fun v1 => z_gJ ls 8 fun v8 => z_gI ls 10 fun v10 => z_p0 st (k v0 v1 v8 v10 S)
def a_X12_partRank_274 {ρ : Type} (k : Nat → Int32 → Int64 → Int32 → Int64 → z_St → Option ρ) (ls : z_Lv) (st : List Value) (S : z_St) : Option ρ := z_gR ls 0 fun v0 => z_gI ls 1 fun v1 => z_gJ ls 8 fun v8 => z_gI ls 10 fun v10 => z_pJ st fun t0 s0 => z_p0 s0 (k v0 v1 v8 v10 t0 S)
set_option maxRecDepth 100000 in
theorem r_X12_partRank_274 (k_213 : Nat → Int32 → Int64 → Int32 → z_St → Option (Int64 × z_St)) (v0 : Nat) (v1 : Int32) (v8 : Int64) (v10 : Int32) (t0 : Int64) (S : z_St) : z_seg z_rL (c_X12_partRank) [9, 50, 93, 183, 213, 274] (fun pc => cond (Nat.beq pc 213) (a_X12_partRank_213 k_213) (fun _ _ _ => none)) 173 (z_to 274 (c_X12_partRank)) [(0, .ref v0), (1, .int v1), (8, .long v8), (10, .int v10)] [.long t0] S = j_X12_partRank_274 k_213 v0 v1 v8 v10 t0 S := rfl
set_option maxRecDepth 100000 in
theorem r_X12_partRank_213 (n : Nat) (v0 : Nat) (v1 : Int32) (v8 : Int64) (v10 : Int32) (S : z_St) : z_seg z_rL (c_X12_partRank) [9, 50, 93, 183, 213, 274] (fun pc => cond (Nat.beq pc 213) (a_X12_partRank_213 (l_X12_partRank_213 n)) (cond (Nat.beq pc 274) (a_X12_partRank_274 (j_X12_partRank_274 (l_X12_partRank_213 n))) (fun _ _ _ => none))) 173 (z_to 213 (c_X12_partRank)) [(0, .ref v0), (1, .int v1), (8, .long v8), (10, .int v10)] [] S = l_X12_partRank_213 (n + 1) v0 v1 v8 v10 S := rfl
set_option maxRecDepth 100000 in
theorem r_X12_partRank_183 (k_93 : Nat → Int32 → Int64 → Int64 → Int64 → Int64 → Int32 → z_St → Option (Int64 × z_St)) (v0 : Nat) (v1 : Int32) (v2 : Int64) (v4 : Int64) (v6 : Int64) (v8 : Int64) (v10 : Int32) (t0 : Int64) (S : z_St) : z_seg z_rL (c_X12_partRank) [9, 50, 93, 183, 213, 274] (fun pc => cond (Nat.beq pc 93) (a_X12_partRank_93 k_93) (fun _ _ _ => none)) 173 (z_to 183 (c_X12_partRank)) [(0, .ref v0), (1, .int v1), (2, .long v2), (4, .long v4), (6, .long v6), (8, .long v8), (10, .int v10)] [.long t0] S = j_X12_partRank_183 k_93 v0 v1 v2 v4 v6 v8 v10 t0 S := rfl
set_option maxRecDepth 100000 in
theorem r_X12_partRank_93 (n : Nat) (v0 : Nat) (v1 : Int32) (v2 : Int64) (v4 : Int64) (v6 : Int64) (v8 : Int64) (v10 : Int32) (S : z_St) : z_seg z_rL (c_X12_partRank) [9, 50, 93, 183, 213, 274] (fun pc => cond (Nat.beq pc 93) (a_X12_partRank_93 (l_X12_partRank_93 n)) (cond (Nat.beq pc 183) (a_X12_partRank_183 (j_X12_partRank_183 (l_X12_partRank_93 n))) (cond (Nat.beq pc 213) (a_X12_partRank_213 (l_X12_partRank_213 z_N)) (fun _ _ _ => none)))) 173 (z_to 93 (c_X12_partRank)) [(0, .ref v0), (1, .int v1), (2, .long v2), (4, .long v4), (6, .long v6), (8, .long v8), (10, .int v10)] [] S = l_X12_partRank_93 (n + 1) v0 v1 v2 v4 v6 v8 v10 S := rfl
set_option maxRecDepth 100000 in
theorem r_X12_partRank_50 (k_9 : Nat → Int32 → Int64 → Int64 → Int64 → Int32 → z_St → Option (Int64 × z_St)) (v0 : Nat) (v1 : Int32) (v2 : Int64) (v6 : Int64) (v8 : Int32) (t0 : Int64) (t1 : Int64) (S : z_St) : z_seg z_rL (c_X12_partRank) [9, 50, 93, 183, 213, 274] (fun pc => cond (Nat.beq pc 9) (a_X12_partRank_9 k_9) (fun _ _ _ => none)) 173 (z_to 50 (c_X12_partRank)) [(0, .ref v0), (1, .int v1), (2, .long v2), (6, .long v6), (8, .int v8)] [.long t1, .long t0] S = j_X12_partRank_50 k_9 v0 v1 v2 v6 v8 t0 t1 S := rfl
set_option maxRecDepth 100000 in
theorem r_X12_partRank_9 (n : Nat) (v0 : Nat) (v1 : Int32) (v2 : Int64) (v4 : Int64) (v6 : Int64) (v8 : Int32) (S : z_St) : z_seg z_rL (c_X12_partRank) [9, 50, 93, 183, 213, 274] (fun pc => cond (Nat.beq pc 50) (a_X12_partRank_50 (j_X12_partRank_50 (l_X12_partRank_9 n))) (cond (Nat.beq pc 93) (a_X12_partRank_93 (l_X12_partRank_93 z_N)) (fun _ _ _ => none))) 173 (z_to 9 (c_X12_partRank)) [(0, .ref v0), (1, .int v1), (2, .long v2), (4, .long v4), (6, .long v6), (8, .int v8)] [] S = l_X12_partRank_9 (n + 1) v0 v1 v2 v4 v6 v8 S := rfl
set_option maxRecDepth 100000 in
theorem r_X12_partRank (v0 : Nat) (v1 : Int32) (v2 : Int64) (S : z_St) : z_seg z_rL (c_X12_partRank) [9, 50, 93, 183, 213, 274] (fun pc => cond (Nat.beq pc 9) (a_X12_partRank_9 (l_X12_partRank_9 z_N)) (fun _ _ _ => none)) 173 (c_X12_partRank) [(0, .ref v0), (1, .int v1), (2, .long v2)] [] S = b_X12_partRank v0 v1 v2 S := rfl
def l_X12_part_25 : Nat → Nat → Int64 → Int64 → Int32 → z_St → Option (Int64 × z_St)
  | 0 => fun _ _ _ _ _ => none
  | n + 1 => fun (v0 : Nat) (v1 : Int64) (v3 : Int64) (v5 : Int32) (S : z_St) =>
if ((100 : Int32)) ≤ v5 then
(some (v1 - v3, S))
else
(z_chk S v0 13 (
(f_X12_partRank v0 v5 v3 S).bind fun q3 =>
let x4 := v5 + (1 : Int32)
l_X12_part_25 n v0 v1 q3.1 x4 q3.2))
def b_X12_part (v0 : Nat) (v1 : Int64) (S : z_St) : Option (Int64 × z_St) :=
z_chk S v0 13 (
let S1 := z_wi S v0 0 ((0 : Int32))
(f_X12_in v1 ((0 : Int64)) ((1000000000000000 : Int64)) S1).bind fun q2 =>
if q2.1 = 0 then
(some ((-2000000002 : Int64), q2.2))
else
(l_X12_part_25 z_N v0 v1 v1 ((0 : Int32)) q2.2))
def f_X12_part : Nat → Int64 → z_St → Option (Int64 × z_St) := z_op (b_X12_part)
theorem e_X12_part (v0 : Nat) (v1 : Int64) (S : z_St) : f_X12_part v0 v1 S = b_X12_part v0 v1 S := congrFun (congrFun (congrFun (z_op_eq (b_X12_part)) v0) v1) S
def g_X12_part : z_G := .inr (.inl (fun as S => match as with
  | [.ref v0, .long v1] => f_X12_part v0 v1 S
  | _ => none))
def c_X12_part : List z_E := [
  (0, .aload_n 0, 1, .null, [], z_g0),
  (1, .iconst 0, 1, .int ((0 : Int32)), [], z_g0),
  (2, .putfield 224, 3, .null, [13, 0, 0], z_g0),
  (5, .lload_n 1, 1, .null, [], z_g0),
  (6, .lconst 0, 1, .long (0 : Int64), [], z_g0),
  (7, .ldc2_w 494, 3, .long (1000000000000000 : Int64), [], z_g0),
  (10, .invokestatic 274, 3, .null, [0, 0, 0, 0], g_X12_in),
  (13, .ifCond .ne 7, 3, .null, [20], z_g0),
  (16, .ldc2_w 398, 3, .long (-2000000002 : Int64), [], z_g0),
  (19, .lreturn, 1, .null, [], z_g0),
  (20, .lload_n 1, 1, .null, [], z_g0),
  (21, .lstore_n 3, 1, .null, [], z_g0),
  (22, .iconst 0, 1, .int ((0 : Int32)), [], z_g0),
  (23, .istore 5, 2, .null, [], z_g0),
  (25, .iload 5, 2, .null, [], z_g0),
  (27, .bipush 100, 2, .int ((100 : Int32)), [], z_g0),
  (29, .if_icmp .ge 17, 3, .null, [46], z_g0),
  (32, .aload_n 0, 1, .null, [], z_g0),
  (33, .iload 5, 2, .null, [], z_g0),
  (35, .lload_n 3, 1, .null, [], z_g0),
  (36, .invokevirtual 622, 3, .null, [1, 13, 0, 0], g_X12_partRank),
  (39, .lstore_n 3, 1, .null, [], z_g0),
  (40, .iinc 5 1, 3, .int (1 : Int32), [], z_g0),
  (43, .goto (-18), 3, .null, [25], z_g0),
  (46, .lload_n 1, 1, .null, [], z_g0),
  (47, .lload_n 3, 1, .null, [], z_g0),
  (48, .lsub, 1, .null, [], z_g0),
  (49, .lreturn, 1, .null, [], z_g0)]
def a_X12_part_25 {ρ : Type} (k : Nat → Int64 → Int64 → Int32 → z_St → Option ρ) (ls : z_Lv) (st : List Value) (S : z_St) : Option ρ := z_gR ls 0 fun v0 => z_gJ ls 1 fun v1 => z_gJ ls 3 fun v3 => z_gI ls 5 fun v5 => z_p0 st (k v0 v1 v3 v5 S)
set_option maxRecDepth 100000 in
theorem r_X12_part_25 (n : Nat) (v0 : Nat) (v1 : Int64) (v3 : Int64) (v5 : Int32) (S : z_St) : z_seg z_rL (c_X12_part) [25] (fun pc => cond (Nat.beq pc 25) (a_X12_part_25 (l_X12_part_25 n)) (fun _ _ _ => none)) 31 (z_to 25 (c_X12_part)) [(0, .ref v0), (1, .long v1), (3, .long v3), (5, .int v5)] [] S = l_X12_part_25 (n + 1) v0 v1 v3 v5 S := rfl
set_option maxRecDepth 100000 in
theorem r_X12_part (v0 : Nat) (v1 : Int64) (S : z_St) : z_seg z_rL (c_X12_part) [25] (fun pc => cond (Nat.beq pc 25) (a_X12_part_25 (l_X12_part_25 z_N)) (fun _ _ _ => none)) 31 (c_X12_part) [(0, .ref v0), (1, .long v1)] [] S = b_X12_part v0 v1 S := rfl
def b_X12_has_ (v0 : Nat) (v1 : Int32) (S : z_St) : Option (Int64 × z_St) :=
z_chk S v0 13 (
let S1 := z_wi S v0 0 ((0 : Int32))
z_chk S1 v0 13 (
(f_X12_in v1.toInt64 ((0 : Int64)) ((((z_i S1 v0 87)) - ((1 : Int32))).toInt64) S1).bind fun q2 =>
if q2.1 = 0 then
(some ((-2000000001 : Int64), q2.2))
else
(z_chk q2.2 v0 13 (
z_onV (va_rf (z_r q2.2 v0 91)) fun b3 =>
z_inb q2.2 b3 102 v1 (
some ((z_l q2.2 b3 v1.toNatClampNeg), q2.2))))))
def f_X12_has_ : Nat → Int32 → z_St → Option (Int64 × z_St) := z_op (b_X12_has_)
theorem e_X12_has_ (v0 : Nat) (v1 : Int32) (S : z_St) : f_X12_has_ v0 v1 S = b_X12_has_ v0 v1 S := congrFun (congrFun (congrFun (z_op_eq (b_X12_has_)) v0) v1) S
def g_X12_has_ : z_G := .inr (.inl (fun as S => match as with
  | [.ref v0, .int v1] => f_X12_has_ v0 v1 S
  | _ => none))
def c_X12_has_ : List z_E := [
  (0, .aload_n 0, 1, .null, [], z_g0),
  (1, .iconst 0, 1, .int ((0 : Int32)), [], z_g0),
  (2, .putfield 224, 3, .null, [13, 0, 0], z_g0),
  (5, .iload_n 1, 1, .null, [], z_g0),
  (6, .i2l, 1, .null, [], z_g0),
  (7, .lconst 0, 1, .long (0 : Int64), [], z_g0),
  (8, .aload_n 0, 1, .null, [], z_g0),
  (9, .getfield 608, 3, .null, [13, 87, 0], z_g0),
  (12, .iconst 1, 1, .int ((1 : Int32)), [], z_g0),
  (13, .isub, 1, .null, [], z_g0),
  (14, .i2l, 1, .null, [], z_g0),
  (15, .invokestatic 274, 3, .null, [0, 0, 0, 0], g_X12_in),
  (18, .ifCond .eq 12, 3, .null, [30], z_g0),
  (21, .aload_n 0, 1, .null, [], z_g0),
  (22, .getfield 202, 3, .null, [13, 91, 3], z_g0),
  (25, .iload_n 1, 1, .null, [], z_g0),
  (26, .laload, 1, .null, [], z_g0),
  (27, .goto 6, 3, .null, [33], z_g0),
  (30, .ldc2_w 319, 3, .long (-2000000001 : Int64), [], z_g0),
  (33, .lreturn, 1, .null, [], z_g0)]
set_option maxRecDepth 100000 in
theorem r_X12_has_ (v0 : Nat) (v1 : Int32) (S : z_St) : z_seg z_rL (c_X12_has_) [] (fun pc => fun _ _ _ => none) 23 (c_X12_has_) [(0, .ref v0), (1, .int v1)] [] S = b_X12_has_ v0 v1 S := rfl
def l_X12_close_9 : Nat → Nat → Int64 → Int32 → z_St → Option (Int64 × z_St)
  | 0 => fun _ _ _ _ => none
  | n + 1 => fun (v0 : Nat) (v1 : Int64) (v3 : Int32) (S : z_St) =>
z_chk S v0 13 (
if ((z_i S v0 87)) ≤ v3 then
(some (v1, S))
else
(z_chk S v0 13 (
z_onV (va_rf (z_r S v0 91)) fun b2 =>
z_inb S b2 102 v3 (
let x3 := v1 + ((z_l S b2 v3.toNatClampNeg))
z_chk S v0 13 (
z_onV (va_rf (z_r S v0 91)) fun b4 =>
z_inb S b4 102 v3 (
let S5 := z_wl S b4 v3.toNatClampNeg ((0 : Int64))
let x6 := v3 + (1 : Int32)
l_X12_close_9 n v0 x3 x6 S5))))))
def b_X12_close (v0 : Nat) (S : z_St) : Option (Int64 × z_St) :=
z_chk S v0 13 (
let S1 := z_wi S v0 0 ((0 : Int32))
l_X12_close_9 z_N v0 ((0 : Int64)) ((0 : Int32)) S1)
def f_X12_close : Nat → z_St → Option (Int64 × z_St) := z_op (b_X12_close)
theorem e_X12_close (v0 : Nat) (S : z_St) : f_X12_close v0 S = b_X12_close v0 S := congrFun (congrFun (z_op_eq (b_X12_close)) v0) S
def g_X12_close : z_G := .inr (.inl (fun as S => match as with
  | [.ref v0] => f_X12_close v0 S
  | _ => none))
def c_X12_close : List z_E := [
  (0, .aload_n 0, 1, .null, [], z_g0),
  (1, .iconst 0, 1, .int ((0 : Int32)), [], z_g0),
  (2, .putfield 224, 3, .null, [13, 0, 0], z_g0),
  (5, .lconst 0, 1, .long (0 : Int64), [], z_g0),
  (6, .lstore_n 1, 1, .null, [], z_g0),
  (7, .iconst 0, 1, .int ((0 : Int32)), [], z_g0),
  (8, .istore_n 3, 1, .null, [], z_g0),
  (9, .iload_n 3, 1, .null, [], z_g0),
  (10, .aload_n 0, 1, .null, [], z_g0),
  (11, .getfield 608, 3, .null, [13, 87, 0], z_g0),
  (14, .if_icmp .ge 25, 3, .null, [39], z_g0),
  (17, .lload_n 1, 1, .null, [], z_g0),
  (18, .aload_n 0, 1, .null, [], z_g0),
  (19, .getfield 202, 3, .null, [13, 91, 3], z_g0),
  (22, .iload_n 3, 1, .null, [], z_g0),
  (23, .laload, 1, .null, [], z_g0),
  (24, .ladd, 1, .null, [], z_g0),
  (25, .lstore_n 1, 1, .null, [], z_g0),
  (26, .aload_n 0, 1, .null, [], z_g0),
  (27, .getfield 202, 3, .null, [13, 91, 3], z_g0),
  (30, .iload_n 3, 1, .null, [], z_g0),
  (31, .lconst 0, 1, .long (0 : Int64), [], z_g0),
  (32, .lastore, 1, .null, [], z_g0),
  (33, .iinc 3 1, 3, .int (1 : Int32), [], z_g0),
  (36, .goto (-27), 3, .null, [9], z_g0),
  (39, .lload_n 1, 1, .null, [], z_g0),
  (40, .lreturn, 1, .null, [], z_g0)]
def a_X12_close_9 {ρ : Type} (k : Nat → Int64 → Int32 → z_St → Option ρ) (ls : z_Lv) (st : List Value) (S : z_St) : Option ρ := z_gR ls 0 fun v0 => z_gJ ls 1 fun v1 => z_gI ls 3 fun v3 => z_p0 st (k v0 v1 v3 S)
set_option maxRecDepth 100000 in
theorem r_X12_close_9 (n : Nat) (v0 : Nat) (v1 : Int64) (v3 : Int32) (S : z_St) : z_seg z_rL (c_X12_close) [9] (fun pc => cond (Nat.beq pc 9) (a_X12_close_9 (l_X12_close_9 n)) (fun _ _ _ => none)) 30 (z_to 9 (c_X12_close)) [(0, .ref v0), (1, .long v1), (3, .int v3)] [] S = l_X12_close_9 (n + 1) v0 v1 v3 S := rfl
set_option maxRecDepth 100000 in
theorem r_X12_close (v0 : Nat) (S : z_St) : z_seg z_rL (c_X12_close) [9] (fun pc => cond (Nat.beq pc 9) (a_X12_close_9 (l_X12_close_9 z_N)) (fun _ _ _ => none)) 30 (c_X12_close) [(0, .ref v0)] [] S = b_X12_close v0 S := rfl
def b_X12_hours (v0 : Nat) (v1 : Int32) (S : z_St) : Option (Int32 × z_St) :=
z_chk S v0 13 (
let S1 := z_wi S v0 0 ((0 : Int32))
(f_X12_in v1.toInt64 ((1 : Int64)) ((12 : Int64)) S1).bind fun q2 =>
if q2.1 = 0 then
(some ((-2000000002 : Int32), q2.2))
else
(z_chk q2.2 v0 13 (
let x3 := (z_i q2.2 v0 92)
z_chk q2.2 v0 13 (
let S4 := z_wi q2.2 v0 92 v1
some (x3, S4)))))
def f_X12_hours : Nat → Int32 → z_St → Option (Int32 × z_St) := z_op (b_X12_hours)
theorem e_X12_hours (v0 : Nat) (v1 : Int32) (S : z_St) : f_X12_hours v0 v1 S = b_X12_hours v0 v1 S := congrFun (congrFun (congrFun (z_op_eq (b_X12_hours)) v0) v1) S
def g_X12_hours : z_G := .inl (fun as S => match as with
  | [.ref v0, .int v1] => f_X12_hours v0 v1 S
  | _ => none)
def c_X12_hours : List z_E := [
  (0, .aload_n 0, 1, .null, [], z_g0),
  (1, .iconst 0, 1, .int ((0 : Int32)), [], z_g0),
  (2, .putfield 224, 3, .null, [13, 0, 0], z_g0),
  (5, .iload_n 1, 1, .null, [], z_g0),
  (6, .i2l, 1, .null, [], z_g0),
  (7, .lconst 1, 1, .long (1 : Int64), [], z_g0),
  (8, .ldc2_w 625, 3, .long (12 : Int64), [], z_g0),
  (11, .invokestatic 274, 3, .null, [0, 0, 0, 0], g_X12_in),
  (14, .ifCond .ne 7, 3, .null, [21], z_g0),
  (17, .ldc_w 280, 3, .int (-2000000002 : Int32), [], z_g0),
  (20, .ireturn, 1, .null, [], z_g0),
  (21, .aload_n 0, 1, .null, [], z_g0),
  (22, .getfield 205, 3, .null, [13, 92, 0], z_g0),
  (25, .istore_n 2, 1, .null, [], z_g0),
  (26, .aload_n 0, 1, .null, [], z_g0),
  (27, .iload_n 1, 1, .null, [], z_g0),
  (28, .putfield 205, 3, .null, [13, 92, 0], z_g0),
  (31, .iload_n 2, 1, .null, [], z_g0),
  (32, .ireturn, 1, .null, [], z_g0)]
set_option maxRecDepth 100000 in
theorem r_X12_hours (v0 : Nat) (v1 : Int32) (S : z_St) : z_seg z_rI (c_X12_hours) [] (fun pc => fun _ _ _ => none) 22 (c_X12_hours) [(0, .ref v0), (1, .int v1)] [] S = b_X12_hours v0 v1 S := rfl
def b_X12_isFlow (v0 : UInt64) (S : z_St) : Option (Int32 × z_St) :=
if (Op.cmpValue (FP.dcmp v0 FP.dconst0) .l) < 0 then
(z_rb ((0 : Int32)) S)
else
(if 0 < (Op.cmpValue (FP.dcmp v0 ((4696837146684686336 : UInt64))) .g) then
(z_rb ((0 : Int32)) S)
else
(z_rb ((1 : Int32)) S))
def f_X12_isFlow : UInt64 → z_St → Option (Int32 × z_St) := z_op (b_X12_isFlow)
theorem e_X12_isFlow (v0 : UInt64) (S : z_St) : f_X12_isFlow v0 S = b_X12_isFlow v0 S := congrFun (congrFun (z_op_eq (b_X12_isFlow)) v0) S
def g_X12_isFlow : z_G := .inl (fun as S => match as with
  | [.double v0] => f_X12_isFlow v0 S
  | _ => none)
def c_X12_isFlow : List z_E := [
  (0, .dload_n 0, 1, .null, [], z_g0),
  (1, .dconst 0, 1, .double FP.dconst0, [], z_g0),
  (2, .dcmp .l, 1, .null, [], z_g0),
  (3, .ifCond .lt 15, 3, .null, [18], z_g0),
  (6, .dload_n 0, 1, .null, [], z_g0),
  (7, .ldc2_w 578, 3, .double (4696837146684686336 : UInt64), [], z_g0),
  (10, .dcmp .g, 1, .null, [], z_g0),
  (11, .ifCond .gt 7, 3, .null, [18], z_g0),
  (14, .iconst 1, 1, .int ((1 : Int32)), [], z_g0),
  (15, .goto 4, 3, .null, [19], z_g0),
  (18, .iconst 0, 1, .int ((0 : Int32)), [], z_g0),
  (19, .ireturn, 1, .null, [], z_g0)]
set_option maxRecDepth 100000 in
theorem r_X12_isFlow (v0 : UInt64) (S : z_St) : z_seg z_rZ (c_X12_isFlow) [] (fun pc => fun _ _ _ => none) 15 (c_X12_isFlow) [(0, .double v0)] [] S = b_X12_isFlow v0 S := rfl
def j_X12_ahead_82 (v0 : Nat) (v1 : Int32) (v2 : Int32) (v5 : UInt64) (t0 : Nat) (t1 : Int32) (t2 : Int32) (S : z_St) : Option (Int32 × z_St) :=
z_inb S t0 104 t1 (
let S8 := z_wi S t0 t1.toNatClampNeg (vp_nar .boolean t2)
z_chk S8 v0 13 (
z_onV (va_rf (z_r S8 v0 94)) fun b9 =>
z_inb S8 b9 103 ((((12 : Int32)) * v1) + v2) (
let S10 := z_wd S8 b9 ((((12 : Int32)) * v1) + v2).toNatClampNeg v5
some ((1 : Int32), S10))))
def j_X12_ahead_59 (v0 : Nat) (v1 : Int32) (v2 : Int32) (v5 : UInt64) (S : z_St) : Option (Int32 × z_St) :=
z_chk S v0 13 (
if (Op.cmpValue (FP.dcmp v5 v5) .l) = 0 then
(z_onV (va_rf (z_r S v0 93)) fun b7 =>
j_X12_ahead_82 v0 v1 v2 v5 b7 ((((12 : Int32)) * v1) + v2) ((1 : Int32)) S)
else
(z_onV (va_rf (z_r S v0 93)) fun b6 =>
j_X12_ahead_82 v0 v1 v2 v5 b6 ((((12 : Int32)) * v1) + v2) ((0 : Int32)) S))
def b_X12_ahead (v0 : Nat) (v1 : Int32) (v2 : Int32) (v3 : Int64) (S : z_St) : Option (Int32 × z_St) :=
z_chk S v0 13 (
let S1 := z_wi S v0 0 ((0 : Int32))
(f_X12_in v1.toInt64 ((0 : Int64)) ((5 : Int64)) S1).bind fun q2 =>
if q2.1 = 0 then
(some ((-2000000001 : Int32), q2.2))
else
((f_X12_realOf v3 q2.2).bind fun q3 =>
(f_X12_in v2.toInt64 ((0 : Int64)) ((11 : Int64)) q3.2).bind fun q4 =>
if q4.1 = 0 then
(some ((-2000000002 : Int32), q4.2))
else
(if (Op.cmpValue (FP.dcmp q3.1 q3.1) .l) = 0 then
((f_X12_isFlow q3.1 q4.2).bind fun q5 =>
if q5.1 = 0 then
(some ((-2000000002 : Int32), q5.2))
else
(j_X12_ahead_59 v0 v1 v2 q3.1 q5.2))
else
(j_X12_ahead_59 v0 v1 v2 q3.1 q4.2))))
def f_X12_ahead : Nat → Int32 → Int32 → Int64 → z_St → Option (Int32 × z_St) := z_op (b_X12_ahead)
theorem e_X12_ahead (v0 : Nat) (v1 : Int32) (v2 : Int32) (v3 : Int64) (S : z_St) : f_X12_ahead v0 v1 v2 v3 S = b_X12_ahead v0 v1 v2 v3 S := congrFun (congrFun (congrFun (congrFun (congrFun (z_op_eq (b_X12_ahead)) v0) v1) v2) v3) S
def g_X12_ahead : z_G := .inl (fun as S => match as with
  | [.ref v0, .int v1, .int v2, .long v3] => f_X12_ahead v0 v1 v2 v3 S
  | _ => none)
def c_X12_ahead : List z_E := [
  (0, .aload_n 0, 1, .null, [], z_g0),
  (1, .iconst 0, 1, .int ((0 : Int32)), [], z_g0),
  (2, .putfield 224, 3, .null, [13, 0, 0], z_g0),
  (5, .iload_n 1, 1, .null, [], z_g0),
  (6, .i2l, 1, .null, [], z_g0),
  (7, .lconst 0, 1, .long (0 : Int64), [], z_g0),
  (8, .ldc2_w 334, 3, .long (5 : Int64), [], z_g0),
  (11, .invokestatic 274, 3, .null, [0, 0, 0, 0], g_X12_in),
  (14, .ifCond .ne 7, 3, .null, [21], z_g0),
  (17, .ldc_w 296, 3, .int (-2000000001 : Int32), [], z_g0),
  (20, .ireturn, 1, .null, [], z_g0),
  (21, .lload_n 3, 1, .null, [], z_g0),
  (22, .invokestatic 262, 3, .null, [0, 0], g_X12_realOf),
  (25, .dstore 5, 2, .null, [], z_g0),
  (27, .iload_n 2, 1, .null, [], z_g0),
  (28, .i2l, 1, .null, [], z_g0),
  (29, .lconst 0, 1, .long (0 : Int64), [], z_g0),
  (30, .ldc2_w 425, 3, .long (11 : Int64), [], z_g0),
  (33, .invokestatic 274, 3, .null, [0, 0, 0, 0], g_X12_in),
  (36, .ifCond .eq 19, 3, .null, [55], z_g0),
  (39, .dload 5, 2, .null, [], z_g0),
  (41, .dload 5, 2, .null, [], z_g0),
  (43, .dcmp .l, 1, .null, [], z_g0),
  (44, .ifCond .ne 15, 3, .null, [59], z_g0),
  (47, .dload 5, 2, .null, [], z_g0),
  (49, .invokestatic 627, 3, .null, [0, 0], g_X12_isFlow),
  (52, .ifCond .ne 7, 3, .null, [59], z_g0),
  (55, .ldc_w 280, 3, .int (-2000000002 : Int32), [], z_g0),
  (58, .ireturn, 1, .null, [], z_g0),
  (59, .aload_n 0, 1, .null, [], z_g0),
  (60, .getfield 209, 3, .null, [13, 93, 3], z_g0),
  (63, .bipush 12, 2, .int ((12 : Int32)), [], z_g0),
  (65, .iload_n 1, 1, .null, [], z_g0),
  (66, .imul, 1, .null, [], z_g0),
  (67, .iload_n 2, 1, .null, [], z_g0),
  (68, .iadd, 1, .null, [], z_g0),
  (69, .dload 5, 2, .null, [], z_g0),
  (71, .dload 5, 2, .null, [], z_g0),
  (73, .dcmp .l, 1, .null, [], z_g0),
  (74, .ifCond .ne 7, 3, .null, [81], z_g0),
  (77, .iconst 1, 1, .int ((1 : Int32)), [], z_g0),
  (78, .goto 4, 3, .null, [82], z_g0),
  (81, .iconst 0, 1, .int ((0 : Int32)), [], z_g0),
  (82, .bastore, 1, .null, [104], z_g0),
  (83, .aload_n 0, 1, .null, [], z_g0),
  (84, .getfield 212, 3, .null, [13, 94, 3], z_g0),
  (87, .bipush 12, 2, .int ((12 : Int32)), [], z_g0),
  (89, .iload_n 1, 1, .null, [], z_g0),
  (90, .imul, 1, .null, [], z_g0),
  (91, .iload_n 2, 1, .null, [], z_g0),
  (92, .iadd, 1, .null, [], z_g0),
  (93, .dload 5, 2, .null, [], z_g0),
  (95, .dastore, 1, .null, [], z_g0),
  (96, .iconst 1, 1, .int ((1 : Int32)), [], z_g0),
  (97, .ireturn, 1, .null, [], z_g0)]
def a_X12_ahead_59 {ρ : Type} (k : Nat → Int32 → Int32 → UInt64 → z_St → Option ρ) (ls : z_Lv) (st : List Value) (S : z_St) : Option ρ := z_gR ls 0 fun v0 => z_gI ls 1 fun v1 => z_gI ls 2 fun v2 => z_gD ls 5 fun v5 => z_p0 st (k v0 v1 v2 v5 S)
def a_X12_ahead_82 {ρ : Type} (k : Nat → Int32 → Int32 → UInt64 → Nat → Int32 → Int32 → z_St → Option ρ) (ls : z_Lv) (st : List Value) (S : z_St) : Option ρ := z_gR ls 0 fun v0 => z_gI ls 1 fun v1 => z_gI ls 2 fun v2 => z_gD ls 5 fun v5 => z_pI st fun t2 s2 => z_pI s2 fun t1 s1 => z_pR s1 fun t0 s0 => z_p0 s0 (k v0 v1 v2 v5 t0 t1 t2 S)
set_option maxRecDepth 100000 in
theorem r_X12_ahead_82 (v0 : Nat) (v1 : Int32) (v2 : Int32) (v5 : UInt64) (t0 : Nat) (t1 : Int32) (t2 : Int32) (S : z_St) : z_seg z_rI (c_X12_ahead) [59, 82] (fun pc => fun _ _ _ => none) 58 (z_to 82 (c_X12_ahead)) [(0, .ref v0), (1, .int v1), (2, .int v2), (5, .double v5)] [.int t2, .int t1, .ref t0] S = j_X12_ahead_82 v0 v1 v2 v5 t0 t1 t2 S := rfl
set_option maxRecDepth 100000 in
theorem r_X12_ahead_59 (v0 : Nat) (v1 : Int32) (v2 : Int32) (v5 : UInt64) (S : z_St) : z_seg z_rI (c_X12_ahead) [59, 82] (fun pc => cond (Nat.beq pc 82) (a_X12_ahead_82 (j_X12_ahead_82)) (fun _ _ _ => none)) 58 (z_to 59 (c_X12_ahead)) [(0, .ref v0), (1, .int v1), (2, .int v2), (5, .double v5)] [] S = j_X12_ahead_59 v0 v1 v2 v5 S := rfl
set_option maxRecDepth 100000 in
theorem r_X12_ahead (v0 : Nat) (v1 : Int32) (v2 : Int32) (v3 : Int64) (S : z_St) : z_seg z_rI (c_X12_ahead) [59, 82] (fun pc => cond (Nat.beq pc 59) (a_X12_ahead_59 (j_X12_ahead_59)) (fun _ _ _ => none)) 58 (c_X12_ahead) [(0, .ref v0), (1, .int v1), (2, .int v2), (3, .long v3)] [] S = b_X12_ahead v0 v1 v2 v3 S := rfl
def j_X12_release_65 (v0 : Nat) (v1 : Int32) (v4 : UInt64) (t0 : Nat) (t1 : Int32) (t2 : Int32) (S : z_St) : Option (Int32 × z_St) :=
z_inb S t0 104 t1 (
let S7 := z_wi S t0 t1.toNatClampNeg (vp_nar .boolean t2)
z_chk S7 v0 13 (
z_onV (va_rf (z_r S7 v0 96)) fun b8 =>
z_inb S7 b8 103 v1 (
let S9 := z_wd S7 b8 v1.toNatClampNeg v4
some ((1 : Int32), S9))))
def j_X12_release_47 (v0 : Nat) (v1 : Int32) (v4 : UInt64) (S : z_St) : Option (Int32 × z_St) :=
z_chk S v0 13 (
if (Op.cmpValue (FP.dcmp v4 v4) .l) = 0 then
(z_onV (va_rf (z_r S v0 95)) fun b6 =>
j_X12_release_65 v0 v1 v4 b6 v1 ((1 : Int32)) S)
else
(z_onV (va_rf (z_r S v0 95)) fun b5 =>
j_X12_release_65 v0 v1 v4 b5 v1 ((0 : Int32)) S))
def b_X12_release (v0 : Nat) (v1 : Int32) (v2 : Int64) (S : z_St) : Option (Int32 × z_St) :=
z_chk S v0 13 (
let S1 := z_wi S v0 0 ((0 : Int32))
(f_X12_in v1.toInt64 ((0 : Int64)) ((7 : Int64)) S1).bind fun q2 =>
if q2.1 = 0 then
(some ((-2000000001 : Int32), q2.2))
else
((f_X12_realOf v2 q2.2).bind fun q3 =>
if (Op.cmpValue (FP.dcmp q3.1 q3.1) .l) = 0 then
((f_X12_isFlow q3.1 q3.2).bind fun q4 =>
if q4.1 = 0 then
(some ((-2000000002 : Int32), q4.2))
else
(j_X12_release_47 v0 v1 q3.1 q4.2))
else
(j_X12_release_47 v0 v1 q3.1 q3.2)))
def f_X12_release : Nat → Int32 → Int64 → z_St → Option (Int32 × z_St) := z_op (b_X12_release)
theorem e_X12_release (v0 : Nat) (v1 : Int32) (v2 : Int64) (S : z_St) : f_X12_release v0 v1 v2 S = b_X12_release v0 v1 v2 S := congrFun (congrFun (congrFun (congrFun (z_op_eq (b_X12_release)) v0) v1) v2) S
def g_X12_release : z_G := .inl (fun as S => match as with
  | [.ref v0, .int v1, .long v2] => f_X12_release v0 v1 v2 S
  | _ => none)
def c_X12_release : List z_E := [
  (0, .aload_n 0, 1, .null, [], z_g0),
  (1, .iconst 0, 1, .int ((0 : Int32)), [], z_g0),
  (2, .putfield 224, 3, .null, [13, 0, 0], z_g0),
  (5, .iload_n 1, 1, .null, [], z_g0),
  (6, .i2l, 1, .null, [], z_g0),
  (7, .lconst 0, 1, .long (0 : Int64), [], z_g0),
  (8, .ldc2_w 278, 3, .long (7 : Int64), [], z_g0),
  (11, .invokestatic 274, 3, .null, [0, 0, 0, 0], g_X12_in),
  (14, .ifCond .ne 7, 3, .null, [21], z_g0),
  (17, .ldc_w 296, 3, .int (-2000000001 : Int32), [], z_g0),
  (20, .ireturn, 1, .null, [], z_g0),
  (21, .lload_n 2, 1, .null, [], z_g0),
  (22, .invokestatic 262, 3, .null, [0, 0], g_X12_realOf),
  (25, .dstore 4, 2, .null, [], z_g0),
  (27, .dload 4, 2, .null, [], z_g0),
  (29, .dload 4, 2, .null, [], z_g0),
  (31, .dcmp .l, 1, .null, [], z_g0),
  (32, .ifCond .ne 15, 3, .null, [47], z_g0),
  (35, .dload 4, 2, .null, [], z_g0),
  (37, .invokestatic 627, 3, .null, [0, 0], g_X12_isFlow),
  (40, .ifCond .ne 7, 3, .null, [47], z_g0),
  (43, .ldc_w 280, 3, .int (-2000000002 : Int32), [], z_g0),
  (46, .ireturn, 1, .null, [], z_g0),
  (47, .aload_n 0, 1, .null, [], z_g0),
  (48, .getfield 215, 3, .null, [13, 95, 3], z_g0),
  (51, .iload_n 1, 1, .null, [], z_g0),
  (52, .dload 4, 2, .null, [], z_g0),
  (54, .dload 4, 2, .null, [], z_g0),
  (56, .dcmp .l, 1, .null, [], z_g0),
  (57, .ifCond .ne 7, 3, .null, [64], z_g0),
  (60, .iconst 1, 1, .int ((1 : Int32)), [], z_g0),
  (61, .goto 4, 3, .null, [65], z_g0),
  (64, .iconst 0, 1, .int ((0 : Int32)), [], z_g0),
  (65, .bastore, 1, .null, [104], z_g0),
  (66, .aload_n 0, 1, .null, [], z_g0),
  (67, .getfield 218, 3, .null, [13, 96, 3], z_g0),
  (70, .iload_n 1, 1, .null, [], z_g0),
  (71, .dload 4, 2, .null, [], z_g0),
  (73, .dastore, 1, .null, [], z_g0),
  (74, .iconst 1, 1, .int ((1 : Int32)), [], z_g0),
  (75, .ireturn, 1, .null, [], z_g0)]
def a_X12_release_47 {ρ : Type} (k : Nat → Int32 → UInt64 → z_St → Option ρ) (ls : z_Lv) (st : List Value) (S : z_St) : Option ρ := z_gR ls 0 fun v0 => z_gI ls 1 fun v1 => z_gD ls 4 fun v4 => z_p0 st (k v0 v1 v4 S)
def a_X12_release_65 {ρ : Type} (k : Nat → Int32 → UInt64 → Nat → Int32 → Int32 → z_St → Option ρ) (ls : z_Lv) (st : List Value) (S : z_St) : Option ρ := z_gR ls 0 fun v0 => z_gI ls 1 fun v1 => z_gD ls 4 fun v4 => z_pI st fun t2 s2 => z_pI s2 fun t1 s1 => z_pR s1 fun t0 s0 => z_p0 s0 (k v0 v1 v4 t0 t1 t2 S)
set_option maxRecDepth 100000 in
theorem r_X12_release_65 (v0 : Nat) (v1 : Int32) (v4 : UInt64) (t0 : Nat) (t1 : Int32) (t2 : Int32) (S : z_St) : z_seg z_rI (c_X12_release) [47, 65] (fun pc => fun _ _ _ => none) 44 (z_to 65 (c_X12_release)) [(0, .ref v0), (1, .int v1), (4, .double v4)] [.int t2, .int t1, .ref t0] S = j_X12_release_65 v0 v1 v4 t0 t1 t2 S := rfl
set_option maxRecDepth 100000 in
theorem r_X12_release_47 (v0 : Nat) (v1 : Int32) (v4 : UInt64) (S : z_St) : z_seg z_rI (c_X12_release) [47, 65] (fun pc => cond (Nat.beq pc 65) (a_X12_release_65 (j_X12_release_65)) (fun _ _ _ => none)) 44 (z_to 47 (c_X12_release)) [(0, .ref v0), (1, .int v1), (4, .double v4)] [] S = j_X12_release_47 v0 v1 v4 S := rfl
set_option maxRecDepth 100000 in
theorem r_X12_release (v0 : Nat) (v1 : Int32) (v2 : Int64) (S : z_St) : z_seg z_rI (c_X12_release) [47, 65] (fun pc => cond (Nat.beq pc 47) (a_X12_release_47 (j_X12_release_47)) (fun _ _ _ => none)) 44 (c_X12_release) [(0, .ref v0), (1, .int v1), (2, .long v2)] [] S = b_X12_release v0 v1 v2 S := rfl
def l_X12_lacks_4 : Nat → Nat → Int32 → Int32 → Int32 → z_St → Option (Int32 × z_St)
  | 0 => fun _ _ _ _ _ => none
  | n + 1 => fun (v0 : Nat) (v1 : Int32) (v2 : Int32) (v3 : Int32) (S : z_St) =>
z_chk S v0 13 (
if ((z_i S v0 92)) ≤ v3 then
(z_rb v2 S)
else
(if v2 = 0 then
(z_chk S v0 13 (
z_onV (va_rf (z_r S v0 93)) fun b2 =>
z_inb S b2 104 ((((12 : Int32)) * v1) + v3) (
if ((z_i S b2 ((((12 : Int32)) * v1) + v3).toNatClampNeg)) = 0 then
(let x4 := v3 + (1 : Int32)
l_X12_lacks_4 n v0 v1 ((1 : Int32)) x4 S)
else
(let x3 := v3 + (1 : Int32)
l_X12_lacks_4 n v0 v1 ((0 : Int32)) x3 S))))
else
(let x1 := v3 + (1 : Int32)
l_X12_lacks_4 n v0 v1 ((1 : Int32)) x1 S)))
def b_X12_lacks (v0 : Nat) (v1 : Int32) (S : z_St) : Option (Int32 × z_St) :=
l_X12_lacks_4 z_N v0 v1 ((0 : Int32)) ((0 : Int32)) S
def f_X12_lacks : Nat → Int32 → z_St → Option (Int32 × z_St) := z_op (b_X12_lacks)
theorem e_X12_lacks (v0 : Nat) (v1 : Int32) (S : z_St) : f_X12_lacks v0 v1 S = b_X12_lacks v0 v1 S := congrFun (congrFun (congrFun (z_op_eq (b_X12_lacks)) v0) v1) S
def g_X12_lacks : z_G := .inl (fun as S => match as with
  | [.ref v0, .int v1] => f_X12_lacks v0 v1 S
  | _ => none)
def c_X12_lacks : List z_E := [
  (0, .iconst 0, 1, .int ((0 : Int32)), [], z_g0),
  (1, .istore_n 2, 1, .null, [], z_g0),
  (2, .iconst 0, 1, .int ((0 : Int32)), [], z_g0),
  (3, .istore_n 3, 1, .null, [], z_g0),
  (4, .iload_n 3, 1, .null, [], z_g0),
  (5, .aload_n 0, 1, .null, [], z_g0),
  (6, .getfield 205, 3, .null, [13, 92, 0], z_g0),
  (9, .if_icmp .ge 33, 3, .null, [42], z_g0),
  (12, .iload_n 2, 1, .null, [], z_g0),
  (13, .ifCond .ne 17, 3, .null, [30], z_g0),
  (16, .aload_n 0, 1, .null, [], z_g0),
  (17, .getfield 209, 3, .null, [13, 93, 3], z_g0),
  (20, .bipush 12, 2, .int ((12 : Int32)), [], z_g0),
  (22, .iload_n 1, 1, .null, [], z_g0),
  (23, .imul, 1, .null, [], z_g0),
  (24, .iload_n 3, 1, .null, [], z_g0),
  (25, .iadd, 1, .null, [], z_g0),
  (26, .baload, 1, .null, [104], z_g0),
  (27, .ifCond .ne 7, 3, .null, [34], z_g0),
  (30, .iconst 1, 1, .int ((1 : Int32)), [], z_g0),
  (31, .goto 4, 3, .null, [35], z_g0),
  (34, .iconst 0, 1, .int ((0 : Int32)), [], z_g0),
  (35, .istore_n 2, 1, .null, [], z_g0),
  (36, .iinc 3 1, 3, .int (1 : Int32), [], z_g0),
  (39, .goto (-35), 3, .null, [4], z_g0),
  (42, .iload_n 2, 1, .null, [], z_g0),
  (43, .ireturn, 1, .null, [], z_g0)]
def a_X12_lacks_4 {ρ : Type} (k : Nat → Int32 → Int32 → Int32 → z_St → Option ρ) (ls : z_Lv) (st : List Value) (S : z_St) : Option ρ := z_gR ls 0 fun v0 => z_gI ls 1 fun v1 => z_gI ls 2 fun v2 => z_gI ls 3 fun v3 => z_p0 st (k v0 v1 v2 v3 S)
set_option maxRecDepth 100000 in
theorem r_X12_lacks_4 (n : Nat) (v0 : Nat) (v1 : Int32) (v2 : Int32) (v3 : Int32) (S : z_St) : z_seg z_rZ (c_X12_lacks) [4] (fun pc => cond (Nat.beq pc 4) (a_X12_lacks_4 (l_X12_lacks_4 n)) (fun _ _ _ => none)) 30 (z_to 4 (c_X12_lacks)) [(0, .ref v0), (1, .int v1), (2, .int v2), (3, .int v3)] [] S = l_X12_lacks_4 (n + 1) v0 v1 v2 v3 S := rfl
set_option maxRecDepth 100000 in
theorem r_X12_lacks (v0 : Nat) (v1 : Int32) (S : z_St) : z_seg z_rZ (c_X12_lacks) [4] (fun pc => cond (Nat.beq pc 4) (a_X12_lacks_4 (l_X12_lacks_4 z_N)) (fun _ _ _ => none)) 30 (c_X12_lacks) [(0, .ref v0), (1, .int v1)] [] S = b_X12_lacks v0 v1 S := rfl
def j_X12_volumeAt_53 (k_14 : Nat → Int32 → UInt64 → Int32 → UInt64 → Int32 → z_St → Option (UInt64 × z_St)) (v0 : Nat) (v1 : Int32) (v2 : UInt64) (v4 : Int32) (v7 : Int32) (t0 : UInt64) (S : z_St) : Option (UInt64 × z_St) :=
(f_X12_lineOf ((30 : Int32)) S).bind fun q5 =>
z_nn (FP.dsub t0 (FP.l2d q5.1)) (
let x6 := FP.dsub t0 (FP.l2d q5.1)
z_chk q5.2 v0 13 (
if (Op.cmpValue (FP.dcmp x6 ((z_d q5.2 v0 97))) .l) ≤ 0 then
(z_chk q5.2 v0 13 (
z_chk q5.2 v0 13 (
let S7 := z_wd q5.2 v0 97 ((z_d q5.2 v0 97))
let x8 := v7 + (1 : Int32)
k_14 v0 v1 v2 v4 t0 x8 S7)))
else
(z_chk q5.2 v0 13 (
let S9 := z_wd q5.2 v0 97 x6
let x10 := v7 + (1 : Int32)
k_14 v0 v1 v2 v4 t0 x10 S9))))
def l_X12_volumeAt_14 : Nat → Nat → Int32 → UInt64 → Int32 → UInt64 → Int32 → z_St → Option (UInt64 × z_St)
  | 0 => fun _ _ _ _ _ _ _ => none
  | n + 1 => fun (v0 : Nat) (v1 : Int32) (v2 : UInt64) (v4 : Int32) (v5 : UInt64) (v7 : Int32) (S : z_St) =>
if v4 < v7 then
(some (v5, S))
else
(z_chk S v0 13 (
z_onV (va_rf (z_r S v0 94)) fun b3 =>
z_inb S b3 103 ((((12 : Int32)) * v1) + v7) (
z_nn (FP.dadd v5 ((z_d S b3 ((((12 : Int32)) * v1) + v7).toNatClampNeg))) (
z_nn (FP.dsub (FP.dadd v5 ((z_d S b3 ((((12 : Int32)) * v1) + v7).toNatClampNeg))) v2) (
let x4 := FP.dsub (FP.dadd v5 ((z_d S b3 ((((12 : Int32)) * v1) + v7).toNatClampNeg))) v2
if 0 ≤ (Op.cmpValue (FP.dcmp x4 FP.dconst0) .g) then
(j_X12_volumeAt_53 (l_X12_volumeAt_14 n) v0 v1 v2 v4 v7 x4 S)
else
(j_X12_volumeAt_53 (l_X12_volumeAt_14 n) v0 v1 v2 v4 v7 FP.dconst0 S))))))
def b_X12_volumeAt (v0 : Nat) (v1 : Int32) (v2 : UInt64) (v4 : Int32) (S : z_St) : Option (UInt64 × z_St) :=
z_chk S v0 13 (
let x1 := (z_d S v0 54)
z_chk S v0 13 (
let S2 := z_wd S v0 97 FP.dconst0
l_X12_volumeAt_14 z_N v0 v1 v2 v4 x1 ((0 : Int32)) S2))
def f_X12_volumeAt : Nat → Int32 → UInt64 → Int32 → z_St → Option (UInt64 × z_St) := z_op (b_X12_volumeAt)
theorem e_X12_volumeAt (v0 : Nat) (v1 : Int32) (v2 : UInt64) (v4 : Int32) (S : z_St) : f_X12_volumeAt v0 v1 v2 v4 S = b_X12_volumeAt v0 v1 v2 v4 S := congrFun (congrFun (congrFun (congrFun (congrFun (z_op_eq (b_X12_volumeAt)) v0) v1) v2) v4) S
def g_X12_volumeAt : z_G := .inr (.inr (.inl (fun as S => match as with
  | [.ref v0, .int v1, .double v2, .int v4] => f_X12_volumeAt v0 v1 v2 v4 S
  | _ => none)))
def c_X12_volumeAt : List z_E := [
  (0, .aload_n 0, 1, .null, [], z_g0),
  (1, .getfield 120, 3, .null, [13, 54, 2], z_g0),
  (4, .dstore 5, 2, .null, [], z_g0),
  (6, .aload_n 0, 1, .null, [], z_g0),
  (7, .dconst 0, 1, .double FP.dconst0, [], z_g0),
  (8, .putfield 630, 3, .null, [13, 97, 2], z_g0),
  (11, .iconst 0, 1, .int ((0 : Int32)), [], z_g0),
  (12, .istore 7, 2, .null, [], z_g0),
  (14, .iload 7, 2, .null, [], z_g0),
  (16, .iload 4, 2, .null, [], z_g0),
  (18, .if_icmp .gt 77, 3, .null, [95], z_g0),
  (21, .dload 5, 2, .null, [], z_g0),
  (23, .aload_n 0, 1, .null, [], z_g0),
  (24, .getfield 212, 3, .null, [13, 94, 3], z_g0),
  (27, .bipush 12, 2, .int ((12 : Int32)), [], z_g0),
  (29, .iload_n 1, 1, .null, [], z_g0),
  (30, .imul, 1, .null, [], z_g0),
  (31, .iload 7, 2, .null, [], z_g0),
  (33, .iadd, 1, .null, [], z_g0),
  (34, .daload, 1, .null, [], z_g0),
  (35, .dadd, 1, .null, [], z_g0),
  (36, .dload_n 2, 1, .null, [], z_g0),
  (37, .dsub, 1, .null, [], z_g0),
  (38, .dstore 5, 2, .null, [], z_g0),
  (40, .dload 5, 2, .null, [], z_g0),
  (42, .dconst 0, 1, .double FP.dconst0, [], z_g0),
  (43, .dcmp .g, 1, .null, [], z_g0),
  (44, .ifCond .ge 7, 3, .null, [51], z_g0),
  (47, .dconst 0, 1, .double FP.dconst0, [], z_g0),
  (48, .goto 5, 3, .null, [53], z_g0),
  (51, .dload 5, 2, .null, [], z_g0),
  (53, .dstore 5, 2, .null, [], z_g0),
  (55, .dload 5, 2, .null, [], z_g0),
  (57, .bipush 30, 2, .int ((30 : Int32)), [], z_g0),
  (59, .invokestatic 507, 3, .null, [0, 0], g_X12_lineOf),
  (62, .l2d, 1, .null, [], z_g0),
  (63, .dsub, 1, .null, [], z_g0),
  (64, .dstore 8, 2, .null, [], z_g0),
  (66, .aload_n 0, 1, .null, [], z_g0),
  (67, .dload 8, 2, .null, [], z_g0),
  (69, .aload_n 0, 1, .null, [], z_g0),
  (70, .getfield 630, 3, .null, [13, 97, 2], z_g0),
  (73, .dcmp .l, 1, .null, [], z_g0),
  (74, .ifCond .le 8, 3, .null, [82], z_g0),
  (77, .dload 8, 2, .null, [], z_g0),
  (79, .goto 7, 3, .null, [86], z_g0),
  (82, .aload_n 0, 1, .null, [], z_g0),
  (83, .getfield 630, 3, .null, [13, 97, 2], z_g0),
  (86, .putfield 630, 3, .null, [13, 97, 2], z_g0),
  (89, .iinc 7 1, 3, .int (1 : Int32), [], z_g0),
  (92, .goto (-78), 3, .null, [14], z_g0),
  (95, .dload 5, 2, .null, [], z_g0),
  (97, .dreturn, 1, .null, [], z_g0)]
def a_X12_volumeAt_14 {ρ : Type} (k : Nat → Int32 → UInt64 → Int32 → UInt64 → Int32 → z_St → Option ρ) (ls : z_Lv) (st : List Value) (S : z_St) : Option ρ := z_gR ls 0 fun v0 => z_gI ls 1 fun v1 => z_gD ls 2 fun v2 => z_gI ls 4 fun v4 => z_gD ls 5 fun v5 => z_gI ls 7 fun v7 => z_p0 st (k v0 v1 v2 v4 v5 v7 S)
def a_X12_volumeAt_53 {ρ : Type} (k : Nat → Int32 → UInt64 → Int32 → Int32 → UInt64 → z_St → Option ρ) (ls : z_Lv) (st : List Value) (S : z_St) : Option ρ := z_gR ls 0 fun v0 => z_gI ls 1 fun v1 => z_gD ls 2 fun v2 => z_gI ls 4 fun v4 => z_gI ls 7 fun v7 => z_pD st fun t0 s0 => z_p0 s0 (k v0 v1 v2 v4 v7 t0 S)
set_option maxRecDepth 100000 in
theorem r_X12_volumeAt_53 (k_14 : Nat → Int32 → UInt64 → Int32 → UInt64 → Int32 → z_St → Option (UInt64 × z_St)) (v0 : Nat) (v1 : Int32) (v2 : UInt64) (v4 : Int32) (v7 : Int32) (t0 : UInt64) (S : z_St) : z_seg z_rD (c_X12_volumeAt) [14, 53] (fun pc => cond (Nat.beq pc 14) (a_X12_volumeAt_14 k_14) (fun _ _ _ => none)) 56 (z_to 53 (c_X12_volumeAt)) [(0, .ref v0), (1, .int v1), (2, .double v2), (4, .int v4), (7, .int v7)] [.double t0] S = j_X12_volumeAt_53 k_14 v0 v1 v2 v4 v7 t0 S := rfl
set_option maxRecDepth 100000 in
theorem r_X12_volumeAt_14 (n : Nat) (v0 : Nat) (v1 : Int32) (v2 : UInt64) (v4 : Int32) (v5 : UInt64) (v7 : Int32) (S : z_St) : z_seg z_rD (c_X12_volumeAt) [14, 53] (fun pc => cond (Nat.beq pc 53) (a_X12_volumeAt_53 (j_X12_volumeAt_53 (l_X12_volumeAt_14 n))) (fun _ _ _ => none)) 56 (z_to 14 (c_X12_volumeAt)) [(0, .ref v0), (1, .int v1), (2, .double v2), (4, .int v4), (5, .double v5), (7, .int v7)] [] S = l_X12_volumeAt_14 (n + 1) v0 v1 v2 v4 v5 v7 S := rfl
set_option maxRecDepth 100000 in
theorem r_X12_volumeAt (v0 : Nat) (v1 : Int32) (v2 : UInt64) (v4 : Int32) (S : z_St) : z_seg z_rD (c_X12_volumeAt) [14, 53] (fun pc => cond (Nat.beq pc 14) (a_X12_volumeAt_14 (l_X12_volumeAt_14 z_N)) (fun _ _ _ => none)) 56 (c_X12_volumeAt) [(0, .ref v0), (1, .int v1), (2, .double v2), (4, .int v4)] [] S = b_X12_volumeAt v0 v1 v2 v4 S := rfl
end
