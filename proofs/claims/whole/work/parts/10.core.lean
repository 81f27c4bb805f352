/-! a pure picture of the heap, and a pure walker of bytecode over it -/
abbrev z_St : Type := (Nat → Nat) × (Nat → Nat) × (Nat → Nat → Int32) × (Nat → Nat → Int64) × (Nat → Nat → UInt64) × (Nat → Nat → Option Nat) × Nat × Nat × Nat × Nat
def z_k (S : z_St) (a : Nat) : Nat := S.1 a
def z_n (S : z_St) (a : Nat) : Nat := S.2.1 a
def z_i (S : z_St) (a k : Nat) : Int32 := S.2.2.1 a k
def z_l (S : z_St) (a k : Nat) : Int64 := S.2.2.2.1 a k
def z_d (S : z_St) (a k : Nat) : UInt64 := S.2.2.2.2.1 a k
def z_r (S : z_St) (a k : Nat) : Option Nat := S.2.2.2.2.2.1 a k
def z_x (S : z_St) : Nat := S.2.2.2.2.2.2.1
def z_w (S : z_St) : Nat := S.2.2.2.2.2.2.2.1
/-- the static rows: 0 SIGNS, 1 KINDS -/
def z_s (S : z_St) (j : Nat) : Nat := match j with
  | 0 => S.2.2.2.2.2.2.2.2.1
  | _ => S.2.2.2.2.2.2.2.2.2
def z_u {α : Type} (f : Nat → Nat → α) (a k : Nat) (x : α) : Nat → Nat → α := fun b j => if b = a then (if j = k then x else f b j) else f b j
def z_ub {α : Type} (f : Nat → α) (a : Nat) (x : α) : Nat → α := fun b => if b = a then x else f b
def z_wi (S : z_St) (a k : Nat) (x : Int32) : z_St := (S.1, S.2.1, z_u S.2.2.1 a k x, S.2.2.2)
def z_wl (S : z_St) (a k : Nat) (x : Int64) : z_St := (S.1, S.2.1, S.2.2.1, z_u S.2.2.2.1 a k x, S.2.2.2.2)
def z_wd (S : z_St) (a k : Nat) (x : UInt64) : z_St := (S.1, S.2.1, S.2.2.1, S.2.2.2.1, z_u S.2.2.2.2.1 a k x, S.2.2.2.2.2)
def z_wr (S : z_St) (a k : Nat) (x : Option Nat) : z_St := (S.1, S.2.1, S.2.2.1, S.2.2.2.1, S.2.2.2.2.1, z_u S.2.2.2.2.2.1 a k x, S.2.2.2.2.2.2)
/-- a new cell of kind c and length n, all zero -/
def z_new (S : z_St) (c n : Nat) : z_St :=
  (z_ub S.1 (z_x S) c, z_ub S.2.1 (z_x S) n, z_ub S.2.2.1 (z_x S) (fun _ => 0), z_ub S.2.2.2.1 (z_x S) (fun _ => 0), z_ub S.2.2.2.2.1 (z_x S) (fun _ => 0), z_ub S.2.2.2.2.2.1 (z_x S) (fun _ => none), z_x S + 1, z_w S + n, S.2.2.2.2.2.2.2.2)
/-- n cells of a row copied, as if by way of a third -/
def z_cp {α : Type} (f g : Nat → α) (p q n : Nat) : Nat → α := fun j => if q ≤ j ∧ j < q + n then f (p + (j - q)) else g j
def z_ci (S : z_St) (a p b q n : Nat) : z_St := (S.1, S.2.1, z_ub S.2.2.1 b (z_cp (S.2.2.1 a) (S.2.2.1 b) p q n), S.2.2.2)
def z_cl (S : z_St) (a p b q n : Nat) : z_St := (S.1, S.2.1, S.2.2.1, z_ub S.2.2.2.1 b (z_cp (S.2.2.2.1 a) (S.2.2.2.1 b) p q n), S.2.2.2.2)
def z_chk {ρ : Type} (S : z_St) (a c : Nat) (x : Option ρ) : Option ρ := if z_k S a = c then x else none
def z_onV {ρ : Type} (v : Value) (f : Nat → Option ρ) : Option ρ := match v with
  | .ref a => f a
  | _ => none
def z_inb {ρ : Type} (S : z_St) (a c : Nat) (i : Int32) (x : Option ρ) : Option ρ := if z_k S a = c then (if i < 0 ∨ z_n S a ≤ i.toNatClampNeg then none else x) else none
def z_nn {ρ : Type} (r : UInt64) (x : Option ρ) : Option ρ := if r &&& 0x7fffffffffffffff ≤ 0x7ff0000000000000 then x else none
def z_nf {ρ : Type} (r : UInt32) (x : Option ρ) : Option ρ := if r &&& 0x7fffffff ≤ 0x7f800000 then x else none
def z_nz {ρ : Type} (y : Int32) (x : Option ρ) : Option ρ := if y = 0 then none else x
def z_nzl {ρ : Type} (y : Int64) (x : Option ρ) : Option ρ := if y = 0 then none else x
def z_len {ρ : Type} (n : Int32) (m : Nat) (x : Option ρ) : Option ρ := if n < 0 ∨ m < n.toNatClampNeg then none else x
def z_rb (x : Int32) (S : z_St) : Option (Int32 × z_St) := if x = 0 ∨ x = 1 then some (x, S) else none
def z_nul {ρ : Type} (v : Value) (x y : Option ρ) : Option ρ := match v with
  | .null => x
  | .ref _ => y
  | _ => none
def z_rv {ρ : Type} (v : Value) (f : Option Nat → Option ρ) : Option ρ := match v with
  | .null => f none
  | .ref a => f (some a)
  | _ => none
/-- System.arraycopy over rows of one kind -/
def z_cpy {ρ : Type} (S : z_St) (c a : Nat) (p : Int32) (b : Nat) (q n : Int32) (x : Option ρ) : Option ρ :=
  if z_k S a = c ∧ z_k S b = c ∧ ¬ p < 0 ∧ ¬ q < 0 ∧ ¬ n < 0 ∧ p.toNatClampNeg + n.toNatClampNeg ≤ z_n S a ∧ q.toNatClampNeg + n.toNatClampNeg ≤ z_n S b ∧ (c = 105 → ∀ i, i < n.toNatClampNeg → fits .byte (.int (z_i S a (p.toNatClampNeg + i))) = true) then x else none
def z_okl (b : Int64) : Bool := (b.toUInt64 &&& 0x7fffffffffffffff > 0x7ff0000000000000 && b.toUInt64 &&& 0x0008000000000000 == 0)
def z_l2d {ρ : Type} (b : Int64) (x : Option ρ) : Option ρ := if z_okl b = false then x else none
abbrev z_Lv : Type := List (Nat × Value)
abbrev z_G : Type := (List Value → z_St → Option (Int32 × z_St)) ⊕ (List Value → z_St → Option (Int64 × z_St)) ⊕ (List Value → z_St → Option (UInt64 × z_St)) ⊕ (List Value → z_St → Option z_St)
def z_g0 : z_G := .inr (.inr (.inr fun _ _ => none))
/-- a row of code: place, instruction, length, a constant, numbers, the callee -/
abbrev z_E : Type := Nat × Instr × Nat × Value × List Nat × z_G
def z_lk : z_Lv → Nat → Value
  | [], _ => .null
  | (i, v) :: t, n => cond (Nat.beq i n) v (z_lk t n)
def z_s1 (i : Nat) (v : Value) (lv : z_Lv) : z_Lv := (i, v) :: lv.filter (fun q => !(Nat.beq q.1 i) && !(Nat.beq (q.1 + 1) i && Nat.beq q.2.category 2))
def z_s2 (i : Nat) (v : Value) (lv : z_Lv) : z_Lv := (i, v) :: lv.filter (fun q => !(Nat.beq q.1 i) && (!(Nat.beq q.1 (i + 1)) && !(Nat.beq (q.1 + 1) i && Nat.beq q.2.category 2)))
abbrev z_K (ρ : Type) : Type := z_Lv → List Value → z_St → Option ρ
/-- the arguments off the stack, last first; 1 in ts: a reference -/
def z_args {ρ : Type} : List Nat → List Value → List Value → (List Value → List Value → Option ρ) → Option ρ
  | [], acc, st, k => k acc st
  | 0 :: ts, acc, v :: st, k => z_args ts (v :: acc) st k
  | _ :: ts, acc, v :: st, k => z_onV v fun a => z_args ts (.ref a :: acc) st k
  | _, _, _, _ => none
def z_call {ρ : Type} (g : z_G) (as : List Value) (st : List Value) (S : z_St) (kf : List Value → z_St → Option ρ) : Option ρ :=
  match g with
  | .inl f => (f as S).bind fun q => kf (.int q.1 :: st) q.2
  | .inr (.inl f) => (f as S).bind fun q => kf (.long q.1 :: st) q.2
  | .inr (.inr (.inl f)) => (f as S).bind fun q => kf (.double q.1 :: st) q.2
  | .inr (.inr (.inr f)) => (f as S).bind fun q => kf st q
def z_invoke {ρ : Type} (g : z_G) (x : List Nat) (st : List Value) (S : z_St) (kf : List Value → z_St → Option ρ) : Option ρ :=
  match x with
  | 0 :: ts => z_args ts [] st fun as rest => cond (Nat.ble rest.length 6) (z_call g as rest S kf) none
  | 1 :: c :: ts => z_args ts [] st fun as rest => match rest with
    | v :: rest => z_onV v fun a => z_chk S a c (cond (Nat.ble rest.length 6) (z_call g (.ref a :: as) rest S kf) none)
    | _ => none
  | [2] => match st with
    | v :: rest => z_onV v fun _ => cond (Nat.ble rest.length 6) (kf rest S) none
    | _ => none
  | [3, c] => match st with
    | .int n :: .int q :: v :: .int p :: w :: rest => z_onV v fun b => z_onV w fun a => z_cpy S c a p b q n (cond (Nat.ble rest.length 6) (cond (Nat.beq c 102) (kf rest (z_cl S a p.toNatClampNeg b q.toNatClampNeg n.toNatClampNeg)) (kf rest (z_ci S a p.toNatClampNeg b q.toNatClampNeg n.toNatClampNeg))) none)
    | _ => none
  | [4] => match st with
    | .double b :: rest => cond (Nat.ble rest.length 6) (kf (.long b.toInt64 :: rest) S) none
    | _ => none
  | [5] => match st with
    | .long b :: rest => z_l2d b (cond (Nat.ble rest.length 6) (kf (.double b.toUInt64 :: rest) S) none)
    | _ => none
  | _ => none
def z_getf {ρ : Type} (x : List Nat) (a : Nat) (S : z_St) (k : Value → Option ρ) : Option ρ := match x with
  | [c, j, 0] => z_chk S a c (k (.int (z_i S a j)))
  | [c, j, 1] => z_chk S a c (k (.long (z_l S a j)))
  | [c, j, 2] => z_chk S a c (k (.double (z_d S a j)))
  | [c, j, 3] => z_chk S a c (k (va_rf (z_r S a j)))
  | _ => none
def z_putf {ρ : Type} (x : List Nat) (a : Nat) (v : Value) (S : z_St) (k : z_St → Option ρ) : Option ρ := match x, v with
  | [c, j, 0], .int y => z_chk S a c (k (z_wi S a j y))
  | [c, j, 1], .long y => z_chk S a c (k (z_wl S a j y))
  | [c, j, 2], .double y => z_chk S a c (k (z_wd S a j y))
  | [c, j, 3], v => z_chk S a c (z_rv v fun y => k (z_wr S a j y))
  | [c, j, 4], .int y => if y = 0 ∨ y = 1 then z_chk S a c (k (z_wi S a j y)) else none
  | _, _ => none
def z_ts {ρ : Type} (k : Nat → Option ρ) (df : Nat) (y : Int32) : Nat → List Nat → Option ρ
  | _, [] => k df
  | n, t :: ts => if y = Int32.ofNat n then k t else z_ts k df y (n + 1) ts
def z_ls {ρ : Type} (k : Nat → Option ρ) (df : Nat) (y : Int32) : List Nat → Option ρ
  | n :: t :: ts => if y = Int32.ofNat n then k t else z_ls k df y ts
  | _ => k df
def z_j (x : List Nat) : Nat := match x with
  | t :: _ => t
  | _ => 0
def z_stp {ρ : Type} (rk : Option Value → z_St → Option ρ) (i : Instr) (c : Value) (x : List Nat) (g : z_G) (kf : z_K ρ) (kj : Nat → z_K ρ) (ls : z_Lv) (st : List Value) (S : z_St) : Option ρ :=
  match i with
  | .iconst _ => kf ls (c :: st) S
  | .bipush _ => kf ls (c :: st) S
  | .sipush _ => kf ls (c :: st) S
  | .lconst _ => kf ls (c :: st) S
  | .dconst _ => kf ls (c :: st) S
  | .ldc _ => kf ls (c :: st) S
  | .ldc_w _ => kf ls (c :: st) S
  | .ldc2_w _ => kf ls (c :: st) S
  | .aconst_null => kf ls (.null :: st) S
  | .iload n => match z_lk ls n with
    | .int y => kf ls (.int y :: st) S
    | _ => none
  | .iload_n n => match z_lk ls n.val with
    | .int y => kf ls (.int y :: st) S
    | _ => none
  | .lload n => match z_lk ls n with
    | .long y => kf ls (.long y :: st) S
    | _ => none
  | .lload_n n => match z_lk ls n.val with
    | .long y => kf ls (.long y :: st) S
    | _ => none
  | .dload n => match z_lk ls n with
    | .double y => kf ls (.double y :: st) S
    | _ => none
  | .dload_n n => match z_lk ls n.val with
    | .double y => kf ls (.double y :: st) S
    | _ => none
  | .aload n => match z_lk ls n with
    | .ref y => kf ls (.ref y :: st) S
    | _ => none
  | .aload_n n => match z_lk ls n.val with
    | .ref y => kf ls (.ref y :: st) S
    | _ => none
  | .istore n => match st with
    | .int y :: st => kf (z_s1 n (.int y) ls) st S
    | _ => none
  | .istore_n n => match st with
    | .int y :: st => kf (z_s1 n.val (.int y) ls) st S
    | _ => none
  | .lstore n => match st with
    | .long y :: st => kf (z_s2 n (.long y) ls) st S
    | _ => none
  | .lstore_n n => match st with
    | .long y :: st => kf (z_s2 n.val (.long y) ls) st S
    | _ => none
  | .dstore n => match st with
    | .double y :: st => kf (z_s2 n (.double y) ls) st S
    | _ => none
  | .dstore_n n => match st with
    | .double y :: st => kf (z_s2 n.val (.double y) ls) st S
    | _ => none
  | .astore n => match st with
    | v :: st => z_onV v fun y => kf (z_s1 n (.ref y) ls) st S
    | _ => none
  | .astore_n n => match st with
    | v :: st => z_onV v fun y => kf (z_s1 n.val (.ref y) ls) st S
    | _ => none
  | .iinc n _ => match z_lk ls n, c with
    | .int y, .int w => kf (z_s1 n (.int (y + w)) ls) st S
    | _, _ => none
  | .iadd => match st with
    | .int y :: .int x :: st => kf ls (.int (x + y) :: st) S
    | _ => none
  | .isub => match st with
    | .int y :: .int x :: st => kf ls (.int (x - y) :: st) S
    | _ => none
  | .imul => match st with
    | .int y :: .int x :: st => kf ls (.int (x * y) :: st) S
    | _ => none
  | .idiv => match st with
    | .int y :: .int x :: st => z_nz y (kf ls (.int (x / y) :: st) S)
    | _ => none
  | .irem => match st with
    | .int y :: .int x :: st => z_nz y (kf ls (.int (x - x / y * y) :: st) S)
    | _ => none
  | .iand => match st with
    | .int y :: .int x :: st => kf ls (.int (x &&& y) :: st) S
    | _ => none
  | .ior => match st with
    | .int y :: .int x :: st => kf ls (.int (x ||| y) :: st) S
    | _ => none
  | .ixor => match st with
    | .int y :: .int x :: st => kf ls (.int (x ^^^ y) :: st) S
    | _ => none
  | .ishl => match st with
    | .int y :: .int x :: st => kf ls (.int (x <<< (y &&& 31)) :: st) S
    | _ => none
  | .ishr => match st with
    | .int y :: .int x :: st => kf ls (.int (x >>> (y &&& 31)) :: st) S
    | _ => none
  | .iushr => match st with
    | .int y :: .int x :: st => kf ls (.int ((x.toUInt32 >>> (y.toUInt32 &&& Int32.toUInt32 31)).toInt32) :: st) S
    | _ => none
  | .ineg => match st with
    | .int x :: st => kf ls (.int (-x) :: st) S
    | _ => none
  | .ladd => match st with
    | .long y :: .long x :: st => kf ls (.long (x + y) :: st) S
    | _ => none
  | .lsub => match st with
    | .long y :: .long x :: st => kf ls (.long (x - y) :: st) S
    | _ => none
  | .lmul => match st with
    | .long y :: .long x :: st => kf ls (.long (x * y) :: st) S
    | _ => none
  | .ldiv => match st with
    | .long y :: .long x :: st => z_nzl y (kf ls (.long (x / y) :: st) S)
    | _ => none
  | .lrem => match st with
    | .long y :: .long x :: st => z_nzl y (kf ls (.long (x - x / y * y) :: st) S)
    | _ => none
  | .land => match st with
    | .long y :: .long x :: st => kf ls (.long (x &&& y) :: st) S
    | _ => none
  | .lor => match st with
    | .long y :: .long x :: st => kf ls (.long (x ||| y) :: st) S
    | _ => none
  | .lxor => match st with
    | .long y :: .long x :: st => kf ls (.long (x ^^^ y) :: st) S
    | _ => none
  | .lneg => match st with
    | .long x :: st => kf ls (.long (-x) :: st) S
    | _ => none
  | .lshl => match st with
    | .int y :: .long x :: st => kf ls (.long (x <<< (y.toInt64 &&& 63)) :: st) S
    | _ => none
  | .lshr => match st with
    | .int y :: .long x :: st => kf ls (.long (x >>> (y.toInt64 &&& 63)) :: st) S
    | _ => none
  | .lushr => match st with
    | .int y :: .long x :: st => kf ls (.long ((x.toUInt64 >>> (y.toInt64.toUInt64 &&& Int64.toUInt64 63)).toInt64) :: st) S
    | _ => none
  | .lcmp => match st with
    | .long y :: .long x :: st => kf ls (.int (lg_cmp x y) :: st) S
    | _ => none
  | .i2l => match st with
    | .int x :: st => kf ls (.long x.toInt64 :: st) S
    | _ => none
  | .l2i => match st with
    | .long x :: st => kf ls (.int x.toInt32 :: st) S
    | _ => none
  | .i2b => match st with
    | .int x :: st => kf ls (.int x.toInt8.toInt32 :: st) S
    | _ => none
  | .i2s => match st with
    | .int x :: st => kf ls (.int x.toInt16.toInt32 :: st) S
    | _ => none
  | .i2c => match st with
    | .int x :: st => kf ls (.int (x.toUInt32 % 65536).toInt32 :: st) S
    | _ => none
  | .i2d => match st with
    | .int x :: st => kf ls (.double (FP.i2d x) :: st) S
    | _ => none
  | .l2d => match st with
    | .long x :: st => kf ls (.double (FP.l2d x) :: st) S
    | _ => none
  | .l2f => match st with
    | .long x :: st => kf ls (.float (FP.l2f x) :: st) S
    | _ => none
  | .f2d => match st with
    | .float x :: st => z_nn (FP.f2d x) (kf ls (.double (FP.f2d x) :: st) S)
    | _ => none
  | .d2f => match st with
    | .double x :: st => z_nf (FP.d2f x) (kf ls (.float (FP.d2f x) :: st) S)
    | _ => none
  | .d2i => match st with
    | .double x :: st => kf ls (.int (FP.d2i x) :: st) S
    | _ => none
  | .d2l => match st with
    | .double x :: st => kf ls (.long (FP.d2l x) :: st) S
    | _ => none
  | .dneg => match st with
    | .double x :: st => kf ls (.double (FP.dneg x) :: st) S
    | _ => none
  | .fadd => match st with
    | .float y :: .float x :: st => z_nf (FP.fadd x y) (kf ls (.float (FP.fadd x y) :: st) S)
    | _ => none
  | .dadd => match st with
    | .double y :: .double x :: st => z_nn (FP.dadd x y) (kf ls (.double (FP.dadd x y) :: st) S)
    | _ => none
  | .dsub => match st with
    | .double y :: .double x :: st => z_nn (FP.dsub x y) (kf ls (.double (FP.dsub x y) :: st) S)
    | _ => none
  | .dmul => match st with
    | .double y :: .double x :: st => z_nn (FP.dmul x y) (kf ls (.double (FP.dmul x y) :: st) S)
    | _ => none
  | .ddiv => match st with
    | .double y :: .double x :: st => z_nn (FP.ddiv x y) (kf ls (.double (FP.ddiv x y) :: st) S)
    | _ => none
  | .dcmp op => match st with
    | .double y :: .double x :: st => kf ls (.int (Op.cmpValue (FP.dcmp x y) op) :: st) S
    | _ => none
  | .dup => match st with
    | v :: st => z_onV v fun a => kf ls (.ref a :: .ref a :: st) S
    | _ => none
  | .dup2 => match x, st with
    | [2], .long v :: st => kf ls (.long v :: .long v :: st) S
    | [2], .double v :: st => kf ls (.double v :: .double v :: st) S
    | [1], .int j :: w :: st => z_onV w fun a => kf ls (.int j :: .ref a :: .int j :: .ref a :: st) S
    | _, _ => none
  | .pop2 => match st with
    | .double _ :: st => kf ls st S
    | _ => none
  | .goto _ => kj (z_j x) ls st S
  | .ifCond .eq _ => match st with
    | .int y :: st => if y = 0 then kj (z_j x) ls st S else kf ls st S
    | _ => none
  | .ifCond .ne _ => match st with
    | .int y :: st => if y = 0 then kf ls st S else kj (z_j x) ls st S
    | _ => none
  | .ifCond .lt _ => match st with
    | .int y :: st => if y < 0 then kj (z_j x) ls st S else kf ls st S
    | _ => none
  | .ifCond .ge _ => match st with
    | .int y :: st => if 0 ≤ y then kj (z_j x) ls st S else kf ls st S
    | _ => none
  | .ifCond .gt _ => match st with
    | .int y :: st => if 0 < y then kj (z_j x) ls st S else kf ls st S
    | _ => none
  | .ifCond .le _ => match st with
    | .int y :: st => if y ≤ 0 then kj (z_j x) ls st S else kf ls st S
    | _ => none
  | .if_icmp .eq _ => match st with
    | .int y :: .int w :: st => if w = y then kj (z_j x) ls st S else kf ls st S
    | _ => none
  | .if_icmp .ne _ => match st with
    | .int y :: .int w :: st => if w = y then kf ls st S else kj (z_j x) ls st S
    | _ => none
  | .if_icmp .lt _ => match st with
    | .int y :: .int w :: st => if w < y then kj (z_j x) ls st S else kf ls st S
    | _ => none
  | .if_icmp .ge _ => match st with
    | .int y :: .int w :: st => if y ≤ w then kj (z_j x) ls st S else kf ls st S
    | _ => none
  | .if_icmp .gt _ => match st with
    | .int y :: .int w :: st => if y < w then kj (z_j x) ls st S else kf ls st S
    | _ => none
  | .if_icmp .le _ => match st with
    | .int y :: .int w :: st => if w ≤ y then kj (z_j x) ls st S else kf ls st S
    | _ => none
  | .ifnull _ => match st with
    | v :: st => z_nul v (kj (z_j x) ls st S) (kf ls st S)
    | _ => none
  | .ifnonnull _ => match st with
    | v :: st => z_nul v (kf ls st S) (kj (z_j x) ls st S)
    | _ => none
  | .arraylength => match st, x with
    | v :: st, [c] => z_onV v fun a => z_chk S a c (kf ls (.int (Int32.ofNat (z_n S a)) :: st) S)
    | _, _ => none
  | .iaload => match st, x with
    | .int j :: v :: st, [c] => z_onV v fun a => z_inb S a c j (kf ls (.int (z_i S a j.toNatClampNeg) :: st) S)
    | _, _ => none
  | .baload => match st, x with
    | .int j :: v :: st, [c] => z_onV v fun a => z_inb S a c j (kf ls (.int (z_i S a j.toNatClampNeg) :: st) S)
    | _, _ => none
  | .laload => match st with
    | .int j :: v :: st => z_onV v fun a => z_inb S a 102 j (kf ls (.long (z_l S a j.toNatClampNeg) :: st) S)
    | _ => none
  | .daload => match st with
    | .int j :: v :: st => z_onV v fun a => z_inb S a 103 j (kf ls (.double (z_d S a j.toNatClampNeg) :: st) S)
    | _ => none
  | .aaload => match st, x with
    | .int j :: v :: st, [c] => z_onV v fun a => z_inb S a c j (kf ls (va_rf (z_r S a j.toNatClampNeg) :: st) S)
    | _, _ => none
  | .iastore => match st with
    | .int y :: .int j :: v :: st => z_onV v fun a => z_inb S a 101 j (kf ls st (z_wi S a j.toNatClampNeg y))
    | _ => none
  | .bastore => match st, x with
    | .int y :: .int j :: v :: st, [105] => z_onV v fun a => z_inb S a 105 j (kf ls st (z_wi S a j.toNatClampNeg (vp_nar .byte y)))
    | .int y :: .int j :: v :: st, [104] => z_onV v fun a => z_inb S a 104 j (kf ls st (z_wi S a j.toNatClampNeg (vp_nar .boolean y)))
    | _, _ => none
  | .lastore => match st with
    | .long y :: .int j :: v :: st => z_onV v fun a => z_inb S a 102 j (kf ls st (z_wl S a j.toNatClampNeg y))
    | _ => none
  | .dastore => match st with
    | .double y :: .int j :: v :: st => z_onV v fun a => z_inb S a 103 j (kf ls st (z_wd S a j.toNatClampNeg y))
    | _ => none
  | .aastore => match st, x with
    | w :: .int j :: v :: st, [c, o] => z_onV v fun a => z_inb S a c j (z_rv w fun y => match y with
      | none => kf ls st (z_wr S a j.toNatClampNeg none)
      | some b => z_chk S b o (kf ls st (z_wr S a j.toNatClampNeg (some b))))
    | _, _ => none
  | .new _ => match x with
    | [c, n] => kf ls (.ref (z_x S) :: st) (z_new S c n)
    | _ => none
  | .newarray _ => match st, x with
    | .int n :: st, [c] => z_len n 30000 (kf ls (.ref (z_x S) :: st) (z_new S c n.toNatClampNeg))
    | _, _ => none
  | .anewarray _ => match st, x with
    | .int n :: st, [c] => z_len n 30000 (kf ls (.ref (z_x S) :: st) (z_new S c n.toNatClampNeg))
    | _, _ => none
  | .getfield _ => match st with
    | v :: st => z_onV v fun a => z_getf x a S fun w => kf ls (w :: st) S
    | _ => none
  | .putfield _ => match st with
    | w :: v :: st => z_onV v fun a => z_putf x a w S fun S => kf ls st S
    | _ => none
  | .getstatic _ => match x with
    | [j] => kf ls (.ref (z_s S j) :: st) S
    | _ => none
  | .invokevirtual _ => z_invoke g x st S (kf ls)
  | .invokespecial _ => z_invoke g x st S (kf ls)
  | .invokestatic _ => z_invoke g x st S (kf ls)
  | .tableswitch _ _ _ _ => match st, x with
    | .int y :: st, df :: lo :: ts => z_ts (fun t => kj t ls st S) df y lo ts
    | _, _ => none
  | .lookupswitch _ _ => match st, x with
    | .int y :: st, df :: ts => z_ls (fun t => kj t ls st S) df y ts
    | _, _ => none
  | .ireturn => match st with
    | [.int y] => rk (some (.int y)) S
    | _ => none
  | .lreturn => match st with
    | [.long y] => rk (some (.long y)) S
    | _ => none
  | .dreturn => match st with
    | [.double y] => rk (some (.double y)) S
    | _ => none
  | .return_ => rk none S
  | _ => none
def z_to : Nat → List z_E → List z_E
  | _, [] => []
  | t, e :: l => cond (Nat.beq e.1 t) (e :: l) (z_to t l)
def z_seg {ρ : Type} (rk : Option Value → z_St → Option ρ) (code : List z_E) (cuts : List Nat) (ck : Nat → z_K ρ) : Nat → List z_E → z_K ρ
  | 0, _ => fun _ _ _ => none
  | _, [] => fun _ _ _ => none
  | f + 1, e :: l => z_stp rk e.2.1 e.2.2.2.1 e.2.2.2.2.1 e.2.2.2.2.2
      (fun ls st S => match l with
        | [] => none
        | e' :: _ => cond (cuts.any (Nat.beq e'.1)) (ck e'.1 ls st S) (z_seg rk code cuts ck f l ls st S))
      (fun t ls st S => cond (cuts.any (Nat.beq t)) (ck t ls st S) (z_seg rk code cuts ck f (z_to t code) ls st S))
def z_rI (v : Option Value) (S : z_St) : Option (Int32 × z_St) := match v with
  | some (.int x) => some (x, S)
  | _ => none
def z_rZ (v : Option Value) (S : z_St) : Option (Int32 × z_St) := match v with
  | some (.int x) => z_rb x S
  | _ => none
def z_rL (v : Option Value) (S : z_St) : Option (Int64 × z_St) := match v with
  | some (.long x) => some (x, S)
  | _ => none
def z_rD (v : Option Value) (S : z_St) : Option (UInt64 × z_St) := match v with
  | some (.double x) => some (x, S)
  | _ => none
def z_rV (v : Option Value) (S : z_St) : Option z_St := match v with
  | none => some S
  | _ => none
theorem z_Nx : ∃ n : Nat, n = 3000 := ⟨3000, rfl⟩
/-- how often a loop may turn: a number that no reckoning unfolds -/
noncomputable def z_N : Nat := Classical.choose z_Nx
theorem z_N_eq : z_N = 3000 := Classical.choose_spec z_Nx
/-- a thing behind a wall that no reckoning unfolds -/
noncomputable def z_op {α : Type} (x : α) : α := Classical.choose (⟨x, rfl⟩ : ∃ y : α, y = x)
theorem z_op_eq {α : Type} (x : α) : z_op x = x := Classical.choose_spec (⟨x, rfl⟩ : ∃ y : α, y = x)
noncomputable def z_9 : Nat := z_op 9
theorem z_9_eq : z_9 = 9 := z_op_eq 9
/-! the hand-over at a cut: locals by number, the stack from its top -/
def z_gI {ρ : Type} (ls : z_Lv) (i : Nat) (f : Int32 → Option ρ) : Option ρ := match z_lk ls i with
  | .int x => f x
  | _ => none
def z_gJ {ρ : Type} (ls : z_Lv) (i : Nat) (f : Int64 → Option ρ) : Option ρ := match z_lk ls i with
  | .long x => f x
  | _ => none
def z_gD {ρ : Type} (ls : z_Lv) (i : Nat) (f : UInt64 → Option ρ) : Option ρ := match z_lk ls i with
  | .double x => f x
  | _ => none
def z_gR {ρ : Type} (ls : z_Lv) (i : Nat) (f : Nat → Option ρ) : Option ρ := match z_lk ls i with
  | .ref x => f x
  | _ => none
def z_pI {ρ : Type} (st : List Value) (f : Int32 → List Value → Option ρ) : Option ρ := match st with
  | .int x :: t => f x t
  | _ => none
def z_pJ {ρ : Type} (st : List Value) (f : Int64 → List Value → Option ρ) : Option ρ := match st with
  | .long x :: t => f x t
  | _ => none
def z_pD {ρ : Type} (st : List Value) (f : UInt64 → List Value → Option ρ) : Option ρ := match st with
  | .double x :: t => f x t
  | _ => none
def z_pR {ρ : Type} (st : List Value) (f : Nat → List Value → Option ρ) : Option ρ := match st with
  | v :: t => z_onV v fun a => f a t
  | _ => none
def z_p0 {ρ : Type} (st : List Value) (x : Option ρ) : Option ρ := match st with
  | [] => x
  | _ => none
