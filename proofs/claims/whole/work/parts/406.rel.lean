/-! the relation between the class's picture S and the model's picture T -/
def z_NN : Int64 := 9221120237041090560
/-- no NaN -/
def nnD (d : UInt64) : Prop := d &&& 0x7fffffffffffffff ≤ 0x7ff0000000000000
def uU : Nat := 2 ^ 1074
/-- finite, and its size at most N -/
def bd (N : Nat) (d : UInt64) : Prop := FP.Core.DFin d ∧ FP.Core.zmag FP.Core.b64 (FP.Core.val64 d) ≤ N * uU
def nanL (b : Int64) : Prop := (9218868437227405312 : Int64) < b &&& (9223372036854775807 : Int64)
def ok (cs : Nat → Prop) (c : Nat) : Prop := cs c ∨ c = 13 ∨ c = 0
/-- old cells keep kinds and lengths, and what has another colour -/
def fS (B : Nat) (G : z_Gh) (cs : Nat → Prop) (S S' : z_St) : Prop :=
  z_x S ≤ z_x S' ∧ z_s S' = z_s S ∧ (∀ a, a < z_x S → z_k S' a = z_k S a ∧ z_n S' a = z_n S a) ∧
  ∀ a k, a < z_x S → ¬ ok cs (cC B G a k) → z_i S' a k = z_i S a k ∧ z_l S' a k = z_l S a k ∧ z_d S' a k = z_d S a k ∧ z_r S' a k = z_r S a k
def mE (S S' : z_St) : Prop := z_k S' = z_k S ∧ z_n S' = z_n S ∧ z_r S' = z_r S ∧ z_x S' = z_x S ∧ z_w S' = z_w S ∧ z_s S' = z_s S
def fT (B : Nat) (cs : Nat → Prop) (T T' : z_St) : Prop :=
  mE T T' ∧ ∀ a k, ¬ ok cs (cM B a k) → z_i T' a k = z_i T a k ∧ z_l T' a k = z_l T a k ∧ z_d T' a k = z_d T a k
/-- a dynamic cell of colour c -/
def dyn (B : Nat) (G : z_Gh) (S : z_St) (c a : Nat) : Prop := B + 112 ≤ a ∧ a < z_x S ∧ G 20 a = c
def fitsN (b s : Nat) : Prop := if b < 6 then s = b ∨ (b % 2 = 0 ∧ s = b + 1) else if b = 6 then s < 2 else if b = 7 then 1 < s else if b = 8 then s % 2 = 1 else True
def rowOk (B : Nat) (G : z_Gh) (S T : z_St) (q : Nat) : Prop :=
  dyn B G S 1 (G 1 q) ∧ dyn B G S 1 (G 2 q) ∧ z_k S (G 1 q) = 9 ∧ z_r S (G 1 q) 1 = some (G 2 q) ∧ z_k S (G 2 q) = 102 ∧ z_i S (G 1 q) 0 = zI (G 3 q) ∧ z_i T (B + 49) q = zI (G 3 q) ∧ z_n S (G 2 q) = G 4 q ∧ z_i T (B + 50) q = zI (G 4 q) ∧ G 3 q ≤ 7 ∧ G 4 q ≤ 64 ∧
  ∀ k, k < G 4 q → z_l S (G 2 q) k = z_l T (B + 51) (64 * q + k) ∧ (G 3 q = 2 ∨ G 3 q = 3 → nanL (z_l S (G 2 q) k) → z_l S (G 2 q) k = z_NN)
def R1 (B : Nat) (G : z_Gh) (S T : z_St) : Prop :=
  G 0 1 ≤ 40 ∧ z_i S B 1 = zI (G 0 1) ∧ z_i T (B + 48) 3 = zI (G 0 1) ∧ (∀ q, q < 40 → z_r S (B + 1) q = if q < G 0 1 then some (G 1 q) else none) ∧ (∀ q, q < G 0 1 → G 1 q ≠ 0) ∧
  (∀ q, G 1 q ≠ 0 → q < G 0 1 ∨ (40 ≤ q ∧ q < 40 + 16 * G 0 2)) ∧ (∀ q, G 1 q ≠ 0 → rowOk B G S T q) ∧ (∀ q q', G 1 q ≠ 0 → G 1 q' ≠ 0 → G 2 q = G 2 q' → q = q')
def stripOk (B : Nat) (G : z_Gh) (S T : z_St) (b i : Nat) : Prop :=
  (z_i T (B + 55) (16 * b + i) = -1 ∧ z_r S (G 6 b) i = none) ∨ ∃ q, G 1 q ≠ 0 ∧ q < 360 ∧ z_i T (B + 55) (16 * b + i) = zI q ∧ z_r S (G 6 b) i = some (G 1 q) ∧ z_i S (G 5 b) 0 = zI (G 3 q)
def bedOk (B : Nat) (G : z_Gh) (S T : z_St) (b : Nat) : Prop :=
  z_r S (B + 2) b = some (G 5 b) ∧ dyn B G S 2 (G 5 b) ∧ dyn B G S 2 (G 6 b) ∧ z_k S (G 5 b) = 2 ∧ z_r S (G 5 b) 1 = some (G 6 b) ∧ z_k S (G 6 b) = 110 ∧ z_i S (G 5 b) 0 = z_i T (B + 53) b ∧ z_i T (B + 54) b = zI (z_n S (G 6 b)) ∧ z_n S (G 6 b) ≤ 16 ∧
  ∀ i, i < z_n S (G 6 b) → stripOk B G S T b i
def R2 (B : Nat) (G : z_Gh) (S T : z_St) : Prop :=
  G 0 2 ≤ 20 ∧ z_i S B 3 = zI (G 0 2) ∧ z_i T (B + 48) 8 = zI (G 0 2) ∧ (∀ b, b < G 0 2 → bedOk B G S T b) ∧ ∀ b b', b < G 0 2 → b' < G 0 2 → G 6 b = G 6 b' → b = b'
def thOk (B : Nat) (G : z_Gh) (S T : z_St) (t : Nat) : Prop :=
  z_r S (B + 3) t = some (G 7 t) ∧ dyn B G S 3 (G 7 t) ∧ z_k S (G 7 t) = 10 ∧ z_i S (G 7 t) 0 = zI (G 8 t) ∧ z_i T (B + 56) t = zI (G 8 t) ∧ G 8 t ≤ 5 ∧ z_i S (G 7 t) 1 = z_i T (B + 57) t
def R3 (B : Nat) (G : z_Gh) (S T : z_St) : Prop :=
  G 0 3 ≤ 40 ∧ z_i S B 5 = zI (G 0 3) ∧ z_i T (B + 48) 12 = zI (G 0 3) ∧ ∀ t, t < G 0 3 → thOk B G S T t
def rkOk (B : Nat) (G : z_Gh) (S T : z_St) (r : Nat) : Prop :=
  z_r S (B + 4) r = some (G 9 r) ∧ dyn B G S 4 (G 9 r) ∧ dyn B G S 4 (G 10 r) ∧ z_k S (G 9 r) = 8 ∧ z_r S (G 9 r) 1 = some (G 10 r) ∧ z_k S (G 10 r) = 101 ∧ z_i S (G 9 r) 0 = zI (G 13 r) ∧ z_i T (B + 58) r = zI (G 13 r) ∧ G 13 r ≤ 9 ∧ z_i T (B + 59) r = zI (z_n S (G 10 r)) ∧ z_n S (G 10 r) ≤ 16 ∧
  ∀ i, i < z_n S (G 10 r) → z_i S (G 10 r) i = z_i T (B + 60) (16 * r + i) ∧ (z_i S (G 10 r) i = -1 ∨ ∃ t, t < G 0 3 ∧ z_i S (G 10 r) i = zI t ∧ fitsN (G 13 r) (G 8 t))
def R4 (B : Nat) (G : z_Gh) (S T : z_St) : Prop :=
  G 0 4 ≤ 20 ∧ z_i S B 7 = zI (G 0 4) ∧ z_i T (B + 48) 15 = zI (G 0 4) ∧ (∀ r, r < G 0 4 → rkOk B G S T r) ∧ ∀ r r', r < G 0 4 → r' < G 0 4 → G 10 r = G 10 r' → r = r'
def noneOr (n : Nat) (v : Int32) : Prop := v = -1 ∨ ∃ t, t < n ∧ v = zI t
def cdOk (B : Nat) (G : z_Gh) (S T : z_St) (c : Nat) : Prop :=
  z_r S (B + 5) c = some (G 11 c) ∧ dyn B G S 5 (G 11 c) ∧ dyn B G S 5 (G 12 c) ∧ z_k S (G 11 c) = 4 ∧ z_r S (G 11 c) 0 = some (G 12 c) ∧ z_k S (G 12 c) = 102 ∧ z_n S (G 12 c) = 8 ∧ z_i S (G 11 c) 1 = z_i T (B + 66) c ∧ noneOr (G 0 5) (z_i S (G 11 c) 1) ∧ z_i S (G 11 c) 2 = z_i T (B + 67) c ∧ noneOr (G 0 3) (z_i S (G 11 c) 2) ∧
  ∀ f, f < 8 → z_l S (G 12 c) f = z_l T (B + 65) (8 * c + f) ∧ (f = 5 ∨ f = 6 → nanL (z_l S (G 12 c) f) → z_l S (G 12 c) f = z_NN)
def R5 (B : Nat) (G : z_Gh) (S T : z_St) : Prop :=
  G 0 5 ≤ 20 ∧ z_i S B 9 = zI (G 0 5) ∧ z_i T (B + 48) 22 = zI (G 0 5) ∧ (∀ f, f < 8 → z_i T (B + 64) f = ([5, 0, 4, 1, 7, 2, 3, 6].getD f 0)) ∧ (∀ c, c < G 0 5 → cdOk B G S T c) ∧ ∀ c c', c < G 0 5 → c' < G 0 5 → (G 11 c = G 11 c' ∨ G 12 c = G 12 c') → c = c'
def bxOk (G : z_Gh) (w n : Int32) : Prop := w = 0 ∨ (w = 1 ∧ ∃ q, q < G 0 1 ∧ n = zI q) ∨ (w = 2 ∧ ∃ q, q < G 0 3 ∧ n = zI q) ∨ (w = 3 ∧ ∃ q, q < G 0 4 ∧ n = zI q) ∨ (w = 4 ∧ ∃ q, q < G 0 2 ∧ n = zI q)
def R6 (B : Nat) (G : z_Gh) (S T : z_St) : Prop :=
  ∀ b, b < 10 → z_i S (B + 6) b = z_i T (B + 62) b ∧ z_i S (B + 7) b = z_i T (B + 63) b ∧ bxOk G (z_i S (B + 6) b) (z_i S (B + 7) b)
/-- a STEP that is kept -/
def stOk (f : Nat → Int32) (at_ : Nat) : Prop :=
  ∃ op, op < 10 ∧ f at_ = zI op ∧ (op = 1 → 0 ≤ f (at_ + 1) ∧ f (at_ + 1) ≤ 1000000000) ∧ (op = 2 → ∃ a, 1 ≤ a ∧ a ≤ 8 ∧ f (at_ + 1) = zI a) ∧ (op = 3 ∨ op = 4 → ∃ a, a < 4 ∧ f (at_ + 1) = zI a) ∧ (op = 6 ∨ op = 7 → ∃ a, a < 12 ∧ f (at_ + 1) = zI a) ∧ (op = 7 → (∃ b, b < 10 ∧ f (at_ + 2) = zI b) ∧ noneOr 12 (f (at_ + 3)) ∧ noneOr 12 (f (at_ + 4)))
def R7 (B : Nat) (G : z_Gh) (S T : z_St) : Prop :=
  (∀ j, j < 720 → z_i S (B + 9) j = z_i T (B + 71) j) ∧ (∀ p, p < 12 → z_i S (B + 10) p = zI (G 14 p) ∧ z_i T (B + 70) p = zI (G 14 p) ∧ G 14 p ≤ 12) ∧ (∀ p i, p < 12 → i < G 14 p → stOk (z_i S (B + 9)) (60 * p + 5 * i)) ∧
  (z_l S (B + 8) 2 = z_l T (B + 48) 31 ∧ 0 ≤ z_l S (B + 8) 2 ∧ z_l S (B + 8) 2 ≤ 1000000000000000) ∧ (∀ g, g < 4 → z_i S (B + 11) g = 0 ∧ z_i T (B + 72) g = 0) ∧ (∀ g, g < 4 → z_i S (B + 12) g = z_i T (B + 73) g ∧ 0 ≤ z_i S (B + 12) g ∧ z_i S (B + 12) g ≤ 100) ∧
  (G 0 7 ≤ 60 ∧ z_i S (B + 8) 6 = zI (G 0 7) ∧ z_i T (B + 48) 34 = zI (G 0 7)) ∧ (∀ i, i < G 0 7 → z_i S (B + 13) i = z_i T (B + 74) i) ∧ z_i S (B + 8) 7 = z_i T (B + 48) 51 ∧ z_i S (B + 8) 8 = z_i T (B + 48) 50 ∧ z_i S (B + 8) 9 = z_i T (B + 48) 52
/-- a real's bits with a flag, against bits or NO NUMBER -/
def flOk (f : Int32) (b l : Int64) : Prop := (f = 0 ∧ l = z_NN) ∨ (f = 1 ∧ l = b ∧ ¬ nanL b)
def farN (f : Nat → Int32) (g : Nat) (n : Nat) : Prop := (1 ≤ n ↔ f (4 * g) = 1) ∧ (2 ≤ n ↔ f (4 * g) = 1 ∧ f (4 * g + 1) = 1) ∧ (3 ≤ n ↔ f (4 * g) = 1 ∧ f (4 * g + 1) = 1 ∧ f (4 * g + 2) = 1) ∧ ∀ k, k < 4 → f (4 * g + k) = 0 ∨ f (4 * g + k) = 1
def R8a (B : Nat) (G : z_Gh) (S T : z_St) : Prop :=
  z_d S (B + 17) 0 = z_d T (B + 48) 54 ∧ z_d S (B + 17) 1 = z_d T (B + 48) 56 ∧ z_d S (B + 17) 2 = z_d T (B + 48) 55 ∧ z_d S (B + 17) 3 = z_d T (B + 48) 57 ∧ z_d S (B + 17) 4 = z_d T (B + 48) 58 ∧ z_d S (B + 17) 5 = z_d T (B + 48) 59 ∧ z_d S (B + 17) 6 = z_d T (B + 48) 60 ∧ z_d S (B + 17) 7 = z_d T (B + 48) 61 ∧
  (G 0 8 ≤ 600 ∧ z_i S (B + 17) 9 = zI (G 0 8) ∧ z_i T (B + 48) 62 = zI (G 0 8)) ∧ (G 0 28 ≤ G 0 8 ∧ z_i S (B + 17) 10 = zI (G 0 28) ∧ z_i T (B + 48) 63 = zI (G 0 28)) ∧ ((G 0 8 = 0 ∧ z_d T (B + 48) 64 = 0x7ff8000000000000) ∨ (G 0 8 ≠ 0 ∧ z_d T (B + 48) 64 = z_d S (B + 17) 8)) ∧
  (∀ g, g < 4 → z_d S (B + 18) g = z_d T (B + 84) g ∧ flOk (z_i T (B + 86) g) (z_d T (B + 87) g).toInt64 (z_l S (B + 19) g) ∧ z_i S (B + 20) g = z_i T (B + 85) g ∧ (z_i S (B + 20) g = 0 ∨ z_i S (B + 20) g = 1) ∧ ∃ n, n ≤ 4 * G 0 8 ∧ z_i S (B + 21) g = zI n ∧ z_i T (B + 88) g = zI n)
def R8b (B : Nat) (G : z_Gh) (S T : z_St) : Prop :=
  (∀ g, g < 6 → flOk (z_i T (B + 92) g) (z_l T (B + 93) g) (z_l S (B + 24) g)) ∧ flOk (z_i T (B + 48) 75) (z_d T (B + 48) 76).toInt64 (z_l S (B + 23) 1) ∧
  (∀ g k, g < 6 → k < 4 → flOk (z_i T (B + 89) (4 * g + k)) (z_l T (B + 90) (4 * g + k)) (z_l S (B + 25) (((G 0 8 + 4 - k) % 4) * 6 + g))) ∧
  (∀ g, g < 6 → ∃ n, n ≤ G 0 8 ∧ z_i S (B + 26) g = zI n ∧ farN (z_i T (B + 91)) g n) ∧ (∀ g, g < 6 → (G 0 8 = 0 ∧ z_i T (B + 94) g = -1) ∨ (G 0 8 ≠ 0 ∧ z_i T (B + 94) g = z_i S (B + 27) g))
/-- bounds: nothing here ever becomes a NaN -/
def R8c (B : Nat) (G : z_Gh) (_S T : z_St) : Prop :=
  (bd 2097152 (z_d T (B + 48) 54) ∧ bd (4096 * 2 ^ (G 0 8 + 12)) (z_d T (B + 48) 55) ∧ bd (1024 * 2 ^ (G 0 8 + 12)) (z_d T (B + 48) 56) ∧ nnD (z_d T (B + 48) 57) ∧ nnD (z_d T (B + 48) 58) ∧ nnD (z_d T (B + 48) 59) ∧ nnD (z_d T (B + 48) 60) ∧ (bd 1 (z_d T (B + 48) 61) ∧ ¬ FP.Core.dkey (z_d T (B + 48) 61) < FP.Core.dkey FP.dconst0)) ∧
  (G 0 8 ≠ 0 → bd 8388608 (z_d T (B + 48) 64)) ∧ (∀ g, g < 4 → bd (4 * G 0 8) (z_d T (B + 84) g) ∧ (z_i T (B + 86) g = 1 → bd 1 (z_d T (B + 87) g))) ∧
  (∀ g, g < 6 → z_i T (B + 92) g = 1 → bd 1000 (z_l T (B + 93) g).toUInt64) ∧ (z_i T (B + 48) 75 = 1 → bd 100 (z_d T (B + 48) 76)) ∧
  ∀ g k, g < 6 → k < 4 → z_i T (B + 89) (4 * g + k) = 1 → bd 1000 (z_l T (B + 90) (4 * g + k)).toUInt64
def R8 (B : Nat) (G : z_Gh) (S T : z_St) : Prop := R8a B G S T ∧ R8b B G S T ∧ R8c B G S T
def R10 (B : Nat) (G : z_Gh) (S T : z_St) : Prop :=
  (G 0 10 ≤ 12 ∧ z_i S (B + 29) 6 = zI (G 0 10) ∧ z_i T (B + 48) 80 = zI (G 0 10)) ∧
  (∀ k, k < G 0 10 → z_i S (B + 30) k = z_i T (B + 97) k ∧ z_i S (B + 31) k = z_i T (B + 98) k ∧ z_i S (B + 32) k = z_i T (B + 99) k ∧ z_d S (B + 33) k = z_d T (B + 100) k ∧ z_d S (B + 34) k = z_d T (B + 101) k ∧ z_d S (B + 35) k = z_d T (B + 102) k ∧ nnD (z_d T (B + 100) k) ∧ nnD (z_d T (B + 101) k) ∧ bd 1000000 (z_d T (B + 102) k)) ∧
  (G 0 30 ≤ 12 ∧ z_i S (B + 29) 11 = zI (G 0 30) ∧ z_i T (B + 48) 87 = zI (G 0 30)) ∧
  (∀ k, k < G 0 30 → (∃ r, r < 100 ∧ z_i S (B + 36) k = zI r ∧ z_i T (B + 103) k = zI r) ∧ z_i S (B + 37) k = z_i T (B + 104) k ∧ (∃ s, s ≤ 1000 ∧ z_i T (B + 104) k = zI s) ∧ z_l S (B + 38) k = z_l T (B + 105) k ∧ z_l S (B + 39) k = z_l T (B + 106) k) ∧
  ∀ k, G 0 30 ≤ k → k < 12 → z_l S (B + 39) k = 0
/-- a flow that was told: no NaN, 0.0 .. 1000000.0 -/
def flowOk (a : UInt64) : Prop := FP.dcmp FP.dconst0 a ≠ none ∧ FP.dcmp a FP.dconst0 ≠ some .lt ∧ FP.dcmp a 4696837146684686336 ≠ some .gt
def R11 (B : Nat) (G : z_Gh) (S T : z_St) : Prop :=
  (1 ≤ G 0 11 ∧ G 0 11 ≤ 12 ∧ z_i S (B + 40) 0 = zI (G 0 11) ∧ z_i T (B + 48) 92 = zI (G 0 11)) ∧
  (∀ j, j < 72 → z_i S (B + 42) j = z_i T (B + 107) j ∧ (z_i S (B + 42) j = 0 ∨ (z_i S (B + 42) j = 1 ∧ z_d S (B + 41) j = z_d T (B + 108) j ∧ flowOk (z_d S (B + 41) j)))) ∧
  ∀ k, k < 8 → z_i S (B + 44) k = z_i T (B + 109) k ∧ (z_i S (B + 44) k = 0 ∨ (z_i S (B + 44) k = 1 ∧ z_d S (B + 43) k = z_d T (B + 110) k ∧ flowOk (z_d S (B + 43) k)))
/-- the model's book: its bytes as numbers -/
def bkSum (f : Nat → Nat) : Nat → Int32
  | 0 => 0
  | k + 1 => (((bkSum f k ^^^ zI (f k)) <<< 7) ||| ((bkSum f k ^^^ zI (f k)).toUInt32 >>> 25).toInt32) * (-1028477379)
def bkW (f : Nat → Nat) : Int32 := (((zI (f 28) <<< 8) ||| zI (f 29)) <<< 8 ||| zI (f 30)) <<< 8 ||| zI (f 31)
def bkNo (f : Nat → Nat) : Nat := 256 * f 0 + f 1
def bkWhole (f : Nat → Nat) : Prop := bkNo f ≠ 0 ∧ f 2 ≤ 24 ∧ bkSum f 28 = bkW f
def R12 (B : Nat) (G : z_Gh) (S T : z_St) : Prop :=
  (G 0 12 ≤ 60000 ∧ z_i S (B + 45) 2 = zI (G 0 12) ∧ z_i T (B + 48) 99 = zI (G 0 12)) ∧
  (∀ j, j < 1024 → G 15 j < 256 ∧ z_i T (B + 111) j = zI (G 15 j) ∧ z_i S (B + 46) j = (zI (G 15 j)).toInt8.toInt32) ∧
  ∀ p, p < 32 → (bkWhole (fun k => G 15 (32 * p + k)) ∧ z_i S (B + 47) p = zI (bkNo (fun k => G 15 (32 * p + k)))) ∨ (¬ bkWhole (fun k => G 15 (32 * p + k)) ∧ z_i S (B + 47) p = 0)
def RR (B : Nat) (i : Nat) (G : z_Gh) (S T : z_St) : Prop := match i with
  | 1 => R1 B G S T
  | 2 => R2 B G S T
  | 3 => R3 B G S T
  | 4 => R4 B G S T
  | 5 => R5 B G S T
  | 6 => R6 B G S T
  | 7 => R7 B G S T
  | 8 => R8 B G S T
  | 10 => R10 B G S T
  | 11 => R11 B G S T
  | 12 => R12 B G S T
  | _ => True
def Rr (B : Nat) (S T : z_St) : Prop := z_i S B 17 = z_i T (B + 48) 1 ∧ z_i S B 18 = z_i T (B + 48) 2
def RG (B : Nat) (G : z_Gh) (S T : z_St) : Prop := cSh B S ∧ mSh B T ∧ (∀ i, RR B i G S T) ∧ Rr B S T
def Rel (B : Nat) (S T : z_St) : Prop := ∃ G, RG B G S T
/-- ghosts grow -/
def gL (cs : Nat → Prop) (x : Nat) (G G' : z_Gh) : Prop :=
  (∀ i, ¬ cs (i % 20) → G' 0 i = G 0 i) ∧ (∀ i, i < 6 → G 0 i ≤ G' 0 i) ∧ (∀ q, G 1 q ≠ 0 → G' 1 q = G 1 q ∧ G' 2 q = G 2 q ∧ G' 3 q = G 3 q ∧ G' 4 q = G 4 q) ∧ (¬ cs 1 → ∀ q, G' 1 q = G 1 q) ∧
  (∀ b, b < G 0 2 → G' 5 b = G 5 b ∧ G' 6 b = G 6 b) ∧ (∀ t, t < G 0 3 → G' 7 t = G 7 t ∧ G' 8 t = G 8 t) ∧ (∀ r, r < G 0 4 → G' 9 r = G 9 r ∧ G' 10 r = G 10 r ∧ G' 13 r = G 13 r) ∧ (∀ c, c < G 0 5 → G' 11 c = G 11 c ∧ G' 12 c = G 12 c) ∧
  (¬ cs 7 → G' 14 = G 14) ∧ (¬ cs 12 → G' 15 = G 15) ∧ ∀ a, a < x → G' 20 a = G 20 a
theorem gL_rf (cs : Nat → Prop) (x : Nat) (G : z_Gh) : gL cs x G G :=
  ⟨fun _ _ => rfl, fun _ _ => Nat.le_refl _, fun _ _ => ⟨rfl, rfl, rfl, rfl⟩, fun _ _ => rfl, fun _ _ => ⟨rfl, rfl⟩, fun _ _ => ⟨rfl, rfl⟩, fun _ _ => ⟨rfl, rfl, rfl⟩, fun _ _ => ⟨rfl, rfl⟩, fun _ => rfl, fun _ => rfl, fun _ _ => rfl⟩
