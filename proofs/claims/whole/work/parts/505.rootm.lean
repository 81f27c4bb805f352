/-! the root's digits: the model -/
section RootM
variable {S T : z_St}
def xi (m i : Nat) : Nat := if i ≤ 27 then m / 4 ^ (27 - i) else m * 4 ^ (i - 27)
def xb (m i : Nat) : Nat := if i < 27 then m / 4 ^ (26 - i) % 4 else 0
theorem xb_lt (m i : Nat) : xb m i < 4 := by
  unfold xb
  split <;> omega
theorem xi_s (m i : Nat) : xi m (i + 1) = 4 * xi m i + xb m i := by
  unfold xi xb
  by_cases c : i < 27
  · rw [if_pos (by omega), if_pos (by omega), if_pos c, show 27 - i = (26 - i) + 1 by omega, show 27 - (i + 1) = 26 - i by omega, Nat.pow_succ, ← Nat.div_div_eq_div_mul]
    generalize m / 4 ^ (26 - i) = y
    omega
  · rw [if_neg (by omega), if_neg c]
    by_cases e : i = 27
    · subst e
      rw [if_pos (by omega), show 27 + 1 - 27 = 1 from rfl, show 27 - 27 = 0 from rfl, Nat.pow_one, Nat.pow_zero, Nat.div_one]
      omega
    · rw [if_neg (by omega), show i + 1 - 27 = (i - 27) + 1 by omega, Nat.pow_succ, ← Nat.mul_assoc]
      omega
theorem rt_sh : ∀ i : Fin 27, (52 : Int32) - (2 : Int32) * zI i.1 = zI (52 - 2 * i.1) := by decide +kernel
theorem rt_b {m i : Nat} (hm : m < 2 ^ 54) (hi : i < 27) : ((Int64.ofNat m) >>> ((((52 : Int32)) - (((2 : Int32)) * zI i)).toInt64 &&& 63)) &&& (3 : Int64) = Int64.ofNat (xb m i) := by
  have e1 := rt_sh ⟨i, hi⟩
  have e2 : 2 ^ (52 - 2 * i) = 4 ^ (26 - i) := by
    rw [show 52 - 2 * i = 2 * (26 - i) by omega, Nat.pow_mul]
  have e3 : m / 4 ^ (26 - i) ≤ m := Nat.div_le_self _ _
  rw [show (52 : Int32) - (2 : Int32) * zI i = zI (52 - 2 * i) from e1, EX_shr (by omega) (by omega), e2, OL_and3 (by omega)]
  unfold xb
  rw [if_pos hi]
def radd (r q : Nat) : Nat := if r % 2 = 1 ∧ (q ≠ 0 ∨ r / 2 % 2 = 1) then 1 else 0
theorem OL_sh2 {w : Nat} (hw : w < 2 ^ 61) : (Int64.ofNat w) <<< (((2 : Int32)).toInt64 &&& 63) = Int64.ofNat (2 ^ 2 * w) := by
  have := OL_shl (w := w) (k := 2) (by omega) (by omega)
  rw [Nat.mul_comm]
  exact this
theorem OL_sh1 {w : Nat} (hw : w < 2 ^ 61) : (Int64.ofNat w) <<< (((1 : Int32)).toInt64 &&& 63) = Int64.ofNat (2 ^ 1 * w) := by
  have := OL_shl (w := w) (k := 1) (by omega) (by omega)
  rw [Nat.mul_comm]
  exact this
theorem OL_sr1 {w : Nat} (hw : w < 2 ^ 63) : (Int64.ofNat w) >>> (((1 : Int32)).toInt64 &&& 63) = Int64.ofNat (w / 2) := by
  have := EX_shr (w := w) (k := 1) hw (by omega)
  exact this
theorem l_109e {r q : Nat} (hr : r < 2 ^ 54) (hq : q < 2 ^ 57) (v4 : Int32) (v5 : Int64) (N : Nat) (S : z_St) : l_X12_root_109 (N + 1) v4 v5 (Int64.ofNat q) (Int64.ofNat r) (zI 54) S = j_X12_root_227 v4 (Int64.ofNat (r / 2)) (Int64.ofNat (radd r q)) S := by
  have c0 : (54 : Int32) ≤ zI 54 := by decide
  have e1 := OL_and1 (a := r) (by omega)
  have e2 := OL_and1 (a := r / 2) (by omega)
  have e3 := OL_sr1 (w := r) (by omega)
  have e4 : (Int64.ofNat (r % 2) = (1 : Int64)) = (r % 2 = 1) := OL_inj (b := 1) (by omega) (by omega)
  have e5 : (Int64.ofNat (r / 2 % 2) = (1 : Int64)) = (r / 2 % 2 = 1) := OL_inj (b := 1) (by omega) (by omega)
  have e6 : (Int64.ofNat q = (0 : Int64)) = (q = 0) := OL_inj (b := 0) (by omega) (by omega)
  rw [l_X12_root_109]
  simp only [if_pos c0, y_ceq, e1, e2, e3, e4, e5, e6]
  unfold radd
  by_cases a1 : r % 2 = 1
  · by_cases a2 : q = 0
    · by_cases a3 : r / 2 % 2 = 1
      · rw [if_pos a1, if_pos a2, if_pos a3, if_pos ⟨a1, Or.inr a3⟩]; rfl
      · rw [if_pos a1, if_pos a2, if_neg a3, if_neg (fun z => z.2.elim (fun y => y a2) a3)]; rfl
    · rw [if_pos a1, if_neg a2, if_pos ⟨a1, Or.inl a2⟩]; rfl
  · rw [if_neg a1, if_neg (fun z => a1 z.1)]; rfl
theorem l_109 {m : Nat} (hm : m < 2 ^ 54) (v4 : Int32) (S : z_St) (k : Nat) : ∀ i N r q, 54 - i = k → i ≤ 54 → k < N → r * r + q = xi m i → q ≤ 2 * r → r < 2 ^ i → ∃ r' q', l_X12_root_109 N v4 (Int64.ofNat m) (Int64.ofNat q) (Int64.ofNat r) (zI i) S = j_X12_root_227 v4 (Int64.ofNat (r' / 2)) (Int64.ofNat (radd r' q')) S ∧ r' * r' + q' = xi m 54 ∧ q' ≤ 2 * r' ∧ r' < 2 ^ 54 := by
  induction k with
  | zero =>
    intro i N r q hk hi hN h1 h2 h3
    obtain ⟨N, rfl⟩ : ∃ n, N = n + 1 := ⟨N - 1, by omega⟩
    have : i = 54 := by omega
    subst this
    exact ⟨r, q, l_109e h3 (by omega) v4 _ N S, h1, h2, h3⟩
  | succ k ih =>
    intro i N r q hk hi hN h1 h2 h3
    obtain ⟨N, rfl⟩ : ∃ n, N = n + 1 := ⟨N - 1, by omega⟩
    have hp : 2 ^ (i + 1) = 2 ^ i + 2 ^ i := by rw [Nat.pow_succ]; omega
    have hb := xb_lt m i
    have hr : r < 2 ^ 53 := Nat.lt_of_lt_of_le h3 (Nat.pow_le_pow_right (by decide) (by omega))
    have hx := xi_s m i
    have c0 : ¬ (54 : Int32) ≤ zI i := by
      rw [Int32.le_iff_toInt_le, zI_I (by omega)]
      have : (54 : Int32).toInt = 54 := by decide
      omega
    have s1 := OL_sh2 (w := q) (by omega)
    have s2 := OL_sh2 (w := r) (by omega)
    have s3 := OL_sh1 (w := r) (by omega)
    have o1 := OL_or (a := q) (b := xb m i) (i := 2) hb (by omega)
    have o2 : Int64.ofNat (2 ^ 2 * r) ||| (1 : Int64) = Int64.ofNat (2 ^ 2 * r + 1) := OL_or (a := r) (b := 1) (i := 2) (by decide) (by omega)
    have o3 : Int64.ofNat (2 ^ 1 * r) ||| (1 : Int64) = Int64.ofNat (2 ^ 1 * r + 1) := OL_or (a := r) (b := 1) (i := 1) (by decide) (by omega)
    have lt := OL_lt (a := 2 ^ 2 * q + xb m i) (b := 2 ^ 2 * r + 1) (by omega) (by omega)
    have ez : zI i + 1 = zI (i + 1) := by rw [zI_addR]
    have step : l_X12_root_109 (N + 1) v4 (Int64.ofNat m) (Int64.ofNat q) (Int64.ofNat r) (zI i) S = j_X12_root_145 (l_X12_root_109 N) v4 (Int64.ofNat m) (Int64.ofNat r) (zI i) (Int64.ofNat (2 ^ 2 * q)) (Int64.ofNat (xb m i)) S := by
      rw [l_X12_root_109]
      by_cases c : i < 27
      · have c1 : ¬ (27 : Int32) ≤ zI i := by
          rw [Int32.le_iff_toInt_le, zI_I (by omega)]
          have : (27 : Int32).toInt = 27 := by decide
          omega
        simp only [if_neg c0, if_neg c1, s1, rt_b hm c]
      · have c1 : (27 : Int32) ≤ zI i := by
          rw [Int32.le_iff_toInt_le, zI_I (by omega)]
          have : (27 : Int32).toInt = 27 := by decide
          omega
        have e0 : xb m i = 0 := if_neg c
        simp only [if_neg c0, if_pos c1, s1, e0]
        rfl
    rw [step]
    unfold j_X12_root_145
    simp only [o1, s2, o2, s3, o3, y_cl0, lt, ez]
    have e2 : 2 * r * (2 * r) = 4 * (r * r) := by rw [Nat.mul_mul_mul_comm]
    by_cases c : 2 ^ 2 * q + xb m i < 2 ^ 2 * r + 1
    · rw [if_pos c]
      exact ih (i + 1) N (2 * r) (2 ^ 2 * q + xb m i) (by omega) (by omega) (by omega) (by rw [e2]; generalize r * r = u at *; omega) (by omega) (by omega)
    · rw [if_neg c, OL_sub (by omega)]
      refine ih (i + 1) N (2 * r + 1) (2 ^ 2 * q + xb m i - (2 ^ 2 * r + 1)) (by omega) (by omega) (by omega) ?_ (by omega) (by omega)
      rw [sq_add, e2]
      generalize r * r = u at *
      omega
theorem OL_52 {c : Nat} (hc : c < 2 ^ 63) : ((4503599627370496 : Int64) ≤ Int64.ofNat c) = (4503599627370496 ≤ c) := by
  have e : (4503599627370496 : Int64).toInt = 4503599627370496 := by decide
  rw [Int64.le_iff_toInt_le, OL_I hc, e]
  exact propext ⟨fun _ => by omega, fun _ => by omega⟩
theorem l_62 (S : z_St) {p : Nat} (h1 : 2 ^ 52 ≤ p) (h2 : p < 2 ^ 53) (s : Nat) : ∀ N c v4, c * 2 ^ s = p → s < N → s ≤ 52 → l_X12_root_62 N v4 (Int64.ofNat c) S = if ((v4 - zI s) &&& ((1 : Int32))) = ((1 : Int32)) then l_X12_root_109 z_N (v4 - zI s + (-1 : Int32)) (Int64.ofNat (2 ^ 1 * p)) ((0 : Int64)) ((0 : Int64)) ((0 : Int32)) S else l_X12_root_109 z_N (v4 - zI s) (Int64.ofNat p) ((0 : Int64)) ((0 : Int64)) ((0 : Int32)) S := by
  induction s with
  | zero =>
    intro N c v4 hc hN hs
    obtain ⟨N, rfl⟩ : ∃ n, N = n + 1 := ⟨N - 1, by omega⟩
    rw [Nat.pow_zero, Nat.mul_one] at hc
    subst hc
    have ez : v4 - zI 0 = v4 := Int32.sub_zero v4
    have le := OL_52 (c := c) (by omega)
    have s1 := OL_sh1 (w := c) (by omega)
    rw [l_X12_root_62, ez]
    simp only [y_lec, le, if_pos (show 4503599627370496 ≤ c by omega), s1]
  | succ s ih =>
    intro N c v4 hc hN hs
    obtain ⟨N, rfl⟩ : ∃ n, N = n + 1 := ⟨N - 1, by omega⟩
    have hp : c * 2 ^ (s + 1) = 2 * (c * 2 ^ s) := by rw [Nat.pow_succ, ← Nat.mul_assoc]; omega
    have hl : c ≤ c * 2 ^ s := Nat.le_mul_of_pos_right _ (Nat.two_pow_pos s)
    have le := OL_52 (c := c) (by omega)
    have s1 := OL_sh1 (w := c) (by omega)
    have hs' := ih N (2 ^ 1 * c) (v4 + (-1 : Int32)) (by rw [Nat.pow_one, Nat.mul_assoc]; omega) (by omega) (by omega)
    have ez : v4 + (-1 : Int32) - zI s = v4 - zI (s + 1) := by
      rw [show zI (s + 1) = zI s + 1 by rw [zI_addR]]
      apply Int32.toBitVec_inj.mp
      simp only [Int32.toBitVec_sub, Int32.toBitVec_add]
      generalize v4.toBitVec = a
      generalize (zI s).toBitVec = b
      have q1 : (-1 : Int32).toBitVec.toNat = 4294967295 := by decide
      have q2 : (1 : Int32).toBitVec.toNat = 1 := by decide
      have q3 := a.isLt
      have q4 := b.isLt
      apply BitVec.eq_of_toNat_eq
      rw [BitVec.toNat_sub, BitVec.toNat_add, BitVec.toNat_sub, BitVec.toNat_add, q1, q2]
      omega
    rw [ez] at hs'
    rw [l_X12_root_62]
    simp only [y_lec, le, if_neg (show ¬ 4503599627370496 ≤ c by omega), s1]
    exact hs'
end RootM
