/-! the root's digits -/
section RootN
variable {S T : z_St}
theorem OL_bv {w : Nat} (hw : w < 2 ^ 63) : (Int64.ofNat w).toBitVec.toNat = w := by
  show (BitVec.ofNat 64 w).toNat = w
  rw [BitVec.toNat_ofNat]; omega
theorem OL_eq {v : Int64} {w : Nat} (h : v.toBitVec.toNat = w) : v = Int64.ofNat w := by
  apply Int64.toBitVec_inj.mp
  apply BitVec.eq_of_toNat_eq
  have := v.toBitVec.isLt
  show _ = (BitVec.ofNat 64 w).toNat
  rw [BitVec.toNat_ofNat, h]
  omega
theorem OL_shl {w k : Nat} (hk : k < 64) (hw : w * 2 ^ k < 2 ^ 63) : (Int64.ofNat w) <<< ((zI k).toInt64 &&& 63) = Int64.ofNat (w * 2 ^ k) := by
  have h1 : w ≤ w * 2 ^ k := Nat.le_mul_of_pos_right _ (Nat.two_pow_pos k)
  apply OL_eq
  rw [Int64.toBitVec_shiftLeft]
  show ((Int64.ofNat w).toBitVec <<< (((zI k).toInt64 &&& 63).toBitVec.smod 64).toNat).toNat = _
  rw [EX_tab k hk, BitVec.toNat_shiftLeft, OL_bv (by omega), Nat.shiftLeft_eq]
  generalize w * 2 ^ k = y at *
  omega
theorem OL_add (a b : Nat) : Int64.ofNat a + Int64.ofNat b = Int64.ofNat (a + b) := (Int64.ofNat_add a b).symm
theorem OL_sub {a b : Nat} (h : b ≤ a) : Int64.ofNat a - Int64.ofNat b = Int64.ofNat (a - b) := by
  have : Int64.ofNat a = Int64.ofNat (a - b) + Int64.ofNat b := by rw [OL_add, Nat.sub_add_cancel h]
  rw [this, Int64.add_sub_cancel]
theorem OL_I {w : Nat} (hw : w < 2 ^ 63) : (Int64.ofNat w).toInt = (w : Int) := Int64.toInt_ofNat_of_lt hw
theorem OL_lt {a b : Nat} (ha : a < 2 ^ 63) (hb : b < 2 ^ 63) : (Int64.ofNat a < Int64.ofNat b) = (a < b) := by
  rw [Int64.lt_iff_toInt_lt, OL_I ha, OL_I hb]
  exact propext ⟨fun _ => by omega, fun _ => by omega⟩
theorem OL_le {a b : Nat} (ha : a < 2 ^ 63) (hb : b < 2 ^ 63) : (Int64.ofNat a ≤ Int64.ofNat b) = (a ≤ b) := by
  rw [Int64.le_iff_toInt_le, OL_I ha, OL_I hb]
  exact propext ⟨fun _ => by omega, fun _ => by omega⟩
theorem OL_inj {a b : Nat} (ha : a < 2 ^ 63) (hb : b < 2 ^ 63) : (Int64.ofNat a = Int64.ofNat b) = (a = b) := by
  rw [← Int64.toInt_inj, OL_I ha, OL_I hb]
  exact propext ⟨fun _ => by omega, fun _ => by omega⟩
theorem OL_and1 {a : Nat} (ha : a < 2 ^ 63) : Int64.ofNat a &&& (1 : Int64) = Int64.ofNat (a % 2) := by
  apply OL_eq
  rw [Int64.toBitVec_and, BitVec.toNat_and, OL_bv ha]
  exact Nat.and_two_pow_sub_one_eq_mod a 1
theorem OL_and3 {a : Nat} (ha : a < 2 ^ 63) : Int64.ofNat a &&& (3 : Int64) = Int64.ofNat (a % 4) := by
  apply OL_eq
  rw [Int64.toBitVec_and, BitVec.toNat_and, OL_bv ha]
  exact Nat.and_two_pow_sub_one_eq_mod a 2
theorem OL_or {a b i : Nat} (hb : b < 2 ^ i) (ha : 2 ^ i * a + b < 2 ^ 63) : Int64.ofNat (2 ^ i * a) ||| Int64.ofNat b = Int64.ofNat (2 ^ i * a + b) := by
  apply OL_eq
  rw [Int64.toBitVec_or, BitVec.toNat_or]
  generalize hy : 2 ^ i * a = y at *
  rw [OL_bv (by omega), OL_bv (by omega), ← hy]
  exact (Nat.two_pow_add_eq_or_of_lt hb a).symm
theorem sq_add (a b : Nat) : (a + b) * (a + b) = a * a + 2 * (a * b) + b * b := by
  rw [Nat.add_mul, Nat.mul_add, Nat.mul_add, Nat.mul_comm b a]; omega
/-! the class's digits -/
def rdg : Nat → Nat → Nat → Nat × Nat
  | 0, r, D => (D, r)
  | j + 1, r, D => if 2 * D + 2 ^ j ≤ r then rdg j (2 * (r - (2 * D + 2 ^ j))) (D + 2 ^ j) else rdg j (2 * r) D
theorem rdg_s (X : Nat) : ∀ j r D, r * 2 ^ j + 2 * (D * D) = 2 * X → X < (D + 2 ^ j) * (D + 2 ^ j) → (rdg j r D).1 * (rdg j r D).1 ≤ X ∧ X < ((rdg j r D).1 + 1) * ((rdg j r D).1 + 1) ∧ (rdg j r D).2 + 2 * ((rdg j r D).1 * (rdg j r D).1) = 2 * X := by
  intro j
  induction j with
  | zero =>
    intro r D h1 h2
    show D * D ≤ X ∧ X < (D + 1) * (D + 1) ∧ r + 2 * (D * D) = 2 * X
    rw [Nat.pow_zero, Nat.mul_one] at h1
    exact ⟨by omega, h2, h1⟩
  | succ j ih =>
    intro r D h1 h2
    have hp : 2 ^ (j + 1) = 2 ^ j + 2 ^ j := by rw [Nat.pow_succ]; omega
    have e1 : r * 2 ^ (j + 1) = 2 * (r * 2 ^ j) := by rw [Nat.pow_succ]; rw [← Nat.mul_assoc]; omega
    rw [e1] at h1
    by_cases c : 2 * D + 2 ^ j ≤ r
    · rw [show rdg (j + 1) r D = rdg j (2 * (r - (2 * D + 2 ^ j))) (D + 2 ^ j) from if_pos c]
      refine ih _ _ ?_ ?_
      · have a1 : 2 * (r - (2 * D + 2 ^ j)) * 2 ^ j = 2 * (r * 2 ^ j - (2 * (D * 2 ^ j) + 2 ^ j * 2 ^ j)) := by
          rw [Nat.mul_assoc, Nat.sub_mul, Nat.add_mul, Nat.mul_assoc]
        have a2 : 2 * (D * 2 ^ j) + 2 ^ j * 2 ^ j ≤ r * 2 ^ j := by
          have := Nat.mul_le_mul_right (2 ^ j) c
          rw [Nat.add_mul, Nat.mul_assoc] at this
          exact this
        rw [a1, sq_add]
        generalize r * 2 ^ j = u at *
        generalize D * 2 ^ j = v at *
        generalize 2 ^ j * 2 ^ j = w at *
        omega
      · rw [hp, ← Nat.add_assoc] at h2
        exact h2
    · rw [show rdg (j + 1) r D = rdg j (2 * r) D from if_neg c]
      refine ih _ _ ?_ ?_
      · rw [Nat.mul_assoc]; exact h1
      · have a2 : r * 2 ^ j < (2 * D + 2 ^ j) * 2 ^ j := Nat.mul_lt_mul_of_pos_right (by omega) (Nat.two_pow_pos j)
        rw [Nat.add_mul, Nat.mul_assoc] at a2
        rw [sq_add]
        generalize r * 2 ^ j = u at *
        generalize D * 2 ^ j = v at *
        generalize 2 ^ j * 2 ^ j = w at *
        omega
def vI : Nat → Int32
  | 0 => -1
  | j + 1 => zI j
theorem vI_p (j : Nat) : zI j + (-1 : Int32) = vI j := by
  cases j with
  | zero => rfl
  | succ j =>
    have : zI (j + 1) = zI j + 1 := by rw [zI_addR]
    rw [this, Int32.add_assoc]
    exact Int32.add_zero _
def rfin (p : Nat × Nat) : Nat := if p.2 = 0 then p.1 else p.1 + p.1 % 2
theorem rdg_b : ∀ j r D, r < 2 * (2 * D + 2 ^ j) → D + 2 ^ j ≤ 2 ^ 54 → (rdg j r D).1 < 2 ^ 54 ∧ (rdg j r D).2 < 2 ^ 57 := by
  intro j
  induction j with
  | zero => intro r D h1 h2; show D < _ ∧ r < _; omega
  | succ j ih =>
    intro r D h1 h2
    have hpos := Nat.two_pow_pos j
    have hp : 2 ^ (j + 1) = 2 ^ j + 2 ^ j := by rw [Nat.pow_succ]; omega
    rw [hp] at h1 h2
    by_cases c : 2 * D + 2 ^ j ≤ r
    · rw [show rdg (j + 1) r D = rdg j (2 * (r - (2 * D + 2 ^ j))) (D + 2 ^ j) from if_pos c]
      exact ih _ _ (by omega) (by omega)
    · rw [show rdg (j + 1) r D = rdg j (2 * r) D from if_neg c]
      exact ih _ _ (by omega) (by omega)
theorem l_rd (S : z_St) : ∀ j N r D, j < N → j ≤ 54 → r < 2 * (2 * D + 2 ^ j) → D + 2 ^ j ≤ 2 ^ 54 → l_X11_rootDigits_12 N (Int64.ofNat r) (Int64.ofNat D) (Int64.ofNat (2 * D)) (vI j) S = some (Int64.ofNat (rfin (rdg j r D)), S) := by
  intro j
  induction j with
  | zero =>
    intro N r D hN hj h1 h2
    obtain ⟨N, rfl⟩ : ∃ n, N = n + 1 := ⟨N - 1, by omega⟩
    rw [l_X11_rootDigits_12]
    have c0 : vI 0 < 0 := by decide
    have e0 : (Int64.ofNat r = (0 : Int64)) = (r = 0) := OL_inj (b := 0) (by omega) (by omega)
    have ea := OL_and1 (a := D) (by omega)
    simp only [if_pos c0, y_ceq, e0, ea, OL_add]
    unfold rfin
    show _ = some (Int64.ofNat (if r = 0 then D else D + D % 2), S)
    split <;> rfl
  | succ j ih =>
    intro N r D hN hj h1 h2
    obtain ⟨N, rfl⟩ : ∃ n, N = n + 1 := ⟨N - 1, by omega⟩
    have hp : 2 ^ (j + 1) = 2 ^ j + 2 ^ j := by rw [Nat.pow_succ]; omega
    rw [hp] at h1 h2
    have hpos := Nat.two_pow_pos j
    have c0 : ¬ zI j < 0 := by
      rw [Int32.lt_iff_toInt_lt, zI_I (by omega)]
      have : (0 : Int32).toInt = 0 := by decide
      omega
    have s1 : (1 : Int64) <<< ((zI j).toInt64 &&& 63) = Int64.ofNat (2 ^ j) := by
      have := OL_shl (w := 1) (k := j) (by omega) (by rw [Nat.one_mul]; omega)
      rw [Nat.one_mul] at this
      exact this
    have lt := OL_lt (a := r) (b := 2 * D + 2 ^ j) (by omega) (by omega)
    rw [show vI (j + 1) = zI j from rfl, l_X11_rootDigits_12]
    simp only [if_neg c0, s1, OL_add, y_0cl, lt, vI_p]
    by_cases c : 2 * D + 2 ^ j ≤ r
    · rw [if_neg (by omega), show rdg (j + 1) r D = rdg j (2 * (r - (2 * D + 2 ^ j))) (D + 2 ^ j) from if_pos c]
      have hs := ih N (2 * (r - (2 * D + 2 ^ j))) (D + 2 ^ j) (by omega) (by omega) (by omega) (by omega)
      have e1 : (Int64.ofNat r - Int64.ofNat (2 * D + 2 ^ j)) <<< (((1 : Int32)).toInt64 &&& 63) = Int64.ofNat (2 * (r - (2 * D + 2 ^ j))) := by
        rw [OL_sub c]
        have := OL_shl (w := r - (2 * D + 2 ^ j)) (k := 1) (by omega) (by omega)
        rw [Nat.mul_comm 2 (r - (2 * D + 2 ^ j))]
        exact this
      rw [e1, show 2 * D + 2 ^ j + 2 ^ j = 2 * (D + 2 ^ j) by omega]
      exact hs
    · rw [if_pos (by omega), show rdg (j + 1) r D = rdg j (2 * r) D from if_neg c]
      have hs := ih N (2 * r) D (by omega) (by omega) (by omega) (by omega)
      have e1 : (Int64.ofNat r) <<< (((1 : Int32)).toInt64 &&& 63) = Int64.ofNat (2 * r) := by
        have := OL_shl (w := r) (k := 1) (by omega) (by omega)
        rw [Nat.mul_comm 2 r]
        exact this
      rw [e1]
      exact hs
end RootN
