/-! more numbers; the static rows -/
theorem zI_div {a b : Nat} (ha : a < 2147483648) (hb : b < 2147483648) : zI a / zI b = zI (a / b) := by
  refine y_eq.mpr ?_
  rw [Int32.toInt_div, zI_I ha, zI_I hb, zI_I (Nat.lt_of_le_of_lt (Nat.div_le_self a b) ha)]
  have h1 : (a : Int).tdiv (b : Int) = ((a / b : Nat) : Int) := by
    rw [Int.tdiv_eq_ediv_of_nonneg (by omega)]; rfl
  have h2 : a / b ≤ a := Nat.div_le_self a b
  rw [h1]
  generalize a / b = c at *
  rw [Int.bmod_eq_of_le (by omega) (by omega)]
theorem zI_divR {n q : Nat} (hq : q < 2147483648) (hn : (OfNat.ofNat n : Nat) < 2147483648) : zI q / (no_index (OfNat.ofNat n) : Int32) = zI (q / (OfNat.ofNat n : Nat)) := zI_div hq hn
theorem ixc (v : Int32) (n : Nat) (hn : n < 2147483647) : ((v < 0 ∨ (OfNat.ofNat n : Int32) < v) ∧ (0 ≤ v ∧ v ≤ (OfNat.ofNat n : Int32)) = False) ∨ ∃ q, q ≤ (OfNat.ofNat n : Nat) ∧ v = zI q := by
  have h0 : (0 : Int32).toInt = 0 := by decide
  have hnn : (OfNat.ofNat n : Int32).toInt = (n : Int) := zI_I (q := n) (by omega)
  by_cases h : v < 0 ∨ (OfNat.ofNat n : Int32) < v
  · exact Or.inl ⟨h, eq_false fun q => h.elim (fun h => absurd q.1 (Int32.not_le.mpr h)) (fun h => absurd q.2 (Int32.not_le.mpr h))⟩
  · refine Or.inr ⟨v.toInt.toNat, ?_⟩
    rw [y_lt, y_lt, h0, hnn] at h
    have h2 := y_lim v
    refine ⟨(by omega : v.toInt.toNat ≤ n), y_eq.mpr ?_⟩
    rw [zI_I (by omega)]; omega
/-- from 1 on -/
theorem ixd (v : Int32) (n : Nat) (hn : n < 2147483647) : ((v < 1 ∨ (OfNat.ofNat n : Int32) < v) ∧ (1 ≤ v ∧ v ≤ (OfNat.ofNat n : Int32)) = False) ∨ ∃ q, 1 ≤ q ∧ q ≤ (OfNat.ofNat n : Nat) ∧ v = zI q := by
  have h0 : (1 : Int32).toInt = 1 := by decide
  have hnn : (OfNat.ofNat n : Int32).toInt = (n : Int) := zI_I (q := n) (by omega)
  by_cases h : v < 1 ∨ (OfNat.ofNat n : Int32) < v
  · exact Or.inl ⟨h, eq_false fun q => h.elim (fun h => absurd q.1 (Int32.not_le.mpr h)) (fun h => absurd q.2 (Int32.not_le.mpr h))⟩
  · refine Or.inr ⟨v.toInt.toNat, ?_⟩
    rw [y_lt, y_lt, h0, hnn] at h
    have h2 := y_lim v
    refine ⟨by omega, (by omega : v.toInt.toNat ≤ n), y_eq.mpr ?_⟩
    rw [zI_I (by omega)]; omega
/-- from NONE on -/
theorem ixm (v : Int32) (n : Nat) (hn : n < 2147483647) : ((v < -1 ∨ (OfNat.ofNat n : Int32) < v) ∧ (-1 ≤ v ∧ v ≤ (OfNat.ofNat n : Int32)) = False) ∨ v = -1 ∨ ∃ q, q ≤ (OfNat.ofNat n : Nat) ∧ v = zI q := by
  have hnn : (OfNat.ofNat n : Int32).toInt = (n : Int) := zI_I (q := n) (by omega)
  by_cases h : v < -1 ∨ (OfNat.ofNat n : Int32) < v
  · exact Or.inl ⟨h, eq_false fun q => h.elim (fun h => absurd q.1 (Int32.not_le.mpr h)) (fun h => absurd q.2 (Int32.not_le.mpr h))⟩
  · by_cases h1 : v = -1
    · exact Or.inr (Or.inl h1)
    · refine Or.inr (Or.inr ⟨v.toInt.toNat, ?_⟩)
      rw [y_lt, y_lt, zI_m1, hnn] at h
      rw [y_eq, zI_m1] at h1
      have h2 := y_lim v
      refine ⟨(by omega : v.toInt.toNat ≤ n), y_eq.mpr ?_⟩
      rw [zI_I (by omega)]; omega
section St
variable {B : Nat} {S : z_St}
theorem sg_k (h : cSh B S) : z_k S (z_s S 0) = 121 := h.2.2.2.2.1
theorem sg_n (h : cSh B S) : z_n S (z_s S 0) = 6 := h.2.2.2.2.2.1
theorem sg_0 (h : cSh B S) : z_i S (z_s S 0) 0 = 11 := h.2.2.2.2.2.2.1 0 (by decide)
theorem sg_1 (h : cSh B S) : z_i S (z_s S 0) 1 = 12 := h.2.2.2.2.2.2.1 1 (by decide)
theorem sg_2 (h : cSh B S) : z_i S (z_s S 0) 2 = 21 := h.2.2.2.2.2.2.1 2 (by decide)
theorem sg_3 (h : cSh B S) : z_i S (z_s S 0) 3 = 21 := h.2.2.2.2.2.2.1 3 (by decide)
theorem sg_4 (h : cSh B S) : z_i S (z_s S 0) 4 = 31 := h.2.2.2.2.2.2.1 4 (by decide)
theorem sg_5 (h : cSh B S) : z_i S (z_s S 0) 5 = 32 := h.2.2.2.2.2.2.1 5 (by decide)
theorem kd_k (h : cSh B S) : z_k S (z_s S 1) = 121 := h.2.2.2.2.2.2.2.1
theorem kd_n (h : cSh B S) : z_n S (z_s S 1) = 8 := h.2.2.2.2.2.2.2.2.1
theorem kd_a (h : cSh B S) {f : Nat} (hf : f < 8) : z_i S (z_s S 1) f = ([5, 0, 4, 1, 7, 2, 3, 6].getD f 0) := h.2.2.2.2.2.2.2.2.2 f hf
end St
theorem ixn {v : Int32} {n : Nat} (hn : n < 2147483647) (h : v < 0 ∨ (OfNat.ofNat n : Int32) < v) : ∀ k : Nat, (OfNat.ofNat k : Nat) ≤ (OfNat.ofNat n : Nat) → (v = (no_index (OfNat.ofNat k) : Int32)) = False := by
  intro k hk
  have hk' : k ≤ n := hk
  refine eq_false fun e => ?_
  have h0 : (0 : Int32).toInt = 0 := by decide
  have hnn : (OfNat.ofNat n : Int32).toInt = (n : Int) := zI_I (q := n) (by omega)
  have hkk : (OfNat.ofNat k : Int32).toInt = (k : Int) := zI_I (q := k) (by omega)
  rw [e, y_lt, y_lt, h0, hnn, hkk] at h
  omega
theorem y_u {α : Type} (f : Nat → Nat → α) (a k : Nat) (x : α) (b j : Nat) : z_u f a k x b j = if b = a then (if j = k then x else f b j) else f b j := rfl
