/-! reads of what was written; the combinators where they go through; numbers -/
theorem y_i_wi (S : z_St) (a k : Nat) (x : Int32) (b j : Nat) : z_i (z_wi S a k x) b j = if b = a ∧ j = k then x else z_i S b j := by
  show z_u _ a k x b j = _
  unfold z_u
  by_cases h : b = a
  · by_cases h2 : j = k
    · rw [if_pos h, if_pos h2, if_pos ⟨h, h2⟩]
    · rw [if_pos h, if_neg h2, if_neg (fun q => h2 q.2)]; rfl
  · rw [if_neg h, if_neg (fun q => h q.1)]; rfl
theorem y_l_wi (S : z_St) (a k : Nat) (x : Int32) (b j : Nat) : z_l (z_wi S a k x) b j = z_l S b j := rfl
theorem y_d_wi (S : z_St) (a k : Nat) (x : Int32) (b j : Nat) : z_d (z_wi S a k x) b j = z_d S b j := rfl
theorem y_r_wi (S : z_St) (a k : Nat) (x : Int32) (b j : Nat) : z_r (z_wi S a k x) b j = z_r S b j := rfl
theorem y_k_wi (S : z_St) (a k : Nat) (x : Int32) (b : Nat) : z_k (z_wi S a k x) b = z_k S b := rfl
theorem y_n_wi (S : z_St) (a k : Nat) (x : Int32) (b : Nat) : z_n (z_wi S a k x) b = z_n S b := rfl
theorem y_x_wi (S : z_St) (a k : Nat) (x : Int32) : z_x (z_wi S a k x) = z_x S := rfl
theorem y_w_wi (S : z_St) (a k : Nat) (x : Int32) : z_w (z_wi S a k x) = z_w S := rfl
theorem y_s_wi (S : z_St) (a k : Nat) (x : Int32) (j : Nat) : z_s (z_wi S a k x) j = z_s S j := rfl
theorem y_i_wl (S : z_St) (a k : Nat) (x : Int64) (b j : Nat) : z_i (z_wl S a k x) b j = z_i S b j := rfl
theorem y_l_wl (S : z_St) (a k : Nat) (x : Int64) (b j : Nat) : z_l (z_wl S a k x) b j = if b = a ∧ j = k then x else z_l S b j := by
  show z_u _ a k x b j = _
  unfold z_u
  by_cases h : b = a
  · by_cases h2 : j = k
    · rw [if_pos h, if_pos h2, if_pos ⟨h, h2⟩]
    · rw [if_pos h, if_neg h2, if_neg (fun q => h2 q.2)]; rfl
  · rw [if_neg h, if_neg (fun q => h q.1)]; rfl
theorem y_d_wl (S : z_St) (a k : Nat) (x : Int64) (b j : Nat) : z_d (z_wl S a k x) b j = z_d S b j := rfl
theorem y_r_wl (S : z_St) (a k : Nat) (x : Int64) (b j : Nat) : z_r (z_wl S a k x) b j = z_r S b j := rfl
theorem y_k_wl (S : z_St) (a k : Nat) (x : Int64) (b : Nat) : z_k (z_wl S a k x) b = z_k S b := rfl
theorem y_n_wl (S : z_St) (a k : Nat) (x : Int64) (b : Nat) : z_n (z_wl S a k x) b = z_n S b := rfl
theorem y_x_wl (S : z_St) (a k : Nat) (x : Int64) : z_x (z_wl S a k x) = z_x S := rfl
theorem y_w_wl (S : z_St) (a k : Nat) (x : Int64) : z_w (z_wl S a k x) = z_w S := rfl
theorem y_s_wl (S : z_St) (a k : Nat) (x : Int64) (j : Nat) : z_s (z_wl S a k x) j = z_s S j := rfl
theorem y_i_wd (S : z_St) (a k : Nat) (x : UInt64) (b j : Nat) : z_i (z_wd S a k x) b j = z_i S b j := rfl
theorem y_l_wd (S : z_St) (a k : Nat) (x : UInt64) (b j : Nat) : z_l (z_wd S a k x) b j = z_l S b j := rfl
theorem y_d_wd (S : z_St) (a k : Nat) (x : UInt64) (b j : Nat) : z_d (z_wd S a k x) b j = if b = a ∧ j = k then x else z_d S b j := by
  show z_u _ a k x b j = _
  unfold z_u
  by_cases h : b = a
  · by_cases h2 : j = k
    · rw [if_pos h, if_pos h2, if_pos ⟨h, h2⟩]
    · rw [if_pos h, if_neg h2, if_neg (fun q => h2 q.2)]; rfl
  · rw [if_neg h, if_neg (fun q => h q.1)]; rfl
theorem y_r_wd (S : z_St) (a k : Nat) (x : UInt64) (b j : Nat) : z_r (z_wd S a k x) b j = z_r S b j := rfl
theorem y_k_wd (S : z_St) (a k : Nat) (x : UInt64) (b : Nat) : z_k (z_wd S a k x) b = z_k S b := rfl
theorem y_n_wd (S : z_St) (a k : Nat) (x : UInt64) (b : Nat) : z_n (z_wd S a k x) b = z_n S b := rfl
theorem y_x_wd (S : z_St) (a k : Nat) (x : UInt64) : z_x (z_wd S a k x) = z_x S := rfl
theorem y_w_wd (S : z_St) (a k : Nat) (x : UInt64) : z_w (z_wd S a k x) = z_w S := rfl
theorem y_s_wd (S : z_St) (a k : Nat) (x : UInt64) (j : Nat) : z_s (z_wd S a k x) j = z_s S j := rfl
theorem y_i_wr (S : z_St) (a k : Nat) (x : Option Nat) (b j : Nat) : z_i (z_wr S a k x) b j = z_i S b j := rfl
theorem y_l_wr (S : z_St) (a k : Nat) (x : Option Nat) (b j : Nat) : z_l (z_wr S a k x) b j = z_l S b j := rfl
theorem y_d_wr (S : z_St) (a k : Nat) (x : Option Nat) (b j : Nat) : z_d (z_wr S a k x) b j = z_d S b j := rfl
theorem y_r_wr (S : z_St) (a k : Nat) (x : Option Nat) (b j : Nat) : z_r (z_wr S a k x) b j = if b = a ∧ j = k then x else z_r S b j := by
  show z_u _ a k x b j = _
  unfold z_u
  by_cases h : b = a
  · by_cases h2 : j = k
    · rw [if_pos h, if_pos h2, if_pos ⟨h, h2⟩]
    · rw [if_pos h, if_neg h2, if_neg (fun q => h2 q.2)]; rfl
  · rw [if_neg h, if_neg (fun q => h q.1)]; rfl
theorem y_k_wr (S : z_St) (a k : Nat) (x : Option Nat) (b : Nat) : z_k (z_wr S a k x) b = z_k S b := rfl
theorem y_n_wr (S : z_St) (a k : Nat) (x : Option Nat) (b : Nat) : z_n (z_wr S a k x) b = z_n S b := rfl
theorem y_x_wr (S : z_St) (a k : Nat) (x : Option Nat) : z_x (z_wr S a k x) = z_x S := rfl
theorem y_w_wr (S : z_St) (a k : Nat) (x : Option Nat) : z_w (z_wr S a k x) = z_w S := rfl
theorem y_s_wr (S : z_St) (a k : Nat) (x : Option Nat) (j : Nat) : z_s (z_wr S a k x) j = z_s S j := rfl
theorem y_i_new (S : z_St) (c n : Nat) (b j : Nat) : z_i (z_new S c n) b j = if b = z_x S then 0 else z_i S b j := by
  show (z_ub (α := Nat → Int32) _ (z_x S) _ b) j = _
  unfold z_ub
  split <;> rfl
theorem y_l_new (S : z_St) (c n : Nat) (b j : Nat) : z_l (z_new S c n) b j = if b = z_x S then 0 else z_l S b j := by
  show (z_ub (α := Nat → Int64) _ (z_x S) _ b) j = _
  unfold z_ub
  split <;> rfl
theorem y_d_new (S : z_St) (c n : Nat) (b j : Nat) : z_d (z_new S c n) b j = if b = z_x S then 0 else z_d S b j := by
  show (z_ub (α := Nat → UInt64) _ (z_x S) _ b) j = _
  unfold z_ub
  split <;> rfl
theorem y_r_new (S : z_St) (c n : Nat) (b j : Nat) : z_r (z_new S c n) b j = if b = z_x S then none else z_r S b j := by
  show (z_ub (α := Nat → Option Nat) _ (z_x S) _ b) j = _
  unfold z_ub
  split <;> rfl
theorem y_k_new (S : z_St) (c n : Nat) (b : Nat) : z_k (z_new S c n) b = if b = z_x S then c else z_k S b := rfl
theorem y_n_new (S : z_St) (c n : Nat) (b : Nat) : z_n (z_new S c n) b = if b = z_x S then n else z_n S b := rfl
theorem y_x_new (S : z_St) (c n : Nat) : z_x (z_new S c n) = z_x S + 1 := rfl
theorem y_w_new (S : z_St) (c n : Nat) : z_w (z_new S c n) = z_w S + n := rfl
theorem y_s_new (S : z_St) (c n : Nat) (j : Nat) : z_s (z_new S c n) j = z_s S j := rfl
theorem y_i_ci (S : z_St) (a p b q n : Nat) (e j : Nat) : z_i (z_ci S a p b q n) e j = if e = b then (if q ≤ j ∧ j < q + n then z_i S a (p + (j - q)) else z_i S b j) else z_i S e j := by
  show (z_ub (α := Nat → Int32) _ b _ e) j = _
  unfold z_ub z_cp
  split <;> rfl
theorem y_l_ci (S : z_St) (a p b q n : Nat) (e j : Nat) : z_l (z_ci S a p b q n) e j = z_l S e j := rfl
theorem y_d_ci (S : z_St) (a p b q n : Nat) (e j : Nat) : z_d (z_ci S a p b q n) e j = z_d S e j := rfl
theorem y_r_ci (S : z_St) (a p b q n : Nat) (e j : Nat) : z_r (z_ci S a p b q n) e j = z_r S e j := rfl
theorem y_k_ci (S : z_St) (a p b q n : Nat) (e : Nat) : z_k (z_ci S a p b q n) e = z_k S e := rfl
theorem y_n_ci (S : z_St) (a p b q n : Nat) (e : Nat) : z_n (z_ci S a p b q n) e = z_n S e := rfl
theorem y_x_ci (S : z_St) (a p b q n : Nat) : z_x (z_ci S a p b q n) = z_x S := rfl
theorem y_w_ci (S : z_St) (a p b q n : Nat) : z_w (z_ci S a p b q n) = z_w S := rfl
theorem y_s_ci (S : z_St) (a p b q n : Nat) (j : Nat) : z_s (z_ci S a p b q n) j = z_s S j := rfl
theorem y_i_cl (S : z_St) (a p b q n : Nat) (e j : Nat) : z_i (z_cl S a p b q n) e j = z_i S e j := rfl
theorem y_l_cl (S : z_St) (a p b q n : Nat) (e j : Nat) : z_l (z_cl S a p b q n) e j = if e = b then (if q ≤ j ∧ j < q + n then z_l S a (p + (j - q)) else z_l S b j) else z_l S e j := by
  show (z_ub (α := Nat → Int64) _ b _ e) j = _
  unfold z_ub z_cp
  split <;> rfl
theorem y_d_cl (S : z_St) (a p b q n : Nat) (e j : Nat) : z_d (z_cl S a p b q n) e j = z_d S e j := rfl
theorem y_r_cl (S : z_St) (a p b q n : Nat) (e j : Nat) : z_r (z_cl S a p b q n) e j = z_r S e j := rfl
theorem y_k_cl (S : z_St) (a p b q n : Nat) (e : Nat) : z_k (z_cl S a p b q n) e = z_k S e := rfl
theorem y_n_cl (S : z_St) (a p b q n : Nat) (e : Nat) : z_n (z_cl S a p b q n) e = z_n S e := rfl
theorem y_x_cl (S : z_St) (a p b q n : Nat) : z_x (z_cl S a p b q n) = z_x S := rfl
theorem y_w_cl (S : z_St) (a p b q n : Nat) : z_w (z_cl S a p b q n) = z_w S := rfl
theorem y_s_cl (S : z_St) (a p b q n : Nat) (j : Nat) : z_s (z_cl S a p b q n) j = z_s S j := rfl
theorem y_chk {ρ : Type} {S : z_St} {a c : Nat} (x : Option ρ) (h : z_k S a = c) : z_chk S a c x = x := if_pos h
theorem y_onV {ρ : Type} (a : Nat) (f : Nat → Option ρ) : z_onV (.ref a) f = f a := rfl
theorem y_onS {ρ : Type} (a : Nat) (f : Nat → Option ρ) : z_onV (va_rf (some a)) f = f a := rfl
theorem y_inb {ρ : Type} {S : z_St} {a c : Nat} {i : Int32} (x : Option ρ) (h : z_k S a = c) (h0 : ¬ i < 0) (h1 : i.toNatClampNeg < z_n S a) : z_inb S a c i x = x := by
  unfold z_inb
  rw [if_pos h, if_neg (fun q => q.elim h0 (fun q => absurd h1 (Nat.not_lt.mpr q)))]
theorem y_nz {ρ : Type} {y : Int32} (x : Option ρ) (h : ¬ y = 0) : z_nz y x = x := if_neg h
theorem y_nzl {ρ : Type} {y : Int64} (x : Option ρ) (h : ¬ y = 0) : z_nzl y x = x := if_neg h
theorem y_len {ρ : Type} {n : Int32} {k : Nat} (x : Option ρ) (h0 : ¬ n < 0) (h1 : n.toNatClampNeg ≤ k) : z_len n k x = x := if_neg (fun q => q.elim h0 (fun q => absurd h1 (Nat.not_le.mpr q)))
theorem y_nn {ρ : Type} {r : UInt64} (x : Option ρ) (h : r &&& 0x7fffffffffffffff ≤ 0x7ff0000000000000) : z_nn r x = x := if_pos h
theorem y_nf {ρ : Type} {r : UInt32} (x : Option ρ) (h : r &&& 0x7fffffff ≤ 0x7f800000) : z_nf r x = x := if_pos h
theorem y_rb0 (S : z_St) : z_rb 0 S = some (0, S) := if_pos (Or.inl rfl)
theorem y_rb1 (S : z_St) : z_rb 1 S = some (1, S) := if_pos (Or.inr rfl)
theorem y_nulN {ρ : Type} (x y : Option ρ) : z_nul (va_rf none) x y = x := rfl
theorem y_nulS {ρ : Type} (a : Nat) (x y : Option ρ) : z_nul (va_rf (some a)) x y = y := rfl
theorem y_rvN {ρ : Type} (f : Option Nat → Option ρ) : z_rv (va_rf none) f = f none := rfl
theorem y_rvS {ρ : Type} (a : Nat) (f : Option Nat → Option ρ) : z_rv (va_rf (some a)) f = f (some a) := rfl
theorem y_bs {α β : Type} (a : α) (f : α → Option β) : (some a).bind f = f a := rfl
/-- numbers: a small sum, a small product -/
theorem y_addI {a b : Int32} (h1 : -2147483648 ≤ a.toInt + b.toInt) (h2 : a.toInt + b.toInt ≤ 2147483647) : (a + b).toInt = a.toInt + b.toInt := by
  rw [Int32.toInt_add, Int.bmod_eq_of_le (by simpa using h1) (by omega)]
theorem y_subI {a b : Int32} (h1 : -2147483648 ≤ a.toInt - b.toInt) (h2 : a.toInt - b.toInt ≤ 2147483647) : (a - b).toInt = a.toInt - b.toInt := by
  rw [Int32.toInt_sub, Int.bmod_eq_of_le (by simpa using h1) (by omega)]
theorem y_mulI {a b : Int32} (h1 : -2147483648 ≤ a.toInt * b.toInt) (h2 : a.toInt * b.toInt ≤ 2147483647) : (a * b).toInt = a.toInt * b.toInt := by
  rw [Int32.toInt_mul, Int.bmod_eq_of_le (by simpa using h1) (by omega)]
theorem y_cl {a : Int32} {n : Nat} (h : a.toInt = (n : Int)) : a.toNatClampNeg = n := by
  show a.toInt.toNat = n
  rw [h]; rfl
theorem y_lt {a b : Int32} : a < b ↔ a.toInt < b.toInt := Int32.lt_iff_toInt_lt
theorem y_le {a b : Int32} : a ≤ b ↔ a.toInt ≤ b.toInt := Int32.le_iff_toInt_le
theorem y_eq {a b : Int32} : a = b ↔ a.toInt = b.toInt := Int32.toInt_inj.symm
theorem y_lim (a : Int32) : -2147483648 ≤ a.toInt ∧ a.toInt ≤ 2147483647 := ⟨Int32.le_toInt a, by have := Int32.toInt_lt a; omega⟩
