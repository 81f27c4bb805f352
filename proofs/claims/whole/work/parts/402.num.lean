/-! small numbers as ints -/
def nI (n : Nat) : Int32 := Int32.ofNat n
theorem nI_of (n : Nat) : Int32.ofNat n = nI n := rfl
theorem nI_I {q : Nat} (h : q < 2147483648) : (nI q).toInt = (q : Int) := Int32.toInt_ofNat_of_lt h
theorem nI_cl {q : Nat} (h : q < 2147483648) : (nI q).toNatClampNeg = q := y_cl (nI_I h)
theorem nI_add (a b : Nat) : nI a + nI b = nI (a + b) := (Int32.ofNat_add a b).symm
theorem nI_mul (a b : Nat) : nI a * nI b = nI (a * b) := (Int32.ofNat_mul a b).symm
theorem nI_lt {a b : Nat} (ha : a < 2147483648) (hb : b < 2147483648) : (nI a < nI b) = (a < b) := by
  rw [y_lt, nI_I ha, nI_I hb]; exact propext ⟨fun h => by omega, fun h => by omega⟩
theorem nI_le {a b : Nat} (ha : a < 2147483648) (hb : b < 2147483648) : (nI a ≤ nI b) = (a ≤ b) := by
  rw [y_le, nI_I ha, nI_I hb]; exact propext ⟨fun h => by omega, fun h => by omega⟩
theorem nI_eq {a b : Nat} (ha : a < 2147483648) (hb : b < 2147483648) : (nI a = nI b) = (a = b) := by
  rw [y_eq, nI_I ha, nI_I hb]; exact propext ⟨fun h => by omega, fun h => by omega⟩
theorem nI_sub {a b : Nat} (h : b ≤ a) (ha : a < 2147483648) : nI a - nI b = nI (a - b) := by
  refine y_eq.mpr ?_
  have hb : b < 2147483648 := by omega
  rw [y_subI (by rw [nI_I ha, nI_I hb]; omega) (by rw [nI_I ha, nI_I hb]; omega), nI_I ha, nI_I hb, nI_I (by omega)]
  omega
theorem nI_lit (n : Nat) : (no_index (OfNat.ofNat n) : Int32) = nI n := rfl
theorem nI_mulL (n q : Nat) : (no_index (OfNat.ofNat n) : Int32) * nI q = nI (n * q) := nI_mul n q
theorem nI_mulR (n q : Nat) : nI q * (no_index (OfNat.ofNat n) : Int32) = nI (q * n) := nI_mul q n
theorem nI_addL (n q : Nat) : (no_index (OfNat.ofNat n) : Int32) + nI q = nI (n + q) := nI_add n q
theorem nI_addR (n q : Nat) : nI q + (no_index (OfNat.ofNat n) : Int32) = nI (q + n) := nI_add q n
theorem nI_subR {n q : Nat} (h : n ≤ q) (hq : q < 2147483648) : nI q - (no_index (OfNat.ofNat n) : Int32) = nI (q - n) := nI_sub h hq
theorem nI_ltR {n q : Nat} (hq : q < 2147483648) (hn : n < 2147483648) : (nI q < (no_index (OfNat.ofNat n) : Int32)) = (q < n) := nI_lt hq hn
theorem nI_ltL {n q : Nat} (hq : q < 2147483648) (hn : n < 2147483648) : ((no_index (OfNat.ofNat n) : Int32) < nI q) = (n < q) := nI_lt hn hq
theorem nI_leR {n q : Nat} (hq : q < 2147483648) (hn : n < 2147483648) : (nI q ≤ (no_index (OfNat.ofNat n) : Int32)) = (q ≤ n) := nI_le hq hn
theorem nI_leL {n q : Nat} (hq : q < 2147483648) (hn : n < 2147483648) : ((no_index (OfNat.ofNat n) : Int32) ≤ nI q) = (n ≤ q) := nI_le hn hq
theorem nI_eqR {n q : Nat} (hq : q < 2147483648) (hn : n < 2147483648) : (nI q = (no_index (OfNat.ofNat n) : Int32)) = (q = n) := nI_eq hq hn
theorem nI_eqL {n q : Nat} (hq : q < 2147483648) (hn : n < 2147483648) : ((no_index (OfNat.ofNat n) : Int32) = nI q) = (n = q) := nI_eq hn hq
theorem nI_m1 : (-1 : Int32).toInt = -1 := by decide
theorem nI_neN {q : Nat} (hq : q < 2147483648) : (nI q = -1) = False := by
  refine eq_false fun h => ?_
  have := y_eq.mp h
  rw [nI_I hq, nI_m1] at this; omega
theorem nI_neN' {q : Nat} (hq : q < 2147483648) : (-1 = nI q) = False := by
  refine eq_false fun h => ?_
  have := y_eq.mp h
  rw [nI_I hq, nI_m1] at this; omega
theorem nI_ltN {q : Nat} (hq : q < 2147483648) : (nI q < -1) = False := by
  refine eq_false fun h => ?_
  have := y_lt.mp h
  rw [nI_I hq, nI_m1] at this; omega
theorem nI_leN {q : Nat} (hq : q < 2147483648) : (nI q ≤ -1) = False := by
  refine eq_false fun h => ?_
  have := y_le.mp h
  rw [nI_I hq, nI_m1] at this; omega
theorem nI_lt0 {q : Nat} (hq : q < 2147483648) : (nI q < 0) = False := by
  refine eq_false fun h => ?_
  have := y_lt.mp h
  rw [nI_I hq] at this
  have h0 : (0 : Int32).toInt = 0 := by decide
  rw [h0] at this; omega
theorem nI_0le {q : Nat} (hq : q < 2147483648) : ((0 : Int32) ≤ nI q) = True := by
  refine eq_true (y_le.mpr ?_)
  have h0 : (0 : Int32).toInt = 0 := by decide
  rw [nI_I hq, h0]; omega
theorem nI_pred {q : Nat} (i : Int32) (hq : q < 2147483648) : (i ≤ nI q - 1) = (i < nI q) := by
  have h1 : (1 : Int32).toInt = 1 := by decide
  rw [y_le, y_lt, y_subI (by rw [nI_I hq, h1]; omega) (by rw [nI_I hq, h1]; omega), h1]
  exact propext ⟨fun h => by omega, fun h => by omega⟩
theorem nI_pred' {q : Nat} (i : Int32) (hq : q < 2147483648) : (nI q - 1 < i) = (nI q ≤ i) := by
  have h1 : (1 : Int32).toInt = 1 := by decide
  rw [y_le, y_lt, y_subI (by rw [nI_I hq, h1]; omega) (by rw [nI_I hq, h1]; omega), h1]
  exact propext ⟨fun h => by omega, fun h => by omega⟩
theorem n_lt {a b : Nat} (h : a < b) : (a < b) = True := eq_true h
theorem n_le {a b : Nat} (h : a ≤ b) : (a ≤ b) = True := eq_true h
theorem n_nlt {a b : Nat} (h : b ≤ a) : (a < b) = False := eq_false (by omega)
theorem n_nle {a b : Nat} (h : b < a) : (a ≤ b) = False := eq_false (by omega)
/-! longs out of ints -/
theorem nJ_le (a b : Int32) : (a.toInt64 ≤ b.toInt64) = (a ≤ b) := by
  rw [y_le, Int64.le_iff_toInt_le, Int32.toInt_toInt64, Int32.toInt_toInt64]
theorem nJ_lt (a b : Int32) : (a.toInt64 < b.toInt64) = (a < b) := by
  rw [y_lt, Int64.lt_iff_toInt_lt, Int32.toInt_toInt64, Int32.toInt_toInt64]
theorem nJ_lit {n : Nat} (h : n < 2147483648) : (no_index (OfNat.ofNat n) : Int64) = (nI n).toInt64 := by
  refine Int64.toInt_inj.mp ?_
  rw [Int32.toInt_toInt64, nI_I h]
  exact Int64.toInt_ofNat_of_lt (by omega)
theorem nJ_leL {n : Nat} (a : Int32) (h : n < 2147483648) : ((no_index (OfNat.ofNat n) : Int64) ≤ a.toInt64) = ((no_index (OfNat.ofNat n) : Int32) ≤ a) := by
  rw [nJ_lit h, nJ_le]; rfl
theorem nJ_leR {n : Nat} (a : Int32) (h : n < 2147483648) : (a.toInt64 ≤ (no_index (OfNat.ofNat n) : Int64)) = (a ≤ (no_index (OfNat.ofNat n) : Int32)) := by
  rw [nJ_lit h, nJ_le]; rfl
/-! tests -/
theorem y_b0 (c : Prop) (d : Decidable c) : ((@ite Int32 c d 1 0) = 0) = ¬ c := by
  by_cases h : c
  · rw [if_pos h]; exact propext ⟨fun q => absurd q (by decide), fun q => absurd h q⟩
  · rw [if_neg h]; exact propext ⟨fun _ => h, fun _ => rfl⟩
theorem y_b0' (c : Prop) (d : Decidable c) : ((@ite Int32 c d 0 1) = 0) = c := by
  by_cases h : c
  · rw [if_pos h]; exact propext ⟨fun _ => h, fun _ => rfl⟩
  · rw [if_neg h]; exact propext ⟨fun q => absurd q (by decide), fun q => absurd q h⟩
theorem y_cmp3 (a b : Int64) : (b < a ∧ lg_cmp a b = 1) ∨ (a = b ∧ lg_cmp a b = 0) ∨ (a < b ∧ lg_cmp a b = -1) := by
  unfold lg_cmp
  by_cases h : a > b
  · exact Or.inl ⟨h, if_pos h⟩
  · by_cases h2 : a = b
    · exact Or.inr (Or.inl ⟨h2, by rw [if_neg h, if_pos h2]⟩)
    · refine Or.inr (Or.inr ⟨?_, by rw [if_neg h, if_neg h2]⟩)
      rcases Int64.lt_or_eq_of_le (Int64.not_lt.mp h) with q | q
      · exact q
      · exact absurd q h2
theorem y_irr (a : Int64) : ¬ a < a := fun h => by have := Int64.lt_iff_toInt_lt.mp h; omega
theorem y_asym {a b : Int64} (h : a < b) : ¬ b < a := fun q => by have := Int64.lt_iff_toInt_lt.mp h; have := Int64.lt_iff_toInt_lt.mp q; omega
theorem y_cl0 (a b : Int64) : (lg_cmp a b < 0) = (a < b) := by
  rcases y_cmp3 a b with ⟨h, e⟩ | ⟨h, e⟩ | ⟨h, e⟩ <;> rw [e]
  · exact propext ⟨fun q => absurd q (by decide), fun q => absurd q (y_asym h)⟩
  · subst h; exact propext ⟨fun q => absurd q (by decide), fun q => absurd q (y_irr _)⟩
  · exact propext ⟨fun _ => h, fun _ => by decide⟩
theorem y_0cl (a b : Int64) : (0 < lg_cmp a b) = (b < a) := by
  rcases y_cmp3 a b with ⟨h, e⟩ | ⟨h, e⟩ | ⟨h, e⟩ <;> rw [e]
  · exact propext ⟨fun _ => h, fun _ => by decide⟩
  · subst h; exact propext ⟨fun q => absurd q (by decide), fun q => absurd q (y_irr _)⟩
  · exact propext ⟨fun q => absurd q (by decide), fun q => absurd q (y_asym h)⟩
theorem y_cle (a b : Int64) : (lg_cmp a b ≤ 0) = (a ≤ b) := by
  rw [← Int32.not_lt, y_0cl, Int64.not_lt]
theorem y_lec (a b : Int64) : (0 ≤ lg_cmp a b) = (b ≤ a) := by
  rw [← Int32.not_lt, y_cl0, Int64.not_lt]
theorem y_ceq (a b : Int64) : (lg_cmp a b = 0) = (a = b) := by
  rcases y_cmp3 a b with ⟨h, e⟩ | ⟨h, e⟩ | ⟨h, e⟩ <;> rw [e]
  · exact propext ⟨fun q => absurd q (by decide), fun q => absurd (q ▸ h) (y_irr _)⟩
  · exact propext ⟨fun _ => h, fun _ => rfl⟩
  · exact propext ⟨fun q => absurd q (by decide), fun q => absurd (q ▸ h) (y_irr _)⟩
/-! whole rows written at once -/
def z_si (S : z_St) (a : Nat) (g : Nat → Int32) : z_St := (S.1, S.2.1, z_ub S.2.2.1 a g, S.2.2.2)
def z_sl (S : z_St) (a : Nat) (g : Nat → Int64) : z_St := (S.1, S.2.1, S.2.2.1, z_ub S.2.2.2.1 a g, S.2.2.2.2)
def z_sd (S : z_St) (a : Nat) (g : Nat → UInt64) : z_St := (S.1, S.2.1, S.2.2.1, S.2.2.2.1, z_ub S.2.2.2.2.1 a g, S.2.2.2.2.2)
theorem y_i_si (S : z_St) (a : Nat) (g : Nat → Int32) (b j : Nat) : z_i (z_si S a g) b j = if b = a then g j else z_i S b j := by
  show (z_ub (α := Nat → Int32) _ a g b) j = _
  unfold z_ub
  split <;> rfl
theorem y_l_si (S : z_St) (a : Nat) (g : Nat → Int32) (b j : Nat) : z_l (z_si S a g) b j = z_l S b j := rfl
theorem y_d_si (S : z_St) (a : Nat) (g : Nat → Int32) (b j : Nat) : z_d (z_si S a g) b j = z_d S b j := rfl
theorem y_r_si (S : z_St) (a : Nat) (g : Nat → Int32) (b j : Nat) : z_r (z_si S a g) b j = z_r S b j := rfl
theorem y_k_si (S : z_St) (a : Nat) (g : Nat → Int32) (b : Nat) : z_k (z_si S a g) b = z_k S b := rfl
theorem y_n_si (S : z_St) (a : Nat) (g : Nat → Int32) (b : Nat) : z_n (z_si S a g) b = z_n S b := rfl
theorem y_x_si (S : z_St) (a : Nat) (g : Nat → Int32) : z_x (z_si S a g) = z_x S := rfl
theorem y_w_si (S : z_St) (a : Nat) (g : Nat → Int32) : z_w (z_si S a g) = z_w S := rfl
theorem y_s_si (S : z_St) (a : Nat) (g : Nat → Int32) (j : Nat) : z_s (z_si S a g) j = z_s S j := rfl
theorem y_i_sl (S : z_St) (a : Nat) (g : Nat → Int64) (b j : Nat) : z_i (z_sl S a g) b j = z_i S b j := rfl
theorem y_l_sl (S : z_St) (a : Nat) (g : Nat → Int64) (b j : Nat) : z_l (z_sl S a g) b j = if b = a then g j else z_l S b j := by
  show (z_ub (α := Nat → Int64) _ a g b) j = _
  unfold z_ub
  split <;> rfl
theorem y_d_sl (S : z_St) (a : Nat) (g : Nat → Int64) (b j : Nat) : z_d (z_sl S a g) b j = z_d S b j := rfl
theorem y_r_sl (S : z_St) (a : Nat) (g : Nat → Int64) (b j : Nat) : z_r (z_sl S a g) b j = z_r S b j := rfl
theorem y_k_sl (S : z_St) (a : Nat) (g : Nat → Int64) (b : Nat) : z_k (z_sl S a g) b = z_k S b := rfl
theorem y_n_sl (S : z_St) (a : Nat) (g : Nat → Int64) (b : Nat) : z_n (z_sl S a g) b = z_n S b := rfl
theorem y_x_sl (S : z_St) (a : Nat) (g : Nat → Int64) : z_x (z_sl S a g) = z_x S := rfl
theorem y_w_sl (S : z_St) (a : Nat) (g : Nat → Int64) : z_w (z_sl S a g) = z_w S := rfl
theorem y_s_sl (S : z_St) (a : Nat) (g : Nat → Int64) (j : Nat) : z_s (z_sl S a g) j = z_s S j := rfl
theorem y_i_sd (S : z_St) (a : Nat) (g : Nat → UInt64) (b j : Nat) : z_i (z_sd S a g) b j = z_i S b j := rfl
theorem y_l_sd (S : z_St) (a : Nat) (g : Nat → UInt64) (b j : Nat) : z_l (z_sd S a g) b j = z_l S b j := rfl
theorem y_d_sd (S : z_St) (a : Nat) (g : Nat → UInt64) (b j : Nat) : z_d (z_sd S a g) b j = if b = a then g j else z_d S b j := by
  show (z_ub (α := Nat → UInt64) _ a g b) j = _
  unfold z_ub
  split <;> rfl
theorem y_r_sd (S : z_St) (a : Nat) (g : Nat → UInt64) (b j : Nat) : z_r (z_sd S a g) b j = z_r S b j := rfl
theorem y_k_sd (S : z_St) (a : Nat) (g : Nat → UInt64) (b : Nat) : z_k (z_sd S a g) b = z_k S b := rfl
theorem y_n_sd (S : z_St) (a : Nat) (g : Nat → UInt64) (b : Nat) : z_n (z_sd S a g) b = z_n S b := rfl
theorem y_x_sd (S : z_St) (a : Nat) (g : Nat → UInt64) : z_x (z_sd S a g) = z_x S := rfl
theorem y_w_sd (S : z_St) (a : Nat) (g : Nat → UInt64) : z_w (z_sd S a g) = z_w S := rfl
theorem y_s_sd (S : z_St) (a : Nat) (g : Nat → UInt64) (j : Nat) : z_s (z_sd S a g) j = z_s S j := rfl
