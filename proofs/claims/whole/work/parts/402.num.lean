/-! small numbers as ints -/
def zI (n : Nat) : Int32 := Int32.ofNat n
theorem zI_of (n : Nat) : Int32.ofNat n = zI n := rfl
theorem zI_I {q : Nat} (h : q < 2147483648) : (zI q).toInt = (q : Int) := Int32.toInt_ofNat_of_lt h
theorem zI_cl {q : Nat} (h : q < 2147483648) : (zI q).toNatClampNeg = q := y_cl (zI_I h)
theorem zI_add (a b : Nat) : zI a + zI b = zI (a + b) := (Int32.ofNat_add a b).symm
theorem zI_mul (a b : Nat) : zI a * zI b = zI (a * b) := (Int32.ofNat_mul a b).symm
theorem zI_lt {a b : Nat} (ha : a < 2147483648) (hb : b < 2147483648) : (zI a < zI b) = (a < b) := by
  rw [y_lt, zI_I ha, zI_I hb]; exact propext ⟨fun h => by omega, fun h => by omega⟩
theorem zI_le {a b : Nat} (ha : a < 2147483648) (hb : b < 2147483648) : (zI a ≤ zI b) = (a ≤ b) := by
  rw [y_le, zI_I ha, zI_I hb]; exact propext ⟨fun h => by omega, fun h => by omega⟩
theorem zI_eq {a b : Nat} (ha : a < 2147483648) (hb : b < 2147483648) : (zI a = zI b) = (a = b) := by
  rw [y_eq, zI_I ha, zI_I hb]; exact propext ⟨fun h => by omega, fun h => by omega⟩
theorem zI_sub {a b : Nat} (h : b ≤ a) (ha : a < 2147483648) : zI a - zI b = zI (a - b) := by
  refine y_eq.mpr ?_
  have hb : b < 2147483648 := by omega
  rw [y_subI (by rw [zI_I ha, zI_I hb]; omega) (by rw [zI_I ha, zI_I hb]; omega), zI_I ha, zI_I hb, zI_I (by omega)]
  omega
theorem zI_lit (n : Nat) : (no_index (OfNat.ofNat n) : Int32) = zI n := rfl
theorem zI_mulL (n q : Nat) : (no_index (OfNat.ofNat n) : Int32) * zI q = zI ((OfNat.ofNat n : Nat) * q) := zI_mul n q
theorem zI_mulR (n q : Nat) : zI q * (no_index (OfNat.ofNat n) : Int32) = zI (q * (OfNat.ofNat n : Nat)) := zI_mul q n
theorem zI_addL (n q : Nat) : (no_index (OfNat.ofNat n) : Int32) + zI q = zI ((OfNat.ofNat n : Nat) + q) := zI_add n q
theorem zI_addR (n q : Nat) : zI q + (no_index (OfNat.ofNat n) : Int32) = zI (q + (OfNat.ofNat n : Nat)) := zI_add q n
theorem zI_subR {n q : Nat} (h : (OfNat.ofNat n : Nat) ≤ q) (hq : q < 2147483648) : zI q - (no_index (OfNat.ofNat n) : Int32) = zI (q - (OfNat.ofNat n : Nat)) := zI_sub h hq
theorem zI_ltR {n q : Nat} (hq : q < 2147483648) (hn : (OfNat.ofNat n : Nat) < 2147483648) : (zI q < (no_index (OfNat.ofNat n) : Int32)) = (q < (OfNat.ofNat n : Nat)) := zI_lt hq hn
theorem zI_ltL {n q : Nat} (hq : q < 2147483648) (hn : (OfNat.ofNat n : Nat) < 2147483648) : ((no_index (OfNat.ofNat n) : Int32) < zI q) = ((OfNat.ofNat n : Nat) < q) := zI_lt hn hq
theorem zI_leR {n q : Nat} (hq : q < 2147483648) (hn : (OfNat.ofNat n : Nat) < 2147483648) : (zI q ≤ (no_index (OfNat.ofNat n) : Int32)) = (q ≤ (OfNat.ofNat n : Nat)) := zI_le hq hn
theorem zI_leL {n q : Nat} (hq : q < 2147483648) (hn : (OfNat.ofNat n : Nat) < 2147483648) : ((no_index (OfNat.ofNat n) : Int32) ≤ zI q) = ((OfNat.ofNat n : Nat) ≤ q) := zI_le hn hq
theorem zI_eqR {n q : Nat} (hq : q < 2147483648) (hn : (OfNat.ofNat n : Nat) < 2147483648) : (zI q = (no_index (OfNat.ofNat n) : Int32)) = (q = (OfNat.ofNat n : Nat)) := zI_eq hq hn
theorem zI_eqL {n q : Nat} (hq : q < 2147483648) (hn : (OfNat.ofNat n : Nat) < 2147483648) : ((no_index (OfNat.ofNat n) : Int32) = zI q) = ((OfNat.ofNat n : Nat) = q) := zI_eq hn hq
theorem zI_m1 : (-1 : Int32).toInt = -1 := by decide
theorem zI_neN {q : Nat} (hq : q < 2147483648) : (zI q = -1) = False := by
  refine eq_false fun h => ?_
  have := y_eq.mp h
  rw [zI_I hq, zI_m1] at this; omega
theorem zI_neN' {q : Nat} (hq : q < 2147483648) : (-1 = zI q) = False := by
  refine eq_false fun h => ?_
  have := y_eq.mp h
  rw [zI_I hq, zI_m1] at this; omega
theorem zI_ltN {q : Nat} (hq : q < 2147483648) : (zI q < -1) = False := by
  refine eq_false fun h => ?_
  have := y_lt.mp h
  rw [zI_I hq, zI_m1] at this; omega
theorem zI_leN {q : Nat} (hq : q < 2147483648) : (zI q ≤ -1) = False := by
  refine eq_false fun h => ?_
  have := y_le.mp h
  rw [zI_I hq, zI_m1] at this; omega
theorem zI_lt0 {q : Nat} (hq : q < 2147483648) : (zI q < 0) = False := by
  refine eq_false fun h => ?_
  have := y_lt.mp h
  rw [zI_I hq] at this
  have h0 : (0 : Int32).toInt = 0 := by decide
  rw [h0] at this; omega
theorem zI_0le {q : Nat} (hq : q < 2147483648) : ((0 : Int32) ≤ zI q) = True := by
  refine eq_true (y_le.mpr ?_)
  have h0 : (0 : Int32).toInt = 0 := by decide
  rw [zI_I hq, h0]; omega
theorem zI_pred {q : Nat} (i : Int32) (hq : q < 2147483648) : (i ≤ zI q - 1) = (i < zI q) := by
  have h1 : (1 : Int32).toInt = 1 := by decide
  rw [y_le, y_lt, y_subI (by rw [zI_I hq, h1]; omega) (by rw [zI_I hq, h1]; omega), h1]
  exact propext ⟨fun h => by omega, fun h => by omega⟩
theorem zI_pred' {q : Nat} (i : Int32) (hq : q < 2147483648) : (zI q - 1 < i) = (zI q ≤ i) := by
  have h1 : (1 : Int32).toInt = 1 := by decide
  rw [y_le, y_lt, y_subI (by rw [zI_I hq, h1]; omega) (by rw [zI_I hq, h1]; omega), h1]
  exact propext ⟨fun h => by omega, fun h => by omega⟩
theorem zI_predS {q : Nat} (i : Int32) (hq : q < 2147483648) (h1 : 1 ≤ q) : (i ≤ zI (q - 1)) = (i < zI q) := by
  rw [← zI_pred i hq, show (1 : Int32) = zI 1 from rfl, zI_sub h1 hq]
theorem zI_predT {q : Nat} (i : Int32) (hq : q < 2147483648) (h1 : 1 ≤ q) : (zI (q - 1) < i) = (zI q ≤ i) := by
  rw [← zI_pred' i hq, show (1 : Int32) = zI 1 from rfl, zI_sub h1 hq]
theorem n_lt {a b : Nat} (h : a < b) : (a < b) = True := eq_true h
theorem n_le {a b : Nat} (h : a ≤ b) : (a ≤ b) = True := eq_true h
theorem n_nlt {a b : Nat} (h : b ≤ a) : (a < b) = False := eq_false (by omega)
theorem n_nle {a b : Nat} (h : b < a) : (a ≤ b) = False := eq_false (by omega)
/-! longs out of ints -/
theorem zJ_le (a b : Int32) : (a.toInt64 ≤ b.toInt64) = (a ≤ b) := by
  rw [y_le, Int64.le_iff_toInt_le, Int32.toInt_toInt64, Int32.toInt_toInt64]
theorem zJ_lt (a b : Int32) : (a.toInt64 < b.toInt64) = (a < b) := by
  rw [y_lt, Int64.lt_iff_toInt_lt, Int32.toInt_toInt64, Int32.toInt_toInt64]
theorem zJ_lit {n : Nat} (h : (OfNat.ofNat n : Nat) < 2147483648) : (no_index (OfNat.ofNat n) : Int64) = (zI n).toInt64 := by
  refine Int64.toInt_inj.mp ?_
  rw [Int32.toInt_toInt64, zI_I (q := n) h]
  exact Int64.toInt_ofNat_of_lt (Nat.lt_trans h (by decide))
theorem zJ_leL {n : Nat} (a : Int32) (h : (OfNat.ofNat n : Nat) < 2147483648) : ((no_index (OfNat.ofNat n) : Int64) ≤ a.toInt64) = ((no_index (OfNat.ofNat n) : Int32) ≤ a) := by
  rw [zJ_lit h, zJ_le]; rfl
theorem zJ_leR {n : Nat} (a : Int32) (h : (OfNat.ofNat n : Nat) < 2147483648) : (a.toInt64 ≤ (no_index (OfNat.ofNat n) : Int64)) = (a ≤ (no_index (OfNat.ofNat n) : Int32)) := by
  rw [zJ_lit h, zJ_le]; rfl
/-! tests -/
theorem y_b0 (c : Prop) (d : Decidable c) : ((@ite Int32 c d 1 0) = 0) = ¬ c := by
  by_cases h : c
  · rw [if_pos h]; exact propext ⟨fun q => absurd q (by decide), fun q => absurd h q⟩
  · rw [if_neg h]; exact propext ⟨fun _ => h, fun _ => rfl⟩
theorem y_b0' (c : Prop) (d : Decidable c) : ((@ite Int32 c d 0 1) = 0) = c := by
  by_cases h : c
  · rw [if_pos h]; exact propext ⟨fun _ => h, fun _ => rfl⟩
  · rw [if_neg h]; exact propext ⟨fun q => absurd q (by decide), fun q => absurd q h⟩
theorem y_cmp3 (a b : Int64) : (b < a ∧ lg_cmp a b = 1) ∨ (a = b ∧ lg_cmp a b = 0) ∨ (a < b ∧ lg_cmp a b = -1) := by
  unfold lg_cmp
  by_cases h : a > b
  · exact Or.inl ⟨h, if_pos h⟩
  · by_cases h2 : a = b
    · exact Or.inr (Or.inl ⟨h2, by rw [if_neg h, if_pos h2]⟩)
    · refine Or.inr (Or.inr ⟨?_, by rw [if_neg h, if_neg h2]⟩)
      rcases Int64.lt_or_eq_of_le (Int64.not_lt.mp h) with q | q
      · exact q
      · exact absurd q h2
theorem y_irr (a : Int64) : ¬ a < a := fun h => by have := Int64.lt_iff_toInt_lt.mp h; omega
theorem y_asym {a b : Int64} (h : a < b) : ¬ b < a := fun q => by have := Int64.lt_iff_toInt_lt.mp h; have := Int64.lt_iff_toInt_lt.mp q; omega
theorem y_cl0 (a b : Int64) : (lg_cmp a b < 0) = (a < b) := by
  rcases y_cmp3 a b with ⟨h, e⟩ | ⟨h, e⟩ | ⟨h, e⟩ <;> rw [e]
  · exact propext ⟨fun q => absurd q (by decide), fun q => absurd q (y_asym h)⟩
  · subst h; exact propext ⟨fun q => absurd q (by decide), fun q => absurd q (y_irr _)⟩
  · exact propext ⟨fun _ => h, fun _ => by decide⟩
theorem y_0cl (a b : Int64) : (0 < lg_cmp a b) = (b < a) := by
  rcases y_cmp3 a b with ⟨h, e⟩ | ⟨h, e⟩ | ⟨h, e⟩ <;> rw [e]
  · exact propext ⟨fun _ => h, fun _ => by decide⟩
  · subst h; exact propext ⟨fun q => absurd q (by decide), fun q => absurd q (y_irr _)⟩
  · exact propext ⟨fun q => absurd q (by decide), fun q => absurd q (y_asym h)⟩
theorem y_cle (a b : Int64) : (lg_cmp a b ≤ 0) = (a ≤ b) := by
  rw [← Int32.not_lt, y_0cl, Int64.not_lt]
theorem y_lec (a b : Int64) : (0 ≤ lg_cmp a b) = (b ≤ a) := by
  rw [← Int32.not_lt, y_cl0, Int64.not_lt]
theorem y_ceq (a b : Int64) : (lg_cmp a b = 0) = (a = b) := by
  rcases y_cmp3 a b with ⟨h, e⟩ | ⟨h, e⟩ | ⟨h, e⟩ <;> rw [e]
  · exact propext ⟨fun q => absurd q (by decide), fun q => absurd (q ▸ h) (y_irr _)⟩
  · exact propext ⟨fun _ => h, fun _ => rfl⟩
  · exact propext ⟨fun q => absurd q (by decide), fun q => absurd (q ▸ h) (y_irr _)⟩
/-! whole rows written at once -/
def z_qi (S : z_St) (a : Nat) (g : Nat → Int32) : z_St := (S.1, S.2.1, z_ub S.2.2.1 a g, S.2.2.2)
def z_ql (S : z_St) (a : Nat) (g : Nat → Int64) : z_St := (S.1, S.2.1, S.2.2.1, z_ub S.2.2.2.1 a g, S.2.2.2.2)
def z_qd (S : z_St) (a : Nat) (g : Nat → UInt64) : z_St := (S.1, S.2.1, S.2.2.1, S.2.2.2.1, z_ub S.2.2.2.2.1 a g, S.2.2.2.2.2)
theorem y_i_qi (S : z_St) (a : Nat) (g : Nat → Int32) (b j : Nat) : z_i (z_qi S a g) b j = if b = a then g j else z_i S b j := by
  show (z_ub (α := Nat → Int32) _ a g b) j = _
  unfold z_ub
  split <;> rfl
theorem y_l_qi (S : z_St) (a : Nat) (g : Nat → Int32) (b j : Nat) : z_l (z_qi S a g) b j = z_l S b j := rfl
theorem y_d_qi (S : z_St) (a : Nat) (g : Nat → Int32) (b j : Nat) : z_d (z_qi S a g) b j = z_d S b j := rfl
theorem y_r_qi (S : z_St) (a : Nat) (g : Nat → Int32) (b j : Nat) : z_r (z_qi S a g) b j = z_r S b j := rfl
theorem y_k_qi (S : z_St) (a : Nat) (g : Nat → Int32) (b : Nat) : z_k (z_qi S a g) b = z_k S b := rfl
theorem y_n_qi (S : z_St) (a : Nat) (g : Nat → Int32) (b : Nat) : z_n (z_qi S a g) b = z_n S b := rfl
theorem y_x_qi (S : z_St) (a : Nat) (g : Nat → Int32) : z_x (z_qi S a g) = z_x S := rfl
theorem y_w_qi (S : z_St) (a : Nat) (g : Nat → Int32) : z_w (z_qi S a g) = z_w S := rfl
theorem y_s_qi (S : z_St) (a : Nat) (g : Nat → Int32) (j : Nat) : z_s (z_qi S a g) j = z_s S j := rfl
theorem y_i_ql (S : z_St) (a : Nat) (g : Nat → Int64) (b j : Nat) : z_i (z_ql S a g) b j = z_i S b j := rfl
theorem y_l_ql (S : z_St) (a : Nat) (g : Nat → Int64) (b j : Nat) : z_l (z_ql S a g) b j = if b = a then g j else z_l S b j := by
  show (z_ub (α := Nat → Int64) _ a g b) j = _
  unfold z_ub
  split <;> rfl
theorem y_d_ql (S : z_St) (a : Nat) (g : Nat → Int64) (b j : Nat) : z_d (z_ql S a g) b j = z_d S b j := rfl
theorem y_r_ql (S : z_St) (a : Nat) (g : Nat → Int64) (b j : Nat) : z_r (z_ql S a g) b j = z_r S b j := rfl
theorem y_k_ql (S : z_St) (a : Nat) (g : Nat → Int64) (b : Nat) : z_k (z_ql S a g) b = z_k S b := rfl
theorem y_n_ql (S : z_St) (a : Nat) (g : Nat → Int64) (b : Nat) : z_n (z_ql S a g) b = z_n S b := rfl
theorem y_x_ql (S : z_St) (a : Nat) (g : Nat → Int64) : z_x (z_ql S a g) = z_x S := rfl
theorem y_w_ql (S : z_St) (a : Nat) (g : Nat → Int64) : z_w (z_ql S a g) = z_w S := rfl
theorem y_s_ql (S : z_St) (a : Nat) (g : Nat → Int64) (j : Nat) : z_s (z_ql S a g) j = z_s S j := rfl
theorem y_i_qd (S : z_St) (a : Nat) (g : Nat → UInt64) (b j : Nat) : z_i (z_qd S a g) b j = z_i S b j := rfl
theorem y_l_qd (S : z_St) (a : Nat) (g : Nat → UInt64) (b j : Nat) : z_l (z_qd S a g) b j = z_l S b j := rfl
theorem y_d_qd (S : z_St) (a : Nat) (g : Nat → UInt64) (b j : Nat) : z_d (z_qd S a g) b j = if b = a then g j else z_d S b j := by
  show (z_ub (α := Nat → UInt64) _ a g b) j = _
  unfold z_ub
  split <;> rfl
theorem y_r_qd (S : z_St) (a : Nat) (g : Nat → UInt64) (b j : Nat) : z_r (z_qd S a g) b j = z_r S b j := rfl
theorem y_k_qd (S : z_St) (a : Nat) (g : Nat → UInt64) (b : Nat) : z_k (z_qd S a g) b = z_k S b := rfl
theorem y_n_qd (S : z_St) (a : Nat) (g : Nat → UInt64) (b : Nat) : z_n (z_qd S a g) b = z_n S b := rfl
theorem y_x_qd (S : z_St) (a : Nat) (g : Nat → UInt64) : z_x (z_qd S a g) = z_x S := rfl
theorem y_w_qd (S : z_St) (a : Nat) (g : Nat → UInt64) : z_w (z_qd S a g) = z_w S := rfl
theorem y_s_qd (S : z_St) (a : Nat) (g : Nat → UInt64) (j : Nat) : z_s (z_qd S a g) j = z_s S j := rfl
