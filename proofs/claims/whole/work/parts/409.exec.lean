/-! the combinators and the smallest methods, in closed form -/
theorem y_ck {ρ : Type} (S : z_St) (a c : Nat) (x : Option ρ) : z_chk S a c x = if z_k S a = c then x else none := rfl
theorem y_ib {ρ : Type} (S : z_St) (a c : Nat) (i : Int32) (x : Option ρ) : z_inb S a c i x = if z_k S a = c then (if i < 0 ∨ z_n S a ≤ i.toNatClampNeg then none else x) else none := rfl
theorem y_nz2 {ρ : Type} (y : Int32) (x : Option ρ) : z_nz y x = if y = 0 then none else x := rfl
theorem y_bn {α β : Type} (f : α → Option β) : (none : Option α).bind f = none := rfl
theorem y_bI {α β : Type} (c : Prop) (d : Decidable c) (a b : Option α) (f : α → Option β) : (@ite (Option α) c d a b).bind f = @ite (Option β) c d (a.bind f) (b.bind f) := by
  by_cases h : c
  · rw [if_pos h, if_pos h]
  · rw [if_neg h, if_neg h]
/-! combinators whose continuation waits: it is fixed by a tag, so that no rewriting goes into it ahead of its time -/
abbrev z_Tg {α β : Type} (_ : α → β) : Type := Unit
abbrev z_T0 {α : Type} (_ : α) : Type := Unit
def z_bd {α β : Type} (f : α → Option β) (x : Option α) (_ : z_Tg f) : Option β := x.bind f
def z_ov {ρ : Type} (f : Nat → Option ρ) (v : Value) (_ : z_Tg f) : Option ρ := z_onV v f
def z_rw {ρ : Type} (f : Option Nat → Option ρ) (v : Value) (_ : z_Tg f) : Option ρ := z_rv v f
def z_nl {ρ : Type} (x y : Option ρ) (v : Value) (_ : z_T0 x) (_ : z_T0 y) : Option ρ := z_nul v x y
def z_un : Unit := ()
theorem y_tb {α β : Type} (x : Option α) (f : α → Option β) : x.bind f = z_bd f x z_un := rfl
theorem y_tv {ρ : Type} (v : Value) (f : Nat → Option ρ) : z_onV v f = z_ov f v z_un := rfl
theorem y_tr {ρ : Type} (v : Value) (f : Option Nat → Option ρ) : z_rv v f = z_rw f v z_un := rfl
theorem y_tn {ρ : Type} (v : Value) (x y : Option ρ) : z_nul v x y = z_nl x y v z_un z_un := rfl
theorem y_gb {α β : Type} (f : α → Option β) (a : α) (t : z_Tg f) : z_bd f (some a) t = f a := rfl
theorem y_gn {α β : Type} (f : α → Option β) (t : z_Tg f) : z_bd f none t = none := rfl
theorem y_gi {α β : Type} (f : α → Option β) (c : Prop) (d : Decidable c) (a b : Option α) (t : z_Tg f) : z_bd f (@ite (Option α) c d a b) t = @ite (Option β) c d (z_bd f a t) (z_bd f b t) := by
  by_cases h : c
  · rw [if_pos h, if_pos h]
  · rw [if_neg h, if_neg h]
theorem y_gv {ρ : Type} (f : Nat → Option ρ) (a : Nat) (t : z_Tg f) : z_ov f (va_rf (some a)) t = f a := rfl
theorem y_gv' {ρ : Type} (f : Nat → Option ρ) (a : Nat) (t : z_Tg f) : z_ov f (.ref a) t = f a := rfl
theorem y_grN {ρ : Type} (f : Option Nat → Option ρ) (t : z_Tg f) : z_rw f (va_rf none) t = f none := rfl
theorem y_grS {ρ : Type} (f : Option Nat → Option ρ) (a : Nat) (t : z_Tg f) : z_rw f (va_rf (some a)) t = f (some a) := rfl
theorem y_glN {ρ : Type} (x y : Option ρ) (t : z_T0 x) (t' : z_T0 y) : z_nl x y (va_rf none) t t' = x := rfl
theorem y_glS {ρ : Type} (x y : Option ρ) (a : Nat) (t : z_T0 x) (t' : z_T0 y) : z_nl x y (va_rf (some a)) t t' = y := rfl
theorem y_nzl2 {ρ : Type} (y : Int64) (x : Option ρ) : z_nzl y x = if y = 0 then none else x := rfl
theorem y_len2 {ρ : Type} (n : Int32) (m : Nat) (x : Option ρ) : z_len n m x = if n < 0 ∨ m < n.toNatClampNeg then none else x := rfl
/-- no NaN -/
def nnF (d : UInt32) : Prop := d &&& 0x7fffffff ≤ 0x7f800000
noncomputable def nnDd (d : UInt64) : Decidable (nnD d) := Classical.propDecidable _
noncomputable def nnFd (d : UInt32) : Decidable (nnF d) := Classical.propDecidable _
theorem y_nn2 {ρ : Type} (r : UInt64) (x : Option ρ) : z_nn r x = @ite _ (nnD r) (nnDd r) x none := by
  unfold z_nn
  by_cases h : nnD r
  · rw [if_pos h]; exact if_pos h
  · rw [if_neg h]; exact if_neg h
theorem y_nf2 {ρ : Type} (r : UInt32) (x : Option ρ) : z_nf r x = @ite _ (nnF r) (nnFd r) x none := by
  unfold z_nf
  by_cases h : nnF r
  · rw [if_pos h]; exact if_pos h
  · rw [if_neg h]; exact if_neg h
theorem y_l2d2 {ρ : Type} (b : Int64) (x : Option ρ) : z_l2d b x = if z_okl b = false then x else none := rfl
theorem zL_eq {n m : Nat} (hn : (OfNat.ofNat n : Nat) < 2147483648) (hm : (OfNat.ofNat m : Nat) < 2147483648) : ((no_index (OfNat.ofNat n) : Int32) = (no_index (OfNat.ofNat m) : Int32)) = ((OfNat.ofNat n : Nat) = (OfNat.ofNat m : Nat)) := zI_eq hn hm
theorem zL_cl {n : Nat} (hn : (OfNat.ofNat n : Nat) < 2147483648) : (no_index (OfNat.ofNat n) : Int32).toNatClampNeg = (OfNat.ofNat n : Nat) := zI_cl hn
theorem y_10 : ((1 : Int32) = 0) = False := by decide
section Exec
variable {B : Nat} {S T : z_St}
theorem x_outOf (v a b : Int32) (S : z_St) : f_X11_outOf v a b S = some (if v < a ∨ b < v then 1 else 0, S) := by
  rw [e_X11_outOf]; unfold b_X11_outOf
  by_cases h : v < a
  · simp only [h, if_true, true_or, y_rb1]
  · by_cases h2 : v ≤ b
    · have : ¬ b < v := Int32.not_lt.mpr h2
      simp only [h, h2, this, if_true, if_false, or_self, y_rb0]
    · have : b < v := Int32.not_le.mp h2
      simp only [h, h2, this, if_true, if_false, or_true, y_rb1]
theorem x_nameless (v n : Int32) (S : z_St) : f_X11_nameless v n S = some (if v < -1 ∨ n ≤ v then 1 else 0, S) := by
  rw [e_X11_nameless]; unfold b_X11_nameless
  by_cases h : v < -1
  · simp only [h, if_true, true_or, y_rb1]
  · by_cases h2 : v < n
    · have : ¬ n ≤ v := Int32.not_le.mpr h2
      simp only [h, h2, this, if_true, if_false, or_self, y_rb0]
    · have : n ≤ v := Int32.not_lt.mp h2
      simp only [h, h2, this, if_true, if_false, or_true, y_rb1]
theorem x_in (v a b : Int64) (S : z_St) : f_X12_in v a b S = some (if a ≤ v ∧ v ≤ b then 1 else 0, S) := by
  rw [e_X12_in]; unfold b_X12_in
  simp only [y_cl0, y_0cl]
  by_cases h : v < a
  · have : ¬ a ≤ v := Int64.not_le.mpr h
    simp only [h, this, if_true, if_false, false_and, y_rb0]
  · have h1 : a ≤ v := Int64.not_lt.mp h
    by_cases h2 : b < v
    · have : ¬ v ≤ b := Int64.not_le.mpr h2
      simp only [h, h2, this, if_true, if_false, and_false, y_rb0]
    · have : v ≤ b := Int64.not_lt.mp h2
      simp only [h, h1, h2, this, if_true, if_false, and_self, y_rb1]
theorem x_noNumber (b : Int64) (S : z_St) : f_X11_noNumber b S = some (if (9218868437227405312 : Int64) < b &&& 9223372036854775807 then 1 else 0, S) := by
  rw [e_X11_noNumber]; unfold b_X11_noNumber
  simp only [y_cle]
  by_cases h : (9218868437227405312 : Int64) < b &&& 9223372036854775807
  · rw [if_neg (Int64.not_le.mpr h), if_pos h, y_rb1]
  · rw [if_pos (Int64.not_lt.mp h), if_neg h, y_rb0]
theorem x_failsWith (B : Nat) (S : z_St) (e w : Int32) : f_X11_failsWith B e w S = if z_k S B = 12 then some (-2000000010 - e, z_wi (z_wi S B 17 e) B 18 w) else none := by
  rw [e_X11_failsWith]; unfold b_X11_failsWith
  by_cases h : z_k S B = 12
  · simp only [y_ck, y_k_wi, h, if_true]
  · simp only [y_ck, h, if_false]
theorem x_fails (B : Nat) (S : z_St) (e : Int32) : f_X11_fails B e S = if z_k S B = 12 then some (-2000000010 - e, z_wi (z_wi S B 17 e) B 18 0) else none := by
  rw [e_X11_fails]; unfold b_X11_fails
  by_cases h : z_k S B = 12
  · simp only [y_ck, h, if_true, x_failsWith, y_bs]
  · simp only [y_ck, h, if_false]
theorem x_passes (B : Nat) (S : z_St) (v : Int32) : f_X11_passes B v S = if z_k S B = 12 then some (v, z_wi (z_wi S B 17 0) B 18 0) else none := by
  rw [e_X11_passes]; unfold b_X11_passes
  by_cases h : z_k S B = 12
  · simp only [y_ck, y_k_wi, h, if_true]
  · simp only [y_ck, h, if_false]
theorem x_passesLong (B : Nat) (S : z_St) (v : Int64) : f_X11_passesLong B v S = if z_k S B = 12 then some (v, z_wi (z_wi S B 17 0) B 18 0) else none := by
  rw [e_X11_passesLong]; unfold b_X11_passesLong
  by_cases h : z_k S B = 12
  · simp only [y_ck, y_k_wi, h, if_true]
  · simp only [y_ck, h, if_false]
theorem x_mfails (m : Nat) (T : z_St) (e : Int32) : f_X12_fails m e T = if z_k T m = 13 then some (-2000000010 - e, z_wi (z_wi T m 1 e) m 2 0) else none := by
  rw [e_X12_fails]; unfold b_X12_fails
  by_cases h : z_k T m = 13
  · simp only [y_ck, y_k_wi, h, if_true]
  · simp only [y_ck, h, if_false]
theorem x_well (m : Nat) (T : z_St) : f_X12_well m T = if z_k T m = 13 then some (z_wi (z_wi T m 1 0) m 2 0) else none := by
  rw [e_X12_well]; unfold b_X12_well
  by_cases h : z_k T m = 13
  · simp only [y_ck, y_k_wi, h, if_true]
  · simp only [y_ck, h, if_false]
theorem x_hasCell (a : Nat) (v : Int32) (S : z_St) (c : Nat) (hk : z_k S a = 9) (hr : z_r S a 1 = some c) (hc : z_k S c = 102) : f_X8_hasCell a v S = some (if v < 0 ∨ zI (z_n S c) ≤ v then 0 else 1, S) := by
  rw [e_X8_hasCell]; unfold b_X8_hasCell
  by_cases h : v < 0
  · simp only [h, if_true, true_or, y_rb0]
  · by_cases h2 : zI (z_n S c) ≤ v
    · simp only [h, if_false, y_ck, hk, hr, hc, y_onS, zI_of, h2, if_true, or_true, y_rb0]
    · simp only [h, if_false, y_ck, hk, hr, hc, y_onS, zI_of, h2, if_true, or_self, y_rb1]
theorem zF1 : ((-2000000010 - 1 : Int32) = 0) = False := by decide
theorem zF2 : ((-2000000010 - 2 : Int32) = 0) = False := by decide
theorem zF3 : ((-2000000010 - 3 : Int32) = 0) = False := by decide
theorem zF4 : ((-2000000010 - 4 : Int32) = 0) = False := by decide
theorem zF5 : ((-2000000010 - 5 : Int32) = 0) = False := by decide
theorem zF6 : ((-2000000010 - 6 : Int32) = 0) = False := by decide
theorem zF7 : ((-2000000010 - 7 : Int32) = 0) = False := by decide
theorem zF8 : ((-2000000010 - 8 : Int32) = 0) = False := by decide
theorem zU1 : ((-2000000001 : Int32) = 0) = False := by decide
theorem zU2 : ((-2000000002 : Int32) = 0) = False := by decide
theorem zU3 : ((-2000000003 : Int32) = 0) = False := by decide
theorem zU4 : ((-2000000004 : Int32) = 0) = False := by decide
theorem zU_lt : ((-2000000001 : Int32) < 0) = True := by decide
theorem zG1 : ((-2000000010 - 1 : Int32) < 0) = True := by decide
theorem zG2 : ((-2000000010 - 2 : Int32) < 0) = True := by decide
theorem zG3 : ((-2000000010 - 3 : Int32) < 0) = True := by decide
theorem zG4 : ((-2000000010 - 4 : Int32) < 0) = True := by decide
theorem zG5 : ((-2000000010 - 5 : Int32) < 0) = True := by decide
theorem zG6 : ((-2000000010 - 6 : Int32) < 0) = True := by decide
theorem zG7 : ((-2000000010 - 7 : Int32) < 0) = True := by decide
theorem zG8 : ((-2000000010 - 8 : Int32) < 0) = True := by decide
theorem zN_0 : ((-1 : Int32) = 0) = False := by decide
theorem zN_lt : ((-1 : Int32) < -1) = False := by decide
theorem zN_le0 : ((0 : Int32) ≤ -1) = False := by decide
/-- a number that may be NONE -/
theorem nm_no {v : Int32} {n : Nat} (hn : n < 2147483648) : (v ≠ -1 ∧ ¬ (0 ≤ v ∧ v < zI n)) ↔ (v < -1 ∨ zI n ≤ v) := by
  have h0 : (0 : Int32).toInt = 0 := by decide
  rw [y_lt, y_lt, y_le, y_le, h0, zI_I hn, zI_m1, Ne, y_eq, zI_m1]
  omega
theorem nm3 (v : Int32) {n : Nat} (hn : n < 2147483648) : ((v < -1 ∨ zI n ≤ v) ∧ (v = -1) = False ∧ (0 ≤ v ∧ v < zI n) = False) ∨ v = -1 ∨ ∃ q, q < n ∧ v = zI q := by
  by_cases h : v < -1 ∨ zI n ≤ v
  · have := (nm_no hn).mpr h
    exact Or.inl ⟨h, eq_false this.1, eq_false this.2⟩
  · by_cases h1 : v = -1
    · exact Or.inr (Or.inl h1)
    · refine Or.inr (Or.inr ⟨v.toInt.toNat, ?_⟩)
      rw [y_lt, y_le, zI_m1, zI_I hn] at h
      rw [y_eq, zI_m1] at h1
      have h2 := y_lim v
      refine ⟨by omega, y_eq.mpr ?_⟩
      rw [zI_I (by omega)]; omega
theorem ix2 (v : Int32) {n : Nat} (hn : n < 2147483648) : ((v < 0 ∨ zI n ≤ v) ∧ (0 ≤ v ∧ v < zI n) = False) ∨ ∃ q, q < n ∧ v = zI q := by
  have h0 : (0 : Int32).toInt = 0 := by decide
  by_cases h : v < 0 ∨ zI n ≤ v
  · exact Or.inl ⟨h, eq_false fun q => h.elim (fun h => absurd q.1 (Int32.not_le.mpr h)) (fun h => absurd q.2 (Int32.not_lt.mpr h))⟩
  · refine Or.inr ⟨v.toInt.toNat, ?_⟩
    rw [y_lt, y_le, h0, zI_I hn] at h
    have h2 := y_lim v
    refine ⟨by omega, y_eq.mpr ?_⟩
    rw [zI_I (by omega)]; omega
end Exec
