/-! the class's bitsOf -/
section Bits
theorem EX_d2l {d : UInt64} {c : Nat} {e : Int} {w : Nat} (h : Ex d c e) (hc : c < 2 ^ 53) (h1 : -1074 ≤ e) (h2 : e ≤ 971) (hw : c * 2 ^ (e + 1074).toNat / uU = w) (hw2 : w < 2 ^ 63) : FP.d2l d = Int64.ofNat w := by
  obtain ⟨c', q', hv, hq, hu⟩ := EX_fin h hc h1 h2
  show FP.Core.toL (FP.Core.val64 d) = _
  rw [hv]
  have e1 : c' * 2 ^ q'.toNat / 2 ^ (-q').toNat = w := by
    rw [← hw, ← hu]
    unfold uU
    rcases Int.le_total 0 q' with h0 | h0
    · rw [show (-q').toNat = 0 by omega, show (q' + 1074).toNat = q'.toNat + 1074 by omega, Nat.pow_zero, Nat.div_one, Nat.pow_add, ← Nat.mul_assoc, Nat.mul_div_cancel _ (Nat.two_pow_pos 1074)]
    · have e2 : (2 : Nat) ^ 1074 = 2 ^ (-q').toNat * 2 ^ (q' + 1074).toNat := by
        rw [← Nat.pow_add]; congr 1; omega
      rw [e2, Nat.mul_div_mul_right _ _ (Nat.two_pow_pos _), show q'.toNat = 0 by omega, Nat.pow_zero, Nat.mul_one]
  unfold FP.Core.toL FP.Core.toInt FP.Core.truncate
  dsimp only
  rw [e1, show FP.Core.signed false w = (w : Int) from rfl, show max (-2 ^ 63) (min (2 ^ 63 - 1) (w : Int)) = (w : Int) by omega]
  exact Int64.ofInt_eq_ofNat
theorem EX_tab : ∀ k, k < 64 → (((zI k).toInt64 &&& 63).toBitVec.smod 64).toNat = k := by decide +kernel
theorem EX_shr {w k : Nat} (hw : w < 2 ^ 63) (hk : k < 64) : (Int64.ofNat w) >>> ((zI k).toInt64 &&& 63) = Int64.ofNat (w / 2 ^ k) := by
  apply Int64.toBitVec_inj.mp
  rw [Int64.toBitVec_shiftRight]
  show (Int64.ofNat w).toBitVec.sshiftRight (((zI k).toInt64 &&& 63).toBitVec.smod 64).toNat = _
  have hb : (Int64.ofNat w).toBitVec.toNat = w := by
    show (BitVec.ofNat 64 w).toNat = w
    rw [BitVec.toNat_ofNat]; omega
  have hm : (Int64.ofNat w).toBitVec.msb = false := by
    rw [BitVec.msb_eq_decide, hb]
    exact decide_eq_false (by omega)
  rw [EX_tab k hk, BitVec.sshiftRight_eq_of_msb_false hm]
  apply BitVec.eq_of_toNat_eq
  rw [BitVec.toNat_ushiftRight, hb, Nat.shiftRight_eq_div_pow]
  show _ = (BitVec.ofNat 64 _).toNat
  rw [BitVec.toNat_ofNat]
  have : w / 2 ^ k ≤ w := Nat.div_le_self _ _
  generalize w / 2 ^ k = y at *
  omega
theorem EX_oN {w : Nat} (hw : w < 2 ^ 63) : (Int64.ofNat w = 0) = (w = 0) := by
  apply propext
  constructor
  · intro h
    have : (Int64.ofNat w).toBitVec.toNat = (0 : Int64).toBitVec.toNat := by rw [h]
    rw [show (Int64.ofNat w).toBitVec.toNat = (BitVec.ofNat 64 w).toNat from rfl, BitVec.toNat_ofNat, show (0 : Int64).toBitVec.toNat = 0 by decide] at this
    omega
  · intro h; rw [h]; rfl
/-- two compares, by the size in units -/
theorem EX_c60 {d : UInt64} {c L : Nat} {e : Int} (h : Ex d c e) (hc : c < 2 ^ 53) (h1 : -1074 ≤ e) (h2 : e ≤ 971) (l1 : 2 ^ L ≤ c) (l2 : c < 2 ^ (L + 1)) : (Op.cmpValue (FP.dcmp d 4877398396442247168) .l < 0) = (e + L < 60) := by
  have n1 : FP.Core.val64 d ≠ .nan := (FF_val d).mp (EX_nn h)
  have n2 : FP.Core.val64 4877398396442247168 ≠ .nan := by rw [EX_p60]; intro z; cases z
  have z2 : FP.Core.zval FP.Core.b64 (FP.Core.val64 4877398396442247168) = ((2 ^ 1134 : Nat) : Int) := by decide +kernel
  rw [show FP.dcmp d 4877398396442247168 = FP.Core.dcmp d 4877398396442247168 from rfl, FP.Core.dcmp_zval n1 n2, EX_z h hc h1 h2, z2]
  have up : e + L < 60 → c * 2 ^ (e + 1074).toNat < 2 ^ 1134 := fun q => by
    calc c * 2 ^ (e + 1074).toNat < 2 ^ (L + 1) * 2 ^ (e + 1074).toNat := Nat.mul_lt_mul_of_pos_right l2 (Nat.two_pow_pos _)
      _ = 2 ^ (L + 1 + (e + 1074).toNat) := (Nat.pow_add ..).symm
      _ ≤ 2 ^ 1134 := Nat.pow_le_pow_right (by decide) (by omega)
  have dn : ¬ e + L < 60 → 2 ^ 1134 ≤ c * 2 ^ (e + 1074).toNat := fun q => by
    calc 2 ^ 1134 ≤ 2 ^ (L + (e + 1074).toNat) := Nat.pow_le_pow_right (by decide) (by omega)
      _ = 2 ^ L * 2 ^ (e + 1074).toNat := Nat.pow_add ..
      _ ≤ c * 2 ^ (e + 1074).toNat := Nat.mul_le_mul_right _ l1
  generalize c * 2 ^ (e + 1074).toNat = V at *
  generalize (2 ^ 1134 : Nat) = W at *
  rw [FP.Core.compare_ite]
  by_cases q : e + L < 60
  · have := up q
    rw [if_pos (by omega)]
    exact propext ⟨fun _ => q, fun _ => by decide⟩
  · have := dn q
    rw [if_neg (by omega)]
    refine propext ⟨fun z => ?_, fun z => absurd z q⟩
    split at z <;> exact absurd z (by decide)
theorem EX_c1 {d : UInt64} {c L : Nat} {e : Int} (h : Ex d c e) (hc : c < 2 ^ 53) (h1 : -1074 ≤ e) (h2 : e ≤ 971) (l1 : 2 ^ L ≤ c) (l2 : c < 2 ^ (L + 1)) : (0 ≤ Op.cmpValue (FP.dcmp d FP.dconst1) .g) = (0 ≤ e + L) := by
  have n1 : FP.Core.val64 d ≠ .nan := (FF_val d).mp (EX_nn h)
  have n2 : FP.Core.val64 FP.dconst1 ≠ .nan := by decide +kernel
  have z2 : FP.Core.zval FP.Core.b64 (FP.Core.val64 FP.dconst1) = ((2 ^ 1074 : Nat) : Int) := by decide +kernel
  rw [show FP.dcmp d FP.dconst1 = FP.Core.dcmp d FP.dconst1 from rfl, FP.Core.dcmp_zval n1 n2, EX_z h hc h1 h2, z2]
  have up : e + L < 0 → c * 2 ^ (e + 1074).toNat < 2 ^ 1074 := fun q => by
    calc c * 2 ^ (e + 1074).toNat < 2 ^ (L + 1) * 2 ^ (e + 1074).toNat := Nat.mul_lt_mul_of_pos_right l2 (Nat.two_pow_pos _)
      _ = 2 ^ (L + 1 + (e + 1074).toNat) := (Nat.pow_add ..).symm
      _ ≤ 2 ^ 1074 := Nat.pow_le_pow_right (by decide) (by omega)
  have dn : ¬ e + L < 0 → 2 ^ 1074 ≤ c * 2 ^ (e + 1074).toNat := fun q => by
    calc 2 ^ 1074 ≤ 2 ^ (L + (e + 1074).toNat) := Nat.pow_le_pow_right (by decide) (by omega)
      _ = 2 ^ L * 2 ^ (e + 1074).toNat := Nat.pow_add ..
      _ ≤ c * 2 ^ (e + 1074).toNat := Nat.mul_le_mul_right _ l1
  generalize c * 2 ^ (e + 1074).toNat = V at *
  generalize (2 ^ 1074 : Nat) = W at *
  rw [FP.Core.compare_ite]
  by_cases q : e + L < 0
  · have := up q
    rw [if_pos (by omega)]
    exact propext ⟨fun z => absurd z (by decide), fun z => by omega⟩
  · have := dn q
    rw [if_neg (by omega)]
    refine propext ⟨fun z => by omega, fun z => ?_⟩
    split <;> decide
section Loops
variable {c L : Nat} {q : Int} (hc : c < 2 ^ 53) (l1 : 2 ^ L ≤ c) (l2 : c < 2 ^ (L + 1)) (v2 : Int64) (S : z_St)
theorem EX_L (hc : c < 2 ^ 53) (l1 : 2 ^ L ≤ c) : L ≤ 52 := by
  have : L < 53 := (Nat.pow_lt_pow_iff_right (by decide : 1 < 2)).mp (Nat.lt_of_le_of_lt l1 hc)
  omega
theorem EX_71 (hc : c < 2 ^ 53) (l1 : 2 ^ L ≤ c) (l2 : c < 2 ^ (L + 1)) (v2 : Int64) (S : z_St) (k : Nat) : ∀ (N : Nat) (v4 : UInt64) (v6 v7 : Int32) (e x i : Int), Ex v4 c e → v6.toInt = x → v7.toInt = i → 0 ≤ i → i + k ≤ 19 → k < N → e + L < 60 * ((k : Int) + 1) → -1074 ≤ e → e ≤ 971 → e + x = q → 0 ≤ x → x + 60 * (k : Int) ≤ 2000 →
    ∃ v4' v6' e', l_X11_bitsOf_71 N v2 v4 v6 v7 S = l_X11_bitsOf_107 z_N v2 v4' v6' 0 S ∧ Ex v4' c e' ∧ e' + v6'.toInt = q ∧ -1074 ≤ e' ∧ e' ≤ 971 ∧ e' + L < 60 ∧ 0 ≤ v6'.toInt ∧ v6'.toInt ≤ 2000 := by
  have z20 : (20 : Int32).toInt = 20 := by decide
  have p60 : (60 : Int32).toInt = 60 := by decide
  have p1 : (1 : Int32).toInt = 1 := by decide
  have hL := EX_L hc l1
  induction k with
  | zero =>
    intro N v4 v6 v7 e x i h hx hi i0 ik kN ek e1 e2 eq x1 x2
    obtain ⟨N, rfl⟩ : ∃ N', N = N' + 1 := ⟨N - 1, by omega⟩
    have a1 : ¬ (20 : Int32) ≤ v7 := by rw [y_le, hi, z20]; omega
    simp only [l_X11_bitsOf_71]
    rw [if_neg a1, if_pos ((EX_c60 h hc e1 e2 l1 l2).mpr (by omega))]
    exact ⟨v4, v6, e, rfl, h, by rw [hx]; exact eq, e1, e2, by omega, by omega, by omega⟩
  | succ k ih =>
    intro N v4 v6 v7 e x i h hx hi i0 ik kN ek e1 e2 eq x1 x2
    obtain ⟨N, rfl⟩ : ∃ N', N = N' + 1 := ⟨N - 1, by omega⟩
    have a1 : ¬ (20 : Int32) ≤ v7 := by rw [y_le, hi, z20]; omega
    simp only [l_X11_bitsOf_71]
    rw [if_neg a1]
    by_cases a2 : e + L < 60
    · rw [if_pos ((EX_c60 h hc e1 e2 l1 l2).mpr a2)]
      exact ⟨v4, v6, e, rfl, h, by rw [hx]; exact eq, e1, e2, a2, by omega, by omega⟩
    · rw [if_neg (fun z => a2 ((EX_c60 h hc e1 e2 l1 l2).mp z))]
      have hm := EX_mul h hc e1 e2 EX_m60 (e' := e - 60) (by omega)
      rw [y_nn2, if_pos (EX_nn hm)]
      exact ih N _ (v6 + 60) (v7 + 1) (e - 60) (x + 60) (i + 1) hm (EX_add32 hx p60 (by omega) (by omega)) (EX_add32 hi p1 (by omega) (by omega)) (by omega) (by omega) (by omega) (by omega) (by omega) (by omega) (by omega) (by omega) (by omega)
theorem EX_107 (hc : c < 2 ^ 53) (l1 : 2 ^ L ≤ c) (l2 : c < 2 ^ (L + 1)) (v2 : Int64) (S : z_St) (k : Nat) : ∀ (N : Nat) (v4 : UInt64) (v6 v7 : Int32) (e x i : Int), Ex v4 c e → v6.toInt = x → v7.toInt = i → 0 ≤ i → i + k ≤ 19 → k < N → -60 * (k : Int) ≤ e + L → e + L < 60 → -1074 ≤ e → e ≤ 971 → e + x = q → -2000 ≤ x - 60 * (k : Int) → x ≤ 4000 →
    ∃ v4' v6' e', l_X11_bitsOf_107 N v2 v4 v6 v7 S = l_X11_bitsOf_150 z_N v2 v4' v6' (FP.d2l v4') 0 32 S ∧ Ex v4' c e' ∧ e' + v6'.toInt = q ∧ -1074 ≤ e' ∧ e' ≤ 971 ∧ 0 ≤ e' + L ∧ e' + L < 60 := by
  have z20 : (20 : Int32).toInt = 20 := by decide
  have z60 : (-60 : Int32).toInt = -60 := by decide
  have p1 : (1 : Int32).toInt = 1 := by decide
  have hL := EX_L hc l1
  induction k with
  | zero =>
    intro N v4 v6 v7 e x i h hx hi i0 ik kN ek e60 e1 e2 eq x1 x2
    obtain ⟨N, rfl⟩ : ∃ N', N = N' + 1 := ⟨N - 1, by omega⟩
    have a1 : ¬ (20 : Int32) ≤ v7 := by rw [y_le, hi, z20]; omega
    simp only [l_X11_bitsOf_107]
    rw [if_neg a1, if_pos ((EX_c1 h hc e1 e2 l1 l2).mpr (by omega))]
    exact ⟨v4, v6, e, rfl, h, by rw [hx]; exact eq, e1, e2, by omega, e60⟩
  | succ k ih =>
    intro N v4 v6 v7 e x i h hx hi i0 ik kN ek e60 e1 e2 eq x1 x2
    obtain ⟨N, rfl⟩ : ∃ N', N = N' + 1 := ⟨N - 1, by omega⟩
    have a1 : ¬ (20 : Int32) ≤ v7 := by rw [y_le, hi, z20]; omega
    simp only [l_X11_bitsOf_107]
    rw [if_neg a1]
    by_cases a2 : 0 ≤ e + L
    · rw [if_pos ((EX_c1 h hc e1 e2 l1 l2).mpr a2)]
      exact ⟨v4, v6, e, rfl, h, by rw [hx]; exact eq, e1, e2, a2, e60⟩
    · rw [if_neg (fun z => a2 ((EX_c1 h hc e1 e2 l1 l2).mp z))]
      have hm := EX_mul h hc e1 e2 EX_p60 (e' := e + 60) (by omega)
      rw [y_nn2, if_pos (EX_nn hm)]
      exact ih N _ (v6 + -60) (v7 + 1) (e + 60) (x + -60) (i + 1) hm (EX_add32 hx z60 (by omega) (by omega)) (EX_add32 hi p1 (by omega) (by omega)) (by omega) (by omega) (by omega) (by omega) (by omega) (by omega) (by omega) (by omega) (by omega) (by omega)
/-- one turn of the search for the leading digit -/
theorem EX_150 {w t : Nat} (w1 : 2 ^ t ≤ w) (w2 : w < 2 ^ (t + 1)) (ht : t < 60) (v2 : Int64) (S : z_St) (v4 : UInt64) (v6 : Int32) (n a g : Nat) (ha : a ≤ t) (hg : t < a + 2 * g) (g1 : 1 ≤ g) (g2 : a + g < 64) (g3 : g ≤ 32) :
    ∃ a', l_X11_bitsOf_150 (n + 1) v2 v4 v6 (Int64.ofNat w) (zI a) (zI g) S = l_X11_bitsOf_150 n v2 v4 v6 (Int64.ofNat w) (zI a') (zI (g / 2)) S ∧ a' ≤ t ∧ t < a' + g ∧ (a' = a ∨ a' = a + g) := by
  have hw : w < 2 ^ 63 := Nat.lt_of_lt_of_le w2 (Nat.pow_le_pow_right (by decide) (by omega))
  have b1 : ¬ zI g < 1 := by rw [zI_ltR (by omega) (by decide)]; omega
  have hd : w / 2 ^ (a + g) < 2 ^ 63 := Nat.lt_of_le_of_lt (Nat.div_le_self _ _) hw
  have sh : zI g >>> ((1 : Int32) &&& 31) = zI (g / 2) := by
    have tab : ∀ g, g ≤ 32 → zI g >>> ((1 : Int32) &&& 31) = zI (g / 2) := by decide +kernel
    exact tab g g3
  simp only [l_X11_bitsOf_150]
  rw [if_neg b1, zI_add, EX_shr hw g2, sh]
  by_cases hz : a + g ≤ t
  · have nz : ¬ w / 2 ^ (a + g) = 0 := fun z => by
      have := (Nat.div_eq_zero_iff).mp z
      have p := Nat.pow_le_pow_right (n := 2) (by decide) hz
      have p0 := Nat.two_pow_pos (a + g)
      omega
    rw [if_neg (by rw [y_ceq, EX_oN hd]; exact nz)]
    exact ⟨a + g, rfl, hz, by omega, Or.inr rfl⟩
  · have z : w / 2 ^ (a + g) = 0 := by
      apply Nat.div_eq_of_lt
      exact Nat.lt_of_lt_of_le w2 (Nat.pow_le_pow_right (by decide) (by omega))
    rw [if_pos (by rw [y_ceq, EX_oN hd]; exact z)]
    exact ⟨a, rfl, ha, by omega, Or.inl rfl⟩
theorem EX_top {w t : Nat} (w1 : 2 ^ t ≤ w) (w2 : w < 2 ^ (t + 1)) (ht : t < 60) (v2 : Int64) (S : z_St) (v4 : UInt64) (v6 : Int32) : ∃ n, l_X11_bitsOf_150 z_N v2 v4 v6 (Int64.ofNat w) 0 32 S = l_X11_bitsOf_150 (n + 1) v2 v4 v6 (Int64.ofNat w) (zI t) (zI 0) S := by
  rw [z_N_eq]
  obtain ⟨a1, r1, h1, k1, o1⟩ := EX_150 w1 w2 ht v2 S v4 v6 2999 0 32 (by omega) (by omega) (by omega) (by omega) (by omega)
  obtain ⟨a2, r2, h2, k2, o2⟩ := EX_150 w1 w2 ht v2 S v4 v6 2998 a1 16 h1 (by omega) (by omega) (by omega) (by omega)
  obtain ⟨a3, r3, h3, k3, o3⟩ := EX_150 w1 w2 ht v2 S v4 v6 2997 a2 8 h2 (by omega) (by omega) (by omega) (by omega)
  obtain ⟨a4, r4, h4, k4, o4⟩ := EX_150 w1 w2 ht v2 S v4 v6 2996 a3 4 h3 (by omega) (by omega) (by omega) (by omega)
  obtain ⟨a5, r5, h5, k5, o5⟩ := EX_150 w1 w2 ht v2 S v4 v6 2995 a4 2 h4 (by omega) (by omega) (by omega) (by omega)
  obtain ⟨a6, r6, h6, k6, o6⟩ := EX_150 w1 w2 ht v2 S v4 v6 2994 a5 1 h5 (by omega) (by omega) (by omega) (by omega)
  have : a6 = t := by omega
  subst this
  exact ⟨2993, r1.trans (r2.trans (r3.trans (r4.trans (r5.trans r6))))⟩
end Loops
theorem EX_w {c L : Nat} {e : Int} (l1 : 2 ^ L ≤ c) (l2 : c < 2 ^ (L + 1)) (h0 : 0 ≤ e + L) (h1 : -1074 ≤ e) : 2 ^ (e + L).toNat ≤ c * 2 ^ (e + 1074).toNat / uU ∧ c * 2 ^ (e + 1074).toNat / uU < 2 ^ ((e + L).toNat + 1) := by
  unfold uU
  constructor
  · apply (Nat.le_div_iff_mul_le (Nat.two_pow_pos 1074)).mpr
    rw [← Nat.pow_add, show (e + L).toNat + 1074 = L + (e + 1074).toNat by omega, Nat.pow_add]
    exact Nat.mul_le_mul_right _ l1
  · apply (Nat.div_lt_iff_lt_mul (Nat.two_pow_pos 1074)).mpr
    rw [← Nat.pow_add, show (e + L).toNat + 1 + 1074 = L + 1 + (e + 1074).toNat by omega, Nat.pow_add 2 (L + 1)]
    exact Nat.mul_lt_mul_of_pos_right l2 (Nat.two_pow_pos _)
/-- the bits of a positive number -/
theorem EX_bits {t : UInt64} {c : Nat} {q : Int} (h : FP.Core.val64 t = .fin false c q) : (c < 2 ^ 52 ∧ q = -1074 ∧ t.toNat = c) ∨ (2 ^ 52 ≤ c ∧ c < 2 ^ 53 ∧ -1074 ≤ q ∧ q ≤ 971 ∧ t.toNat = (q + 1075).toNat * 2 ^ 52 + (c - 2 ^ 52)) := by
  have hf := FP.Core.val64_fits t
  have hn : FP.Core.val64 t ≠ .nan := by rw [h]; intro z; cases z
  have ht : t = FP.Core.of64 (FP.Core.val64 t) := (FP.Core.of64_val64 hn).symm
  have h2 : t.toNat = FP.Core.encode FP.Core.b64 (FP.Core.val64 t) := by
    rw [← FP.Core.toNat_of64 hf, ← ht]
  rw [h] at h2 hf
  obtain ⟨f1, f2, f3, f4⟩ := hf
  rw [EX_q, FP.Core.tails_b64] at f4
  rw [EX_q] at f2
  rw [EX_x] at f3
  have f1' : c < 2 ^ 53 := f1
  unfold FP.Core.encode FP.Core.assemble at h2
  dsimp only at h2
  rw [FP.Core.tails_b64, EX_q] at h2
  by_cases hcc : c < 2 ^ 52
  · rw [if_pos hcc] at h2
    refine Or.inl ⟨hcc, by omega, ?_⟩
    rw [h2]
    simp
  · rw [if_neg hcc] at h2
    refine Or.inr ⟨by omega, f1', f2, f3, ?_⟩
    rw [h2, show (q + 1075).toNat = (q - -1074).toNat + 1 by omega]
    simp
theorem EX_48 {t : UInt64} (h0 : 0 < t.toNat) (h1 : t.toNat ≤ 9218868437227405312) (v2 : Int64) (S : z_St) : j_X11_bitsOf_48 v2 t S = some (v2 ||| t.toInt64, S) := by
  have n1 : FP.Core.val64 t ≠ .nan := (FP.Core.ne_nan t).mpr (by omega)
  have n2 : FP.Core.val64 9218868437227405311 ≠ .nan := by decide +kernel
  have mb := FP.Core.mono_bits n1 n2 (by omega) (by decide)
  have e9 : (9218868437227405311 : UInt64).toNat = 9218868437227405311 := by decide
  rw [e9] at mb
  unfold j_X11_bitsOf_48
  by_cases hi : t.toNat = 9218868437227405312
  · have e : t = 9218868437227405312 := UInt64.toNat_inj.mp (by rw [hi]; decide)
    rw [show FP.dcmp t 9218868437227405311 = FP.Core.dcmp t 9218868437227405311 from rfl, mb.2.2.mpr (by omega), if_neg (by decide), e]
    rfl
  · have hle : Op.cmpValue (FP.dcmp t 9218868437227405311) .l ≤ 0 := by
      rcases Nat.lt_or_ge t.toNat 9218868437227405311 with q | q
      · rw [show FP.dcmp t 9218868437227405311 = FP.Core.dcmp t 9218868437227405311 from rfl, mb.1.mpr q]; decide
      · rw [show FP.dcmp t 9218868437227405311 = FP.Core.dcmp t 9218868437227405311 from rfl, mb.2.1.mpr (by omega)]; decide
    rw [if_pos hle]
    obtain ⟨s, c, q, hv⟩ := (FP.Core.fin_bits t).mpr (by omega)
    have hs := FP.Core.sgn_bits n1
    rw [hv, decide_eq_false (by omega)] at hs
    have hs' : s = false := hs
    subst hs'
    have hf := FP.Core.val64_fits t
    have hb := EX_bits hv
    have hc : c < 2 ^ 53 := by omega
    have q1 : -1074 ≤ q := by omega
    have q2 : q ≤ 971 := by omega
    have c0 : c ≠ 0 := by omega
    have hx : Ex t c q := by
      unfold Ex
      rw [hv] at hf ⊢
      exact (FP.Core.round_of_fits FP.Core.good_b64 hf).symm
    have l1 : 2 ^ c.log2 ≤ c := Nat.log2_self_le c0
    have l2 : c < 2 ^ (c.log2 + 1) := Nat.lt_log2_self
    generalize c.log2 = L at l1 l2
    have hL := EX_L hc l1
    obtain ⟨v4, v6, e, r1, g1, g2, g3, g4, g5, g6, g7⟩ := EX_71 (q := q) hc l1 l2 v2 S 17 z_N t 0 0 q 0 0 hx (by decide) (by decide) (by omega) (by omega) (by rw [z_N_eq]; omega) (by omega) q1 q2 (by omega) (by omega) (by omega)
    rw [r1]
    obtain ⟨v4', v6', e', r2, k1, k2, k3, k4, k5, k6⟩ := EX_107 (q := q) hc l1 l2 v2 S 18 z_N v4 v6 0 e v6.toInt 0 g1 rfl (by decide) (by omega) (by omega) (by rw [z_N_eq]; omega) (by omega) g5 g3 g4 g2 (by omega) (by omega)
    rw [r2]
    obtain ⟨w1, w2⟩ := EX_w l1 l2 k5 k3
    have hw63 : c * 2 ^ (e' + 1074).toNat / uU < 2 ^ 63 := Nat.lt_of_lt_of_le w2 (Nat.pow_le_pow_right (by decide) (by omega))
    rw [EX_d2l k1 hc k3 k4 rfl hw63]
    obtain ⟨n, r3⟩ := EX_top w1 w2 (by omega) v2 S v4' v6'
    rw [r3]
    have ht : (e' + L).toNat < 60 := by omega
    have hM : c * 2 ^ (52 - L : Nat) < 2 ^ 53 := by
      calc c * 2 ^ (52 - L) < 2 ^ (L + 1) * 2 ^ (52 - L) := Nat.mul_lt_mul_of_pos_right l2 (Nat.two_pow_pos _)
        _ = 2 ^ 53 := by rw [← Nat.pow_add]; congr 1; omega
    have hdv : c * 2 ^ (52 - (L : Int) + 1074).toNat / uU = c * 2 ^ (52 - L : Nat) := by
      unfold uU
      rw [show (52 - (L : Int) + 1074).toNat = (52 - L : Nat) + 1074 by omega, Nat.pow_add, ← Nat.mul_assoc, Nat.mul_div_cancel _ (Nat.two_pow_pos 1074)]
    have x13 : (v6' + zI (e' + L).toNat).toInt = q + L := by
      rw [EX_add32 rfl (zI_I (by omega)) (by omega) (by omega)]; omega
    have fin : ∀ p : UInt64, Ex p c (52 - (L : Int)) → j_X11_bitsOf_217 v2 v6' (zI (e' + L).toNat) p S = some (v2 ||| t.toInt64, S) := by
      intro p hp
      unfold j_X11_bitsOf_217
      rw [EX_d2l hp hc (by omega) (by omega) hdv (by omega)]
      dsimp only
      have m22 : (-1022 : Int32).toInt = -1022 := by decide
      rcases hb with ⟨b1, b2, b3⟩ | ⟨b1, b2, b3, b4, b5⟩
      · have hl51 : L ≤ 51 := by
          have : L < 52 := (Nat.pow_lt_pow_iff_right (by decide : 1 < 2)).mp (Nat.lt_of_le_of_lt l1 b1)
          omega
        rw [if_neg (by rw [y_le, m22, x13]; omega)]
        have sx : (-1022 : Int32) - (v6' + zI (e' + L).toNat) = zI (52 - L) := y_eq.mpr (by
          rw [Int32.toInt_sub, m22, x13, zI_I (by omega), Int.bmod_eq_of_le (by omega) (by omega)]
          omega)
        rw [sx, EX_shr (by omega) (by omega), Nat.mul_div_cancel _ (Nat.two_pow_pos _)]
        congr 3
        apply Int64.toBitVec_inj.mp
        apply BitVec.eq_of_toNat_eq
        show (BitVec.ofNat 64 c).toNat = t.toNat
        rw [BitVec.toNat_ofNat, b3]
        omega
      · have hl52 : L = 52 := by
          have : 52 < L + 1 := (Nat.pow_lt_pow_iff_right (by decide : 1 < 2)).mp (Nat.lt_of_le_of_lt b1 l2)
          omega
        subst hl52
        rw [if_pos (by rw [y_le, m22, x13]; omega)]
        have sx : v6' + zI (e' + (52 : Nat)).toNat + 1023 = zI (q + 1075).toNat := y_eq.mpr (by
          rw [EX_add32 x13 (show (1023 : Int32).toInt = 1023 by decide) (by omega) (by omega), zI_I (by omega)]
          omega)
        rw [sx, show 52 - 52 = 0 from rfl, Nat.pow_zero, Nat.mul_one, Int64.or_assoc]
        congr 3
        apply Int64.toBitVec_inj.mp
        apply BitVec.eq_of_toNat_eq
        rw [Int64.toBitVec_or, BitVec.toNat_or, Int64.toBitVec_and, BitVec.toNat_and, Int64.toBitVec_shiftLeft]
        have s52 : ((52 : Int32).toInt64 &&& 63).toBitVec.smod 64 = 52#64 := by decide
        have o1 : (Int64.ofNat c).toBitVec.toNat = c := by
          show (BitVec.ofNat 64 c).toNat = c
          rw [BitVec.toNat_ofNat]; omega
        have o2 : (4503599627370495 : Int64).toBitVec.toNat = 2 ^ 52 - 1 := by decide
        have o3 : (zI (q + 1075).toNat).toInt64.toBitVec.toNat = (q + 1075).toNat := by
          have tab : ∀ k, k < 2047 → (zI k).toInt64.toBitVec.toNat = k := by decide +kernel
          exact tab _ (by omega)
        rw [s52, o1, o2, Nat.and_two_pow_sub_one_eq_mod]
        show ((zI (q + 1075).toNat).toInt64.toBitVec <<< (52 : Nat)).toNat ||| c % 2 ^ 52 = t.toNat
        rw [BitVec.toNat_shiftLeft, o3, Nat.shiftLeft_eq, b5]
        have e1 : (q + 1075).toNat * 2 ^ 52 % 2 ^ 64 = 2 ^ 52 * (q + 1075).toNat := by omega
        have e2 : c % 2 ^ 52 = c - 2 ^ 52 := by omega
        rw [e1, e2, ← Nat.two_pow_add_eq_or_of_lt (by omega), Nat.mul_comm]
    simp only [l_X11_bitsOf_150]
    rw [if_pos (show zI 0 < 1 by decide)]
    have z52 : (52 : Int32).toInt = 52 := by decide
    by_cases h52 : (52 : Int32) < zI (e' + L).toNat
    · rw [if_pos h52]
      rw [y_lt, z52, zI_I (by omega)] at h52
      have sx : zI (e' + L).toNat - 52 = zI (e' + L - 52).toNat := y_eq.mpr (by
        rw [Int32.toInt_sub, z52, zI_I (by omega), zI_I (by omega), Int.bmod_eq_of_le (by omega) (by omega)]
        omega)
      rw [sx]
      have hd := EX_div k1 hc k3 k4 (EX_p _ (by omega : (e' + L - 52).toNat < 64) (by omega)) (e' := 52 - (L : Int)) (by omega)
      rw [y_nn2, if_pos (EX_nn hd)]
      exact fin _ hd
    · rw [if_neg h52]
      rw [y_lt, z52, zI_I (by omega)] at h52
      have sx : 52 - zI (e' + L).toNat = zI (52 - (e' + L)).toNat := y_eq.mpr (by
        rw [Int32.toInt_sub, z52, zI_I (by omega), zI_I (by omega), Int.bmod_eq_of_le (by omega) (by omega)]
        omega)
      rw [sx]
      have hd := EX_mul k1 hc k3 k4 (EX_p _ (by omega : (52 - (e' + L)).toNat < 64) (by omega)) (e' := 52 - (L : Int)) (by omega)
      rw [y_nn2, if_pos (EX_nn hd)]
      exact fin _ hd
theorem EX_bitsC {d : UInt64} (h : nnD d) (S : z_St) : f_X11_bitsOf d S = some (d.toInt64, S) := by
  rw [e_X11_bitsOf]; unfold b_X11_bitsOf
  have hn : FP.Core.val64 d ≠ .nan := (FF_val d).mp h
  have hm := (FP.Core.ne_nan d).mp hn
  have hl := d.toNat_lt
  have n0 : FP.Core.val64 FP.dconst0 ≠ .nan := by decide +kernel
  have k0 : FP.Core.dkey FP.dconst0 = 0 := by decide +kernel
  by_cases hz : d.toNat = 0
  · have : d = 0 := UInt64.toNat_inj.mp hz
    subst this
    have nn : nnD (FP.ddiv FP.dconst1 0) := by unfold nnD; decide +kernel
    rw [if_pos (by decide +kernel), y_nn2, if_pos nn, if_pos (by decide +kernel)]
    rfl
  · by_cases hy : d.toNat = 9223372036854775808
    · have : d = 9223372036854775808 := UInt64.toNat_inj.mp hy
      subst this
      have nn : nnD (FP.ddiv FP.dconst1 9223372036854775808) := by unfold nnD; decide +kernel
      rw [if_pos (by decide +kernel), y_nn2, if_pos nn, if_neg (by decide +kernel)]
      rfl
    · by_cases hs : d.toNat < 2 ^ 63
      · have kd : FP.Core.dkey d = d.toNat := by unfold FP.Core.dkey; rw [if_neg (by omega)]
        have cg : FP.dcmp d FP.dconst0 = some .gt := (FP.Core.dcmp_gt_key hn n0).mpr (by rw [kd, k0]; omega)
        rw [cg, if_neg (by decide), if_pos (by decide)]
        unfold j_X11_bitsOf_35
        rw [cg, if_pos (by decide), EX_48 (by omega) (by omega)]
        congr 2
        apply Int64.toBitVec_inj.mp
        rw [Int64.toBitVec_or]
        exact BitVec.zero_or
      · have kd : FP.Core.dkey d = ((2 ^ 63 : Nat) : Int) - d.toNat := by unfold FP.Core.dkey; rw [if_pos (by omega)]
        have cg : FP.dcmp d FP.dconst0 = some .lt := (FP.Core.dcmp_lt_key hn n0).mpr (by rw [kd, k0]; omega)
        rw [cg, if_neg (by decide), if_neg (by decide)]
        unfold j_X11_bitsOf_35
        have hx : (FP.dneg d).toNat = d.toNat - 2 ^ 63 := by
          have : (FP.dneg d).toNat = d.toNat ^^^ 2 ^ 63 := by
            unfold FP.dneg; rw [UInt64.toNat_xor]; rfl
          rw [this]
          exact (FP.xor_top (a := d.toNat) (k := 63) (by omega)).2 (by omega)
        rw [cg, if_neg (by decide), EX_48 (by omega) (by omega)]
        congr 2
        apply Int64.toBitVec_inj.mp
        apply BitVec.eq_of_toNat_eq
        rw [Int64.toBitVec_or, BitVec.toNat_or]
        show 9223372036854775808 ||| (FP.dneg d).toNat = d.toNat
        have := Nat.two_pow_add_eq_or_of_lt (i := 63) (b := (FP.dneg d).toNat) (by omega) 1
        rw [Nat.mul_one] at this
        have e63 : (2 : Nat) ^ 63 = 9223372036854775808 := by decide
        rw [e63] at this
        rw [← this, hx]
        omega
end Bits
