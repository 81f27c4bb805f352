/-! exact scaling by powers of two: the class's realOf -/
section Ex
theorem EX_add32 {a b : Int32} {x y : Int} (ha : a.toInt = x) (hb : b.toInt = y) (h1 : -2147483648 ≤ x + y) (h2 : x + y < 2147483648) : (a + b).toInt = x + y := by
  rw [Int32.toInt_add, ha, hb]
  exact Int.bmod_eq_of_le (by omega) (by omega)
def Ex (d : UInt64) (c : Nat) (e : Int) : Prop := FP.Core.val64 d = FP.Core.round FP.Core.b64 (.fin false c e)
theorem EX_q : FP.Core.b64.qmin = -1074 := FP.Core.qmin_b64
theorem EX_x : FP.Core.b64.qmax = 971 := by decide
theorem EX_fin {d : UInt64} {c : Nat} {e : Int} (h : Ex d c e) (hc : c < 2 ^ 53) (h1 : -1074 ≤ e) (h2 : e ≤ 971) : ∃ c' q', FP.Core.val64 d = .fin false c' q' ∧ -1074 ≤ q' ∧ c' * 2 ^ (q' + 1074).toNat = c * 2 ^ (e + 1074).toNat := by
  obtain ⟨c', q', r1, r2⟩ := FP.Core.round_exact (f := FP.Core.b64) FP.Core.good_b64 false (c := c) (q := e) hc (by rw [EX_q]; exact h1) (by rw [EX_x]; exact h2)
  have hv : FP.Core.val64 d = .fin false c' q' := Eq.trans h r1
  have hf := FP.Core.val64_fits d
  rw [hv] at hf
  have hq : FP.Core.b64.qmin ≤ q' := hf.2.1
  unfold FP.Core.inUnits at r2
  rw [EX_q] at r2 hq
  refine ⟨c', q', hv, hq, ?_⟩
  rw [show q' + 1074 = q' - -1074 by omega, show e + 1074 = e - -1074 by omega]
  exact r2
theorem EX_pow {c c' a b : Nat} (h : c' * 2 ^ a = c * 2 ^ b) (k : Nat) : c' * 2 ^ k * 2 ^ (a - b - k) = c * 2 ^ (b + k - a) := by
  rcases Nat.le_total (b + k) a with hl | hl
  · have e1 : b + k - a = 0 := by omega
    rw [e1, Nat.pow_zero, Nat.mul_one, Nat.mul_assoc, ← Nat.pow_add]
    obtain ⟨m, hm⟩ : ∃ m, a = (k + (a - b - k)) + b ∧ m = 0 := ⟨0, by omega, rfl⟩
    have h' : c' * 2 ^ (k + (a - b - k)) * 2 ^ b = c * 2 ^ b := by
      rw [Nat.mul_assoc, ← Nat.pow_add, ← hm.1]; exact h
    exact Nat.eq_of_mul_eq_mul_right (Nat.two_pow_pos b) h'
  · have e1 : a - b - k = 0 := by omega
    rw [e1, Nat.pow_zero, Nat.mul_one]
    apply Nat.eq_of_mul_eq_mul_right (Nat.two_pow_pos a)
    have e2 : b + k = b + k - a + a := by omega
    calc c' * 2 ^ k * 2 ^ a = c' * 2 ^ a * 2 ^ k := Nat.mul_right_comm _ _ _
      _ = c * 2 ^ b * 2 ^ k := by rw [h]
      _ = c * 2 ^ (b + k) := by rw [Nat.mul_assoc, ← Nat.pow_add]
      _ = c * 2 ^ (b + k - a + a) := by rw [← e2]
      _ = c * 2 ^ (b + k - a) * 2 ^ a := by rw [Nat.pow_add, Nat.mul_assoc]
theorem EX_mul {d p : UInt64} {c : Nat} {e r e' : Int} (h : Ex d c e) (hc : c < 2 ^ 53) (h1 : -1074 ≤ e) (h2 : e ≤ 971) (hp : FP.Core.val64 p = .fin false (2 ^ 52) r) (he : e' = e + r + 52) : Ex (FP.dmul d p) c e' := by
  obtain ⟨c', q', hv, hq, hu⟩ := EX_fin h hc h1 h2
  unfold Ex
  rw [show FP.dmul d p = FP.Core.dmul d p from rfl, FP.Core.val64_dmul, hv, hp]
  show FP.Core.roundRatio FP.Core.b64 false (c' * 2 ^ 52) 1 (q' + r) = FP.Core.roundRatio FP.Core.b64 false c 1 e'
  refine FP.Core.roundRatio_congr (by decide) (by decide) ?_
  rw [Nat.mul_one, Nat.mul_one, show (q' + r - e').toNat = (q' + 1074).toNat - (e + 1074).toNat - 52 by omega, show (e' - (q' + r)).toNat = (e + 1074).toNat + 52 - (q' + 1074).toNat by omega]
  exact EX_pow hu 52
theorem EX_div {d p : UInt64} {c : Nat} {e r e' : Int} (h : Ex d c e) (hc : c < 2 ^ 53) (h1 : -1074 ≤ e) (h2 : e ≤ 971) (hp : FP.Core.val64 p = .fin false (2 ^ 52) r) (he : e' = e - r - 52) : Ex (FP.ddiv d p) c e' := by
  obtain ⟨c', q', hv, hq, hu⟩ := EX_fin h hc h1 h2
  unfold Ex
  rw [show FP.ddiv d p = FP.Core.ddiv d p from rfl, FP.Core.val64_ddiv, hv, hp]
  have h0 : ¬ (2 ^ 52 : Nat) = 0 := by decide
  simp only [FP.Core.quotient]
  rw [if_neg h0]
  show FP.Core.roundRatio FP.Core.b64 false c' (2 ^ 52) (q' - r) = FP.Core.roundRatio FP.Core.b64 false c 1 e'
  refine FP.Core.roundRatio_congr (by decide) (by decide) ?_
  rw [Nat.mul_one, show (q' - r - e').toNat = (q' + 1074).toNat + 52 - (e + 1074).toNat by omega, show (e' - (q' - r)).toNat = (e + 1074).toNat - (q' + 1074).toNat - 52 by omega]
  exact (EX_pow hu.symm 52).symm
theorem EX_nn {d : UInt64} {c : Nat} {e : Int} (h : Ex d c e) : nnD d := (FF_val d).mpr (by
  unfold Ex at h
  rw [h]
  exact FF_round (fun z => by cases z))
theorem EX_z {d : UInt64} {c : Nat} {e : Int} (h : Ex d c e) (hc : c < 2 ^ 53) (h1 : -1074 ≤ e) (h2 : e ≤ 971) : FP.Core.zval FP.Core.b64 (FP.Core.val64 d) = ((c * 2 ^ (e + 1074).toNat : Nat) : Int) := by
  obtain ⟨c', q', hv, hq, hu⟩ := EX_fin h hc h1 h2
  rw [hv, ← hu]
  show FP.Core.signed false (FP.Core.inUnits c' q' FP.Core.b64.qmin) = _
  unfold FP.Core.inUnits
  rw [EX_q, show q' - -1074 = q' + 1074 by omega]
  rfl
theorem EX_p : ∀ m, m < 64 → m ≠ 63 → FP.Core.val64 (FP.l2d ((1 : Int64) <<< ((zI m).toInt64 &&& 63))) = .fin false (2 ^ 52) ((m : Int) - 52) := by decide +kernel
theorem EX_p60 : FP.Core.val64 4877398396442247168 = .fin false (2 ^ 52) 8 := by decide +kernel
theorem EX_m60 : FP.Core.val64 4336966441157787648 = .fin false (2 ^ 52) (-112) := by decide +kernel
theorem EX_neg32 {v : Int32} {x : Int} (hx : v.toInt = x) (h1 : -2147483648 < x) (h2 : x ≤ 0) : -v = zI (-x).toNat := y_eq.mpr (by
  rw [Int32.toInt_neg, hx, zI_I (by omega), Int.bmod_eq_of_le (by omega) (by omega)]
  omega)
theorem EX_zI {v : Int32} {x : Int} (hx : v.toInt = x) (h2 : 0 ≤ x) : v = zI x.toNat := y_eq.mpr (by
  have := y_lim v
  rw [zI_I (by omega), hx]
  omega)
theorem EX_70 {v3 : UInt64} {v5 : Int32} {c : Nat} {e x : Int} (h : Ex v3 c e) (hc : c < 2 ^ 53) (h1 : -1074 ≤ e) (h2 : e ≤ 971) (hx : v5.toInt = x) (l1 : -60 < x) (l2 : x < 60) (S : z_St) : ∃ d, j_X11_scaled_70 v3 v5 S = some (d, S) ∧ Ex d c (e + x) := by
  unfold j_X11_scaled_70
  have z0 : (0 : Int32).toInt = 0 := by decide
  by_cases hs : v5 < 0
  · rw [if_pos hs]
    rw [y_lt, z0, hx] at hs
    rw [EX_neg32 hx (by omega) (by omega)]
    have hd := EX_div h hc h1 h2 (EX_p _ (by omega : (-x).toNat < 64) (by omega)) (e' := e + x) (by omega)
    rw [y_nn2, if_pos (EX_nn hd)]
    exact ⟨_, rfl, hd⟩
  · rw [if_neg hs]
    rw [y_lt, z0, hx] at hs
    rw [EX_zI hx (by omega)]
    have hd := EX_mul h hc h1 h2 (EX_p _ (by omega : x.toNat < 64) (by omega)) (e' := e + x) (by omega)
    rw [y_nn2, if_pos (EX_nn hd)]
    exact ⟨_, rfl, hd⟩
theorem EX_41 {c : Nat} (hc : c < 2 ^ 53) (S : z_St) (k : Nat) : ∀ (N : Nat) (v3 : UInt64) (v5 v6 : Int32) (e x i : Int), Ex v3 c e → v5.toInt = x → v6.toInt = i → 0 ≤ i → i + k ≤ 19 → k < N → -60 * ((k : Int) + 1) < x → x < 60 → -1074 ≤ e → e ≤ 971 → -1074 ≤ e + x → ∃ d, l_X11_scaled_41 N v3 v5 v6 S = some (d, S) ∧ Ex d c (e + x) := by
  have z20 : (20 : Int32).toInt = 20 := by decide
  have z60 : (-60 : Int32).toInt = -60 := by decide
  have p60 : (60 : Int32).toInt = 60 := by decide
  have p1 : (1 : Int32).toInt = 1 := by decide
  induction k with
  | zero =>
    intro N v3 v5 v6 e x i h hx hi i0 ik kN xk x60 e1 e2 ex
    obtain ⟨N, rfl⟩ : ∃ N', N = N' + 1 := ⟨N - 1, by omega⟩
    have a1 : ¬ (20 : Int32) ≤ v6 := by rw [y_le, hi, z20]; omega
    have a2 : (-60 : Int32) < v5 := by rw [y_lt, hx, z60]; omega
    simp only [l_X11_scaled_41]
    rw [if_neg a1, if_pos a2]
    exact EX_70 h hc e1 e2 hx (by omega) x60 S
  | succ k ih =>
    intro N v3 v5 v6 e x i h hx hi i0 ik kN xk x60 e1 e2 ex
    obtain ⟨N, rfl⟩ : ∃ N', N = N' + 1 := ⟨N - 1, by omega⟩
    have a1 : ¬ (20 : Int32) ≤ v6 := by rw [y_le, hi, z20]; omega
    simp only [l_X11_scaled_41]
    rw [if_neg a1]
    by_cases a2 : (-60 : Int32) < v5
    · rw [if_pos a2]
      rw [y_lt, hx, z60] at a2
      exact EX_70 h hc e1 e2 hx (by omega) x60 S
    · rw [if_neg a2]
      rw [y_lt, hx, z60] at a2
      have hm := EX_mul h hc e1 e2 EX_m60 (e' := e - 60) (by omega)
      rw [y_nn2, if_pos (EX_nn hm)]
      obtain ⟨d, d1, d2⟩ := ih N _ (v5 + 60) (v6 + 1) (e - 60) (x + 60) (i + 1) hm (EX_add32 hx p60 (by omega) (by omega)) (EX_add32 hi p1 (by omega) (by omega)) (by omega) (by omega) (by omega) (by omega) (by omega) (by omega) (by omega) (by omega)
      refine ⟨d, d1, ?_⟩
      rw [show e + x = e - 60 + (x + 60) by omega]
      exact d2
theorem EX_9 {c : Nat} (hc : c < 2 ^ 53) (S : z_St) (k : Nat) : ∀ (N : Nat) (v3 : UInt64) (v5 v6 : Int32) (e x i : Int), Ex v3 c e → v5.toInt = x → v6.toInt = i → 0 ≤ i → i + k ≤ 19 → k < N → x < 60 * ((k : Int) + 1) → -1100 ≤ x → -1074 ≤ e → e ≤ 971 → -1074 ≤ e + x → e + x ≤ 971 → ∃ d, l_X11_scaled_9 N v3 v5 v6 S = some (d, S) ∧ Ex d c (e + x) := by
  have z20 : (20 : Int32).toInt = 20 := by decide
  have z60 : (-60 : Int32).toInt = -60 := by decide
  have p60 : (60 : Int32).toInt = 60 := by decide
  have p1 : (1 : Int32).toInt = 1 := by decide
  have p0 : (0 : Int32).toInt = 0 := by decide
  induction k with
  | zero =>
    intro N v3 v5 v6 e x i h hx hi i0 ik kN xk x60 e1 e2 ex ey
    obtain ⟨N, rfl⟩ : ∃ N', N = N' + 1 := ⟨N - 1, by omega⟩
    have a1 : ¬ (20 : Int32) ≤ v6 := by rw [y_le, hi, z20]; omega
    have a2 : v5 < (60 : Int32) := by rw [y_lt, hx, p60]; omega
    simp only [l_X11_scaled_9]
    rw [if_neg a1, if_pos a2]
    exact EX_41 hc S 18 z_N v3 v5 0 e x 0 h hx p0 (by omega) (by omega) (by rw [z_N_eq]; omega) (by omega) (by omega) e1 e2 ex
  | succ k ih =>
    intro N v3 v5 v6 e x i h hx hi i0 ik kN xk x60 e1 e2 ex ey
    obtain ⟨N, rfl⟩ : ∃ N', N = N' + 1 := ⟨N - 1, by omega⟩
    have a1 : ¬ (20 : Int32) ≤ v6 := by rw [y_le, hi, z20]; omega
    simp only [l_X11_scaled_9]
    rw [if_neg a1]
    by_cases a2 : v5 < (60 : Int32)
    · rw [if_pos a2]
      rw [y_lt, hx, p60] at a2
      exact EX_41 hc S 18 z_N v3 v5 0 e x 0 h hx p0 (by omega) (by omega) (by rw [z_N_eq]; omega) (by omega) (by omega) e1 e2 ex
    · rw [if_neg a2]
      rw [y_lt, hx, p60] at a2
      have hm := EX_mul h hc e1 e2 EX_p60 (e' := e + 60) (by omega)
      rw [y_nn2, if_pos (EX_nn hm)]
      obtain ⟨d, d1, d2⟩ := ih N _ (v5 + -60) (v6 + 1) (e + 60) (x + -60) (i + 1) hm (EX_add32 hx z60 (by omega) (by omega)) (EX_add32 hi p1 (by omega) (by omega)) (by omega) (by omega) (by omega) (by omega) (by omega) (by omega) (by omega) (by omega) (by omega)
      refine ⟨d, d1, ?_⟩
      rw [show e + x = e + 60 + (x + -60) by omega]
      exact d2
theorem EX_l2d {v : Int64} {c : Nat} (hv : v.toInt = (c : Int)) : Ex (FP.l2d v) c 0 := by
  unfold Ex
  rw [show FP.l2d v = FP.Core.l2d v from rfl, FP.Core.val64_l2d, hv]
  unfold FP.Core.ofInt
  rw [decide_eq_false (by omega), Int.natAbs_natCast]
theorem EX_scaled {v : Int64} {w : Int32} {c : Nat} {e : Int} (hv : v.toInt = (c : Int)) (hc : c < 2 ^ 53) (hw : w.toInt = e) (h1 : -1074 ≤ e) (h2 : e ≤ 971) (S : z_St) : ∃ d, f_X11_scaled v w S = some (d, S) ∧ Ex d c e := by
  rw [e_X11_scaled]; unfold b_X11_scaled
  obtain ⟨d, d1, d2⟩ := EX_9 hc S 17 z_N (FP.l2d v) w 0 0 e 0 (EX_l2d hv) hw (by decide) (by omega) (by omega) (by rw [z_N_eq]; omega) (by omega) (by omega) (by omega) (by omega) (by omega) (by omega)
  rw [Int.zero_add] at d2
  exact ⟨d, d1, d2⟩
theorem EX_E (b : Int64) : (((b.toUInt64 >>> (((52 : Int32)).toInt64.toUInt64 &&& Int64.toUInt64 63)).toInt64).toInt32) &&& ((2047 : Int32)) = zI (b.toUInt64.toNat / 4503599627370496 % 2048) := by
  apply Int32.toBitVec_inj.mp
  apply BitVec.eq_of_toNat_eq
  rw [Int32.toBitVec_and, BitVec.toNat_and, Int64.toBitVec_toInt32, BitVec.signExtend_eq_setWidth_of_le _ (by decide), BitVec.toNat_setWidth]
  have e1 : (2047 : Int32).toBitVec.toNat = 2 ^ 11 - 1 := by decide
  have e2 : ((b.toUInt64 >>> ((52 : Int32).toInt64.toUInt64 &&& Int64.toUInt64 63)).toInt64).toBitVec.toNat = b.toUInt64.toNat / 4503599627370496 := by
    show (b.toUInt64 >>> ((52 : Int32).toInt64.toUInt64 &&& Int64.toUInt64 63)).toNat = _
    rw [UInt64.toNat_shiftRight, show ((52 : Int32).toInt64.toUInt64 &&& Int64.toUInt64 63).toNat % 64 = 52 by decide, Nat.shiftRight_eq_div_pow]
  rw [e1, e2, Nat.and_two_pow_sub_one_eq_mod]
  show _ = (BitVec.ofNat 32 _).toNat
  rw [BitVec.toNat_ofNat]
  omega
theorem EX_int {v : Int64} {n : Nat} (h : v.toBitVec.toNat = n) (hn : n < 2 ^ 63) : v.toInt = (n : Int) := by
  show v.toBitVec.toInt = _
  rw [BitVec.toInt_eq_toNat_of_lt (by rw [h]; omega), h]
theorem EX_Tn (b : Int64) : (b &&& (4503599627370495 : Int64)).toBitVec.toNat = b.toUInt64.toNat % 4503599627370496 := by
  rw [Int64.toBitVec_and, BitVec.toNat_and]
  exact Nat.and_two_pow_sub_one_eq_mod b.toUInt64.toNat 52
theorem EX_Tn2 (b : Int64) : ((b &&& (4503599627370495 : Int64)) ||| (4503599627370496 : Int64)).toBitVec.toNat = 4503599627370496 + b.toUInt64.toNat % 4503599627370496 := by
  rw [Int64.toBitVec_or, BitVec.toNat_or, EX_Tn, Nat.or_comm]
  have := Nat.two_pow_add_eq_or_of_lt (i := 52) (b := b.toUInt64.toNat % 4503599627370496) (by omega) 1
  rw [Nat.mul_one] at this
  exact this.symm
theorem EX_63 {b : Int64} {d : UInt64} (S : z_St) (hp : FP.Core.val64 d ≠ .nan) (h1 : b.toUInt64.toNat < 2 ^ 63 → FP.Core.val64 b.toUInt64 = FP.Core.val64 d) (h2 : 2 ^ 63 ≤ b.toUInt64.toNat → FP.Core.val64 b.toUInt64 = FP.Core.negate (FP.Core.val64 d)) : j_X11_realOf_63 b d S = some (b.toUInt64, S) := by
  unfold j_X11_realOf_63
  have hi : b.toInt = if 2 * b.toUInt64.toNat < 2 ^ 64 then (b.toUInt64.toNat : Int) else (b.toUInt64.toNat : Int) - (2 ^ 64 : Nat) := BitVec.toInt_eq_toNat_cond b.toBitVec
  have z0 : (0 : Int64).toInt = 0 := by decide
  have hl := b.toUInt64.toNat_lt
  by_cases hs : 0 ≤ lg_cmp b 0
  · rw [if_pos hs]
    rw [y_lec, Int64.le_iff_toInt_le, z0, hi] at hs
    have : b.toUInt64.toNat < 2 ^ 63 := by split at hs <;> omega
    rw [FP.Core.val64_inj hp (h1 this).symm]
  · rw [if_neg hs]
    rw [y_lec, Int64.le_iff_toInt_le, z0, hi] at hs
    have h3 : 2 ^ 63 ≤ b.toUInt64.toNat := by split at hs <;> omega
    have e : FP.dneg d = b.toUInt64 := by
      refine FP.Core.val64_inj ?_ ?_
      · rw [FP.val64_dneg]; exact FP.Core.negate_ne_nan hp
      · rw [FP.val64_dneg, h2 h3]
    rw [e]
theorem EX_S (n : UInt64) : FP.Core.fieldS FP.Core.b64 n.toNat = decide (2 ^ 63 ≤ n.toNat) := by
  rw [FP.Core.fieldS_mag _ (FP.Core.lt_full64 n), FP.Core.half_b64]
theorem EX_fits {c : Nat} {q : Int} (hc : c < 2 ^ 53) (h1 : -1074 ≤ q) (h2 : q ≤ 971) (h3 : q = -1074 ∨ 2 ^ 52 ≤ c) (s : Bool) : FP.Core.fits FP.Core.b64 (.fin s c q) := by
  refine ⟨hc, by rw [EX_q]; exact h1, by rw [EX_x]; exact h2, ?_⟩
  rw [EX_q, FP.Core.tails_b64]
  exact h3
theorem EX_realC {b : Int64} (h : ¬ (9218868437227405312 : Int64) < b &&& 9223372036854775807) (S : z_St) : f_X11_realOf b S = some (b.toUInt64, S) := by
  have hn : nnD b.toUInt64 := Classical.byContradiction fun q => h ((FF_nan b).mpr q)
  unfold nnD at hn
  have e3 : (0x7ff0000000000000 : UInt64).toNat = 9218868437227405312 := by decide
  rw [UInt64.le_iff_toNat_le, FF_and63, e3] at hn
  have hl := b.toUInt64.toNat_lt
  have hS := EX_S b.toUInt64
  have t1 : FP.Core.b64.tails = 4503599627370496 := by decide
  have t2 : FP.Core.b64.exps = 2048 := by decide
  have hv : FP.Core.val64 b.toUInt64 = if b.toUInt64.toNat / 4503599627370496 % 2048 = 2048 - 1 then (if b.toUInt64.toNat % 4503599627370496 = 0 then .inf (decide (2 ^ 63 ≤ b.toUInt64.toNat)) else .nan) else if b.toUInt64.toNat / 4503599627370496 % 2048 = 0 then .fin (decide (2 ^ 63 ≤ b.toUInt64.toNat)) (b.toUInt64.toNat % 4503599627370496) (-1074) else .fin (decide (2 ^ 63 ≤ b.toUInt64.toNat)) (4503599627370496 + b.toUInt64.toNat % 4503599627370496) (-1074 + (((b.toUInt64.toNat / 4503599627370496 % 2048 : Nat) : Int) - 1)) := by
    unfold FP.Core.val64 FP.Core.decode
    rw [hS]
    unfold FP.Core.fieldE FP.Core.fieldT
    rw [t1, t2, EX_q]
  rw [e_X11_realOf]; unfold b_X11_realOf
  rw [x_noNumber, if_neg h, y_bs]
  dsimp only
  rw [if_pos rfl, EX_E]
  have T1 := EX_Tn b
  have T2 := EX_Tn2 b
  generalize hEE : b.toUInt64.toNat / 4503599627370496 % 2048 = E at *
  generalize hTT : b.toUInt64.toNat % 4503599627370496 = Tt at *
  have hE : E < 2048 := by omega
  have hT : Tt < 4503599627370496 := by omega
  by_cases h47 : E = 2047
  · subst h47
    rw [if_pos (show zI 2047 = 2047 from rfl)]
    have hT0 : Tt = 0 := by omega
    rw [if_pos (by decide), if_pos hT0] at hv
    have c1 : FP.Core.val64 9218868437227405312 = .inf false := by decide +kernel
    refine EX_63 S (by rw [c1]; intro z; cases z) (fun q => ?_) (fun q => ?_)
    · rw [hv, c1, decide_eq_false (by omega)]
    · rw [hv, c1, decide_eq_true q]; rfl
  · have h47' : ¬ zI E = 2047 := by rw [zI_eqR (by omega) (by decide)]; exact h47
    rw [if_neg h47']
    rw [if_neg (by omega)] at hv
    by_cases h0 : E = 0
    · subst h0
      rw [if_pos rfl] at hv
      have m1 : f_J9_max_7cf53 (zI 0) 1 S = some (1, S) := by
        rw [e_J9_max_7cf53]; unfold b_J9_max_7cf53
        rw [if_pos (by decide)]
      rw [if_pos (show zI 0 = 0 from rfl), m1, y_bs]
      obtain ⟨d, d1, d2⟩ := EX_scaled (c := Tt) (w := 1 - 1075) (e := -1074) (EX_int T1 (by omega)) (by omega) (by decide) (by omega) (by omega) S
      dsimp only
      rw [d1, y_bs]
      dsimp only
      have d3 : FP.Core.val64 d = .fin false Tt (-1074) := Eq.trans d2 (FP.Core.round_of_fits FP.Core.good_b64 (EX_fits (by omega) (by omega) (by omega) (Or.inl rfl) false))
      refine EX_63 S (by rw [d3]; intro z; cases z) (fun q => ?_) (fun q => ?_)
      · rw [hv, d3, decide_eq_false (by omega)]
      · rw [hv, d3, decide_eq_true q]; rfl
    · rw [if_neg h0] at hv
      have m1 : f_J9_max_7cf53 (zI E) 1 S = some (zI E, S) := by
        rw [e_J9_max_7cf53]; unfold b_J9_max_7cf53
        rw [if_neg (by rw [zI_ltR (by omega) (by decide)]; omega)]
      have h0' : ¬ zI E = 0 := by rw [zI_eqR (by omega) (by decide)]; exact h0
      rw [if_neg h0', m1, y_bs]
      have w1 : (zI E - 1075).toInt = (E : Int) - 1075 := by
        rw [Int32.toInt_sub, zI_I (by omega), show (1075 : Int32).toInt = 1075 by decide]
        exact Int.bmod_eq_of_le (by omega) (by omega)
      obtain ⟨d, d1, d2⟩ := EX_scaled (c := 4503599627370496 + Tt) (w := zI E - 1075) (e := (E : Int) - 1075) (EX_int T2 (by omega)) (by omega) w1 (by omega) (by omega) S
      dsimp only
      rw [d1, y_bs]
      dsimp only
      have d3 : FP.Core.val64 d = .fin false (4503599627370496 + Tt) ((E : Int) - 1075) := Eq.trans d2 (FP.Core.round_of_fits FP.Core.good_b64 (EX_fits (by omega) (by omega) (by omega) (Or.inr (by omega)) false))
      have e5 : -1074 + ((E : Int) - 1) = (E : Int) - 1075 := by omega
      rw [e5] at hv
      refine EX_63 S (by rw [d3]; intro z; cases z) (fun q => ?_) (fun q => ?_)
      · rw [hv, d3, decide_eq_false (by omega)]
      · rw [hv, d3, decide_eq_true q]; rfl
end Ex
