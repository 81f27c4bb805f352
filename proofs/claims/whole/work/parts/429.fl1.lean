/-! reals: NaN by bits and by data; what is no NaN -/
section Fl1
theorem FF_and63 (d : UInt64) : (d &&& 0x7fffffffffffffff).toNat = d.toNat % 2 ^ 63 := by
  rw [UInt64.toNat_and]
  exact Nat.and_two_pow_sub_one_eq_mod d.toNat 63
theorem FF_val (d : UInt64) : nnD d ↔ FP.Core.val64 d ≠ .nan := by
  unfold nnD
  rw [UInt64.le_iff_toNat_le, FF_and63]
  unfold FP.Core.val64 FP.Core.decode FP.Core.fieldE FP.Core.fieldT
  have e1 : FP.Core.b64.tails = 4503599627370496 := by decide
  have e2 : FP.Core.b64.exps = 2048 := by decide
  have e3 : (0x7ff0000000000000 : UInt64).toNat = 9218868437227405312 := by decide
  rw [e1, e2, e3]
  have h := d.toNat_lt
  generalize d.toNat = n at *
  by_cases h1 : n / 4503599627370496 % 2048 = 2048 - 1
  · rw [if_pos h1]
    by_cases h2 : n % 4503599627370496 = 0
    · rw [if_pos h2]
      exact ⟨fun _ z => (by cases z), fun _ => by omega⟩
    · rw [if_neg h2]
      exact ⟨fun q => by omega, fun z => absurd rfl z⟩
  · rw [if_neg h1]
    refine ⟨fun _ => ?_, fun _ => by omega⟩
    split <;> (intro z; cases z)
theorem FF_and31 (d : UInt32) : (d &&& 0x7fffffff).toNat = d.toNat % 2 ^ 31 := by
  rw [UInt32.toNat_and]
  exact Nat.and_two_pow_sub_one_eq_mod d.toNat 31
theorem FF_valF (d : UInt32) : nnF d ↔ FP.Core.val32 d ≠ .nan := by
  unfold nnF
  rw [UInt32.le_iff_toNat_le, FF_and31]
  unfold FP.Core.val32 FP.Core.decode FP.Core.fieldE FP.Core.fieldT
  have e1 : FP.Core.b32.tails = 8388608 := by decide
  have e2 : FP.Core.b32.exps = 256 := by decide
  have e3 : (0x7f800000 : UInt32).toNat = 2139095040 := by decide
  rw [e1, e2, e3]
  have h := d.toNat_lt
  generalize d.toNat = n at *
  by_cases h1 : n / 8388608 % 256 = 256 - 1
  · rw [if_pos h1]
    by_cases h2 : n % 8388608 = 0
    · rw [if_pos h2]
      exact ⟨fun _ z => (by cases z), fun _ => by omega⟩
    · rw [if_neg h2]
      exact ⟨fun q => by omega, fun z => absurd rfl z⟩
  · rw [if_neg h1]
    refine ⟨fun _ => ?_, fun _ => by omega⟩
    split <;> (intro z; cases z)
theorem FF_rr (f : FP.Core.Fmt) (s : Bool) (a b : Nat) (e : Int) : FP.Core.roundRatio f s a b e ≠ .nan := by
  unfold FP.Core.roundRatio FP.Core.roundAt FP.Core.settle FP.Core.bound
  split
  · intro z; cases z
  · split <;> split <;> (intro z; cases z)
theorem FF_round {f : FP.Core.Fmt} {d : FP.Core.Datum} (h : d ≠ .nan) : FP.Core.round f d ≠ .nan := by
  cases d with
  | nan => exact absurd rfl h
  | inf s => intro z; cases z
  | fin s c q => exact FF_rr f s c 1 q
theorem FF_ofInt (i : Int) : FP.Core.ofInt i ≠ .nan := by
  unfold FP.Core.ofInt
  intro z; cases z
theorem FF_l2d (v : Int64) : nnD (FP.l2d v) := (FF_val _).mpr (by
  rw [show FP.l2d v = FP.Core.l2d v from rfl, FP.Core.val64_l2d]; exact FF_round (FF_ofInt _))
theorem FF_i2d (v : Int32) : nnD (FP.i2d v) := (FF_val _).mpr (by
  rw [show FP.i2d v = FP.Core.i2d v from rfl, FP.Core.val64_i2d]; exact FF_round (FF_ofInt _))
theorem FF_l2f (v : Int64) : nnF (FP.l2f v) := (FF_valF _).mpr (by
  rw [show FP.l2f v = FP.Core.l2f v from rfl, FP.Core.val32_l2f]; exact FF_round (FF_ofInt _))
theorem FF_f2d {x : UInt32} (h : nnF x) : nnD (FP.f2d x) := (FF_val _).mpr (by
  have h1 := (FF_valF x).mp h
  have h2 : ¬ FP.Core.fIsNaN x = true := fun z => h1 ((FP.Core.fIsNaN_iff x).mp z)
  unfold FP.f2d
  rw [if_neg h2, FP.Core.val64_f2d]
  exact FF_round h1)
theorem FF_d2f {x : UInt64} (h : nnD x) : nnF (FP.d2f x) := (FF_valF _).mpr (by
  have h1 := (FF_val x).mp h
  have h2 : ¬ FP.Core.dIsNaN x = true := fun z => h1 ((FP.Core.dIsNaN_iff x).mp z)
  unfold FP.d2f
  rw [if_neg h2, FP.Core.val32_d2f]
  exact FF_round h1)
theorem FF_self {d : UInt64} (h : nnD d) : Op.cmpValue (FP.dcmp d d) .l = 0 := by
  rw [show FP.dcmp d d = FP.Core.dcmp d d from rfl, FP.Core.dcmp_self ((FF_val d).mp h)]
  rfl
theorem FF_vN : FP.Core.val64 9221120237041090560 = .nan := FP.Core.val64_dNaN
theorem FF_nanL (d : UInt64) : FP.dcmp 9221120237041090560 d = none := (FP.Core.dcmp_none _ _).mpr (Or.inl FF_vN)
theorem FF_nanR (d : UInt64) : FP.dcmp d 9221120237041090560 = none := (FP.Core.dcmp_none _ _).mpr (Or.inr FF_vN)
theorem FF_d2lN : FP.d2l 9221120237041090560 = 0 := by
  show FP.Core.toL (FP.Core.val64 9221120237041090560) = 0
  rw [FF_vN]
  decide
theorem FF_bt (b : Int64) : b.toUInt64.toInt64 = b := rfl
theorem FF_and64 (b : Int64) : (b &&& 9223372036854775807).toInt = ((b.toUInt64.toNat % 2 ^ 63 : Nat) : Int) := by
  have e : (b &&& 9223372036854775807).toBitVec.toNat = b.toUInt64.toNat % 2 ^ 63 := by
    rw [Int64.toBitVec_and, BitVec.toNat_and]
    exact Nat.and_two_pow_sub_one_eq_mod b.toUInt64.toNat 63
  show (b &&& 9223372036854775807).toBitVec.toInt = _
  rw [BitVec.toInt_eq_toNat_of_lt (by rw [e]; omega), e]
theorem FF_nan (b : Int64) : (9218868437227405312 : Int64) < b &&& 9223372036854775807 ↔ ¬ nnD b.toUInt64 := by
  unfold nnD
  have e3 : (0x7ff0000000000000 : UInt64).toNat = 9218868437227405312 := by decide
  have e4 : (9218868437227405312 : Int64).toInt = 9218868437227405312 := by decide
  rw [UInt64.le_iff_toNat_le, FF_and63, e3, Int64.lt_iff_toInt_lt, FF_and64, e4]
  omega
theorem FF_m16 (x : UInt32) : x % 65536 = x &&& 65535 := by
  apply UInt32.toNat_inj.mp
  rw [UInt32.toNat_mod, UInt32.toNat_and]
  exact (Nat.and_two_pow_sub_one_eq_mod x.toNat 16).symm
theorem FF_charI (v : Int32) : (v.toUInt32 % 65536).toInt32 = v &&& 65535 := by
  rw [FF_m16]
  apply Int32.toBitVec_inj.mp
  rfl
theorem FF_char (v : Int64) : (v.toInt32.toUInt32 % 65536).toInt32.toInt64 = v &&& 65535 := by
  rw [FF_charI]
  apply Int64.toBitVec_inj.mp
  rw [Int64.toBitVec_and, Int32.toBitVec_toInt64, Int32.toBitVec_and, Int64.toBitVec_toInt32]
  apply BitVec.eq_of_toNat_eq
  have a1 : (BitVec.signExtend 32 v.toBitVec &&& (65535 : Int32).toBitVec).toNat = v.toBitVec.toNat % 65536 := by
    rw [BitVec.toNat_and]
    have : (65535 : Int32).toBitVec.toNat = 2 ^ 16 - 1 := by decide
    rw [this, Nat.and_two_pow_sub_one_eq_mod, BitVec.signExtend_eq_setWidth_of_le _ (by decide), BitVec.toNat_setWidth]
    omega
  have a2 : (BitVec.signExtend 32 v.toBitVec &&& (65535 : Int32).toBitVec).msb = false := by
    rw [BitVec.msb_eq_decide, a1]
    exact decide_eq_false (by omega)
  rw [BitVec.signExtend_eq_setWidth_of_msb_false a2, BitVec.toNat_setWidth, a1, BitVec.toNat_and]
  have : (65535 : Int64).toBitVec.toNat = 2 ^ 16 - 1 := by decide
  rw [this, Nat.and_two_pow_sub_one_eq_mod]
  omega
theorem FF_td (x : Int) : (x - x.tdiv 2 * 2 = x % 2 ∧ 0 ≤ x) ∨ (x - x.tdiv 2 * 2 = -(x % 2) ∧ x ≤ 0) := by
  rcases Int.le_total 0 x with h | h
  · left
    rw [Int.tdiv_eq_ediv_of_nonneg h]
    omega
  · right
    have e : x.tdiv 2 = -((-x) / 2) := by
      have := Int.neg_tdiv (-x) 2
      rw [Int.neg_neg, Int.tdiv_eq_ediv_of_nonneg (by omega : 0 ≤ -x)] at this
      exact this
    rw [e]
    omega
theorem FF_odd (v : Int64) : (v - v / 2 * 2 = 0) = (v &&& 1 = 0) := by
  have td := FF_td v.toInt
  have hd : (v / 2).toInt = v.toInt.tdiv 2 := by
    rw [Int64.toInt_div]
    have h1 := Int64.toInt_lt v
    have h2 := Int64.le_toInt v
    have e2 : (2 : Int64).toInt = 2 := by decide
    rw [e2]
    apply Int.bmod_eq_of_le <;> omega
  have hm : (v / 2 * 2).toInt = v.toInt.tdiv 2 * 2 := by
    rw [Int64.toInt_mul, hd]
    have h1 := Int64.toInt_lt v
    have h2 := Int64.le_toInt v
    have e2 : (2 : Int64).toInt = 2 := by decide
    rw [e2]
    apply Int.bmod_eq_of_le <;> omega
  have hs : (v - v / 2 * 2).toInt = v.toInt - v.toInt.tdiv 2 * 2 := by
    rw [Int64.toInt_sub, hm]
    have h1 := Int64.toInt_lt v
    have h2 := Int64.le_toInt v
    apply Int.bmod_eq_of_le <;> omega
  have ha : (v &&& 1).toBitVec.toNat = v.toBitVec.toNat % 2 := by
    rw [Int64.toBitVec_and, BitVec.toNat_and]
    have : (1 : Int64).toBitVec.toNat = 2 ^ 1 - 1 := by decide
    rw [this, Nat.and_two_pow_sub_one_eq_mod]
  have hv : v.toInt % 2 = (v.toBitVec.toNat % 2 : Nat) := by
    have : v.toInt = v.toBitVec.toInt := rfl
    rw [this, BitVec.toInt_eq_toNat_cond]
    split <;> omega
  apply propext
  constructor
  · intro h
    have h0 := congrArg Int64.toInt h
    rw [hs] at h0
    have z : (0 : Int64).toInt = 0 := by decide
    rw [z] at h0
    apply Int64.toBitVec_inj.mp
    apply BitVec.eq_of_toNat_eq
    rw [ha]
    have : (0 : Int64).toBitVec.toNat = 0 := by decide
    rw [this]
    omega
  · intro h
    have h0 := congrArg (fun u : Int64 => u.toBitVec.toNat) h
    rw [ha] at h0
    have : (0 : Int64).toBitVec.toNat = 0 := by decide
    rw [this] at h0
    apply Int64.toInt_inj.mp
    rw [hs]
    have z : (0 : Int64).toInt = 0 := by decide
    rw [z]
    omega
theorem FF_lead {n : Nat} (hn : n < 2 ^ 64) (h0 : n ≠ 0) : FP.Core.leading n 1 ≤ 63 := by
  have h : n.log2 < 64 := (Nat.log2_lt h0).mpr hn
  have h1 : (1 : Nat).log2 = 0 := by decide
  unfold FP.Core.leading
  dsimp only
  rw [h1]
  split <;> omega
theorem FF_small {f : FP.Core.Fmt} (s : Bool) {n : Nat} (hn : n < 2 ^ 64) (h1 : f.qmin + 1 ≤ f.qmax) (h2 : (65 : Int) ≤ f.qmax) (hp : 1 ≤ f.p) : ∃ t c q, FP.Core.roundRatio f s n 1 0 = .fin t c q := by
  unfold FP.Core.roundRatio
  by_cases h0 : n = 0
  · rw [if_pos h0]; exact ⟨_, _, _, rfl⟩
  · rw [if_neg h0]
    have hl := FF_lead hn h0
    have hq : FP.Core.quantum f n 1 0 + 1 ≤ f.qmax := by
      unfold FP.Core.quantum
      omega
    have hq' : FP.Core.quantum f n 1 0 ≤ f.qmax := by omega
    unfold FP.Core.roundAt FP.Core.settle FP.Core.bound
    rw [if_pos hq, if_pos hq']
    split <;> exact ⟨_, _, _, rfl⟩
theorem FF_sum {a b : FP.Core.Datum} (h : a ≠ .nan) (hb : ∃ t c q, b = .fin t c q) : FP.Core.exactSum a b ≠ .nan := by
  obtain ⟨t, c, q, rfl⟩ := hb
  cases a with
  | nan => exact absurd rfl h
  | inf s => intro z; cases z
  | fin s c q => intro z; cases z
theorem FF_abs (v : Int64) : v.toInt.natAbs < 2 ^ 64 := by
  have h1 := Int64.toInt_lt v
  have h2 := Int64.le_toInt v
  omega
theorem FF_daddL {x : UInt64} (h : nnD x) (v : Int64) : nnD (FP.dadd x (FP.l2d v)) := (FF_val _).mpr (by
  have h1 := (FF_val x).mp h
  have hb : ∃ t c q, FP.Core.val64 (FP.l2d v) = .fin t c q := by
    rw [show FP.l2d v = FP.Core.l2d v from rfl, FP.Core.val64_l2d]
    exact FF_small _ (FF_abs v) (by decide) (by decide) (by decide)
  have e : FP.dadd x (FP.l2d v) = FP.Core.dadd x (FP.l2d v) := by
    obtain ⟨t, c, q, e⟩ := hb
    have n1 : ¬ FP.Core.dIsNaN x = true := fun z => h1 ((FP.Core.dIsNaN_iff x).mp z)
    have n2 : ¬ FP.Core.dIsNaN (FP.l2d v) = true := fun z => by
      have := (FP.Core.dIsNaN_iff _).mp z
      rw [e] at this
      cases this
    first
      | rfl
      | (unfold FP.dadd; rw [if_neg n1, if_neg n2])
  rw [e, FP.Core.val64_dadd]
  exact FF_round (FF_sum h1 hb))
theorem FF_faddL {x : UInt32} (h : nnF x) (v : Int64) : nnF (FP.fadd x (FP.l2f v)) := (FF_valF _).mpr (by
  have h1 := (FF_valF x).mp h
  have hb : ∃ t c q, FP.Core.val32 (FP.l2f v) = .fin t c q := by
    rw [show FP.l2f v = FP.Core.l2f v from rfl, FP.Core.val32_l2f]
    exact FF_small _ (FF_abs v) (by decide) (by decide) (by decide)
  have e : FP.fadd x (FP.l2f v) = FP.Core.fadd x (FP.l2f v) := by
    obtain ⟨t, c, q, e⟩ := hb
    have n1 : ¬ FP.Core.fIsNaN x = true := fun z => h1 ((FP.Core.fIsNaN_iff x).mp z)
    have n2 : ¬ FP.Core.fIsNaN (FP.l2f v) = true := fun z => by
      have := (FP.Core.fIsNaN_iff _).mp z
      rw [e] at this
      cases this
    first
      | rfl
      | (unfold FP.fadd; rw [if_neg n1, if_neg n2])
  rw [e, FP.Core.val32_fadd]
  exact FF_round (FF_sum h1 hb))
end Fl1
