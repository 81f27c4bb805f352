/-! reals: NaN by bits and by data; what is no NaN -/
section Fl1
theorem FF_and63 (d : UInt64) : (d &&& 0x7fffffffffffffff).toNat = d.toNat % 2 ^ 63 := by
  rw [UInt64.toNat_and]
  exact Nat.and_two_pow_sub_one_eq_mod d.toNat 63
theorem FF_val (d : UInt64) : nnD d ↔ FP.Core.val64 d ≠ .nan := by
  unfold nnD
  rw [UInt64.le_iff_toNat_le, FF_and63]
  unfold FP.Core.val64 FP.Core.decode FP.Core.fieldE FP.Core.fieldT
  have e1 : FP.Core.b64.tails = 4503599627370496 := by decide
  have e2 : FP.Core.b64.exps = 2048 := by decide
  have e3 : (0x7ff0000000000000 : UInt64).toNat = 9218868437227405312 := by decide
  rw [e1, e2, e3]
  have h := d.toNat_lt
  generalize d.toNat = n at *
  by_cases h1 : n / 4503599627370496 % 2048 = 2048 - 1
  · rw [if_pos h1]
    by_cases h2 : n % 4503599627370496 = 0
    · rw [if_pos h2]
      exact ⟨fun _ z => (by cases z), fun _ => by omega⟩
    · rw [if_neg h2]
      exact ⟨fun q => by omega, fun z => absurd rfl z⟩
  · rw [if_neg h1]
    refine ⟨fun _ => ?_, fun _ => by omega⟩
    split <;> (intro z; cases z)
theorem FF_and31 (d : UInt32) : (d &&& 0x7fffffff).toNat = d.toNat % 2 ^ 31 := by
  rw [UInt32.toNat_and]
  exact Nat.and_two_pow_sub_one_eq_mod d.toNat 31
theorem FF_valF (d : UInt32) : nnF d ↔ FP.Core.val32 d ≠ .nan := by
  unfold nnF
  rw [UInt32.le_iff_toNat_le, FF_and31]
  unfold FP.Core.val32 FP.Core.decode FP.Core.fieldE FP.Core.fieldT
  have e1 : FP.Core.b32.tails = 8388608 := by decide
  have e2 : FP.Core.b32.exps = 256 := by decide
  have e3 : (0x7f800000 : UInt32).toNat = 2139095040 := by decide
  rw [e1, e2, e3]
  have h := d.toNat_lt
  generalize d.toNat = n at *
  by_cases h1 : n / 8388608 % 256 = 256 - 1
  · rw [if_pos h1]
    by_cases h2 : n % 8388608 = 0
    · rw [if_pos h2]
      exact ⟨fun _ z => (by cases z), fun _ => by omega⟩
    · rw [if_neg h2]
      exact ⟨fun q => by omega, fun z => absurd rfl z⟩
  · rw [if_neg h1]
    refine ⟨fun _ => ?_, fun _ => by omega⟩
    split <;> (intro z; cases z)
theorem FF_rr (f : FP.Core.Fmt) (s : Bool) (a b : Nat) (e : Int) : FP.Core.roundRatio f s a b e ≠ .nan := by
  unfold FP.Core.roundRatio FP.Core.roundAt FP.Core.settle FP.Core.bound
  split
  · intro z; cases z
  · split <;> split <;> (intro z; cases z)
theorem FF_round {f : FP.Core.Fmt} {d : FP.Core.Datum} (h : d ≠ .nan) : FP.Core.round f d ≠ .nan := by
  cases d with
  | nan => exact absurd rfl h
  | inf s => intro z; cases z
  | fin s c q => exact FF_rr f s c 1 q
theorem FF_ofInt (i : Int) : FP.Core.ofInt i ≠ .nan := by
  unfold FP.Core.ofInt
  intro z; cases z
theorem FF_l2d (v : Int64) : nnD (FP.l2d v) := (FF_val _).mpr (by
  rw [show FP.l2d v = FP.Core.l2d v from rfl, FP.Core.val64_l2d]; exact FF_round (FF_ofInt _))
theorem FF_i2d (v : Int32) : nnD (FP.i2d v) := (FF_val _).mpr (by
  rw [show FP.i2d v = FP.Core.i2d v from rfl, FP.Core.val64_i2d]; exact FF_round (FF_ofInt _))
theorem FF_l2f (v : Int64) : nnF (FP.l2f v) := (FF_valF _).mpr (by
  rw [show FP.l2f v = FP.Core.l2f v from rfl, FP.Core.val32_l2f]; exact FF_round (FF_ofInt _))
theorem FF_f2d {x : UInt32} (h : nnF x) : nnD (FP.f2d x) := (FF_val _).mpr (by
  have h1 := (FF_valF x).mp h
  have h2 : ¬ FP.Core.fIsNaN x = true := fun z => h1 ((FP.Core.fIsNaN_iff x).mp z)
  unfold FP.f2d
  rw [if_neg h2, FP.Core.val64_f2d]
  exact FF_round h1)
theorem FF_d2f {x : UInt64} (h : nnD x) : nnF (FP.d2f x) := (FF_valF _).mpr (by
  have h1 := (FF_val x).mp h
  have h2 : ¬ FP.Core.dIsNaN x = true := fun z => h1 ((FP.Core.dIsNaN_iff x).mp z)
  unfold FP.d2f
  rw [if_neg h2, FP.Core.val32_d2f]
  exact FF_round h1)
theorem FF_self {d : UInt64} (h : nnD d) : Op.cmpValue (FP.dcmp d d) .l = 0 := by
  rw [show FP.dcmp d d = FP.Core.dcmp d d from rfl, FP.Core.dcmp_self ((FF_val d).mp h)]
  rfl
theorem FF_vN : FP.Core.val64 9221120237041090560 = .nan := FP.Core.val64_dNaN
theorem FF_nanL (d : UInt64) : FP.dcmp 9221120237041090560 d = none := (FP.Core.dcmp_none _ _).mpr (Or.inl FF_vN)
theorem FF_nanR (d : UInt64) : FP.dcmp d 9221120237041090560 = none := (FP.Core.dcmp_none _ _).mpr (Or.inr FF_vN)
theorem FF_d2lN : FP.d2l 9221120237041090560 = 0 := by
  show FP.Core.toL (FP.Core.val64 9221120237041090560) = 0
  rw [FF_vN]
  decide
theorem FF_bt (b : Int64) : b.toUInt64.toInt64 = b := rfl
theorem FF_and64 (b : Int64) : (b &&& 9223372036854775807).toInt = ((b.toUInt64.toNat % 2 ^ 63 : Nat) : Int) := by
  have e : (b &&& 9223372036854775807).toBitVec.toNat = b.toUInt64.toNat % 2 ^ 63 := by
    rw [Int64.toBitVec_and, BitVec.toNat_and]
    exact Nat.and_two_pow_sub_one_eq_mod b.toUInt64.toNat 63
  show (b &&& 9223372036854775807).toBitVec.toInt = _
  rw [BitVec.toInt_eq_toNat_of_lt (by rw [e]; omega), e]
theorem FF_nan (b : Int64) : (9218868437227405312 : Int64) < b &&& 9223372036854775807 ↔ ¬ nnD b.toUInt64 := by
  unfold nnD
  have e3 : (0x7ff0000000000000 : UInt64).toNat = 9218868437227405312 := by decide
  have e4 : (9218868437227405312 : Int64).toInt = 9218868437227405312 := by decide
  rw [UInt64.le_iff_toNat_le, FF_and63, e3, Int64.lt_iff_toInt_lt, FF_and64, e4]
  omega
end Fl1
