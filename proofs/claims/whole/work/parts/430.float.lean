/-! reals by their bits: the interface -/
def dNN : UInt64 := 9221120237041090560
theorem F_realC {b : Int64} (h : ¬ (9218868437227405312 : Int64) < b &&& 9223372036854775807) (S : z_St) : f_X11_realOf b S = some (b.toUInt64, S) := EX_realC h S
theorem F_nn {b : Int64} (h : ¬ (9218868437227405312 : Int64) < b &&& 9223372036854775807) : nnD b.toUInt64 := Classical.byContradiction fun q => h ((FF_nan b).mpr q)
theorem F_nL {d : UInt64} (h : nnD d) : ¬ (9218868437227405312 : Int64) < d.toInt64 &&& 9223372036854775807 := fun q => (FF_nan d.toInt64).mp q h
theorem F_realM {b : Int64} (h : ¬ (9218868437227405312 : Int64) < b &&& 9223372036854775807) (T : z_St) : f_X12_realOf b T = some (b.toUInt64, T) := by
  have hn : nnD b.toUInt64 := F_nn h
  rw [e_X12_realOf]; unfold b_X12_realOf
  have hl : lg_cmp (b &&& 9223372036854775807) 9218868437227405312 ≤ 0 := by rw [y_cle]; exact Int64.not_lt.mp h
  rw [if_pos hl]
  unfold z_l2d z_okl
  rw [if_pos]
  have : ¬ (b.toUInt64 &&& 0x7fffffffffffffff > 0x7ff0000000000000) := fun q => by
    have q1 := UInt64.lt_iff_toNat_lt.mp q
    have q2 := UInt64.le_iff_toNat_le.mp hn
    omega
  rw [decide_eq_false this]
  rfl
theorem F_realN {b : Int64} (h : (9218868437227405312 : Int64) < b &&& 9223372036854775807) (T : z_St) : f_X12_realOf b T = some (9221120237041090560, T) := by
  rw [e_X12_realOf]; unfold b_X12_realOf
  have hl : ¬ lg_cmp (b &&& 9223372036854775807) 9218868437227405312 ≤ 0 := by rw [y_cle]; exact Int64.not_le.mpr h
  rw [if_neg hl]
theorem F_bitsC {d : UInt64} (h : nnD d) (S : z_St) : f_X11_bitsOf d S = some (d.toInt64, S) := EX_bitsC h S
theorem F_bitsM {d : UInt64} (h : nnD d) (T : z_St) : f_X12_bitsOf d T = some (d.toInt64, T) := by
  have e := FF_self h
  have n1 : f_Jxe99ae_isNaN_b9ae7 d T = some (0, T) := by
    rw [e_Jxe99ae_isNaN_b9ae7]; unfold b_Jxe99ae_isNaN_b9ae7
    rw [if_pos e, y_rb0]
  have n2 : f_Jxe99ae_doubleToLongBits_ccdee d T = some (d.toInt64, T) := by
    rw [e_Jxe99ae_doubleToLongBits_ccdee]; unfold b_Jxe99ae_doubleToLongBits_ccdee
    rw [n1, y_bs, if_pos rfl]
  rw [e_X12_bitsOf]; unfold b_X12_bitsOf
  rw [if_pos e, n2, y_bs]
theorem F_bitsN (T : z_St) : f_X12_bitsOf 9221120237041090560 T = some (9221120237041090560, T) := by
  rw [e_X12_bitsOf]; unfold b_X12_bitsOf
  rw [FF_nanL, if_neg (by decide)]
theorem F_l2f (v : Int64) : nnF (FP.l2f v) := FF_l2f v
theorem F_l2d (v : Int64) : nnD (FP.l2d v) := FF_l2d v
theorem F_f2d {x : UInt32} (h : nnF x) : nnD (FP.f2d x) := FF_f2d h
theorem F_d2f {x : UInt64} (h : nnD x) : nnF (FP.d2f x) := FF_d2f h
theorem F_faddL {x : UInt32} (h : nnF x) (v : Int64) : nnF (FP.fadd x (FP.l2f v)) := FF_faddL h v
theorem F_daddL {x : UInt64} (h : nnD x) (v : Int64) : nnD (FP.dadd x (FP.l2d v)) := FF_daddL h v
theorem F_self {d : UInt64} (h : nnD d) : Op.cmpValue (FP.dcmp d d) .l = 0 := FF_self h
theorem F_nanL (d : UInt64) : FP.dcmp 9221120237041090560 d = none := FF_nanL d
theorem F_nanR (d : UInt64) : FP.dcmp d 9221120237041090560 = none := FF_nanR d
theorem F_d2lN : FP.d2l 9221120237041090560 = 0 := FF_d2lN
theorem F_char (v : Int64) : (v.toInt32.toUInt32 % 65536).toInt32.toInt64 = v &&& 65535 := FF_char v
theorem F_charI (v : Int32) : (v.toUInt32 % 65536).toInt32 = v &&& 65535 := FF_charI v
theorem F_odd (v : Int64) : (v - v / 2 * 2 = 0) = (v &&& 1 = 0) := FF_odd v
theorem F_bt (b : Int64) : b.toUInt64.toInt64 = b := rfl
