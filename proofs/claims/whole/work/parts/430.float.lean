/-! reals by their bits: the interface -/
def dNN : UInt64 := 9221120237041090560
theorem F_realC {b : Int64} (h : ¬ (9218868437227405312 : Int64) < b &&& 9223372036854775807) (S : z_St) : f_X11_realOf b S = some (b.toUInt64, S) := sorry
theorem F_nn {b : Int64} (h : ¬ (9218868437227405312 : Int64) < b &&& 9223372036854775807) : nnD b.toUInt64 := sorry
theorem F_nL {d : UInt64} (h : nnD d) : ¬ (9218868437227405312 : Int64) < d.toInt64 &&& 9223372036854775807 := sorry
theorem F_realM {b : Int64} (h : ¬ (9218868437227405312 : Int64) < b &&& 9223372036854775807) (T : z_St) : f_X12_realOf b T = some (b.toUInt64, T) := sorry
theorem F_realN {b : Int64} (h : (9218868437227405312 : Int64) < b &&& 9223372036854775807) (T : z_St) : f_X12_realOf b T = some (9221120237041090560, T) := sorry
theorem F_bitsC {d : UInt64} (h : nnD d) (S : z_St) : f_X11_bitsOf d S = some (d.toInt64, S) := sorry
theorem F_bitsM {d : UInt64} (h : nnD d) (T : z_St) : f_X12_bitsOf d T = some (d.toInt64, T) := sorry
theorem F_bitsN (T : z_St) : f_X12_bitsOf 9221120237041090560 T = some (9221120237041090560, T) := sorry
theorem F_l2f (v : Int64) : nnF (FP.l2f v) := sorry
theorem F_l2d (v : Int64) : nnD (FP.l2d v) := sorry
theorem F_f2d {x : UInt32} (h : nnF x) : nnD (FP.f2d x) := sorry
theorem F_d2f {x : UInt64} (h : nnD x) : nnF (FP.d2f x) := sorry
theorem F_faddL {x : UInt32} (h : nnF x) (v : Int64) : nnF (FP.fadd x (FP.l2f v)) := sorry
theorem F_daddL {x : UInt64} (h : nnD x) (v : Int64) : nnD (FP.dadd x (FP.l2d v)) := sorry
theorem F_self {d : UInt64} (h : nnD d) : Op.cmpValue (FP.dcmp d d) .l = 0 := sorry
theorem F_nanL (d : UInt64) : FP.dcmp 9221120237041090560 d = none := sorry
theorem F_nanR (d : UInt64) : FP.dcmp d 9221120237041090560 = none := sorry
theorem F_d2lN : FP.d2l 9221120237041090560 = 0 := sorry
theorem F_char (v : Int64) : (v.toInt32.toUInt32 % 65536).toInt32.toInt64 = v &&& 65535 := sorry
theorem F_charI (v : Int32) : (v.toUInt32 % 65536).toInt32 = v &&& 65535 := sorry
theorem F_odd (v : Int64) : (v - v / 2 * 2 = 0) = (v &&& 1 = 0) := sorry
theorem F_bt (b : Int64) : b.toUInt64.toInt64 = b := sorry
