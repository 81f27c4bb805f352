/-! bounds of reals; compares by their bits; reads past writes elsewhere -/
section Bd
theorem bd_nn {N : Nat} {d : UInt64} (h : bd N d) : nnD d := (FF_val d).mpr (by
  obtain ⟨⟨s, c, q, e⟩, -⟩ := h
  rw [e]; intro z; cases z)
theorem bd_up {N M : Nat} {d : UInt64} (h : bd N d) (hm : N ≤ M) : bd M d := ⟨h.1, Nat.le_trans h.2 (Nat.mul_le_mul_right _ hm)⟩
theorem bd_neg {N : Nat} {d : UInt64} (h : bd N d) : bd N (FP.dneg d) := by
  obtain ⟨⟨s, c, q, e⟩, h2⟩ := h
  refine ⟨⟨!s, c, q, by rw [FP.val64_dneg, e]; rfl⟩, ?_⟩
  rw [FP.val64_dneg, e]
  rw [e] at h2
  exact h2
/-- a number of the format -/
def rep (K : Nat) : Prop := ∃ V, FP.Core.fits FP.Core.b64 V ∧ (∃ s c q, V = .fin s c q) ∧ FP.Core.zmag FP.Core.b64 V = K * uU
theorem rep_mk (c k : Nat) (hc : c < 2 ^ 53) (hk : k ≤ 971) : rep (c * 2 ^ k) := by
  obtain ⟨c', q', r1, r2⟩ := FP.Core.round_exact (f := FP.Core.b64) FP.Core.good_b64 false (c := c) (q := (k : Int)) hc (by rw [EX_q]; omega) (by rw [EX_x]; omega)
  refine ⟨.fin false c' q', r1 ▸ FP.Core.round_fits FP.Core.good_b64 _, ⟨_, _, _, rfl⟩, ?_⟩
  show FP.Core.inUnits c' q' FP.Core.b64.qmin = _
  rw [r2]
  unfold FP.Core.inUnits uU
  rw [EX_q, show ((k : Int) - -1074).toNat = k + 1074 by omega, Nat.pow_add, Nat.mul_assoc]
theorem rep_small {K : Nat} (h : K < 2 ^ 53) : rep K := by
  have := rep_mk K 0 h (by omega)
  rw [Nat.pow_zero, Nat.mul_one] at this
  exact this
/-- rounding keeps a bound of the format -/
theorem bd_round {d : UInt64} {s : Bool} {A B K : Nat} {e e0 : Int} (hd : FP.Core.val64 d = FP.Core.roundRatio FP.Core.b64 s A B e) (hB : 0 < B) (hK : rep K) (h0 : e0 ≤ -1074) (h0e : e0 ≤ e) (h : FP.Core.inUnits A e e0 ≤ K * uU * 2 ^ (-1074 - e0).toNat * B) : bd K d := by
  obtain ⟨V, f1, ⟨s', c', q', hV⟩, f3⟩ := hK
  have hn : V ≠ .nan := by rw [hV]; intro z; cases z
  have hz := FP.Core.zmag_roundRatio_le FP.Core.good_b64 (s := s) (A := A) (B := B) (e := e) (e0 := e0) hB f1 hn (by rw [EX_q]; exact h0) h0e (by rw [f3, EX_q]; exact h)
  rw [← hd, f3] at hz
  refine ⟨?_, hz⟩
  rcases FP.Core.roundRatio_cases FP.Core.b64 s A B e with ⟨c, q, hR⟩ | hR
  · exact ⟨s, c, q, hd.trans hR⟩
  · exfalso
    rw [hd, hR] at hz
    rw [hV] at f1 f3
    have ht := FP.Core.zmag_lt_top FP.Core.good_b64 f1
    have e1 : FP.Core.zmag FP.Core.b64 (.inf s) = FP.Core.b64.tails * 2 ^ (FP.Core.b64.exps - 2) := rfl
    have e2 : FP.Core.zmag FP.Core.b64 (.fin s' c' q') = FP.Core.inUnits c' q' FP.Core.b64.qmin := rfl
    rw [e1, ← f3, e2] at hz
    exact absurd hz (Nat.not_le.mpr ht)
theorem bd_sum {d : UInt64} {x y : FP.Core.Datum} {N M K : Nat} (hd : FP.Core.val64 d = FP.Core.round FP.Core.b64 (FP.Core.exactSum x y)) (hx : ∃ s c q, x = .fin s c q) (hy : ∃ s c q, y = .fin s c q) (fx : FP.Core.fits FP.Core.b64 x) (fy : FP.Core.fits FP.Core.b64 y) (zx : FP.Core.zmag FP.Core.b64 x ≤ N * uU) (zy : FP.Core.zmag FP.Core.b64 y ≤ M * uU) (hK : rep K) (h : N + M ≤ K) : bd K d := by
  obtain ⟨s, c, q, rfl⟩ := hx
  obtain ⟨t, c2, r, rfl⟩ := hy
  obtain ⟨sg, v, e, p1, p2, p3⟩ := FP.Core.sum_units fx fy
  rw [p1] at hd
  rw [EX_q] at p2
  refine bd_round (s := sg) (A := v) (B := 1) (e := e) (e0 := -1074) hd (by decide) hK (by omega) p2 ?_
  rw [Int.sub_self, Int.toNat_zero, Nat.pow_zero, Nat.mul_one, Nat.mul_one]
  have h1 : FP.Core.inUnits v e FP.Core.b64.qmin ≤ FP.Core.zmag FP.Core.b64 (.fin s c q) + FP.Core.zmag FP.Core.b64 (.fin t c2 r) := by
    have := congrArg Int.natAbs p3
    rw [FP.Core.natAbs_signed] at this
    rw [this]
    refine Nat.le_trans (Int.natAbs_add_le _ _) ?_
    unfold FP.Core.zval
    rw [FP.Core.natAbs_signed, FP.Core.natAbs_signed]
    exact Nat.le_refl _
  rw [EX_q] at h1
  have h2 : (N + M) * uU ≤ K * uU := Nat.mul_le_mul_right _ h
  rw [Nat.add_mul] at h2
  omega
theorem bd_add {a b : UInt64} {N M K : Nat} (ha : bd N a) (hb : bd M b) (hK : rep K) (h : N + M ≤ K) : bd K (FP.dadd a b) :=
  bd_sum (FP.Core.val64_dadd a b) ha.1 hb.1 (FP.Core.val64_fits a) (FP.Core.val64_fits b) ha.2 hb.2 hK h
theorem bd_sub {a b : UInt64} {N M K : Nat} (ha : bd N a) (hb : bd M b) (hK : rep K) (h : N + M ≤ K) : bd K (FP.dsub a b) := by
  obtain ⟨⟨s, c, q, e⟩, h2⟩ := hb
  refine bd_sum (FP.Core.val64_dsub a b) ha.1 ⟨!s, c, q, by rw [e]; rfl⟩ (FP.Core.val64_fits a) (FP.Core.negate_fits (FP.Core.val64_fits b)) ha.2 ?_ hK h
  rw [e] at h2 ⊢
  exact h2
theorem bd_mulz {a b : UInt64} {A C K : Nat} (ha : FP.Core.DFin a) (hb : FP.Core.DFin b) (za : FP.Core.zmag FP.Core.b64 (FP.Core.val64 a) ≤ A) (zb : FP.Core.zmag FP.Core.b64 (FP.Core.val64 b) ≤ C) (hK : rep K) (h : A * C ≤ K * uU * uU) : bd K (FP.dmul a b) := by
  obtain ⟨s, c, q, e1⟩ := ha
  obtain ⟨t, c2, r, e2⟩ := hb
  have f1 := FP.Core.val64_fits a
  have f2 := FP.Core.val64_fits b
  rw [e1] at f1 za
  rw [e2] at f2 zb
  obtain ⟨p1, p2, p3⟩ := FP.Core.product_units f1 f2
  have hd : FP.Core.val64 (FP.dmul a b) = FP.Core.roundRatio FP.Core.b64 (s != t) (c * c2) 1 (q + r) := by
    rw [show FP.dmul a b = FP.Core.dmul a b from rfl, FP.Core.val64_dmul, e1, e2, p1]; rfl
  rw [EX_q] at p2 p3
  refine bd_round hd (e0 := 2 * -1074) (by decide) hK (by omega) p2 ?_
  rw [p3, Nat.mul_one, show (-1074 - 2 * -1074 : Int).toNat = 1074 by decide]
  exact Nat.le_trans (Nat.mul_le_mul za zb) h
theorem bd_mul {a b : UInt64} {N M K : Nat} (ha : bd N a) (hb : bd M b) (hK : rep K) (h : N * M ≤ K) : bd K (FP.dmul a b) := by
  refine bd_mulz ha.1 hb.1 ha.2 hb.2 hK ?_
  calc N * uU * (M * uU) = N * M * (uU * uU) := Nat.mul_mul_mul_comm ..
    _ ≤ K * (uU * uU) := Nat.mul_le_mul_right _ h
    _ = K * uU * uU := (Nat.mul_assoc ..).symm
theorem bd_quart {a b : UInt64} {N K : Nat} (ha : bd N a) (hb : b = 4598175219545276416) (hK : rep K) (h : N ≤ 4 * K) : bd K (FP.dmul a b) := by
  subst hb
  have z : FP.Core.zmag FP.Core.b64 (FP.Core.val64 4598175219545276416) = 2 ^ 1072 := by decide +kernel
  refine bd_mulz (C := 2 ^ 1072) ha.1 ((FP.Core.fin_bits _).mpr (by decide)) ha.2 (by rw [z]; exact Nat.le_refl _) hK ?_
  have e : uU = 4 * 2 ^ 1072 := by unfold uU; decide +kernel
  calc N * uU * 2 ^ 1072 ≤ 4 * K * uU * 2 ^ 1072 := Nat.mul_le_mul_right _ (Nat.mul_le_mul_right _ h)
    _ = K * uU * (4 * 2 ^ 1072) := by generalize (2 ^ 1072 : Nat) = X; generalize uU = Y; rw [Nat.mul_comm 4 K]; simp only [Nat.mul_assoc, Nat.mul_comm, Nat.mul_left_comm]
    _ = K * uU * uU := by rw [← e]
theorem bd_div {a b : UInt64} {N : Nat} (ha : bd N a) (hb : FP.Core.DFin b) (zb : uU ≤ FP.Core.zmag FP.Core.b64 (FP.Core.val64 b)) (hK : rep N) : bd N (FP.ddiv a b) := by
  obtain ⟨⟨s, c, q, e1⟩, za⟩ := ha
  obtain ⟨t, c2, r, e2⟩ := hb
  have f1 := FP.Core.val64_fits a
  have f2 := FP.Core.val64_fits b
  rw [e1] at f1 za
  rw [e2] at f2 zb
  have hu : 0 < uU := Nat.two_pow_pos 1074
  have hd0 : c2 ≠ 0 := by
    rintro rfl
    have h1 : FP.Core.zmag FP.Core.b64 (.fin t 0 r) = 0 := Nat.zero_mul _
    omega
  have hd : FP.Core.val64 (FP.ddiv a b) = FP.Core.roundRatio FP.Core.b64 (s != t) c c2 (q - r) := by
    rw [show FP.ddiv a b = FP.Core.ddiv a b from rfl, FP.Core.val64_ddiv, e1, e2]
    simp only [FP.Core.quotient, if_neg hd0]
  have q1 := f1.2.1
  have q2 := f2.2.1
  rw [EX_q] at q1 q2
  refine bd_round hd (e0 := 2 * -1074 - r) (by omega) hK (by omega) (by omega) ?_
  have x1 : FP.Core.inUnits c (q - r) (2 * -1074 - r) = FP.Core.zmag FP.Core.b64 (.fin s c q) * uU := by
    show c * _ = c * _ * _
    unfold uU
    rw [EX_q, Nat.mul_assoc, ← Nat.pow_add]; congr 2; omega
  have x2 : 2 ^ (-1074 - (2 * -1074 - r)).toNat * c2 = FP.Core.zmag FP.Core.b64 (.fin t c2 r) := by
    show _ = c2 * _
    rw [EX_q, Nat.mul_comm]; congr 2; omega
  rw [x1, Nat.mul_assoc, x2]
  exact Nat.mul_le_mul za zb
theorem bd_int {d : UInt64} {i : Int} {K : Nat} (hd : FP.Core.val64 d = FP.Core.round FP.Core.b64 (FP.Core.ofInt i)) (hK : rep K) (h : i.natAbs ≤ K) : bd K d := by
  refine bd_round (s := decide (i < 0)) (A := i.natAbs) (B := 1) (e := 0) (e0 := -1074) hd (by decide) hK (by omega) (by omega) ?_
  rw [Int.sub_self, Int.toNat_zero, Nat.pow_zero, Nat.mul_one, Nat.mul_one]
  unfold FP.Core.inUnits
  exact Nat.mul_le_mul_right _ h
theorem bd_i2d {v : Int32} {K : Nat} (hK : rep K) (h : v.toInt.natAbs ≤ K) : bd K (FP.i2d v) := bd_int (FP.Core.val64_i2d v) hK h
theorem bd_l2d {v : Int64} {K : Nat} (hK : rep K) (h : v.toInt.natAbs ≤ K) : bd K (FP.l2d v) := bd_int (FP.Core.val64_l2d v) hK h
/-- the size of a double, by its bits -/
theorem bd_bits {d C : UInt64} {N : Nat} (hC : bd N C) (h : d.toNat % 2 ^ 63 ≤ C.toNat % 2 ^ 63) : bd N d := by
  have c1 := (FP.Core.fin_bits C).mp hC.1
  have d1 : FP.Core.DFin d := (FP.Core.fin_bits d).mpr (by omega)
  have dn : FP.Core.val64 d ≠ .nan := (FP.Core.ne_nan d).mpr (by omega)
  have cn : FP.Core.val64 C ≠ .nan := (FP.Core.ne_nan C).mpr (by omega)
  refine ⟨d1, Nat.le_trans ?_ hC.2⟩
  rw [FP.Core.zmag_bits dn, FP.Core.zmag_bits cn]
  exact FP.Core.unitsOf_le_iff.mpr h
theorem key_abs (d : UInt64) : (FP.Core.dkey d).natAbs = d.toNat % 2 ^ 63 := by
  have := d.toNat_lt
  unfold FP.Core.dkey
  split <;> omega
theorem bd_key {d C : UInt64} {N : Nat} (hC : bd N C) (h1 : FP.Core.dkey d ≤ FP.Core.dkey C) (h2 : -FP.Core.dkey C ≤ FP.Core.dkey d) : bd N d := by
  refine bd_bits hC ?_
  rw [← key_abs, ← key_abs]
  omega
theorem bd_c {C : UInt64} {N : Nat} (h : C.toNat % 2 ^ 63 < 9218868437227405312) (h2 : FP.Core.zmag FP.Core.b64 (FP.Core.val64 C) ≤ N * 2 ^ 1074) : bd N C := ⟨(FP.Core.fin_bits C).mpr h, h2⟩
theorem bd_0 : bd 0 FP.dconst0 := bd_c (by decide +kernel) (by decide +kernel)
theorem bd_1 : bd 1 FP.dconst1 := bd_c (by decide +kernel) (by decide +kernel)
theorem bd_100 : bd 100 4636737291354636288 := bd_c (by decide +kernel) (by decide +kernel)
theorem bd_1000 : bd 1000 4652007308841189376 := bd_c (by decide +kernel) (by decide +kernel)
theorem bd_m1000 : bd 1000 13875379345695965184 := bd_c (by decide +kernel) (by decide +kernel)
theorem bd_mio : bd 1000000 4696837146684686336 := bd_c (by decide +kernel) (by decide +kernel)
theorem key_0 : FP.Core.dkey FP.dconst0 = 0 := by decide +kernel
theorem key_1 : FP.Core.dkey FP.dconst1 = 4607182418800017408 := by decide +kernel
theorem key_100 : FP.Core.dkey 4636737291354636288 = 4636737291354636288 := by decide +kernel
theorem key_1000 : FP.Core.dkey 4652007308841189376 = 4652007308841189376 := by decide +kernel
theorem key_m1000 : FP.Core.dkey 13875379345695965184 = -4652007308841189376 := by decide +kernel
theorem key_mio : FP.Core.dkey 4696837146684686336 = 4696837146684686336 := by decide +kernel
/-! compares -/
theorem cv3 {a b : UInt64} (ha : nnD a) (hb : nnD b) (z) : (FP.Core.dkey a < FP.Core.dkey b ∧ Op.cmpValue (FP.dcmp a b) z = -1) ∨ (FP.Core.dkey a = FP.Core.dkey b ∧ Op.cmpValue (FP.dcmp a b) z = 0) ∨ (FP.Core.dkey b < FP.Core.dkey a ∧ Op.cmpValue (FP.dcmp a b) z = 1) := by
  have h := FP.Core.dcmp_key ((FF_val a).mp ha) ((FF_val b).mp hb)
  rw [show FP.dcmp a b = FP.Core.dcmp a b from rfl, h, FP.Core.compare_ite]
  by_cases h1 : FP.Core.dkey a < FP.Core.dkey b
  · rw [if_pos h1]; exact Or.inl ⟨h1, rfl⟩
  · rw [if_neg h1]
    by_cases h2 : FP.Core.dkey a = FP.Core.dkey b
    · rw [if_pos h2]; exact Or.inr (Or.inl ⟨h2, rfl⟩)
    · rw [if_neg h2]; exact Or.inr (Or.inr ⟨by omega, rfl⟩)
theorem cv_lt {a b : UInt64} (ha : nnD a) (hb : nnD b) (z) : (Op.cmpValue (FP.dcmp a b) z < 0) = (FP.Core.dkey a < FP.Core.dkey b) := by
  rcases cv3 ha hb z with ⟨h, e⟩ | ⟨h, e⟩ | ⟨h, e⟩ <;> rw [e]
  · exact propext ⟨fun _ => h, fun _ => by decide⟩
  · exact propext ⟨fun q => absurd q (by decide), fun q => by omega⟩
  · exact propext ⟨fun q => absurd q (by decide), fun q => by omega⟩
theorem cv_gt {a b : UInt64} (ha : nnD a) (hb : nnD b) (z) : (0 < Op.cmpValue (FP.dcmp a b) z) = (FP.Core.dkey b < FP.Core.dkey a) := by
  rcases cv3 ha hb z with ⟨h, e⟩ | ⟨h, e⟩ | ⟨h, e⟩ <;> rw [e]
  · exact propext ⟨fun q => absurd q (by decide), fun q => by omega⟩
  · exact propext ⟨fun q => absurd q (by decide), fun q => by omega⟩
  · exact propext ⟨fun _ => h, fun _ => by decide⟩
theorem cv_le {a b : UInt64} (ha : nnD a) (hb : nnD b) (z) : (Op.cmpValue (FP.dcmp a b) z ≤ 0) = (FP.Core.dkey a ≤ FP.Core.dkey b) := by
  rcases cv3 ha hb z with ⟨h, e⟩ | ⟨h, e⟩ | ⟨h, e⟩ <;> rw [e]
  · exact propext ⟨fun _ => by omega, fun _ => by decide⟩
  · exact propext ⟨fun _ => by omega, fun _ => by decide⟩
  · exact propext ⟨fun q => absurd q (by decide), fun q => by omega⟩
theorem cv_ge {a b : UInt64} (ha : nnD a) (hb : nnD b) (z) : (0 ≤ Op.cmpValue (FP.dcmp a b) z) = (FP.Core.dkey b ≤ FP.Core.dkey a) := by
  rcases cv3 ha hb z with ⟨h, e⟩ | ⟨h, e⟩ | ⟨h, e⟩ <;> rw [e]
  · exact propext ⟨fun q => absurd q (by decide), fun q => by omega⟩
  · exact propext ⟨fun _ => by omega, fun _ => by decide⟩
  · exact propext ⟨fun _ => by omega, fun _ => by decide⟩
theorem cv_eq {a b : UInt64} (ha : nnD a) (hb : nnD b) (z) : (Op.cmpValue (FP.dcmp a b) z = 0) = (FP.Core.dkey a = FP.Core.dkey b) := by
  rcases cv3 ha hb z with ⟨h, e⟩ | ⟨h, e⟩ | ⟨h, e⟩ <;> rw [e]
  · exact propext ⟨fun q => absurd q (by decide), fun q => by omega⟩
  · exact propext ⟨fun _ => h, fun _ => rfl⟩
  · exact propext ⟨fun q => absurd q (by decide), fun q => by omega⟩
theorem cvN0 : (Op.cmpValue none .l = 0) = False := by decide
theorem cvNl : (Op.cmpValue none .l < 0) = True := by decide
/-! numbers told by bits -/
theorem F_realCN {b : Int64} (h : (9218868437227405312 : Int64) < b &&& 9223372036854775807) (S : z_St) : f_X11_realOf b S = some (FP.dconst0, S) := by
  rw [e_X11_realOf]; unfold b_X11_realOf
  rw [x_noNumber, if_pos h, y_bs]
  rfl
theorem x_wiN {b : Int64} (h : (9218868437227405312 : Int64) < b &&& 9223372036854775807) (lo hi : UInt64) (S : z_St) : f_X11_within b lo hi S = some (0, S) := by
  rw [e_X11_within]; unfold b_X11_within
  rw [x_noNumber, if_pos h, y_bs]
  exact y_rb0 S
theorem x_wi {b : Int64} (h : ¬ (9218868437227405312 : Int64) < b &&& 9223372036854775807) {lo hi : UInt64} (hl : nnD lo) (hh : nnD hi) (S : z_St) : f_X11_within b lo hi S = some (if FP.Core.dkey b.toUInt64 < FP.Core.dkey lo ∨ FP.Core.dkey hi < FP.Core.dkey b.toUInt64 then 0 else 1, S) := by
  rw [e_X11_within]; unfold b_X11_within
  rw [x_noNumber, if_neg h, y_bs]
  dsimp only
  rw [if_pos rfl, F_realC h, y_bs]
  dsimp only
  have hn := F_nn h
  simp only [cv_lt hn hl, cv_gt hn hh]
  by_cases h1 : FP.Core.dkey b.toUInt64 < FP.Core.dkey lo
  · rw [if_pos h1, if_pos (Or.inl h1)]; exact y_rb0 S
  · rw [if_neg h1]
    by_cases h2 : FP.Core.dkey hi < FP.Core.dkey b.toUInt64
    · rw [if_pos h2, if_pos (Or.inr h2)]; exact y_rb0 S
    · rw [if_neg h2, if_neg (fun q => q.elim h1 h2)]; exact y_rb1 S
theorem x_nowN {b : Int64} (h : (9218868437227405312 : Int64) < b &&& 9223372036854775807) (lo hi : UInt64) (S : z_St) : f_X11_noneOrWithin b lo hi S = some (1, S) := by
  rw [e_X11_noneOrWithin]; unfold b_X11_noneOrWithin
  rw [x_noNumber, if_pos h, y_bs]
  exact y_rb1 S
theorem x_now {b : Int64} (h : ¬ (9218868437227405312 : Int64) < b &&& 9223372036854775807) {lo hi : UInt64} (hl : nnD lo) (hh : nnD hi) (S : z_St) : f_X11_noneOrWithin b lo hi S = some (if FP.Core.dkey b.toUInt64 < FP.Core.dkey lo ∨ FP.Core.dkey hi < FP.Core.dkey b.toUInt64 then 0 else 1, S) := by
  rw [e_X11_noneOrWithin]; unfold b_X11_noneOrWithin
  rw [x_noNumber, if_neg h, y_bs]
  dsimp only
  rw [if_pos rfl, x_wi h hl hh, y_bs]
  dsimp only
  by_cases h1 : FP.Core.dkey b.toUInt64 < FP.Core.dkey lo ∨ FP.Core.dkey hi < FP.Core.dkey b.toUInt64
  · rw [if_pos h1, if_pos rfl]; exact y_rb0 S
  · rw [if_neg h1, if_neg (by decide)]; exact y_rb1 S
theorem x_one {b : Int64} (S : z_St) : f_X11_oneNoNumber b S = some (if (9218868437227405312 : Int64) < b &&& 9223372036854775807 then z_NN else b, S) := by
  rw [e_X11_oneNoNumber]; unfold b_X11_oneNoNumber
  rw [x_noNumber, y_bs]
  by_cases h : (9218868437227405312 : Int64) < b &&& 9223372036854775807
  · simp only [if_pos h]; rfl
  · simp only [if_neg h]; rfl
/-! reads past writes elsewhere, of rows taken whole too -/
theorem q_i_wi {S : z_St} {a k : Nat} {v : Int32} {b : Nat} (h : b ≠ a) : z_i (z_wi S a k v) b = z_i S b := funext fun j => by rw [y_i_wi, if_neg (fun q => h q.1)]
theorem q_l_wl {S : z_St} {a k : Nat} {v : Int64} {b : Nat} (h : b ≠ a) : z_l (z_wl S a k v) b = z_l S b := funext fun j => by rw [y_l_wl, if_neg (fun q => h q.1)]
theorem q_d_wd {S : z_St} {a k : Nat} {v : UInt64} {b : Nat} (h : b ≠ a) : z_d (z_wd S a k v) b = z_d S b := funext fun j => by rw [y_d_wd, if_neg (fun q => h q.1)]
theorem p_i_wi {S : z_St} {a k : Nat} {v : Int32} {b j : Nat} (h : b ≠ a ∨ j ≠ k) : z_i (z_wi S a k v) b j = z_i S b j := by rw [y_i_wi, if_neg (fun q => h.elim (fun z => z q.1) (fun z => z q.2))]
theorem p_l_wl {S : z_St} {a k : Nat} {v : Int64} {b j : Nat} (h : b ≠ a ∨ j ≠ k) : z_l (z_wl S a k v) b j = z_l S b j := by rw [y_l_wl, if_neg (fun q => h.elim (fun z => z q.1) (fun z => z q.2))]
theorem p_d_wd {S : z_St} {a k : Nat} {v : UInt64} {b j : Nat} (h : b ≠ a ∨ j ≠ k) : z_d (z_wd S a k v) b j = z_d S b j := by rw [y_d_wd, if_neg (fun q => h.elim (fun z => z q.1) (fun z => z q.2))]
theorem q_i_wl {S : z_St} {a k : Nat} {v : Int64} : z_i (z_wl S a k v) = z_i S := rfl
theorem q_i_wd {S : z_St} {a k : Nat} {v : UInt64} : z_i (z_wd S a k v) = z_i S := rfl
theorem q_l_wi {S : z_St} {a k : Nat} {v : Int32} : z_l (z_wi S a k v) = z_l S := rfl
theorem q_l_wd {S : z_St} {a k : Nat} {v : UInt64} : z_l (z_wd S a k v) = z_l S := rfl
theorem q_d_wi {S : z_St} {a k : Nat} {v : Int32} : z_d (z_wi S a k v) = z_d S := rfl
theorem q_d_wl {S : z_St} {a k : Nat} {v : Int64} : z_d (z_wl S a k v) = z_d S := rfl
theorem r_i_wi {S : z_St} {a k : Nat} {v : Int32} : z_i (z_wi S a k v) a k = v := by rw [y_i_wi, if_pos ⟨rfl, rfl⟩]
theorem r_l_wl {S : z_St} {a k : Nat} {v : Int64} : z_l (z_wl S a k v) a k = v := by rw [y_l_wl, if_pos ⟨rfl, rfl⟩]
theorem r_d_wd {S : z_St} {a k : Nat} {v : UInt64} : z_d (z_wd S a k v) a k = v := by rw [y_d_wd, if_pos ⟨rfl, rfl⟩]
end Bd
