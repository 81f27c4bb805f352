/-! the root: the model, and both -/
section RootK
variable {S T : z_St}
theorem tN1 : ∀ n : Fin 2098, ((zI n.1 - 1126) &&& (1 : Int32) = 1) = (n.1 % 2 = 1) := by
  have : ∀ n : Fin 2098, decide ((zI n.1 - 1126) &&& (1 : Int32) = 1) = decide (n.1 % 2 = 1) := by decide +kernel
  intro E
  exact propext (decide_eq_decide.mp (this E))
theorem tN2 : ∀ n : Fin 2098, n.1 % 2 = 1 → (((zI n.1 - 1126) + (-1 : Int32)) - 54) / 2 + 1076 = zI (n.1 / 2 + 486) := by decide +kernel
theorem tN3 : ∀ n : Fin 2098, n.1 % 2 = 0 → ((zI n.1 - 1126) - 54) / 2 + 1076 = zI (n.1 / 2 + 486) := by decide +kernel
theorem l2d_ok {ρ : Type} {b : Int64} (hN : nnD b.toUInt64) (x : Option ρ) : z_l2d b x = x := by
  unfold z_l2d z_okl
  rw [if_pos]
  have : ¬ (b.toUInt64 &&& 0x7fffffffffffffff > 0x7ff0000000000000) := fun q => by
    have q1 := UInt64.lt_iff_toNat_lt.mp q
    have q2 := UInt64.le_iff_toNat_le.mp hN
    omega
  rw [decide_eq_false this]
  rfl
def mm (n p : Nat) : Nat := if n % 2 = 1 then 2 * p else p
/-- the last step of the model's root -/
theorem x_227 {n r q : Nat} {v4 : Int32} (hn : n ≤ 2097) (hv : (v4 - 54) / 2 + 1076 = zI (n / 2 + 486)) (h1 : 2 ^ 53 ≤ r) (h2 : r < 2 ^ 54) (T : z_St) : j_X12_root_227 v4 (Int64.ofNat (r / 2)) (Int64.ofNat (radd r q)) T = some ((Int64.ofNat ((n / 2 + 486) * 4503599627370496 + (r / 2 + radd r q - 4503599627370496))).toUInt64, T) := by
  have ra : radd r q ≤ 1 := by unfold radd; split <;> omega
  have e2 := tE4 ⟨n / 2 + 486, by omega⟩
  have e4 : Int64.ofNat (n / 2 + 486) <<< (((52 : Int32)).toInt64 &&& 63) = Int64.ofNat ((n / 2 + 486) * 4503599627370496) := OL_shl (k := 52) (by omega) (by omega)
  have e5 : Int64.ofNat (r / 2 + radd r q) - (4503599627370496 : Int64) = Int64.ofNat (r / 2 + radd r q - 4503599627370496) := OL_sub (b := 4503599627370496) (by omega)
  have hU := OL_U (w := (n / 2 + 486) * 4503599627370496 + (r / 2 + radd r q - 4503599627370496)) (by omega)
  have hN : nnD (Int64.ofNat ((n / 2 + 486) * 4503599627370496 + (r / 2 + radd r q - 4503599627370496))).toUInt64 := nn_U (by omega)
  dsimp only at e2
  unfold j_X12_root_227
  rw [hv]
  dsimp only
  rw [e2, e4, OL_add, e5, OL_add]
  rw [y_nz2, if_neg (by decide), l2d_ok hN]
theorem x_rm {n p : Nat} (hn : n ≤ 2097) (h1 : 2 ^ 52 ≤ p) (h2 : p < 2 ^ 53) {v4 : Int32} (hv : v4 = zI n - 1126) (T : z_St) : ∃ r q, (if (v4 &&& ((1 : Int32))) = ((1 : Int32)) then l_X12_root_109 z_N (v4 + (-1 : Int32)) (Int64.ofNat (2 ^ 1 * p)) ((0 : Int64)) ((0 : Int64)) ((0 : Int32)) T else l_X12_root_109 z_N v4 (Int64.ofNat p) ((0 : Int64)) ((0 : Int64)) ((0 : Int32)) T) = some ((Int64.ofNat ((n / 2 + 486) * 4503599627370496 + (r / 2 + radd r q - 4503599627370496))).toUInt64, T) ∧ r * r + q = mm n p * 2 ^ 54 ∧ q ≤ 2 * r ∧ 2 ^ 53 ≤ r ∧ r < 2 ^ 54 := by
  have t1 := tN1 ⟨n, by omega⟩
  dsimp only at t1
  have key : ∀ (w : Int32) (m : Nat), 2 ^ 52 ≤ m → m < 2 ^ 54 → (w - 54) / 2 + 1076 = zI (n / 2 + 486) → ∃ r q, l_X12_root_109 z_N w (Int64.ofNat m) ((0 : Int64)) ((0 : Int64)) ((0 : Int32)) T = some ((Int64.ofNat ((n / 2 + 486) * 4503599627370496 + (r / 2 + radd r q - 4503599627370496))).toUInt64, T) ∧ r * r + q = m * 2 ^ 54 ∧ q ≤ 2 * r ∧ 2 ^ 53 ≤ r ∧ r < 2 ^ 54 := by
    intro w m m1 m2 hw
    have x0 : xi m 0 = 0 := by
      unfold xi
      rw [if_pos (by omega)]
      exact Nat.div_eq_of_lt (show m < 4 ^ 27 by omega)
    have x54 : xi m 54 = m * 2 ^ 54 := by
      unfold xi
      rw [if_neg (by omega)]
    obtain ⟨r, q, g1, g2, g3, g4⟩ := l_109 m2 w T 54 0 z_N 0 0 rfl (by omega) (by rw [z_N_eq]; omega) x0.symm (by omega) (by omega)
    rw [x54] at g2
    have g5 : 2 ^ 53 ≤ r := by
      rcases Nat.lt_or_ge r (2 ^ 53) with z | z
      · exfalso
        have a1 := Nat.mul_self_le_mul_self (show r + 1 ≤ 2 ^ 53 by omega)
        rw [sq_add] at a1
        generalize r * r = u at *
        omega
      · exact z
    refine ⟨r, q, ?_, g2, g3, g5, g4⟩
    rw [← x_227 hn hw g5 g4 T]
    exact g1
  unfold mm
  by_cases c : n % 2 = 1
  · rw [if_pos (by rw [hv]; exact t1.mpr c), if_pos c]
    have t2 := tN2 ⟨n, by omega⟩ c
    dsimp only at t2
    have := key (v4 + (-1 : Int32)) (2 ^ 1 * p) (by omega) (by omega) (by rw [hv]; exact t2)
    exact this
  · rw [if_neg (by rw [hv]; exact fun z => c (t1.mp z)), if_neg c]
    have t2 := tN3 ⟨n, by omega⟩ (by show n % 2 = 0; omega)
    dsimp only at t2
    exact key v4 p (by omega) (by omega) (by rw [hv]; exact t2)
theorem rt_un {D r q X : Nat} (a1 : D * D ≤ X) (a2 : X < (D + 1) * (D + 1)) (b1 : r * r + q = X) (b2 : q ≤ 2 * r) : D = r := by
  rcases Nat.lt_trichotomy D r with h | h | h
  · have := Nat.mul_self_le_mul_self (show D + 1 ≤ r by omega)
    omega
  · exact h
  · have := Nat.mul_self_le_mul_self (show r + 1 ≤ D by omega)
    rw [sq_add] at this
    generalize r * r = u at *
    omega
/-- the digits are the same -/
theorem rt_eq {n p r q : Nat} (h2 : p < 2 ^ 53) (b1 : r * r + q = mm n p * 2 ^ 54) (b2 : q ≤ 2 * r) : rfin (rdg 54 (2 * mm n p) 0) / 2 = r / 2 + radd r q := by
  have hm : mm n p < 2 ^ 54 := by unfold mm; split <;> omega
  obtain ⟨s1, s2, s3⟩ := rdg_s (mm n p * 2 ^ 54) 54 (2 * mm n p) 0 (by omega) (by omega)
  have e := rt_un s1 s2 b1 b2
  unfold rfin
  rw [e] at s3 ⊢
  have e3 : (rdg 54 (2 * mm n p) 0).2 = 2 * q := by
    generalize r * r = u at *
    omega
  rw [e3]
  unfold radd
  have hmod : (r * r + q) % 2 = 0 := by rw [b1]; omega
  rcases Nat.mod_two_eq_zero_or_one r with z | z
  · rw [if_neg (show ¬ (r % 2 = 1 ∧ (q ≠ 0 ∨ r / 2 % 2 = 1)) from fun y => by omega)]
    split <;> omega
  · have : r * r % 2 = 1 := by rw [Nat.mul_mod, z]
    have q0 : q ≠ 0 := by
      generalize r * r = u at *
      omega
    rw [if_neg (by omega), if_pos ⟨z, Or.inl q0⟩]
    omega
theorem rt_lt {E r a : Nat} (hE : E ≤ 2046) (hr : r < 2 ^ 54) (ha : a ≤ 1) : ((E + 51) / 2 + 486) * 4503599627370496 + (r / 2 + a - 4503599627370496) < 2 ^ 63 ∧ ((E + 51) / 2 + 486) * 4503599627370496 + (r / 2 + a - 4503599627370496) ≤ 9218868437227405312 ∧ (E ≤ 1046 → ((E + 51) / 2 + 486) * 4503599627370496 + (r / 2 + a - 4503599627370496) ≤ 4661225614328463360) := by
  refine ⟨by omega, by omega, fun _ => by omega⟩
theorem pw_mm (E p : Nat) : pw E p = 2 * mm (E + 51) p := by
  unfold pw mm
  by_cases c : (E + 51) % 2 = 0
  · rw [if_pos c, if_neg (by omega)]
  · rw [if_neg c, if_pos (by omega)]; omega
theorem dk_pos {d : UInt64} (h : 0 < FP.Core.dkey d) : d.toNat < 2 ^ 63 ∧ 0 < d.toNat ∧ FP.Core.dkey d = (d.toNat : Int) := by
  have := d.toNat_lt
  unfold FP.Core.dkey at h ⊢
  split at h <;> omega
theorem x_r43 {c E : Nat} (T : z_St) (hE : E ≤ 2046) (v5 : Int64) : j_X12_root_43 (zI E) v5 T = l_X12_root_62 z_N (if E = 0 then 1 - 1075 else zI E - 1075) v5 T := by
  unfold j_X12_root_43
  by_cases c : E = 0
  · subst c
    rw [if_pos rfl]
    exact if_pos (by decide)
  · rw [if_neg c]
    refine if_neg ?_
    rw [Int32.le_iff_toInt_le, zI_I (by omega)]
    have : (0 : Int32).toInt = 0 := by decide
    omega
theorem tV1 : ∀ E : Fin 2047, zI E.1 - 1075 - zI 0 = zI (E.1 + 51) - 1126 := by decide +kernel
theorem tV2 : ∀ s : Fin 53, (1 : Int32) - 1075 - zI s.1 = zI (52 - s.1) - 1126 := by decide +kernel
theorem EX_E2 {b : Int64} (hb : b.toUInt64.toNat < 2 ^ 63) : ((b.toUInt64 >>> (((52 : Int32)).toInt64.toUInt64 &&& Int64.toUInt64 63)).toInt64).toInt32 = zI (b.toUInt64.toNat / 4503599627370496) := by
  have e2 : (b.toUInt64 >>> ((52 : Int32).toInt64.toUInt64 &&& Int64.toUInt64 63)).toInt64 = Int64.ofNat (b.toUInt64.toNat / 4503599627370496) := by
    apply OL_eq
    show (b.toUInt64 >>> ((52 : Int32).toInt64.toUInt64 &&& Int64.toUInt64 63)).toNat = _
    rw [UInt64.toNat_shiftRight, show ((52 : Int32).toInt64.toUInt64 &&& Int64.toUInt64 63).toNat % 64 = 52 by decide, Nat.shiftRight_eq_div_pow]
  rw [e2]
  exact tE3 ⟨b.toUInt64.toNat / 4503599627370496, by omega⟩
theorem norm_c {c : Nat} (h0 : 0 < c) (h1 : c < 2 ^ 52) : ∃ s, 1 ≤ s ∧ s ≤ 52 ∧ 2 ^ 52 ≤ c * 2 ^ s ∧ c * 2 ^ s < 2 ^ 53 := by
  have key : ∀ k c, 0 < c → c < 2 ^ 52 → 2 ^ 52 ≤ c * 2 ^ k → k ≤ 52 → ∃ s, 1 ≤ s ∧ s ≤ k ∧ 2 ^ 52 ≤ c * 2 ^ s ∧ c * 2 ^ s < 2 ^ 53 := by
    intro k
    induction k with
    | zero => intro c h0 h1 h2; rw [Nat.pow_zero, Nat.mul_one] at h2; omega
    | succ k ih =>
      intro c h0 h1 h2 h3
      have e : c * 2 ^ (k + 1) = 2 * (c * 2 ^ k) := by rw [Nat.pow_succ, ← Nat.mul_assoc]; omega
      by_cases c1 : 2 ^ 52 ≤ c * 2 ^ k
      · obtain ⟨s, s1, s2, s3⟩ := ih c h0 h1 c1 (by omega)
        exact ⟨s, s1, by omega, s3⟩
      · refine ⟨k + 1, by omega, by omega, h2, ?_⟩
        rw [e]
        generalize c * 2 ^ k = y at *
        omega
  obtain ⟨s, s1, s2, s3⟩ := key 52 c h0 h1 (by omega) (by omega)
  exact ⟨s, s1, s2, s3⟩
/-- both roots -/
theorem x_rootP (T : z_St) {d : UInt64} (hp : 0 < FP.Core.dkey d) (hf : d.toNat < 9218868437227405312) : ∃ r : UInt64, (∀ S, f_X11_root d S = some (r, S)) ∧ (∀ T, f_X12_root d T = some (r, T)) ∧ r.toNat ≤ 9218868437227405312 ∧ (d.toNat ≤ 4710765210229538816 → r.toNat ≤ 4661225614328463360) := by
  obtain ⟨d1, d2, d3⟩ := dk_pos hp
  have hn : nnD d := nn_U (by omega)
  have n0 : nnD FP.dconst0 := nn_0
  have nm : nnD 4503599627370496 := nn_U (by decide)
  have cg := cv_gt hn n0 .l
  rw [key_0] at cg
  have ct := cv_ge hn nm .g
  rw [show FP.Core.dkey 4503599627370496 = 4503599627370496 by decide +kernel, d3] at ct
  have m0 : ∀ T, f_X12_root d T = (if (d.toNat / 4503599627370496) = 0 then j_X12_root_43 (zI (d.toNat / 4503599627370496)) (Int64.ofNat (d.toNat % 4503599627370496)) T else j_X12_root_43 (zI (d.toNat / 4503599627370496)) (Int64.ofNat (4503599627370496 + d.toNat % 4503599627370496)) T) := by
    intro T
    have e1 := EX_E2 (b := d.toInt64) d1
    have e2 := OL_eq (EX_Tn d.toInt64)
    have e3 := OL_eq (EX_Tn2 d.toInt64)
    have u1 : d.toInt64.toUInt64 = d := rfl
    rw [u1] at e1 e2 e3
    rw [e_X12_root]; unfold b_X12_root
    have gp : 0 < Op.cmpValue (FP.dcmp d FP.dconst0) .l := by rw [cg]; exact hp
    rw [if_pos gp, x_dlb hn, y_bs]
    dsimp only
    rw [u1, e1, e3, e2]
    by_cases c : d.toNat / 4503599627370496 = 0
    · rw [if_pos c, c]
      exact if_pos (by decide)
    · rw [if_neg c]
      refine if_neg ?_
      rw [Int32.le_iff_toInt_le, zI_I (by omega)]
      have : (0 : Int32).toInt = 0 := by decide
      omega
  by_cases hE : d.toNat / 4503599627370496 = 0
  · -- tiny
    obtain ⟨s, s1, s2, s3, s4⟩ := norm_c (c := d.toNat) d2 (by omega)
    have hex : Ex d d.toNat (-1074) := Eq.trans (RT_val0 (by omega)) (FP.Core.round_of_fits FP.Core.good_b64 (EX_fits (by omega) (by omega) (by omega) (Or.inl rfl) false)).symm
    have hx := EX_mul hex (by omega) (by omega) (by omega) RT_108 (e' := -966) (by omega)
    have hx2 := RT_sc hx (s := s) rfl
    generalize hpp : d.toNat * 2 ^ s = p at *
    have hU := OL_U (w := (109 - s) * 4503599627370496 + (p - 4503599627370496)) (by omega)
    have eu : FP.dmul d 5093571178556030976 = (Int64.ofNat ((109 - s) * 4503599627370496 + (p - 4503599627370496))).toUInt64 := RT_fin (E := 109 - s) (t := p - 4503599627370496) hx2 (by omega) (by omega) (by omega) (by omega) (by omega) hU
    have nmul : nnD (FP.dmul d 5093571178556030976) := EX_nn hx
    have hb := rW_b (E := 109 - s) (w := pw (109 - s) (4503599627370496 + (p - 4503599627370496))) (by omega) (by rw [pw_mm]; unfold mm; split <;> omega)
    rw [show 4503599627370496 + (p - 4503599627370496) = p by omega] at hb
    obtain ⟨r, q, g1, g2, g3, g4, g5⟩ := x_rm (n := 52 - s) (by omega) s3 s4 (v4 := 1 - 1075 - zI s) (tV2 ⟨s, by omega⟩) T
    have ed := rt_eq s4 g2 g3
    have ra : radd r q ≤ 1 := by unfold radd; split <;> omega
    have epw : pw (109 - s) p = 2 * mm (52 - s) p := by
      rw [pw_mm]
      unfold mm
      by_cases c : (52 - s) % 2 = 1
      · rw [if_pos c, if_pos (by omega)]
      · rw [if_neg c, if_neg (by omega)]
    have eW : rW (109 - s) (pw (109 - s) p) = ((52 - s) / 2 + 486 + 54) * 4503599627370496 + (r / 2 + radd r q - 4503599627370496) := by
      unfold rW
      rw [epw, ed]
      omega
    have hU2 := OL_U (w := ((52 - s) / 2 + 486 + 54) * 4503599627370496 + (r / 2 + radd r q - 4503599627370496)) (by omega)
    have hU3 := OL_U (w := ((52 - s) / 2 + 486) * 4503599627370496 + (r / 2 + radd r q - 4503599627370496)) (by omega)
    have ef : FP.dmul (Int64.ofNat (((52 - s) / 2 + 486 + 54) * 4503599627370496 + (r / 2 + radd r q - 4503599627370496))).toUInt64 4363988038922010624 = (Int64.ofNat (((52 - s) / 2 + 486) * 4503599627370496 + (r / 2 + radd r q - 4503599627370496))).toUInt64 := by
      by_cases cc : r / 2 + radd r q - 4503599627370496 < 4503599627370496
      · exact RT_fin (EX_mul (RT_ex hU2 cc (by omega) (by omega)) (by omega) (by omega) (by omega) RT_m54 rfl) rfl cc (E := (52 - s) / 2 + 486) (by omega) (by omega) (by omega) hU3
      · have ec : r / 2 + radd r q - 4503599627370496 = 4503599627370496 := by omega
        rw [ec] at hU2 hU3 ⊢
        exact RT_fin (EX_mul (RT_ex (E := (52 - s) / 2 + 486 + 54 + 1) (t := 0) (hU2.trans (by omega)) (by omega) (by omega) (by omega)) (by omega) (by omega) (by omega) RT_m54 rfl) rfl (by omega) (E := (52 - s) / 2 + 486 + 1) (by omega) (by omega) (by omega) (hU3.trans (by omega))
    refine ⟨(Int64.ofNat (((52 - s) / 2 + 486) * 4503599627370496 + (r / 2 + radd r q - 4503599627370496))).toUInt64, fun S => ?_, fun T' => ?_, by omega, fun _ => by omega⟩
    · rw [e_X11_root]; unfold b_X11_root
      have gp : 0 < Op.cmpValue (FP.dcmp d FP.dconst0) .l := by rw [cg]; exact hp
      have gt : ¬ 0 ≤ Op.cmpValue (FP.dcmp d 4503599627370496) .g := by rw [ct]; omega
      rw [if_pos gp, if_neg gt]
      unfold j_X11_root_21
      rw [if_neg (by decide), y_nn2, if_pos nmul, x_r35 (u := FP.dmul d 5093571178556030976) (E := 109 - s) (t := p - 4503599627370496) (by rw [eu]; exact hU) (by omega) (by omega) (by omega), if_neg (by decide), show 4503599627370496 + (p - 4503599627370496) = p by omega, eW, ef, y_nn2, if_pos (nn_U (by omega))]
    · rw [m0, if_pos hE, x_r43 (c := 0) T' (by omega), if_pos hE, l_62 T' s3 s4 s z_N (d.toNat % 4503599627370496) _ (by rw [show d.toNat % 4503599627370496 = d.toNat by omega]; exact hpp) (by rw [z_N_eq]; omega) s2]
      obtain ⟨r', q', g1', g2', g3', g4', g5'⟩ := x_rm (n := 52 - s) (by omega) s3 s4 (v4 := 1 - 1075 - zI s) (tV2 ⟨s, by omega⟩) T'
      rw [g1']
      have ed' := rt_eq s4 g2' g3'
      rw [← ed, ed']
  · have hE2 : d.toNat / 4503599627370496 ≤ 2046 := by omega
    obtain ⟨E, t, ht, hd⟩ : ∃ E t, t < 4503599627370496 ∧ d.toNat = E * 4503599627370496 + t := ⟨d.toNat / 4503599627370496, d.toNat % 4503599627370496, by omega, by omega⟩
    have q1 : d.toNat / 4503599627370496 = E := by omega
    have q2 : d.toNat % 4503599627370496 = t := by omega
    rw [q1] at hE hE2
    have s3 : 2 ^ 52 ≤ 4503599627370496 + t := by omega
    have s4 : 4503599627370496 + t < 2 ^ 53 := by omega
    have hb := rW_b (E := E) (w := pw E (4503599627370496 + t)) (by omega) (by rw [pw_mm]; unfold mm; split <;> omega)
    obtain ⟨r, q, g1, g2, g3, g4, g5⟩ := x_rm (n := E + 51) (by omega) s3 s4 (v4 := zI E - 1075 - zI 0) (tV1 ⟨E, by omega⟩) T
    have ed := rt_eq s4 g2 g3
    have ra : radd r q ≤ 1 := by unfold radd; split <;> omega
    have eW : rW E (pw E (4503599627370496 + t)) = ((E + 51) / 2 + 486) * 4503599627370496 + (r / 2 + radd r q - 4503599627370496) := by
      unfold rW
      rw [pw_mm, ed]
      omega
    have hU3 := OL_U (w := ((E + 51) / 2 + 486) * 4503599627370496 + (r / 2 + radd r q - 4503599627370496)) (rt_lt hE2 g5 ra).1
    refine ⟨(Int64.ofNat (((E + 51) / 2 + 486) * 4503599627370496 + (r / 2 + radd r q - 4503599627370496))).toUInt64, fun S => ?_, fun T' => ?_, Nat.le_trans (Nat.le_of_eq hU3) (rt_lt hE2 g5 ra).2.1, fun z => Nat.le_trans (Nat.le_of_eq hU3) ((rt_lt hE2 g5 ra).2.2 (by rw [hd] at z; omega))⟩
    · rw [e_X11_root]; unfold b_X11_root
      have gp : 0 < Op.cmpValue (FP.dcmp d FP.dconst0) .l := by rw [cg]; exact hp
      have gt : 0 ≤ Op.cmpValue (FP.dcmp d 4503599627370496) .g := by rw [ct]; omega
      rw [if_pos gp, if_pos gt]
      unfold j_X11_root_21
      rw [if_pos rfl, x_r35 hd ht (by omega) hE2, if_pos rfl, eW]
    · rw [m0, q1, q2, if_neg hE, x_r43 (c := 0) T' hE2, if_neg hE, l_62 T' s3 s4 0 z_N (4503599627370496 + t) _ (by omega) (by rw [z_N_eq]; omega) (by omega)]
      obtain ⟨r', q', g1', g2', g3', g4', g5'⟩ := x_rm (n := E + 51) (by omega) s3 s4 (v4 := zI E - 1075 - zI 0) (tV1 ⟨E, by omega⟩) T'
      rw [g1']
      have ed' := rt_eq s4 g2' g3'
      rw [← ed, ed']
end RootK
