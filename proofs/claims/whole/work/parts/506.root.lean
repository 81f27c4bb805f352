/-! the root -/
section Root
variable {S T : z_St}
theorem RT_v (u : UInt64) : FP.Core.val64 u = if u.toNat / 4503599627370496 % 2048 = 2048 - 1 then (if u.toNat % 4503599627370496 = 0 then .inf (decide (2 ^ 63 ≤ u.toNat)) else .nan) else if u.toNat / 4503599627370496 % 2048 = 0 then .fin (decide (2 ^ 63 ≤ u.toNat)) (u.toNat % 4503599627370496) (-1074) else .fin (decide (2 ^ 63 ≤ u.toNat)) (4503599627370496 + u.toNat % 4503599627370496) (-1074 + (((u.toNat / 4503599627370496 % 2048 : Nat) : Int) - 1)) := by
  have hS := EX_S u
  have t1 : FP.Core.b64.tails = 4503599627370496 := by decide
  have t2 : FP.Core.b64.exps = 2048 := by decide
  unfold FP.Core.val64 FP.Core.decode
  rw [hS]
  unfold FP.Core.fieldE FP.Core.fieldT
  rw [t1, t2, EX_q]
theorem RT_val {u : UInt64} {E t : Nat} (h : u.toNat = E * 4503599627370496 + t) (ht : t < 4503599627370496) (h1 : 1 ≤ E) (h2 : E ≤ 2046) : FP.Core.val64 u = .fin false (4503599627370496 + t) ((E : Int) - 1075) := by
  have hv := RT_v u
  rw [show u.toNat / 4503599627370496 % 2048 = E by omega, show u.toNat % 4503599627370496 = t by omega, if_neg (by omega), if_neg (by omega), decide_eq_false (by omega), show -1074 + ((E : Int) - 1) = (E : Int) - 1075 by omega] at hv
  exact hv
theorem RT_val0 {u : UInt64} (h : u.toNat < 4503599627370496) : FP.Core.val64 u = .fin false u.toNat (-1074) := by
  have hv := RT_v u
  rw [show u.toNat / 4503599627370496 % 2048 = 0 by omega, show u.toNat % 4503599627370496 = u.toNat by omega, if_neg (by omega), if_pos rfl, decide_eq_false (by omega)] at hv
  exact hv
theorem RT_fin {u v : UInt64} {p : Nat} {E t : Nat} {e : Int} (h : Ex u p e) (hp : p = 4503599627370496 + t) (ht : t < 4503599627370496) (he : e = (E : Int) - 1075) (h1 : 1 ≤ E) (h2 : E ≤ 2046) (hv : v.toNat = E * 4503599627370496 + t) : u = v := by
  subst hp he
  have e1 := RT_val hv ht h1 h2
  have e2 : FP.Core.val64 u = .fin false (4503599627370496 + t) ((E : Int) - 1075) := Eq.trans h (FP.Core.round_of_fits FP.Core.good_b64 (EX_fits (by omega) (by omega) (by omega) (Or.inr (by omega)) false))
  exact FP.Core.val64_inj (by rw [e2]; intro z; cases z) (e2.trans e1.symm)
theorem RT_ex {u : UInt64} {E t : Nat} (h : u.toNat = E * 4503599627370496 + t) (ht : t < 4503599627370496) (h1 : 1 ≤ E) (h2 : E ≤ 2046) : Ex u (4503599627370496 + t) ((E : Int) - 1075) :=
  Eq.trans (RT_val h ht h1 h2) (FP.Core.round_of_fits FP.Core.good_b64 (EX_fits (by omega) (by omega) (by omega) (Or.inr (by omega)) false)).symm
theorem RT_sc {u : UInt64} {c p s : Nat} {e : Int} (h : Ex u c e) (hp : c * 2 ^ s = p) : Ex u p (e - s) := by
  unfold Ex at h ⊢
  rw [h]
  show FP.Core.roundRatio FP.Core.b64 false c 1 e = FP.Core.roundRatio FP.Core.b64 false p 1 (e - s)
  refine FP.Core.roundRatio_congr (by decide) (by decide) ?_
  rw [Nat.mul_one, Nat.mul_one, show (e - (e - (s : Int))).toNat = s by omega, show (e - (s : Int) - e).toNat = 0 by omega, Nat.pow_zero, Nat.mul_one]
  exact hp
theorem RT_108 : FP.Core.val64 5093571178556030976 = .fin false (2 ^ 52) 56 := by decide +kernel
theorem RT_m54 : FP.Core.val64 4363988038922010624 = .fin false (2 ^ 52) (-106) := by decide +kernel
theorem OL_U {w : Nat} (hw : w < 2 ^ 63) : (Int64.ofNat w).toUInt64.toNat = w := OL_bv hw
theorem OL_of (u : UInt64) : u.toInt64 = Int64.ofNat u.toNat := OL_eq rfl
theorem nn_U {u : UInt64} (h : u.toNat ≤ 9218868437227405312) : nnD u := (nn_63 u).mpr (by omega)
theorem x_rd {w : Nat} (hw : w < 2 ^ 55) (S : z_St) : f_X11_rootDigits (Int64.ofNat w) S = some (Int64.ofNat (rfin (rdg 54 w 0)), S) := by
  rw [e_X11_rootDigits]
  exact l_rd S 54 z_N w 0 (by rw [z_N_eq]; omega) (by omega) (by omega) (by omega)
theorem rfin_b {w : Nat} (hw : w < 2 ^ 55) : rfin (rdg 54 w 0) ≤ 2 ^ 54 := by
  have := (rdg_b 54 w 0 (by omega) (by omega)).1
  unfold rfin
  split <;> omega
def rW (E w : Nat) : Nat := rfin (rdg 54 w 0) / 2 + ((E + 51) / 2 + 485) * 4503599627370496
theorem rW_b {E w : Nat} (hE : E ≤ 2046) (hw : w < 2 ^ 55) : rW E w ≤ ((E + 51) / 2 + 487) * 4503599627370496 := by
  have := rfin_b hw
  unfold rW
  omega
theorem tE1 : ∀ E : Fin 2047, ((zI E.1 - 1023) &&& (1 : Int32) = 0) = ((E.1 + 51) % 2 = 0) := by
  have : ∀ E : Fin 2047, decide ((zI E.1 - 1023) &&& (1 : Int32) = 0) = decide ((E.1 + 51) % 2 = 0) := by decide +kernel
  intro E
  exact propext (decide_eq_decide.mp (this E))
theorem tE2 : ∀ E : Fin 2047, ((zI E.1 - 1023) >>> ((1 : Int32) &&& 31)) + (1022 : Int32) = zI ((E.1 + 51) / 2 + 485) := by decide +kernel
theorem tE3 : ∀ E : Fin 2048, (Int64.ofNat E.1).toInt32 = zI E.1 := by decide +kernel
theorem tE4 : ∀ E : Fin 2048, (zI E.1).toInt64 = Int64.ofNat E.1 := by decide +kernel
theorem x_r89 {E w : Nat} (hE : E ≤ 2046) (hw : w < 2 ^ 55) (v2 : Int32) (S : z_St) : j_X11_root_89 v2 (zI E - 1023) (Int64.ofNat w) S = if v2 = 0 then some ((Int64.ofNat (rW E w)).toUInt64, S) else z_nn (FP.dmul (Int64.ofNat (rW E w)).toUInt64 4363988038922010624) (some (FP.dmul (Int64.ofNat (rW E w)).toUInt64 4363988038922010624, S)) := by
  have hb := rW_b hE hw
  have hr := rfin_b hw
  have e1 := tE2 ⟨E, by omega⟩
  have e2 := tE4 ⟨(E + 51) / 2 + 485, by omega⟩
  have e3 := OL_sr1 (w := rfin (rdg 54 w 0)) (by omega)
  have e4 : Int64.ofNat ((E + 51) / 2 + 485) <<< (((52 : Int32)).toInt64 &&& 63) = Int64.ofNat (((E + 51) / 2 + 485) * 4503599627370496) := OL_shl (k := 52) (by omega) (by omega)
  have hU := OL_U (w := rW E w) (by omega)
  have hn : nnD (Int64.ofNat (rW E w)).toUInt64 := nn_U (by omega)
  have rr := F_realC (b := Int64.ofNat (rW E w)) (F_nL hn) S
  unfold j_X11_root_89
  rw [x_rd hw, y_bs]
  dsimp only at e1 e2 ⊢
  rw [e1, e2, e3, e4, OL_add]
  show ((f_X11_realOf (Int64.ofNat (rW E w)) S).bind _) = _
  rw [rr, y_bs]
def pw (E p : Nat) : Nat := if (E + 51) % 2 = 0 then 2 * p else 4 * p
theorem x_r35 {u : UInt64} {E t : Nat} (h : u.toNat = E * 4503599627370496 + t) (ht : t < 4503599627370496) (h1 : 1 ≤ E) (h2 : E ≤ 2046) (v0 : UInt64) (v2 : Int32) (S : z_St) : j_X11_root_35 v0 v2 u S = if v2 = 0 then some ((Int64.ofNat (rW E (pw E (4503599627370496 + t)))).toUInt64, S) else z_nn (FP.dmul (Int64.ofNat (rW E (pw E (4503599627370496 + t)))).toUInt64 4363988038922010624) (some (FP.dmul (Int64.ofNat (rW E (pw E (4503599627370496 + t)))).toUInt64 4363988038922010624, S)) := by
  have hn : nnD u := nn_U (by omega)
  have hb := F_bitsC hn S
  have lt : (Int64.ofNat u.toNat < (9218868437227405312 : Int64)) = (u.toNat < 9218868437227405312) := OL_lt (b := 9218868437227405312) (by omega) (by omega)
  have e1 : (Int64.ofNat u.toNat) >>> (((52 : Int32)).toInt64 &&& 63) = Int64.ofNat (u.toNat / 4503599627370496) := EX_shr (k := 52) (by omega) (by omega)
  have e2 : ((Int64.ofNat u.toNat) &&& (4503599627370495 : Int64)) ||| (4503599627370496 : Int64) = Int64.ofNat (4503599627370496 + t) := by
    apply OL_eq
    rw [EX_Tn2, OL_U (by omega)]
    omega
  have e3 := tE3 ⟨E, by omega⟩
  have e4 := tE1 ⟨E, by omega⟩
  have s1 := OL_sh1 (w := 4503599627370496 + t) (by omega)
  have s2 := OL_sh2 (w := 4503599627370496 + t) (by omega)
  dsimp only at e3 e4
  unfold j_X11_root_35
  rw [hb, y_bs, OL_of]
  dsimp only
  have hl : lg_cmp (Int64.ofNat u.toNat) 9218868437227405312 < 0 := by rw [y_cl0, lt]; omega
  rw [if_pos hl, e1, show u.toNat / 4503599627370496 = E by omega, e3, e2, s1, s2]
  unfold pw
  by_cases c : (E + 51) % 2 = 0
  · rw [if_pos (e4.mpr c), if_pos c]
    exact x_r89 h2 (by omega) v2 S
  · rw [if_neg (fun z => c (e4.mp z)), if_neg c]
    exact x_r89 h2 (by omega) v2 S
end Root
