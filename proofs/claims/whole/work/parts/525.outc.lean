/-! act: outcomes, the machine's rounds -/
section Outc
variable {B : Nat} {G : z_Gh} {S T S1 S' T' : z_St}
def ocV (w l : Int32) : Int64 := (w.toInt64 <<< (((32 : Int32)).toInt64 &&& 63)) ||| (l.toInt64 &&& ((4294967295 : Int64)))
theorem x_oc (w l : Int32) (S : z_St) : f_X0_outcomeOf w l S = some (ocV w l, S) := by
  rw [e_X0_outcomeOf]; rfl
theorem oc_l (l : Int32) : l.toInt64 &&& (4294967295 : Int64) = Int64.ofNat l.toBitVec.toNat := by
  have h := l.toBitVec.isLt
  apply OL_eq
  rw [Int64.toBitVec_and, BitVec.toNat_and]
  have e : l.toInt64.toBitVec.toNat % 2 ^ 32 = l.toBitVec.toNat := by
    rw [Int32.toBitVec_toInt64, BitVec.toNat_signExtend, BitVec.toNat_setWidth]
    split <;> omega
  rw [← e]
  exact Nat.and_two_pow_sub_one_eq_mod _ 32
theorem oc_n {w : Nat} (hw : w ≤ 9) (l : Int32) : ocV (zI w) l = Int64.ofNat (2 ^ 32 * w + l.toBitVec.toNat) := by
  have h := l.toBitVec.isLt
  have e1 := tE4 ⟨w, by omega⟩
  dsimp only at e1
  have e2 : Int64.ofNat w <<< (((32 : Int32)).toInt64 &&& 63) = Int64.ofNat (w * 2 ^ 32) := OL_shl (k := 32) (by omega) (by omega)
  unfold ocV
  rw [oc_l, e1, e2, Nat.mul_comm w, OL_or (i := 32) h (by omega)]
theorem oc_way {w : Nat} (hw : w ≤ 9) (l : Int32) (S : z_St) : f_X0_wayOf (ocV (zI w) l) S = some (zI w, S) := by
  have h := l.toBitVec.isLt
  have hU := OL_U (w := 2 ^ 32 * w + l.toBitVec.toNat) (by omega)
  rw [e_X0_wayOf]; unfold b_X0_wayOf
  rw [oc_n hw]
  have e2 : ((Int64.ofNat (2 ^ 32 * w + l.toBitVec.toNat)).toUInt64 >>> ((32 : Int32).toInt64.toUInt64 &&& Int64.toUInt64 63)).toInt64 = Int64.ofNat w := by
    apply OL_eq
    show ((Int64.ofNat (2 ^ 32 * w + l.toBitVec.toNat)).toUInt64 >>> ((32 : Int32).toInt64.toUInt64 &&& Int64.toUInt64 63)).toNat = _
    rw [UInt64.toNat_shiftRight, show ((32 : Int32).toInt64.toUInt64 &&& Int64.toUInt64 63).toNat % 64 = 32 by decide, Nat.shiftRight_eq_div_pow, hU]
    omega
  rw [e2, tE3 ⟨w, by omega⟩]
theorem oc_load {w : Nat} (hw : w ≤ 9) (l : Int32) (S : z_St) : f_X0_loadOf (ocV (zI w) l) S = some (l, S) := by
  have h := l.toBitVec.isLt
  rw [e_X0_loadOf]; unfold b_X0_loadOf
  rw [oc_n hw]
  have e : (Int64.ofNat (2 ^ 32 * w + l.toBitVec.toNat)).toInt32 = l := by
    apply Int32.toBitVec_inj.mp
    apply BitVec.eq_of_toNat_eq
    rw [Int64.toBitVec_toInt32, BitVec.signExtend_eq_setWidth_of_le _ (by decide), BitVec.toNat_setWidth, OL_bv (by omega)]
    omega
  rw [e]
theorem oc_ne {w : Nat} (h1 : 1 ≤ w) (hw : w ≤ 9) (l : Int32) : ¬ ocV (zI w) l = 0 := by
  have h := l.toBitVec.isLt
  rw [oc_n hw]
  intro z
  have e : (Int64.ofNat (2 ^ 32 * w + l.toBitVec.toNat) = Int64.ofNat 0) = (2 ^ 32 * w + l.toBitVec.toNat = 0) := OL_inj (by omega) (by omega)
  have := e.mp z
  omega
theorem oc_0 (S : z_St) : f_X0_wayOf 0 S = some (0, S) := by
  rw [e_X0_wayOf]; unfold b_X0_wayOf
  have : (((0 : Int64).toUInt64 >>> (((32 : Int32)).toInt64.toUInt64 &&& Int64.toUInt64 63)).toInt64).toInt32 = 0 := by decide
  rw [this]
/-- the class's outcome against the model's -/
def outR (B : Nat) (v : Int64) (T : z_St) : Prop := (v = 0 ∧ z_i T (B + 48) 47 = 0) ∨ (∃ w l, 1 ≤ w ∧ w ≤ 8 ∧ v = ocV (zI w) l ∧ z_i T (B + 48) 47 = 1 ∧ z_i T (B + 48) 48 = zI w ∧ z_i T (B + 48) 49 = l) ∨ (∃ l, v = ocV (zI 9) l ∧ z_i T (B + 48) 47 = 2 ∧ z_i T (B + 48) 49 = l)
/-- k rounds of the machine -/
def mr (B k : Nat) (T T' : z_St) : Prop := ∀ N v2, l_X12_act_83 (N + k) (B + 48) v2 T = l_X12_act_83 N (B + 48) v2 T'
theorem mr_0 : mr B 0 T T := fun N v2 => rfl
theorem mr_tr {k k' : Nat} {T1 : z_St} (h : mr B k T T1) (h' : mr B k' T1 T') : mr B (k + k') T T' := fun N v2 => by
  rw [show N + (k + k') = N + k' + k by omega, h, h']
theorem mr_go {f : Nat} (hf : f < 100) (hm : mSh B T) (e36 : z_i T (B + 48) 36 = zI (f + 1)) (e46 : z_i T (B + 48) 46 = 0) (h : f_X12_go (B + 48) T = some T') : mr B 1 T T' := fun N v2 => by
  have n0 : (zI (f + 1) ≤ 0) = False := eq_false fun z => by
    rw [y_le, zI_I (by omega)] at z
    have : (0 : Int32).toInt = 0 := by decide
    omega
  rw [l_X12_act_83]
  simp (disch := first | assumption | omega) only [y_i_wi, y_l_wi, y_d_wi, y_r_wi, y_k_wi, y_n_wi, y_x_wi, y_w_wi, y_s_wi, y_i_wl, y_l_wl, y_d_wl, y_r_wl, y_k_wl, y_n_wl, y_x_wl, y_w_wl, y_s_wl, y_i_wd, y_l_wd, y_d_wd, y_r_wd, y_k_wd, y_n_wd, y_x_wd, y_w_wd, y_s_wd, y_i_wr, y_l_wr, y_d_wr, y_r_wr, y_k_wr, y_n_wr, y_x_wr, y_w_wr, y_s_wr, y_i_new, y_l_new, y_d_new, y_r_new, y_k_new, y_n_new, y_x_new, y_w_new, y_s_new, y_i_ci, y_l_ci, y_d_ci, y_r_ci, y_k_ci, y_n_ci, y_x_ci, y_w_ci, y_s_ci, y_i_cl, y_l_cl, y_d_cl, y_r_cl, y_k_cl, y_n_cl, y_x_cl, y_w_cl, y_s_cl, y_i_qi, y_l_qi, y_d_qi, y_r_qi, y_k_qi, y_n_qi, y_x_qi, y_w_qi, y_s_qi, y_i_ql, y_l_ql, y_d_ql, y_r_ql, y_k_ql, y_n_ql, y_x_ql, y_w_ql, y_s_ql, y_i_qd, y_l_qd, y_d_qd, y_r_qd, y_k_qd, y_n_qd, y_x_qd, y_w_qd, y_s_qd, ↓reduceIte, ↓y_tb, ↓y_tv, ↓y_tr, ↓y_tn, ↓y_ck, ↓y_ib, ↓y_nz2, ↓y_nzl2, ↓y_len2, ↓y_nn2, ↓y_nf2, ↓y_l2d2, y_gb, y_gn, y_gi, y_gv, y_gv', y_grN, y_grS, y_glN, y_glS, Nat.reduceAdd, Nat.reduceMul, Nat.reduceSub, Nat.reduceDiv, Nat.reduceMod, Nat.reduceLT, Nat.reduceLeDiff, y_rb0, y_rb1, y_b0, y_b0', y_10, zL_eq, zL_cl, Nat.add_sub_cancel, implies_true, Int32.reduceLT, Int32.reduceLE, if_true, if_false, true_and, and_true, false_and, and_false, true_or, or_true, false_or, or_false, not_true_eq_false, not_false_eq_true, ne_eq, and_self, or_self, reduceCtorEq, Nat.add_left_cancel_iff, Nat.left_eq_add, Nat.add_eq_left, Nat.reduceEqDiff, zI_of, zI_cl, zI_add, zI_mul, zI_lt, zI_le, zI_eq, zI_mulL, zI_mulR, zI_addL, zI_addR, zI_subR, zI_sub, zI_divR, zI_ltR, zI_ltL, zI_leR, zI_leL, zI_eqR, zI_eqL, zI_neN, zI_neN', zI_ltN, zI_leN, zN_lt, zF1, zF2, zF3, zF4, zF5, zF6, zF7, zF8, zU_lt, zG1, zG2, zG3, zG4, zG5, zG6, zU1, zU2, zU3, zU4, zN_0, zN_le0, zI_lt0, zI_0le, zI_pred, zI_pred', zI_predS, zI_predT, zJ_le, zJ_lt, zJ_leL, zJ_leR, y_cl0, y_0cl, y_cle, y_lec, y_ceq, n_lt, n_le, n_nlt, n_nle,  km_48 hm, e36, n0, e46, h]
theorem mr_hear {f : Nat} (hf : f < 100) (hm : mSh B T) (e36 : z_i T (B + 48) 36 = zI (f + 1)) (e46 : z_i T (B + 48) 46 = 1) (h : f_X12_hear (B + 48) T = some T') : mr B 1 T T' := fun N v2 => by
  have n0 : (zI (f + 1) ≤ 0) = False := eq_false fun z => by
    rw [y_le, zI_I (by omega)] at z
    have : (0 : Int32).toInt = 0 := by decide
    omega
  rw [l_X12_act_83]
  simp (disch := first | assumption | omega) only [y_i_wi, y_l_wi, y_d_wi, y_r_wi, y_k_wi, y_n_wi, y_x_wi, y_w_wi, y_s_wi, y_i_wl, y_l_wl, y_d_wl, y_r_wl, y_k_wl, y_n_wl, y_x_wl, y_w_wl, y_s_wl, y_i_wd, y_l_wd, y_d_wd, y_r_wd, y_k_wd, y_n_wd, y_x_wd, y_w_wd, y_s_wd, y_i_wr, y_l_wr, y_d_wr, y_r_wr, y_k_wr, y_n_wr, y_x_wr, y_w_wr, y_s_wr, y_i_new, y_l_new, y_d_new, y_r_new, y_k_new, y_n_new, y_x_new, y_w_new, y_s_new, y_i_ci, y_l_ci, y_d_ci, y_r_ci, y_k_ci, y_n_ci, y_x_ci, y_w_ci, y_s_ci, y_i_cl, y_l_cl, y_d_cl, y_r_cl, y_k_cl, y_n_cl, y_x_cl, y_w_cl, y_s_cl, y_i_qi, y_l_qi, y_d_qi, y_r_qi, y_k_qi, y_n_qi, y_x_qi, y_w_qi, y_s_qi, y_i_ql, y_l_ql, y_d_ql, y_r_ql, y_k_ql, y_n_ql, y_x_ql, y_w_ql, y_s_ql, y_i_qd, y_l_qd, y_d_qd, y_r_qd, y_k_qd, y_n_qd, y_x_qd, y_w_qd, y_s_qd, ↓reduceIte, ↓y_tb, ↓y_tv, ↓y_tr, ↓y_tn, ↓y_ck, ↓y_ib, ↓y_nz2, ↓y_nzl2, ↓y_len2, ↓y_nn2, ↓y_nf2, ↓y_l2d2, y_gb, y_gn, y_gi, y_gv, y_gv', y_grN, y_grS, y_glN, y_glS, Nat.reduceAdd, Nat.reduceMul, Nat.reduceSub, Nat.reduceDiv, Nat.reduceMod, Nat.reduceLT, Nat.reduceLeDiff, y_rb0, y_rb1, y_b0, y_b0', y_10, zL_eq, zL_cl, Nat.add_sub_cancel, implies_true, Int32.reduceLT, Int32.reduceLE, if_true, if_false, true_and, and_true, false_and, and_false, true_or, or_true, false_or, or_false, not_true_eq_false, not_false_eq_true, ne_eq, and_self, or_self, reduceCtorEq, Nat.add_left_cancel_iff, Nat.left_eq_add, Nat.add_eq_left, Nat.reduceEqDiff, zI_of, zI_cl, zI_add, zI_mul, zI_lt, zI_le, zI_eq, zI_mulL, zI_mulR, zI_addL, zI_addR, zI_subR, zI_sub, zI_divR, zI_ltR, zI_ltL, zI_leR, zI_leL, zI_eqR, zI_eqL, zI_neN, zI_neN', zI_ltN, zI_leN, zN_lt, zF1, zF2, zF3, zF4, zF5, zF6, zF7, zF8, zU_lt, zG1, zG2, zG3, zG4, zG5, zG6, zU1, zU2, zU3, zU4, zN_0, zN_le0, zI_lt0, zI_0le, zI_pred, zI_pred', zI_predS, zI_predT, zJ_le, zJ_lt, zJ_leL, zJ_leR, y_cl0, y_0cl, y_cle, y_lec, y_ceq, n_lt, n_le, n_nlt, n_nle,  km_48 hm, e36, n0, e46, c10, h]
/-! the model's control: what it may write from frame f and hold h on -/
def ctl (B f h : Nat) (a k : Nat) : Prop := (a = B + 48 ∧ (k = 36 ∨ k = 44 ∨ k = 46 ∨ k = 47 ∨ k = 48 ∨ k = 49)) ∨ (B + 75 ≤ a ∧ a ≤ B + 81 ∧ f ≤ k) ∨ (a = B + 82 ∧ h ≤ k)
theorem x_out12 (s k w : Int32) (hm : mSh B T) : f_X12_out (B + 48) s k w T = some (z_wi (z_wi (z_wi (z_wi T (B + 48) 46 1) (B + 48) 47 s) (B + 48) 48 k) (B + 48) 49 w) := by
  rw [e_X12_out]; unfold b_X12_out
  simp (disch := first | assumption | omega) only [y_i_wi, y_l_wi, y_d_wi, y_r_wi, y_k_wi, y_n_wi, y_x_wi, y_w_wi, y_s_wi, y_i_wl, y_l_wl, y_d_wl, y_r_wl, y_k_wl, y_n_wl, y_x_wl, y_w_wl, y_s_wl, y_i_wd, y_l_wd, y_d_wd, y_r_wd, y_k_wd, y_n_wd, y_x_wd, y_w_wd, y_s_wd, y_i_wr, y_l_wr, y_d_wr, y_r_wr, y_k_wr, y_n_wr, y_x_wr, y_w_wr, y_s_wr, y_i_new, y_l_new, y_d_new, y_r_new, y_k_new, y_n_new, y_x_new, y_w_new, y_s_new, y_i_ci, y_l_ci, y_d_ci, y_r_ci, y_k_ci, y_n_ci, y_x_ci, y_w_ci, y_s_ci, y_i_cl, y_l_cl, y_d_cl, y_r_cl, y_k_cl, y_n_cl, y_x_cl, y_w_cl, y_s_cl, y_i_qi, y_l_qi, y_d_qi, y_r_qi, y_k_qi, y_n_qi, y_x_qi, y_w_qi, y_s_qi, y_i_ql, y_l_ql, y_d_ql, y_r_ql, y_k_ql, y_n_ql, y_x_ql, y_w_ql, y_s_ql, y_i_qd, y_l_qd, y_d_qd, y_r_qd, y_k_qd, y_n_qd, y_x_qd, y_w_qd, y_s_qd, ↓reduceIte, ↓y_tb, ↓y_tv, ↓y_tr, ↓y_tn, ↓y_ck, ↓y_ib, ↓y_nz2, ↓y_nzl2, ↓y_len2, ↓y_nn2, ↓y_nf2, ↓y_l2d2, y_gb, y_gn, y_gi, y_gv, y_gv', y_grN, y_grS, y_glN, y_glS, Nat.reduceAdd, Nat.reduceMul, Nat.reduceSub, Nat.reduceDiv, Nat.reduceMod, Nat.reduceLT, Nat.reduceLeDiff, y_rb0, y_rb1, y_b0, y_b0', y_10, zL_eq, zL_cl, Nat.add_sub_cancel, implies_true, Int32.reduceLT, Int32.reduceLE, if_true, if_false, true_and, and_true, false_and, and_false, true_or, or_true, false_or, or_false, not_true_eq_false, not_false_eq_true, ne_eq, and_self, or_self, reduceCtorEq, Nat.add_left_cancel_iff, Nat.left_eq_add, Nat.add_eq_left, Nat.reduceEqDiff, zI_of, zI_cl, zI_add, zI_mul, zI_lt, zI_le, zI_eq, zI_mulL, zI_mulR, zI_addL, zI_addR, zI_subR, zI_sub, zI_divR, zI_ltR, zI_ltL, zI_leR, zI_leL, zI_eqR, zI_eqL, zI_neN, zI_neN', zI_ltN, zI_leN, zN_lt, zF1, zF2, zF3, zF4, zF5, zF6, zF7, zF8, zU_lt, zG1, zG2, zG3, zG4, zG5, zG6, zU1, zU2, zU3, zU4, zN_0, zN_le0, zI_lt0, zI_0le, zI_pred, zI_pred', zI_predS, zI_predT, zJ_le, zJ_lt, zJ_leL, zJ_leR, y_cl0, y_0cl, y_cle, y_lec, y_ceq, n_lt, n_le, n_nlt, n_nle,  km_48 hm]
theorem x_call8 (p : Int32) (hm : mSh B T) (e : z_i T (B + 48) 36 = zI 8) : f_X12_call (B + 48) p T = some (z_wi (z_wi (z_wi (z_wi T (B + 48) 46 1) (B + 48) 47 1) (B + 48) 48 8) (B + 48) 49 3) := by
  have x := x_out12 (B := B) (T := T) 1 8 3 hm
  rw [e_X12_call]; unfold b_X12_call
  simp (disch := first | assumption | omega) only [y_i_wi, y_l_wi, y_d_wi, y_r_wi, y_k_wi, y_n_wi, y_x_wi, y_w_wi, y_s_wi, y_i_wl, y_l_wl, y_d_wl, y_r_wl, y_k_wl, y_n_wl, y_x_wl, y_w_wl, y_s_wl, y_i_wd, y_l_wd, y_d_wd, y_r_wd, y_k_wd, y_n_wd, y_x_wd, y_w_wd, y_s_wd, y_i_wr, y_l_wr, y_d_wr, y_r_wr, y_k_wr, y_n_wr, y_x_wr, y_w_wr, y_s_wr, y_i_new, y_l_new, y_d_new, y_r_new, y_k_new, y_n_new, y_x_new, y_w_new, y_s_new, y_i_ci, y_l_ci, y_d_ci, y_r_ci, y_k_ci, y_n_ci, y_x_ci, y_w_ci, y_s_ci, y_i_cl, y_l_cl, y_d_cl, y_r_cl, y_k_cl, y_n_cl, y_x_cl, y_w_cl, y_s_cl, y_i_qi, y_l_qi, y_d_qi, y_r_qi, y_k_qi, y_n_qi, y_x_qi, y_w_qi, y_s_qi, y_i_ql, y_l_ql, y_d_ql, y_r_ql, y_k_ql, y_n_ql, y_x_ql, y_w_ql, y_s_ql, y_i_qd, y_l_qd, y_d_qd, y_r_qd, y_k_qd, y_n_qd, y_x_qd, y_w_qd, y_s_qd, ↓reduceIte, ↓y_tb, ↓y_tv, ↓y_tr, ↓y_tn, ↓y_ck, ↓y_ib, ↓y_nz2, ↓y_nzl2, ↓y_len2, ↓y_nn2, ↓y_nf2, ↓y_l2d2, y_gb, y_gn, y_gi, y_gv, y_gv', y_grN, y_grS, y_glN, y_glS, Nat.reduceAdd, Nat.reduceMul, Nat.reduceSub, Nat.reduceDiv, Nat.reduceMod, Nat.reduceLT, Nat.reduceLeDiff, y_rb0, y_rb1, y_b0, y_b0', y_10, zL_eq, zL_cl, Nat.add_sub_cancel, implies_true, Int32.reduceLT, Int32.reduceLE, if_true, if_false, true_and, and_true, false_and, and_false, true_or, or_true, false_or, or_false, not_true_eq_false, not_false_eq_true, ne_eq, and_self, or_self, reduceCtorEq, Nat.add_left_cancel_iff, Nat.left_eq_add, Nat.add_eq_left, Nat.reduceEqDiff, zI_of, zI_cl, zI_add, zI_mul, zI_lt, zI_le, zI_eq, zI_mulL, zI_mulR, zI_addL, zI_addR, zI_subR, zI_sub, zI_divR, zI_ltR, zI_ltL, zI_leR, zI_leL, zI_eqR, zI_eqL, zI_neN, zI_neN', zI_ltN, zI_leN, zN_lt, zF1, zF2, zF3, zF4, zF5, zF6, zF7, zF8, zU_lt, zG1, zG2, zG3, zG4, zG5, zG6, zU1, zU2, zU3, zU4, zN_0, zN_le0, zI_lt0, zI_0le, zI_pred, zI_pred', zI_predS, zI_predT, zJ_le, zJ_lt, zJ_leL, zJ_leR, y_cl0, y_0cl, y_cle, y_lec, y_ceq, n_lt, n_le, n_nlt, n_nle,  km_48 hm, e, x]
theorem x_call {f h : Nat} (hf : f < 8) (hh : h < 400) (p : Int32) (hm : mSh B T) (e : z_i T (B + 48) 36 = zI f) (e2 : z_i T (B + 48) 44 = zI h) : f_X12_call (B + 48) p T = some (z_wi (z_wi (z_wi (z_wi (z_wi (z_wi T (B + 75) f p) (B + 76) f 0) (B + 77) f 0) (B + 78) f (zI h)) (B + 48) 36 (zI (f + 1))) (B + 48) 46 0) := by
  have n8 : ¬ f = 8 := by omega
  rw [e_X12_call]; unfold b_X12_call
  simp (disch := first | assumption | omega) only [y_i_wi, y_l_wi, y_d_wi, y_r_wi, y_k_wi, y_n_wi, y_x_wi, y_w_wi, y_s_wi, y_i_wl, y_l_wl, y_d_wl, y_r_wl, y_k_wl, y_n_wl, y_x_wl, y_w_wl, y_s_wl, y_i_wd, y_l_wd, y_d_wd, y_r_wd, y_k_wd, y_n_wd, y_x_wd, y_w_wd, y_s_wd, y_i_wr, y_l_wr, y_d_wr, y_r_wr, y_k_wr, y_n_wr, y_x_wr, y_w_wr, y_s_wr, y_i_new, y_l_new, y_d_new, y_r_new, y_k_new, y_n_new, y_x_new, y_w_new, y_s_new, y_i_ci, y_l_ci, y_d_ci, y_r_ci, y_k_ci, y_n_ci, y_x_ci, y_w_ci, y_s_ci, y_i_cl, y_l_cl, y_d_cl, y_r_cl, y_k_cl, y_n_cl, y_x_cl, y_w_cl, y_s_cl, y_i_qi, y_l_qi, y_d_qi, y_r_qi, y_k_qi, y_n_qi, y_x_qi, y_w_qi, y_s_qi, y_i_ql, y_l_ql, y_d_ql, y_r_ql, y_k_ql, y_n_ql, y_x_ql, y_w_ql, y_s_ql, y_i_qd, y_l_qd, y_d_qd, y_r_qd, y_k_qd, y_n_qd, y_x_qd, y_w_qd, y_s_qd, ↓reduceIte, ↓y_tb, ↓y_tv, ↓y_tr, ↓y_tn, ↓y_ck, ↓y_ib, ↓y_nz2, ↓y_nzl2, ↓y_len2, ↓y_nn2, ↓y_nf2, ↓y_l2d2, y_gb, y_gn, y_gi, y_gv, y_gv', y_grN, y_grS, y_glN, y_glS, Nat.reduceAdd, Nat.reduceMul, Nat.reduceSub, Nat.reduceDiv, Nat.reduceMod, Nat.reduceLT, Nat.reduceLeDiff, y_rb0, y_rb1, y_b0, y_b0', y_10, zL_eq, zL_cl, Nat.add_sub_cancel, implies_true, Int32.reduceLT, Int32.reduceLE, if_true, if_false, true_and, and_true, false_and, and_false, true_or, or_true, false_or, or_false, not_true_eq_false, not_false_eq_true, ne_eq, and_self, or_self, reduceCtorEq, Nat.add_left_cancel_iff, Nat.left_eq_add, Nat.add_eq_left, Nat.reduceEqDiff, zI_of, zI_cl, zI_add, zI_mul, zI_lt, zI_le, zI_eq, zI_mulL, zI_mulR, zI_addL, zI_addR, zI_subR, zI_sub, zI_divR, zI_ltR, zI_ltL, zI_leR, zI_leL, zI_eqR, zI_eqL, zI_neN, zI_neN', zI_ltN, zI_leN, zN_lt, zF1, zF2, zF3, zF4, zF5, zF6, zF7, zF8, zU_lt, zG1, zG2, zG3, zG4, zG5, zG6, zU1, zU2, zU3, zU4, zN_0, zN_le0, zI_lt0, zI_0le, zI_pred, zI_pred', zI_predS, zI_predT, zJ_le, zJ_lt, zJ_leL, zJ_leR, y_cl0, y_0cl, y_cle, y_lec, y_ceq, n_lt, n_le, n_nlt, n_nle,  km_48 hm, e, n8, rm_48_37 hm, km_75 hm, nm_75 hm, rm_48_38 hm, km_76 hm, nm_76 hm, rm_48_39 hm, km_77 hm, nm_77 hm, rm_48_40 hm, km_78 hm, nm_78 hm, e2]
end Outc
