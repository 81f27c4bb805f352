/-! act: the plain steps -/
section Simple
variable {B : Nat} {G : z_Gh} {S T S1 S' T' : z_St} {cz : Nat → Nat → Int64} {b : Nat} {dep : Nat → Nat}
def opR (B : Nat) (G : z_Gh) (cz : Nat → Nat → Int64) (b : Nat) (dep : Nat → Nat) (S T : z_St) (rC : Option (Int64 × z_St)) (rM : Option z_St) : Prop := (∃ S' T', rC = some (0, S') ∧ rM = some T' ∧ AI B G cz b dep S' T' ∧ fr (sW B G) S S' ∧ fr (tW B) T T') ∨ (∃ w l, 1 ≤ w ∧ w ≤ 8 ∧ rC = some (ocV (zI w) l, S) ∧ ∀ T', f_X12_leave (B + 48) 1 (zI w) l T = some T' → rM = some T') ∨ ∃ l, rC = some (ocV (zI 9) l, S) ∧ ∀ T', f_X12_leave (B + 48) 2 0 l T = some T' → rM = some T'
theorem i64_sub {x y : Int64} (h0 : 0 ≤ y) (h1 : y ≤ x) (h2 : x ≤ 1000000000000000) : 0 ≤ x - y ∧ x - y ≤ 1000000000000000 := by
  have z0 : (0 : Int64).toInt = 0 := by decide
  have zm : (1000000000000000 : Int64).toInt = 1000000000000000 := by decide
  rw [Int64.le_iff_toInt_le] at h0 h1 h2 ⊢
  rw [Int64.le_iff_toInt_le]
  rw [Int64.toInt_sub, z0, zm] at *
  rw [Int.bmod_eq_of_le (by omega) (by omega)]
  omega
theorem i64_32 {x : Int64} (h0 : 0 ≤ x) (h1 : x ≤ 100) : 0 ≤ x.toInt32 ∧ x.toInt32 ≤ 100 := by
  have z0 : (0 : Int64).toInt = 0 := by decide
  have zm : (100 : Int64).toInt = 100 := by decide
  have w0 : (0 : Int32).toInt = 0 := by decide
  have wm : (100 : Int32).toInt = 100 := by decide
  rw [Int64.le_iff_toInt_le] at h0 h1
  rw [Int32.le_iff_toInt_le, Int32.le_iff_toInt_le, Int64.toInt_toInt32, w0, wm]
  rw [z0] at h0
  rw [zm] at h1
  rw [Int.bmod_eq_of_le (by omega) (by omega)]
  omega
theorem sW_8 {k : Nat} (h : k = 2 ∨ k = 6 ∨ k = 8 ∨ k = 9 ∨ k = 13) : sW B G (B + 8) k := Or.inl ⟨rfl, h⟩
theorem tW_48 {k : Nat} (h : k = 31 ∨ k = 34 ∨ k = 50 ∨ k = 52) : tW B (B + 48) k := Or.inl ⟨rfl, h⟩
set_option maxHeartbeats 8000000 in
theorem x_op (h : AI B G cz b dep S T) (hb1 : 1 ≤ b) (hu : ∀ m, z_i S (B + 8) 13 = zI m → m ≤ 48 → m + 1 ≤ b) {at_ f : Nat} (hat : at_ + 4 < 720) (hst : stOk (z_i S (B + 9)) at_) (n3 : ¬ z_i S (B + 9) at_ = zI 3) (n6 : ¬ z_i S (B + 9) at_ = zI 6) (n7 : ¬ z_i S (B + 9) at_ = zI 7) (kp : Nat → Nat → Int32 → Int32 → z_St → Option (Int64 × z_St)) (dp : Int32) : opR B G cz b dep S T (f_X0_doStep kp (B + 8) (B + 1) (zI at_) dp S) (f_X12_doStep (B + 48) (zI at_) (zI f) T) := by
  have hAI := h
  obtain ⟨hc, hm, r1, ⟨s1, s2, s3⟩, ⟨b1, b2, b3, b4, b5, b6⟩, au⟩ := h
  obtain ⟨op, o1, o2, o3, o4, o5, -, -⟩ := hst
  have t0 := (s1 at_ (by omega)).symm
  have t1 := (s1 (at_ + 1) (by omega)).symm
  have t2 := (s1 (at_ + 2) (by omega)).symm
  have t3 := (s1 (at_ + 3) (by omega)).symm
  rw [o2] at t0 n3 n6 n7
  generalize hA : z_i S (B + 9) (at_ + 1) = A at *
  generalize hBb : z_i S (B + 9) (at_ + 2) = Bb at *
  generalize hCc : z_i S (B + 9) (at_ + 3) = Cc at *
  rw [e_X0_doStep, e_X12_doStep]; unfold b_X0_doStep b_X12_doStep
  have op7 : op = 0 ∨ op = 1 ∨ op = 2 ∨ op = 4 ∨ op = 5 ∨ op = 8 ∨ op = 9 := by
    have q3 : ¬ op = 3 := fun z => n3 (by rw [z])
    have q6 : ¬ op = 6 := fun z => n6 (by rw [z])
    have q7 : ¬ op = 7 := fun z => n7 (by rw [z])
    omega
  rcases op7 with rfl | rfl | rfl | rfl | rfl | rfl | rfl
  · -- PUT
    sorry
  · -- TAKE
    obtain ⟨A0, A1⟩ := o3 rfl
    obtain ⟨c1, c2, c3⟩ := b1
    have A0' : (0 : Int64) ≤ A.toInt64 := by rw [nil]; exact A0
    by_cases c : A.toInt64 ≤ z_l T (B + 48) 31
    · have hb := i64_sub A0' c (by rw [← c1]; exact c3)
      refine Or.inl ⟨z_wl S (B + 8) 2 (z_l T (B + 48) 31 - A.toInt64), z_wl T (B + 48) 31 (z_l T (B + 48) 31 - A.toInt64), ?_, ?_, AI_stock hAI hb.1 hb.2, fr_wl fr_rf _ _ _ (sW_8 (by omega)), fr_wl fr_rf _ _ _ (tW_48 (by omega))⟩
      · simp (disch := first | assumption | omega) only [y_i_wi, y_l_wi, y_d_wi, y_r_wi, y_k_wi, y_n_wi, y_x_wi, y_w_wi, y_s_wi, y_i_wl, y_l_wl, y_d_wl, y_r_wl, y_k_wl, y_n_wl, y_x_wl, y_w_wl, y_s_wl, y_i_wd, y_l_wd, y_d_wd, y_r_wd, y_k_wd, y_n_wd, y_x_wd, y_w_wd, y_s_wd, y_i_wr, y_l_wr, y_d_wr, y_r_wr, y_k_wr, y_n_wr, y_x_wr, y_w_wr, y_s_wr, y_i_new, y_l_new, y_d_new, y_r_new, y_k_new, y_n_new, y_x_new, y_w_new, y_s_new, y_i_ci, y_l_ci, y_d_ci, y_r_ci, y_k_ci, y_n_ci, y_x_ci, y_w_ci, y_s_ci, y_i_cl, y_l_cl, y_d_cl, y_r_cl, y_k_cl, y_n_cl, y_x_cl, y_w_cl, y_s_cl, y_i_qi, y_l_qi, y_d_qi, y_r_qi, y_k_qi, y_n_qi, y_x_qi, y_w_qi, y_s_qi, y_i_ql, y_l_ql, y_d_ql, y_r_ql, y_k_ql, y_n_ql, y_x_ql, y_w_ql, y_s_ql, y_i_qd, y_l_qd, y_d_qd, y_r_qd, y_k_qd, y_n_qd, y_x_qd, y_w_qd, y_s_qd, ↓reduceIte, ↓y_tb, ↓y_tv, ↓y_tr, ↓y_tn, ↓y_ck, ↓y_ib, ↓y_nz2, ↓y_nzl2, ↓y_len2, ↓y_nn2, ↓y_nf2, ↓y_l2d2, y_gb, y_gn, y_gi, y_gv, y_gv', y_grN, y_grS, y_glN, y_glS, Nat.reduceAdd, Nat.reduceMul, Nat.reduceSub, Nat.reduceDiv, Nat.reduceMod, Nat.reduceLT, Nat.reduceLeDiff, y_rb0, y_rb1, y_b0, y_b0', y_10, zL_eq, zL_cl, Nat.add_sub_cancel, implies_true, Int32.reduceLT, Int32.reduceLE, if_true, if_false, true_and, and_true, false_and, and_false, true_or, or_true, false_or, or_false, not_true_eq_false, not_false_eq_true, ne_eq, and_self, or_self, reduceCtorEq, Nat.add_left_cancel_iff, Nat.left_eq_add, Nat.add_eq_left, Nat.reduceEqDiff, zI_of, zI_cl, zI_add, zI_mul, zI_lt, zI_le, zI_eq, zI_mulL, zI_mulR, zI_addL, zI_addR, zI_subR, zI_sub, zI_divR, zI_ltR, zI_ltL, zI_leR, zI_leL, zI_eqR, zI_eqL, zI_neN, zI_neN', zI_ltN, zI_leN, zN_lt, zF1, zF2, zF3, zF4, zF5, zF6, zF7, zF8, zU_lt, zG1, zG2, zG3, zG4, zG5, zG6, zU1, zU2, zU3, zU4, zN_0, zN_le0, zI_lt0, zI_0le, zI_pred, zI_pred', zI_predS, zI_predT, zJ_le, zJ_lt, zJ_leL, zJ_leR, y_cl0, y_0cl, y_cle, y_lec, y_ceq, n_lt, n_le, n_nlt, n_nle,  kc_8 hc, rc_8_0 hc, kc_9 hc, nc_9 hc, rc_8_3 hc, kc_11 hc, nc_11 hc, rc_8_5 hc, kc_13 hc, nc_13 hc, rc_8_10 hc, kc_14 hc, nc_14 hc, rc_8_11 hc, kc_15 hc, nc_15 hc, rc_8_12 hc, kc_16 hc, nc_16 hc, rc_8_4 hc, kc_12 hc, nc_12 hc, kc_0 hc, e_X0_keepSignal, b_X0_keepSignal, e_X0_outcomeOf, b_X0_outcomeOf, e_X0_putCell, b_X0_putCell, e_X8_cellOfWhole, b_X8_cellOfWhole, x_hasCell, e_X0_sumInto, b_X0_sumInto, e_X0_takeLitres, b_X0_takeLitres, e_X0_turnGate, b_X0_turnGate, kc_8 hc, rc_8_0 hc, kc_9 hc, nc_9 hc, hA, hBb, o2, c1, c]
      · simp (disch := first | assumption | omega) only [y_i_wi, y_l_wi, y_d_wi, y_r_wi, y_k_wi, y_n_wi, y_x_wi, y_w_wi, y_s_wi, y_i_wl, y_l_wl, y_d_wl, y_r_wl, y_k_wl, y_n_wl, y_x_wl, y_w_wl, y_s_wl, y_i_wd, y_l_wd, y_d_wd, y_r_wd, y_k_wd, y_n_wd, y_x_wd, y_w_wd, y_s_wd, y_i_wr, y_l_wr, y_d_wr, y_r_wr, y_k_wr, y_n_wr, y_x_wr, y_w_wr, y_s_wr, y_i_new, y_l_new, y_d_new, y_r_new, y_k_new, y_n_new, y_x_new, y_w_new, y_s_new, y_i_ci, y_l_ci, y_d_ci, y_r_ci, y_k_ci, y_n_ci, y_x_ci, y_w_ci, y_s_ci, y_i_cl, y_l_cl, y_d_cl, y_r_cl, y_k_cl, y_n_cl, y_x_cl, y_w_cl, y_s_cl, y_i_qi, y_l_qi, y_d_qi, y_r_qi, y_k_qi, y_n_qi, y_x_qi, y_w_qi, y_s_qi, y_i_ql, y_l_ql, y_d_ql, y_r_ql, y_k_ql, y_n_ql, y_x_ql, y_w_ql, y_s_ql, y_i_qd, y_l_qd, y_d_qd, y_r_qd, y_k_qd, y_n_qd, y_x_qd, y_w_qd, y_s_qd, ↓reduceIte, ↓y_tb, ↓y_tv, ↓y_tr, ↓y_tn, ↓y_ck, ↓y_ib, ↓y_nz2, ↓y_nzl2, ↓y_len2, ↓y_nn2, ↓y_nf2, ↓y_l2d2, y_gb, y_gn, y_gi, y_gv, y_gv', y_grN, y_grS, y_glN, y_glS, Nat.reduceAdd, Nat.reduceMul, Nat.reduceSub, Nat.reduceDiv, Nat.reduceMod, Nat.reduceLT, Nat.reduceLeDiff, y_rb0, y_rb1, y_b0, y_b0', y_10, zL_eq, zL_cl, Nat.add_sub_cancel, implies_true, Int32.reduceLT, Int32.reduceLE, if_true, if_false, true_and, and_true, false_and, and_false, true_or, or_true, false_or, or_false, not_true_eq_false, not_false_eq_true, ne_eq, and_self, or_self, reduceCtorEq, Nat.add_left_cancel_iff, Nat.left_eq_add, Nat.add_eq_left, Nat.reduceEqDiff, zI_of, zI_cl, zI_add, zI_mul, zI_lt, zI_le, zI_eq, zI_mulL, zI_mulR, zI_addL, zI_addR, zI_subR, zI_sub, zI_divR, zI_ltR, zI_ltL, zI_leR, zI_leL, zI_eqR, zI_eqL, zI_neN, zI_neN', zI_ltN, zI_leN, zN_lt, zF1, zF2, zF3, zF4, zF5, zF6, zF7, zF8, zU_lt, zG1, zG2, zG3, zG4, zG5, zG6, zU1, zU2, zU3, zU4, zN_0, zN_le0, zI_lt0, zI_0le, zI_pred, zI_pred', zI_predS, zI_predT, zJ_le, zJ_lt, zJ_leL, zJ_leR, y_cl0, y_0cl, y_cle, y_lec, y_ceq, n_lt, n_le, n_nlt, n_nle,  km_48 hm, rm_48_30 hm, km_71 hm, nm_71 hm, t0, t1, t2, c]
    · refine Or.inr (Or.inl ⟨8, 1, by omega, by omega, ?_, fun T' hT => ?_⟩)
      · have z8 : zI 8 = (8 : Int32) := rfl
        rw [z8]
        simp (disch := first | assumption | omega) only [y_i_wi, y_l_wi, y_d_wi, y_r_wi, y_k_wi, y_n_wi, y_x_wi, y_w_wi, y_s_wi, y_i_wl, y_l_wl, y_d_wl, y_r_wl, y_k_wl, y_n_wl, y_x_wl, y_w_wl, y_s_wl, y_i_wd, y_l_wd, y_d_wd, y_r_wd, y_k_wd, y_n_wd, y_x_wd, y_w_wd, y_s_wd, y_i_wr, y_l_wr, y_d_wr, y_r_wr, y_k_wr, y_n_wr, y_x_wr, y_w_wr, y_s_wr, y_i_new, y_l_new, y_d_new, y_r_new, y_k_new, y_n_new, y_x_new, y_w_new, y_s_new, y_i_ci, y_l_ci, y_d_ci, y_r_ci, y_k_ci, y_n_ci, y_x_ci, y_w_ci, y_s_ci, y_i_cl, y_l_cl, y_d_cl, y_r_cl, y_k_cl, y_n_cl, y_x_cl, y_w_cl, y_s_cl, y_i_qi, y_l_qi, y_d_qi, y_r_qi, y_k_qi, y_n_qi, y_x_qi, y_w_qi, y_s_qi, y_i_ql, y_l_ql, y_d_ql, y_r_ql, y_k_ql, y_n_ql, y_x_ql, y_w_ql, y_s_ql, y_i_qd, y_l_qd, y_d_qd, y_r_qd, y_k_qd, y_n_qd, y_x_qd, y_w_qd, y_s_qd, ↓reduceIte, ↓y_tb, ↓y_tv, ↓y_tr, ↓y_tn, ↓y_ck, ↓y_ib, ↓y_nz2, ↓y_nzl2, ↓y_len2, ↓y_nn2, ↓y_nf2, ↓y_l2d2, y_gb, y_gn, y_gi, y_gv, y_gv', y_grN, y_grS, y_glN, y_glS, Nat.reduceAdd, Nat.reduceMul, Nat.reduceSub, Nat.reduceDiv, Nat.reduceMod, Nat.reduceLT, Nat.reduceLeDiff, y_rb0, y_rb1, y_b0, y_b0', y_10, zL_eq, zL_cl, Nat.add_sub_cancel, implies_true, Int32.reduceLT, Int32.reduceLE, if_true, if_false, true_and, and_true, false_and, and_false, true_or, or_true, false_or, or_false, not_true_eq_false, not_false_eq_true, ne_eq, and_self, or_self, reduceCtorEq, Nat.add_left_cancel_iff, Nat.left_eq_add, Nat.add_eq_left, Nat.reduceEqDiff, zI_of, zI_cl, zI_add, zI_mul, zI_lt, zI_le, zI_eq, zI_mulL, zI_mulR, zI_addL, zI_addR, zI_subR, zI_sub, zI_divR, zI_ltR, zI_ltL, zI_leR, zI_leL, zI_eqR, zI_eqL, zI_neN, zI_neN', zI_ltN, zI_leN, zN_lt, zF1, zF2, zF3, zF4, zF5, zF6, zF7, zF8, zU_lt, zG1, zG2, zG3, zG4, zG5, zG6, zU1, zU2, zU3, zU4, zN_0, zN_le0, zI_lt0, zI_0le, zI_pred, zI_pred', zI_predS, zI_predT, zJ_le, zJ_lt, zJ_leL, zJ_leR, y_cl0, y_0cl, y_cle, y_lec, y_ceq, n_lt, n_le, n_nlt, n_nle,  kc_8 hc, rc_8_0 hc, kc_9 hc, nc_9 hc, hA, hBb, o2, e_X0_takeLitres, b_X0_takeLitres, c1, c, x_oc]
      · have xf := (x_fail (B := B) (T := T) 8 1 hm).trans hT
        simp (disch := first | assumption | omega) only [y_i_wi, y_l_wi, y_d_wi, y_r_wi, y_k_wi, y_n_wi, y_x_wi, y_w_wi, y_s_wi, y_i_wl, y_l_wl, y_d_wl, y_r_wl, y_k_wl, y_n_wl, y_x_wl, y_w_wl, y_s_wl, y_i_wd, y_l_wd, y_d_wd, y_r_wd, y_k_wd, y_n_wd, y_x_wd, y_w_wd, y_s_wd, y_i_wr, y_l_wr, y_d_wr, y_r_wr, y_k_wr, y_n_wr, y_x_wr, y_w_wr, y_s_wr, y_i_new, y_l_new, y_d_new, y_r_new, y_k_new, y_n_new, y_x_new, y_w_new, y_s_new, y_i_ci, y_l_ci, y_d_ci, y_r_ci, y_k_ci, y_n_ci, y_x_ci, y_w_ci, y_s_ci, y_i_cl, y_l_cl, y_d_cl, y_r_cl, y_k_cl, y_n_cl, y_x_cl, y_w_cl, y_s_cl, y_i_qi, y_l_qi, y_d_qi, y_r_qi, y_k_qi, y_n_qi, y_x_qi, y_w_qi, y_s_qi, y_i_ql, y_l_ql, y_d_ql, y_r_ql, y_k_ql, y_n_ql, y_x_ql, y_w_ql, y_s_ql, y_i_qd, y_l_qd, y_d_qd, y_r_qd, y_k_qd, y_n_qd, y_x_qd, y_w_qd, y_s_qd, ↓reduceIte, ↓y_tb, ↓y_tv, ↓y_tr, ↓y_tn, ↓y_ck, ↓y_ib, ↓y_nz2, ↓y_nzl2, ↓y_len2, ↓y_nn2, ↓y_nf2, ↓y_l2d2, y_gb, y_gn, y_gi, y_gv, y_gv', y_grN, y_grS, y_glN, y_glS, Nat.reduceAdd, Nat.reduceMul, Nat.reduceSub, Nat.reduceDiv, Nat.reduceMod, Nat.reduceLT, Nat.reduceLeDiff, y_rb0, y_rb1, y_b0, y_b0', y_10, zL_eq, zL_cl, Nat.add_sub_cancel, implies_true, Int32.reduceLT, Int32.reduceLE, if_true, if_false, true_and, and_true, false_and, and_false, true_or, or_true, false_or, or_false, not_true_eq_false, not_false_eq_true, ne_eq, and_self, or_self, reduceCtorEq, Nat.add_left_cancel_iff, Nat.left_eq_add, Nat.add_eq_left, Nat.reduceEqDiff, zI_of, zI_cl, zI_add, zI_mul, zI_lt, zI_le, zI_eq, zI_mulL, zI_mulR, zI_addL, zI_addR, zI_subR, zI_sub, zI_divR, zI_ltR, zI_ltL, zI_leR, zI_leL, zI_eqR, zI_eqL, zI_neN, zI_neN', zI_ltN, zI_leN, zN_lt, zF1, zF2, zF3, zF4, zF5, zF6, zF7, zF8, zU_lt, zG1, zG2, zG3, zG4, zG5, zG6, zU1, zU2, zU3, zU4, zN_0, zN_le0, zI_lt0, zI_0le, zI_pred, zI_pred', zI_predS, zI_predT, zJ_le, zJ_lt, zJ_leL, zJ_leR, y_cl0, y_0cl, y_cle, y_lec, y_ceq, n_lt, n_le, n_nlt, n_nle,  km_48 hm, rm_48_30 hm, km_71 hm, nm_71 hm, t0, t1, t2, c, xf]
  · sorry
  · sorry
  · sorry
  · sorry
  · sorry
end Simple
