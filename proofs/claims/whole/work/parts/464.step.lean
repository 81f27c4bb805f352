/-! step -/
section Step
variable {B : Nat} {G : z_Gh} {S T : z_St}
theorem stOk_congr {f g : Nat → Int32} {a : Nat} (h : stOk f a) (e0 : g a = f a) (e1 : g (a + 1) = f (a + 1)) (e2 : g (a + 2) = f (a + 2)) (e3 : g (a + 3) = f (a + 3)) (e4 : g (a + 4) = f (a + 4)) : stOk g a := by
  unfold stOk at h ⊢
  rw [e0, e1, e2, e3, e4]; exact h
def z_st (S : z_St) (m i : Nat) (o a b c d : Int32) : z_St := z_wi (z_wi (z_wi (z_wi (z_wi S m i o) m (i + 1) a) m (i + 2) b) m (i + 3) c) m (i + 4) d
theorem z_st_at (S : z_St) (m i : Nat) (o a b c d : Int32) (j : Nat) : z_i (z_st S m i o a b c d) m j = if j = i + 4 then d else if j = i + 3 then c else if j = i + 2 then b else if j = i + 1 then a else if j = i then o else z_i S m j := by
  unfold z_st
  simp only [y_i_wi, true_and]
theorem z_st_ne (S : z_St) {m i : Nat} (o a b c d : Int32) {n : Nat} (h : n ≠ m) (j : Nat) : z_i (z_st S m i o a b c d) n j = z_i S n j := by
  unfold z_st
  simp only [y_i_wi, h, false_and, if_false]
theorem k_step (h : Rel B S T) (p o a b c d : Int32) : Pr B S T (f_X11_step B p o a b c d S) (f_X12_step (B + 48) p o a b c d T) := by
  obtain ⟨G, h⟩ := h
  rw [e_X11_step, e_X12_step]; unfold b_X11_step b_X12_step
  have hm0 := h.2.1
  simp only [y_ck, km_48 hm0, if_true]
  generalize hT1 : z_wi T (B + 48) 0 0 = T1
  refine Pr_T hT1 ?_
  replace h := RG_0 h; rw [hT1] at h; clear hT1 hm0
  have hc := h.1
  have hm := h.2.1
  have h7 : R7 B G S T1 := h.2.2.1 7
  obtain ⟨g1, g2, g3, g4, g5, g6, g7, g8, g9⟩ := h7
  rcases ixc p (nat_lit 11) (by decide) with ⟨hk, hk1⟩ | ⟨p, hp, rfl⟩
  · simp (disch := first | assumption | omega) only [y_i_wi, y_l_wi, y_d_wi, y_r_wi, y_k_wi, y_n_wi, y_x_wi, y_w_wi, y_s_wi, y_i_wl, y_l_wl, y_d_wl, y_r_wl, y_k_wl, y_n_wl, y_x_wl, y_w_wl, y_s_wl, y_i_wd, y_l_wd, y_d_wd, y_r_wd, y_k_wd, y_n_wd, y_x_wd, y_w_wd, y_s_wd, y_i_wr, y_l_wr, y_d_wr, y_r_wr, y_k_wr, y_n_wr, y_x_wr, y_w_wr, y_s_wr, y_i_new, y_l_new, y_d_new, y_r_new, y_k_new, y_n_new, y_x_new, y_w_new, y_s_new, y_i_ci, y_l_ci, y_d_ci, y_r_ci, y_k_ci, y_n_ci, y_x_ci, y_w_ci, y_s_ci, y_i_cl, y_l_cl, y_d_cl, y_r_cl, y_k_cl, y_n_cl, y_x_cl, y_w_cl, y_s_cl, y_i_qi, y_l_qi, y_d_qi, y_r_qi, y_k_qi, y_n_qi, y_x_qi, y_w_qi, y_s_qi, y_i_ql, y_l_ql, y_d_ql, y_r_ql, y_k_ql, y_n_ql, y_x_ql, y_w_ql, y_s_ql, y_i_qd, y_l_qd, y_d_qd, y_r_qd, y_k_qd, y_n_qd, y_x_qd, y_w_qd, y_s_qd, ↓reduceIte, ↓y_tb, ↓y_tv, ↓y_tr, ↓y_tn, ↓y_ck, ↓y_ib, ↓y_nz2, ↓y_nzl2, ↓y_len2, ↓y_nn2, ↓y_nf2, ↓y_l2d2, y_gb, y_gn, y_gi, y_gv, y_gv', y_grN, y_grS, y_glN, y_glS, Nat.reduceAdd, Nat.reduceMul, Nat.reduceSub, Nat.reduceDiv, Nat.reduceMod, Nat.reduceLT, Nat.reduceLeDiff, y_rb0, y_rb1, y_b0, y_b0', y_10, zL_eq, zL_cl, Nat.add_sub_cancel, implies_true, Int32.reduceLT, Int32.reduceLE, if_true, if_false, true_and, and_true, false_and, and_false, true_or, or_true, false_or, or_false, not_true_eq_false, not_false_eq_true, ne_eq, and_self, or_self, reduceCtorEq, Nat.add_left_cancel_iff, Nat.left_eq_add, Nat.add_eq_left, Nat.reduceEqDiff, zI_of, zI_cl, zI_add, zI_mul, zI_lt, zI_le, zI_eq, zI_mulL, zI_mulR, zI_addL, zI_addR, zI_subR, zI_sub, zI_divR, zI_ltR, zI_ltL, zI_leR, zI_leL, zI_eqR, zI_eqL, zI_neN, zI_neN', zI_ltN, zI_leN, zN_lt, zF1, zF2, zF3, zF4, zF5, zF6, zF7, zF8, zU_lt, zG1, zG2, zG3, zG4, zG5, zG6, zU1, zU2, zU3, zU4, zN_0, zN_le0, zI_lt0, zI_0le, zI_pred, zI_pred', zI_predS, zI_predT, zJ_le, zJ_lt, zJ_leL, zJ_leR, y_cl0, y_0cl, y_cle, y_lec, y_ceq, n_lt, n_le, n_nlt, n_nle,  kc_0 hc, rc_0_12 hc, kc_8 hc, rc_8_1 hc, kc_10 hc, nc_10 hc, rc_8_0 hc, kc_9 hc, nc_9 hc, km_48 hm, rm_48_29 hm, km_70 hm, nm_70 hm, rm_48_30 hm, km_71 hm, nm_71 hm, e_X0_keepStep, b_X0_keepStep, e_X0_stepAt, b_X0_stepAt, x_outOf, x_in, hk, hk1]
    exact Pr_n' h rfl
  have hp' : p < 12 := by omega
  obtain ⟨v, v1, v2, v3⟩ := x_isStep o a b c d
  obtain ⟨e1, e2, e3⟩ := g2 p hp'
  rcases v3 with rfl | ⟨rfl, hv⟩
  · simp (disch := first | assumption | omega) only [y_i_wi, y_l_wi, y_d_wi, y_r_wi, y_k_wi, y_n_wi, y_x_wi, y_w_wi, y_s_wi, y_i_wl, y_l_wl, y_d_wl, y_r_wl, y_k_wl, y_n_wl, y_x_wl, y_w_wl, y_s_wl, y_i_wd, y_l_wd, y_d_wd, y_r_wd, y_k_wd, y_n_wd, y_x_wd, y_w_wd, y_s_wd, y_i_wr, y_l_wr, y_d_wr, y_r_wr, y_k_wr, y_n_wr, y_x_wr, y_w_wr, y_s_wr, y_i_new, y_l_new, y_d_new, y_r_new, y_k_new, y_n_new, y_x_new, y_w_new, y_s_new, y_i_ci, y_l_ci, y_d_ci, y_r_ci, y_k_ci, y_n_ci, y_x_ci, y_w_ci, y_s_ci, y_i_cl, y_l_cl, y_d_cl, y_r_cl, y_k_cl, y_n_cl, y_x_cl, y_w_cl, y_s_cl, y_i_qi, y_l_qi, y_d_qi, y_r_qi, y_k_qi, y_n_qi, y_x_qi, y_w_qi, y_s_qi, y_i_ql, y_l_ql, y_d_ql, y_r_ql, y_k_ql, y_n_ql, y_x_ql, y_w_ql, y_s_ql, y_i_qd, y_l_qd, y_d_qd, y_r_qd, y_k_qd, y_n_qd, y_x_qd, y_w_qd, y_s_qd, ↓reduceIte, ↓y_tb, ↓y_tv, ↓y_tr, ↓y_tn, ↓y_ck, ↓y_ib, ↓y_nz2, ↓y_nzl2, ↓y_len2, ↓y_nn2, ↓y_nf2, ↓y_l2d2, y_gb, y_gn, y_gi, y_gv, y_gv', y_grN, y_grS, y_glN, y_glS, Nat.reduceAdd, Nat.reduceMul, Nat.reduceSub, Nat.reduceDiv, Nat.reduceMod, Nat.reduceLT, Nat.reduceLeDiff, y_rb0, y_rb1, y_b0, y_b0', y_10, zL_eq, zL_cl, Nat.add_sub_cancel, implies_true, Int32.reduceLT, Int32.reduceLE, if_true, if_false, true_and, and_true, false_and, and_false, true_or, or_true, false_or, or_false, not_true_eq_false, not_false_eq_true, ne_eq, and_self, or_self, reduceCtorEq, Nat.add_left_cancel_iff, Nat.left_eq_add, Nat.add_eq_left, Nat.reduceEqDiff, zI_of, zI_cl, zI_add, zI_mul, zI_lt, zI_le, zI_eq, zI_mulL, zI_mulR, zI_addL, zI_addR, zI_subR, zI_sub, zI_divR, zI_ltR, zI_ltL, zI_leR, zI_leL, zI_eqR, zI_eqL, zI_neN, zI_neN', zI_ltN, zI_leN, zN_lt, zF1, zF2, zF3, zF4, zF5, zF6, zF7, zF8, zU_lt, zG1, zG2, zG3, zG4, zG5, zG6, zU1, zU2, zU3, zU4, zN_0, zN_le0, zI_lt0, zI_0le, zI_pred, zI_pred', zI_predS, zI_predT, zJ_le, zJ_lt, zJ_leL, zJ_leR, y_cl0, y_0cl, y_cle, y_lec, y_ceq, n_lt, n_le, n_nlt, n_nle,  kc_0 hc, rc_0_12 hc, kc_8 hc, rc_8_1 hc, kc_10 hc, nc_10 hc, rc_8_0 hc, kc_9 hc, nc_9 hc, km_48 hm, rm_48_29 hm, km_70 hm, nm_70 hm, rm_48_30 hm, km_71 hm, nm_71 hm, e_X0_keepStep, b_X0_keepStep, e_X0_stepAt, b_X0_stepAt, x_outOf, x_in, v1, v2]
    exact Pr_n' h rfl
  by_cases hn : G 14 p = 12
  · rw [hn] at e1 e2
    simp (disch := first | assumption | omega) only [y_i_wi, y_l_wi, y_d_wi, y_r_wi, y_k_wi, y_n_wi, y_x_wi, y_w_wi, y_s_wi, y_i_wl, y_l_wl, y_d_wl, y_r_wl, y_k_wl, y_n_wl, y_x_wl, y_w_wl, y_s_wl, y_i_wd, y_l_wd, y_d_wd, y_r_wd, y_k_wd, y_n_wd, y_x_wd, y_w_wd, y_s_wd, y_i_wr, y_l_wr, y_d_wr, y_r_wr, y_k_wr, y_n_wr, y_x_wr, y_w_wr, y_s_wr, y_i_new, y_l_new, y_d_new, y_r_new, y_k_new, y_n_new, y_x_new, y_w_new, y_s_new, y_i_ci, y_l_ci, y_d_ci, y_r_ci, y_k_ci, y_n_ci, y_x_ci, y_w_ci, y_s_ci, y_i_cl, y_l_cl, y_d_cl, y_r_cl, y_k_cl, y_n_cl, y_x_cl, y_w_cl, y_s_cl, y_i_qi, y_l_qi, y_d_qi, y_r_qi, y_k_qi, y_n_qi, y_x_qi, y_w_qi, y_s_qi, y_i_ql, y_l_ql, y_d_ql, y_r_ql, y_k_ql, y_n_ql, y_x_ql, y_w_ql, y_s_ql, y_i_qd, y_l_qd, y_d_qd, y_r_qd, y_k_qd, y_n_qd, y_x_qd, y_w_qd, y_s_qd, ↓reduceIte, ↓y_tb, ↓y_tv, ↓y_tr, ↓y_tn, ↓y_ck, ↓y_ib, ↓y_nz2, ↓y_nzl2, ↓y_len2, ↓y_nn2, ↓y_nf2, ↓y_l2d2, y_gb, y_gn, y_gi, y_gv, y_gv', y_grN, y_grS, y_glN, y_glS, Nat.reduceAdd, Nat.reduceMul, Nat.reduceSub, Nat.reduceDiv, Nat.reduceMod, Nat.reduceLT, Nat.reduceLeDiff, y_rb0, y_rb1, y_b0, y_b0', y_10, zL_eq, zL_cl, Nat.add_sub_cancel, implies_true, Int32.reduceLT, Int32.reduceLE, if_true, if_false, true_and, and_true, false_and, and_false, true_or, or_true, false_or, or_false, not_true_eq_false, not_false_eq_true, ne_eq, and_self, or_self, reduceCtorEq, Nat.add_left_cancel_iff, Nat.left_eq_add, Nat.add_eq_left, Nat.reduceEqDiff, zI_of, zI_cl, zI_add, zI_mul, zI_lt, zI_le, zI_eq, zI_mulL, zI_mulR, zI_addL, zI_addR, zI_subR, zI_sub, zI_divR, zI_ltR, zI_ltL, zI_leR, zI_leL, zI_eqR, zI_eqL, zI_neN, zI_neN', zI_ltN, zI_leN, zN_lt, zF1, zF2, zF3, zF4, zF5, zF6, zF7, zF8, zU_lt, zG1, zG2, zG3, zG4, zG5, zG6, zU1, zU2, zU3, zU4, zN_0, zN_le0, zI_lt0, zI_0le, zI_pred, zI_pred', zI_predS, zI_predT, zJ_le, zJ_lt, zJ_leL, zJ_leR, y_cl0, y_0cl, y_cle, y_lec, y_ceq, n_lt, n_le, n_nlt, n_nle,  kc_0 hc, rc_0_12 hc, kc_8 hc, rc_8_1 hc, kc_10 hc, nc_10 hc, rc_8_0 hc, kc_9 hc, nc_9 hc, km_48 hm, rm_48_29 hm, km_70 hm, nm_70 hm, rm_48_30 hm, km_71 hm, nm_71 hm, e_X0_keepStep, b_X0_keepStep, e_X0_stepAt, b_X0_stepAt, x_outOf, x_in, v1, v2, e1, e2]
    exact Pr_n' h rfl
  have hi : (p * 12 + G 14 p) * 5 = 60 * p + 5 * G 14 p := by omega
  simp (disch := first | assumption | omega) only [y_i_wi, y_l_wi, y_d_wi, y_r_wi, y_k_wi, y_n_wi, y_x_wi, y_w_wi, y_s_wi, y_i_wl, y_l_wl, y_d_wl, y_r_wl, y_k_wl, y_n_wl, y_x_wl, y_w_wl, y_s_wl, y_i_wd, y_l_wd, y_d_wd, y_r_wd, y_k_wd, y_n_wd, y_x_wd, y_w_wd, y_s_wd, y_i_wr, y_l_wr, y_d_wr, y_r_wr, y_k_wr, y_n_wr, y_x_wr, y_w_wr, y_s_wr, y_i_new, y_l_new, y_d_new, y_r_new, y_k_new, y_n_new, y_x_new, y_w_new, y_s_new, y_i_ci, y_l_ci, y_d_ci, y_r_ci, y_k_ci, y_n_ci, y_x_ci, y_w_ci, y_s_ci, y_i_cl, y_l_cl, y_d_cl, y_r_cl, y_k_cl, y_n_cl, y_x_cl, y_w_cl, y_s_cl, y_i_qi, y_l_qi, y_d_qi, y_r_qi, y_k_qi, y_n_qi, y_x_qi, y_w_qi, y_s_qi, y_i_ql, y_l_ql, y_d_ql, y_r_ql, y_k_ql, y_n_ql, y_x_ql, y_w_ql, y_s_ql, y_i_qd, y_l_qd, y_d_qd, y_r_qd, y_k_qd, y_n_qd, y_x_qd, y_w_qd, y_s_qd, ↓reduceIte, ↓y_tb, ↓y_tv, ↓y_tr, ↓y_tn, ↓y_ck, ↓y_ib, ↓y_nz2, ↓y_nzl2, ↓y_len2, ↓y_nn2, ↓y_nf2, ↓y_l2d2, y_gb, y_gn, y_gi, y_gv, y_gv', y_grN, y_grS, y_glN, y_glS, Nat.reduceAdd, Nat.reduceMul, Nat.reduceSub, Nat.reduceDiv, Nat.reduceMod, Nat.reduceLT, Nat.reduceLeDiff, y_rb0, y_rb1, y_b0, y_b0', y_10, zL_eq, zL_cl, Nat.add_sub_cancel, implies_true, Int32.reduceLT, Int32.reduceLE, if_true, if_false, true_and, and_true, false_and, and_false, true_or, or_true, false_or, or_false, not_true_eq_false, not_false_eq_true, ne_eq, and_self, or_self, reduceCtorEq, Nat.add_left_cancel_iff, Nat.left_eq_add, Nat.add_eq_left, Nat.reduceEqDiff, zI_of, zI_cl, zI_add, zI_mul, zI_lt, zI_le, zI_eq, zI_mulL, zI_mulR, zI_addL, zI_addR, zI_subR, zI_sub, zI_divR, zI_ltR, zI_ltL, zI_leR, zI_leL, zI_eqR, zI_eqL, zI_neN, zI_neN', zI_ltN, zI_leN, zN_lt, zF1, zF2, zF3, zF4, zF5, zF6, zF7, zF8, zU_lt, zG1, zG2, zG3, zG4, zG5, zG6, zU1, zU2, zU3, zU4, zN_0, zN_le0, zI_lt0, zI_0le, zI_pred, zI_pred', zI_predS, zI_predT, zJ_le, zJ_lt, zJ_leL, zJ_leR, y_cl0, y_0cl, y_cle, y_lec, y_ceq, n_lt, n_le, n_nlt, n_nle,  kc_0 hc, rc_0_12 hc, kc_8 hc, rc_8_1 hc, kc_10 hc, nc_10 hc, rc_8_0 hc, kc_9 hc, nc_9 hc, km_48 hm, rm_48_29 hm, km_70 hm, nm_70 hm, rm_48_30 hm, km_71 hm, nm_71 hm, e_X0_keepStep, b_X0_keepStep, e_X0_stepAt, b_X0_stepAt, x_outOf, x_in, v1, v2, e1, e2, hn, hi]
  show Pr B S T1 (some (_, z_wi (z_st S (B + 9) (60 * p + 5 * G 14 p) o a b c d) (B + 10) p (zI (G 14 p + 1)))) (some (_, z_wi (z_st T1 (B + 71) (60 * p + 5 * G 14 p) o a b c d) (B + 70) p (zI (G 14 p + 1))))
  refine Pr_c 7 (G' := z_u G 14 p (G 14 p + 1)) h (fS_wi (by unfold z_st; exact fS_wi (fS_wi (fS_wi (fS_wi (fS_wi fS_rf _ _ _ (at_fix (by decide) (by exact okcc))) _ _ _ (at_fix (by decide) (by exact okcc))) _ _ _ (at_fix (by decide) (by exact okcc))) _ _ _ (at_fix (by decide) (by exact okcc))) _ _ _ (at_fix (by decide) (by exact okcc))) _ _ _ (at_fix (by decide) (by exact okcc))) (fT_wi (by unfold z_st; exact fT_wi (fT_wi (fT_wi (fT_wi (fT_wi fT_rf _ _ _ (cm_at (by exact okcc))) _ _ _ (cm_at (by exact okcc))) _ _ _ (cm_at (by exact okcc))) _ _ _ (cm_at (by exact okcc))) _ _ _ (cm_at (by exact okcc))) _ _ _ (cm_at (by exact okcc))) (gL_u (gL_rf _ _ _) (Or.inr (Or.inr (Or.inr (Or.inr (Or.inr (Or.inr (Or.inl ⟨rfl, rfl⟩)))))))) ?_ (by decide) ?_ rfl (by unfold z_st; simp only [y_x_wi]; omega) (by unfold z_st; simp only [y_w_wi]; omega)
  · have gu : ∀ q, q ≠ p → z_u G 14 p (G 14 p + 1) 14 q = G 14 q := fun q e => y_un (fun z => e z.2)
    have s9 : ∀ j, z_i (z_wi (z_st S (B + 9) (60 * p + 5 * G 14 p) o a b c d) (B + 10) p (zI (G 14 p + 1))) (B + 9) j = z_i (z_st S (B + 9) (60 * p + 5 * G 14 p) o a b c d) (B + 9) j := fun j => by rw [y_i_wi, if_neg (by omega)]
    have ns : ∀ (x : Nat), x ≠ 9 → x ≠ 10 → ∀ j, z_i (z_wi (z_st S (B + 9) (60 * p + 5 * G 14 p) o a b c d) (B + 10) p (zI (G 14 p + 1))) (B + x) j = z_i S (B + x) j := fun x h1 h2 j => by
      rw [y_i_wi, if_neg (by omega), z_st_ne _ _ _ _ _ _ (by omega)]
    have nt : ∀ (x : Nat), x ≠ 71 → x ≠ 70 → ∀ j, z_i (z_wi (z_st T1 (B + 71) (60 * p + 5 * G 14 p) o a b c d) (B + 70) p (zI (G 14 p + 1))) (B + x) j = z_i T1 (B + x) j := fun x h1 h2 j => by
      rw [y_i_wi, if_neg (by omega), z_st_ne _ _ _ _ _ _ (by omega)]
    refine ⟨fun j hj => ?_, fun q hq => ?_, fun q i hq hi2 => ?_, g4, fun g hg => ?_, fun g hg => ?_, ?_, fun i hi2 => ?_, ?_, ?_, ?_⟩
    · rw [s9, y_i_wi, if_neg (by omega), z_st_at, z_st_at, g1 j hj]
    · by_cases e : q = p
      · subst e
        rw [y_up, y_i_wi, if_pos ⟨rfl, rfl⟩, y_i_wi, if_pos ⟨rfl, rfl⟩]
        exact ⟨rfl, rfl, by omega⟩
      · rw [gu q e, y_i_wi, if_neg (fun z => e z.2), y_i_wi, if_neg (fun z => e z.2), z_st_ne _ _ _ _ _ _ (by omega), z_st_ne _ _ _ _ _ _ (by omega)]
        exact g2 q hq
    · have old : stOk (z_i S (B + 9)) (60 * q + 5 * i) → (60 * q + 5 * i + 4 < 60 * p + 5 * G 14 p ∨ 60 * p + 5 * G 14 p + 4 < 60 * q + 5 * i) → stOk (z_i (z_wi (z_st S (B + 9) (60 * p + 5 * G 14 p) o a b c d) (B + 10) p (zI (G 14 p + 1))) (B + 9)) (60 * q + 5 * i) := by
        intro ho hd
        refine stOk_congr ho ?_ ?_ ?_ ?_ ?_ <;> rw [s9, z_st_at, if_neg (by omega), if_neg (by omega), if_neg (by omega), if_neg (by omega), if_neg (by omega)]
      by_cases e : q = p
      · subst e
        rw [y_up] at hi2
        by_cases e2 : i = G 14 q
        · subst e2
          obtain ⟨x, x1, x2, x3, x4, x5, x6, x7⟩ := hv
          unfold stOk
          rw [s9, s9, s9, s9, s9, z_st_at, z_st_at, z_st_at, z_st_at, z_st_at]
          rw [if_neg (by omega), if_neg (by omega), if_neg (by omega), if_neg (by omega), if_pos rfl, if_neg (by omega), if_neg (by omega), if_neg (by omega), if_pos rfl, if_neg (by omega), if_neg (by omega), if_pos rfl, if_neg (by omega), if_pos rfl, if_pos rfl]
          exact ⟨x, x1, x2, x3, x4, x5, x6, x7⟩
        · exact old (g3 q i hq (by omega)) (by omega)
      · rw [gu q e] at hi2
        have := (g2 q hq).2.2
        exact old (g3 q i hq hi2) (by omega)
    · rw [ns 11 (by decide) (by decide), nt 72 (by decide) (by decide)]; exact g5 g hg
    · rw [ns 12 (by decide) (by decide), nt 73 (by decide) (by decide)]; exact g6 g hg
    · rw [show z_u G 14 p (G 14 p + 1) 0 7 = G 0 7 from y_un (by omega), ns 8 (by decide) (by decide), nt 48 (by decide) (by decide)]; exact g7
    · rw [show z_u G 14 p (G 14 p + 1) 0 7 = G 0 7 from y_un (by omega)] at hi2
      rw [ns 13 (by decide) (by decide), nt 74 (by decide) (by decide)]; exact g8 i hi2
    · rw [ns 8 (by decide) (by decide), nt 48 (by decide) (by decide)]; exact g9.1
    · rw [ns 8 (by decide) (by decide), nt 48 (by decide) (by decide)]; exact g9.2.1
    · rw [ns 8 (by decide) (by decide), nt 48 (by decide) (by decide)]; exact g9.2.2
  · have hr := h.2.2.2
    unfold Rr at hr ⊢
    unfold z_st
    simp (disch := first | assumption | omega) only [y_i_wi, y_l_wi, y_d_wi, y_r_wi, y_k_wi, y_n_wi, y_x_wi, y_w_wi, y_s_wi, y_i_wl, y_l_wl, y_d_wl, y_r_wl, y_k_wl, y_n_wl, y_x_wl, y_w_wl, y_s_wl, y_i_wd, y_l_wd, y_d_wd, y_r_wd, y_k_wd, y_n_wd, y_x_wd, y_w_wd, y_s_wd, y_i_wr, y_l_wr, y_d_wr, y_r_wr, y_k_wr, y_n_wr, y_x_wr, y_w_wr, y_s_wr, y_i_new, y_l_new, y_d_new, y_r_new, y_k_new, y_n_new, y_x_new, y_w_new, y_s_new, y_i_ci, y_l_ci, y_d_ci, y_r_ci, y_k_ci, y_n_ci, y_x_ci, y_w_ci, y_s_ci, y_i_cl, y_l_cl, y_d_cl, y_r_cl, y_k_cl, y_n_cl, y_x_cl, y_w_cl, y_s_cl, y_i_qi, y_l_qi, y_d_qi, y_r_qi, y_k_qi, y_n_qi, y_x_qi, y_w_qi, y_s_qi, y_i_ql, y_l_ql, y_d_ql, y_r_ql, y_k_ql, y_n_ql, y_x_ql, y_w_ql, y_s_ql, y_i_qd, y_l_qd, y_d_qd, y_r_qd, y_k_qd, y_n_qd, y_x_qd, y_w_qd, y_s_qd, ↓reduceIte, ↓y_tb, ↓y_tv, ↓y_tr, ↓y_tn, ↓y_ck, ↓y_ib, ↓y_nz2, ↓y_nzl2, ↓y_len2, ↓y_nn2, ↓y_nf2, ↓y_l2d2, y_gb, y_gn, y_gi, y_gv, y_gv', y_grN, y_grS, y_glN, y_glS, Nat.reduceAdd, Nat.reduceMul, Nat.reduceSub, Nat.reduceDiv, Nat.reduceMod, Nat.reduceLT, Nat.reduceLeDiff, y_rb0, y_rb1, y_b0, y_b0', y_10, zL_eq, zL_cl, Nat.add_sub_cancel, implies_true, Int32.reduceLT, Int32.reduceLE, if_true, if_false, true_and, and_true, false_and, and_false, true_or, or_true, false_or, or_false, not_true_eq_false, not_false_eq_true, ne_eq, and_self, or_self, reduceCtorEq, Nat.add_left_cancel_iff, Nat.left_eq_add, Nat.add_eq_left, Nat.reduceEqDiff, zI_of, zI_cl, zI_add, zI_mul, zI_lt, zI_le, zI_eq, zI_mulL, zI_mulR, zI_addL, zI_addR, zI_subR, zI_sub, zI_divR, zI_ltR, zI_ltL, zI_leR, zI_leL, zI_eqR, zI_eqL, zI_neN, zI_neN', zI_ltN, zI_leN, zN_lt, zF1, zF2, zF3, zF4, zF5, zF6, zF7, zF8, zU_lt, zG1, zG2, zG3, zG4, zG5, zG6, zU1, zU2, zU3, zU4, zN_0, zN_le0, zI_lt0, zI_0le, zI_pred, zI_pred', zI_predS, zI_predT, zJ_le, zJ_lt, zJ_leL, zJ_leR, y_cl0, y_0cl, y_cle, y_lec, y_ceq, n_lt, n_le, n_nlt, n_nle,  hr]
end Step
