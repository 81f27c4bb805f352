/-! run: which gauge hangs: the model, and both -/
section HangM
variable {B : Nat} {G : z_Gh} {S T S1 S' T' : z_St}
theorem p10_iff {p q : Prop} {v : Int32} (h : p10 p v) (e : p ↔ q) : p10 q v := h.imp (fun z => ⟨z.1, e.mp z.2⟩) (fun z => ⟨z.1, fun y => z.2 (e.mpr y)⟩)
theorem l_75 {ff : Nat → Int32} {bb : Nat → Int64} (hb : b01 ff) {g o : Nat} (hg : g < 6) (ho : o < 6) (hm : mSh B T) (h1 : z_i T (B + 89) = ff) (h2 : z_l T (B + 90) = bb) (v2 : Int32) (k65 : Nat → Int32 → Int32 → Int32 → Int32 → z_St → Option (Int32 × z_St)) (d : Nat) : ∀ N j (p : Prop) v3, 4 - j = d → j ≤ 4 → d < N → p10 p v3 → ∃ v, l_X12_hangsAt_75 k65 N (B + 48) (zI g) v2 v3 (zI o) (zI j) T = k65 (B + 48) (zI g) v2 v (zI (o + 1)) T ∧ p10 (p ∨ (o ≠ g ∧ ∃ y x, j ≤ y ∧ y < 4 ∧ x < y ∧ cnd ff bb o y x)) v := by
  induction d with
  | zero =>
    intro N j p v3 hd hj hN H
    obtain ⟨N, rfl⟩ : ∃ n, N = n + 1 := ⟨N - 1, by omega⟩
    have : j = 4 := by omega
    subst this
    refine ⟨v3, ?_, p10_iff H ⟨fun z => Or.inl z, fun z => z.elim id (fun ⟨_, y, x, y1, y2, _⟩ => by omega)⟩⟩
    rw [l_X12_hangsAt_75]
    simp (disch := first | assumption | omega) only [y_i_wi, y_l_wi, y_d_wi, y_r_wi, y_k_wi, y_n_wi, y_x_wi, y_w_wi, y_s_wi, y_i_wl, y_l_wl, y_d_wl, y_r_wl, y_k_wl, y_n_wl, y_x_wl, y_w_wl, y_s_wl, y_i_wd, y_l_wd, y_d_wd, y_r_wd, y_k_wd, y_n_wd, y_x_wd, y_w_wd, y_s_wd, y_i_wr, y_l_wr, y_d_wr, y_r_wr, y_k_wr, y_n_wr, y_x_wr, y_w_wr, y_s_wr, y_i_new, y_l_new, y_d_new, y_r_new, y_k_new, y_n_new, y_x_new, y_w_new, y_s_new, y_i_ci, y_l_ci, y_d_ci, y_r_ci, y_k_ci, y_n_ci, y_x_ci, y_w_ci, y_s_ci, y_i_cl, y_l_cl, y_d_cl, y_r_cl, y_k_cl, y_n_cl, y_x_cl, y_w_cl, y_s_cl, y_i_qi, y_l_qi, y_d_qi, y_r_qi, y_k_qi, y_n_qi, y_x_qi, y_w_qi, y_s_qi, y_i_ql, y_l_ql, y_d_ql, y_r_ql, y_k_ql, y_n_ql, y_x_ql, y_w_ql, y_s_ql, y_i_qd, y_l_qd, y_d_qd, y_r_qd, y_k_qd, y_n_qd, y_x_qd, y_w_qd, y_s_qd, ↓reduceIte, ↓y_tb, ↓y_tv, ↓y_tr, ↓y_tn, ↓y_ck, ↓y_ib, ↓y_nz2, ↓y_nzl2, ↓y_len2, ↓y_nn2, ↓y_nf2, ↓y_l2d2, y_gb, y_gn, y_gi, y_gv, y_gv', y_grN, y_grS, y_glN, y_glS, Nat.reduceAdd, Nat.reduceMul, Nat.reduceSub, Nat.reduceDiv, Nat.reduceMod, Nat.reduceLT, Nat.reduceLeDiff, y_rb0, y_rb1, y_b0, y_b0', y_10, zL_eq, zL_cl, Nat.add_sub_cancel, implies_true, Int32.reduceLT, Int32.reduceLE, if_true, if_false, true_and, and_true, false_and, and_false, true_or, or_true, false_or, or_false, not_true_eq_false, not_false_eq_true, ne_eq, and_self, or_self, reduceCtorEq, Nat.add_left_cancel_iff, Nat.left_eq_add, Nat.add_eq_left, Nat.reduceEqDiff, zI_of, zI_cl, zI_add, zI_mul, zI_lt, zI_le, zI_eq, zI_mulL, zI_mulR, zI_addL, zI_addR, zI_subR, zI_sub, zI_divR, zI_ltR, zI_ltL, zI_leR, zI_leL, zI_eqR, zI_eqL, zI_neN, zI_neN', zI_ltN, zI_leN, zN_lt, zF1, zF2, zF3, zF4, zF5, zF6, zF7, zF8, zU_lt, zG1, zG2, zG3, zG4, zG5, zG6, zU1, zU2, zU3, zU4, zN_0, zN_le0, zI_lt0, zI_0le, zI_pred, zI_pred', zI_predS, zI_predT, zJ_le, zJ_lt, zJ_leL, zJ_leR, y_cl0, y_0cl, y_cle, y_lec, y_ceq, n_lt, n_le, n_nlt, n_nle,  y_u]
  | succ d ih =>
    intro N j p v3 hd hj hN H
    obtain ⟨N, rfl⟩ : ∃ n, N = n + 1 := ⟨N - 1, by omega⟩
    have nj : ¬ 4 ≤ j := by omega
    obtain ⟨w, w1, w2⟩ := l_84 hb hg ho (show j < 4 by omega) hm h1 h2 v2 k65 (l_X12_hangsAt_75 k65 N) j z_N 0 p v3 (by omega) (by omega) (by rw [z_N_eq]; omega) H
    obtain ⟨v, r1, r2⟩ := ih N (j + 1) _ w (by omega) (by omega) (by omega) w2
    have w1' : l_X12_hangsAt_84 k65 (l_X12_hangsAt_75 k65 N) z_N (B + 48) (zI g) v2 v3 (zI o) (zI j) 0 T = _ := w1
    refine ⟨v, Eq.trans ?_ (w1'.trans r1), p10_iff r2 ⟨?_, ?_⟩⟩
    · rw [l_X12_hangsAt_75]
      simp (disch := first | assumption | omega) only [y_i_wi, y_l_wi, y_d_wi, y_r_wi, y_k_wi, y_n_wi, y_x_wi, y_w_wi, y_s_wi, y_i_wl, y_l_wl, y_d_wl, y_r_wl, y_k_wl, y_n_wl, y_x_wl, y_w_wl, y_s_wl, y_i_wd, y_l_wd, y_d_wd, y_r_wd, y_k_wd, y_n_wd, y_x_wd, y_w_wd, y_s_wd, y_i_wr, y_l_wr, y_d_wr, y_r_wr, y_k_wr, y_n_wr, y_x_wr, y_w_wr, y_s_wr, y_i_new, y_l_new, y_d_new, y_r_new, y_k_new, y_n_new, y_x_new, y_w_new, y_s_new, y_i_ci, y_l_ci, y_d_ci, y_r_ci, y_k_ci, y_n_ci, y_x_ci, y_w_ci, y_s_ci, y_i_cl, y_l_cl, y_d_cl, y_r_cl, y_k_cl, y_n_cl, y_x_cl, y_w_cl, y_s_cl, y_i_qi, y_l_qi, y_d_qi, y_r_qi, y_k_qi, y_n_qi, y_x_qi, y_w_qi, y_s_qi, y_i_ql, y_l_ql, y_d_ql, y_r_ql, y_k_ql, y_n_ql, y_x_ql, y_w_ql, y_s_ql, y_i_qd, y_l_qd, y_d_qd, y_r_qd, y_k_qd, y_n_qd, y_x_qd, y_w_qd, y_s_qd, ↓reduceIte, ↓y_tb, ↓y_tv, ↓y_tr, ↓y_tn, ↓y_ck, ↓y_ib, ↓y_nz2, ↓y_nzl2, ↓y_len2, ↓y_nn2, ↓y_nf2, ↓y_l2d2, y_gb, y_gn, y_gi, y_gv, y_gv', y_grN, y_grS, y_glN, y_glS, Nat.reduceAdd, Nat.reduceMul, Nat.reduceSub, Nat.reduceDiv, Nat.reduceMod, Nat.reduceLT, Nat.reduceLeDiff, y_rb0, y_rb1, y_b0, y_b0', y_10, zL_eq, zL_cl, Nat.add_sub_cancel, implies_true, Int32.reduceLT, Int32.reduceLE, if_true, if_false, true_and, and_true, false_and, and_false, true_or, or_true, false_or, or_false, not_true_eq_false, not_false_eq_true, ne_eq, and_self, or_self, reduceCtorEq, Nat.add_left_cancel_iff, Nat.left_eq_add, Nat.add_eq_left, Nat.reduceEqDiff, zI_of, zI_cl, zI_add, zI_mul, zI_lt, zI_le, zI_eq, zI_mulL, zI_mulR, zI_addL, zI_addR, zI_subR, zI_sub, zI_divR, zI_ltR, zI_ltL, zI_leR, zI_leL, zI_eqR, zI_eqL, zI_neN, zI_neN', zI_ltN, zI_leN, zN_lt, zF1, zF2, zF3, zF4, zF5, zF6, zF7, zF8, zU_lt, zG1, zG2, zG3, zG4, zG5, zG6, zU1, zU2, zU3, zU4, zN_0, zN_le0, zI_lt0, zI_0le, zI_pred, zI_pred', zI_predS, zI_predT, zJ_le, zJ_lt, zJ_leL, zJ_leR, y_cl0, y_0cl, y_cle, y_lec, y_ceq, n_lt, n_le, n_nlt, n_nle,  nj]
    · rintro ((z | ⟨z1, x, x1, x2, x3⟩) | ⟨z1, y, x, y1, y2, y3, y4⟩)
      · exact Or.inl z
      · exact Or.inr ⟨z1, j, x, Nat.le_refl _, by omega, x2, x3⟩
      · exact Or.inr ⟨z1, y, x, by omega, y2, y3, y4⟩
    · rintro (z | ⟨z1, y, x, y1, y2, y3, y4⟩)
      · exact Or.inl (Or.inl z)
      · by_cases e : y = j
        · subst e; exact Or.inl (Or.inr ⟨z1, x, Nat.zero_le _, y3, y4⟩)
        · exact Or.inr ⟨z1, y, x, by omega, y2, y3, y4⟩
theorem l_65 {ff : Nat → Int32} {bb : Nat → Int64} (hb : b01 ff) {g : Nat} (hg : g < 6) (hm : mSh B T) (h1 : z_i T (B + 89) = ff) (h2 : z_l T (B + 90) = bb) {q : Prop} {v2 : Int32} (hq : p10 q v2) (d : Nat) : ∀ N o (p : Prop) v3, 6 - o = d → o ≤ 6 → d < N → p10 p v3 → ∃ v, l_X12_hangsAt_65 N (B + 48) (zI g) v2 v3 (zI o) T = some (v, T) ∧ p10 (q ∧ (p ∨ ∃ x, o ≤ x ∧ x < 6 ∧ x ≠ g ∧ stirM ff bb x)) v := by
  induction d with
  | zero =>
    intro N o p v3 hd ho hN H
    obtain ⟨N, rfl⟩ : ∃ n, N = n + 1 := ⟨N - 1, by omega⟩
    have : o = 6 := by omega
    subst this
    rcases hq with ⟨rfl, q1⟩ | ⟨rfl, q1⟩
    · rcases H with ⟨rfl, p1⟩ | ⟨rfl, p1⟩
      · refine ⟨1, ?_, Or.inl ⟨rfl, q1, Or.inl p1⟩⟩
        rw [l_X12_hangsAt_65]
        simp (disch := first | assumption | omega) only [y_i_wi, y_l_wi, y_d_wi, y_r_wi, y_k_wi, y_n_wi, y_x_wi, y_w_wi, y_s_wi, y_i_wl, y_l_wl, y_d_wl, y_r_wl, y_k_wl, y_n_wl, y_x_wl, y_w_wl, y_s_wl, y_i_wd, y_l_wd, y_d_wd, y_r_wd, y_k_wd, y_n_wd, y_x_wd, y_w_wd, y_s_wd, y_i_wr, y_l_wr, y_d_wr, y_r_wr, y_k_wr, y_n_wr, y_x_wr, y_w_wr, y_s_wr, y_i_new, y_l_new, y_d_new, y_r_new, y_k_new, y_n_new, y_x_new, y_w_new, y_s_new, y_i_ci, y_l_ci, y_d_ci, y_r_ci, y_k_ci, y_n_ci, y_x_ci, y_w_ci, y_s_ci, y_i_cl, y_l_cl, y_d_cl, y_r_cl, y_k_cl, y_n_cl, y_x_cl, y_w_cl, y_s_cl, y_i_qi, y_l_qi, y_d_qi, y_r_qi, y_k_qi, y_n_qi, y_x_qi, y_w_qi, y_s_qi, y_i_ql, y_l_ql, y_d_ql, y_r_ql, y_k_ql, y_n_ql, y_x_ql, y_w_ql, y_s_ql, y_i_qd, y_l_qd, y_d_qd, y_r_qd, y_k_qd, y_n_qd, y_x_qd, y_w_qd, y_s_qd, ↓reduceIte, ↓y_tb, ↓y_tv, ↓y_tr, ↓y_tn, ↓y_ck, ↓y_ib, ↓y_nz2, ↓y_nzl2, ↓y_len2, ↓y_nn2, ↓y_nf2, ↓y_l2d2, y_gb, y_gn, y_gi, y_gv, y_gv', y_grN, y_grS, y_glN, y_glS, Nat.reduceAdd, Nat.reduceMul, Nat.reduceSub, Nat.reduceDiv, Nat.reduceMod, Nat.reduceLT, Nat.reduceLeDiff, y_rb0, y_rb1, y_b0, y_b0', y_10, zL_eq, zL_cl, Nat.add_sub_cancel, implies_true, Int32.reduceLT, Int32.reduceLE, if_true, if_false, true_and, and_true, false_and, and_false, true_or, or_true, false_or, or_false, not_true_eq_false, not_false_eq_true, ne_eq, and_self, or_self, reduceCtorEq, Nat.add_left_cancel_iff, Nat.left_eq_add, Nat.add_eq_left, Nat.reduceEqDiff, zI_of, zI_cl, zI_add, zI_mul, zI_lt, zI_le, zI_eq, zI_mulL, zI_mulR, zI_addL, zI_addR, zI_subR, zI_sub, zI_divR, zI_ltR, zI_ltL, zI_leR, zI_leL, zI_eqR, zI_eqL, zI_neN, zI_neN', zI_ltN, zI_leN, zN_lt, zF1, zF2, zF3, zF4, zF5, zF6, zF7, zF8, zU_lt, zG1, zG2, zG3, zG4, zG5, zG6, zU1, zU2, zU3, zU4, zN_0, zN_le0, zI_lt0, zI_0le, zI_pred, zI_pred', zI_predS, zI_predT, zJ_le, zJ_lt, zJ_leL, zJ_leR, y_cl0, y_0cl, y_cle, y_lec, y_ceq, n_lt, n_le, n_nlt, n_nle,  c10]
      · refine ⟨0, ?_, Or.inr ⟨rfl, fun z => z.2.elim p1 (fun ⟨x, x1, x2, _⟩ => by omega)⟩⟩
        rw [l_X12_hangsAt_65]
        simp (disch := first | assumption | omega) only [y_i_wi, y_l_wi, y_d_wi, y_r_wi, y_k_wi, y_n_wi, y_x_wi, y_w_wi, y_s_wi, y_i_wl, y_l_wl, y_d_wl, y_r_wl, y_k_wl, y_n_wl, y_x_wl, y_w_wl, y_s_wl, y_i_wd, y_l_wd, y_d_wd, y_r_wd, y_k_wd, y_n_wd, y_x_wd, y_w_wd, y_s_wd, y_i_wr, y_l_wr, y_d_wr, y_r_wr, y_k_wr, y_n_wr, y_x_wr, y_w_wr, y_s_wr, y_i_new, y_l_new, y_d_new, y_r_new, y_k_new, y_n_new, y_x_new, y_w_new, y_s_new, y_i_ci, y_l_ci, y_d_ci, y_r_ci, y_k_ci, y_n_ci, y_x_ci, y_w_ci, y_s_ci, y_i_cl, y_l_cl, y_d_cl, y_r_cl, y_k_cl, y_n_cl, y_x_cl, y_w_cl, y_s_cl, y_i_qi, y_l_qi, y_d_qi, y_r_qi, y_k_qi, y_n_qi, y_x_qi, y_w_qi, y_s_qi, y_i_ql, y_l_ql, y_d_ql, y_r_ql, y_k_ql, y_n_ql, y_x_ql, y_w_ql, y_s_ql, y_i_qd, y_l_qd, y_d_qd, y_r_qd, y_k_qd, y_n_qd, y_x_qd, y_w_qd, y_s_qd, ↓reduceIte, ↓y_tb, ↓y_tv, ↓y_tr, ↓y_tn, ↓y_ck, ↓y_ib, ↓y_nz2, ↓y_nzl2, ↓y_len2, ↓y_nn2, ↓y_nf2, ↓y_l2d2, y_gb, y_gn, y_gi, y_gv, y_gv', y_grN, y_grS, y_glN, y_glS, Nat.reduceAdd, Nat.reduceMul, Nat.reduceSub, Nat.reduceDiv, Nat.reduceMod, Nat.reduceLT, Nat.reduceLeDiff, y_rb0, y_rb1, y_b0, y_b0', y_10, zL_eq, zL_cl, Nat.add_sub_cancel, implies_true, Int32.reduceLT, Int32.reduceLE, if_true, if_false, true_and, and_true, false_and, and_false, true_or, or_true, false_or, or_false, not_true_eq_false, not_false_eq_true, ne_eq, and_self, or_self, reduceCtorEq, Nat.add_left_cancel_iff, Nat.left_eq_add, Nat.add_eq_left, Nat.reduceEqDiff, zI_of, zI_cl, zI_add, zI_mul, zI_lt, zI_le, zI_eq, zI_mulL, zI_mulR, zI_addL, zI_addR, zI_subR, zI_sub, zI_divR, zI_ltR, zI_ltL, zI_leR, zI_leL, zI_eqR, zI_eqL, zI_neN, zI_neN', zI_ltN, zI_leN, zN_lt, zF1, zF2, zF3, zF4, zF5, zF6, zF7, zF8, zU_lt, zG1, zG2, zG3, zG4, zG5, zG6, zU1, zU2, zU3, zU4, zN_0, zN_le0, zI_lt0, zI_0le, zI_pred, zI_pred', zI_predS, zI_predT, zJ_le, zJ_lt, zJ_leL, zJ_leR, y_cl0, y_0cl, y_cle, y_lec, y_ceq, n_lt, n_le, n_nlt, n_nle,  c10]
    · refine ⟨0, ?_, Or.inr ⟨rfl, fun z => q1 z.1⟩⟩
      rw [l_X12_hangsAt_65]
      simp (disch := first | assumption | omega) only [y_i_wi, y_l_wi, y_d_wi, y_r_wi, y_k_wi, y_n_wi, y_x_wi, y_w_wi, y_s_wi, y_i_wl, y_l_wl, y_d_wl, y_r_wl, y_k_wl, y_n_wl, y_x_wl, y_w_wl, y_s_wl, y_i_wd, y_l_wd, y_d_wd, y_r_wd, y_k_wd, y_n_wd, y_x_wd, y_w_wd, y_s_wd, y_i_wr, y_l_wr, y_d_wr, y_r_wr, y_k_wr, y_n_wr, y_x_wr, y_w_wr, y_s_wr, y_i_new, y_l_new, y_d_new, y_r_new, y_k_new, y_n_new, y_x_new, y_w_new, y_s_new, y_i_ci, y_l_ci, y_d_ci, y_r_ci, y_k_ci, y_n_ci, y_x_ci, y_w_ci, y_s_ci, y_i_cl, y_l_cl, y_d_cl, y_r_cl, y_k_cl, y_n_cl, y_x_cl, y_w_cl, y_s_cl, y_i_qi, y_l_qi, y_d_qi, y_r_qi, y_k_qi, y_n_qi, y_x_qi, y_w_qi, y_s_qi, y_i_ql, y_l_ql, y_d_ql, y_r_ql, y_k_ql, y_n_ql, y_x_ql, y_w_ql, y_s_ql, y_i_qd, y_l_qd, y_d_qd, y_r_qd, y_k_qd, y_n_qd, y_x_qd, y_w_qd, y_s_qd, ↓reduceIte, ↓y_tb, ↓y_tv, ↓y_tr, ↓y_tn, ↓y_ck, ↓y_ib, ↓y_nz2, ↓y_nzl2, ↓y_len2, ↓y_nn2, ↓y_nf2, ↓y_l2d2, y_gb, y_gn, y_gi, y_gv, y_gv', y_grN, y_grS, y_glN, y_glS, Nat.reduceAdd, Nat.reduceMul, Nat.reduceSub, Nat.reduceDiv, Nat.reduceMod, Nat.reduceLT, Nat.reduceLeDiff, y_rb0, y_rb1, y_b0, y_b0', y_10, zL_eq, zL_cl, Nat.add_sub_cancel, implies_true, Int32.reduceLT, Int32.reduceLE, if_true, if_false, true_and, and_true, false_and, and_false, true_or, or_true, false_or, or_false, not_true_eq_false, not_false_eq_true, ne_eq, and_self, or_self, reduceCtorEq, Nat.add_left_cancel_iff, Nat.left_eq_add, Nat.add_eq_left, Nat.reduceEqDiff, zI_of, zI_cl, zI_add, zI_mul, zI_lt, zI_le, zI_eq, zI_mulL, zI_mulR, zI_addL, zI_addR, zI_subR, zI_sub, zI_divR, zI_ltR, zI_ltL, zI_leR, zI_leL, zI_eqR, zI_eqL, zI_neN, zI_neN', zI_ltN, zI_leN, zN_lt, zF1, zF2, zF3, zF4, zF5, zF6, zF7, zF8, zU_lt, zG1, zG2, zG3, zG4, zG5, zG6, zU1, zU2, zU3, zU4, zN_0, zN_le0, zI_lt0, zI_0le, zI_pred, zI_pred', zI_predS, zI_predT, zJ_le, zJ_lt, zJ_leL, zJ_leR, y_cl0, y_0cl, y_cle, y_lec, y_ceq, n_lt, n_le, n_nlt, n_nle,  c10]
  | succ d ih =>
    intro N o p v3 hd ho hN H
    obtain ⟨N, rfl⟩ : ∃ n, N = n + 1 := ⟨N - 1, by omega⟩
    have no : ¬ 6 ≤ o := by omega
    obtain ⟨w, w1, w2⟩ := l_75 hb hg (show o < 6 by omega) hm h1 h2 v2 (l_X12_hangsAt_65 N) 4 z_N 0 p v3 (by omega) (by omega) (by rw [z_N_eq]; omega) H
    obtain ⟨v, r1, r2⟩ := ih N (o + 1) _ w (by omega) (by omega) (by omega) w2
    have w1' : l_X12_hangsAt_75 (l_X12_hangsAt_65 N) z_N (B + 48) (zI g) v2 v3 (zI o) 0 T = _ := w1
    refine ⟨v, Eq.trans ?_ (w1'.trans r1), p10_iff r2 ⟨?_, ?_⟩⟩
    · rw [l_X12_hangsAt_65]
      simp (disch := first | assumption | omega) only [y_i_wi, y_l_wi, y_d_wi, y_r_wi, y_k_wi, y_n_wi, y_x_wi, y_w_wi, y_s_wi, y_i_wl, y_l_wl, y_d_wl, y_r_wl, y_k_wl, y_n_wl, y_x_wl, y_w_wl, y_s_wl, y_i_wd, y_l_wd, y_d_wd, y_r_wd, y_k_wd, y_n_wd, y_x_wd, y_w_wd, y_s_wd, y_i_wr, y_l_wr, y_d_wr, y_r_wr, y_k_wr, y_n_wr, y_x_wr, y_w_wr, y_s_wr, y_i_new, y_l_new, y_d_new, y_r_new, y_k_new, y_n_new, y_x_new, y_w_new, y_s_new, y_i_ci, y_l_ci, y_d_ci, y_r_ci, y_k_ci, y_n_ci, y_x_ci, y_w_ci, y_s_ci, y_i_cl, y_l_cl, y_d_cl, y_r_cl, y_k_cl, y_n_cl, y_x_cl, y_w_cl, y_s_cl, y_i_qi, y_l_qi, y_d_qi, y_r_qi, y_k_qi, y_n_qi, y_x_qi, y_w_qi, y_s_qi, y_i_ql, y_l_ql, y_d_ql, y_r_ql, y_k_ql, y_n_ql, y_x_ql, y_w_ql, y_s_ql, y_i_qd, y_l_qd, y_d_qd, y_r_qd, y_k_qd, y_n_qd, y_x_qd, y_w_qd, y_s_qd, ↓reduceIte, ↓y_tb, ↓y_tv, ↓y_tr, ↓y_tn, ↓y_ck, ↓y_ib, ↓y_nz2, ↓y_nzl2, ↓y_len2, ↓y_nn2, ↓y_nf2, ↓y_l2d2, y_gb, y_gn, y_gi, y_gv, y_gv', y_grN, y_grS, y_glN, y_glS, Nat.reduceAdd, Nat.reduceMul, Nat.reduceSub, Nat.reduceDiv, Nat.reduceMod, Nat.reduceLT, Nat.reduceLeDiff, y_rb0, y_rb1, y_b0, y_b0', y_10, zL_eq, zL_cl, Nat.add_sub_cancel, implies_true, Int32.reduceLT, Int32.reduceLE, if_true, if_false, true_and, and_true, false_and, and_false, true_or, or_true, false_or, or_false, not_true_eq_false, not_false_eq_true, ne_eq, and_self, or_self, reduceCtorEq, Nat.add_left_cancel_iff, Nat.left_eq_add, Nat.add_eq_left, Nat.reduceEqDiff, zI_of, zI_cl, zI_add, zI_mul, zI_lt, zI_le, zI_eq, zI_mulL, zI_mulR, zI_addL, zI_addR, zI_subR, zI_sub, zI_divR, zI_ltR, zI_ltL, zI_leR, zI_leL, zI_eqR, zI_eqL, zI_neN, zI_neN', zI_ltN, zI_leN, zN_lt, zF1, zF2, zF3, zF4, zF5, zF6, zF7, zF8, zU_lt, zG1, zG2, zG3, zG4, zG5, zG6, zU1, zU2, zU3, zU4, zN_0, zN_le0, zI_lt0, zI_0le, zI_pred, zI_pred', zI_predS, zI_predT, zJ_le, zJ_lt, zJ_leL, zJ_leR, y_cl0, y_0cl, y_cle, y_lec, y_ceq, n_lt, n_le, n_nlt, n_nle,  no]
    · rintro ⟨a, (z | ⟨z1, y, x, y1, y2, y3, y4⟩) | ⟨x, x1, x2, x3, x4⟩⟩
      · exact ⟨a, Or.inl z⟩
      · exact ⟨a, Or.inr ⟨o, Nat.le_refl _, by omega, z1, y, x, y2, y3, y4⟩⟩
      · exact ⟨a, Or.inr ⟨x, by omega, x2, x3, x4⟩⟩
    · rintro ⟨a, z | ⟨x, x1, x2, x3, y, w, x4, x5, x6⟩⟩
      · exact ⟨a, Or.inl (Or.inl z)⟩
      · by_cases e : x = o
        · subst e; exact ⟨a, Or.inl (Or.inr ⟨x3, y, w, Nat.zero_le _, x4, x5, x6⟩)⟩
        · exact ⟨a, Or.inr ⟨x, by omega, x2, x3, y, w, x4, x5, x6⟩⟩
theorem l_h4 {ff : Nat → Int32} {bb : Nat → Int64} (hb : b01 ff) {g : Nat} (hg : g < 6) (hm : mSh B T) (h1 : z_i T (B + 89) = ff) (h2 : z_l T (B + 90) = bb) (d : Nat) : ∀ N i v2, 4 - i = d → i ≤ 4 → d < N → p10 (∀ k, k < i → ff (4 * g + k) = 1 ∧ bb (4 * g + k) = bb (4 * g)) v2 → ∃ v, l_X12_hangsAt_4 N (B + 48) (zI g) v2 (zI i) T = some (v, T) ∧ p10 (stlM ff bb g ∧ ∃ x, x < 6 ∧ x ≠ g ∧ stirM ff bb x) v := by
  induction d with
  | zero =>
    intro N i v2 hd hi hN H
    obtain ⟨N, rfl⟩ : ∃ n, N = n + 1 := ⟨N - 1, by omega⟩
    have : i = 4 := by omega
    subst this
    obtain ⟨v, r1, r2⟩ := l_65 hb hg hm h1 h2 H 6 z_N 0 False 0 rfl (by omega) (by rw [z_N_eq]; omega) (Or.inr ⟨rfl, fun z => z⟩)
    have r1' : l_X12_hangsAt_65 z_N (B + 48) (zI g) v2 0 0 T = some (v, T) := r1
    refine ⟨v, ?_, p10_iff r2 ⟨?_, ?_⟩⟩
    · rw [l_X12_hangsAt_4]
      simp (disch := first | assumption | omega) only [y_i_wi, y_l_wi, y_d_wi, y_r_wi, y_k_wi, y_n_wi, y_x_wi, y_w_wi, y_s_wi, y_i_wl, y_l_wl, y_d_wl, y_r_wl, y_k_wl, y_n_wl, y_x_wl, y_w_wl, y_s_wl, y_i_wd, y_l_wd, y_d_wd, y_r_wd, y_k_wd, y_n_wd, y_x_wd, y_w_wd, y_s_wd, y_i_wr, y_l_wr, y_d_wr, y_r_wr, y_k_wr, y_n_wr, y_x_wr, y_w_wr, y_s_wr, y_i_new, y_l_new, y_d_new, y_r_new, y_k_new, y_n_new, y_x_new, y_w_new, y_s_new, y_i_ci, y_l_ci, y_d_ci, y_r_ci, y_k_ci, y_n_ci, y_x_ci, y_w_ci, y_s_ci, y_i_cl, y_l_cl, y_d_cl, y_r_cl, y_k_cl, y_n_cl, y_x_cl, y_w_cl, y_s_cl, y_i_qi, y_l_qi, y_d_qi, y_r_qi, y_k_qi, y_n_qi, y_x_qi, y_w_qi, y_s_qi, y_i_ql, y_l_ql, y_d_ql, y_r_ql, y_k_ql, y_n_ql, y_x_ql, y_w_ql, y_s_ql, y_i_qd, y_l_qd, y_d_qd, y_r_qd, y_k_qd, y_n_qd, y_x_qd, y_w_qd, y_s_qd, ↓reduceIte, ↓y_tb, ↓y_tv, ↓y_tr, ↓y_tn, ↓y_ck, ↓y_ib, ↓y_nz2, ↓y_nzl2, ↓y_len2, ↓y_nn2, ↓y_nf2, ↓y_l2d2, y_gb, y_gn, y_gi, y_gv, y_gv', y_grN, y_grS, y_glN, y_glS, Nat.reduceAdd, Nat.reduceMul, Nat.reduceSub, Nat.reduceDiv, Nat.reduceMod, Nat.reduceLT, Nat.reduceLeDiff, y_rb0, y_rb1, y_b0, y_b0', y_10, zL_eq, zL_cl, Nat.add_sub_cancel, implies_true, Int32.reduceLT, Int32.reduceLE, if_true, if_false, true_and, and_true, false_and, and_false, true_or, or_true, false_or, or_false, not_true_eq_false, not_false_eq_true, ne_eq, and_self, or_self, reduceCtorEq, Nat.add_left_cancel_iff, Nat.left_eq_add, Nat.add_eq_left, Nat.reduceEqDiff, zI_of, zI_cl, zI_add, zI_mul, zI_lt, zI_le, zI_eq, zI_mulL, zI_mulR, zI_addL, zI_addR, zI_subR, zI_sub, zI_divR, zI_ltR, zI_ltL, zI_leR, zI_leL, zI_eqR, zI_eqL, zI_neN, zI_neN', zI_ltN, zI_leN, zN_lt, zF1, zF2, zF3, zF4, zF5, zF6, zF7, zF8, zU_lt, zG1, zG2, zG3, zG4, zG5, zG6, zU1, zU2, zU3, zU4, zN_0, zN_le0, zI_lt0, zI_0le, zI_pred, zI_pred', zI_predS, zI_predT, zJ_le, zJ_lt, zJ_leL, zJ_leR, y_cl0, y_0cl, y_cle, y_lec, y_ceq, n_lt, n_le, n_nlt, n_nle,  r1']
    · rintro ⟨a, z | ⟨x, _, x2, x3⟩⟩
      · exact z.elim
      · exact ⟨a, x, x2, x3⟩
    · rintro ⟨a, x, x2, x3⟩
      exact ⟨a, Or.inr ⟨x, Nat.zero_le _, x2, x3⟩⟩
  | succ d ih =>
    intro N i v2 hd hi hN H
    obtain ⟨N, rfl⟩ : ∃ n, N = n + 1 := ⟨N - 1, by omega⟩
    have ni : ¬ 4 ≤ i := by omega
    have down : ∀ v2', v2' = 0 → (¬ ∀ k, k < i + 1 → ff (4 * g + k) = 1 ∧ bb (4 * g + k) = bb (4 * g)) → ∃ v, l_X12_hangsAt_4 N (B + 48) (zI g) v2' (zI (i + 1)) T = some (v, T) ∧ p10 (stlM ff bb g ∧ ∃ x, x < 6 ∧ x ≠ g ∧ stirM ff bb x) v := fun v2' z y => ih N (i + 1) v2' (by omega) (by omega) (by omega) (Or.inr ⟨z, y⟩)
    rcases H with ⟨rfl, H⟩ | ⟨rfl, H⟩
    · rcases hb (4 * g + i) (by omega) with f1 | f1
      · obtain ⟨v, r1, r2⟩ := down 0 rfl (fun z => absurd (f1.symm.trans (z i (by omega)).1) (by decide))
        refine ⟨v, Eq.trans ?_ r1, r2⟩
        rw [l_X12_hangsAt_4]
        simp (disch := first | assumption | omega) only [y_i_wi, y_l_wi, y_d_wi, y_r_wi, y_k_wi, y_n_wi, y_x_wi, y_w_wi, y_s_wi, y_i_wl, y_l_wl, y_d_wl, y_r_wl, y_k_wl, y_n_wl, y_x_wl, y_w_wl, y_s_wl, y_i_wd, y_l_wd, y_d_wd, y_r_wd, y_k_wd, y_n_wd, y_x_wd, y_w_wd, y_s_wd, y_i_wr, y_l_wr, y_d_wr, y_r_wr, y_k_wr, y_n_wr, y_x_wr, y_w_wr, y_s_wr, y_i_new, y_l_new, y_d_new, y_r_new, y_k_new, y_n_new, y_x_new, y_w_new, y_s_new, y_i_ci, y_l_ci, y_d_ci, y_r_ci, y_k_ci, y_n_ci, y_x_ci, y_w_ci, y_s_ci, y_i_cl, y_l_cl, y_d_cl, y_r_cl, y_k_cl, y_n_cl, y_x_cl, y_w_cl, y_s_cl, y_i_qi, y_l_qi, y_d_qi, y_r_qi, y_k_qi, y_n_qi, y_x_qi, y_w_qi, y_s_qi, y_i_ql, y_l_ql, y_d_ql, y_r_ql, y_k_ql, y_n_ql, y_x_ql, y_w_ql, y_s_ql, y_i_qd, y_l_qd, y_d_qd, y_r_qd, y_k_qd, y_n_qd, y_x_qd, y_w_qd, y_s_qd, ↓reduceIte, ↓y_tb, ↓y_tv, ↓y_tr, ↓y_tn, ↓y_ck, ↓y_ib, ↓y_nz2, ↓y_nzl2, ↓y_len2, ↓y_nn2, ↓y_nf2, ↓y_l2d2, y_gb, y_gn, y_gi, y_gv, y_gv', y_grN, y_grS, y_glN, y_glS, Nat.reduceAdd, Nat.reduceMul, Nat.reduceSub, Nat.reduceDiv, Nat.reduceMod, Nat.reduceLT, Nat.reduceLeDiff, y_rb0, y_rb1, y_b0, y_b0', y_10, zL_eq, zL_cl, Nat.add_sub_cancel, implies_true, Int32.reduceLT, Int32.reduceLE, if_true, if_false, true_and, and_true, false_and, and_false, true_or, or_true, false_or, or_false, not_true_eq_false, not_false_eq_true, ne_eq, and_self, or_self, reduceCtorEq, Nat.add_left_cancel_iff, Nat.left_eq_add, Nat.add_eq_left, Nat.reduceEqDiff, zI_of, zI_cl, zI_add, zI_mul, zI_lt, zI_le, zI_eq, zI_mulL, zI_mulR, zI_addL, zI_addR, zI_subR, zI_sub, zI_divR, zI_ltR, zI_ltL, zI_leR, zI_leL, zI_eqR, zI_eqL, zI_neN, zI_neN', zI_ltN, zI_leN, zN_lt, zF1, zF2, zF3, zF4, zF5, zF6, zF7, zF8, zU_lt, zG1, zG2, zG3, zG4, zG5, zG6, zU1, zU2, zU3, zU4, zN_0, zN_le0, zI_lt0, zI_0le, zI_pred, zI_pred', zI_predS, zI_predT, zJ_le, zJ_lt, zJ_leL, zJ_leR, y_cl0, y_0cl, y_cle, y_lec, y_ceq, n_lt, n_le, n_nlt, n_nle,  ni, c10, km_48 hm, rm_48_70 hm, km_89 hm, nm_89 hm, h1, f1]
      · by_cases c : bb (4 * g + i) = bb (4 * g)
        · obtain ⟨v, r1, r2⟩ := ih N (i + 1) 1 (by omega) (by omega) (by omega) (Or.inl ⟨rfl, fun k hk => by
            by_cases e : k = i
            · rw [e]; exact ⟨f1, c⟩
            · exact H k (by omega)⟩)
          refine ⟨v, Eq.trans ?_ r1, r2⟩
          rw [l_X12_hangsAt_4]
          simp (disch := first | assumption | omega) only [y_i_wi, y_l_wi, y_d_wi, y_r_wi, y_k_wi, y_n_wi, y_x_wi, y_w_wi, y_s_wi, y_i_wl, y_l_wl, y_d_wl, y_r_wl, y_k_wl, y_n_wl, y_x_wl, y_w_wl, y_s_wl, y_i_wd, y_l_wd, y_d_wd, y_r_wd, y_k_wd, y_n_wd, y_x_wd, y_w_wd, y_s_wd, y_i_wr, y_l_wr, y_d_wr, y_r_wr, y_k_wr, y_n_wr, y_x_wr, y_w_wr, y_s_wr, y_i_new, y_l_new, y_d_new, y_r_new, y_k_new, y_n_new, y_x_new, y_w_new, y_s_new, y_i_ci, y_l_ci, y_d_ci, y_r_ci, y_k_ci, y_n_ci, y_x_ci, y_w_ci, y_s_ci, y_i_cl, y_l_cl, y_d_cl, y_r_cl, y_k_cl, y_n_cl, y_x_cl, y_w_cl, y_s_cl, y_i_qi, y_l_qi, y_d_qi, y_r_qi, y_k_qi, y_n_qi, y_x_qi, y_w_qi, y_s_qi, y_i_ql, y_l_ql, y_d_ql, y_r_ql, y_k_ql, y_n_ql, y_x_ql, y_w_ql, y_s_ql, y_i_qd, y_l_qd, y_d_qd, y_r_qd, y_k_qd, y_n_qd, y_x_qd, y_w_qd, y_s_qd, ↓reduceIte, ↓y_tb, ↓y_tv, ↓y_tr, ↓y_tn, ↓y_ck, ↓y_ib, ↓y_nz2, ↓y_nzl2, ↓y_len2, ↓y_nn2, ↓y_nf2, ↓y_l2d2, y_gb, y_gn, y_gi, y_gv, y_gv', y_grN, y_grS, y_glN, y_glS, Nat.reduceAdd, Nat.reduceMul, Nat.reduceSub, Nat.reduceDiv, Nat.reduceMod, Nat.reduceLT, Nat.reduceLeDiff, y_rb0, y_rb1, y_b0, y_b0', y_10, zL_eq, zL_cl, Nat.add_sub_cancel, implies_true, Int32.reduceLT, Int32.reduceLE, if_true, if_false, true_and, and_true, false_and, and_false, true_or, or_true, false_or, or_false, not_true_eq_false, not_false_eq_true, ne_eq, and_self, or_self, reduceCtorEq, Nat.add_left_cancel_iff, Nat.left_eq_add, Nat.add_eq_left, Nat.reduceEqDiff, zI_of, zI_cl, zI_add, zI_mul, zI_lt, zI_le, zI_eq, zI_mulL, zI_mulR, zI_addL, zI_addR, zI_subR, zI_sub, zI_divR, zI_ltR, zI_ltL, zI_leR, zI_leL, zI_eqR, zI_eqL, zI_neN, zI_neN', zI_ltN, zI_leN, zN_lt, zF1, zF2, zF3, zF4, zF5, zF6, zF7, zF8, zU_lt, zG1, zG2, zG3, zG4, zG5, zG6, zU1, zU2, zU3, zU4, zN_0, zN_le0, zI_lt0, zI_0le, zI_pred, zI_pred', zI_predS, zI_predT, zJ_le, zJ_lt, zJ_leL, zJ_leR, y_cl0, y_0cl, y_cle, y_lec, y_ceq, n_lt, n_le, n_nlt, n_nle,  ni, c10, km_48 hm, rm_48_70 hm, km_89 hm, nm_89 hm, h1, f1, rm_48_71 hm, km_90 hm, nm_90 hm, h2, eq_true c]
        · obtain ⟨v, r1, r2⟩ := down 0 rfl (fun z => c (z i (by omega)).2)
          refine ⟨v, Eq.trans ?_ r1, r2⟩
          rw [l_X12_hangsAt_4]
          simp (disch := first | assumption | omega) only [y_i_wi, y_l_wi, y_d_wi, y_r_wi, y_k_wi, y_n_wi, y_x_wi, y_w_wi, y_s_wi, y_i_wl, y_l_wl, y_d_wl, y_r_wl, y_k_wl, y_n_wl, y_x_wl, y_w_wl, y_s_wl, y_i_wd, y_l_wd, y_d_wd, y_r_wd, y_k_wd, y_n_wd, y_x_wd, y_w_wd, y_s_wd, y_i_wr, y_l_wr, y_d_wr, y_r_wr, y_k_wr, y_n_wr, y_x_wr, y_w_wr, y_s_wr, y_i_new, y_l_new, y_d_new, y_r_new, y_k_new, y_n_new, y_x_new, y_w_new, y_s_new, y_i_ci, y_l_ci, y_d_ci, y_r_ci, y_k_ci, y_n_ci, y_x_ci, y_w_ci, y_s_ci, y_i_cl, y_l_cl, y_d_cl, y_r_cl, y_k_cl, y_n_cl, y_x_cl, y_w_cl, y_s_cl, y_i_qi, y_l_qi, y_d_qi, y_r_qi, y_k_qi, y_n_qi, y_x_qi, y_w_qi, y_s_qi, y_i_ql, y_l_ql, y_d_ql, y_r_ql, y_k_ql, y_n_ql, y_x_ql, y_w_ql, y_s_ql, y_i_qd, y_l_qd, y_d_qd, y_r_qd, y_k_qd, y_n_qd, y_x_qd, y_w_qd, y_s_qd, ↓reduceIte, ↓y_tb, ↓y_tv, ↓y_tr, ↓y_tn, ↓y_ck, ↓y_ib, ↓y_nz2, ↓y_nzl2, ↓y_len2, ↓y_nn2, ↓y_nf2, ↓y_l2d2, y_gb, y_gn, y_gi, y_gv, y_gv', y_grN, y_grS, y_glN, y_glS, Nat.reduceAdd, Nat.reduceMul, Nat.reduceSub, Nat.reduceDiv, Nat.reduceMod, Nat.reduceLT, Nat.reduceLeDiff, y_rb0, y_rb1, y_b0, y_b0', y_10, zL_eq, zL_cl, Nat.add_sub_cancel, implies_true, Int32.reduceLT, Int32.reduceLE, if_true, if_false, true_and, and_true, false_and, and_false, true_or, or_true, false_or, or_false, not_true_eq_false, not_false_eq_true, ne_eq, and_self, or_self, reduceCtorEq, Nat.add_left_cancel_iff, Nat.left_eq_add, Nat.add_eq_left, Nat.reduceEqDiff, zI_of, zI_cl, zI_add, zI_mul, zI_lt, zI_le, zI_eq, zI_mulL, zI_mulR, zI_addL, zI_addR, zI_subR, zI_sub, zI_divR, zI_ltR, zI_ltL, zI_leR, zI_leL, zI_eqR, zI_eqL, zI_neN, zI_neN', zI_ltN, zI_leN, zN_lt, zF1, zF2, zF3, zF4, zF5, zF6, zF7, zF8, zU_lt, zG1, zG2, zG3, zG4, zG5, zG6, zU1, zU2, zU3, zU4, zN_0, zN_le0, zI_lt0, zI_0le, zI_pred, zI_pred', zI_predS, zI_predT, zJ_le, zJ_lt, zJ_leL, zJ_leR, y_cl0, y_0cl, y_cle, y_lec, y_ceq, n_lt, n_le, n_nlt, n_nle,  ni, c10, km_48 hm, rm_48_70 hm, km_89 hm, nm_89 hm, h1, f1, rm_48_71 hm, km_90 hm, nm_90 hm, h2, c]
    · obtain ⟨v, r1, r2⟩ := down 0 rfl (fun z => H (fun k hk => z k (by omega)))
      refine ⟨v, Eq.trans ?_ r1, r2⟩
      rw [l_X12_hangsAt_4]
      simp (disch := first | assumption | omega) only [y_i_wi, y_l_wi, y_d_wi, y_r_wi, y_k_wi, y_n_wi, y_x_wi, y_w_wi, y_s_wi, y_i_wl, y_l_wl, y_d_wl, y_r_wl, y_k_wl, y_n_wl, y_x_wl, y_w_wl, y_s_wl, y_i_wd, y_l_wd, y_d_wd, y_r_wd, y_k_wd, y_n_wd, y_x_wd, y_w_wd, y_s_wd, y_i_wr, y_l_wr, y_d_wr, y_r_wr, y_k_wr, y_n_wr, y_x_wr, y_w_wr, y_s_wr, y_i_new, y_l_new, y_d_new, y_r_new, y_k_new, y_n_new, y_x_new, y_w_new, y_s_new, y_i_ci, y_l_ci, y_d_ci, y_r_ci, y_k_ci, y_n_ci, y_x_ci, y_w_ci, y_s_ci, y_i_cl, y_l_cl, y_d_cl, y_r_cl, y_k_cl, y_n_cl, y_x_cl, y_w_cl, y_s_cl, y_i_qi, y_l_qi, y_d_qi, y_r_qi, y_k_qi, y_n_qi, y_x_qi, y_w_qi, y_s_qi, y_i_ql, y_l_ql, y_d_ql, y_r_ql, y_k_ql, y_n_ql, y_x_ql, y_w_ql, y_s_ql, y_i_qd, y_l_qd, y_d_qd, y_r_qd, y_k_qd, y_n_qd, y_x_qd, y_w_qd, y_s_qd, ↓reduceIte, ↓y_tb, ↓y_tv, ↓y_tr, ↓y_tn, ↓y_ck, ↓y_ib, ↓y_nz2, ↓y_nzl2, ↓y_len2, ↓y_nn2, ↓y_nf2, ↓y_l2d2, y_gb, y_gn, y_gi, y_gv, y_gv', y_grN, y_grS, y_glN, y_glS, Nat.reduceAdd, Nat.reduceMul, Nat.reduceSub, Nat.reduceDiv, Nat.reduceMod, Nat.reduceLT, Nat.reduceLeDiff, y_rb0, y_rb1, y_b0, y_b0', y_10, zL_eq, zL_cl, Nat.add_sub_cancel, implies_true, Int32.reduceLT, Int32.reduceLE, if_true, if_false, true_and, and_true, false_and, and_false, true_or, or_true, false_or, or_false, not_true_eq_false, not_false_eq_true, ne_eq, and_self, or_self, reduceCtorEq, Nat.add_left_cancel_iff, Nat.left_eq_add, Nat.add_eq_left, Nat.reduceEqDiff, zI_of, zI_cl, zI_add, zI_mul, zI_lt, zI_le, zI_eq, zI_mulL, zI_mulR, zI_addL, zI_addR, zI_subR, zI_sub, zI_divR, zI_ltR, zI_ltL, zI_leR, zI_leL, zI_eqR, zI_eqL, zI_neN, zI_neN', zI_ltN, zI_leN, zN_lt, zF1, zF2, zF3, zF4, zF5, zF6, zF7, zF8, zU_lt, zG1, zG2, zG3, zG4, zG5, zG6, zU1, zU2, zU3, zU4, zN_0, zN_le0, zI_lt0, zI_0le, zI_pred, zI_pred', zI_predS, zI_predT, zJ_le, zJ_lt, zJ_leL, zJ_leR, y_cl0, y_0cl, y_cle, y_lec, y_ceq, n_lt, n_le, n_nlt, n_nle,  ni]
theorem x_hangM {ff : Nat → Int32} {bb : Nat → Int64} (hb : b01 ff) {g : Nat} (hg : g < 6) (hm : mSh B T) (h1 : z_i T (B + 89) = ff) (h2 : z_l T (B + 90) = bb) : ∃ v, f_X12_hangsAt (B + 48) (zI g) T = some (v, T) ∧ p10 (stlM ff bb g ∧ ∃ x, x < 6 ∧ x ≠ g ∧ stirM ff bb x) v := by
  rw [e_X12_hangsAt]
  exact l_h4 hb hg hm h1 h2 4 z_N 0 1 rfl (by omega) (by rw [z_N_eq]; omega) (Or.inl ⟨rfl, fun k hk => absurd hk (Nat.not_lt_zero _)⟩)
/-! both -/
def pst (n1 : Nat) (pc : Nat → Int64) (ff : Nat → Int32) (bb : Nat → Int64) : Prop := ∀ g k, g < 6 → k < 4 → flOk (ff (4 * g + k)) (bb (4 * g + k)) (pc (((n1 + 4 - k) % 4) * 6 + g))
theorem NN_nan : nanL z_NN := by unfold nanL; decide
theorem pst_stir {n1 : Nat} {pc : Nat → Int64} {ff : Nat → Int32} {bb : Nat → Int64} (h : pst n1 pc ff bb) {o : Nat} (ho : o < 6) : stir pc o ↔ stirM ff bb o := by
  have age : ∀ i, i < 4 → ∃ k, k < 4 ∧ (n1 + 4 - k) % 4 = i := fun i hi => ⟨(n1 + 4 - i) % 4, by omega, by omega⟩
  constructor
  · rintro ⟨i, j, i1, j1, a1, a2, a3⟩
    obtain ⟨k, k1, k2⟩ := age i i1
    obtain ⟨l, l1, l2⟩ := age j j1
    have e1 := h o k ho k1
    have e2 := h o l ho l1
    rw [k2] at e1
    rw [l2] at e2
    rcases e1 with ⟨_, z⟩ | ⟨x1, x2, x3⟩
    · exact absurd z a1
    · rcases e2 with ⟨_, z⟩ | ⟨y1, y2, y3⟩
      · exact absurd z a2
      · rw [x2, y2] at a3
        rcases Nat.lt_trichotomy k l with c | c | c
        · exact ⟨l, k, l1, c, y1, x1, fun z => a3 z.symm⟩
        · subst c; exact absurd rfl a3
        · exact ⟨k, l, k1, c, x1, y1, a3⟩
  · rintro ⟨j, k, j1, k1, a1, a2, a3⟩
    have e1 := h o j ho j1
    have e2 := h o k ho (by omega)
    rcases e1 with ⟨z, _⟩ | ⟨x1, x2, x3⟩
    · rw [z] at a1; exact absurd a1 (by decide)
    · rcases e2 with ⟨z, _⟩ | ⟨y1, y2, y3⟩
      · rw [z] at a2; exact absurd a2 (by decide)
      · refine ⟨(n1 + 4 - j) % 4, (n1 + 4 - k) % 4, by omega, by omega, ?_, ?_, ?_⟩
        · rw [x2]; exact fun z => x3 (by rw [z]; exact NN_nan)
        · rw [y2]; exact fun z => y3 (by rw [z]; exact NN_nan)
        · rw [x2, y2]; exact a3
theorem pst_stl {n1 : Nat} {pc : Nat → Int64} {ff : Nat → Int32} {bb : Nat → Int64} (h : pst n1 pc ff bb) {g : Nat} (hg : g < 6) {x : Int64} (hx : pc ((n1 % 4) * 6 + g) = x) (hn : ¬ nanL x) : stl pc g x ↔ stlM ff bb g := by
  have age : ∀ i, i < 4 → ∃ k, k < 4 ∧ (n1 + 4 - k) % 4 = i := fun i hi => ⟨(n1 + 4 - i) % 4, by omega, by omega⟩
  have h0 := h g 0 hg (by omega)
  rw [show (n1 + 4 - 0) % 4 = n1 % 4 by omega, hx] at h0
  have xb : x = bb (4 * g) := by
    rcases h0 with ⟨_, z⟩ | ⟨_, z, _⟩
    · rw [z] at hn; exact absurd NN_nan hn
    · exact z
  constructor
  · intro H k hk
    have e := h g k hg hk
    rw [H ((n1 + 4 - k) % 4) (by omega)] at e
    rcases e with ⟨_, z⟩ | ⟨z1, z2, _⟩
    · rw [z] at hn; exact absurd NN_nan hn
    · exact ⟨z1, by rw [← z2]; exact xb⟩
  · intro H i hi
    obtain ⟨k, k1, k2⟩ := age i hi
    have e := h g k hg k1
    rw [k2] at e
    obtain ⟨z1, z2⟩ := H k k1
    rcases e with ⟨z, _⟩ | ⟨_, z, _⟩
    · rw [z] at z1; exact absurd z1 (by decide)
    · rw [z, z2]; exact xb.symm
end HangM
