/-! bed: the model's side, and the pair -/
section BedK
variable {B : Nat} {G : z_Gh} {S S1 T T1 : z_St}
/-- the model while it lays strips; fl: filled (1) or not (0) -/
def MI (B : Nat) (T : z_St) (b kd m n fl i : Nat) (T1 : z_St) : Prop :=
  fT B c12 T T1 ∧ (∀ k, z_i T1 (B + 48) k = if k = 1 ∨ k = 2 then 0 else z_i T (B + 48) k) ∧
  (∀ j, z_i T1 (B + 53) j = if j = b then zI kd else z_i T (B + 53) j) ∧ (∀ j, z_i T1 (B + 54) j = if j = b then zI n else z_i T (B + 54) j) ∧
  (∀ j, z_i T1 (B + 55) j = if 16 * b ≤ j ∧ j < 16 * b + i then (if fl = 1 then zI (40 + j) else -1) else z_i T (B + 55) j) ∧
  (∀ j, z_i T1 (B + 49) j = if 40 + 16 * b ≤ j ∧ j < 40 + 16 * b + fl * i then zI kd else z_i T (B + 49) j) ∧
  (∀ j, z_i T1 (B + 50) j = if 40 + 16 * b ≤ j ∧ j < 40 + 16 * b + fl * i then zI m else z_i T (B + 50) j) ∧
  (∀ j, j < 64 * (40 + 16 * b) → z_l T1 (B + 51) j = z_l T (B + 51) j) ∧
  ∀ s, s < fl * i → ∀ f, f < m → z_l T1 (B + 51) (64 * (40 + 16 * b + s) + f) = 0
theorem MI_m {b kd m n fl i : Nat} (hm : mSh B T) (h : MI B T b kd m n fl i T1) : mSh B T1 := mSh_up hm h.1.1
theorem MI_1 {b kd m n i : Nat} (hi : i < 16) (hmm : m ≤ 64) (h : MI B T b kd m n 1 i T1) : MI B T b kd m n 1 (i + 1) (z_z0 (z_wi (z_wi (z_wi T1 (B + 55) (16 * b + i) (zI (40 + (16 * b + i)))) (B + 49) (40 + (16 * b + i)) (zI kd)) (B + 50) (40 + (16 * b + i)) (zI m)) (B + 51) (40 + (16 * b + i)) 0 m) := by
  obtain ⟨h1, h2, h3, h4, h5, h6, h7, h8, h9⟩ := h
  unfold z_z0
  refine ⟨fT_ql (fT_wi (fT_wi (fT_wi h1 _ _ _ (cm_at (by exact ok_2))) _ _ _ (cm_at (by exact ok_1))) _ _ _ (cm_at (by exact ok_1))) _ _ (fun _ => cm_at (by exact ok_1)), fun k => ?_, fun j => ?_, fun j => ?_, fun j => ?_, fun j => ?_, fun j => ?_, fun j hj => ?_, fun s hs f hf => ?_⟩
  · rw [y_i_ql, y_i_wi, if_neg (by omega), y_i_wi, if_neg (by omega), y_i_wi, if_neg (by omega)]; exact h2 k
  · rw [y_i_ql, y_i_wi, if_neg (by omega), y_i_wi, if_neg (by omega), y_i_wi, if_neg (by omega)]; exact h3 j
  · rw [y_i_ql, y_i_wi, if_neg (by omega), y_i_wi, if_neg (by omega), y_i_wi, if_neg (by omega)]; exact h4 j
  · rw [y_i_ql, y_i_wi, if_neg (by omega), y_i_wi, if_neg (by omega), y_i_wi]
    by_cases e : j = 16 * b + i
    · rw [if_pos ⟨rfl, e⟩, if_pos (by omega), if_pos rfl, e]
    · rw [if_neg (fun z => e z.2), h5]
      by_cases c : 16 * b ≤ j ∧ j < 16 * b + i
      · rw [if_pos c, if_pos (show 16 * b ≤ j ∧ j < 16 * b + (i + 1) by omega)]
      · rw [if_neg c, if_neg (by omega)]
  · rw [y_i_ql, y_i_wi, if_neg (by omega), y_i_wi]
    by_cases e : j = 40 + (16 * b + i)
    · rw [if_pos ⟨rfl, e⟩, if_pos (by omega)]
    · rw [if_neg (fun z => e z.2), y_i_wi, if_neg (by omega), h6]
      by_cases c : 40 + 16 * b ≤ j ∧ j < 40 + 16 * b + 1 * i
      · rw [if_pos c, if_pos (by omega)]
      · rw [if_neg c, if_neg (by omega)]
  · rw [y_i_ql, y_i_wi]
    by_cases e : j = 40 + (16 * b + i)
    · rw [if_pos ⟨rfl, e⟩, if_pos (by omega)]
    · rw [if_neg (fun z => e z.2), y_i_wi, if_neg (by omega), y_i_wi, if_neg (by omega), h7]
      by_cases c : 40 + 16 * b ≤ j ∧ j < 40 + 16 * b + 1 * i
      · rw [if_pos c, if_pos (by omega)]
      · rw [if_neg c, if_neg (by omega)]
  · rw [y_l_ql, if_pos rfl, if_neg (by omega)]
    exact h8 j hj
  · rw [y_l_ql, if_pos rfl]
    by_cases e : s = i
    · rw [if_pos (by omega)]
    · rw [if_neg (by omega)]
      exact h9 s (by omega) f hf
theorem MI_0 {b kd m n i : Nat} (h : MI B T b kd m n 0 i T1) : MI B T b kd m n 0 (i + 1) (z_wi T1 (B + 55) (16 * b + i) (-1)) := by
  obtain ⟨h1, h2, h3, h4, h5, h6, h7, h8, h9⟩ := h
  refine ⟨fT_wi h1 _ _ _ (cm_at (by exact ok_2)), fun k => ?_, fun j => ?_, fun j => ?_, fun j => ?_, fun j => ?_, fun j => ?_, fun j hj => ?_, fun s hs f hf => ?_⟩
  · rw [y_i_wi, if_neg (by omega)]; exact h2 k
  · rw [y_i_wi, if_neg (by omega)]; exact h3 j
  · rw [y_i_wi, if_neg (by omega)]; exact h4 j
  · rw [y_i_wi]
    by_cases e : j = 16 * b + i
    · rw [if_pos ⟨rfl, e⟩, if_pos (by omega), if_neg (by decide)]
    · rw [if_neg (fun z => e z.2), h5]
      by_cases c : 16 * b ≤ j ∧ j < 16 * b + i
      · rw [if_pos c, if_pos (show 16 * b ≤ j ∧ j < 16 * b + (i + 1) by omega)]
      · rw [if_neg c, if_neg (by omega)]
  · rw [y_i_wi, if_neg (by omega), h6, if_neg (by omega), if_neg (by omega)]
  · rw [y_i_wi, if_neg (by omega), h7, if_neg (by omega), if_neg (by omega)]
  · rw [y_l_wi]; exact h8 j hj
  · omega
theorem l_lay1 (hm : mSh B T) {b kd m n : Nat} (hb : b < 20) (hmm : m ≤ 64) (hn : n ≤ 16) (hT : z_i T (B + 48) 8 = zI b) (d : Nat) : ∀ N i T1, n - i = d → i ≤ n → d < N → MI B T b kd m n 1 i T1 → ∃ T2, l_X12_bed_92 N (B + 48) (zI kd) (zI n) (zI m) (zI i) T1 = some (zI b, z_wi T2 (B + 48) 8 (zI (b + 1))) ∧ MI B T b kd m n 1 n T2 := by
  have eb1 : zI (b + 1) - 1 = zI b := zI_sub (a := b + 1) (b := 1) (by omega) (by omega)
  induction d with
  | zero =>
    intro N i T1 hd hi hN h
    obtain ⟨N, rfl⟩ : ∃ n, N = n + 1 := ⟨N - 1, by omega⟩
    have : i = n := by omega
    subst this
    have hm1 := MI_m hm h
    have e8 := h.2.1 8
    rw [if_neg (by omega), hT] at e8
    refine ⟨T1, ?_, h⟩
    rw [l_X12_bed_92]
    simp (disch := first | assumption | omega) only [y_i_wi, y_l_wi, y_d_wi, y_r_wi, y_k_wi, y_n_wi, y_x_wi, y_w_wi, y_s_wi, y_i_wl, y_l_wl, y_d_wl, y_r_wl, y_k_wl, y_n_wl, y_x_wl, y_w_wl, y_s_wl, y_i_wd, y_l_wd, y_d_wd, y_r_wd, y_k_wd, y_n_wd, y_x_wd, y_w_wd, y_s_wd, y_i_wr, y_l_wr, y_d_wr, y_r_wr, y_k_wr, y_n_wr, y_x_wr, y_w_wr, y_s_wr, y_i_new, y_l_new, y_d_new, y_r_new, y_k_new, y_n_new, y_x_new, y_w_new, y_s_new, y_i_ci, y_l_ci, y_d_ci, y_r_ci, y_k_ci, y_n_ci, y_x_ci, y_w_ci, y_s_ci, y_i_cl, y_l_cl, y_d_cl, y_r_cl, y_k_cl, y_n_cl, y_x_cl, y_w_cl, y_s_cl, y_i_qi, y_l_qi, y_d_qi, y_r_qi, y_k_qi, y_n_qi, y_x_qi, y_w_qi, y_s_qi, y_i_ql, y_l_ql, y_d_ql, y_r_ql, y_k_ql, y_n_ql, y_x_ql, y_w_ql, y_s_ql, y_i_qd, y_l_qd, y_d_qd, y_r_qd, y_k_qd, y_n_qd, y_x_qd, y_w_qd, y_s_qd, ↓reduceIte, ↓y_tb, ↓y_tv, ↓y_tr, ↓y_tn, ↓y_ck, ↓y_ib, ↓y_nz2, ↓y_nzl2, ↓y_len2, ↓y_nn2, ↓y_nf2, ↓y_l2d2, y_gb, y_gn, y_gi, y_gv, y_gv', y_grN, y_grS, y_glN, y_glS, Nat.reduceAdd, Nat.reduceMul, Nat.reduceSub, Nat.reduceDiv, Nat.reduceMod, Nat.reduceLT, Nat.reduceLeDiff, y_rb0, y_rb1, y_b0, y_b0', y_10, zL_eq, zL_cl, Nat.add_sub_cancel, implies_true, Int32.reduceLT, Int32.reduceLE, if_true, if_false, true_and, and_true, false_and, and_false, true_or, or_true, false_or, or_false, not_true_eq_false, not_false_eq_true, ne_eq, and_self, or_self, reduceCtorEq, Nat.add_left_cancel_iff, Nat.left_eq_add, Nat.add_eq_left, Nat.reduceEqDiff, zI_of, zI_cl, zI_add, zI_mul, zI_lt, zI_le, zI_eq, zI_mulL, zI_mulR, zI_addL, zI_addR, zI_subR, zI_sub, zI_divR, zI_ltR, zI_ltL, zI_leR, zI_leL, zI_eqR, zI_eqL, zI_neN, zI_neN', zI_ltN, zI_leN, zN_lt, zF1, zF2, zF3, zF4, zF5, zF6, zF7, zF8, zU_lt, zG1, zG2, zG3, zG4, zG5, zG6, zU1, zU2, zU3, zU4, zN_0, zN_le0, zI_lt0, zI_0le, zI_pred, zI_pred', zI_predS, zI_predT, zJ_le, zJ_lt, zJ_leL, zJ_leR, y_cl0, y_0cl, y_cle, y_lec, y_ceq, n_lt, n_le, n_nlt, n_nle,  km_48 hm1, e8, eb1]
  | succ d ih =>
    intro N i T1 hd hi hN h
    obtain ⟨N, rfl⟩ : ∃ n, N = n + 1 := ⟨N - 1, by omega⟩
    have hm1 := MI_m hm h
    have e8 := h.2.1 8
    rw [if_neg (by omega), hT] at e8
    obtain ⟨T2, s1, s2⟩ := ih N (i + 1) _ (by omega) (by omega) (by omega) (MI_1 (by omega) hmm h)
    refine ⟨T2, Eq.trans ?_ s1, s2⟩
    have ni : ¬ n ≤ i := by omega
    have eb := x_begin (B := B) (T := z_wi T1 (B + 55) (16 * b + i) (zI (40 + (16 * b + i)))) (s := 40 + (16 * b + i)) (n := m) hm1 (by omega) hmm (zI kd)
    rw [l_X12_bed_92]
    simp (disch := first | assumption | omega) only [y_i_wi, y_l_wi, y_d_wi, y_r_wi, y_k_wi, y_n_wi, y_x_wi, y_w_wi, y_s_wi, y_i_wl, y_l_wl, y_d_wl, y_r_wl, y_k_wl, y_n_wl, y_x_wl, y_w_wl, y_s_wl, y_i_wd, y_l_wd, y_d_wd, y_r_wd, y_k_wd, y_n_wd, y_x_wd, y_w_wd, y_s_wd, y_i_wr, y_l_wr, y_d_wr, y_r_wr, y_k_wr, y_n_wr, y_x_wr, y_w_wr, y_s_wr, y_i_new, y_l_new, y_d_new, y_r_new, y_k_new, y_n_new, y_x_new, y_w_new, y_s_new, y_i_ci, y_l_ci, y_d_ci, y_r_ci, y_k_ci, y_n_ci, y_x_ci, y_w_ci, y_s_ci, y_i_cl, y_l_cl, y_d_cl, y_r_cl, y_k_cl, y_n_cl, y_x_cl, y_w_cl, y_s_cl, y_i_qi, y_l_qi, y_d_qi, y_r_qi, y_k_qi, y_n_qi, y_x_qi, y_w_qi, y_s_qi, y_i_ql, y_l_ql, y_d_ql, y_r_ql, y_k_ql, y_n_ql, y_x_ql, y_w_ql, y_s_ql, y_i_qd, y_l_qd, y_d_qd, y_r_qd, y_k_qd, y_n_qd, y_x_qd, y_w_qd, y_s_qd, ↓reduceIte, ↓y_tb, ↓y_tv, ↓y_tr, ↓y_tn, ↓y_ck, ↓y_ib, ↓y_nz2, ↓y_nzl2, ↓y_len2, ↓y_nn2, ↓y_nf2, ↓y_l2d2, y_gb, y_gn, y_gi, y_gv, y_gv', y_grN, y_grS, y_glN, y_glS, Nat.reduceAdd, Nat.reduceMul, Nat.reduceSub, Nat.reduceDiv, Nat.reduceMod, Nat.reduceLT, Nat.reduceLeDiff, y_rb0, y_rb1, y_b0, y_b0', y_10, zL_eq, zL_cl, Nat.add_sub_cancel, implies_true, Int32.reduceLT, Int32.reduceLE, if_true, if_false, true_and, and_true, false_and, and_false, true_or, or_true, false_or, or_false, not_true_eq_false, not_false_eq_true, ne_eq, and_self, or_self, reduceCtorEq, Nat.add_left_cancel_iff, Nat.left_eq_add, Nat.add_eq_left, Nat.reduceEqDiff, zI_of, zI_cl, zI_add, zI_mul, zI_lt, zI_le, zI_eq, zI_mulL, zI_mulR, zI_addL, zI_addR, zI_subR, zI_sub, zI_divR, zI_ltR, zI_ltL, zI_leR, zI_leL, zI_eqR, zI_eqL, zI_neN, zI_neN', zI_ltN, zI_leN, zN_lt, zF1, zF2, zF3, zF4, zF5, zF6, zF7, zF8, zU_lt, zG1, zG2, zG3, zG4, zG5, zG6, zU1, zU2, zU3, zU4, zN_0, zN_le0, zI_lt0, zI_0le, zI_pred, zI_pred', zI_predS, zI_predT, zJ_le, zJ_lt, zJ_leL, zJ_leR, y_cl0, y_0cl, y_cle, y_lec, y_ceq, n_lt, n_le, n_nlt, n_nle,  j_X12_bed_129, km_48 hm1, rm_48_11 hm1, km_55 hm1, nm_55 hm1, e8, ni, eb]
theorem l_lay0 (hm : mSh B T) {b kd m n : Nat} (hb : b < 20) (hn : n ≤ 16) (hT : z_i T (B + 48) 8 = zI b) (d : Nat) : ∀ N i T1, n - i = d → i ≤ n → d < N → MI B T b kd m n 0 i T1 → ∃ T2, l_X12_bed_92 N (B + 48) (zI kd) (zI n) (-1) (zI i) T1 = some (zI b, z_wi T2 (B + 48) 8 (zI (b + 1))) ∧ MI B T b kd m n 0 n T2 := by
  have eb1 : zI (b + 1) - 1 = zI b := zI_sub (a := b + 1) (b := 1) (by omega) (by omega)
  induction d with
  | zero =>
    intro N i T1 hd hi hN h
    obtain ⟨N, rfl⟩ : ∃ n, N = n + 1 := ⟨N - 1, by omega⟩
    have : i = n := by omega
    subst this
    have hm1 := MI_m hm h
    have e8 := h.2.1 8
    rw [if_neg (by omega), hT] at e8
    refine ⟨T1, ?_, h⟩
    rw [l_X12_bed_92]
    simp (disch := first | assumption | omega) only [y_i_wi, y_l_wi, y_d_wi, y_r_wi, y_k_wi, y_n_wi, y_x_wi, y_w_wi, y_s_wi, y_i_wl, y_l_wl, y_d_wl, y_r_wl, y_k_wl, y_n_wl, y_x_wl, y_w_wl, y_s_wl, y_i_wd, y_l_wd, y_d_wd, y_r_wd, y_k_wd, y_n_wd, y_x_wd, y_w_wd, y_s_wd, y_i_wr, y_l_wr, y_d_wr, y_r_wr, y_k_wr, y_n_wr, y_x_wr, y_w_wr, y_s_wr, y_i_new, y_l_new, y_d_new, y_r_new, y_k_new, y_n_new, y_x_new, y_w_new, y_s_new, y_i_ci, y_l_ci, y_d_ci, y_r_ci, y_k_ci, y_n_ci, y_x_ci, y_w_ci, y_s_ci, y_i_cl, y_l_cl, y_d_cl, y_r_cl, y_k_cl, y_n_cl, y_x_cl, y_w_cl, y_s_cl, y_i_qi, y_l_qi, y_d_qi, y_r_qi, y_k_qi, y_n_qi, y_x_qi, y_w_qi, y_s_qi, y_i_ql, y_l_ql, y_d_ql, y_r_ql, y_k_ql, y_n_ql, y_x_ql, y_w_ql, y_s_ql, y_i_qd, y_l_qd, y_d_qd, y_r_qd, y_k_qd, y_n_qd, y_x_qd, y_w_qd, y_s_qd, ↓reduceIte, ↓y_tb, ↓y_tv, ↓y_tr, ↓y_tn, ↓y_ck, ↓y_ib, ↓y_nz2, ↓y_nzl2, ↓y_len2, ↓y_nn2, ↓y_nf2, ↓y_l2d2, y_gb, y_gn, y_gi, y_gv, y_gv', y_grN, y_grS, y_glN, y_glS, Nat.reduceAdd, Nat.reduceMul, Nat.reduceSub, Nat.reduceDiv, Nat.reduceMod, Nat.reduceLT, Nat.reduceLeDiff, y_rb0, y_rb1, y_b0, y_b0', y_10, zL_eq, zL_cl, Nat.add_sub_cancel, implies_true, Int32.reduceLT, Int32.reduceLE, if_true, if_false, true_and, and_true, false_and, and_false, true_or, or_true, false_or, or_false, not_true_eq_false, not_false_eq_true, ne_eq, and_self, or_self, reduceCtorEq, Nat.add_left_cancel_iff, Nat.left_eq_add, Nat.add_eq_left, Nat.reduceEqDiff, zI_of, zI_cl, zI_add, zI_mul, zI_lt, zI_le, zI_eq, zI_mulL, zI_mulR, zI_addL, zI_addR, zI_subR, zI_sub, zI_divR, zI_ltR, zI_ltL, zI_leR, zI_leL, zI_eqR, zI_eqL, zI_neN, zI_neN', zI_ltN, zI_leN, zN_lt, zF1, zF2, zF3, zF4, zF5, zF6, zF7, zF8, zU_lt, zG1, zG2, zG3, zG4, zG5, zG6, zU1, zU2, zU3, zU4, zN_0, zN_le0, zI_lt0, zI_0le, zI_pred, zI_pred', zI_predS, zI_predT, zJ_le, zJ_lt, zJ_leL, zJ_leR, y_cl0, y_0cl, y_cle, y_lec, y_ceq, n_lt, n_le, n_nlt, n_nle,  km_48 hm1, e8, eb1]
  | succ d ih =>
    intro N i T1 hd hi hN h
    obtain ⟨N, rfl⟩ : ∃ n, N = n + 1 := ⟨N - 1, by omega⟩
    have hm1 := MI_m hm h
    have e8 := h.2.1 8
    rw [if_neg (by omega), hT] at e8
    obtain ⟨T2, s1, s2⟩ := ih N (i + 1) _ (by omega) (by omega) (by omega) (MI_0 h)
    refine ⟨T2, Eq.trans ?_ s1, s2⟩
    have ni : ¬ n ≤ i := by omega
    have l0 : ((0 : Int32) ≤ -1) = False := by decide
    have l1 : ((-1 : Int32) < 0) = True := by decide
    rw [l_X12_bed_92]
    simp (disch := first | assumption | omega) only [y_i_wi, y_l_wi, y_d_wi, y_r_wi, y_k_wi, y_n_wi, y_x_wi, y_w_wi, y_s_wi, y_i_wl, y_l_wl, y_d_wl, y_r_wl, y_k_wl, y_n_wl, y_x_wl, y_w_wl, y_s_wl, y_i_wd, y_l_wd, y_d_wd, y_r_wd, y_k_wd, y_n_wd, y_x_wd, y_w_wd, y_s_wd, y_i_wr, y_l_wr, y_d_wr, y_r_wr, y_k_wr, y_n_wr, y_x_wr, y_w_wr, y_s_wr, y_i_new, y_l_new, y_d_new, y_r_new, y_k_new, y_n_new, y_x_new, y_w_new, y_s_new, y_i_ci, y_l_ci, y_d_ci, y_r_ci, y_k_ci, y_n_ci, y_x_ci, y_w_ci, y_s_ci, y_i_cl, y_l_cl, y_d_cl, y_r_cl, y_k_cl, y_n_cl, y_x_cl, y_w_cl, y_s_cl, y_i_qi, y_l_qi, y_d_qi, y_r_qi, y_k_qi, y_n_qi, y_x_qi, y_w_qi, y_s_qi, y_i_ql, y_l_ql, y_d_ql, y_r_ql, y_k_ql, y_n_ql, y_x_ql, y_w_ql, y_s_ql, y_i_qd, y_l_qd, y_d_qd, y_r_qd, y_k_qd, y_n_qd, y_x_qd, y_w_qd, y_s_qd, ↓reduceIte, ↓y_tb, ↓y_tv, ↓y_tr, ↓y_tn, ↓y_ck, ↓y_ib, ↓y_nz2, ↓y_nzl2, ↓y_len2, ↓y_nn2, ↓y_nf2, ↓y_l2d2, y_gb, y_gn, y_gi, y_gv, y_gv', y_grN, y_grS, y_glN, y_glS, Nat.reduceAdd, Nat.reduceMul, Nat.reduceSub, Nat.reduceDiv, Nat.reduceMod, Nat.reduceLT, Nat.reduceLeDiff, y_rb0, y_rb1, y_b0, y_b0', y_10, zL_eq, zL_cl, Nat.add_sub_cancel, implies_true, Int32.reduceLT, Int32.reduceLE, if_true, if_false, true_and, and_true, false_and, and_false, true_or, or_true, false_or, or_false, not_true_eq_false, not_false_eq_true, ne_eq, and_self, or_self, reduceCtorEq, Nat.add_left_cancel_iff, Nat.left_eq_add, Nat.add_eq_left, Nat.reduceEqDiff, zI_of, zI_cl, zI_add, zI_mul, zI_lt, zI_le, zI_eq, zI_mulL, zI_mulR, zI_addL, zI_addR, zI_subR, zI_sub, zI_divR, zI_ltR, zI_ltL, zI_leR, zI_leL, zI_eqR, zI_eqL, zI_neN, zI_neN', zI_ltN, zI_leN, zN_lt, zF1, zF2, zF3, zF4, zF5, zF6, zF7, zF8, zU_lt, zG1, zG2, zG3, zG4, zG5, zG6, zU1, zU2, zU3, zU4, zN_0, zN_le0, zI_lt0, zI_0le, zI_pred, zI_pred', zI_predS, zI_predT, zJ_le, zJ_lt, zJ_leL, zJ_leR, y_cl0, y_0cl, y_cle, y_lec, y_ceq, n_lt, n_le, n_nlt, n_nle,  j_X12_bed_129, km_48 hm1, rm_48_11 hm1, km_55 hm1, nm_55 hm1, e8, ni, l0, l1]
theorem R1_bed {S' T' : z_St} {b kd m n fl : Nat} (h : R1 B G S T) (hb : G 0 2 = b) (hB : B + 112 ≤ z_x S) (hn : n ≤ 16) (hfl : fl ≤ 1) (hkd : kd ≤ 7) (hm : m ≤ 64) (hF : FI B G S b kd m n (fl * n) S1) (hM : MI B T b kd m n fl n T1)
    (eS : ∀ x, (∀ j, z_l S' x j = z_l S1 x j ∧ z_r S' x j = z_r S1 x j) ∧ z_k S' x = z_k S1 x ∧ z_n S' x = z_n S1 x ∧ (B + 1 ≤ x → ∀ j, z_i S' x j = z_i S1 x j)) (eX : z_x S' = z_x S1) (eB : z_i S' B 1 = z_i S1 B 1) (eT : ∀ x, x ≠ B + 48 → ∀ j, z_i T' x j = z_i T1 x j ∧ z_l T' x j = z_l T1 x j) (eT3 : z_i T' (B + 48) 3 = z_i T1 (B + 48) 3) : R1 B (gBed G (z_x S) b kd m (fl * n)) S' T' := by
  obtain ⟨m1, m2, m3, m4, m5, m6, m7, m8⟩ := h
  obtain ⟨⟨x1, x2, x3⟩, f1, o1, ⟨r1, r2, r3⟩, ⟨b1, b2, b3, b4, b5⟩, s1, w1⟩ := hF
  obtain ⟨h1, h2, h3, h4, h5, h6, h7, h8, h9⟩ := hM
  have hfn : fl * n ≤ 16 := by
    have : fl = 0 ∨ fl = 1 := by omega
    rcases this with rfl | rfl <;> omega
  generalize fl * n = nf at *
  have g01 : gBed G (z_x S) b kd m nf 0 1 = G 0 1 := gBed_n (by omega) (by omega) (by omega) (by omega) (by omega)
  have old : ∀ q, G 1 q ≠ 0 → q < 40 + 16 * b := fun q hq => by
    have := m6 q hq
    rw [hb] at this
    omega
  have go : ∀ i q, 1 ≤ i → i ≤ 4 → q < 40 + 16 * b → gBed G (z_x S) b kd m nf i q = G i q := fun i q g1 g2 g3 => gBed_n (by omega) (by omega) (by omega) (by omega) (by omega)
  have nw : ∀ q, gBed G (z_x S) b kd m nf 1 q ≠ 0 → (q < 40 + 16 * b ∧ G 1 q ≠ 0) ∨ ∃ i, i < nf ∧ q = 40 + 16 * b + i := fun q hq => by
    by_cases c : 40 + 16 * b ≤ q ∧ q < 40 + 16 * b + nf
    · exact Or.inr ⟨q - (40 + 16 * b), by omega, by omega⟩
    · rw [gBed_n (by omega) (by omega) (by omega) (fun z => c z.2.2) (by omega)] at hq
      exact Or.inl ⟨old q hq, hq⟩
  obtain ⟨gc1, gc2, gc3⟩ := gBed_c (G := G) (z_x S) b kd m nf
  refine ⟨by rw [g01]; exact m1, ?_, ?_, fun q hq => ?_, fun q hq => ?_, fun q hq => ?_, fun q hq => ?_, fun q q' hq hq' e => ?_⟩
  · rw [g01, eB, r3]; exact m2
  · rw [g01, eT3, h2, if_neg (by omega)]; exact m3
  · rw [g01, ((eS (B + 1)).1 q).2, r2, go 1 q (by omega) (by omega) (by omega)]; exact m4 q hq
  · rw [g01] at hq
    rw [go 1 q (by omega) (by omega) (by omega)]; exact m5 q hq
  · rw [g01, gBed_0]
    rcases nw q hq with ⟨q1, q2⟩ | ⟨i, q1, q2⟩
    · have := m6 q q2
      rw [hb] at this
      omega
    · omega
  · rcases nw q hq with ⟨q1, q2⟩ | ⟨i, q1, q2⟩
    · refine rowOk_mv (m7 q q2) (by omega) (go 1 q (by omega) (by omega) q1) (go 2 q (by omega) (by omega) q1) (go 3 q (by omega) (by omega) q1) (go 4 q (by omega) (by omega) q1) (fun a ha => gBed_n (by omega) (by omega) (by omega) (by omega) (by omega)) (fun a g1 g2 => ?_) (fun k hk => ?_) ?_ ?_ (fun k hk => ?_)
      · obtain ⟨z1, z2, z3⟩ := o1 a g1 g2
        obtain ⟨y1, y2, y3, y4⟩ := eS a
        exact ⟨y2.trans z1, y3.trans z2, (y1 1).2.trans (z3 1).2.2, (y4 (by omega) 0).trans (z3 0).1⟩
      · obtain ⟨-, d2, -⟩ := m7 q q2
        exact (((eS (G 2 q)).1 k).1).trans ((o1 (G 2 q) d2.1 d2.2.1).2.2 k).2.1
      · rw [(eT (B + 49) (by omega) q).1, h6, if_neg (by omega)]
      · rw [(eT (B + 50) (by omega) q).1, h7, if_neg (by omega)]
      · rw [(eT (B + 51) (by omega) _).2, h8 _ (by omega)]
    · subst q2
      obtain ⟨k1, k2, k3, k4⟩ := gBed_r (G := G) (z_x S) b kd m q1
      obtain ⟨w1, w2, w3, w4, w5, w6⟩ := w1 i q1
      unfold rowOk dyn
      rw [k1, k2, k3, k4, gc3 _ (by omega), gc3 _ (by omega), (eS (z_x S + 2 + 2 * i)).2.1, ((eS (z_x S + 2 + 2 * i)).1 1).2, (eS (z_x S + 3 + 2 * i)).2.1, (eS (z_x S + 2 + 2 * i)).2.2.2 (by omega) 0, (eS (z_x S + 3 + 2 * i)).2.2.1, (eT (B + 49) (by omega) _).1, (eT (B + 50) (by omega) _).1, h6, h7, if_pos (by omega), if_pos (by omega), eX, x1]
      refine ⟨⟨by omega, by omega, rfl⟩, ⟨by omega, by omega, rfl⟩, w1, w3, w4, w2, rfl, w5, rfl, hkd, hm, fun f hf => ?_⟩
      rw [((eS (z_x S + 3 + 2 * i)).1 f).1, w6 f, (eT (B + 51) (by omega) _).2, h9 i q1 f hf]
      exact ⟨rfl, fun _ q => absurd q (by unfold nanL; decide)⟩
  · rcases nw q hq with ⟨q1, q2⟩ | ⟨i, q1, q2⟩
    · have d1 := (m7 q q2).2.1.2.1
      rw [go 2 q (by omega) (by omega) q1] at e
      rcases nw q' hq' with ⟨p1, p2⟩ | ⟨j, p1, p2⟩
      · rw [go 2 q' (by omega) (by omega) p1] at e
        exact m8 q q' q2 p2 e
      · subst p2
        rw [(gBed_r (G := G) (z_x S) b kd m p1).2.1] at e
        omega
    · subst q2
      rw [(gBed_r (G := G) (z_x S) b kd m q1).2.1] at e
      rcases nw q' hq' with ⟨p1, p2⟩ | ⟨j, p1, p2⟩
      · have d1 := (m7 q' p2).2.1.2.1
        rw [go 2 q' (by omega) (by omega) p1] at e
        omega
      · subst p2
        rw [(gBed_r (G := G) (z_x S) b kd m p1).2.1] at e
        omega
theorem R2_bed {S' T' : z_St} {b kd m n fl : Nat} (h : R2 B G S T) (hr1 : R1 B G S T) (hb : G 0 2 = b) (hb20 : b < 20) (hB : B + 112 ≤ z_x S) (hn : n ≤ 16) (hfl : fl = 0 ∨ fl = 1) (hF : FI B G S b kd m n (fl * n) S1) (hM : MI B T b kd m n fl n T1)
    (eS : ∀ x, (∀ j, z_l S' x j = z_l S1 x j ∧ z_r S' x j = z_r S1 x j) ∧ z_k S' x = z_k S1 x ∧ z_n S' x = z_n S1 x ∧ (B + 1 ≤ x → ∀ j, z_i S' x j = z_i S1 x j)) (eX : z_x S' = z_x S1) (eB : z_i S' B 3 = zI (b + 1)) (eT : ∀ x, x ≠ B + 48 → ∀ j, z_i T' x j = z_i T1 x j ∧ z_l T' x j = z_l T1 x j) (eT8 : z_i T' (B + 48) 8 = zI (b + 1)) : R2 B (gBed G (z_x S) b kd m (fl * n)) S' T' := by
  obtain ⟨n1, n2, n3, n4, n5⟩ := h
  obtain ⟨m1, m2, m3, m4, m5, m6, m7, m8⟩ := hr1
  obtain ⟨⟨x1, x2, x3⟩, f1, o1, ⟨r1, r2, r3⟩, ⟨b1, b2, b3, b4, b5⟩, s1, w1⟩ := hF
  obtain ⟨h1, h2, h3, h4, h5, h6, h7, h8, h9⟩ := hM
  have hfn : fl * n ≤ 16 := by rcases hfl with rfl | rfl <;> omega
  have g0 := gBed_0 (G := G) (z_x S) b kd m (fl * n)
  obtain ⟨g5, g6⟩ := gBed_5 (G := G) (z_x S) b kd m (fl * n)
  obtain ⟨gc1, gc2, gc3⟩ := gBed_c (G := G) (z_x S) b kd m (fl * n)
  have gd : ∀ c, c < b → gBed G (z_x S) b kd m (fl * n) 5 c = G 5 c ∧ gBed G (z_x S) b kd m (fl * n) 6 c = G 6 c := fun c hc => ⟨gBed_n (by omega) (by omega) (by omega) (by omega) (by omega), gBed_n (by omega) (by omega) (by omega) (by omega) (by omega)⟩
  have go : ∀ i q, 1 ≤ i → i ≤ 4 → q < 40 + 16 * b → gBed G (z_x S) b kd m (fl * n) i q = G i q := fun i q g1 g2 g3 => gBed_n (by omega) (by omega) (by omega) (by omega) (by omega)
  have g20 : ∀ a, a < z_x S → gBed G (z_x S) b kd m (fl * n) 20 a = G 20 a := fun a ha => gBed_n (by omega) (by omega) (by omega) (by omega) (by omega)
  rw [hb] at n1 n4 n5
  refine ⟨by rw [g0]; omega, by rw [g0]; exact eB, by rw [g0]; exact eT8, fun c hc => ?_, fun c c' hc hc' e => ?_⟩
  · rw [g0] at hc
    by_cases e : c = b
    · subst e
      unfold bedOk dyn
      rw [g5, g6, gc1, gc2, ((eS (B + 2)).1 c).2, r1, if_pos rfl, (eS (z_x S)).2.1, ((eS (z_x S)).1 1).2, (eS (z_x S + 1)).2.1, (eS (z_x S)).2.2.2 (by omega) 0, (eS (z_x S + 1)).2.2.1, (eT (B + 53) (by omega) _).1, (eT (B + 54) (by omega) _).1, h3, h4, if_pos rfl, if_pos rfl, b5, eX, x1]
      refine ⟨rfl, ⟨by omega, by omega, rfl⟩, ⟨by omega, by omega, rfl⟩, b1, b3, b4, b2, rfl, hn, fun i hi => ?_⟩
      unfold stripOk
      rw [g5, g6, (eT (B + 55) (by omega) _).1, h5, if_pos (by omega), ((eS (z_x S + 1)).1 i).2, s1, (eS (z_x S)).2.2.2 (by omega) 0, b2]
      rcases hfl with rfl | rfl
      · exact Or.inl ⟨if_neg (by decide), if_neg (by omega)⟩
      · obtain ⟨k1, k2, k3, k4⟩ := gBed_r (G := G) (z_x S) c kd m (nf := 1 * n) (i := i) (by omega)
        refine Or.inr ⟨40 + 16 * c + i, by rw [k1]; omega, by omega, ?_, ?_, by rw [k3]⟩
        · rw [if_pos rfl]; congr 1; omega
        · rw [if_pos (by omega), k1]
    · have hc' : c < b := by omega
      obtain ⟨a1, a2, a3, a4, a5, a6, a7, a8, a9, a10⟩ := n4 c hc'
      obtain ⟨e5, e6⟩ := gd c hc'
      obtain ⟨z1, z2, z3⟩ := o1 (G 5 c) a2.1 a2.2.1
      obtain ⟨y1, y2, y3⟩ := o1 (G 6 c) a3.1 a3.2.1
      have hBa := a2.1
      unfold bedOk dyn
      rw [e5, e6, g20 _ a2.2.1, g20 _ a3.2.1, ((eS (B + 2)).1 c).2, r1, if_neg e, (eS (G 5 c)).2.1, z1, ((eS (G 5 c)).1 1).2, (z3 1).2.2, (eS (G 6 c)).2.1, y1, (eS (G 5 c)).2.2.2 (by omega) 0, (z3 0).1, (eS (G 6 c)).2.2.1, y2, (eT (B + 53) (by omega) _).1, (eT (B + 54) (by omega) _).1, h3, h4, if_neg e, if_neg e, eX, x1]
      have q2 := a2.2.1
      have q3 := a3.2.1
      refine ⟨a1, ⟨a2.1, by omega, a2.2.2⟩, ⟨a3.1, by omega, a3.2.2⟩, a4, a5, a6, a7, a8, a9, fun i hi => ?_⟩
      have hst := a10 i hi
      unfold stripOk at hst ⊢
      rw [e5, e6, (eT (B + 55) (by omega) _).1, h5, if_neg (by omega), ((eS (G 6 c)).1 i).2, (y3 i).2.2, (eS (G 5 c)).2.2.2 (by omega) 0, (z3 0).1]
      rcases hst with hst | ⟨q, t1, t2, t3, t4, t5⟩
      · exact Or.inl hst
      · have hq : q < 40 + 16 * b := by
          have := m6 q t1
          rw [hb] at this
          omega
        refine Or.inr ⟨q, by rw [go 1 q (by omega) (by omega) hq]; exact t1, t2, t3, ?_, ?_⟩
        · rw [go 1 q (by omega) (by omega) hq]; exact t4
        · rw [go 3 q (by omega) (by omega) hq]; exact t5
  · rw [g0] at hc hc'
    by_cases e1 : c = b
    · by_cases e2 : c' = b
      · omega
      · rw [e1, g6, (gd c' (by omega)).2] at e
        have := (n4 c' (by omega)).2.2.1.2.1
        omega
    · rw [(gd c (by omega)).2] at e
      have hd := (n4 c (by omega)).2.2.1.2.1
      by_cases e2 : c' = b
      · rw [e2, g6] at e
        omega
      · rw [(gd c' (by omega)).2] at e
        exact n5 c c' (by omega) (by omega) e
theorem gBed_L {b kd m nf : Nat} (hr1 : R1 B G S T) (hb : G 0 2 = b) (a : Nat) : gL c12 a G (gBed G a b kd m nf) := by
  obtain ⟨m1, m2, m3, m4, m5, m6, m7, m8⟩ := hr1
  have old : ∀ q, G 1 q ≠ 0 → q < 40 + 16 * b := fun q hq => by
    have := m6 q hq
    rw [hb] at this
    omega
  refine ⟨fun i hi => ?_, fun i hi => ?_, fun q hq => ?_, fun z => absurd (Or.inl rfl) z, fun c hc => ?_, fun t ht => ?_, fun r hr => ?_, fun c hc => ?_, fun _ => ?_, fun _ => ?_, fun x hx => ?_⟩
  · refine gBed_n (fun z => hi ?_) (by omega) (by omega) (by omega) (by omega)
    rw [z.2]; exact Or.inr rfl
  · by_cases e : i = 2
    · subst e
      rw [gBed_0]; omega
    · rw [gBed_n (by omega) (by omega) (by omega) (by omega) (by omega)]; exact Nat.le_refl _
  · have := old q hq
    exact ⟨gBed_n (by omega) (by omega) (by omega) (by omega) (by omega), gBed_n (by omega) (by omega) (by omega) (by omega) (by omega), gBed_n (by omega) (by omega) (by omega) (by omega) (by omega), gBed_n (by omega) (by omega) (by omega) (by omega) (by omega)⟩
  · exact ⟨gBed_n (by omega) (by omega) (by omega) (by omega) (by omega), gBed_n (by omega) (by omega) (by omega) (by omega) (by omega)⟩
  · exact ⟨gBed_n (by omega) (by omega) (by omega) (by omega) (by omega), gBed_n (by omega) (by omega) (by omega) (by omega) (by omega)⟩
  · exact ⟨gBed_n (by omega) (by omega) (by omega) (by omega) (by omega), gBed_n (by omega) (by omega) (by omega) (by omega) (by omega), gBed_n (by omega) (by omega) (by omega) (by omega) (by omega)⟩
  · exact ⟨gBed_n (by omega) (by omega) (by omega) (by omega) (by omega), gBed_n (by omega) (by omega) (by omega) (by omega) (by omega)⟩
  · funext j; exact gBed_n (by omega) (by omega) (by omega) (by omega) (by omega)
  · funext j; exact gBed_n (by omega) (by omega) (by omega) (by omega) (by omega)
  · exact gBed_n (by omega) (by omega) (by omega) (by omega) (by omega)
theorem Pr_12 {α : Type} {a a' : α} {S' T' : z_St} {G' : z_Gh} (h : RG B G S T) (hS : fS B G c12 S S') (hT : fT B c12 T T') (hg : gL c12 (z_x S) G G') (h1 : R1 B G' S' T') (h2 : R2 B G' S' T') (hr : Rr B S' T') (ha : a = a') (hx : z_x S' ≤ z_x S + 40) (hw : z_w S ≤ z_w S' ∧ z_w S' ≤ z_w S + 1200) : Pr B S T (some (a, S')) (some (a', T')) := by
  subst ha
  refine ⟨a, S', T', rfl, rfl, ⟨G', RG_up h hS hT hg (fun q => by unfold c12 at q; omega) (fun i hi => ?_) hr⟩, ⟨hS.1, hx, hw.1, hw.2⟩, hT.1.2.2.2.1, hT.1.2.2.2.2.1, st62 hT fun q => ?_⟩
  · rcases hi with rfl | rfl
    · exact h1
    · exact h2
  · unfold ok c12 at q; omega
theorem FI_0 {b kd m n : Nat} (hB : B + 112 ≤ z_x S) (hn : n ≤ 16) : FI B G S b kd m n 0 (z_wr (z_wr (z_new (z_wi (z_new S 2 2) (z_x S) 0 (zI kd)) 110 n) (z_x S) 1 (some (z_x S + 1))) (B + 2) b (some (z_x S))) := by
  refine ⟨⟨?_, ?_, ?_⟩, fS_wr (fS_wr (fS_new (fS_wi (fS_new fS_rf _ _) _ _ _ (at_new (Nat.le_refl _))) _ _) _ _ _ (at_new (Nat.le_refl _))) _ _ _ (at_fix (by decide) (by exact ok_2)), fun x g1 g2 => ⟨?_, ?_, fun j => ⟨?_, ?_, ?_⟩⟩, ⟨fun j => ?_, fun j => ?_, fun k => ?_⟩, ⟨?_, ?_, ?_, ?_, ?_⟩, fun j => ?_, fun j hj => by omega⟩
  · rw [y_x_wr, y_x_wr, y_x_new, y_x_wi, y_x_new]
  · rw [y_w_wr, y_w_wr, y_w_new, y_w_wi, y_w_new]; omega
  · rw [y_w_wr, y_w_wr, y_w_new, y_w_wi, y_w_new]; omega
  · rw [y_k_wr, y_k_wr, y_k_new, y_x_wi, y_x_new, if_neg (by omega), y_k_wi, y_k_new, if_neg (by omega)]
  · rw [y_n_wr, y_n_wr, y_n_new, y_x_wi, y_x_new, if_neg (by omega), y_n_wi, y_n_new, if_neg (by omega)]
  · rw [y_i_wr, y_i_wr, y_i_new, y_x_wi, y_x_new, if_neg (by omega), y_i_wi, if_neg (by omega), y_i_new, if_neg (by omega)]
  · rw [y_l_wr, y_l_wr, y_l_new, y_x_wi, y_x_new, if_neg (by omega), y_l_wi, y_l_new, if_neg (by omega)]
  · rw [y_r_wr, if_neg (by omega), y_r_wr, if_neg (by omega), y_r_new, y_x_wi, y_x_new, if_neg (by omega), y_r_wi, y_r_new, if_neg (by omega)]
  · rw [y_r_wr]
    by_cases e : j = b
    · rw [if_pos ⟨rfl, e⟩, if_pos e]
    · rw [if_neg (fun z => e z.2), if_neg e, y_r_wr, if_neg (by omega), y_r_new, y_x_wi, y_x_new, if_neg (by omega), y_r_wi, y_r_new, if_neg (by omega)]
  · rw [y_r_wr, if_neg (by omega), y_r_wr, if_neg (by omega), y_r_new, y_x_wi, y_x_new, if_neg (by omega), y_r_wi, y_r_new, if_neg (by omega)]
  · rw [y_i_wr, y_i_wr, y_i_new, y_x_wi, y_x_new, if_neg (by omega), y_i_wi, if_neg (by omega), y_i_new, if_neg (by omega)]
  · rw [y_k_wr, y_k_wr, y_k_new, y_x_wi, y_x_new, if_neg (by omega), y_k_wi, y_k_new, if_pos rfl]
  · rw [y_i_wr, y_i_wr, y_i_new, y_x_wi, y_x_new, if_neg (by omega), y_i_wi, if_pos ⟨rfl, rfl⟩]
  · rw [y_r_wr, if_neg (by omega), y_r_wr, if_pos ⟨rfl, rfl⟩]
  · rw [y_k_wr, y_k_wr, y_k_new, y_x_wi, y_x_new, if_pos rfl]
  · rw [y_n_wr, y_n_wr, y_n_new, y_x_wi, y_x_new, if_pos rfl]
  · rw [y_r_wr, if_neg (by omega), y_r_wr, if_neg (by omega), y_r_new, y_x_wi, y_x_new, if_pos rfl, if_neg (by omega)]
theorem bed_end {b kd m n fl : Nat} {S2 T2 : z_St} (h : RG B G S T) (hb : G 0 2 = b) (hb20 : b < 20) (hkd : kd ≤ 7) (hm : m ≤ 64) (hn : n ≤ 16) (hfl : fl = 0 ∨ fl = 1) (hF : FI B G S b kd m n (fl * n) S2) (hM : MI B T b kd m n fl n T2) : Pr B S T (some (zI b, z_wi (z_wi (z_wi S2 B 3 (zI (b + 1))) B 17 0) B 18 0)) (some (zI b, z_wi T2 (B + 48) 8 (zI (b + 1)))) := by
  have hB := h.1.2.2.1
  have hfn : fl * n ≤ 16 := by rcases hfl with rfl | rfl <;> omega
  have eS : ∀ x, (∀ j, z_l (z_wi (z_wi (z_wi S2 B 3 (zI (b + 1))) B 17 0) B 18 0) x j = z_l S2 x j ∧ z_r (z_wi (z_wi (z_wi S2 B 3 (zI (b + 1))) B 17 0) B 18 0) x j = z_r S2 x j) ∧ z_k (z_wi (z_wi (z_wi S2 B 3 (zI (b + 1))) B 17 0) B 18 0) x = z_k S2 x ∧ z_n (z_wi (z_wi (z_wi S2 B 3 (zI (b + 1))) B 17 0) B 18 0) x = z_n S2 x ∧ (B + 1 ≤ x → ∀ j, z_i (z_wi (z_wi (z_wi S2 B 3 (zI (b + 1))) B 17 0) B 18 0) x j = z_i S2 x j) := fun x => ⟨fun j => ⟨rfl, rfl⟩, rfl, rfl, fun hx j => by rw [y_i_wi, if_neg (by omega), y_i_wi, if_neg (by omega), y_i_wi, if_neg (by omega)]⟩
  have eT : ∀ x, x ≠ B + 48 → ∀ j, z_i (z_wi T2 (B + 48) 8 (zI (b + 1))) x j = z_i T2 x j ∧ z_l (z_wi T2 (B + 48) 8 (zI (b + 1))) x j = z_l T2 x j := fun x hx j => ⟨by rw [y_i_wi, if_neg (fun z => hx z.1)], rfl⟩
  have x1 := hF.1
  refine Pr_12 h (fS_f (fS_wi hF.2.1 _ _ _ (at_B (by exact ok_2))) 0 0) (fT_wi hM.1 _ _ _ (cm_at (by exact ok_2))) (gBed_L (kd := kd) (m := m) (nf := fl * n) (h.2.2.1 1) hb _) (R1_bed (h.2.2.1 1) hb hB hn (by omega) hkd hm hF hM eS rfl ?_ eT ?_) (R2_bed (h.2.2.1 2) (h.2.2.1 1) hb hb20 hB hn hfl hF hM eS rfl ?_ eT ?_) ?_ rfl ?_ ?_
  · rw [y_i_wi, if_neg (by omega), y_i_wi, if_neg (by omega), y_i_wi, if_neg (by omega)]
  · rw [y_i_wi, if_neg (by omega)]
  · rw [y_i_wi, if_neg (by omega), y_i_wi, if_neg (by omega), y_i_wi, if_pos ⟨rfl, rfl⟩]
  · rw [y_i_wi, if_pos ⟨rfl, rfl⟩]
  · unfold Rr
    have q1 := hM.2.1 1
    have q2 := hM.2.1 2
    rw [if_pos (by omega)] at q1 q2
    rw [y_i_wi, if_neg (by omega), y_i_wi, if_pos ⟨rfl, rfl⟩, y_i_wi, if_neg (by omega), y_i_wi, if_pos ⟨rfl, rfl⟩, y_i_wi, if_neg (by omega), q1, q2]
    exact ⟨rfl, rfl⟩
  · simp only [y_x_wi]; omega
  · simp only [y_w_wi]; omega
set_option maxHeartbeats 4000000 in
theorem k_bed19 (h : RG B G S T) {kd : Nat} (hkd : kd ≤ 7) (v w : Int32) : Pr B S T (j_X11_bed_19 B (zI kd) v w S) (j_X12_bed_21 (B + 48) (zI kd) v w T) := by
  have hc := h.1
  have hm := h.2.1
  have hB := hc.2.2.1
  obtain ⟨n1, n2, n3, n4, n5⟩ : R2 B G S T := h.2.2.1 2
  unfold j_X11_bed_19 j_X12_bed_21
  by_cases h16 : 16 < v
  · simp (disch := first | assumption | omega) only [y_i_wi, y_l_wi, y_d_wi, y_r_wi, y_k_wi, y_n_wi, y_x_wi, y_w_wi, y_s_wi, y_i_wl, y_l_wl, y_d_wl, y_r_wl, y_k_wl, y_n_wl, y_x_wl, y_w_wl, y_s_wl, y_i_wd, y_l_wd, y_d_wd, y_r_wd, y_k_wd, y_n_wd, y_x_wd, y_w_wd, y_s_wd, y_i_wr, y_l_wr, y_d_wr, y_r_wr, y_k_wr, y_n_wr, y_x_wr, y_w_wr, y_s_wr, y_i_new, y_l_new, y_d_new, y_r_new, y_k_new, y_n_new, y_x_new, y_w_new, y_s_new, y_i_ci, y_l_ci, y_d_ci, y_r_ci, y_k_ci, y_n_ci, y_x_ci, y_w_ci, y_s_ci, y_i_cl, y_l_cl, y_d_cl, y_r_cl, y_k_cl, y_n_cl, y_x_cl, y_w_cl, y_s_cl, y_i_qi, y_l_qi, y_d_qi, y_r_qi, y_k_qi, y_n_qi, y_x_qi, y_w_qi, y_s_qi, y_i_ql, y_l_ql, y_d_ql, y_r_ql, y_k_ql, y_n_ql, y_x_ql, y_w_ql, y_s_ql, y_i_qd, y_l_qd, y_d_qd, y_r_qd, y_k_qd, y_n_qd, y_x_qd, y_w_qd, y_s_qd, ↓reduceIte, ↓y_tb, ↓y_tv, ↓y_tr, ↓y_tn, ↓y_ck, ↓y_ib, ↓y_nz2, ↓y_nzl2, ↓y_len2, ↓y_nn2, ↓y_nf2, ↓y_l2d2, y_gb, y_gn, y_gi, y_gv, y_gv', y_grN, y_grS, y_glN, y_glS, Nat.reduceAdd, Nat.reduceMul, Nat.reduceSub, Nat.reduceDiv, Nat.reduceMod, Nat.reduceLT, Nat.reduceLeDiff, y_rb0, y_rb1, y_b0, y_b0', y_10, zL_eq, zL_cl, Nat.add_sub_cancel, implies_true, Int32.reduceLT, Int32.reduceLE, if_true, if_false, true_and, and_true, false_and, and_false, true_or, or_true, false_or, or_false, not_true_eq_false, not_false_eq_true, ne_eq, and_self, or_self, reduceCtorEq, Nat.add_left_cancel_iff, Nat.left_eq_add, Nat.add_eq_left, Nat.reduceEqDiff, zI_of, zI_cl, zI_add, zI_mul, zI_lt, zI_le, zI_eq, zI_mulL, zI_mulR, zI_addL, zI_addR, zI_subR, zI_sub, zI_divR, zI_ltR, zI_ltL, zI_leR, zI_leL, zI_eqR, zI_eqL, zI_neN, zI_neN', zI_ltN, zI_leN, zN_lt, zF1, zF2, zF3, zF4, zF5, zF6, zF7, zF8, zU_lt, zG1, zG2, zG3, zG4, zG5, zG6, zU1, zU2, zU3, zU4, zN_0, zN_le0, zI_lt0, zI_0le, zI_pred, zI_pred', zI_predS, zI_predT, zJ_le, zJ_lt, zJ_leL, zJ_leR, y_cl0, y_0cl, y_cle, y_lec, y_ceq, n_lt, n_le, n_nlt, n_nle,  h16]
    exact Pr_n' h rfl
  by_cases h64 : w ≤ 64
  · by_cases hb20 : G 0 2 = 20
    · rw [hb20] at n2 n3
      simp (disch := first | assumption | omega) only [y_i_wi, y_l_wi, y_d_wi, y_r_wi, y_k_wi, y_n_wi, y_x_wi, y_w_wi, y_s_wi, y_i_wl, y_l_wl, y_d_wl, y_r_wl, y_k_wl, y_n_wl, y_x_wl, y_w_wl, y_s_wl, y_i_wd, y_l_wd, y_d_wd, y_r_wd, y_k_wd, y_n_wd, y_x_wd, y_w_wd, y_s_wd, y_i_wr, y_l_wr, y_d_wr, y_r_wr, y_k_wr, y_n_wr, y_x_wr, y_w_wr, y_s_wr, y_i_new, y_l_new, y_d_new, y_r_new, y_k_new, y_n_new, y_x_new, y_w_new, y_s_new, y_i_ci, y_l_ci, y_d_ci, y_r_ci, y_k_ci, y_n_ci, y_x_ci, y_w_ci, y_s_ci, y_i_cl, y_l_cl, y_d_cl, y_r_cl, y_k_cl, y_n_cl, y_x_cl, y_w_cl, y_s_cl, y_i_qi, y_l_qi, y_d_qi, y_r_qi, y_k_qi, y_n_qi, y_x_qi, y_w_qi, y_s_qi, y_i_ql, y_l_ql, y_d_ql, y_r_ql, y_k_ql, y_n_ql, y_x_ql, y_w_ql, y_s_ql, y_i_qd, y_l_qd, y_d_qd, y_r_qd, y_k_qd, y_n_qd, y_x_qd, y_w_qd, y_s_qd, ↓reduceIte, ↓y_tb, ↓y_tv, ↓y_tr, ↓y_tn, ↓y_ck, ↓y_ib, ↓y_nz2, ↓y_nzl2, ↓y_len2, ↓y_nn2, ↓y_nf2, ↓y_l2d2, y_gb, y_gn, y_gi, y_gv, y_gv', y_grN, y_grS, y_glN, y_glS, Nat.reduceAdd, Nat.reduceMul, Nat.reduceSub, Nat.reduceDiv, Nat.reduceMod, Nat.reduceLT, Nat.reduceLeDiff, y_rb0, y_rb1, y_b0, y_b0', y_10, zL_eq, zL_cl, Nat.add_sub_cancel, implies_true, Int32.reduceLT, Int32.reduceLE, if_true, if_false, true_and, and_true, false_and, and_false, true_or, or_true, false_or, or_false, not_true_eq_false, not_false_eq_true, ne_eq, and_self, or_self, reduceCtorEq, Nat.add_left_cancel_iff, Nat.left_eq_add, Nat.add_eq_left, Nat.reduceEqDiff, zI_of, zI_cl, zI_add, zI_mul, zI_lt, zI_le, zI_eq, zI_mulL, zI_mulR, zI_addL, zI_addR, zI_subR, zI_sub, zI_divR, zI_ltR, zI_ltL, zI_leR, zI_leL, zI_eqR, zI_eqL, zI_neN, zI_neN', zI_ltN, zI_leN, zN_lt, zF1, zF2, zF3, zF4, zF5, zF6, zF7, zF8, zU_lt, zG1, zG2, zG3, zG4, zG5, zG6, zU1, zU2, zU3, zU4, zN_0, zN_le0, zI_lt0, zI_0le, zI_pred, zI_pred', zI_predS, zI_predT, zJ_le, zJ_lt, zJ_leL, zJ_leR, y_cl0, y_0cl, y_cle, y_lec, y_ceq, n_lt, n_le, n_nlt, n_nle,  h16, h64, kc_0 hc, km_48 hm, n2, n3]
      exact Pr_n' h rfl
    · have hbl : G 0 2 < 20 := by omega
      by_cases hv0 : v < 0
      · simp (disch := first | assumption | omega) only [y_i_wi, y_l_wi, y_d_wi, y_r_wi, y_k_wi, y_n_wi, y_x_wi, y_w_wi, y_s_wi, y_i_wl, y_l_wl, y_d_wl, y_r_wl, y_k_wl, y_n_wl, y_x_wl, y_w_wl, y_s_wl, y_i_wd, y_l_wd, y_d_wd, y_r_wd, y_k_wd, y_n_wd, y_x_wd, y_w_wd, y_s_wd, y_i_wr, y_l_wr, y_d_wr, y_r_wr, y_k_wr, y_n_wr, y_x_wr, y_w_wr, y_s_wr, y_i_new, y_l_new, y_d_new, y_r_new, y_k_new, y_n_new, y_x_new, y_w_new, y_s_new, y_i_ci, y_l_ci, y_d_ci, y_r_ci, y_k_ci, y_n_ci, y_x_ci, y_w_ci, y_s_ci, y_i_cl, y_l_cl, y_d_cl, y_r_cl, y_k_cl, y_n_cl, y_x_cl, y_w_cl, y_s_cl, y_i_qi, y_l_qi, y_d_qi, y_r_qi, y_k_qi, y_n_qi, y_x_qi, y_w_qi, y_s_qi, y_i_ql, y_l_ql, y_d_ql, y_r_ql, y_k_ql, y_n_ql, y_x_ql, y_w_ql, y_s_ql, y_i_qd, y_l_qd, y_d_qd, y_r_qd, y_k_qd, y_n_qd, y_x_qd, y_w_qd, y_s_qd, ↓reduceIte, ↓y_tb, ↓y_tv, ↓y_tr, ↓y_tn, ↓y_ck, ↓y_ib, ↓y_nz2, ↓y_nzl2, ↓y_len2, ↓y_nn2, ↓y_nf2, ↓y_l2d2, y_gb, y_gn, y_gi, y_gv, y_gv', y_grN, y_grS, y_glN, y_glS, Nat.reduceAdd, Nat.reduceMul, Nat.reduceSub, Nat.reduceDiv, Nat.reduceMod, Nat.reduceLT, Nat.reduceLeDiff, y_rb0, y_rb1, y_b0, y_b0', y_10, zL_eq, zL_cl, Nat.add_sub_cancel, implies_true, Int32.reduceLT, Int32.reduceLE, if_true, if_false, true_and, and_true, false_and, and_false, true_or, or_true, false_or, or_false, not_true_eq_false, not_false_eq_true, ne_eq, and_self, or_self, reduceCtorEq, Nat.add_left_cancel_iff, Nat.left_eq_add, Nat.add_eq_left, Nat.reduceEqDiff, zI_of, zI_cl, zI_add, zI_mul, zI_lt, zI_le, zI_eq, zI_mulL, zI_mulR, zI_addL, zI_addR, zI_subR, zI_sub, zI_divR, zI_ltR, zI_ltL, zI_leR, zI_leL, zI_eqR, zI_eqL, zI_neN, zI_neN', zI_ltN, zI_leN, zN_lt, zF1, zF2, zF3, zF4, zF5, zF6, zF7, zF8, zU_lt, zG1, zG2, zG3, zG4, zG5, zG6, zU1, zU2, zU3, zU4, zN_0, zN_le0, zI_lt0, zI_0le, zI_pred, zI_pred', zI_predS, zI_predT, zJ_le, zJ_lt, zJ_leL, zJ_leR, y_cl0, y_0cl, y_cle, y_lec, y_ceq, n_lt, n_le, n_nlt, n_nle,  h16, h64, kc_0 hc, km_48 hm, n2, n3, hb20, hbl, hv0, x_fails, x_mfails]
        exact Pr_f' h 3 0 rfl
      by_cases hw1 : -1 ≤ w
      · obtain ⟨n, hn, rfl⟩ : ∃ q, q ≤ 16 ∧ v = zI q := by
          rcases ixc v (nat_lit 16) (by decide) with ⟨q, -⟩ | q
          · exact absurd q (fun q => q.elim hv0 h16)
          · exact q
        obtain ⟨b, hb⟩ : ∃ b, G 0 2 = b := ⟨_, rfl⟩
        rw [hb] at n2 n3 hb20 hbl
        have hn' : ¬ 16 < n := by omega
        have xi : f_X1_init (z_x S) (zI kd) (zI n) (z_new S 2 2) = some (z_wr (z_new (z_wi (z_new S 2 2) (z_x S) 0 (zI kd)) 110 n) (z_x S) 1 (some (z_x S + 1))) := by
          have e5 : ¬ z_x S = z_x S + 1 := by omega
          have e6 : ¬ 30000 < n := by omega
          rw [e_X1_init]; unfold b_X1_init
          simp (disch := first | assumption | omega) only [y_i_wi, y_l_wi, y_d_wi, y_r_wi, y_k_wi, y_n_wi, y_x_wi, y_w_wi, y_s_wi, y_i_wl, y_l_wl, y_d_wl, y_r_wl, y_k_wl, y_n_wl, y_x_wl, y_w_wl, y_s_wl, y_i_wd, y_l_wd, y_d_wd, y_r_wd, y_k_wd, y_n_wd, y_x_wd, y_w_wd, y_s_wd, y_i_wr, y_l_wr, y_d_wr, y_r_wr, y_k_wr, y_n_wr, y_x_wr, y_w_wr, y_s_wr, y_i_new, y_l_new, y_d_new, y_r_new, y_k_new, y_n_new, y_x_new, y_w_new, y_s_new, y_i_ci, y_l_ci, y_d_ci, y_r_ci, y_k_ci, y_n_ci, y_x_ci, y_w_ci, y_s_ci, y_i_cl, y_l_cl, y_d_cl, y_r_cl, y_k_cl, y_n_cl, y_x_cl, y_w_cl, y_s_cl, y_i_qi, y_l_qi, y_d_qi, y_r_qi, y_k_qi, y_n_qi, y_x_qi, y_w_qi, y_s_qi, y_i_ql, y_l_ql, y_d_ql, y_r_ql, y_k_ql, y_n_ql, y_x_ql, y_w_ql, y_s_ql, y_i_qd, y_l_qd, y_d_qd, y_r_qd, y_k_qd, y_n_qd, y_x_qd, y_w_qd, y_s_qd, ↓reduceIte, ↓y_tb, ↓y_tv, ↓y_tr, ↓y_tn, ↓y_ck, ↓y_ib, ↓y_nz2, ↓y_nzl2, ↓y_len2, ↓y_nn2, ↓y_nf2, ↓y_l2d2, y_gb, y_gn, y_gi, y_gv, y_gv', y_grN, y_grS, y_glN, y_glS, Nat.reduceAdd, Nat.reduceMul, Nat.reduceSub, Nat.reduceDiv, Nat.reduceMod, Nat.reduceLT, Nat.reduceLeDiff, y_rb0, y_rb1, y_b0, y_b0', y_10, zL_eq, zL_cl, Nat.add_sub_cancel, implies_true, Int32.reduceLT, Int32.reduceLE, if_true, if_false, true_and, and_true, false_and, and_false, true_or, or_true, false_or, or_false, not_true_eq_false, not_false_eq_true, ne_eq, and_self, or_self, reduceCtorEq, Nat.add_left_cancel_iff, Nat.left_eq_add, Nat.add_eq_left, Nat.reduceEqDiff, zI_of, zI_cl, zI_add, zI_mul, zI_lt, zI_le, zI_eq, zI_mulL, zI_mulR, zI_addL, zI_addR, zI_subR, zI_sub, zI_divR, zI_ltR, zI_ltL, zI_leR, zI_leL, zI_eqR, zI_eqL, zI_neN, zI_neN', zI_ltN, zI_leN, zN_lt, zF1, zF2, zF3, zF4, zF5, zF6, zF7, zF8, zU_lt, zG1, zG2, zG3, zG4, zG5, zG6, zU1, zU2, zU3, zU4, zN_0, zN_le0, zI_lt0, zI_0le, zI_pred, zI_pred', zI_predS, zI_predT, zJ_le, zJ_lt, zJ_leL, zJ_leR, y_cl0, y_0cl, y_cle, y_lec, y_ceq, n_lt, n_le, n_nlt, n_nle,  e5, e6]
        have key : ∀ m, FI B G S b kd m n 0 (z_wr (z_wr (z_new (z_wi (z_new S 2 2) (z_x S) 0 (zI kd)) 110 n) (z_x S) 1 (some (z_x S + 1))) (B + 2) b (some (z_x S))) := fun m => FI_0 hB hn
        have kb : z_k (z_wr (z_new (z_wi (z_new S 2 2) (z_x S) 0 (zI kd)) 110 n) (z_x S) 1 (some (z_x S + 1))) (z_x S) = 2 := (key 0).2.2.2.2.1.1
        have hcb : cSh B (z_wr (z_new (z_wi (z_new S 2 2) (z_x S) 0 (zI kd)) 110 n) (z_x S) 1 (some (z_x S + 1))) := cSh_up hc (fS_wr (fS_new (fS_wi (G := G) (cs := c12) (fS_new fS_rf _ _) _ _ _ (at_new (Nat.le_refl _))) _ _) _ _ _ (at_new (Nat.le_refl _))) (fun q => by unfold c12 at q; omega)
        generalize z_wr (z_new (z_wi (z_new S 2 2) (z_x S) 0 (zI kd)) 110 n) (z_x S) 1 (some (z_x S + 1)) = Sb at *
        generalize hS6 : z_wr Sb (B + 2) b (some (z_x S)) = S6 at *
        have hc6 : cSh B S6 := cSh_up hc (key 0).2.1 (fun q => by unfold c12 at q; omega)
        have e6 : z_r S6 (B + 2) b = some (z_x S) := by rw [(key 0).2.2.2.1.1, if_pos rfl]
        have e7 : z_i S6 B 3 = zI b := by rw [(key 0).2.2.2.1.2.2]; exact n2
        have e7b : z_i Sb B 3 = zI b := by rw [← hS6] at e7; exact e7
        have k6 := (key 0).2.2.2.2.1.1
        have knew : z_k (z_new S 2 2) (z_x S) = 2 := by rw [y_k_new, if_pos rfl]
        have eb1 : zI (b + 1) - 1 = zI b := zI_sub (a := b + 1) (b := 1) (by omega) (by omega)
        have M0 : ∀ m fl, MI B T b kd m n fl 0 (z_wi (z_wi (z_wi (z_wi T (B + 48) 1 0) (B + 48) 2 0) (B + 53) b (zI kd)) (B + 54) b (zI n)) := by
          intro m fl
          refine ⟨fT_wi (fT_wi (fT_f fT_rf 0 0) _ _ _ (cm_at (by exact ok_2))) _ _ _ (cm_at (by exact ok_2)), fun k => ?_, fun j => ?_, fun j => ?_, fun j => ?_, fun j => ?_, fun j => ?_, fun j hj => rfl, fun s hs => by omega⟩
          · rw [y_i_wi, if_neg (by omega), y_i_wi, if_neg (by omega), y_i_wi]
            by_cases e2 : k = 2
            · rw [if_pos ⟨rfl, e2⟩, if_pos (Or.inr e2)]
            · rw [if_neg (fun z => e2 z.2), y_i_wi]
              by_cases e1 : k = 1
              · rw [if_pos ⟨rfl, e1⟩, if_pos (Or.inl e1)]
              · rw [if_neg (fun z => e1 z.2), if_neg (by omega)]
          · rw [y_i_wi, if_neg (by omega), y_i_wi]
            by_cases e : j = b
            · rw [if_pos ⟨rfl, e⟩, if_pos e]
            · rw [if_neg (fun z => e z.2), if_neg e, y_i_wi, if_neg (by omega), y_i_wi, if_neg (by omega)]
          · rw [y_i_wi]
            by_cases e : j = b
            · rw [if_pos ⟨rfl, e⟩, if_pos e]
            · rw [if_neg (fun z => e z.2), if_neg e, y_i_wi, if_neg (by omega), y_i_wi, if_neg (by omega), y_i_wi, if_neg (by omega)]
          · rw [y_i_wi, if_neg (by omega), y_i_wi, if_neg (by omega), y_i_wi, if_neg (by omega), y_i_wi, if_neg (by omega), if_neg (by omega)]
          · rw [y_i_wi, if_neg (by omega), y_i_wi, if_neg (by omega), y_i_wi, if_neg (by omega), y_i_wi, if_neg (by omega), if_neg (by omega)]
          · rw [y_i_wi, if_neg (by omega), y_i_wi, if_neg (by omega), y_i_wi, if_neg (by omega), y_i_wi, if_neg (by omega), if_neg (by omega)]
        rcases ixm w (nat_lit 64) (by decide) with ⟨q, -⟩ | rfl | ⟨m, hm64, rfl⟩
        · exact absurd q (fun q => q.elim (fun q => absurd hw1 (Int32.not_le.mpr q)) (fun q => absurd h64 (Int32.not_le.mpr q)))
        · obtain ⟨T2, t1, t2⟩ := l_lay0 (m := 0) (kd := kd) hm hbl hn n3 n z_N 0 _ (by omega) (by omega) (by rw [z_N_eq]; omega) (M0 0 0)
          have t1' : l_X12_bed_92 z_N (B + 48) (zI kd) (zI n) (-1) 0 (z_wi (z_wi (z_wi (z_wi T (B + 48) 1 0) (B + 48) 2 0) (B + 53) b (zI kd)) (B + 54) b (zI n)) = some (zI b, z_wi T2 (B + 48) 8 (zI (b + 1))) := t1
          have l1 : ((-1 : Int32) ≤ -1) = True := by decide
          have l2 : ((-1 : Int32) ≤ 64) = True := by decide
          simp (disch := first | assumption | omega) only [y_i_wi, y_l_wi, y_d_wi, y_r_wi, y_k_wi, y_n_wi, y_x_wi, y_w_wi, y_s_wi, y_i_wl, y_l_wl, y_d_wl, y_r_wl, y_k_wl, y_n_wl, y_x_wl, y_w_wl, y_s_wl, y_i_wd, y_l_wd, y_d_wd, y_r_wd, y_k_wd, y_n_wd, y_x_wd, y_w_wd, y_s_wd, y_i_wr, y_l_wr, y_d_wr, y_r_wr, y_k_wr, y_n_wr, y_x_wr, y_w_wr, y_s_wr, y_i_new, y_l_new, y_d_new, y_r_new, y_k_new, y_n_new, y_x_new, y_w_new, y_s_new, y_i_ci, y_l_ci, y_d_ci, y_r_ci, y_k_ci, y_n_ci, y_x_ci, y_w_ci, y_s_ci, y_i_cl, y_l_cl, y_d_cl, y_r_cl, y_k_cl, y_n_cl, y_x_cl, y_w_cl, y_s_cl, y_i_qi, y_l_qi, y_d_qi, y_r_qi, y_k_qi, y_n_qi, y_x_qi, y_w_qi, y_s_qi, y_i_ql, y_l_ql, y_d_ql, y_r_ql, y_k_ql, y_n_ql, y_x_ql, y_w_ql, y_s_ql, y_i_qd, y_l_qd, y_d_qd, y_r_qd, y_k_qd, y_n_qd, y_x_qd, y_w_qd, y_s_qd, ↓reduceIte, ↓y_tb, ↓y_tv, ↓y_tr, ↓y_tn, ↓y_ck, ↓y_ib, ↓y_nz2, ↓y_nzl2, ↓y_len2, ↓y_nn2, ↓y_nf2, ↓y_l2d2, y_gb, y_gn, y_gi, y_gv, y_gv', y_grN, y_grS, y_glN, y_glS, Nat.reduceAdd, Nat.reduceMul, Nat.reduceSub, Nat.reduceDiv, Nat.reduceMod, Nat.reduceLT, Nat.reduceLeDiff, y_rb0, y_rb1, y_b0, y_b0', y_10, zL_eq, zL_cl, Nat.add_sub_cancel, implies_true, Int32.reduceLT, Int32.reduceLE, if_true, if_false, true_and, and_true, false_and, and_false, true_or, or_true, false_or, or_false, not_true_eq_false, not_false_eq_true, ne_eq, and_self, or_self, reduceCtorEq, Nat.add_left_cancel_iff, Nat.left_eq_add, Nat.add_eq_left, Nat.reduceEqDiff, zI_of, zI_cl, zI_add, zI_mul, zI_lt, zI_le, zI_eq, zI_mulL, zI_mulR, zI_addL, zI_addR, zI_subR, zI_sub, zI_divR, zI_ltR, zI_ltL, zI_leR, zI_leL, zI_eqR, zI_eqL, zI_neN, zI_neN', zI_ltN, zI_leN, zN_lt, zF1, zF2, zF3, zF4, zF5, zF6, zF7, zF8, zU_lt, zG1, zG2, zG3, zG4, zG5, zG6, zU1, zU2, zU3, zU4, zN_0, zN_le0, zI_lt0, zI_0le, zI_pred, zI_pred', zI_predS, zI_predT, zJ_le, zJ_lt, zJ_leL, zJ_leR, y_cl0, y_0cl, y_cle, y_lec, y_ceq, n_lt, n_le, n_nlt, n_nle,  j_X11_bed_97, hn', kc_0 hc, km_48 hm, n2, n3, hb20, hbl, l1, l2, knew, xi, rc_0_2 hc, kc_2 hcb, nc_2 hcb, kb, kc_0 hcb, rc_0_2 hcb, e7b, hS6, kc_0 hc6, e7, eb1, x_passes, x_well, rm_48_9 hm, km_53 hm, nm_53 hm, rm_48_10 hm, km_54 hm, nm_54 hm, t1']
          exact bed_end (fl := 0) h hb hbl hkd (by omega) hn (Or.inl rfl) (by rw [Nat.zero_mul]; exact key 0) t2
        · obtain ⟨T2, t1, t2⟩ := l_lay1 (kd := kd) hm hbl hm64 hn n3 n z_N 0 _ (by omega) (by omega) (by rw [z_N_eq]; omega) (M0 m 1)
          have t1' : l_X12_bed_92 z_N (B + 48) (zI kd) (zI n) (zI m) 0 (z_wi (z_wi (z_wi (z_wi T (B + 48) 1 0) (B + 48) 2 0) (B + 53) b (zI kd)) (B + 54) b (zI n)) = some (zI b, z_wi T2 (B + 48) 8 (zI (b + 1))) := t1
          obtain ⟨S2, s1, s2⟩ := l_fill hB hm64 hn n z_N 0 S6 (by omega) (by omega) (by rw [z_N_eq]; omega) (key m)
          have s1' : f_X1_fill (z_x S) (zI m) S6 = some S2 := by rw [e_X1_fill]; exact s1
          have hc2 : cSh B S2 := cSh_up hc s2.2.1 (fun q => by unfold c12 at q; omega)
          have e8 : z_i S2 B 3 = zI b := by rw [s2.2.2.2.1.2.2]; exact n2
          have hm' : m ≤ 64 := hm64
          have l3 : ((-1 : Int32) ≤ zI m) = True := eq_true hw1
          simp (disch := first | assumption | omega) only [y_i_wi, y_l_wi, y_d_wi, y_r_wi, y_k_wi, y_n_wi, y_x_wi, y_w_wi, y_s_wi, y_i_wl, y_l_wl, y_d_wl, y_r_wl, y_k_wl, y_n_wl, y_x_wl, y_w_wl, y_s_wl, y_i_wd, y_l_wd, y_d_wd, y_r_wd, y_k_wd, y_n_wd, y_x_wd, y_w_wd, y_s_wd, y_i_wr, y_l_wr, y_d_wr, y_r_wr, y_k_wr, y_n_wr, y_x_wr, y_w_wr, y_s_wr, y_i_new, y_l_new, y_d_new, y_r_new, y_k_new, y_n_new, y_x_new, y_w_new, y_s_new, y_i_ci, y_l_ci, y_d_ci, y_r_ci, y_k_ci, y_n_ci, y_x_ci, y_w_ci, y_s_ci, y_i_cl, y_l_cl, y_d_cl, y_r_cl, y_k_cl, y_n_cl, y_x_cl, y_w_cl, y_s_cl, y_i_qi, y_l_qi, y_d_qi, y_r_qi, y_k_qi, y_n_qi, y_x_qi, y_w_qi, y_s_qi, y_i_ql, y_l_ql, y_d_ql, y_r_ql, y_k_ql, y_n_ql, y_x_ql, y_w_ql, y_s_ql, y_i_qd, y_l_qd, y_d_qd, y_r_qd, y_k_qd, y_n_qd, y_x_qd, y_w_qd, y_s_qd, ↓reduceIte, ↓y_tb, ↓y_tv, ↓y_tr, ↓y_tn, ↓y_ck, ↓y_ib, ↓y_nz2, ↓y_nzl2, ↓y_len2, ↓y_nn2, ↓y_nf2, ↓y_l2d2, y_gb, y_gn, y_gi, y_gv, y_gv', y_grN, y_grS, y_glN, y_glS, Nat.reduceAdd, Nat.reduceMul, Nat.reduceSub, Nat.reduceDiv, Nat.reduceMod, Nat.reduceLT, Nat.reduceLeDiff, y_rb0, y_rb1, y_b0, y_b0', y_10, zL_eq, zL_cl, Nat.add_sub_cancel, implies_true, Int32.reduceLT, Int32.reduceLE, if_true, if_false, true_and, and_true, false_and, and_false, true_or, or_true, false_or, or_false, not_true_eq_false, not_false_eq_true, ne_eq, and_self, or_self, reduceCtorEq, Nat.add_left_cancel_iff, Nat.left_eq_add, Nat.add_eq_left, Nat.reduceEqDiff, zI_of, zI_cl, zI_add, zI_mul, zI_lt, zI_le, zI_eq, zI_mulL, zI_mulR, zI_addL, zI_addR, zI_subR, zI_sub, zI_divR, zI_ltR, zI_ltL, zI_leR, zI_leL, zI_eqR, zI_eqL, zI_neN, zI_neN', zI_ltN, zI_leN, zN_lt, zF1, zF2, zF3, zF4, zF5, zF6, zF7, zF8, zU_lt, zG1, zG2, zG3, zG4, zG5, zG6, zU1, zU2, zU3, zU4, zN_0, zN_le0, zI_lt0, zI_0le, zI_pred, zI_pred', zI_predS, zI_predT, zJ_le, zJ_lt, zJ_leL, zJ_leR, y_cl0, y_0cl, y_cle, y_lec, y_ceq, n_lt, n_le, n_nlt, n_nle,  j_X11_bed_97, hn', hm', kc_0 hc, km_48 hm, n2, n3, hb20, hbl, l3, knew, xi, rc_0_2 hc, kc_2 hcb, nc_2 hcb, kb, kc_0 hcb, rc_0_2 hcb, e7b, hS6, kc_0 hc6, rc_0_2 hc6, kc_2 hc6, nc_2 hc6, e6, e7, k6, s1', kc_0 hc2, e8, eb1, x_passes, x_well, rm_48_9 hm, km_53 hm, nm_53 hm, rm_48_10 hm, km_54 hm, nm_54 hm, t1']
          exact bed_end (fl := 1) h hb hbl hkd hm64 hn (Or.inr rfl) (by rw [Nat.one_mul]; exact s2) t2
      · simp (disch := first | assumption | omega) only [y_i_wi, y_l_wi, y_d_wi, y_r_wi, y_k_wi, y_n_wi, y_x_wi, y_w_wi, y_s_wi, y_i_wl, y_l_wl, y_d_wl, y_r_wl, y_k_wl, y_n_wl, y_x_wl, y_w_wl, y_s_wl, y_i_wd, y_l_wd, y_d_wd, y_r_wd, y_k_wd, y_n_wd, y_x_wd, y_w_wd, y_s_wd, y_i_wr, y_l_wr, y_d_wr, y_r_wr, y_k_wr, y_n_wr, y_x_wr, y_w_wr, y_s_wr, y_i_new, y_l_new, y_d_new, y_r_new, y_k_new, y_n_new, y_x_new, y_w_new, y_s_new, y_i_ci, y_l_ci, y_d_ci, y_r_ci, y_k_ci, y_n_ci, y_x_ci, y_w_ci, y_s_ci, y_i_cl, y_l_cl, y_d_cl, y_r_cl, y_k_cl, y_n_cl, y_x_cl, y_w_cl, y_s_cl, y_i_qi, y_l_qi, y_d_qi, y_r_qi, y_k_qi, y_n_qi, y_x_qi, y_w_qi, y_s_qi, y_i_ql, y_l_ql, y_d_ql, y_r_ql, y_k_ql, y_n_ql, y_x_ql, y_w_ql, y_s_ql, y_i_qd, y_l_qd, y_d_qd, y_r_qd, y_k_qd, y_n_qd, y_x_qd, y_w_qd, y_s_qd, ↓reduceIte, ↓y_tb, ↓y_tv, ↓y_tr, ↓y_tn, ↓y_ck, ↓y_ib, ↓y_nz2, ↓y_nzl2, ↓y_len2, ↓y_nn2, ↓y_nf2, ↓y_l2d2, y_gb, y_gn, y_gi, y_gv, y_gv', y_grN, y_grS, y_glN, y_glS, Nat.reduceAdd, Nat.reduceMul, Nat.reduceSub, Nat.reduceDiv, Nat.reduceMod, Nat.reduceLT, Nat.reduceLeDiff, y_rb0, y_rb1, y_b0, y_b0', y_10, zL_eq, zL_cl, Nat.add_sub_cancel, implies_true, Int32.reduceLT, Int32.reduceLE, if_true, if_false, true_and, and_true, false_and, and_false, true_or, or_true, false_or, or_false, not_true_eq_false, not_false_eq_true, ne_eq, and_self, or_self, reduceCtorEq, Nat.add_left_cancel_iff, Nat.left_eq_add, Nat.add_eq_left, Nat.reduceEqDiff, zI_of, zI_cl, zI_add, zI_mul, zI_lt, zI_le, zI_eq, zI_mulL, zI_mulR, zI_addL, zI_addR, zI_subR, zI_sub, zI_divR, zI_ltR, zI_ltL, zI_leR, zI_leL, zI_eqR, zI_eqL, zI_neN, zI_neN', zI_ltN, zI_leN, zN_lt, zF1, zF2, zF3, zF4, zF5, zF6, zF7, zF8, zU_lt, zG1, zG2, zG3, zG4, zG5, zG6, zU1, zU2, zU3, zU4, zN_0, zN_le0, zI_lt0, zI_0le, zI_pred, zI_pred', zI_predS, zI_predT, zJ_le, zJ_lt, zJ_leL, zJ_leR, y_cl0, y_0cl, y_cle, y_lec, y_ceq, n_lt, n_le, n_nlt, n_nle,  h16, h64, kc_0 hc, km_48 hm, n2, n3, hb20, hbl, hv0, hw1, x_fails, x_mfails]
        exact Pr_f' h 3 0 rfl
  · simp (disch := first | assumption | omega) only [y_i_wi, y_l_wi, y_d_wi, y_r_wi, y_k_wi, y_n_wi, y_x_wi, y_w_wi, y_s_wi, y_i_wl, y_l_wl, y_d_wl, y_r_wl, y_k_wl, y_n_wl, y_x_wl, y_w_wl, y_s_wl, y_i_wd, y_l_wd, y_d_wd, y_r_wd, y_k_wd, y_n_wd, y_x_wd, y_w_wd, y_s_wd, y_i_wr, y_l_wr, y_d_wr, y_r_wr, y_k_wr, y_n_wr, y_x_wr, y_w_wr, y_s_wr, y_i_new, y_l_new, y_d_new, y_r_new, y_k_new, y_n_new, y_x_new, y_w_new, y_s_new, y_i_ci, y_l_ci, y_d_ci, y_r_ci, y_k_ci, y_n_ci, y_x_ci, y_w_ci, y_s_ci, y_i_cl, y_l_cl, y_d_cl, y_r_cl, y_k_cl, y_n_cl, y_x_cl, y_w_cl, y_s_cl, y_i_qi, y_l_qi, y_d_qi, y_r_qi, y_k_qi, y_n_qi, y_x_qi, y_w_qi, y_s_qi, y_i_ql, y_l_ql, y_d_ql, y_r_ql, y_k_ql, y_n_ql, y_x_ql, y_w_ql, y_s_ql, y_i_qd, y_l_qd, y_d_qd, y_r_qd, y_k_qd, y_n_qd, y_x_qd, y_w_qd, y_s_qd, ↓reduceIte, ↓y_tb, ↓y_tv, ↓y_tr, ↓y_tn, ↓y_ck, ↓y_ib, ↓y_nz2, ↓y_nzl2, ↓y_len2, ↓y_nn2, ↓y_nf2, ↓y_l2d2, y_gb, y_gn, y_gi, y_gv, y_gv', y_grN, y_grS, y_glN, y_glS, Nat.reduceAdd, Nat.reduceMul, Nat.reduceSub, Nat.reduceDiv, Nat.reduceMod, Nat.reduceLT, Nat.reduceLeDiff, y_rb0, y_rb1, y_b0, y_b0', y_10, zL_eq, zL_cl, Nat.add_sub_cancel, implies_true, Int32.reduceLT, Int32.reduceLE, if_true, if_false, true_and, and_true, false_and, and_false, true_or, or_true, false_or, or_false, not_true_eq_false, not_false_eq_true, ne_eq, and_self, or_self, reduceCtorEq, Nat.add_left_cancel_iff, Nat.left_eq_add, Nat.add_eq_left, Nat.reduceEqDiff, zI_of, zI_cl, zI_add, zI_mul, zI_lt, zI_le, zI_eq, zI_mulL, zI_mulR, zI_addL, zI_addR, zI_subR, zI_sub, zI_divR, zI_ltR, zI_ltL, zI_leR, zI_leL, zI_eqR, zI_eqL, zI_neN, zI_neN', zI_ltN, zI_leN, zN_lt, zF1, zF2, zF3, zF4, zF5, zF6, zF7, zF8, zU_lt, zG1, zG2, zG3, zG4, zG5, zG6, zU1, zU2, zU3, zU4, zN_0, zN_le0, zI_lt0, zI_0le, zI_pred, zI_pred', zI_predS, zI_predT, zJ_le, zJ_lt, zJ_leL, zJ_leR, y_cl0, y_0cl, y_cle, y_lec, y_ceq, n_lt, n_le, n_nlt, n_nle,  h16, h64]
    exact Pr_n' h rfl
theorem k_bed (h : Rel B S T) (k v w : Int32) : Pr B S T (f_X11_bed B k v w S) (f_X12_bed (B + 48) k v w T) := by
  obtain ⟨G, h⟩ := h
  rw [e_X11_bed, e_X12_bed]; unfold b_X11_bed b_X12_bed
  have hm0 := h.2.1
  simp only [y_ck, km_48 hm0, if_true]
  generalize hT1 : z_wi T (B + 48) 0 0 = T1
  refine Pr_T hT1 ?_
  replace h := RG_0 h; rw [hT1] at h; clear hT1 hm0
  have hc := h.1
  have hm := h.2.1
  by_cases c1 : k = 1
  · subst c1
    have := k_bed19 h (kd := 1) (by decide) v w
    simp (disch := first | assumption | omega) only [y_i_wi, y_l_wi, y_d_wi, y_r_wi, y_k_wi, y_n_wi, y_x_wi, y_w_wi, y_s_wi, y_i_wl, y_l_wl, y_d_wl, y_r_wl, y_k_wl, y_n_wl, y_x_wl, y_w_wl, y_s_wl, y_i_wd, y_l_wd, y_d_wd, y_r_wd, y_k_wd, y_n_wd, y_x_wd, y_w_wd, y_s_wd, y_i_wr, y_l_wr, y_d_wr, y_r_wr, y_k_wr, y_n_wr, y_x_wr, y_w_wr, y_s_wr, y_i_new, y_l_new, y_d_new, y_r_new, y_k_new, y_n_new, y_x_new, y_w_new, y_s_new, y_i_ci, y_l_ci, y_d_ci, y_r_ci, y_k_ci, y_n_ci, y_x_ci, y_w_ci, y_s_ci, y_i_cl, y_l_cl, y_d_cl, y_r_cl, y_k_cl, y_n_cl, y_x_cl, y_w_cl, y_s_cl, y_i_qi, y_l_qi, y_d_qi, y_r_qi, y_k_qi, y_n_qi, y_x_qi, y_w_qi, y_s_qi, y_i_ql, y_l_ql, y_d_ql, y_r_ql, y_k_ql, y_n_ql, y_x_ql, y_w_ql, y_s_ql, y_i_qd, y_l_qd, y_d_qd, y_r_qd, y_k_qd, y_n_qd, y_x_qd, y_w_qd, y_s_qd, ↓reduceIte, ↓y_tb, ↓y_tv, ↓y_tr, ↓y_tn, ↓y_ck, ↓y_ib, ↓y_nz2, ↓y_nzl2, ↓y_len2, ↓y_nn2, ↓y_nf2, ↓y_l2d2, y_gb, y_gn, y_gi, y_gv, y_gv', y_grN, y_grS, y_glN, y_glS, Nat.reduceAdd, Nat.reduceMul, Nat.reduceSub, Nat.reduceDiv, Nat.reduceMod, Nat.reduceLT, Nat.reduceLeDiff, y_rb0, y_rb1, y_b0, y_b0', y_10, zL_eq, zL_cl, Nat.add_sub_cancel, implies_true, Int32.reduceLT, Int32.reduceLE, if_true, if_false, true_and, and_true, false_and, and_false, true_or, or_true, false_or, or_false, not_true_eq_false, not_false_eq_true, ne_eq, and_self, or_self, reduceCtorEq, Nat.add_left_cancel_iff, Nat.left_eq_add, Nat.add_eq_left, Nat.reduceEqDiff, zI_of, zI_cl, zI_add, zI_mul, zI_lt, zI_le, zI_eq, zI_mulL, zI_mulR, zI_addL, zI_addR, zI_subR, zI_sub, zI_divR, zI_ltR, zI_ltL, zI_leR, zI_leL, zI_eqR, zI_eqL, zI_neN, zI_neN', zI_ltN, zI_leN, zN_lt, zF1, zF2, zF3, zF4, zF5, zF6, zF7, zF8, zU_lt, zG1, zG2, zG3, zG4, zG5, zG6, zU1, zU2, zU3, zU4, zN_0, zN_le0, zI_lt0, zI_0le, zI_pred, zI_pred', zI_predS, zI_predT, zJ_le, zJ_lt, zJ_leL, zJ_leR, y_cl0, y_0cl, y_cle, y_lec, y_ceq, n_lt, n_le, n_nlt, n_nle,  y_10]
    exact this
  by_cases c3 : k = 3
  · subst c3
    have := k_bed19 h (kd := 3) (by decide) v w
    have e1 : ((3 : Int32) = 1) = False := by decide
    simp only [e1, if_true, if_false]
    exact this
  by_cases c6 : k = 6
  · subst c6
    have := k_bed19 h (kd := 6) (by decide) v w
    have e1 : ((6 : Int32) = 1) = False := by decide
    have e3 : ((6 : Int32) = 3) = False := by decide
    simp only [e1, e3, if_true, if_false]
    exact this
  simp only [c1, c3, c6, if_false]
  exact Pr_n' h rfl
end BedK
