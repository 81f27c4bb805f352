/-! haul, put together -/
section HaulK
variable {B : Nat} {G : z_Gh} {S T : z_St}
theorem z_wi_wi (S : z_St) (a k : Nat) (v w : Int32) : z_wi (z_wi S a k v) a k w = z_wi S a k w := by
  have : z_u (z_u S.2.2.1 a k v) a k w = z_u S.2.2.1 a k w := by
    funext b j
    unfold z_u
    by_cases e : b = a
    · by_cases e2 : j = k
      · simp only [e, e2, if_true]
      · simp only [e, e2, if_true, if_false]
    · simp only [e, if_false]
  show (_, _, z_u (z_u S.2.2.1 a k v) a k w, _) = (_, _, z_u S.2.2.1 a k w, _)
  rw [this]; rfl
theorem R4_bulk (h : R4 B G S T) {q : Nat} (hq : q < G 0 4) {g g' : Nat → Int32} (hg : ∀ x, x < z_n S (G 10 q) → g x = g' (16 * q + x) ∧ hOk G q (g x)) (hg' : ∀ y, y < 16 * q ∨ 16 * q + z_n S (G 10 q) ≤ y → g' y = z_i T (B + 60) y) : R4 B G (z_qi S (G 10 q) g) (z_qi T (B + 60) g') := by
  obtain ⟨n1, n2, n3, n4, n5⟩ := h
  have dq := (n4 q hq).2.2.1.1
  refine ⟨n1, ?_, ?_, fun r hr => ?_, n5⟩
  · rw [y_i_qi, if_neg (by omega)]; exact n2
  · rw [y_i_qi, if_neg (by omega)]; exact n3
  · obtain ⟨a1, a2, a3, a4, a5, a6, a7, a8, a9, b1, b2, b3⟩ := n4 r hr
    have hne : G 9 r ≠ G 10 q := fun e => by
      have := (n4 q hq).2.2.2.2.2.1
      rw [← e, a4] at this; cases this
    refine ⟨a1, a2, a3, a4, a5, a6, ?_, ?_, a9, ?_, b2, fun i hi => ?_⟩
    · rw [y_i_qi, if_neg hne]; exact a7
    · rw [y_i_qi, if_neg (by omega)]; exact a8
    · rw [y_i_qi, if_neg (by omega)]; exact b1
    · rw [y_n_qi] at hi
      have h16 := (n4 q hq).2.2.2.2.2.2.2.2.2.2.1
      by_cases e : r = q
      · subst e
        rw [y_i_qi, if_pos rfl, y_i_qi, if_pos rfl]
        exact hg i hi
      · rw [y_i_qi, if_neg (fun z => e (n5 r q hr hq z)), y_i_qi, if_pos rfl, hg' _ (by omega)]
        exact b3 i hi
theorem Pr_haul (h : RG B G S T) {p q i k n e : Nat} (hp : p < G 0 4) (hq : q < G 0 4) (hi : i + n ≤ z_n S (G 10 p)) (hk : k + n ≤ z_n S (G 10 q)) (he : e ≤ n) (hok : ∀ l, l < e → hOk G q (z_i S (G 10 p) (i + l))) {g : Nat → Int32} (hg : ∀ x, x < z_n S (G 10 q) → g x = if k ≤ x ∧ x < k + e then z_i S (G 10 p) (i + (x - k)) else z_i S (G 10 q) x) {f : Nat → Int32} (hf : ∀ l, l < n → f l = z_i T (B + 60) (16 * p + i + l)) {w1 w2 : Int32} {a a' : Int32} (ha : a = a') {T' : z_St} (hT : T' = z_wi (z_wi (z_qi (z_qi T (B + 61) f) (B + 60) (fun y => if 16 * q + k ≤ y ∧ y < 16 * q + k + e then f (y - (16 * q + k)) else z_i T (B + 60) y)) (B + 48) 1 w1) (B + 48) 2 w2) :
    Pr B S T (some (a, z_wi (z_wi (z_qi S (G 10 q) g) B 17 w1) B 18 w2)) (some (a', T')) := by
  subst hT
  have hx := h.1.2.2.1
  have h4 : R4 B G S T := h.2.2.1 4
  have n4 := h4.2.2.2.1 q hq
  have n4p := h4.2.2.2.1 p hp
  have h4' : R4 B G S (z_qi T (B + 61) f) := RR_up (cs := c0) hx fS_rf (fT_qi fT_rf _ _ (fun _ => cm_at ok0)) (gL_rf _ _ _) 4 (fun q => q) (h.2.2.1 4)
  refine Pr_c 4 (G' := G) h (fS_f (fS_qi fS_rf _ _ (fun _ => at_dy n4.2.2.1 okcc)) w1 w2) (fT_f (fT_qi (fT_qi fT_rf _ _ (fun _ => cm_at ok0)) _ _ (fun _ => cm_at (by exact okcc))) w1 w2) (gL_rf _ _ _) (RR_w (S := z_qi S (G 10 q) g) 4 hx w1 w2 w1 w2 (R4_bulk h4' hq (fun x hx' => ?_) (fun y hy => ?_))) (by decide) (Rr_f _ _ _ _) ha (by simp only [y_x_wi, y_x_qi]; omega) (by simp only [y_w_wi, y_w_qi]; omega)
  · obtain ⟨-, -, -, -, -, -, -, -, -, -, c2, c3⟩ := n4
    obtain ⟨-, -, -, -, -, -, -, -, -, -, d2, d3⟩ := n4p
    rw [hg x hx']
    by_cases e1 : k ≤ x ∧ x < k + e
    · rw [if_pos e1, if_pos (by omega), hf _ (by omega)]
      have := d3 (i + (x - k)) (by omega)
      refine ⟨?_, hok (x - k) (by omega)⟩
      rw [this.1]
      congr 1
      omega
    · rw [if_neg e1, if_neg (by omega)]
      exact c3 x hx'
  · rw [if_neg (by omega), y_i_qi, if_neg (by omega)]
set_option maxHeartbeats 8000000 in
theorem k_haul (h : Rel B S T) (f i t k n : Int32) : Pr B S T (f_X11_haul B f i t k n S) (f_X12_haul (B + 48) f i t k n T) := by
  obtain ⟨G, h⟩ := h
  rw [e_X11_haul, e_X12_haul]; unfold b_X11_haul b_X12_haul
  have hm0 := h.2.1
  simp only [y_ck, km_48 hm0, if_true]
  generalize hT1 : z_wi T (B + 48) 0 0 = T1
  refine Pr_T hT1 ?_
  replace h := RG_0 h; rw [hT1] at h; clear hT1 hm0
  have hc := h.1
  have hm := h.2.1
  obtain ⟨m1, m2, m3, m4, m5⟩ : R4 B G S T1 := h.2.2.1 4
  obtain ⟨t1, t2, t3, t4⟩ : R3 B G S T1 := h.2.2.1 3
  rcases nm3 f (n := G 0 4) (by omega) with ⟨hr, hr1, hr2⟩ | hf
  · simp (disch := first | assumption | omega) only [y_i_wi, y_l_wi, y_d_wi, y_r_wi, y_k_wi, y_n_wi, y_x_wi, y_w_wi, y_s_wi, y_i_wl, y_l_wl, y_d_wl, y_r_wl, y_k_wl, y_n_wl, y_x_wl, y_w_wl, y_s_wl, y_i_wd, y_l_wd, y_d_wd, y_r_wd, y_k_wd, y_n_wd, y_x_wd, y_w_wd, y_s_wd, y_i_wr, y_l_wr, y_d_wr, y_r_wr, y_k_wr, y_n_wr, y_x_wr, y_w_wr, y_s_wr, y_i_new, y_l_new, y_d_new, y_r_new, y_k_new, y_n_new, y_x_new, y_w_new, y_s_new, y_i_ci, y_l_ci, y_d_ci, y_r_ci, y_k_ci, y_n_ci, y_x_ci, y_w_ci, y_s_ci, y_i_cl, y_l_cl, y_d_cl, y_r_cl, y_k_cl, y_n_cl, y_x_cl, y_w_cl, y_s_cl, y_i_qi, y_l_qi, y_d_qi, y_r_qi, y_k_qi, y_n_qi, y_x_qi, y_w_qi, y_s_qi, y_i_ql, y_l_ql, y_d_ql, y_r_ql, y_k_ql, y_n_ql, y_x_ql, y_w_ql, y_s_ql, y_i_qd, y_l_qd, y_d_qd, y_r_qd, y_k_qd, y_n_qd, y_x_qd, y_w_qd, y_s_qd, ↓reduceIte, ↓y_tb, ↓y_tv, ↓y_tr, ↓y_tn, ↓y_ck, ↓y_ib, ↓y_nz2, ↓y_nzl2, ↓y_len2, ↓y_nn2, ↓y_nf2, ↓y_l2d2, y_gb, y_gn, y_gi, y_gv, y_gv', y_grN, y_grS, y_glN, y_glS, Nat.reduceAdd, Nat.reduceMul, Nat.reduceSub, Nat.reduceDiv, Nat.reduceMod, Nat.reduceLT, Nat.reduceLeDiff, y_rb0, y_rb1, y_b0, y_b0', y_10, zL_eq, zL_cl, Nat.add_sub_cancel, implies_true, Int32.reduceLT, Int32.reduceLE, if_true, if_false, true_and, and_true, false_and, and_false, true_or, or_true, false_or, or_false, not_true_eq_false, not_false_eq_true, ne_eq, and_self, or_self, reduceCtorEq, Nat.add_left_cancel_iff, Nat.left_eq_add, Nat.add_eq_left, Nat.reduceEqDiff, zI_of, zI_cl, zI_add, zI_mul, zI_lt, zI_le, zI_eq, zI_mulL, zI_mulR, zI_addL, zI_addR, zI_subR, zI_sub, zI_divR, zI_ltR, zI_ltL, zI_leR, zI_leL, zI_eqR, zI_eqL, zI_neN, zI_neN', zI_ltN, zI_leN, zN_lt, zF1, zF2, zF3, zF4, zF5, zF6, zF7, zF8, zU_lt, zG1, zG2, zG3, zG4, zG5, zG6, zU1, zU2, zU3, zU4, zN_0, zN_le0, zI_lt0, zI_0le, zI_pred, zI_pred', zI_predS, zI_predT, zJ_le, zJ_lt, zJ_leL, zJ_leR, y_cl0, y_0cl, y_cle, y_lec, y_ceq, n_lt, n_le, n_nlt, n_nle,  kc_0 hc, rc_0_6 hc, kc_4 hc, nc_4 hc, rc_0_4 hc, kc_3 hc, nc_3 hc, km_48 hm, rm_48_13 hm, km_56 hm, nm_56 hm, rm_48_16 hm, km_58 hm, nm_58 hm, rm_48_17 hm, km_59 hm, nm_59 hm, rm_48_18 hm, km_60 hm, nm_60 hm, rm_48_19 hm, km_61 hm, nm_61 hm, x_fails, x_failsWith, e_X11_mayHang, b_X11_mayHang, e_X9_isFor, b_X9_isFor, x_nameless, x_passes, j_X12_haul_176, x_mfails, e_X12_fits, b_X12_fits, e_X12_noRack, b_X12_noRack, x_in, x_well, m2, m3, hr, hr1, hr2]
    exact Pr_n' h rfl
  rcases nm3 t (n := G 0 4) (by omega) with ⟨hr, hr1, hr2⟩ | ht
  · rcases hf with rfl | ⟨p, hp, rfl⟩ <;> (simp (disch := first | assumption | omega) only [y_i_wi, y_l_wi, y_d_wi, y_r_wi, y_k_wi, y_n_wi, y_x_wi, y_w_wi, y_s_wi, y_i_wl, y_l_wl, y_d_wl, y_r_wl, y_k_wl, y_n_wl, y_x_wl, y_w_wl, y_s_wl, y_i_wd, y_l_wd, y_d_wd, y_r_wd, y_k_wd, y_n_wd, y_x_wd, y_w_wd, y_s_wd, y_i_wr, y_l_wr, y_d_wr, y_r_wr, y_k_wr, y_n_wr, y_x_wr, y_w_wr, y_s_wr, y_i_new, y_l_new, y_d_new, y_r_new, y_k_new, y_n_new, y_x_new, y_w_new, y_s_new, y_i_ci, y_l_ci, y_d_ci, y_r_ci, y_k_ci, y_n_ci, y_x_ci, y_w_ci, y_s_ci, y_i_cl, y_l_cl, y_d_cl, y_r_cl, y_k_cl, y_n_cl, y_x_cl, y_w_cl, y_s_cl, y_i_qi, y_l_qi, y_d_qi, y_r_qi, y_k_qi, y_n_qi, y_x_qi, y_w_qi, y_s_qi, y_i_ql, y_l_ql, y_d_ql, y_r_ql, y_k_ql, y_n_ql, y_x_ql, y_w_ql, y_s_ql, y_i_qd, y_l_qd, y_d_qd, y_r_qd, y_k_qd, y_n_qd, y_x_qd, y_w_qd, y_s_qd, ↓reduceIte, ↓y_tb, ↓y_tv, ↓y_tr, ↓y_tn, ↓y_ck, ↓y_ib, ↓y_nz2, ↓y_nzl2, ↓y_len2, ↓y_nn2, ↓y_nf2, ↓y_l2d2, y_gb, y_gn, y_gi, y_gv, y_gv', y_grN, y_grS, y_glN, y_glS, Nat.reduceAdd, Nat.reduceMul, Nat.reduceSub, Nat.reduceDiv, Nat.reduceMod, Nat.reduceLT, Nat.reduceLeDiff, y_rb0, y_rb1, y_b0, y_b0', y_10, zL_eq, zL_cl, Nat.add_sub_cancel, implies_true, Int32.reduceLT, Int32.reduceLE, if_true, if_false, true_and, and_true, false_and, and_false, true_or, or_true, false_or, or_false, not_true_eq_false, not_false_eq_true, ne_eq, and_self, or_self, reduceCtorEq, Nat.add_left_cancel_iff, Nat.left_eq_add, Nat.add_eq_left, Nat.reduceEqDiff, zI_of, zI_cl, zI_add, zI_mul, zI_lt, zI_le, zI_eq, zI_mulL, zI_mulR, zI_addL, zI_addR, zI_subR, zI_sub, zI_divR, zI_ltR, zI_ltL, zI_leR, zI_leL, zI_eqR, zI_eqL, zI_neN, zI_neN', zI_ltN, zI_leN, zN_lt, zF1, zF2, zF3, zF4, zF5, zF6, zF7, zF8, zU_lt, zG1, zG2, zG3, zG4, zG5, zG6, zU1, zU2, zU3, zU4, zN_0, zN_le0, zI_lt0, zI_0le, zI_pred, zI_pred', zI_predS, zI_predT, zJ_le, zJ_lt, zJ_leL, zJ_leR, y_cl0, y_0cl, y_cle, y_lec, y_ceq, n_lt, n_le, n_nlt, n_nle,  kc_0 hc, rc_0_6 hc, kc_4 hc, nc_4 hc, rc_0_4 hc, kc_3 hc, nc_3 hc, km_48 hm, rm_48_13 hm, km_56 hm, nm_56 hm, rm_48_16 hm, km_58 hm, nm_58 hm, rm_48_17 hm, km_59 hm, nm_59 hm, rm_48_18 hm, km_60 hm, nm_60 hm, rm_48_19 hm, km_61 hm, nm_61 hm, x_fails, x_failsWith, e_X11_mayHang, b_X11_mayHang, e_X9_isFor, b_X9_isFor, x_nameless, x_passes, j_X12_haul_176, x_mfails, e_X12_fits, b_X12_fits, e_X12_noRack, b_X12_noRack, x_in, x_well, m2, m3, hr, hr1, hr2]; exact Pr_n' h rfl)
  rcases hf with rfl | ⟨p, hp, rfl⟩
  · rcases ht with rfl | ⟨q, hq, rfl⟩ <;> (simp (disch := first | assumption | omega) only [y_i_wi, y_l_wi, y_d_wi, y_r_wi, y_k_wi, y_n_wi, y_x_wi, y_w_wi, y_s_wi, y_i_wl, y_l_wl, y_d_wl, y_r_wl, y_k_wl, y_n_wl, y_x_wl, y_w_wl, y_s_wl, y_i_wd, y_l_wd, y_d_wd, y_r_wd, y_k_wd, y_n_wd, y_x_wd, y_w_wd, y_s_wd, y_i_wr, y_l_wr, y_d_wr, y_r_wr, y_k_wr, y_n_wr, y_x_wr, y_w_wr, y_s_wr, y_i_new, y_l_new, y_d_new, y_r_new, y_k_new, y_n_new, y_x_new, y_w_new, y_s_new, y_i_ci, y_l_ci, y_d_ci, y_r_ci, y_k_ci, y_n_ci, y_x_ci, y_w_ci, y_s_ci, y_i_cl, y_l_cl, y_d_cl, y_r_cl, y_k_cl, y_n_cl, y_x_cl, y_w_cl, y_s_cl, y_i_qi, y_l_qi, y_d_qi, y_r_qi, y_k_qi, y_n_qi, y_x_qi, y_w_qi, y_s_qi, y_i_ql, y_l_ql, y_d_ql, y_r_ql, y_k_ql, y_n_ql, y_x_ql, y_w_ql, y_s_ql, y_i_qd, y_l_qd, y_d_qd, y_r_qd, y_k_qd, y_n_qd, y_x_qd, y_w_qd, y_s_qd, ↓reduceIte, ↓y_tb, ↓y_tv, ↓y_tr, ↓y_tn, ↓y_ck, ↓y_ib, ↓y_nz2, ↓y_nzl2, ↓y_len2, ↓y_nn2, ↓y_nf2, ↓y_l2d2, y_gb, y_gn, y_gi, y_gv, y_gv', y_grN, y_grS, y_glN, y_glS, Nat.reduceAdd, Nat.reduceMul, Nat.reduceSub, Nat.reduceDiv, Nat.reduceMod, Nat.reduceLT, Nat.reduceLeDiff, y_rb0, y_rb1, y_b0, y_b0', y_10, zL_eq, zL_cl, Nat.add_sub_cancel, implies_true, Int32.reduceLT, Int32.reduceLE, if_true, if_false, true_and, and_true, false_and, and_false, true_or, or_true, false_or, or_false, not_true_eq_false, not_false_eq_true, ne_eq, and_self, or_self, reduceCtorEq, Nat.add_left_cancel_iff, Nat.left_eq_add, Nat.add_eq_left, Nat.reduceEqDiff, zI_of, zI_cl, zI_add, zI_mul, zI_lt, zI_le, zI_eq, zI_mulL, zI_mulR, zI_addL, zI_addR, zI_subR, zI_sub, zI_divR, zI_ltR, zI_ltL, zI_leR, zI_leL, zI_eqR, zI_eqL, zI_neN, zI_neN', zI_ltN, zI_leN, zN_lt, zF1, zF2, zF3, zF4, zF5, zF6, zF7, zF8, zU_lt, zG1, zG2, zG3, zG4, zG5, zG6, zU1, zU2, zU3, zU4, zN_0, zN_le0, zI_lt0, zI_0le, zI_pred, zI_pred', zI_predS, zI_predT, zJ_le, zJ_lt, zJ_leL, zJ_leR, y_cl0, y_0cl, y_cle, y_lec, y_ceq, n_lt, n_le, n_nlt, n_nle,  kc_0 hc, rc_0_6 hc, kc_4 hc, nc_4 hc, rc_0_4 hc, kc_3 hc, nc_3 hc, km_48 hm, rm_48_13 hm, km_56 hm, nm_56 hm, rm_48_16 hm, km_58 hm, nm_58 hm, rm_48_17 hm, km_59 hm, nm_59 hm, rm_48_18 hm, km_60 hm, nm_60 hm, rm_48_19 hm, km_61 hm, nm_61 hm, x_fails, x_failsWith, e_X11_mayHang, b_X11_mayHang, e_X9_isFor, b_X9_isFor, x_nameless, x_passes, j_X12_haul_176, x_mfails, e_X12_fits, b_X12_fits, e_X12_noRack, b_X12_noRack, x_in, x_well, m2, m3]; exact Pr_f' h 1 0 rfl)
  rcases ht with rfl | ⟨q, hq, rfl⟩
  · simp (disch := first | assumption | omega) only [y_i_wi, y_l_wi, y_d_wi, y_r_wi, y_k_wi, y_n_wi, y_x_wi, y_w_wi, y_s_wi, y_i_wl, y_l_wl, y_d_wl, y_r_wl, y_k_wl, y_n_wl, y_x_wl, y_w_wl, y_s_wl, y_i_wd, y_l_wd, y_d_wd, y_r_wd, y_k_wd, y_n_wd, y_x_wd, y_w_wd, y_s_wd, y_i_wr, y_l_wr, y_d_wr, y_r_wr, y_k_wr, y_n_wr, y_x_wr, y_w_wr, y_s_wr, y_i_new, y_l_new, y_d_new, y_r_new, y_k_new, y_n_new, y_x_new, y_w_new, y_s_new, y_i_ci, y_l_ci, y_d_ci, y_r_ci, y_k_ci, y_n_ci, y_x_ci, y_w_ci, y_s_ci, y_i_cl, y_l_cl, y_d_cl, y_r_cl, y_k_cl, y_n_cl, y_x_cl, y_w_cl, y_s_cl, y_i_qi, y_l_qi, y_d_qi, y_r_qi, y_k_qi, y_n_qi, y_x_qi, y_w_qi, y_s_qi, y_i_ql, y_l_ql, y_d_ql, y_r_ql, y_k_ql, y_n_ql, y_x_ql, y_w_ql, y_s_ql, y_i_qd, y_l_qd, y_d_qd, y_r_qd, y_k_qd, y_n_qd, y_x_qd, y_w_qd, y_s_qd, ↓reduceIte, ↓y_tb, ↓y_tv, ↓y_tr, ↓y_tn, ↓y_ck, ↓y_ib, ↓y_nz2, ↓y_nzl2, ↓y_len2, ↓y_nn2, ↓y_nf2, ↓y_l2d2, y_gb, y_gn, y_gi, y_gv, y_gv', y_grN, y_grS, y_glN, y_glS, Nat.reduceAdd, Nat.reduceMul, Nat.reduceSub, Nat.reduceDiv, Nat.reduceMod, Nat.reduceLT, Nat.reduceLeDiff, y_rb0, y_rb1, y_b0, y_b0', y_10, zL_eq, zL_cl, Nat.add_sub_cancel, implies_true, Int32.reduceLT, Int32.reduceLE, if_true, if_false, true_and, and_true, false_and, and_false, true_or, or_true, false_or, or_false, not_true_eq_false, not_false_eq_true, ne_eq, and_self, or_self, reduceCtorEq, Nat.add_left_cancel_iff, Nat.left_eq_add, Nat.add_eq_left, Nat.reduceEqDiff, zI_of, zI_cl, zI_add, zI_mul, zI_lt, zI_le, zI_eq, zI_mulL, zI_mulR, zI_addL, zI_addR, zI_subR, zI_sub, zI_divR, zI_ltR, zI_ltL, zI_leR, zI_leL, zI_eqR, zI_eqL, zI_neN, zI_neN', zI_ltN, zI_leN, zN_lt, zF1, zF2, zF3, zF4, zF5, zF6, zF7, zF8, zU_lt, zG1, zG2, zG3, zG4, zG5, zG6, zU1, zU2, zU3, zU4, zN_0, zN_le0, zI_lt0, zI_0le, zI_pred, zI_pred', zI_predS, zI_predT, zJ_le, zJ_lt, zJ_leL, zJ_leR, y_cl0, y_0cl, y_cle, y_lec, y_ceq, n_lt, n_le, n_nlt, n_nle,  kc_0 hc, rc_0_6 hc, kc_4 hc, nc_4 hc, rc_0_4 hc, kc_3 hc, nc_3 hc, km_48 hm, rm_48_13 hm, km_56 hm, nm_56 hm, rm_48_16 hm, km_58 hm, nm_58 hm, rm_48_17 hm, km_59 hm, nm_59 hm, rm_48_18 hm, km_60 hm, nm_60 hm, rm_48_19 hm, km_61 hm, nm_61 hm, x_fails, x_failsWith, e_X11_mayHang, b_X11_mayHang, e_X9_isFor, b_X9_isFor, x_nameless, x_passes, j_X12_haul_176, x_mfails, e_X12_fits, b_X12_fits, e_X12_noRack, b_X12_noRack, x_in, x_well, m2, m3]
    exact Pr_f' h 1 0 rfl
  obtain ⟨a1, a2, a3, a4, a5, a6, a7, a8, a9, b1, b2, b3⟩ := m4 p hp
  obtain ⟨a1', a2', a3', a4', a5', a6', a7', a8', a9', b1', b2', b3'⟩ := m4 q hq
  obtain ⟨v, v1, v2, v3⟩ := x_span i n (show z_n S (G 10 p) ≤ 64 by omega)
  obtain ⟨w, w1, w2, w3⟩ := x_span k n (show z_n S (G 10 q) ≤ 64 by omega)
  rcases v3 with rfl | ⟨rfl, i, n, rfl, rfl, hin⟩
  · simp (disch := first | assumption | omega) only [y_i_wi, y_l_wi, y_d_wi, y_r_wi, y_k_wi, y_n_wi, y_x_wi, y_w_wi, y_s_wi, y_i_wl, y_l_wl, y_d_wl, y_r_wl, y_k_wl, y_n_wl, y_x_wl, y_w_wl, y_s_wl, y_i_wd, y_l_wd, y_d_wd, y_r_wd, y_k_wd, y_n_wd, y_x_wd, y_w_wd, y_s_wd, y_i_wr, y_l_wr, y_d_wr, y_r_wr, y_k_wr, y_n_wr, y_x_wr, y_w_wr, y_s_wr, y_i_new, y_l_new, y_d_new, y_r_new, y_k_new, y_n_new, y_x_new, y_w_new, y_s_new, y_i_ci, y_l_ci, y_d_ci, y_r_ci, y_k_ci, y_n_ci, y_x_ci, y_w_ci, y_s_ci, y_i_cl, y_l_cl, y_d_cl, y_r_cl, y_k_cl, y_n_cl, y_x_cl, y_w_cl, y_s_cl, y_i_qi, y_l_qi, y_d_qi, y_r_qi, y_k_qi, y_n_qi, y_x_qi, y_w_qi, y_s_qi, y_i_ql, y_l_ql, y_d_ql, y_r_ql, y_k_ql, y_n_ql, y_x_ql, y_w_ql, y_s_ql, y_i_qd, y_l_qd, y_d_qd, y_r_qd, y_k_qd, y_n_qd, y_x_qd, y_w_qd, y_s_qd, ↓reduceIte, ↓y_tb, ↓y_tv, ↓y_tr, ↓y_tn, ↓y_ck, ↓y_ib, ↓y_nz2, ↓y_nzl2, ↓y_len2, ↓y_nn2, ↓y_nf2, ↓y_l2d2, y_gb, y_gn, y_gi, y_gv, y_gv', y_grN, y_grS, y_glN, y_glS, Nat.reduceAdd, Nat.reduceMul, Nat.reduceSub, Nat.reduceDiv, Nat.reduceMod, Nat.reduceLT, Nat.reduceLeDiff, y_rb0, y_rb1, y_b0, y_b0', y_10, zL_eq, zL_cl, Nat.add_sub_cancel, implies_true, Int32.reduceLT, Int32.reduceLE, if_true, if_false, true_and, and_true, false_and, and_false, true_or, or_true, false_or, or_false, not_true_eq_false, not_false_eq_true, ne_eq, and_self, or_self, reduceCtorEq, Nat.add_left_cancel_iff, Nat.left_eq_add, Nat.add_eq_left, Nat.reduceEqDiff, zI_of, zI_cl, zI_add, zI_mul, zI_lt, zI_le, zI_eq, zI_mulL, zI_mulR, zI_addL, zI_addR, zI_subR, zI_sub, zI_divR, zI_ltR, zI_ltL, zI_leR, zI_leL, zI_eqR, zI_eqL, zI_neN, zI_neN', zI_ltN, zI_leN, zN_lt, zF1, zF2, zF3, zF4, zF5, zF6, zF7, zF8, zU_lt, zG1, zG2, zG3, zG4, zG5, zG6, zU1, zU2, zU3, zU4, zN_0, zN_le0, zI_lt0, zI_0le, zI_pred, zI_pred', zI_predS, zI_predT, zJ_le, zJ_lt, zJ_leL, zJ_leR, y_cl0, y_0cl, y_cle, y_lec, y_ceq, n_lt, n_le, n_nlt, n_nle,  kc_0 hc, rc_0_6 hc, kc_4 hc, nc_4 hc, rc_0_4 hc, kc_3 hc, nc_3 hc, km_48 hm, rm_48_13 hm, km_56 hm, nm_56 hm, rm_48_16 hm, km_58 hm, nm_58 hm, rm_48_17 hm, km_59 hm, nm_59 hm, rm_48_18 hm, km_60 hm, nm_60 hm, rm_48_19 hm, km_61 hm, nm_61 hm, x_fails, x_failsWith, e_X11_mayHang, b_X11_mayHang, e_X9_isFor, b_X9_isFor, x_nameless, x_passes, j_X12_haul_176, x_mfails, e_X12_fits, b_X12_fits, e_X12_noRack, b_X12_noRack, x_in, x_well, m2, m3, a1, a4, a5, a6, b1, a1', a4', a5', a6', b1', v1, v2]
    exact Pr_f' h 2 0 rfl
  rcases w3 with rfl | ⟨rfl, k, n', rfl, hnn, hkn⟩
  · simp (disch := first | assumption | omega) only [y_i_wi, y_l_wi, y_d_wi, y_r_wi, y_k_wi, y_n_wi, y_x_wi, y_w_wi, y_s_wi, y_i_wl, y_l_wl, y_d_wl, y_r_wl, y_k_wl, y_n_wl, y_x_wl, y_w_wl, y_s_wl, y_i_wd, y_l_wd, y_d_wd, y_r_wd, y_k_wd, y_n_wd, y_x_wd, y_w_wd, y_s_wd, y_i_wr, y_l_wr, y_d_wr, y_r_wr, y_k_wr, y_n_wr, y_x_wr, y_w_wr, y_s_wr, y_i_new, y_l_new, y_d_new, y_r_new, y_k_new, y_n_new, y_x_new, y_w_new, y_s_new, y_i_ci, y_l_ci, y_d_ci, y_r_ci, y_k_ci, y_n_ci, y_x_ci, y_w_ci, y_s_ci, y_i_cl, y_l_cl, y_d_cl, y_r_cl, y_k_cl, y_n_cl, y_x_cl, y_w_cl, y_s_cl, y_i_qi, y_l_qi, y_d_qi, y_r_qi, y_k_qi, y_n_qi, y_x_qi, y_w_qi, y_s_qi, y_i_ql, y_l_ql, y_d_ql, y_r_ql, y_k_ql, y_n_ql, y_x_ql, y_w_ql, y_s_ql, y_i_qd, y_l_qd, y_d_qd, y_r_qd, y_k_qd, y_n_qd, y_x_qd, y_w_qd, y_s_qd, ↓reduceIte, ↓y_tb, ↓y_tv, ↓y_tr, ↓y_tn, ↓y_ck, ↓y_ib, ↓y_nz2, ↓y_nzl2, ↓y_len2, ↓y_nn2, ↓y_nf2, ↓y_l2d2, y_gb, y_gn, y_gi, y_gv, y_gv', y_grN, y_grS, y_glN, y_glS, Nat.reduceAdd, Nat.reduceMul, Nat.reduceSub, Nat.reduceDiv, Nat.reduceMod, Nat.reduceLT, Nat.reduceLeDiff, y_rb0, y_rb1, y_b0, y_b0', y_10, zL_eq, zL_cl, Nat.add_sub_cancel, implies_true, Int32.reduceLT, Int32.reduceLE, if_true, if_false, true_and, and_true, false_and, and_false, true_or, or_true, false_or, or_false, not_true_eq_false, not_false_eq_true, ne_eq, and_self, or_self, reduceCtorEq, Nat.add_left_cancel_iff, Nat.left_eq_add, Nat.add_eq_left, Nat.reduceEqDiff, zI_of, zI_cl, zI_add, zI_mul, zI_lt, zI_le, zI_eq, zI_mulL, zI_mulR, zI_addL, zI_addR, zI_subR, zI_sub, zI_divR, zI_ltR, zI_ltL, zI_leR, zI_leL, zI_eqR, zI_eqL, zI_neN, zI_neN', zI_ltN, zI_leN, zN_lt, zF1, zF2, zF3, zF4, zF5, zF6, zF7, zF8, zU_lt, zG1, zG2, zG3, zG4, zG5, zG6, zU1, zU2, zU3, zU4, zN_0, zN_le0, zI_lt0, zI_0le, zI_pred, zI_pred', zI_predS, zI_predT, zJ_le, zJ_lt, zJ_leL, zJ_leR, y_cl0, y_0cl, y_cle, y_lec, y_ceq, n_lt, n_le, n_nlt, n_nle,  kc_0 hc, rc_0_6 hc, kc_4 hc, nc_4 hc, rc_0_4 hc, kc_3 hc, nc_3 hc, km_48 hm, rm_48_13 hm, km_56 hm, nm_56 hm, rm_48_16 hm, km_58 hm, nm_58 hm, rm_48_17 hm, km_59 hm, nm_59 hm, rm_48_18 hm, km_60 hm, nm_60 hm, rm_48_19 hm, km_61 hm, nm_61 hm, x_fails, x_failsWith, e_X11_mayHang, b_X11_mayHang, e_X9_isFor, b_X9_isFor, x_nameless, x_passes, j_X12_haul_176, x_mfails, e_X12_fits, b_X12_fits, e_X12_noRack, b_X12_noRack, x_in, x_well, m2, m3, a1, a4, a5, a6, b1, a1', a4', a5', a6', b1', v1, v2, w1, w2]
    exact Pr_f' h 2 0 rfl
  have : n = n' := by
    have := congrArg Int32.toInt hnn
    rw [zI_I (by omega), zI_I (by omega)] at this
    omega
  subst this
  have z0 : (0 : Int32) = zI 0 := rfl
  have l1 := l_haul1 (B := B) (p := p) (i := i) (n := n) (q := q) (k := k) (by omega) (by omega) n z_N T1 0 hm (by omega) (by omega) (by rw [z_N_eq]; omega)
  have tW : ∀ l, l < n → z_i (z_cI T1 (B + 60) (16 * p + i) (B + 61) 0 0 n) (B + 61) l = z_i S (G 10 p) (i + l) := by
    intro l hl
    unfold z_cI
    rw [y_i_qi, if_pos rfl, if_pos (by omega), (b3 (i + l) (by omega)).1]
    congr 1
    omega
  have c58 : z_i (z_cI T1 (B + 60) (16 * p + i) (B + 61) 0 0 n) (B + 58) q = zI (G 13 q) := by
    unfold z_cI
    rw [y_i_qi, if_neg (by omega)]; exact a8'
  have c56 : ∀ t, t < G 0 3 → z_i (z_cI T1 (B + 60) (16 * p + i) (B + 61) 0 0 n) (B + 56) t = zI (G 8 t) ∧ G 8 t ≤ 5 := by
    intro t ht
    obtain ⟨-, -, -, -, x5, x6, -⟩ := t4 t ht
    unfold z_cI
    rw [y_i_qi, if_neg (by omega)]
    exact ⟨x5, x6⟩
  have hCq : hC B G q S := ⟨a1', a4', a7', a9', t1, fun t ht => by
    obtain ⟨x1, x2, x3, x4, x5, x6, x7⟩ := t4 t ht
    exact ⟨x1, x3, x4, x6⟩⟩
  have each : ∀ l, l < n → hOk G q (z_i S (G 10 p) (i + l)) ∨ hBad G q (z_i S (G 10 p) (i + l)) := by
    intro l hl
    rcases (b3 (i + l) (by omega)).2 with z | ⟨t, x1, x2, x3⟩
    · exact Or.inl (Or.inl z)
    · by_cases y : fitsN (G 13 q) (G 8 t)
      · exact Or.inl (Or.inr ⟨t, x1, x2, y⟩)
      · exact Or.inr ⟨t, x1, x2, y⟩
  have fW : ∀ l, l < n → (fun j => if 0 + 0 ≤ j ∧ j < 0 + n then z_i T1 (B + 60) (16 * p + i + (j - 0)) else z_i T1 (B + 61) j) l = z_i T1 (B + 60) (16 * p + i + l) := by
    intro l hl
    show (if 0 + 0 ≤ l ∧ l < 0 + n then z_i T1 (B + 60) (16 * p + i + (l - 0)) else z_i T1 (B + 61) l) = _
    rw [if_pos (by omega)]; rfl
  rcases first_bad n each with all | ⟨e, e1, e2, e3⟩
  · have l2 := l_haul2 (G := G) (B := B) (q := q) (k := k) (n := n) (e := n) (by omega) (by omega) (Nat.le_refl _) a9' n z_N (z_cI T1 (B + 60) (16 * p + i) (B + 61) 0 0 n) 0 hm c58 t1 c56 (fun l _ hl => by rw [tW l hl]; exact all l hl) (by omega) (by omega) (by rw [z_N_eq]; omega)
    rw [show z_N - n = (z_N - n - 1) + 1 by rw [z_N_eq]; omega, l_haul2E (by omega) (show mSh B (z_cI (z_cI T1 (B + 60) (16 * p + i) (B + 61) 0 0 n) (B + 61) 0 (B + 60) (16 * q + k) 0 n) from hm)] at l2
    rw [← z0] at l1 l2
    rw [l2] at l1
    by_cases pq : p = q
    · subst pq
      have cp : ∀ {ρ : Type} (x : Option ρ), z_cpy S 101 (G 10 p) (zI i) (G 10 p) (zI k) (zI n) x = x := by
        intro ρ x
        refine y_cpy _ _ _ _ _ _ _ _ ?_
        simp (disch := first | assumption | omega) only [y_i_wi, y_l_wi, y_d_wi, y_r_wi, y_k_wi, y_n_wi, y_x_wi, y_w_wi, y_s_wi, y_i_wl, y_l_wl, y_d_wl, y_r_wl, y_k_wl, y_n_wl, y_x_wl, y_w_wl, y_s_wl, y_i_wd, y_l_wd, y_d_wd, y_r_wd, y_k_wd, y_n_wd, y_x_wd, y_w_wd, y_s_wd, y_i_wr, y_l_wr, y_d_wr, y_r_wr, y_k_wr, y_n_wr, y_x_wr, y_w_wr, y_s_wr, y_i_new, y_l_new, y_d_new, y_r_new, y_k_new, y_n_new, y_x_new, y_w_new, y_s_new, y_i_ci, y_l_ci, y_d_ci, y_r_ci, y_k_ci, y_n_ci, y_x_ci, y_w_ci, y_s_ci, y_i_cl, y_l_cl, y_d_cl, y_r_cl, y_k_cl, y_n_cl, y_x_cl, y_w_cl, y_s_cl, y_i_qi, y_l_qi, y_d_qi, y_r_qi, y_k_qi, y_n_qi, y_x_qi, y_w_qi, y_s_qi, y_i_ql, y_l_ql, y_d_ql, y_r_ql, y_k_ql, y_n_ql, y_x_ql, y_w_ql, y_s_ql, y_i_qd, y_l_qd, y_d_qd, y_r_qd, y_k_qd, y_n_qd, y_x_qd, y_w_qd, y_s_qd, ↓reduceIte, ↓y_tb, ↓y_tv, ↓y_tr, ↓y_tn, ↓y_ck, ↓y_ib, ↓y_nz2, ↓y_nzl2, ↓y_len2, ↓y_nn2, ↓y_nf2, ↓y_l2d2, y_gb, y_gn, y_gi, y_gv, y_gv', y_grN, y_grS, y_glN, y_glS, Nat.reduceAdd, Nat.reduceMul, Nat.reduceSub, Nat.reduceDiv, Nat.reduceMod, Nat.reduceLT, Nat.reduceLeDiff, y_rb0, y_rb1, y_b0, y_b0', y_10, zL_eq, zL_cl, Nat.add_sub_cancel, implies_true, Int32.reduceLT, Int32.reduceLE, if_true, if_false, true_and, and_true, false_and, and_false, true_or, or_true, false_or, or_false, not_true_eq_false, not_false_eq_true, ne_eq, and_self, or_self, reduceCtorEq, Nat.add_left_cancel_iff, Nat.left_eq_add, Nat.add_eq_left, Nat.reduceEqDiff, zI_of, zI_cl, zI_add, zI_mul, zI_lt, zI_le, zI_eq, zI_mulL, zI_mulR, zI_addL, zI_addR, zI_subR, zI_sub, zI_divR, zI_ltR, zI_ltL, zI_leR, zI_leL, zI_eqR, zI_eqL, zI_neN, zI_neN', zI_ltN, zI_leN, zN_lt, zF1, zF2, zF3, zF4, zF5, zF6, zF7, zF8, zU_lt, zG1, zG2, zG3, zG4, zG5, zG6, zU1, zU2, zU3, zU4, zN_0, zN_le0, zI_lt0, zI_0le, zI_pred, zI_pred', zI_predS, zI_predT, zJ_le, zJ_lt, zJ_leL, zJ_leR, y_cl0, y_0cl, y_cle, y_lec, y_ceq, n_lt, n_le, n_nlt, n_nle,  a6]
        exact fun q => by cases q
      simp (disch := first | assumption | omega) only [y_i_wi, y_l_wi, y_d_wi, y_r_wi, y_k_wi, y_n_wi, y_x_wi, y_w_wi, y_s_wi, y_i_wl, y_l_wl, y_d_wl, y_r_wl, y_k_wl, y_n_wl, y_x_wl, y_w_wl, y_s_wl, y_i_wd, y_l_wd, y_d_wd, y_r_wd, y_k_wd, y_n_wd, y_x_wd, y_w_wd, y_s_wd, y_i_wr, y_l_wr, y_d_wr, y_r_wr, y_k_wr, y_n_wr, y_x_wr, y_w_wr, y_s_wr, y_i_new, y_l_new, y_d_new, y_r_new, y_k_new, y_n_new, y_x_new, y_w_new, y_s_new, y_i_ci, y_l_ci, y_d_ci, y_r_ci, y_k_ci, y_n_ci, y_x_ci, y_w_ci, y_s_ci, y_i_cl, y_l_cl, y_d_cl, y_r_cl, y_k_cl, y_n_cl, y_x_cl, y_w_cl, y_s_cl, y_i_qi, y_l_qi, y_d_qi, y_r_qi, y_k_qi, y_n_qi, y_x_qi, y_w_qi, y_s_qi, y_i_ql, y_l_ql, y_d_ql, y_r_ql, y_k_ql, y_n_ql, y_x_ql, y_w_ql, y_s_ql, y_i_qd, y_l_qd, y_d_qd, y_r_qd, y_k_qd, y_n_qd, y_x_qd, y_w_qd, y_s_qd, ↓reduceIte, ↓y_tb, ↓y_tv, ↓y_tr, ↓y_tn, ↓y_ck, ↓y_ib, ↓y_nz2, ↓y_nzl2, ↓y_len2, ↓y_nn2, ↓y_nf2, ↓y_l2d2, y_gb, y_gn, y_gi, y_gv, y_gv', y_grN, y_grS, y_glN, y_glS, Nat.reduceAdd, Nat.reduceMul, Nat.reduceSub, Nat.reduceDiv, Nat.reduceMod, Nat.reduceLT, Nat.reduceLeDiff, y_rb0, y_rb1, y_b0, y_b0', y_10, zL_eq, zL_cl, Nat.add_sub_cancel, implies_true, Int32.reduceLT, Int32.reduceLE, if_true, if_false, true_and, and_true, false_and, and_false, true_or, or_true, false_or, or_false, not_true_eq_false, not_false_eq_true, ne_eq, and_self, or_self, reduceCtorEq, Nat.add_left_cancel_iff, Nat.left_eq_add, Nat.add_eq_left, Nat.reduceEqDiff, zI_of, zI_cl, zI_add, zI_mul, zI_lt, zI_le, zI_eq, zI_mulL, zI_mulR, zI_addL, zI_addR, zI_subR, zI_sub, zI_divR, zI_ltR, zI_ltL, zI_leR, zI_leL, zI_eqR, zI_eqL, zI_neN, zI_neN', zI_ltN, zI_leN, zN_lt, zF1, zF2, zF3, zF4, zF5, zF6, zF7, zF8, zU_lt, zG1, zG2, zG3, zG4, zG5, zG6, zU1, zU2, zU3, zU4, zN_0, zN_le0, zI_lt0, zI_0le, zI_pred, zI_pred', zI_predS, zI_predT, zJ_le, zJ_lt, zJ_leL, zJ_leR, y_cl0, y_0cl, y_cle, y_lec, y_ceq, n_lt, n_le, n_nlt, n_nle,  kc_0 hc, rc_0_6 hc, kc_4 hc, nc_4 hc, rc_0_4 hc, kc_3 hc, nc_3 hc, km_48 hm, rm_48_13 hm, km_56 hm, nm_56 hm, rm_48_16 hm, km_58 hm, nm_58 hm, rm_48_17 hm, km_59 hm, nm_59 hm, rm_48_18 hm, km_60 hm, nm_60 hm, rm_48_19 hm, km_61 hm, nm_61 hm, x_fails, x_failsWith, e_X11_mayHang, b_X11_mayHang, e_X9_isFor, b_X9_isFor, x_nameless, x_passes, j_X12_haul_176, x_mfails, e_X12_fits, b_X12_fits, e_X12_noRack, b_X12_noRack, x_in, x_well, m2, m3, a1, a4, a5, a6, b1, v1, v2, w1, w2, cp, l1]
      exact Pr_haul (g := z_cp (z_i S (G 10 p)) (z_i S (G 10 p)) i k n) h hp hq hin hkn (Nat.le_refl _) all (fun x hx => rfl) fW rfl (by
        unfold z_cI
        simp only [y_i_qi, Nat.add_left_cancel_iff, Nat.reduceEqDiff, ↓reduceIte, Nat.add_zero, Nat.zero_add])
    · have lc := l_haulC (G := G) (B := B) (q := q) (i := i) (k := k) (n := n) (e := n) (P := G 10 p) (Q := G 10 q) (by omega) (by omega) (by omega) (Nat.le_refl _) (fun z => pq (m5 p q hp hq z)) n z_N S 0 hc hCq a6 a6' hin hkn a3'.1 (fun l _ hl => all l hl) (by omega) (by omega) (by rw [z_N_eq]; omega)
      have hcw : cSh B (z_cI S (G 10 p) i (G 10 q) k 0 n) := cSh_up hc (fS_qi (G := G) (cs := c1 4) fS_rf _ _ (fun _ => at_dy a3' okcc)) (fun z => by unfold c1 at z; omega)
      rw [show z_N - n = (z_N - n - 1) + 1 by rw [z_N_eq]; omega, l_haulCE (by omega) hcw] at lc
      rw [← z0] at lc
      simp (disch := first | assumption | omega) only [y_i_wi, y_l_wi, y_d_wi, y_r_wi, y_k_wi, y_n_wi, y_x_wi, y_w_wi, y_s_wi, y_i_wl, y_l_wl, y_d_wl, y_r_wl, y_k_wl, y_n_wl, y_x_wl, y_w_wl, y_s_wl, y_i_wd, y_l_wd, y_d_wd, y_r_wd, y_k_wd, y_n_wd, y_x_wd, y_w_wd, y_s_wd, y_i_wr, y_l_wr, y_d_wr, y_r_wr, y_k_wr, y_n_wr, y_x_wr, y_w_wr, y_s_wr, y_i_new, y_l_new, y_d_new, y_r_new, y_k_new, y_n_new, y_x_new, y_w_new, y_s_new, y_i_ci, y_l_ci, y_d_ci, y_r_ci, y_k_ci, y_n_ci, y_x_ci, y_w_ci, y_s_ci, y_i_cl, y_l_cl, y_d_cl, y_r_cl, y_k_cl, y_n_cl, y_x_cl, y_w_cl, y_s_cl, y_i_qi, y_l_qi, y_d_qi, y_r_qi, y_k_qi, y_n_qi, y_x_qi, y_w_qi, y_s_qi, y_i_ql, y_l_ql, y_d_ql, y_r_ql, y_k_ql, y_n_ql, y_x_ql, y_w_ql, y_s_ql, y_i_qd, y_l_qd, y_d_qd, y_r_qd, y_k_qd, y_n_qd, y_x_qd, y_w_qd, y_s_qd, ↓reduceIte, ↓y_tb, ↓y_tv, ↓y_tr, ↓y_tn, ↓y_ck, ↓y_ib, ↓y_nz2, ↓y_nzl2, ↓y_len2, ↓y_nn2, ↓y_nf2, ↓y_l2d2, y_gb, y_gn, y_gi, y_gv, y_gv', y_grN, y_grS, y_glN, y_glS, Nat.reduceAdd, Nat.reduceMul, Nat.reduceSub, Nat.reduceDiv, Nat.reduceMod, Nat.reduceLT, Nat.reduceLeDiff, y_rb0, y_rb1, y_b0, y_b0', y_10, zL_eq, zL_cl, Nat.add_sub_cancel, implies_true, Int32.reduceLT, Int32.reduceLE, if_true, if_false, true_and, and_true, false_and, and_false, true_or, or_true, false_or, or_false, not_true_eq_false, not_false_eq_true, ne_eq, and_self, or_self, reduceCtorEq, Nat.add_left_cancel_iff, Nat.left_eq_add, Nat.add_eq_left, Nat.reduceEqDiff, zI_of, zI_cl, zI_add, zI_mul, zI_lt, zI_le, zI_eq, zI_mulL, zI_mulR, zI_addL, zI_addR, zI_subR, zI_sub, zI_divR, zI_ltR, zI_ltL, zI_leR, zI_leL, zI_eqR, zI_eqL, zI_neN, zI_neN', zI_ltN, zI_leN, zN_lt, zF1, zF2, zF3, zF4, zF5, zF6, zF7, zF8, zU_lt, zG1, zG2, zG3, zG4, zG5, zG6, zU1, zU2, zU3, zU4, zN_0, zN_le0, zI_lt0, zI_0le, zI_pred, zI_pred', zI_predS, zI_predT, zJ_le, zJ_lt, zJ_leL, zJ_leR, y_cl0, y_0cl, y_cle, y_lec, y_ceq, n_lt, n_le, n_nlt, n_nle,  kc_0 hc, rc_0_6 hc, kc_4 hc, nc_4 hc, rc_0_4 hc, kc_3 hc, nc_3 hc, km_48 hm, rm_48_13 hm, km_56 hm, nm_56 hm, rm_48_16 hm, km_58 hm, nm_58 hm, rm_48_17 hm, km_59 hm, nm_59 hm, rm_48_18 hm, km_60 hm, nm_60 hm, rm_48_19 hm, km_61 hm, nm_61 hm, x_fails, x_failsWith, e_X11_mayHang, b_X11_mayHang, e_X9_isFor, b_X9_isFor, x_nameless, x_passes, j_X12_haul_176, x_mfails, e_X12_fits, b_X12_fits, e_X12_noRack, b_X12_noRack, x_in, x_well, m2, m3, a1, a4, a5, a6, b1, a1', a4', a5', a6', b1', v1, v2, w1, w2, pq, lc, l1]
      exact Pr_haul (g := fun x => if k + 0 ≤ x ∧ x < k + n then z_i S (G 10 p) (i + (x - k)) else z_i S (G 10 q) x) h hp hq hin hkn (Nat.le_refl _) all (fun x hx => by simp only [Nat.add_zero]) fW rfl (by
        unfold z_cI
        simp only [y_i_qi, Nat.add_left_cancel_iff, Nat.reduceEqDiff, ↓reduceIte, Nat.add_zero, Nat.zero_add])
  · have pq : ¬ p = q := fun z => by
      subst z
      have := (b3 (i + e) (by omega)).2
      exact hOk_not t1 this e2
    have l2 := l_haul2 (G := G) (B := B) (q := q) (k := k) (n := n) (e := e) (by omega) (by omega) (by omega) a9' e z_N (z_cI T1 (B + 60) (16 * p + i) (B + 61) 0 0 n) 0 hm c58 t1 c56 (fun l _ hl => by rw [tW l (by omega)]; exact e3 l hl) (by omega) (by omega) (by rw [z_N_eq]; omega)
    have k1 : ∀ x, x ≠ B + 60 → ∀ j, z_i (z_cI (z_cI T1 (B + 60) (16 * p + i) (B + 61) 0 0 n) (B + 61) 0 (B + 60) (16 * q + k) 0 e) x j = z_i (z_cI T1 (B + 60) (16 * p + i) (B + 61) 0 0 n) x j := fun x hx j => by
      show z_i (z_qi _ (B + 60) _) x j = _
      rw [y_i_qi, if_neg hx]
    rw [show z_N - e = (z_N - e - 1) + 1 by rw [z_N_eq]; omega, l_haul2F (G := G) (by omega) (by omega) e1 a9' (show mSh B (z_cI (z_cI T1 (B + 60) (16 * p + i) (B + 61) 0 0 n) (B + 61) 0 (B + 60) (16 * q + k) 0 e) from hm) (by rw [k1 _ (by omega)]; exact c58) t1 (fun t ht => by rw [k1 _ (by omega)]; exact c56 t ht) (by rw [k1 _ (by omega), tW e e1]; exact e2)] at l2
    rw [← z0] at l1 l2
    rw [l2] at l1
    have ne : G 10 p ≠ G 10 q := fun z => pq (m5 p q hp hq z)
    have lc := l_haulC (G := G) (B := B) (q := q) (i := i) (k := k) (n := n) (e := e) (P := G 10 p) (Q := G 10 q) (by omega) (by omega) (by omega) (by omega) ne e z_N S 0 hc hCq a6 a6' hin hkn a3'.1 (fun l _ hl => e3 l hl) (by omega) (by omega) (by rw [z_N_eq]; omega)
    have hcw : cSh B (z_cI S (G 10 p) i (G 10 q) k 0 e) := cSh_up hc (fS_qi (G := G) (cs := c1 4) fS_rf _ _ (fun _ => at_dy a3' okcc)) (fun z => by unfold c1 at z; omega)
    have hCw : hC B G q (z_cI S (G 10 p) i (G 10 q) k 0 e) := by
      obtain ⟨x1, x2, x3, x4, x5, x6⟩ := hCq
      refine ⟨x1, x2, ?_, x4, x5, fun t ht => ?_⟩
      · show z_i (z_qi _ (G 10 q) _) _ _ = _
        rw [y_i_qi, if_neg (fun z => by rw [z, a6'] at x2; cases x2)]; exact x3
      · obtain ⟨y1, y2, y3, y4⟩ := x6 t ht
        refine ⟨y1, y2, ?_, y4⟩
        show z_i (z_qi _ (G 10 q) _) _ _ = _
        rw [y_i_qi, if_neg (fun z => by rw [z, a6'] at y2; cases y2)]; exact y3
    rw [show z_N - e = (z_N - e - 1) + 1 by rw [z_N_eq]; omega, l_haulCF (G := G) (by omega) (by omega) e1 hcw hCw a6 hin (by
      show hBad G q (z_i (z_qi _ (G 10 q) _) (G 10 p) _)
      rw [y_i_qi, if_neg ne]; exact e2)] at lc
    rw [← z0] at lc
    simp (disch := first | assumption | omega) only [y_i_wi, y_l_wi, y_d_wi, y_r_wi, y_k_wi, y_n_wi, y_x_wi, y_w_wi, y_s_wi, y_i_wl, y_l_wl, y_d_wl, y_r_wl, y_k_wl, y_n_wl, y_x_wl, y_w_wl, y_s_wl, y_i_wd, y_l_wd, y_d_wd, y_r_wd, y_k_wd, y_n_wd, y_x_wd, y_w_wd, y_s_wd, y_i_wr, y_l_wr, y_d_wr, y_r_wr, y_k_wr, y_n_wr, y_x_wr, y_w_wr, y_s_wr, y_i_new, y_l_new, y_d_new, y_r_new, y_k_new, y_n_new, y_x_new, y_w_new, y_s_new, y_i_ci, y_l_ci, y_d_ci, y_r_ci, y_k_ci, y_n_ci, y_x_ci, y_w_ci, y_s_ci, y_i_cl, y_l_cl, y_d_cl, y_r_cl, y_k_cl, y_n_cl, y_x_cl, y_w_cl, y_s_cl, y_i_qi, y_l_qi, y_d_qi, y_r_qi, y_k_qi, y_n_qi, y_x_qi, y_w_qi, y_s_qi, y_i_ql, y_l_ql, y_d_ql, y_r_ql, y_k_ql, y_n_ql, y_x_ql, y_w_ql, y_s_ql, y_i_qd, y_l_qd, y_d_qd, y_r_qd, y_k_qd, y_n_qd, y_x_qd, y_w_qd, y_s_qd, ↓reduceIte, ↓y_tb, ↓y_tv, ↓y_tr, ↓y_tn, ↓y_ck, ↓y_ib, ↓y_nz2, ↓y_nzl2, ↓y_len2, ↓y_nn2, ↓y_nf2, ↓y_l2d2, y_gb, y_gn, y_gi, y_gv, y_gv', y_grN, y_grS, y_glN, y_glS, Nat.reduceAdd, Nat.reduceMul, Nat.reduceSub, Nat.reduceDiv, Nat.reduceMod, Nat.reduceLT, Nat.reduceLeDiff, y_rb0, y_rb1, y_b0, y_b0', y_10, zL_eq, zL_cl, Nat.add_sub_cancel, implies_true, Int32.reduceLT, Int32.reduceLE, if_true, if_false, true_and, and_true, false_and, and_false, true_or, or_true, false_or, or_false, not_true_eq_false, not_false_eq_true, ne_eq, and_self, or_self, reduceCtorEq, Nat.add_left_cancel_iff, Nat.left_eq_add, Nat.add_eq_left, Nat.reduceEqDiff, zI_of, zI_cl, zI_add, zI_mul, zI_lt, zI_le, zI_eq, zI_mulL, zI_mulR, zI_addL, zI_addR, zI_subR, zI_sub, zI_divR, zI_ltR, zI_ltL, zI_leR, zI_leL, zI_eqR, zI_eqL, zI_neN, zI_neN', zI_ltN, zI_leN, zN_lt, zF1, zF2, zF3, zF4, zF5, zF6, zF7, zF8, zU_lt, zG1, zG2, zG3, zG4, zG5, zG6, zU1, zU2, zU3, zU4, zN_0, zN_le0, zI_lt0, zI_0le, zI_pred, zI_pred', zI_predS, zI_predT, zJ_le, zJ_lt, zJ_leL, zJ_leR, y_cl0, y_0cl, y_cle, y_lec, y_ceq, n_lt, n_le, n_nlt, n_nle,  kc_0 hc, rc_0_6 hc, kc_4 hc, nc_4 hc, rc_0_4 hc, kc_3 hc, nc_3 hc, km_48 hm, rm_48_13 hm, km_56 hm, nm_56 hm, rm_48_16 hm, km_58 hm, nm_58 hm, rm_48_17 hm, km_59 hm, nm_59 hm, rm_48_18 hm, km_60 hm, nm_60 hm, rm_48_19 hm, km_61 hm, nm_61 hm, x_fails, x_failsWith, e_X11_mayHang, b_X11_mayHang, e_X9_isFor, b_X9_isFor, x_nameless, x_passes, j_X12_haul_176, x_mfails, e_X12_fits, b_X12_fits, e_X12_noRack, b_X12_noRack, x_in, x_well, m2, m3, a1, a4, a5, a6, b1, a1', a4', a5', a6', b1', v1, v2, w1, w2, pq, lc, l1]
    exact Pr_haul (g := fun x => if k + 0 ≤ x ∧ x < k + e then z_i S (G 10 p) (i + (x - k)) else z_i S (G 10 q) x) h hp hq hin hkn (Nat.le_of_lt e1) e3 (fun x hx => by simp only [Nat.add_zero]) fW rfl (by
      rw [z_wi_wi]
      unfold z_cI
      simp only [y_i_qi, Nat.add_left_cancel_iff, Nat.reduceEqDiff, ↓reduceIte, Nat.add_zero, Nat.zero_add])
end HaulK
