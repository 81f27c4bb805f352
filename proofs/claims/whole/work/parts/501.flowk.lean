/-! flow: the middle one's outer loop -/
section FlowK
variable {B : Nat} {G : z_Gh} {S T : z_St}
theorem y_qd_id {T : z_St} {a : Nat} {g : Nat → UInt64} (h : ∀ j, g j = z_d T a j) : z_qd T a g = T := by
  have : z_ub T.2.2.2.2.1 a g = T.2.2.2.2.1 := by
    funext b j
    show (z_ub _ a g b) j = _
    unfold z_ub
    by_cases e : b = a
    · rw [if_pos e, e]; exact h j
    · rw [if_neg e]
  show (_, _, _, _, z_ub T.2.2.2.2.1 a g, _) = T
  rw [this]
theorem ncnt_mono (f : Nat → Int64) (k d : Nat) : ncnt f k ≤ ncnt f (k + d) := by
  induction d with
  | zero => exact Nat.le_refl _
  | succ d ih =>
    have e : ncnt f (k + (d + 1)) = if isN (f (k + d)) then ncnt f (k + d) else ncnt f (k + d) + 1 := rfl
    rw [e]
    split <;> omega
theorem ncnt_all {f : Nat → Int64} {k n : Nat} (hk : k ≤ n) (h : ncnt f k = ncnt f n) {j : Nat} (h1 : k ≤ j) (h2 : j < n) : isN (f j) := by
  have e : ncnt f (j + 1) = if isN (f j) then ncnt f j else ncnt f j + 1 := rfl
  have m1 := ncnt_mono f k (j - k)
  have m2 := ncnt_mono f (j + 1) (n - (j + 1))
  rw [show k + (j - k) = j by omega] at m1
  rw [show j + 1 + (n - (j + 1)) = n by omega] at m2
  by_cases c : isN (f j)
  · exact c
  · rw [if_neg c] at e
    omega
theorem half_zI {m : Nat} (h0 : m ≠ 0) (h : m ≤ 64) : (zI m - (1 : Int32)) / (2 : Int32) = zI ((m - 1) / 2) := by
  have e1 : zI m - (1 : Int32) = zI (m - 1) := zI_sub (a := m) (b := 1) (by omega) (by omega)
  rw [e1]
  have : ∀ k : Fin 64, zI k.1 / (2 : Int32) = zI (k.1 / 2) := by decide +kernel
  exact this ⟨m - 1, by omega⟩
theorem l_mdE {n q m : Nat} {f : Nat → Int64} (hm : mSh B T) (hq : q < 40) (hn : n ≤ 64) (e1 : z_i T (B + 50) q = zI n) (hf : ∀ j, j < n → z_l T (B + 51) (64 * q + j) = f j) (h0 : m ≠ 0) (h64 : m ≤ 64) (g' : Nat → UInt64) (d : Nat) : ∀ N k, n - k = d → k ≤ n → d < N → (∀ j, k ≤ j → j < n → isN (f j)) → l_X12_middleOf_4 N (B + 48) (zI q) (zI m) (zI k) (z_qd T (B + 69) g') = some (g' ((m - 1) / 2), z_qd T (B + 69) g') := by
  have hh := half_zI h0 h64
  have hl : (m - 1) / 2 < 64 := by omega
  induction d with
  | zero =>
    intro N k hd hk hN ha
    obtain ⟨N, rfl⟩ : ∃ n, N = n + 1 := ⟨N - 1, by omega⟩
    have : k = n := by omega
    subst this
    rw [l_X12_middleOf_4]
    simp (disch := first | assumption | omega) only [y_i_wi, y_l_wi, y_d_wi, y_r_wi, y_k_wi, y_n_wi, y_x_wi, y_w_wi, y_s_wi, y_i_wl, y_l_wl, y_d_wl, y_r_wl, y_k_wl, y_n_wl, y_x_wl, y_w_wl, y_s_wl, y_i_wd, y_l_wd, y_d_wd, y_r_wd, y_k_wd, y_n_wd, y_x_wd, y_w_wd, y_s_wd, y_i_wr, y_l_wr, y_d_wr, y_r_wr, y_k_wr, y_n_wr, y_x_wr, y_w_wr, y_s_wr, y_i_new, y_l_new, y_d_new, y_r_new, y_k_new, y_n_new, y_x_new, y_w_new, y_s_new, y_i_ci, y_l_ci, y_d_ci, y_r_ci, y_k_ci, y_n_ci, y_x_ci, y_w_ci, y_s_ci, y_i_cl, y_l_cl, y_d_cl, y_r_cl, y_k_cl, y_n_cl, y_x_cl, y_w_cl, y_s_cl, y_i_qi, y_l_qi, y_d_qi, y_r_qi, y_k_qi, y_n_qi, y_x_qi, y_w_qi, y_s_qi, y_i_ql, y_l_ql, y_d_ql, y_r_ql, y_k_ql, y_n_ql, y_x_ql, y_w_ql, y_s_ql, y_i_qd, y_l_qd, y_d_qd, y_r_qd, y_k_qd, y_n_qd, y_x_qd, y_w_qd, y_s_qd, ↓reduceIte, ↓y_tb, ↓y_tv, ↓y_tr, ↓y_tn, ↓y_ck, ↓y_ib, ↓y_nz2, ↓y_nzl2, ↓y_len2, ↓y_nn2, ↓y_nf2, ↓y_l2d2, y_gb, y_gn, y_gi, y_gv, y_gv', y_grN, y_grS, y_glN, y_glS, Nat.reduceAdd, Nat.reduceMul, Nat.reduceSub, Nat.reduceDiv, Nat.reduceMod, Nat.reduceLT, Nat.reduceLeDiff, y_rb0, y_rb1, y_b0, y_b0', y_10, zL_eq, zL_cl, Nat.add_sub_cancel, implies_true, Int32.reduceLT, Int32.reduceLE, if_true, if_false, true_and, and_true, false_and, and_false, true_or, or_true, false_or, or_false, not_true_eq_false, not_false_eq_true, ne_eq, and_self, or_self, reduceCtorEq, Nat.add_left_cancel_iff, Nat.left_eq_add, Nat.add_eq_left, Nat.reduceEqDiff, zI_of, zI_cl, zI_add, zI_mul, zI_lt, zI_le, zI_eq, zI_mulL, zI_mulR, zI_addL, zI_addR, zI_subR, zI_sub, zI_divR, zI_ltR, zI_ltL, zI_leR, zI_leL, zI_eqR, zI_eqL, zI_neN, zI_neN', zI_ltN, zI_leN, zN_lt, zF1, zF2, zF3, zF4, zF5, zF6, zF7, zF8, zU_lt, zG1, zG2, zG3, zG4, zG5, zG6, zU1, zU2, zU3, zU4, zN_0, zN_le0, zI_lt0, zI_0le, zI_pred, zI_pred', zI_predS, zI_predT, zJ_le, zJ_lt, zJ_leL, zJ_leR, y_cl0, y_0cl, y_cle, y_lec, y_ceq, n_lt, n_le, n_nlt, n_nle,  km_48 hm, rm_48_5 hm, km_50 hm, nm_50 hm, e1, Nat.le_refl, h0, rm_48_28 hm, km_69 hm, nm_69 hm, hh, hl]
  | succ d ih =>
    intro N k hd hk hN ha
    obtain ⟨N, rfl⟩ : ∃ n, N = n + 1 := ⟨N - 1, by omega⟩
    have nk : ¬ n ≤ k := by omega
    have hfk := hf k (by omega)
    have cn' : (9218868437227405312 : Int64) < f k &&& 9223372036854775807 := ha k (Nat.le_refl _) (by omega)
    have rr := F_realN cn' (z_qd T (B + 69) g')
    refine Eq.trans ?_ (ih N (k + 1) (by omega) (by omega) (by omega) (fun j h1 h2 => ha j (by omega) h2))
    rw [l_X12_middleOf_4]
    simp (disch := first | assumption | omega) only [y_i_wi, y_l_wi, y_d_wi, y_r_wi, y_k_wi, y_n_wi, y_x_wi, y_w_wi, y_s_wi, y_i_wl, y_l_wl, y_d_wl, y_r_wl, y_k_wl, y_n_wl, y_x_wl, y_w_wl, y_s_wl, y_i_wd, y_l_wd, y_d_wd, y_r_wd, y_k_wd, y_n_wd, y_x_wd, y_w_wd, y_s_wd, y_i_wr, y_l_wr, y_d_wr, y_r_wr, y_k_wr, y_n_wr, y_x_wr, y_w_wr, y_s_wr, y_i_new, y_l_new, y_d_new, y_r_new, y_k_new, y_n_new, y_x_new, y_w_new, y_s_new, y_i_ci, y_l_ci, y_d_ci, y_r_ci, y_k_ci, y_n_ci, y_x_ci, y_w_ci, y_s_ci, y_i_cl, y_l_cl, y_d_cl, y_r_cl, y_k_cl, y_n_cl, y_x_cl, y_w_cl, y_s_cl, y_i_qi, y_l_qi, y_d_qi, y_r_qi, y_k_qi, y_n_qi, y_x_qi, y_w_qi, y_s_qi, y_i_ql, y_l_ql, y_d_ql, y_r_ql, y_k_ql, y_n_ql, y_x_ql, y_w_ql, y_s_ql, y_i_qd, y_l_qd, y_d_qd, y_r_qd, y_k_qd, y_n_qd, y_x_qd, y_w_qd, y_s_qd, ↓reduceIte, ↓y_tb, ↓y_tv, ↓y_tr, ↓y_tn, ↓y_ck, ↓y_ib, ↓y_nz2, ↓y_nzl2, ↓y_len2, ↓y_nn2, ↓y_nf2, ↓y_l2d2, y_gb, y_gn, y_gi, y_gv, y_gv', y_grN, y_grS, y_glN, y_glS, Nat.reduceAdd, Nat.reduceMul, Nat.reduceSub, Nat.reduceDiv, Nat.reduceMod, Nat.reduceLT, Nat.reduceLeDiff, y_rb0, y_rb1, y_b0, y_b0', y_10, zL_eq, zL_cl, Nat.add_sub_cancel, implies_true, Int32.reduceLT, Int32.reduceLE, if_true, if_false, true_and, and_true, false_and, and_false, true_or, or_true, false_or, or_false, not_true_eq_false, not_false_eq_true, ne_eq, and_self, or_self, reduceCtorEq, Nat.add_left_cancel_iff, Nat.left_eq_add, Nat.add_eq_left, Nat.reduceEqDiff, zI_of, zI_cl, zI_add, zI_mul, zI_lt, zI_le, zI_eq, zI_mulL, zI_mulR, zI_addL, zI_addR, zI_subR, zI_sub, zI_divR, zI_ltR, zI_ltL, zI_leR, zI_leL, zI_eqR, zI_eqL, zI_neN, zI_neN', zI_ltN, zI_leN, zN_lt, zF1, zF2, zF3, zF4, zF5, zF6, zF7, zF8, zU_lt, zG1, zG2, zG3, zG4, zG5, zG6, zU1, zU2, zU3, zU4, zN_0, zN_le0, zI_lt0, zI_0le, zI_pred, zI_pred', zI_predS, zI_predT, zJ_le, zJ_lt, zJ_leL, zJ_leR, y_cl0, y_0cl, y_cle, y_lec, y_ceq, n_lt, n_le, n_nlt, n_nle,  km_48 hm, rm_48_5 hm, km_50 hm, nm_50 hm, e1, nk, rm_48_6 hm, km_51 hm, nm_51 hm, hfk, rr, F_nanL, cvN0]
theorem x_107 {m x : Nat} (hkx : z_k S x = 102) (hnx : z_n S x = m) (h0 : m ≠ 0) (h64 : m ≤ 64) (g : Nat → Int64) : j_X8_middleOfNumbers_107 (zI m) x (z_ql S x g) = some (g ((m - 1) / 2), z_ql S x g) := by
  have hh := half_zI h0 h64
  have hl : (m - 1) / 2 < m := by omega
  unfold j_X8_middleOfNumbers_107
  simp (disch := first | assumption | omega) only [y_i_wi, y_l_wi, y_d_wi, y_r_wi, y_k_wi, y_n_wi, y_x_wi, y_w_wi, y_s_wi, y_i_wl, y_l_wl, y_d_wl, y_r_wl, y_k_wl, y_n_wl, y_x_wl, y_w_wl, y_s_wl, y_i_wd, y_l_wd, y_d_wd, y_r_wd, y_k_wd, y_n_wd, y_x_wd, y_w_wd, y_s_wd, y_i_wr, y_l_wr, y_d_wr, y_r_wr, y_k_wr, y_n_wr, y_x_wr, y_w_wr, y_s_wr, y_i_new, y_l_new, y_d_new, y_r_new, y_k_new, y_n_new, y_x_new, y_w_new, y_s_new, y_i_ci, y_l_ci, y_d_ci, y_r_ci, y_k_ci, y_n_ci, y_x_ci, y_w_ci, y_s_ci, y_i_cl, y_l_cl, y_d_cl, y_r_cl, y_k_cl, y_n_cl, y_x_cl, y_w_cl, y_s_cl, y_i_qi, y_l_qi, y_d_qi, y_r_qi, y_k_qi, y_n_qi, y_x_qi, y_w_qi, y_s_qi, y_i_ql, y_l_ql, y_d_ql, y_r_ql, y_k_ql, y_n_ql, y_x_ql, y_w_ql, y_s_ql, y_i_qd, y_l_qd, y_d_qd, y_r_qd, y_k_qd, y_n_qd, y_x_qd, y_w_qd, y_s_qd, ↓reduceIte, ↓y_tb, ↓y_tv, ↓y_tr, ↓y_tn, ↓y_ck, ↓y_ib, ↓y_nz2, ↓y_nzl2, ↓y_len2, ↓y_nn2, ↓y_nf2, ↓y_l2d2, y_gb, y_gn, y_gi, y_gv, y_gv', y_grN, y_grS, y_glN, y_glS, Nat.reduceAdd, Nat.reduceMul, Nat.reduceSub, Nat.reduceDiv, Nat.reduceMod, Nat.reduceLT, Nat.reduceLeDiff, y_rb0, y_rb1, y_b0, y_b0', y_10, zL_eq, zL_cl, Nat.add_sub_cancel, implies_true, Int32.reduceLT, Int32.reduceLE, if_true, if_false, true_and, and_true, false_and, and_false, true_or, or_true, false_or, or_false, not_true_eq_false, not_false_eq_true, ne_eq, and_self, or_self, reduceCtorEq, Nat.add_left_cancel_iff, Nat.left_eq_add, Nat.add_eq_left, Nat.reduceEqDiff, zI_of, zI_cl, zI_add, zI_mul, zI_lt, zI_le, zI_eq, zI_mulL, zI_mulR, zI_addL, zI_addR, zI_subR, zI_sub, zI_divR, zI_ltR, zI_ltL, zI_leR, zI_leL, zI_eqR, zI_eqL, zI_neN, zI_neN', zI_ltN, zI_leN, zN_lt, zF1, zF2, zF3, zF4, zF5, zF6, zF7, zF8, zU_lt, zG1, zG2, zG3, zG4, zG5, zG6, zU1, zU2, zU3, zU4, zN_0, zN_le0, zI_lt0, zI_0le, zI_pred, zI_pred', zI_predS, zI_predT, zJ_le, zJ_lt, zJ_leL, zJ_leR, y_cl0, y_0cl, y_cle, y_lec, y_ceq, n_lt, n_le, n_nlt, n_nle,  hkx, hnx, h0, hh, hl]
theorem l_mid {a c n m x q : Nat} {f : Nat → Int64} (hm : mSh B T) (h : rwC S a c n f) (hxc : x ≠ c) (hkx : z_k S x = 102) (hnx : z_n S x = m) (hq : q < 40) (e1 : z_i T (B + 50) q = zI n) (hf' : ∀ j, j < n → z_l T (B + 51) (64 * q + j) = f j) (em : ncnt f n = m) (h0 : m ≠ 0) (d : Nat) : ∀ N N' k g g', n - k = d → k ≤ n → d < N → d < N' → (∀ j, j < ncnt f k → pm g g' j) → ∃ b h h', l_X8_middleOfNumbers_9 N a (zI m) x (zI (ncnt f k)) (zI k) (z_ql S x g) = some (b, z_ql S x h) ∧ l_X12_middleOf_4 N' (B + 48) (zI q) (zI (ncnt f k)) (zI k) (z_qd T (B + 69) g') = some (b.toUInt64, z_qd T (B + 69) h') ∧ ¬ isN b := by
  have hR := h
  obtain ⟨a3, a4, a5, a8, hn, hf⟩ := h
  have h64 : m ≤ 64 := by have := ncnt_le f n; omega
  have e9 : ¬ c = x := fun z => hxc z.symm
  induction d with
  | zero =>
    intro N N' k g g' hd hk hN hN' hp
    obtain ⟨N, rfl⟩ : ∃ n, N = n + 1 := ⟨N - 1, by omega⟩
    have : k = n := by omega
    subst this
    rw [em] at hp ⊢
    obtain ⟨p1, p2⟩ := hp ((m - 1) / 2) (by omega)
    refine ⟨g ((m - 1) / 2), g, g', ?_, ?_, p2⟩
    · have x1 := x_107 hkx hnx h0 h64 g
      rw [l_X8_middleOfNumbers_9]
      simp (disch := first | assumption | omega) only [y_i_wi, y_l_wi, y_d_wi, y_r_wi, y_k_wi, y_n_wi, y_x_wi, y_w_wi, y_s_wi, y_i_wl, y_l_wl, y_d_wl, y_r_wl, y_k_wl, y_n_wl, y_x_wl, y_w_wl, y_s_wl, y_i_wd, y_l_wd, y_d_wd, y_r_wd, y_k_wd, y_n_wd, y_x_wd, y_w_wd, y_s_wd, y_i_wr, y_l_wr, y_d_wr, y_r_wr, y_k_wr, y_n_wr, y_x_wr, y_w_wr, y_s_wr, y_i_new, y_l_new, y_d_new, y_r_new, y_k_new, y_n_new, y_x_new, y_w_new, y_s_new, y_i_ci, y_l_ci, y_d_ci, y_r_ci, y_k_ci, y_n_ci, y_x_ci, y_w_ci, y_s_ci, y_i_cl, y_l_cl, y_d_cl, y_r_cl, y_k_cl, y_n_cl, y_x_cl, y_w_cl, y_s_cl, y_i_qi, y_l_qi, y_d_qi, y_r_qi, y_k_qi, y_n_qi, y_x_qi, y_w_qi, y_s_qi, y_i_ql, y_l_ql, y_d_ql, y_r_ql, y_k_ql, y_n_ql, y_x_ql, y_w_ql, y_s_ql, y_i_qd, y_l_qd, y_d_qd, y_r_qd, y_k_qd, y_n_qd, y_x_qd, y_w_qd, y_s_qd, ↓reduceIte, ↓y_tb, ↓y_tv, ↓y_tr, ↓y_tn, ↓y_ck, ↓y_ib, ↓y_nz2, ↓y_nzl2, ↓y_len2, ↓y_nn2, ↓y_nf2, ↓y_l2d2, y_gb, y_gn, y_gi, y_gv, y_gv', y_grN, y_grS, y_glN, y_glS, Nat.reduceAdd, Nat.reduceMul, Nat.reduceSub, Nat.reduceDiv, Nat.reduceMod, Nat.reduceLT, Nat.reduceLeDiff, y_rb0, y_rb1, y_b0, y_b0', y_10, zL_eq, zL_cl, Nat.add_sub_cancel, implies_true, Int32.reduceLT, Int32.reduceLE, if_true, if_false, true_and, and_true, false_and, and_false, true_or, or_true, false_or, or_false, not_true_eq_false, not_false_eq_true, ne_eq, and_self, or_self, reduceCtorEq, Nat.add_left_cancel_iff, Nat.left_eq_add, Nat.add_eq_left, Nat.reduceEqDiff, zI_of, zI_cl, zI_add, zI_mul, zI_lt, zI_le, zI_eq, zI_mulL, zI_mulR, zI_addL, zI_addR, zI_subR, zI_sub, zI_divR, zI_ltR, zI_ltL, zI_leR, zI_leL, zI_eqR, zI_eqL, zI_neN, zI_neN', zI_ltN, zI_leN, zN_lt, zF1, zF2, zF3, zF4, zF5, zF6, zF7, zF8, zU_lt, zG1, zG2, zG3, zG4, zG5, zG6, zU1, zU2, zU3, zU4, zN_0, zN_le0, zI_lt0, zI_0le, zI_pred, zI_pred', zI_predS, zI_predT, zJ_le, zJ_lt, zJ_leL, zJ_leR, y_cl0, y_0cl, y_cle, y_lec, y_ceq, n_lt, n_le, n_nlt, n_nle,  a3, a4, a5, a8, Nat.le_refl, x1]
    · rw [← p1]
      exact l_mdE hm hq hn e1 hf' h0 h64 g' 0 N' k (by omega) (by omega) hN' (fun j h1 h2 => by omega)
  | succ d ih =>
    intro N N' k g g' hd hk hN hN' hp
    obtain ⟨N, rfl⟩ : ∃ n, N = n + 1 := ⟨N - 1, by omega⟩
    have nk : ¬ n ≤ k := by omega
    have hfk := hf k (by omega)
    have hfk' := hf' k (by omega)
    have hcl := ncnt_le f k
    have hcm := ncnt_mono f k (n - k)
    rw [show k + (n - k) = n by omega] at hcm
    by_cases hc : ncnt f k = m
    · rw [hc] at hp ⊢
      obtain ⟨p1, p2⟩ := hp ((m - 1) / 2) (by omega)
      refine ⟨g ((m - 1) / 2), g, g', ?_, ?_, p2⟩
      · have x1 := x_107 hkx hnx h0 h64 g
        rw [l_X8_middleOfNumbers_9]
        simp (disch := first | assumption | omega) only [y_i_wi, y_l_wi, y_d_wi, y_r_wi, y_k_wi, y_n_wi, y_x_wi, y_w_wi, y_s_wi, y_i_wl, y_l_wl, y_d_wl, y_r_wl, y_k_wl, y_n_wl, y_x_wl, y_w_wl, y_s_wl, y_i_wd, y_l_wd, y_d_wd, y_r_wd, y_k_wd, y_n_wd, y_x_wd, y_w_wd, y_s_wd, y_i_wr, y_l_wr, y_d_wr, y_r_wr, y_k_wr, y_n_wr, y_x_wr, y_w_wr, y_s_wr, y_i_new, y_l_new, y_d_new, y_r_new, y_k_new, y_n_new, y_x_new, y_w_new, y_s_new, y_i_ci, y_l_ci, y_d_ci, y_r_ci, y_k_ci, y_n_ci, y_x_ci, y_w_ci, y_s_ci, y_i_cl, y_l_cl, y_d_cl, y_r_cl, y_k_cl, y_n_cl, y_x_cl, y_w_cl, y_s_cl, y_i_qi, y_l_qi, y_d_qi, y_r_qi, y_k_qi, y_n_qi, y_x_qi, y_w_qi, y_s_qi, y_i_ql, y_l_ql, y_d_ql, y_r_ql, y_k_ql, y_n_ql, y_x_ql, y_w_ql, y_s_ql, y_i_qd, y_l_qd, y_d_qd, y_r_qd, y_k_qd, y_n_qd, y_x_qd, y_w_qd, y_s_qd, ↓reduceIte, ↓y_tb, ↓y_tv, ↓y_tr, ↓y_tn, ↓y_ck, ↓y_ib, ↓y_nz2, ↓y_nzl2, ↓y_len2, ↓y_nn2, ↓y_nf2, ↓y_l2d2, y_gb, y_gn, y_gi, y_gv, y_gv', y_grN, y_grS, y_glN, y_glS, Nat.reduceAdd, Nat.reduceMul, Nat.reduceSub, Nat.reduceDiv, Nat.reduceMod, Nat.reduceLT, Nat.reduceLeDiff, y_rb0, y_rb1, y_b0, y_b0', y_10, zL_eq, zL_cl, Nat.add_sub_cancel, implies_true, Int32.reduceLT, Int32.reduceLE, if_true, if_false, true_and, and_true, false_and, and_false, true_or, or_true, false_or, or_false, not_true_eq_false, not_false_eq_true, ne_eq, and_self, or_self, reduceCtorEq, Nat.add_left_cancel_iff, Nat.left_eq_add, Nat.add_eq_left, Nat.reduceEqDiff, zI_of, zI_cl, zI_add, zI_mul, zI_lt, zI_le, zI_eq, zI_mulL, zI_mulR, zI_addL, zI_addR, zI_subR, zI_sub, zI_divR, zI_ltR, zI_ltL, zI_leR, zI_leL, zI_eqR, zI_eqL, zI_neN, zI_neN', zI_ltN, zI_leN, zN_lt, zF1, zF2, zF3, zF4, zF5, zF6, zF7, zF8, zU_lt, zG1, zG2, zG3, zG4, zG5, zG6, zU1, zU2, zU3, zU4, zN_0, zN_le0, zI_lt0, zI_0le, zI_pred, zI_pred', zI_predS, zI_predT, zJ_le, zJ_lt, zJ_leL, zJ_leR, y_cl0, y_0cl, y_cle, y_lec, y_ceq, n_lt, n_le, n_nlt, n_nle,  a3, a4, a5, a8, nk, Nat.le_refl, x1]
      · rw [← p1]
        exact l_mdE hm hq hn e1 hf' h0 h64 g' (d + 1) N' k hd hk hN' (fun j h1 h2 => ncnt_all hk (by omega) h1 h2)
    · obtain ⟨N', rfl⟩ : ∃ n, N' = n + 1 := ⟨N' - 1, by omega⟩
      have nm : ¬ m ≤ ncnt f k := by omega
      by_cases cn : isN (f k)
      · have cn' : (9218868437227405312 : Int64) < f k &&& 9223372036854775807 := cn
        have ec : ncnt f (k + 1) = ncnt f k := if_pos cn
        have rr := F_realN cn' (z_qd T (B + 69) g')
        obtain ⟨b, h, h', r1, r2, r3⟩ := ih N N' (k + 1) g g' (by omega) (by omega) (by omega) (by omega) (by rw [ec]; exact hp)
        rw [ec] at r1 r2
        refine ⟨b, h, h', Eq.trans ?_ r1, Eq.trans ?_ r2, r3⟩
        · rw [l_X8_middleOfNumbers_9]
          simp (disch := first | assumption | omega) only [y_i_wi, y_l_wi, y_d_wi, y_r_wi, y_k_wi, y_n_wi, y_x_wi, y_w_wi, y_s_wi, y_i_wl, y_l_wl, y_d_wl, y_r_wl, y_k_wl, y_n_wl, y_x_wl, y_w_wl, y_s_wl, y_i_wd, y_l_wd, y_d_wd, y_r_wd, y_k_wd, y_n_wd, y_x_wd, y_w_wd, y_s_wd, y_i_wr, y_l_wr, y_d_wr, y_r_wr, y_k_wr, y_n_wr, y_x_wr, y_w_wr, y_s_wr, y_i_new, y_l_new, y_d_new, y_r_new, y_k_new, y_n_new, y_x_new, y_w_new, y_s_new, y_i_ci, y_l_ci, y_d_ci, y_r_ci, y_k_ci, y_n_ci, y_x_ci, y_w_ci, y_s_ci, y_i_cl, y_l_cl, y_d_cl, y_r_cl, y_k_cl, y_n_cl, y_x_cl, y_w_cl, y_s_cl, y_i_qi, y_l_qi, y_d_qi, y_r_qi, y_k_qi, y_n_qi, y_x_qi, y_w_qi, y_s_qi, y_i_ql, y_l_ql, y_d_ql, y_r_ql, y_k_ql, y_n_ql, y_x_ql, y_w_ql, y_s_ql, y_i_qd, y_l_qd, y_d_qd, y_r_qd, y_k_qd, y_n_qd, y_x_qd, y_w_qd, y_s_qd, ↓reduceIte, ↓y_tb, ↓y_tv, ↓y_tr, ↓y_tn, ↓y_ck, ↓y_ib, ↓y_nz2, ↓y_nzl2, ↓y_len2, ↓y_nn2, ↓y_nf2, ↓y_l2d2, y_gb, y_gn, y_gi, y_gv, y_gv', y_grN, y_grS, y_glN, y_glS, Nat.reduceAdd, Nat.reduceMul, Nat.reduceSub, Nat.reduceDiv, Nat.reduceMod, Nat.reduceLT, Nat.reduceLeDiff, y_rb0, y_rb1, y_b0, y_b0', y_10, zL_eq, zL_cl, Nat.add_sub_cancel, implies_true, Int32.reduceLT, Int32.reduceLE, if_true, if_false, true_and, and_true, false_and, and_false, true_or, or_true, false_or, or_false, not_true_eq_false, not_false_eq_true, ne_eq, and_self, or_self, reduceCtorEq, Nat.add_left_cancel_iff, Nat.left_eq_add, Nat.add_eq_left, Nat.reduceEqDiff, zI_of, zI_cl, zI_add, zI_mul, zI_lt, zI_le, zI_eq, zI_mulL, zI_mulR, zI_addL, zI_addR, zI_subR, zI_sub, zI_divR, zI_ltR, zI_ltL, zI_leR, zI_leL, zI_eqR, zI_eqL, zI_neN, zI_neN', zI_ltN, zI_leN, zN_lt, zF1, zF2, zF3, zF4, zF5, zF6, zF7, zF8, zU_lt, zG1, zG2, zG3, zG4, zG5, zG6, zU1, zU2, zU3, zU4, zN_0, zN_le0, zI_lt0, zI_0le, zI_pred, zI_pred', zI_predS, zI_predT, zJ_le, zJ_lt, zJ_leL, zJ_leR, y_cl0, y_0cl, y_cle, y_lec, y_ceq, n_lt, n_le, n_nlt, n_nle,  x_noNumber, a3, a4, a5, a8, nk, nm, hfk, e9, cn']
        · rw [l_X12_middleOf_4]
          simp (disch := first | assumption | omega) only [y_i_wi, y_l_wi, y_d_wi, y_r_wi, y_k_wi, y_n_wi, y_x_wi, y_w_wi, y_s_wi, y_i_wl, y_l_wl, y_d_wl, y_r_wl, y_k_wl, y_n_wl, y_x_wl, y_w_wl, y_s_wl, y_i_wd, y_l_wd, y_d_wd, y_r_wd, y_k_wd, y_n_wd, y_x_wd, y_w_wd, y_s_wd, y_i_wr, y_l_wr, y_d_wr, y_r_wr, y_k_wr, y_n_wr, y_x_wr, y_w_wr, y_s_wr, y_i_new, y_l_new, y_d_new, y_r_new, y_k_new, y_n_new, y_x_new, y_w_new, y_s_new, y_i_ci, y_l_ci, y_d_ci, y_r_ci, y_k_ci, y_n_ci, y_x_ci, y_w_ci, y_s_ci, y_i_cl, y_l_cl, y_d_cl, y_r_cl, y_k_cl, y_n_cl, y_x_cl, y_w_cl, y_s_cl, y_i_qi, y_l_qi, y_d_qi, y_r_qi, y_k_qi, y_n_qi, y_x_qi, y_w_qi, y_s_qi, y_i_ql, y_l_ql, y_d_ql, y_r_ql, y_k_ql, y_n_ql, y_x_ql, y_w_ql, y_s_ql, y_i_qd, y_l_qd, y_d_qd, y_r_qd, y_k_qd, y_n_qd, y_x_qd, y_w_qd, y_s_qd, ↓reduceIte, ↓y_tb, ↓y_tv, ↓y_tr, ↓y_tn, ↓y_ck, ↓y_ib, ↓y_nz2, ↓y_nzl2, ↓y_len2, ↓y_nn2, ↓y_nf2, ↓y_l2d2, y_gb, y_gn, y_gi, y_gv, y_gv', y_grN, y_grS, y_glN, y_glS, Nat.reduceAdd, Nat.reduceMul, Nat.reduceSub, Nat.reduceDiv, Nat.reduceMod, Nat.reduceLT, Nat.reduceLeDiff, y_rb0, y_rb1, y_b0, y_b0', y_10, zL_eq, zL_cl, Nat.add_sub_cancel, implies_true, Int32.reduceLT, Int32.reduceLE, if_true, if_false, true_and, and_true, false_and, and_false, true_or, or_true, false_or, or_false, not_true_eq_false, not_false_eq_true, ne_eq, and_self, or_self, reduceCtorEq, Nat.add_left_cancel_iff, Nat.left_eq_add, Nat.add_eq_left, Nat.reduceEqDiff, zI_of, zI_cl, zI_add, zI_mul, zI_lt, zI_le, zI_eq, zI_mulL, zI_mulR, zI_addL, zI_addR, zI_subR, zI_sub, zI_divR, zI_ltR, zI_ltL, zI_leR, zI_leL, zI_eqR, zI_eqL, zI_neN, zI_neN', zI_ltN, zI_leN, zN_lt, zF1, zF2, zF3, zF4, zF5, zF6, zF7, zF8, zU_lt, zG1, zG2, zG3, zG4, zG5, zG6, zU1, zU2, zU3, zU4, zN_0, zN_le0, zI_lt0, zI_0le, zI_pred, zI_pred', zI_predS, zI_predT, zJ_le, zJ_lt, zJ_leL, zJ_leR, y_cl0, y_0cl, y_cle, y_lec, y_ceq, n_lt, n_le, n_nlt, n_nle,  km_48 hm, rm_48_5 hm, km_50 hm, nm_50 hm, e1, nk, rm_48_6 hm, km_51 hm, nm_51 hm, hfk', rr, F_nanL, cvN0]
      · have cn' : ¬ (9218868437227405312 : Int64) < f k &&& 9223372036854775807 := cn
        have ec : ncnt f (k + 1) = ncnt f k + 1 := if_neg cn
        have rr := F_realM cn' (z_qd T (B + 69) g')
        have fs := F_self (F_nn cn')
        obtain ⟨h1, h1', s1, s2, s3⟩ := l_ins (many := ncnt f k) hm hR hxc hkx hnx hq (by omega) (by omega) h64 cn (l_X8_middleOfNumbers_9 N) (l_X12_middleOf_4 N') (ncnt f k) z_N g g' (Nat.le_refl _) (by rw [z_N_eq]; omega) (fun j j1 j2 => hp j (by omega))
        obtain ⟨b, h, h', r1, r2, r3⟩ := ih N N' (k + 1) h1 h1' (by omega) (by omega) (by omega) (by omega) (fun j hj => s3 j (by omega))
        rw [ec] at r1 r2
        refine ⟨b, h, h', Eq.trans ?_ (s1.trans r1), Eq.trans ?_ (s2.trans r2), r3⟩
        · rw [l_X8_middleOfNumbers_9]
          simp (disch := first | assumption | omega) only [y_i_wi, y_l_wi, y_d_wi, y_r_wi, y_k_wi, y_n_wi, y_x_wi, y_w_wi, y_s_wi, y_i_wl, y_l_wl, y_d_wl, y_r_wl, y_k_wl, y_n_wl, y_x_wl, y_w_wl, y_s_wl, y_i_wd, y_l_wd, y_d_wd, y_r_wd, y_k_wd, y_n_wd, y_x_wd, y_w_wd, y_s_wd, y_i_wr, y_l_wr, y_d_wr, y_r_wr, y_k_wr, y_n_wr, y_x_wr, y_w_wr, y_s_wr, y_i_new, y_l_new, y_d_new, y_r_new, y_k_new, y_n_new, y_x_new, y_w_new, y_s_new, y_i_ci, y_l_ci, y_d_ci, y_r_ci, y_k_ci, y_n_ci, y_x_ci, y_w_ci, y_s_ci, y_i_cl, y_l_cl, y_d_cl, y_r_cl, y_k_cl, y_n_cl, y_x_cl, y_w_cl, y_s_cl, y_i_qi, y_l_qi, y_d_qi, y_r_qi, y_k_qi, y_n_qi, y_x_qi, y_w_qi, y_s_qi, y_i_ql, y_l_ql, y_d_ql, y_r_ql, y_k_ql, y_n_ql, y_x_ql, y_w_ql, y_s_ql, y_i_qd, y_l_qd, y_d_qd, y_r_qd, y_k_qd, y_n_qd, y_x_qd, y_w_qd, y_s_qd, ↓reduceIte, ↓y_tb, ↓y_tv, ↓y_tr, ↓y_tn, ↓y_ck, ↓y_ib, ↓y_nz2, ↓y_nzl2, ↓y_len2, ↓y_nn2, ↓y_nf2, ↓y_l2d2, y_gb, y_gn, y_gi, y_gv, y_gv', y_grN, y_grS, y_glN, y_glS, Nat.reduceAdd, Nat.reduceMul, Nat.reduceSub, Nat.reduceDiv, Nat.reduceMod, Nat.reduceLT, Nat.reduceLeDiff, y_rb0, y_rb1, y_b0, y_b0', y_10, zL_eq, zL_cl, Nat.add_sub_cancel, implies_true, Int32.reduceLT, Int32.reduceLE, if_true, if_false, true_and, and_true, false_and, and_false, true_or, or_true, false_or, or_false, not_true_eq_false, not_false_eq_true, ne_eq, and_self, or_self, reduceCtorEq, Nat.add_left_cancel_iff, Nat.left_eq_add, Nat.add_eq_left, Nat.reduceEqDiff, zI_of, zI_cl, zI_add, zI_mul, zI_lt, zI_le, zI_eq, zI_mulL, zI_mulR, zI_addL, zI_addR, zI_subR, zI_sub, zI_divR, zI_ltR, zI_ltL, zI_leR, zI_leL, zI_eqR, zI_eqL, zI_neN, zI_neN', zI_ltN, zI_leN, zN_lt, zF1, zF2, zF3, zF4, zF5, zF6, zF7, zF8, zU_lt, zG1, zG2, zG3, zG4, zG5, zG6, zU1, zU2, zU3, zU4, zN_0, zN_le0, zI_lt0, zI_0le, zI_pred, zI_pred', zI_predS, zI_predT, zJ_le, zJ_lt, zJ_leL, zJ_leR, y_cl0, y_0cl, y_cle, y_lec, y_ceq, n_lt, n_le, n_nlt, n_nle,  x_noNumber, a3, a4, a5, a8, nk, nm, hfk, e9, cn']
        · rw [l_X12_middleOf_4]
          simp (disch := first | assumption | omega) only [y_i_wi, y_l_wi, y_d_wi, y_r_wi, y_k_wi, y_n_wi, y_x_wi, y_w_wi, y_s_wi, y_i_wl, y_l_wl, y_d_wl, y_r_wl, y_k_wl, y_n_wl, y_x_wl, y_w_wl, y_s_wl, y_i_wd, y_l_wd, y_d_wd, y_r_wd, y_k_wd, y_n_wd, y_x_wd, y_w_wd, y_s_wd, y_i_wr, y_l_wr, y_d_wr, y_r_wr, y_k_wr, y_n_wr, y_x_wr, y_w_wr, y_s_wr, y_i_new, y_l_new, y_d_new, y_r_new, y_k_new, y_n_new, y_x_new, y_w_new, y_s_new, y_i_ci, y_l_ci, y_d_ci, y_r_ci, y_k_ci, y_n_ci, y_x_ci, y_w_ci, y_s_ci, y_i_cl, y_l_cl, y_d_cl, y_r_cl, y_k_cl, y_n_cl, y_x_cl, y_w_cl, y_s_cl, y_i_qi, y_l_qi, y_d_qi, y_r_qi, y_k_qi, y_n_qi, y_x_qi, y_w_qi, y_s_qi, y_i_ql, y_l_ql, y_d_ql, y_r_ql, y_k_ql, y_n_ql, y_x_ql, y_w_ql, y_s_ql, y_i_qd, y_l_qd, y_d_qd, y_r_qd, y_k_qd, y_n_qd, y_x_qd, y_w_qd, y_s_qd, ↓reduceIte, ↓y_tb, ↓y_tv, ↓y_tr, ↓y_tn, ↓y_ck, ↓y_ib, ↓y_nz2, ↓y_nzl2, ↓y_len2, ↓y_nn2, ↓y_nf2, ↓y_l2d2, y_gb, y_gn, y_gi, y_gv, y_gv', y_grN, y_grS, y_glN, y_glS, Nat.reduceAdd, Nat.reduceMul, Nat.reduceSub, Nat.reduceDiv, Nat.reduceMod, Nat.reduceLT, Nat.reduceLeDiff, y_rb0, y_rb1, y_b0, y_b0', y_10, zL_eq, zL_cl, Nat.add_sub_cancel, implies_true, Int32.reduceLT, Int32.reduceLE, if_true, if_false, true_and, and_true, false_and, and_false, true_or, or_true, false_or, or_false, not_true_eq_false, not_false_eq_true, ne_eq, and_self, or_self, reduceCtorEq, Nat.add_left_cancel_iff, Nat.left_eq_add, Nat.add_eq_left, Nat.reduceEqDiff, zI_of, zI_cl, zI_add, zI_mul, zI_lt, zI_le, zI_eq, zI_mulL, zI_mulR, zI_addL, zI_addR, zI_subR, zI_sub, zI_divR, zI_ltR, zI_ltL, zI_leR, zI_leL, zI_eqR, zI_eqL, zI_neN, zI_neN', zI_ltN, zI_leN, zN_lt, zF1, zF2, zF3, zF4, zF5, zF6, zF7, zF8, zU_lt, zG1, zG2, zG3, zG4, zG5, zG6, zU1, zU2, zU3, zU4, zN_0, zN_le0, zI_lt0, zI_0le, zI_pred, zI_pred', zI_predS, zI_predT, zJ_le, zJ_lt, zJ_leL, zJ_leR, y_cl0, y_0cl, y_cle, y_lec, y_ceq, n_lt, n_le, n_nlt, n_nle,  km_48 hm, rm_48_5 hm, km_50 hm, nm_50 hm, e1, nk, rm_48_6 hm, km_51 hm, nm_51 hm, hfk', rr, fs]
end FlowK
