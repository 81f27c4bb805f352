/-! run: the order of the gates -/
section Order
variable {B : Nat} {G : z_Gh} {S T S1 S' T' : z_St}
def upI (g : Nat → Int32) (k : Nat) (v : Int32) : Nat → Int32 := fun j => if j = k then v else g j
theorem y_wi_qi' (T : z_St) (a k : Nat) (v : Int32) (g : Nat → Int32) : z_wi (z_qi T a g) a k v = z_qi T a (upI g k v) := by
  have : z_u (z_ub T.2.2.1 a g) a k v = z_ub T.2.2.1 a (upI g k v) := by
    funext b j
    show (z_u (z_ub T.2.2.1 a g) a k v b) j = (z_ub T.2.2.1 a (upI g k v) b) j
    unfold z_ub z_u upI
    by_cases e : b = a
    · by_cases e2 : j = k
      · simp only [e, e2, and_self, if_true]
      · simp only [e, e2, and_false, if_true, if_false]
    · simp only [e, false_and, if_false]
  show (_, _, z_u (z_ub T.2.2.1 a g) a k v, _) = (_, _, z_ub T.2.2.1 a (upI g k v), _)
  rw [this]; rfl
theorem y_qi_id' {T : z_St} {a : Nat} {g : Nat → Int32} (h : ∀ j, g j = z_i T a j) : z_qi T a g = T := by
  have : z_ub T.2.2.1 a g = T.2.2.1 := by
    funext b j
    show (z_ub _ a g b) j = _
    unfold z_ub
    by_cases e : b = a
    · rw [if_pos e, e]; exact h j
    · rw [if_neg e]
  show (_, _, z_ub T.2.2.1 a g, _) = T
  rw [this]
theorem fr_qi {W : Nat → Nat → Prop} (h : fr W S S1) (a : Nat) (g : Nat → Int32) (ha : ∀ k, W a k) : fr W S (z_qi S1 a g) := by
  refine ⟨h.1, fun b j hc => ?_⟩
  have e := h.2 b j hc
  have hn : ¬ b = a := fun q => by rw [q] at hc; exact hc (ha j)
  refine ⟨?_, ?_, ?_⟩
  · rw [y_i_qi, if_neg hn]; exact e.1
  · rw [y_l_qi]; exact e.2.1
  · rw [y_d_qi]; exact e.2.2
def kp (mv : Nat → Nat) (g : Nat) : Nat := 4 * mv g + g
/-- the first j gates stand in order -/
def srt (mv : Nat → Nat) (j : Nat) (o : Nat → Nat) (h : Nat → Int32) : Prop := (∀ i, i < j → o i < j ∧ h i = zI (o i)) ∧ ∀ i k, i < k → k < j → kp mv (o i) < kp mv (o k)
/-- the gate j is on its way, with a hole at p -/
def hol (mv : Nat → Nat) (j p : Nat) (o : Nat → Nat) (h : Nat → Int32) : Prop := (∀ i, i ≤ j → i ≠ p → o i < j ∧ h i = zI (o i)) ∧ (∀ i k, i < k → k ≤ j → i ≠ p → k ≠ p → kp mv (o i) < kp mv (o k)) ∧ ∀ i, p < i → i ≤ j → kp mv j < kp mv (o i)
def upN (g : Nat → Nat) (k v : Nat) : Nat → Nat := fun j => if j = k then v else g j
theorem upN_s {g : Nat → Nat} {k v : Nat} : upN g k v k = v := if_pos rfl
theorem upN_n {g : Nat → Nat} {k v j : Nat} (h : j ≠ k) : upN g k v j = g j := if_neg h
theorem upI_s {g : Nat → Int32} {k : Nat} {v : Int32} : upI g k v k = v := if_pos rfl
theorem upI_n {g : Nat → Int32} {k j : Nat} {v : Int32} (h : j ≠ k) : upI g k v j = g j := if_neg h
theorem hol_put {mv : Nat → Nat} {j p : Nat} {o : Nat → Nat} {h : Nat → Int32} (hp : p ≤ j) (H : hol mv j p o h) (hl : ∀ i, i < p → kp mv (o i) < kp mv j) : srt mv (j + 1) (upN o p j) (upI h p (zI j)) := by
  obtain ⟨h1, h2, h3⟩ := H
  refine ⟨fun i hi => ?_, fun i k hik hk => ?_⟩
  · by_cases e : i = p
    · subst e
      rw [upN_s, upI_s]
      exact ⟨by omega, rfl⟩
    · rw [upN_n e, upI_n e]
      have := h1 i (by omega) e
      exact ⟨by omega, this.2⟩
  · by_cases e : i = p
    · subst e
      rw [upN_s, upN_n (show k ≠ i by omega)]
      exact h3 k hik (by omega)
    · by_cases e2 : k = p
      · subst e2
        rw [upN_s, upN_n e]
        exact hl i hik
      · rw [upN_n e, upN_n e2]
        exact h2 i k hik (by omega) e e2
theorem hol_mv {mv : Nat → Nat} {j p : Nat} {o : Nat → Nat} {h : Nat → Int32} (hp : p + 1 ≤ j) (H : hol mv j (p + 1) o h) (hl : kp mv j < kp mv (o p)) : hol mv j p (upN o (p + 1) (o p)) (upI h (p + 1) (h p)) := by
  obtain ⟨h1, h2, h3⟩ := H
  refine ⟨fun i hi hn => ?_, fun i k hik hk hni hnk => ?_, fun i hi hj => ?_⟩
  · by_cases e : i = p + 1
    · subst e
      rw [upN_s, upI_s]
      exact h1 p (by omega) (by omega)
    · rw [upN_n e, upI_n e]
      exact h1 i hi e
  · by_cases e : i = p + 1
    · subst e
      rw [upN_s, upN_n (show k ≠ p + 1 by omega)]
      exact h2 p k (by omega) hk (by omega) (by omega)
    · by_cases e2 : k = p + 1
      · subst e2
        rw [upN_s, upN_n e]
        exact h2 i p (by omega) (by omega) e (by omega)
      · rw [upN_n e, upN_n e2]
        exact h2 i k hik hk e e2
  · by_cases e : i = p + 1
    · subst e
      rw [upN_s]; exact hl
    · rw [upN_n e]
      exact h3 i (by omega) hj
theorem l_ord9 {mv : Nat → Nat} (hb : ∀ g, g < 4 → mv g ≤ 3000) (hc : cSh B S) (e1 : ∀ g, g < 4 → z_i S (B + 21) g = zI (mv g)) {j : Nat} (hj : j < 4) (kC : Nat → Int32 → z_St → Option z_St) (p : Nat) : ∀ N o h, p ≤ j → p < N → hol mv j p o h → ∃ o' h', l_X6_orderGates_9 kC N (B + 17) (zI j) (zI p) (z_qi S (B + 22) h) = kC (B + 17) (zI (j + 1)) (z_qi S (B + 22) h') ∧ srt mv (j + 1) o' h' := by
  have ej := e1 j hj
  have b1 := hb j hj
  induction p with
  | zero =>
    intro N o h hp hN H
    obtain ⟨N, rfl⟩ : ∃ n, N = n + 1 := ⟨N - 1, by omega⟩
    refine ⟨_, _, ?_, hol_put hp H (fun i hi => by omega)⟩
    rw [← y_wi_qi', l_X6_orderGates_9]
    simp (disch := first | assumption | omega) only [y_i_wi, y_l_wi, y_d_wi, y_r_wi, y_k_wi, y_n_wi, y_x_wi, y_w_wi, y_s_wi, y_i_wl, y_l_wl, y_d_wl, y_r_wl, y_k_wl, y_n_wl, y_x_wl, y_w_wl, y_s_wl, y_i_wd, y_l_wd, y_d_wd, y_r_wd, y_k_wd, y_n_wd, y_x_wd, y_w_wd, y_s_wd, y_i_wr, y_l_wr, y_d_wr, y_r_wr, y_k_wr, y_n_wr, y_x_wr, y_w_wr, y_s_wr, y_i_new, y_l_new, y_d_new, y_r_new, y_k_new, y_n_new, y_x_new, y_w_new, y_s_new, y_i_ci, y_l_ci, y_d_ci, y_r_ci, y_k_ci, y_n_ci, y_x_ci, y_w_ci, y_s_ci, y_i_cl, y_l_cl, y_d_cl, y_r_cl, y_k_cl, y_n_cl, y_x_cl, y_w_cl, y_s_cl, y_i_qi, y_l_qi, y_d_qi, y_r_qi, y_k_qi, y_n_qi, y_x_qi, y_w_qi, y_s_qi, y_i_ql, y_l_ql, y_d_ql, y_r_ql, y_k_ql, y_n_ql, y_x_ql, y_w_ql, y_s_ql, y_i_qd, y_l_qd, y_d_qd, y_r_qd, y_k_qd, y_n_qd, y_x_qd, y_w_qd, y_s_qd, ↓reduceIte, ↓y_tb, ↓y_tv, ↓y_tr, ↓y_tn, ↓y_ck, ↓y_ib, ↓y_nz2, ↓y_nzl2, ↓y_len2, ↓y_nn2, ↓y_nf2, ↓y_l2d2, y_gb, y_gn, y_gi, y_gv, y_gv', y_grN, y_grS, y_glN, y_glS, Nat.reduceAdd, Nat.reduceMul, Nat.reduceSub, Nat.reduceDiv, Nat.reduceMod, Nat.reduceLT, Nat.reduceLeDiff, y_rb0, y_rb1, y_b0, y_b0', y_10, zL_eq, zL_cl, Nat.add_sub_cancel, implies_true, Int32.reduceLT, Int32.reduceLE, if_true, if_false, true_and, and_true, false_and, and_false, true_or, or_true, false_or, or_false, not_true_eq_false, not_false_eq_true, ne_eq, and_self, or_self, reduceCtorEq, Nat.add_left_cancel_iff, Nat.left_eq_add, Nat.add_eq_left, Nat.reduceEqDiff, zI_of, zI_cl, zI_add, zI_mul, zI_lt, zI_le, zI_eq, zI_mulL, zI_mulR, zI_addL, zI_addR, zI_subR, zI_sub, zI_divR, zI_ltR, zI_ltL, zI_leR, zI_leL, zI_eqR, zI_eqL, zI_neN, zI_neN', zI_ltN, zI_leN, zN_lt, zF1, zF2, zF3, zF4, zF5, zF6, zF7, zF8, zU_lt, zG1, zG2, zG3, zG4, zG5, zG6, zU1, zU2, zU3, zU4, zN_0, zN_le0, zI_lt0, zI_0le, zI_pred, zI_pred', zI_predS, zI_predT, zJ_le, zJ_lt, zJ_leL, zJ_leR, y_cl0, y_0cl, y_cle, y_lec, y_ceq, n_lt, n_le, n_nlt, n_nle,  kc_17 hc, rc_17_15 hc, kc_22 hc, nc_22 hc]
  | succ p ih =>
    intro N o h hp hN H
    obtain ⟨N, rfl⟩ : ∃ n, N = n + 1 := ⟨N - 1, by omega⟩
    obtain ⟨o1, o2⟩ := H.1 p (by omega) (by omega)
    have ep := e1 (o p) (by omega)
    have b2 := hb (o p) (by omega)
    have n0 : ¬ p + 1 ≤ 0 := by omega
    have ed : zI (p + 1) - 1 = zI p := zI_sub (a := p + 1) (b := 1) (by omega) (by omega)
    have em : zI (p + 1) + (-1 : Int32) = zI p := by
      have : zI (p + 1) = zI p + 1 := by rw [zI_addR]
      rw [this, Int32.add_assoc]
      exact Int32.add_zero _
    have nz : (zI (p + 1) ≤ 0) = False := eq_false fun z => by
      rw [y_le, zI_I (by omega)] at z
      have : (0 : Int32).toInt = 0 := by decide
      omega
    by_cases c : mv (o p) ≤ mv j
    · refine ⟨_, _, ?_, hol_put hp H (fun i hi => ?_)⟩
      · rw [← y_wi_qi', l_X6_orderGates_9]
        simp (disch := first | assumption | omega) only [y_i_wi, y_l_wi, y_d_wi, y_r_wi, y_k_wi, y_n_wi, y_x_wi, y_w_wi, y_s_wi, y_i_wl, y_l_wl, y_d_wl, y_r_wl, y_k_wl, y_n_wl, y_x_wl, y_w_wl, y_s_wl, y_i_wd, y_l_wd, y_d_wd, y_r_wd, y_k_wd, y_n_wd, y_x_wd, y_w_wd, y_s_wd, y_i_wr, y_l_wr, y_d_wr, y_r_wr, y_k_wr, y_n_wr, y_x_wr, y_w_wr, y_s_wr, y_i_new, y_l_new, y_d_new, y_r_new, y_k_new, y_n_new, y_x_new, y_w_new, y_s_new, y_i_ci, y_l_ci, y_d_ci, y_r_ci, y_k_ci, y_n_ci, y_x_ci, y_w_ci, y_s_ci, y_i_cl, y_l_cl, y_d_cl, y_r_cl, y_k_cl, y_n_cl, y_x_cl, y_w_cl, y_s_cl, y_i_qi, y_l_qi, y_d_qi, y_r_qi, y_k_qi, y_n_qi, y_x_qi, y_w_qi, y_s_qi, y_i_ql, y_l_ql, y_d_ql, y_r_ql, y_k_ql, y_n_ql, y_x_ql, y_w_ql, y_s_ql, y_i_qd, y_l_qd, y_d_qd, y_r_qd, y_k_qd, y_n_qd, y_x_qd, y_w_qd, y_s_qd, ↓reduceIte, ↓y_tb, ↓y_tv, ↓y_tr, ↓y_tn, ↓y_ck, ↓y_ib, ↓y_nz2, ↓y_nzl2, ↓y_len2, ↓y_nn2, ↓y_nf2, ↓y_l2d2, y_gb, y_gn, y_gi, y_gv, y_gv', y_grN, y_grS, y_glN, y_glS, Nat.reduceAdd, Nat.reduceMul, Nat.reduceSub, Nat.reduceDiv, Nat.reduceMod, Nat.reduceLT, Nat.reduceLeDiff, y_rb0, y_rb1, y_b0, y_b0', y_10, zL_eq, zL_cl, Nat.add_sub_cancel, implies_true, Int32.reduceLT, Int32.reduceLE, if_true, if_false, true_and, and_true, false_and, and_false, true_or, or_true, false_or, or_false, not_true_eq_false, not_false_eq_true, ne_eq, and_self, or_self, reduceCtorEq, Nat.add_left_cancel_iff, Nat.left_eq_add, Nat.add_eq_left, Nat.reduceEqDiff, zI_of, zI_cl, zI_add, zI_mul, zI_lt, zI_le, zI_eq, zI_mulL, zI_mulR, zI_addL, zI_addR, zI_subR, zI_sub, zI_divR, zI_ltR, zI_ltL, zI_leR, zI_leL, zI_eqR, zI_eqL, zI_neN, zI_neN', zI_ltN, zI_leN, zN_lt, zF1, zF2, zF3, zF4, zF5, zF6, zF7, zF8, zU_lt, zG1, zG2, zG3, zG4, zG5, zG6, zU1, zU2, zU3, zU4, zN_0, zN_le0, zI_lt0, zI_0le, zI_pred, zI_pred', zI_predS, zI_predT, zJ_le, zJ_lt, zJ_leL, zJ_leR, y_cl0, y_0cl, y_cle, y_lec, y_ceq, n_lt, n_le, n_nlt, n_nle,  nz, ed, kc_17 hc, rc_17_15 hc, kc_22 hc, nc_22 hc, o2, rc_17_14 hc, kc_21 hc, nc_21 hc, ep, ej, c]
      · have a1 : kp mv (o p) < kp mv j := by unfold kp; omega
        by_cases e : i = p
        · rw [e]; exact a1
        · have := H.2.1 i p (by omega) (by omega) (by omega) (by omega)
          omega
    · obtain ⟨o', h', r1, r2⟩ := ih N _ _ (by omega) (by omega) (hol_mv hp H (by unfold kp; omega))
      refine ⟨o', h', Eq.trans ?_ r1, r2⟩
      rw [← y_wi_qi', l_X6_orderGates_9]
      simp (disch := first | assumption | omega) only [y_i_wi, y_l_wi, y_d_wi, y_r_wi, y_k_wi, y_n_wi, y_x_wi, y_w_wi, y_s_wi, y_i_wl, y_l_wl, y_d_wl, y_r_wl, y_k_wl, y_n_wl, y_x_wl, y_w_wl, y_s_wl, y_i_wd, y_l_wd, y_d_wd, y_r_wd, y_k_wd, y_n_wd, y_x_wd, y_w_wd, y_s_wd, y_i_wr, y_l_wr, y_d_wr, y_r_wr, y_k_wr, y_n_wr, y_x_wr, y_w_wr, y_s_wr, y_i_new, y_l_new, y_d_new, y_r_new, y_k_new, y_n_new, y_x_new, y_w_new, y_s_new, y_i_ci, y_l_ci, y_d_ci, y_r_ci, y_k_ci, y_n_ci, y_x_ci, y_w_ci, y_s_ci, y_i_cl, y_l_cl, y_d_cl, y_r_cl, y_k_cl, y_n_cl, y_x_cl, y_w_cl, y_s_cl, y_i_qi, y_l_qi, y_d_qi, y_r_qi, y_k_qi, y_n_qi, y_x_qi, y_w_qi, y_s_qi, y_i_ql, y_l_ql, y_d_ql, y_r_ql, y_k_ql, y_n_ql, y_x_ql, y_w_ql, y_s_ql, y_i_qd, y_l_qd, y_d_qd, y_r_qd, y_k_qd, y_n_qd, y_x_qd, y_w_qd, y_s_qd, ↓reduceIte, ↓y_tb, ↓y_tv, ↓y_tr, ↓y_tn, ↓y_ck, ↓y_ib, ↓y_nz2, ↓y_nzl2, ↓y_len2, ↓y_nn2, ↓y_nf2, ↓y_l2d2, y_gb, y_gn, y_gi, y_gv, y_gv', y_grN, y_grS, y_glN, y_glS, Nat.reduceAdd, Nat.reduceMul, Nat.reduceSub, Nat.reduceDiv, Nat.reduceMod, Nat.reduceLT, Nat.reduceLeDiff, y_rb0, y_rb1, y_b0, y_b0', y_10, zL_eq, zL_cl, Nat.add_sub_cancel, implies_true, Int32.reduceLT, Int32.reduceLE, if_true, if_false, true_and, and_true, false_and, and_false, true_or, or_true, false_or, or_false, not_true_eq_false, not_false_eq_true, ne_eq, and_self, or_self, reduceCtorEq, Nat.add_left_cancel_iff, Nat.left_eq_add, Nat.add_eq_left, Nat.reduceEqDiff, zI_of, zI_cl, zI_add, zI_mul, zI_lt, zI_le, zI_eq, zI_mulL, zI_mulR, zI_addL, zI_addR, zI_subR, zI_sub, zI_divR, zI_ltR, zI_ltL, zI_leR, zI_leL, zI_eqR, zI_eqL, zI_neN, zI_neN', zI_ltN, zI_leN, zN_lt, zF1, zF2, zF3, zF4, zF5, zF6, zF7, zF8, zU_lt, zG1, zG2, zG3, zG4, zG5, zG6, zU1, zU2, zU3, zU4, zN_0, zN_le0, zI_lt0, zI_0le, zI_pred, zI_pred', zI_predS, zI_predT, zJ_le, zJ_lt, zJ_leL, zJ_leR, y_cl0, y_0cl, y_cle, y_lec, y_ceq, n_lt, n_le, n_nlt, n_nle,  nz, ed, em, kc_17 hc, rc_17_15 hc, kc_22 hc, nc_22 hc, o2, rc_17_14 hc, kc_21 hc, nc_21 hc, ep, ej, c]
theorem l_ord2 {mv : Nat → Nat} (hb : ∀ g, g < 4 → mv g ≤ 3000) (hc : cSh B S) (e1 : ∀ g, g < 4 → z_i S (B + 21) g = zI (mv g)) (d : Nat) : ∀ N j o h, 4 - j = d → j ≤ 4 → d < N → srt mv j o h → ∃ o' h', l_X6_orderGates_2 N (B + 17) (zI j) (z_qi S (B + 22) h) = some (z_qi S (B + 22) h') ∧ srt mv 4 o' h' := by
  induction d with
  | zero =>
    intro N j o h hd hj hN H
    obtain ⟨N, rfl⟩ : ∃ n, N = n + 1 := ⟨N - 1, by omega⟩
    have : j = 4 := by omega
    subst this
    refine ⟨o, h, ?_, H⟩
    rw [l_X6_orderGates_2]
    exact if_pos (by decide)
  | succ d ih =>
    intro N j o h hd hj hN H
    obtain ⟨N, rfl⟩ : ∃ n, N = n + 1 := ⟨N - 1, by omega⟩
    have nj : ¬ 4 ≤ j := by omega
    obtain ⟨o1, h1, r1, r2⟩ := l_ord9 hb hc e1 (show j < 4 by omega) (l_X6_orderGates_2 N) j z_N o h (Nat.le_refl _) (by rw [z_N_eq]; omega) ⟨fun i hi hn => H.1 i (by omega), fun i k hik hk hi hn => H.2 i k hik (by omega), fun i hi1 hi2 => by omega⟩
    obtain ⟨o', h', s1, s2⟩ := ih N (j + 1) o1 h1 (by omega) (by omega) (by omega) r2
    refine ⟨o', h', Eq.trans ?_ (r1.trans s1), s2⟩
    rw [l_X6_orderGates_2]
    simp (disch := first | assumption | omega) only [y_i_wi, y_l_wi, y_d_wi, y_r_wi, y_k_wi, y_n_wi, y_x_wi, y_w_wi, y_s_wi, y_i_wl, y_l_wl, y_d_wl, y_r_wl, y_k_wl, y_n_wl, y_x_wl, y_w_wl, y_s_wl, y_i_wd, y_l_wd, y_d_wd, y_r_wd, y_k_wd, y_n_wd, y_x_wd, y_w_wd, y_s_wd, y_i_wr, y_l_wr, y_d_wr, y_r_wr, y_k_wr, y_n_wr, y_x_wr, y_w_wr, y_s_wr, y_i_new, y_l_new, y_d_new, y_r_new, y_k_new, y_n_new, y_x_new, y_w_new, y_s_new, y_i_ci, y_l_ci, y_d_ci, y_r_ci, y_k_ci, y_n_ci, y_x_ci, y_w_ci, y_s_ci, y_i_cl, y_l_cl, y_d_cl, y_r_cl, y_k_cl, y_n_cl, y_x_cl, y_w_cl, y_s_cl, y_i_qi, y_l_qi, y_d_qi, y_r_qi, y_k_qi, y_n_qi, y_x_qi, y_w_qi, y_s_qi, y_i_ql, y_l_ql, y_d_ql, y_r_ql, y_k_ql, y_n_ql, y_x_ql, y_w_ql, y_s_ql, y_i_qd, y_l_qd, y_d_qd, y_r_qd, y_k_qd, y_n_qd, y_x_qd, y_w_qd, y_s_qd, ↓reduceIte, ↓y_tb, ↓y_tv, ↓y_tr, ↓y_tn, ↓y_ck, ↓y_ib, ↓y_nz2, ↓y_nzl2, ↓y_len2, ↓y_nn2, ↓y_nf2, ↓y_l2d2, y_gb, y_gn, y_gi, y_gv, y_gv', y_grN, y_grS, y_glN, y_glS, Nat.reduceAdd, Nat.reduceMul, Nat.reduceSub, Nat.reduceDiv, Nat.reduceMod, Nat.reduceLT, Nat.reduceLeDiff, y_rb0, y_rb1, y_b0, y_b0', y_10, zL_eq, zL_cl, Nat.add_sub_cancel, implies_true, Int32.reduceLT, Int32.reduceLE, if_true, if_false, true_and, and_true, false_and, and_false, true_or, or_true, false_or, or_false, not_true_eq_false, not_false_eq_true, ne_eq, and_self, or_self, reduceCtorEq, Nat.add_left_cancel_iff, Nat.left_eq_add, Nat.add_eq_left, Nat.reduceEqDiff, zI_of, zI_cl, zI_add, zI_mul, zI_lt, zI_le, zI_eq, zI_mulL, zI_mulR, zI_addL, zI_addR, zI_subR, zI_sub, zI_divR, zI_ltR, zI_ltL, zI_leR, zI_leL, zI_eqR, zI_eqL, zI_neN, zI_neN', zI_ltN, zI_leN, zN_lt, zF1, zF2, zF3, zF4, zF5, zF6, zF7, zF8, zU_lt, zG1, zG2, zG3, zG4, zG5, zG6, zU1, zU2, zU3, zU4, zN_0, zN_le0, zI_lt0, zI_0le, zI_pred, zI_pred', zI_predS, zI_predT, zJ_le, zJ_lt, zJ_leL, zJ_leR, y_cl0, y_0cl, y_cle, y_lec, y_ceq, n_lt, n_le, n_nlt, n_nle,  nj]
theorem x_ordC {mv : Nat → Nat} (hb : ∀ g, g < 4 → mv g ≤ 3000) (hc : cSh B S) (e1 : ∀ g, g < 4 → z_i S (B + 21) g = zI (mv g)) : ∃ o h, f_X6_orderGates (B + 17) S = some (z_qi S (B + 22) h) ∧ srt mv 4 o h := by
  obtain ⟨o, h, r1, r2⟩ := l_ord2 hb hc e1 4 z_N 0 (fun _ => 0) (z_i S (B + 22)) rfl (by omega) (by rw [z_N_eq]; omega) ⟨fun i hi => absurd hi (Nat.not_lt_zero _), fun i k _ hk => absurd hk (Nat.not_lt_zero _)⟩
  rw [y_qi_id' (fun _ => rfl)] at r1
  refine ⟨o, h, ?_, r2⟩
  rw [e_X6_orderGates]
  exact r1
/-! the model -/
theorem tb1 : ∀ M : Fin 16, ∀ g : Fin 4, decide (((zI M.1) >>> (zI g.1 &&& 31)) &&& (1 : Int32) = 0) = decide (M.1 / 2 ^ g.1 % 2 = 0) := by decide +kernel
theorem tb2 : ∀ M : Fin 16, ∀ g : Fin 4, M.1 / 2 ^ g.1 % 2 = 0 → zI M.1 ||| ((1 : Int32) <<< (zI g.1 &&& 31)) = zI (M.1 + 2 ^ g.1) ∧ M.1 + 2 ^ g.1 < 16 ∧ ∀ j : Fin 4, (M.1 + 2 ^ g.1) / 2 ^ j.1 % 2 = if j = g then 1 else M.1 / 2 ^ j.1 % 2 := by decide +kernel
def bst (mv : Nat → Nat) (M g : Nat) (v : Int32) : Prop := (v = -1 ∧ ∀ j, j < g → M / 2 ^ j % 2 ≠ 0) ∨ ∃ f, f < g ∧ v = zI f ∧ M / 2 ^ f % 2 = 0 ∧ ∀ j, j < g → M / 2 ^ j % 2 = 0 → kp mv f ≤ kp mv j
theorem l_next {mv : Nat → Nat} (hb : ∀ g, g < 4 → mv g ≤ 3000) (hm : mSh B T) (e1 : ∀ g, g < 4 → z_i T (B + 88) g = zI (mv g)) {M : Nat} (hM : M < 16) (d : Nat) : ∀ N g v, 4 - g = d → g ≤ 4 → d < N → bst mv M g v → ∃ v', l_X12_nextGate_4 N (B + 48) (zI M) v (zI g) T = some (v', T) ∧ bst mv M 4 v' := by
  induction d with
  | zero =>
    intro N g v hd hg hN H
    obtain ⟨N, rfl⟩ : ∃ n, N = n + 1 := ⟨N - 1, by omega⟩
    have : g = 4 := by omega
    subst this
    refine ⟨v, ?_, H⟩
    rw [l_X12_nextGate_4]
    exact if_pos (by decide)
  | succ d ih =>
    intro N g v hd hg hN H
    obtain ⟨N, rfl⟩ : ∃ n, N = n + 1 := ⟨N - 1, by omega⟩
    have ng : ¬ 4 ≤ g := by omega
    have eg := e1 g (by omega)
    have bg := hb g (by omega)
    have t1 : ((zI M) >>> (zI g &&& 31) &&& (1 : Int32) = 0) = (M / 2 ^ g % 2 = 0) := propext (decide_eq_decide.mp (tb1 ⟨M, hM⟩ ⟨g, by omega⟩))
    by_cases c : M / 2 ^ g % 2 = 0
    · rcases H with ⟨rfl, H⟩ | ⟨f, f1, rfl, f2, f3⟩
      · obtain ⟨v', r1, r2⟩ := ih N (g + 1) (zI g) (by omega) (by omega) (by omega) (Or.inr ⟨g, by omega, rfl, c, fun j hj hz => by
          by_cases e : j = g
          · rw [e]; exact Nat.le_refl _
          · exact absurd hz (H j (by omega))⟩)
        refine ⟨v', Eq.trans ?_ r1, r2⟩
        rw [l_X12_nextGate_4]
        simp (disch := first | assumption | omega) only [y_i_wi, y_l_wi, y_d_wi, y_r_wi, y_k_wi, y_n_wi, y_x_wi, y_w_wi, y_s_wi, y_i_wl, y_l_wl, y_d_wl, y_r_wl, y_k_wl, y_n_wl, y_x_wl, y_w_wl, y_s_wl, y_i_wd, y_l_wd, y_d_wd, y_r_wd, y_k_wd, y_n_wd, y_x_wd, y_w_wd, y_s_wd, y_i_wr, y_l_wr, y_d_wr, y_r_wr, y_k_wr, y_n_wr, y_x_wr, y_w_wr, y_s_wr, y_i_new, y_l_new, y_d_new, y_r_new, y_k_new, y_n_new, y_x_new, y_w_new, y_s_new, y_i_ci, y_l_ci, y_d_ci, y_r_ci, y_k_ci, y_n_ci, y_x_ci, y_w_ci, y_s_ci, y_i_cl, y_l_cl, y_d_cl, y_r_cl, y_k_cl, y_n_cl, y_x_cl, y_w_cl, y_s_cl, y_i_qi, y_l_qi, y_d_qi, y_r_qi, y_k_qi, y_n_qi, y_x_qi, y_w_qi, y_s_qi, y_i_ql, y_l_ql, y_d_ql, y_r_ql, y_k_ql, y_n_ql, y_x_ql, y_w_ql, y_s_ql, y_i_qd, y_l_qd, y_d_qd, y_r_qd, y_k_qd, y_n_qd, y_x_qd, y_w_qd, y_s_qd, ↓reduceIte, ↓y_tb, ↓y_tv, ↓y_tr, ↓y_tn, ↓y_ck, ↓y_ib, ↓y_nz2, ↓y_nzl2, ↓y_len2, ↓y_nn2, ↓y_nf2, ↓y_l2d2, y_gb, y_gn, y_gi, y_gv, y_gv', y_grN, y_grS, y_glN, y_glS, Nat.reduceAdd, Nat.reduceMul, Nat.reduceSub, Nat.reduceDiv, Nat.reduceMod, Nat.reduceLT, Nat.reduceLeDiff, y_rb0, y_rb1, y_b0, y_b0', y_10, zL_eq, zL_cl, Nat.add_sub_cancel, implies_true, Int32.reduceLT, Int32.reduceLE, if_true, if_false, true_and, and_true, false_and, and_false, true_or, or_true, false_or, or_false, not_true_eq_false, not_false_eq_true, ne_eq, and_self, or_self, reduceCtorEq, Nat.add_left_cancel_iff, Nat.left_eq_add, Nat.add_eq_left, Nat.reduceEqDiff, zI_of, zI_cl, zI_add, zI_mul, zI_lt, zI_le, zI_eq, zI_mulL, zI_mulR, zI_addL, zI_addR, zI_subR, zI_sub, zI_divR, zI_ltR, zI_ltL, zI_leR, zI_leL, zI_eqR, zI_eqL, zI_neN, zI_neN', zI_ltN, zI_leN, zN_lt, zF1, zF2, zF3, zF4, zF5, zF6, zF7, zF8, zU_lt, zG1, zG2, zG3, zG4, zG5, zG6, zU1, zU2, zU3, zU4, zN_0, zN_le0, zI_lt0, zI_0le, zI_pred, zI_pred', zI_predS, zI_predT, zJ_le, zJ_lt, zJ_leL, zJ_leR, y_cl0, y_0cl, y_cle, y_lec, y_ceq, n_lt, n_le, n_nlt, n_nle,  ng, t1, eq_true c]
      · have ef := e1 f (by omega)
        have bf := hb f (by omega)
        by_cases c2 : mv f ≤ mv g
        · obtain ⟨v', r1, r2⟩ := ih N (g + 1) (zI f) (by omega) (by omega) (by omega) (Or.inr ⟨f, by omega, rfl, f2, fun j hj hz => by
            by_cases e : j = g
            · rw [e]; unfold kp; omega
            · exact f3 j (by omega) hz⟩)
          refine ⟨v', Eq.trans ?_ r1, r2⟩
          rw [l_X12_nextGate_4]
          simp (disch := first | assumption | omega) only [y_i_wi, y_l_wi, y_d_wi, y_r_wi, y_k_wi, y_n_wi, y_x_wi, y_w_wi, y_s_wi, y_i_wl, y_l_wl, y_d_wl, y_r_wl, y_k_wl, y_n_wl, y_x_wl, y_w_wl, y_s_wl, y_i_wd, y_l_wd, y_d_wd, y_r_wd, y_k_wd, y_n_wd, y_x_wd, y_w_wd, y_s_wd, y_i_wr, y_l_wr, y_d_wr, y_r_wr, y_k_wr, y_n_wr, y_x_wr, y_w_wr, y_s_wr, y_i_new, y_l_new, y_d_new, y_r_new, y_k_new, y_n_new, y_x_new, y_w_new, y_s_new, y_i_ci, y_l_ci, y_d_ci, y_r_ci, y_k_ci, y_n_ci, y_x_ci, y_w_ci, y_s_ci, y_i_cl, y_l_cl, y_d_cl, y_r_cl, y_k_cl, y_n_cl, y_x_cl, y_w_cl, y_s_cl, y_i_qi, y_l_qi, y_d_qi, y_r_qi, y_k_qi, y_n_qi, y_x_qi, y_w_qi, y_s_qi, y_i_ql, y_l_ql, y_d_ql, y_r_ql, y_k_ql, y_n_ql, y_x_ql, y_w_ql, y_s_ql, y_i_qd, y_l_qd, y_d_qd, y_r_qd, y_k_qd, y_n_qd, y_x_qd, y_w_qd, y_s_qd, ↓reduceIte, ↓y_tb, ↓y_tv, ↓y_tr, ↓y_tn, ↓y_ck, ↓y_ib, ↓y_nz2, ↓y_nzl2, ↓y_len2, ↓y_nn2, ↓y_nf2, ↓y_l2d2, y_gb, y_gn, y_gi, y_gv, y_gv', y_grN, y_grS, y_glN, y_glS, Nat.reduceAdd, Nat.reduceMul, Nat.reduceSub, Nat.reduceDiv, Nat.reduceMod, Nat.reduceLT, Nat.reduceLeDiff, y_rb0, y_rb1, y_b0, y_b0', y_10, zL_eq, zL_cl, Nat.add_sub_cancel, implies_true, Int32.reduceLT, Int32.reduceLE, if_true, if_false, true_and, and_true, false_and, and_false, true_or, or_true, false_or, or_false, not_true_eq_false, not_false_eq_true, ne_eq, and_self, or_self, reduceCtorEq, Nat.add_left_cancel_iff, Nat.left_eq_add, Nat.add_eq_left, Nat.reduceEqDiff, zI_of, zI_cl, zI_add, zI_mul, zI_lt, zI_le, zI_eq, zI_mulL, zI_mulR, zI_addL, zI_addR, zI_subR, zI_sub, zI_divR, zI_ltR, zI_ltL, zI_leR, zI_leL, zI_eqR, zI_eqL, zI_neN, zI_neN', zI_ltN, zI_leN, zN_lt, zF1, zF2, zF3, zF4, zF5, zF6, zF7, zF8, zU_lt, zG1, zG2, zG3, zG4, zG5, zG6, zU1, zU2, zU3, zU4, zN_0, zN_le0, zI_lt0, zI_0le, zI_pred, zI_pred', zI_predS, zI_predT, zJ_le, zJ_lt, zJ_leL, zJ_leR, y_cl0, y_0cl, y_cle, y_lec, y_ceq, n_lt, n_le, n_nlt, n_nle,  ng, t1, eq_true c, km_48 hm, rm_48_69 hm, km_88 hm, nm_88 hm, ef, eg, c2]
        · obtain ⟨v', r1, r2⟩ := ih N (g + 1) (zI g) (by omega) (by omega) (by omega) (Or.inr ⟨g, by omega, rfl, c, fun j hj hz => by
            by_cases e : j = g
            · rw [e]; exact Nat.le_refl _
            · have := f3 j (by omega) hz
              have : kp mv g < kp mv f := by unfold kp; omega
              omega⟩)
          refine ⟨v', Eq.trans ?_ r1, r2⟩
          rw [l_X12_nextGate_4]
          simp (disch := first | assumption | omega) only [y_i_wi, y_l_wi, y_d_wi, y_r_wi, y_k_wi, y_n_wi, y_x_wi, y_w_wi, y_s_wi, y_i_wl, y_l_wl, y_d_wl, y_r_wl, y_k_wl, y_n_wl, y_x_wl, y_w_wl, y_s_wl, y_i_wd, y_l_wd, y_d_wd, y_r_wd, y_k_wd, y_n_wd, y_x_wd, y_w_wd, y_s_wd, y_i_wr, y_l_wr, y_d_wr, y_r_wr, y_k_wr, y_n_wr, y_x_wr, y_w_wr, y_s_wr, y_i_new, y_l_new, y_d_new, y_r_new, y_k_new, y_n_new, y_x_new, y_w_new, y_s_new, y_i_ci, y_l_ci, y_d_ci, y_r_ci, y_k_ci, y_n_ci, y_x_ci, y_w_ci, y_s_ci, y_i_cl, y_l_cl, y_d_cl, y_r_cl, y_k_cl, y_n_cl, y_x_cl, y_w_cl, y_s_cl, y_i_qi, y_l_qi, y_d_qi, y_r_qi, y_k_qi, y_n_qi, y_x_qi, y_w_qi, y_s_qi, y_i_ql, y_l_ql, y_d_ql, y_r_ql, y_k_ql, y_n_ql, y_x_ql, y_w_ql, y_s_ql, y_i_qd, y_l_qd, y_d_qd, y_r_qd, y_k_qd, y_n_qd, y_x_qd, y_w_qd, y_s_qd, ↓reduceIte, ↓y_tb, ↓y_tv, ↓y_tr, ↓y_tn, ↓y_ck, ↓y_ib, ↓y_nz2, ↓y_nzl2, ↓y_len2, ↓y_nn2, ↓y_nf2, ↓y_l2d2, y_gb, y_gn, y_gi, y_gv, y_gv', y_grN, y_grS, y_glN, y_glS, Nat.reduceAdd, Nat.reduceMul, Nat.reduceSub, Nat.reduceDiv, Nat.reduceMod, Nat.reduceLT, Nat.reduceLeDiff, y_rb0, y_rb1, y_b0, y_b0', y_10, zL_eq, zL_cl, Nat.add_sub_cancel, implies_true, Int32.reduceLT, Int32.reduceLE, if_true, if_false, true_and, and_true, false_and, and_false, true_or, or_true, false_or, or_false, not_true_eq_false, not_false_eq_true, ne_eq, and_self, or_self, reduceCtorEq, Nat.add_left_cancel_iff, Nat.left_eq_add, Nat.add_eq_left, Nat.reduceEqDiff, zI_of, zI_cl, zI_add, zI_mul, zI_lt, zI_le, zI_eq, zI_mulL, zI_mulR, zI_addL, zI_addR, zI_subR, zI_sub, zI_divR, zI_ltR, zI_ltL, zI_leR, zI_leL, zI_eqR, zI_eqL, zI_neN, zI_neN', zI_ltN, zI_leN, zN_lt, zF1, zF2, zF3, zF4, zF5, zF6, zF7, zF8, zU_lt, zG1, zG2, zG3, zG4, zG5, zG6, zU1, zU2, zU3, zU4, zN_0, zN_le0, zI_lt0, zI_0le, zI_pred, zI_pred', zI_predS, zI_predT, zJ_le, zJ_lt, zJ_leL, zJ_leR, y_cl0, y_0cl, y_cle, y_lec, y_ceq, n_lt, n_le, n_nlt, n_nle,  ng, t1, eq_true c, km_48 hm, rm_48_69 hm, km_88 hm, nm_88 hm, ef, eg, c2]
    · have H' : bst mv M (g + 1) v := by
        rcases H with ⟨h1, H⟩ | ⟨f, f1, h1, f2, f3⟩
        · refine Or.inl ⟨h1, fun j hj => ?_⟩
          by_cases e : j = g
          · rw [e]; exact c
          · exact H j (by omega)
        · refine Or.inr ⟨f, by omega, h1, f2, fun j hj hz => ?_⟩
          by_cases e : j = g
          · rw [e] at hz; exact absurd hz c
          · exact f3 j (by omega) hz
      obtain ⟨v', r1, r2⟩ := ih N (g + 1) v (by omega) (by omega) (by omega) H'
      refine ⟨v', Eq.trans ?_ r1, r2⟩
      rw [l_X12_nextGate_4]
      simp (disch := first | assumption | omega) only [y_i_wi, y_l_wi, y_d_wi, y_r_wi, y_k_wi, y_n_wi, y_x_wi, y_w_wi, y_s_wi, y_i_wl, y_l_wl, y_d_wl, y_r_wl, y_k_wl, y_n_wl, y_x_wl, y_w_wl, y_s_wl, y_i_wd, y_l_wd, y_d_wd, y_r_wd, y_k_wd, y_n_wd, y_x_wd, y_w_wd, y_s_wd, y_i_wr, y_l_wr, y_d_wr, y_r_wr, y_k_wr, y_n_wr, y_x_wr, y_w_wr, y_s_wr, y_i_new, y_l_new, y_d_new, y_r_new, y_k_new, y_n_new, y_x_new, y_w_new, y_s_new, y_i_ci, y_l_ci, y_d_ci, y_r_ci, y_k_ci, y_n_ci, y_x_ci, y_w_ci, y_s_ci, y_i_cl, y_l_cl, y_d_cl, y_r_cl, y_k_cl, y_n_cl, y_x_cl, y_w_cl, y_s_cl, y_i_qi, y_l_qi, y_d_qi, y_r_qi, y_k_qi, y_n_qi, y_x_qi, y_w_qi, y_s_qi, y_i_ql, y_l_ql, y_d_ql, y_r_ql, y_k_ql, y_n_ql, y_x_ql, y_w_ql, y_s_ql, y_i_qd, y_l_qd, y_d_qd, y_r_qd, y_k_qd, y_n_qd, y_x_qd, y_w_qd, y_s_qd, ↓reduceIte, ↓y_tb, ↓y_tv, ↓y_tr, ↓y_tn, ↓y_ck, ↓y_ib, ↓y_nz2, ↓y_nzl2, ↓y_len2, ↓y_nn2, ↓y_nf2, ↓y_l2d2, y_gb, y_gn, y_gi, y_gv, y_gv', y_grN, y_grS, y_glN, y_glS, Nat.reduceAdd, Nat.reduceMul, Nat.reduceSub, Nat.reduceDiv, Nat.reduceMod, Nat.reduceLT, Nat.reduceLeDiff, y_rb0, y_rb1, y_b0, y_b0', y_10, zL_eq, zL_cl, Nat.add_sub_cancel, implies_true, Int32.reduceLT, Int32.reduceLE, if_true, if_false, true_and, and_true, false_and, and_false, true_or, or_true, false_or, or_false, not_true_eq_false, not_false_eq_true, ne_eq, and_self, or_self, reduceCtorEq, Nat.add_left_cancel_iff, Nat.left_eq_add, Nat.add_eq_left, Nat.reduceEqDiff, zI_of, zI_cl, zI_add, zI_mul, zI_lt, zI_le, zI_eq, zI_mulL, zI_mulR, zI_addL, zI_addR, zI_subR, zI_sub, zI_divR, zI_ltR, zI_ltL, zI_leR, zI_leL, zI_eqR, zI_eqL, zI_neN, zI_neN', zI_ltN, zI_leN, zN_lt, zF1, zF2, zF3, zF4, zF5, zF6, zF7, zF8, zU_lt, zG1, zG2, zG3, zG4, zG5, zG6, zU1, zU2, zU3, zU4, zN_0, zN_le0, zI_lt0, zI_0le, zI_pred, zI_pred', zI_predS, zI_predT, zJ_le, zJ_lt, zJ_leL, zJ_leR, y_cl0, y_0cl, y_cle, y_lec, y_ceq, n_lt, n_le, n_nlt, n_nle,  ng, t1, c]
theorem x_nextG {mv : Nat → Nat} (hb : ∀ g, g < 4 → mv g ≤ 3000) (hm : mSh B T) (e1 : ∀ g, g < 4 → z_i T (B + 88) g = zI (mv g)) {M : Nat} (hM : M < 16) : ∃ v', f_X12_nextGate (B + 48) (zI M) T = some (v', T) ∧ bst mv M 4 v' := by
  rw [e_X12_nextGate]
  exact l_next hb hm e1 hM 4 z_N 0 (-1) rfl (by omega) (by rw [z_N_eq]; omega) (Or.inl ⟨rfl, fun j hj => absurd hj (Nat.not_lt_zero _)⟩)
end Order
