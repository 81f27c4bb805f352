/-! pages: pageByte, damage, tear, twin -/
section Pages
variable {B : Nat} {G : z_Gh} {S T : z_St}
theorem bkSum_congr {f g : Nat → Nat} {n : Nat} (h : ∀ k, k < n → f k = g k) : bkSum f n = bkSum g n := by
  induction n with
  | zero => rfl
  | succ n ih =>
    have e := ih (fun k hk => h k (by omega))
    show (((bkSum f n ^^^ zI (f n)) <<< 7) ||| ((bkSum f n ^^^ zI (f n)).toUInt32 >>> 25).toInt32) * (-1028477379) = _
    rw [e, h n (by omega)]
    rfl
theorem bk_congr {f g : Nat → Nat} (h : ∀ k, k < 32 → f k = g k) : (bkWhole f ↔ bkWhole g) ∧ bkNo f = bkNo g := by
  have e1 : bkNo f = bkNo g := by unfold bkNo; rw [h 0 (by decide), h 1 (by decide)]
  have e2 : bkSum f 28 = bkSum g 28 := bkSum_congr (fun k hk => h k (by omega))
  have e3 : bkW f = bkW g := by unfold bkW; rw [h 28 (by decide), h 29 (by decide), h 30 (by decide), h 31 (by decide)]
  refine ⟨?_, e1⟩
  unfold bkWhole
  rw [e1, e2, e3, h 2 (by decide)]
/-- what is kept of a page -/
def noOk (F : Nat → Nat) (p : Nat) (v : Int32) : Prop := (bkWhole (fun k => F (32 * p + k)) ∧ v = zI (bkNo (fun k => F (32 * p + k)))) ∨ (¬ bkWhole (fun k => F (32 * p + k)) ∧ v = 0)
theorem noOk_congr {F F' : Nat → Nat} {p q : Nat} {v : Int32} (h : ∀ k, k < 32 → F' (32 * q + k) = F (32 * p + k)) (hn : noOk F p v) : noOk F' q v := by
  obtain ⟨h1, h2⟩ := bk_congr (f := fun k => F' (32 * q + k)) (g := fun k => F (32 * p + k)) h
  unfold noOk
  rw [h1, h2]; exact hn
theorem x_look {F : Nat → Nat} (hc : cSh B S) (hb : cB B F S) {p : Nat} (hp : p < 32) : ∃ v : Int32, f_X2_look (B + 45) (zI p) S = some (z_wi S (B + 47) p v) ∧ noOk F p v := by
  have x0 := x_byteAt hc hb hp (show 0 < 32 by omega)
  have x1 := x_byteAt hc hb hp (show 1 < 32 by omega)
  have x2 := x_byteAt hc hb hp (show 2 < 32 by omega)
  have z0 : (0 : Int32) = zI 0 := rfl
  have z1 : (1 : Int32) = zI 1 := rfl
  have z2 : (2 : Int32) = zI 2 := rfl
  rw [← z0] at x0
  rw [← z1] at x1
  rw [← z2] at x2
  have b0 := (hb (32 * p + 0) (by omega)).1
  have b1 := (hb (32 * p + 1) (by omega)).1
  have b2 := (hb (32 * p + 2) (by omega)).1
  have xs := x_sumC hc hb hp 28 z_N 0 (by omega) (by omega) (by rw [z_N_eq]; omega)
  rw [← z0, show bkSum (fun k => F (32 * p + k)) 0 = 0 from rfl] at xs
  have xs' : f_X2_sumOf (B + 45) (zI p) S = some (bkSum (fun k => F (32 * p + k)) 28, S) := by rw [e_X2_sumOf]; exact xs
  have xw := x_ws hc hb hp
  have x8 := sh8 b0 b1
  obtain ⟨s, hs⟩ : ∃ s, bkSum (fun k => F (32 * p + k)) 28 = s := ⟨_, rfl⟩
  obtain ⟨w, hw⟩ : ∃ w, bkW (fun k => F (32 * p + k)) = w := ⟨_, rfl⟩
  obtain ⟨m, hm⟩ : ∃ m, 256 * F (32 * p + 0) + F (32 * p + 1) = m := ⟨_, rfl⟩
  rw [hs] at xs'
  rw [hw] at xw
  rw [hm] at x8
  clear xs
  have hno : bkNo (fun k => F (32 * p + k)) = m := hm
  rw [e_X2_look]; unfold b_X2_look j_X2_look_29
  by_cases e2 : F (32 * p + 2) ≤ 24
  · have e2' : ¬ 24 < F (32 * p + 2) := by omega
    by_cases e3 : s = w
    · refine ⟨zI m, ?_, ?_⟩
      · simp (disch := first | assumption | omega) only [y_i_wi, y_l_wi, y_d_wi, y_r_wi, y_k_wi, y_n_wi, y_x_wi, y_w_wi, y_s_wi, y_i_wl, y_l_wl, y_d_wl, y_r_wl, y_k_wl, y_n_wl, y_x_wl, y_w_wl, y_s_wl, y_i_wd, y_l_wd, y_d_wd, y_r_wd, y_k_wd, y_n_wd, y_x_wd, y_w_wd, y_s_wd, y_i_wr, y_l_wr, y_d_wr, y_r_wr, y_k_wr, y_n_wr, y_x_wr, y_w_wr, y_s_wr, y_i_new, y_l_new, y_d_new, y_r_new, y_k_new, y_n_new, y_x_new, y_w_new, y_s_new, y_i_ci, y_l_ci, y_d_ci, y_r_ci, y_k_ci, y_n_ci, y_x_ci, y_w_ci, y_s_ci, y_i_cl, y_l_cl, y_d_cl, y_r_cl, y_k_cl, y_n_cl, y_x_cl, y_w_cl, y_s_cl, y_i_qi, y_l_qi, y_d_qi, y_r_qi, y_k_qi, y_n_qi, y_x_qi, y_w_qi, y_s_qi, y_i_ql, y_l_ql, y_d_ql, y_r_ql, y_k_ql, y_n_ql, y_x_ql, y_w_ql, y_s_ql, y_i_qd, y_l_qd, y_d_qd, y_r_qd, y_k_qd, y_n_qd, y_x_qd, y_w_qd, y_s_qd, ↓reduceIte, ↓y_tb, ↓y_tv, ↓y_tr, ↓y_tn, ↓y_ck, ↓y_ib, ↓y_nz2, ↓y_nzl2, ↓y_len2, ↓y_nn2, ↓y_nf2, ↓y_l2d2, y_gb, y_gn, y_gi, y_gv, y_gv', y_grN, y_grS, y_glN, y_glS, Nat.reduceAdd, Nat.reduceMul, Nat.reduceSub, Nat.reduceDiv, Nat.reduceMod, Nat.reduceLT, Nat.reduceLeDiff, y_rb0, y_rb1, y_b0, y_b0', y_10, zL_eq, zL_cl, Nat.add_sub_cancel, implies_true, Int32.reduceLT, Int32.reduceLE, if_true, if_false, true_and, and_true, false_and, and_false, true_or, or_true, false_or, or_false, not_true_eq_false, not_false_eq_true, ne_eq, and_self, or_self, reduceCtorEq, Nat.add_left_cancel_iff, Nat.left_eq_add, Nat.add_eq_left, Nat.reduceEqDiff, zI_of, zI_cl, zI_add, zI_mul, zI_lt, zI_le, zI_eq, zI_mulL, zI_mulR, zI_addL, zI_addR, zI_subR, zI_sub, zI_divR, zI_ltR, zI_ltL, zI_leR, zI_leL, zI_eqR, zI_eqL, zI_neN, zI_neN', zI_ltN, zI_leN, zN_lt, zF1, zF2, zF3, zF4, zF5, zF6, zF7, zF8, zU_lt, zG1, zG2, zG3, zG4, zG5, zG6, zU1, zU2, zU3, zU4, zN_0, zN_le0, zI_lt0, zI_0le, zI_pred, zI_pred', zI_predS, zI_predT, zJ_le, zJ_lt, zJ_leL, zJ_leR, y_cl0, y_0cl, y_cle, y_lec, y_ceq, n_lt, n_le, n_nlt, n_nle,  kc_45 hc, x2, e2', xs', xw, e3, x0, x1, rc_45_1 hc, kc_47 hc, nc_47 hc, s8, x8]
      · by_cases e4 : m = 0
        · exact Or.inr ⟨fun z => z.1 (hno.trans e4), by rw [e4]; rfl⟩
        · exact Or.inl ⟨⟨fun z => e4 (hno.symm.trans z), e2, hs.trans (e3.trans hw.symm)⟩, by rw [hno]⟩
    · refine ⟨0, ?_, Or.inr ⟨fun z => e3 (hs.symm.trans (z.2.2.trans hw)), rfl⟩⟩
      simp (disch := first | assumption | omega) only [y_i_wi, y_l_wi, y_d_wi, y_r_wi, y_k_wi, y_n_wi, y_x_wi, y_w_wi, y_s_wi, y_i_wl, y_l_wl, y_d_wl, y_r_wl, y_k_wl, y_n_wl, y_x_wl, y_w_wl, y_s_wl, y_i_wd, y_l_wd, y_d_wd, y_r_wd, y_k_wd, y_n_wd, y_x_wd, y_w_wd, y_s_wd, y_i_wr, y_l_wr, y_d_wr, y_r_wr, y_k_wr, y_n_wr, y_x_wr, y_w_wr, y_s_wr, y_i_new, y_l_new, y_d_new, y_r_new, y_k_new, y_n_new, y_x_new, y_w_new, y_s_new, y_i_ci, y_l_ci, y_d_ci, y_r_ci, y_k_ci, y_n_ci, y_x_ci, y_w_ci, y_s_ci, y_i_cl, y_l_cl, y_d_cl, y_r_cl, y_k_cl, y_n_cl, y_x_cl, y_w_cl, y_s_cl, y_i_qi, y_l_qi, y_d_qi, y_r_qi, y_k_qi, y_n_qi, y_x_qi, y_w_qi, y_s_qi, y_i_ql, y_l_ql, y_d_ql, y_r_ql, y_k_ql, y_n_ql, y_x_ql, y_w_ql, y_s_ql, y_i_qd, y_l_qd, y_d_qd, y_r_qd, y_k_qd, y_n_qd, y_x_qd, y_w_qd, y_s_qd, ↓reduceIte, ↓y_tb, ↓y_tv, ↓y_tr, ↓y_tn, ↓y_ck, ↓y_ib, ↓y_nz2, ↓y_nzl2, ↓y_len2, ↓y_nn2, ↓y_nf2, ↓y_l2d2, y_gb, y_gn, y_gi, y_gv, y_gv', y_grN, y_grS, y_glN, y_glS, Nat.reduceAdd, Nat.reduceMul, Nat.reduceSub, Nat.reduceDiv, Nat.reduceMod, Nat.reduceLT, Nat.reduceLeDiff, y_rb0, y_rb1, y_b0, y_b0', y_10, zL_eq, zL_cl, Nat.add_sub_cancel, implies_true, Int32.reduceLT, Int32.reduceLE, if_true, if_false, true_and, and_true, false_and, and_false, true_or, or_true, false_or, or_false, not_true_eq_false, not_false_eq_true, ne_eq, and_self, or_self, reduceCtorEq, Nat.add_left_cancel_iff, Nat.left_eq_add, Nat.add_eq_left, Nat.reduceEqDiff, zI_of, zI_cl, zI_add, zI_mul, zI_lt, zI_le, zI_eq, zI_mulL, zI_mulR, zI_addL, zI_addR, zI_subR, zI_sub, zI_divR, zI_ltR, zI_ltL, zI_leR, zI_leL, zI_eqR, zI_eqL, zI_neN, zI_neN', zI_ltN, zI_leN, zN_lt, zF1, zF2, zF3, zF4, zF5, zF6, zF7, zF8, zU_lt, zG1, zG2, zG3, zG4, zG5, zG6, zU1, zU2, zU3, zU4, zN_0, zN_le0, zI_lt0, zI_0le, zI_pred, zI_pred', zI_predS, zI_predT, zJ_le, zJ_lt, zJ_leL, zJ_leR, y_cl0, y_0cl, y_cle, y_lec, y_ceq, n_lt, n_le, n_nlt, n_nle,  kc_45 hc, x2, e2', xs', xw, e3, rc_45_1 hc, kc_47 hc, nc_47 hc]
  · have e2' : 24 < F (32 * p + 2) := by omega
    refine ⟨0, ?_, Or.inr ⟨fun z => e2 z.2.1, rfl⟩⟩
    simp (disch := first | assumption | omega) only [y_i_wi, y_l_wi, y_d_wi, y_r_wi, y_k_wi, y_n_wi, y_x_wi, y_w_wi, y_s_wi, y_i_wl, y_l_wl, y_d_wl, y_r_wl, y_k_wl, y_n_wl, y_x_wl, y_w_wl, y_s_wl, y_i_wd, y_l_wd, y_d_wd, y_r_wd, y_k_wd, y_n_wd, y_x_wd, y_w_wd, y_s_wd, y_i_wr, y_l_wr, y_d_wr, y_r_wr, y_k_wr, y_n_wr, y_x_wr, y_w_wr, y_s_wr, y_i_new, y_l_new, y_d_new, y_r_new, y_k_new, y_n_new, y_x_new, y_w_new, y_s_new, y_i_ci, y_l_ci, y_d_ci, y_r_ci, y_k_ci, y_n_ci, y_x_ci, y_w_ci, y_s_ci, y_i_cl, y_l_cl, y_d_cl, y_r_cl, y_k_cl, y_n_cl, y_x_cl, y_w_cl, y_s_cl, y_i_qi, y_l_qi, y_d_qi, y_r_qi, y_k_qi, y_n_qi, y_x_qi, y_w_qi, y_s_qi, y_i_ql, y_l_ql, y_d_ql, y_r_ql, y_k_ql, y_n_ql, y_x_ql, y_w_ql, y_s_ql, y_i_qd, y_l_qd, y_d_qd, y_r_qd, y_k_qd, y_n_qd, y_x_qd, y_w_qd, y_s_qd, ↓reduceIte, ↓y_tb, ↓y_tv, ↓y_tr, ↓y_tn, ↓y_ck, ↓y_ib, ↓y_nz2, ↓y_nzl2, ↓y_len2, ↓y_nn2, ↓y_nf2, ↓y_l2d2, y_gb, y_gn, y_gi, y_gv, y_gv', y_grN, y_grS, y_glN, y_glS, Nat.reduceAdd, Nat.reduceMul, Nat.reduceSub, Nat.reduceDiv, Nat.reduceMod, Nat.reduceLT, Nat.reduceLeDiff, y_rb0, y_rb1, y_b0, y_b0', y_10, zL_eq, zL_cl, Nat.add_sub_cancel, implies_true, Int32.reduceLT, Int32.reduceLE, if_true, if_false, true_and, and_true, false_and, and_false, true_or, or_true, false_or, or_false, not_true_eq_false, not_false_eq_true, ne_eq, and_self, or_self, reduceCtorEq, Nat.add_left_cancel_iff, Nat.left_eq_add, Nat.add_eq_left, Nat.reduceEqDiff, zI_of, zI_cl, zI_add, zI_mul, zI_lt, zI_le, zI_eq, zI_mulL, zI_mulR, zI_addL, zI_addR, zI_subR, zI_sub, zI_divR, zI_ltR, zI_ltL, zI_leR, zI_leL, zI_eqR, zI_eqL, zI_neN, zI_neN', zI_ltN, zI_leN, zN_lt, zF1, zF2, zF3, zF4, zF5, zF6, zF7, zF8, zU_lt, zG1, zG2, zG3, zG4, zG5, zG6, zU1, zU2, zU3, zU4, zN_0, zN_le0, zI_lt0, zI_0le, zI_pred, zI_pred', zI_predS, zI_predT, zJ_le, zJ_lt, zJ_leL, zJ_leR, y_cl0, y_0cl, y_cle, y_lec, y_ceq, n_lt, n_le, n_nlt, n_nle,  kc_45 hc, x2, e2', rc_45_1 hc, kc_47 hc, nc_47 hc]
def gBook (G : z_Gh) (F : Nat → Nat) (n : Nat) : z_Gh := fun i => if i = 15 then F else z_u G 0 12 n i
theorem gBook_L (G : z_Gh) (F : Nat → Nat) (n x : Nat) : gL (c1 12) x G (gBook G F n) := by
  have ne : ∀ i, i ≠ 15 → i ≠ 0 → gBook G F n i = G i := fun i h1 h2 => by
    unfold gBook
    rw [if_neg h1]
    funext j
    exact y_un (fun z => h2 z.1)
  have n0 : ∀ j, j ≠ 12 → gBook G F n 0 j = G 0 j := fun j h => by
    unfold gBook
    rw [if_neg (by decide)]
    exact y_un (fun z => h z.2)
  refine ⟨fun i hi => n0 i (fun z => hi (by rw [z]; rfl)), fun i hi => by rw [n0 i (by omega)]; exact Nat.le_refl _, fun q hq => ?_, fun _ q => by rw [ne 1 (by decide) (by decide)], fun b hb => ?_, fun t ht => ?_, fun r hr => ?_, fun c hc => ?_, fun _ => ne 14 (by decide) (by decide), fun h => absurd rfl h, fun a ha => by rw [ne 20 (by decide) (by decide)]⟩
  · rw [ne 1 (by decide) (by decide), ne 2 (by decide) (by decide), ne 3 (by decide) (by decide), ne 4 (by decide) (by decide)]; exact ⟨rfl, rfl, rfl, rfl⟩
  · rw [ne 5 (by decide) (by decide), ne 6 (by decide) (by decide)]; exact ⟨rfl, rfl⟩
  · rw [ne 7 (by decide) (by decide), ne 8 (by decide) (by decide)]; exact ⟨rfl, rfl⟩
  · rw [ne 9 (by decide) (by decide), ne 10 (by decide) (by decide), ne 13 (by decide) (by decide)]; exact ⟨rfl, rfl, rfl⟩
  · rw [ne 11 (by decide) (by decide), ne 12 (by decide) (by decide)]; exact ⟨rfl, rfl⟩
theorem R12_page {S' T' : z_St} {F : Nat → Nat} {n p : Nat} (h : R12 B G S T) (hn : n ≤ 60000) (s1 : z_i S' (B + 45) 2 = zI n) (t1 : z_i T' (B + 48) 99 = zI n) (sF : cB B F S') (tF : mB B F T') (hF : ∀ r, r < 32 → r ≠ p → ∀ k, k < 32 → F (32 * r + k) = G 15 (32 * r + k)) (sn : ∀ r, r < 32 → r ≠ p → z_i S' (B + 47) r = z_i S (B + 47) r) (sp : p < 32 → noOk F p (z_i S' (B + 47) p)) : R12 B (gBook G F n) S' T' := by
  obtain ⟨h1, h2, h3⟩ := h
  have g0 : gBook G F n 0 12 = n := by
    unfold gBook
    rw [if_neg (by decide)]
    exact y_up
  have g15 : gBook G F n 15 = F := if_pos rfl
  unfold R12
  rw [g0, g15]
  refine ⟨⟨hn, s1, t1⟩, fun j hj => ⟨(sF j hj).1, (tF j hj).2, (sF j hj).2⟩, fun r hr => ?_⟩
  by_cases e : r = p
  · subst e; exact sp hr
  · rw [sn r hr e]
    exact noOk_congr (hF r hr e) (h3 r hr)
theorem k_pageByte (h : Rel B S T) (p i : Int32) : Pr B S T (f_X11_pageByte B p i S) (f_X12_pageByte (B + 48) p i T) := by
  obtain ⟨G, h⟩ := h
  rw [e_X11_pageByte, e_X12_pageByte]; unfold b_X11_pageByte b_X12_pageByte
  have hm0 := h.2.1
  simp only [y_ck, km_48 hm0, if_true]
  generalize hT1 : z_wi T (B + 48) 0 0 = T1
  refine Pr_T hT1 ?_
  replace h := RG_0 h; rw [hT1] at h; clear hT1 hm0
  have hc := h.1
  have hm := h.2.1
  obtain ⟨h1, h2, h3⟩ : R12 B G S T1 := h.2.2.1 12
  have cb : cB B (G 15) S := fun j hj => ⟨(h2 j hj).1, (h2 j hj).2.2⟩
  rcases ixc p (nat_lit 31) (by decide) with ⟨hk, hk1⟩ | ⟨p, hp, rfl⟩
  · simp (disch := first | assumption | omega) only [y_i_wi, y_l_wi, y_d_wi, y_r_wi, y_k_wi, y_n_wi, y_x_wi, y_w_wi, y_s_wi, y_i_wl, y_l_wl, y_d_wl, y_r_wl, y_k_wl, y_n_wl, y_x_wl, y_w_wl, y_s_wl, y_i_wd, y_l_wd, y_d_wd, y_r_wd, y_k_wd, y_n_wd, y_x_wd, y_w_wd, y_s_wd, y_i_wr, y_l_wr, y_d_wr, y_r_wr, y_k_wr, y_n_wr, y_x_wr, y_w_wr, y_s_wr, y_i_new, y_l_new, y_d_new, y_r_new, y_k_new, y_n_new, y_x_new, y_w_new, y_s_new, y_i_ci, y_l_ci, y_d_ci, y_r_ci, y_k_ci, y_n_ci, y_x_ci, y_w_ci, y_s_ci, y_i_cl, y_l_cl, y_d_cl, y_r_cl, y_k_cl, y_n_cl, y_x_cl, y_w_cl, y_s_cl, y_i_qi, y_l_qi, y_d_qi, y_r_qi, y_k_qi, y_n_qi, y_x_qi, y_w_qi, y_s_qi, y_i_ql, y_l_ql, y_d_ql, y_r_ql, y_k_ql, y_n_ql, y_x_ql, y_w_ql, y_s_ql, y_i_qd, y_l_qd, y_d_qd, y_r_qd, y_k_qd, y_n_qd, y_x_qd, y_w_qd, y_s_qd, ↓reduceIte, ↓y_tb, ↓y_tv, ↓y_tr, ↓y_tn, ↓y_ck, ↓y_ib, ↓y_nz2, ↓y_nzl2, ↓y_len2, ↓y_nn2, ↓y_nf2, ↓y_l2d2, y_gb, y_gn, y_gi, y_gv, y_gv', y_grN, y_grS, y_glN, y_glS, Nat.reduceAdd, Nat.reduceMul, Nat.reduceSub, Nat.reduceDiv, Nat.reduceMod, Nat.reduceLT, Nat.reduceLeDiff, y_rb0, y_rb1, y_b0, y_b0', y_10, zL_eq, zL_cl, Nat.add_sub_cancel, implies_true, Int32.reduceLT, Int32.reduceLE, if_true, if_false, true_and, and_true, false_and, and_false, true_or, or_true, false_or, or_false, not_true_eq_false, not_false_eq_true, ne_eq, and_self, or_self, reduceCtorEq, Nat.add_left_cancel_iff, Nat.left_eq_add, Nat.add_eq_left, Nat.reduceEqDiff, zI_of, zI_cl, zI_add, zI_mul, zI_lt, zI_le, zI_eq, zI_mulL, zI_mulR, zI_addL, zI_addR, zI_subR, zI_sub, zI_divR, zI_ltR, zI_ltL, zI_leR, zI_leL, zI_eqR, zI_eqL, zI_neN, zI_neN', zI_ltN, zI_leN, zN_lt, zF1, zF2, zF3, zF4, zF5, zF6, zF7, zF8, zU_lt, zG1, zG2, zG3, zG4, zG5, zG6, zU1, zU2, zU3, zU4, zN_0, zN_le0, zI_lt0, zI_0le, zI_pred, zI_pred', zI_predS, zI_predT, zJ_le, zJ_lt, zJ_leL, zJ_leR, y_cl0, y_0cl, y_cle, y_lec, y_ceq, n_lt, n_le, n_nlt, n_nle,  kc_0 hc, rc_0_16 hc, kc_45 hc, rc_45_0 hc, kc_46 hc, nc_46 hc, km_48 hm, rm_48_98 hm, km_111 hm, nm_111 hm, x_fails, x_outOf, x_passes, e_X2_byteAt, b_X2_byteAt, x_mfails, x_in, x_well, hk, hk1]
    exact Pr_f' h 2 0 rfl
  rcases ixc i (nat_lit 31) (by decide) with ⟨hk, hk1⟩ | ⟨i, hi, rfl⟩
  · simp (disch := first | assumption | omega) only [y_i_wi, y_l_wi, y_d_wi, y_r_wi, y_k_wi, y_n_wi, y_x_wi, y_w_wi, y_s_wi, y_i_wl, y_l_wl, y_d_wl, y_r_wl, y_k_wl, y_n_wl, y_x_wl, y_w_wl, y_s_wl, y_i_wd, y_l_wd, y_d_wd, y_r_wd, y_k_wd, y_n_wd, y_x_wd, y_w_wd, y_s_wd, y_i_wr, y_l_wr, y_d_wr, y_r_wr, y_k_wr, y_n_wr, y_x_wr, y_w_wr, y_s_wr, y_i_new, y_l_new, y_d_new, y_r_new, y_k_new, y_n_new, y_x_new, y_w_new, y_s_new, y_i_ci, y_l_ci, y_d_ci, y_r_ci, y_k_ci, y_n_ci, y_x_ci, y_w_ci, y_s_ci, y_i_cl, y_l_cl, y_d_cl, y_r_cl, y_k_cl, y_n_cl, y_x_cl, y_w_cl, y_s_cl, y_i_qi, y_l_qi, y_d_qi, y_r_qi, y_k_qi, y_n_qi, y_x_qi, y_w_qi, y_s_qi, y_i_ql, y_l_ql, y_d_ql, y_r_ql, y_k_ql, y_n_ql, y_x_ql, y_w_ql, y_s_ql, y_i_qd, y_l_qd, y_d_qd, y_r_qd, y_k_qd, y_n_qd, y_x_qd, y_w_qd, y_s_qd, ↓reduceIte, ↓y_tb, ↓y_tv, ↓y_tr, ↓y_tn, ↓y_ck, ↓y_ib, ↓y_nz2, ↓y_nzl2, ↓y_len2, ↓y_nn2, ↓y_nf2, ↓y_l2d2, y_gb, y_gn, y_gi, y_gv, y_gv', y_grN, y_grS, y_glN, y_glS, Nat.reduceAdd, Nat.reduceMul, Nat.reduceSub, Nat.reduceDiv, Nat.reduceMod, Nat.reduceLT, Nat.reduceLeDiff, y_rb0, y_rb1, y_b0, y_b0', y_10, zL_eq, zL_cl, Nat.add_sub_cancel, implies_true, Int32.reduceLT, Int32.reduceLE, if_true, if_false, true_and, and_true, false_and, and_false, true_or, or_true, false_or, or_false, not_true_eq_false, not_false_eq_true, ne_eq, and_self, or_self, reduceCtorEq, Nat.add_left_cancel_iff, Nat.left_eq_add, Nat.add_eq_left, Nat.reduceEqDiff, zI_of, zI_cl, zI_add, zI_mul, zI_lt, zI_le, zI_eq, zI_mulL, zI_mulR, zI_addL, zI_addR, zI_subR, zI_sub, zI_divR, zI_ltR, zI_ltL, zI_leR, zI_leL, zI_eqR, zI_eqL, zI_neN, zI_neN', zI_ltN, zI_leN, zN_lt, zF1, zF2, zF3, zF4, zF5, zF6, zF7, zF8, zU_lt, zG1, zG2, zG3, zG4, zG5, zG6, zU1, zU2, zU3, zU4, zN_0, zN_le0, zI_lt0, zI_0le, zI_pred, zI_pred', zI_predS, zI_predT, zJ_le, zJ_lt, zJ_leL, zJ_leR, y_cl0, y_0cl, y_cle, y_lec, y_ceq, n_lt, n_le, n_nlt, n_nle,  kc_0 hc, rc_0_16 hc, kc_45 hc, rc_45_0 hc, kc_46 hc, nc_46 hc, km_48 hm, rm_48_98 hm, km_111 hm, nm_111 hm, x_fails, x_outOf, x_passes, e_X2_byteAt, b_X2_byteAt, x_mfails, x_in, x_well, hk, hk1]
    exact Pr_f' h 2 0 rfl
  have xb := x_byteAt hc cb (show p < 32 by omega) (show i < 32 by omega)
  have e := (h2 (32 * p + i) (by omega)).2.1
  simp (disch := first | assumption | omega) only [y_i_wi, y_l_wi, y_d_wi, y_r_wi, y_k_wi, y_n_wi, y_x_wi, y_w_wi, y_s_wi, y_i_wl, y_l_wl, y_d_wl, y_r_wl, y_k_wl, y_n_wl, y_x_wl, y_w_wl, y_s_wl, y_i_wd, y_l_wd, y_d_wd, y_r_wd, y_k_wd, y_n_wd, y_x_wd, y_w_wd, y_s_wd, y_i_wr, y_l_wr, y_d_wr, y_r_wr, y_k_wr, y_n_wr, y_x_wr, y_w_wr, y_s_wr, y_i_new, y_l_new, y_d_new, y_r_new, y_k_new, y_n_new, y_x_new, y_w_new, y_s_new, y_i_ci, y_l_ci, y_d_ci, y_r_ci, y_k_ci, y_n_ci, y_x_ci, y_w_ci, y_s_ci, y_i_cl, y_l_cl, y_d_cl, y_r_cl, y_k_cl, y_n_cl, y_x_cl, y_w_cl, y_s_cl, y_i_qi, y_l_qi, y_d_qi, y_r_qi, y_k_qi, y_n_qi, y_x_qi, y_w_qi, y_s_qi, y_i_ql, y_l_ql, y_d_ql, y_r_ql, y_k_ql, y_n_ql, y_x_ql, y_w_ql, y_s_ql, y_i_qd, y_l_qd, y_d_qd, y_r_qd, y_k_qd, y_n_qd, y_x_qd, y_w_qd, y_s_qd, ↓reduceIte, ↓y_tb, ↓y_tv, ↓y_tr, ↓y_tn, ↓y_ck, ↓y_ib, ↓y_nz2, ↓y_nzl2, ↓y_len2, ↓y_nn2, ↓y_nf2, ↓y_l2d2, y_gb, y_gn, y_gi, y_gv, y_gv', y_grN, y_grS, y_glN, y_glS, Nat.reduceAdd, Nat.reduceMul, Nat.reduceSub, Nat.reduceDiv, Nat.reduceMod, Nat.reduceLT, Nat.reduceLeDiff, y_rb0, y_rb1, y_b0, y_b0', y_10, zL_eq, zL_cl, Nat.add_sub_cancel, implies_true, Int32.reduceLT, Int32.reduceLE, if_true, if_false, true_and, and_true, false_and, and_false, true_or, or_true, false_or, or_false, not_true_eq_false, not_false_eq_true, ne_eq, and_self, or_self, reduceCtorEq, Nat.add_left_cancel_iff, Nat.left_eq_add, Nat.add_eq_left, Nat.reduceEqDiff, zI_of, zI_cl, zI_add, zI_mul, zI_lt, zI_le, zI_eq, zI_mulL, zI_mulR, zI_addL, zI_addR, zI_subR, zI_sub, zI_divR, zI_ltR, zI_ltL, zI_leR, zI_leL, zI_eqR, zI_eqL, zI_neN, zI_neN', zI_ltN, zI_leN, zN_lt, zF1, zF2, zF3, zF4, zF5, zF6, zF7, zF8, zU_lt, zG1, zG2, zG3, zG4, zG5, zG6, zU1, zU2, zU3, zU4, zN_0, zN_le0, zI_lt0, zI_0le, zI_pred, zI_pred', zI_predS, zI_predT, zJ_le, zJ_lt, zJ_leL, zJ_leR, y_cl0, y_0cl, y_cle, y_lec, y_ceq, n_lt, n_le, n_nlt, n_nle,  kc_0 hc, rc_0_16 hc, kc_45 hc, km_48 hm, rm_48_98 hm, km_111 hm, nm_111 hm, x_fails, x_outOf, x_passes, x_mfails, x_in, x_well, xb, e]
  exact Pr_f' h 0 0 rfl
end Pages
