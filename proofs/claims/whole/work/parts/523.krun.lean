/-! run: the pair of calls -/
section KRun
variable {B : Nat} {G : z_Gh} {S T S1 S' T' : z_St}
def wkS (B : Nat) (a k : Nat) : Prop := (a = B + 17 ∧ k ≤ 10) ∨ a = B + 18 ∨ a = B + 21 ∨ a = B + 22 ∨ (a = B + 23 ∧ k = 1) ∨ a = B + 24 ∨ a = B + 25 ∨ a = B + 26 ∨ a = B + 27 ∨ a = B + 28
def wkT (B : Nat) (a k : Nat) : Prop := (a = B + 48 ∧ ((54 ≤ k ∧ k ≤ 64) ∨ k = 75)) ∨ a = B + 84 ∨ a = B + 88 ∨ a = B + 89 ∨ a = B + 90 ∨ a = B + 91 ∨ a = B + 92 ∨ a = B + 94 ∨ a = B + 95 ∨ a = B + 96
theorem c17 : ∀ k : Fin 11, colC 17 k.1 = 8 := by decide
theorem c48 : ∀ k : Fin 11, colM 48 (54 + k.1) = 8 := by decide
theorem fS_fr (h : fr (wkS B) S S') : fS B G (c1 8) S S' := by
  obtain ⟨⟨a1, a2, a3, a4, a5, a6⟩, a⟩ := h
  refine ⟨by rw [a4]; exact Nat.le_refl _, a6, fun x _ => ⟨by rw [a1], by rw [a2]⟩, fun x k _ hn => ?_⟩
  have hw : ¬ wkS B x k := fun z => hn (by
    unfold ok c1
    rcases z with ⟨rfl, z⟩ | rfl | rfl | rfl | ⟨rfl, rfl⟩ | rfl | rfl | rfl | rfl | rfl
    · rw [cC_fix B G 17 k (by omega)]; exact Or.inl (c17 ⟨k, by omega⟩)
    · rw [cC_fix B G 18 k (by omega)]; exact Or.inl rfl
    · rw [cC_fix B G 21 k (by omega)]; exact Or.inl rfl
    · rw [cC_fix B G 22 k (by omega)]; first | exact Or.inl rfl | exact Or.inr (Or.inr rfl)
    · rw [cC_fix B G 23 1 (by omega)]; exact Or.inl rfl
    · rw [cC_fix B G 24 k (by omega)]; exact Or.inl rfl
    · rw [cC_fix B G 25 k (by omega)]; exact Or.inl rfl
    · rw [cC_fix B G 26 k (by omega)]; exact Or.inl rfl
    · rw [cC_fix B G 27 k (by omega)]; exact Or.inl rfl
    · rw [cC_fix B G 28 k (by omega)]; first | exact Or.inl rfl | exact Or.inr (Or.inr rfl))
  obtain ⟨e1, e2, e3⟩ := a x k hw
  exact ⟨e1, e2, e3, by rw [a3]⟩
theorem fT_fr (h : fr (wkT B) T T') : fT B (c1 8) T T' := by
  refine ⟨h.1, fun x k hn => h.2 x k fun z => hn ?_⟩
  unfold ok c1
  rcases z with ⟨rfl, z | rfl⟩ | rfl | rfl | rfl | rfl | rfl | rfl | rfl | rfl | rfl
  · have := c48 ⟨k - 54, by omega⟩
    dsimp only at this
    rw [show 54 + (k - 54) = k by omega] at this
    rw [cM_fix]; exact Or.inl this
  · rw [cM_fix]; exact Or.inl rfl
  · rw [cM_fix]; exact Or.inl rfl
  · rw [cM_fix]; exact Or.inl rfl
  · rw [cM_fix]; exact Or.inl rfl
  · rw [cM_fix]; exact Or.inl rfl
  · rw [cM_fix]; exact Or.inl rfl
  · rw [cM_fix]; exact Or.inl rfl
  · rw [cM_fix]; exact Or.inl rfl
  · rw [cM_fix]; first | exact Or.inl rfl | exact Or.inr (Or.inr rfl)
  · rw [cM_fix]; first | exact Or.inl rfl | exact Or.inr (Or.inr rfl)
theorem gL_8 {x v w : Nat} : gL (c1 8) x G (z_u (z_u G 0 8 v) 0 28 w) := by
  refine ⟨fun j hj => ?_, fun j hj => ?_, fun q hq => ⟨rfl, rfl, rfl, rfl⟩, fun _ q => rfl, fun b hb => ⟨rfl, rfl⟩, fun t ht => ⟨rfl, rfl⟩, fun r hr => ⟨rfl, rfl, rfl⟩, fun c hc => ⟨rfl, rfl⟩, fun _ => rfl, fun _ => rfl, fun a ha => rfl⟩
  · unfold c1 at hj
    rw [y_un (fun z => by omega), y_un (fun z => by omega)]
  · rw [y_un (fun z => by omega), y_un (fun z => by omega)]; exact Nat.le_refl _
theorem x_fin (h : RG B G S T) {n : Nat} (hn : n < 600) (hG : G 0 8 = n) {r c sn' gr1 : UInt64} {Tf : z_St} (hfall : f_X6_fall (B + 17) r c (z_wi S (B + 17) 9 (zI (n + 1))) = some S1) (f1 : fr (fun a k => a = B + 17 ∧ (k = 1 ∨ k = 2)) (z_wi S (B + 17) 9 (zI (n + 1))) S1) (f2 : fr (fun a k => a = B + 48 ∧ (k = 55 ∨ k = 56)) T Tf) (p1 : z_d S1 (B + 17) 1 = sn') (p2 : z_d Tf (B + 48) 56 = sn') (p3 : bd (2048 * 2 ^ (n + 12)) sn') (p4 : z_d S1 (B + 17) 2 = gr1) (p5 : z_d Tf (B + 48) 55 = gr1) (p6 : bd (5376 * 2 ^ (n + 12)) gr1) : ∃ S' T' G', f_X6_takeStep (B + 17) r c (B + 29) S = some S' ∧ j_X12_run_130 (B + 48) Tf = some (zI (n + 1), T') ∧ RG B G' S' T' ∧ mE S S' ∧ mE T T' ∧ z_i T' (B + 48) 62 = zI (n + 1) ∧ z_i S' (B + 17) 9 = zI (n + 1) := by
  have hc := h.1
  have hm := h.2.1
  have h8 : R8 B G S T := h.2.2.1 8
  have h10 : R10 B G S T := h.2.2.1 10
  unfold R8 R8a R8b R8c at h8
  rw [hG] at h8
  obtain ⟨⟨d0, d1, d2, d3, d4, d5, d6, d7, ⟨d8, d9, d10⟩, ⟨d11, d12, d13⟩, d14, d15⟩, ⟨e1, e2, e3, e4, e5⟩, ⟨⟨c1', c2, c3, c4, c5, c6, c7, c8⟩, c9, c10', c11, c12, c13⟩⟩ := h8
  have f0 : fr (wkS B) S (z_wi S (B + 17) 9 (zI (n + 1))) := fr_wi fr_rf _ _ _ (Or.inl ⟨rfl, by omega⟩)
  have fS1 : fr (wkS B) S S1 := fr_tr f0 (fr_mono f1 (fun a k z => by unfold wkS; omega))
  have fTf : fr (wkT B) T Tf := fr_mono f2 (fun a k z => by unfold wkT; omega)
  have hc1 := cSh_fr hc fS1 (fun a k z => by unfold wkS; omega)
  have hm1 := mSh_fr hm fTf
  have dS : ∀ k, k ≠ 1 → k ≠ 2 → z_d S1 (B + 17) k = z_d S (B + 17) k := fun k h1 h2 => (f1.2 (B + 17) k (by omega)).2.2
  have dT : ∀ k, k ≠ 55 → k ≠ 56 → z_d Tf (B + 48) k = z_d T (B + 48) k := fun k h1 h2 => (f2.2 (B + 48) k (by omega)).2.2
  have iS10 : z_i S1 (B + 17) 10 = z_i S (B + 17) 10 := by rw [(f1.2 (B + 17) 10 (by omega)).1]; simp (disch := first | assumption | omega) only [y_i_wi, y_l_wi, y_d_wi, y_r_wi, y_k_wi, y_n_wi, y_x_wi, y_w_wi, y_s_wi, y_i_wl, y_l_wl, y_d_wl, y_r_wl, y_k_wl, y_n_wl, y_x_wl, y_w_wl, y_s_wl, y_i_wd, y_l_wd, y_d_wd, y_r_wd, y_k_wd, y_n_wd, y_x_wd, y_w_wd, y_s_wd, y_i_wr, y_l_wr, y_d_wr, y_r_wr, y_k_wr, y_n_wr, y_x_wr, y_w_wr, y_s_wr, y_i_new, y_l_new, y_d_new, y_r_new, y_k_new, y_n_new, y_x_new, y_w_new, y_s_new, y_i_ci, y_l_ci, y_d_ci, y_r_ci, y_k_ci, y_n_ci, y_x_ci, y_w_ci, y_s_ci, y_i_cl, y_l_cl, y_d_cl, y_r_cl, y_k_cl, y_n_cl, y_x_cl, y_w_cl, y_s_cl, y_i_qi, y_l_qi, y_d_qi, y_r_qi, y_k_qi, y_n_qi, y_x_qi, y_w_qi, y_s_qi, y_i_ql, y_l_ql, y_d_ql, y_r_ql, y_k_ql, y_n_ql, y_x_ql, y_w_ql, y_s_ql, y_i_qd, y_l_qd, y_d_qd, y_r_qd, y_k_qd, y_n_qd, y_x_qd, y_w_qd, y_s_qd, ↓reduceIte, ↓y_tb, ↓y_tv, ↓y_tr, ↓y_tn, ↓y_ck, ↓y_ib, ↓y_nz2, ↓y_nzl2, ↓y_len2, ↓y_nn2, ↓y_nf2, ↓y_l2d2, y_gb, y_gn, y_gi, y_gv, y_gv', y_grN, y_grS, y_glN, y_glS, Nat.reduceAdd, Nat.reduceMul, Nat.reduceSub, Nat.reduceDiv, Nat.reduceMod, Nat.reduceLT, Nat.reduceLeDiff, y_rb0, y_rb1, y_b0, y_b0', y_10, zL_eq, zL_cl, Nat.add_sub_cancel, implies_true, Int32.reduceLT, Int32.reduceLE, if_true, if_false, true_and, and_true, false_and, and_false, true_or, or_true, false_or, or_false, not_true_eq_false, not_false_eq_true, ne_eq, and_self, or_self, reduceCtorEq, Nat.add_left_cancel_iff, Nat.left_eq_add, Nat.add_eq_left, Nat.reduceEqDiff, zI_of, zI_cl, zI_add, zI_mul, zI_lt, zI_le, zI_eq, zI_mulL, zI_mulR, zI_addL, zI_addR, zI_subR, zI_sub, zI_divR, zI_ltR, zI_ltL, zI_leR, zI_leL, zI_eqR, zI_eqL, zI_neN, zI_neN', zI_ltN, zI_leN, zN_lt, zF1, zF2, zF3, zF4, zF5, zF6, zF7, zF8, zU_lt, zG1, zG2, zG3, zG4, zG5, zG6, zU1, zU2, zU3, zU4, zN_0, zN_le0, zI_lt0, zI_0le, zI_pred, zI_pred', zI_predS, zI_predT, zJ_le, zJ_lt, zJ_leL, zJ_leR, y_cl0, y_0cl, y_cle, y_lec, y_ceq, n_lt, n_le, n_nlt, n_nle,  y_u]
  have iS9 : z_i S1 (B + 17) 9 = zI (n + 1) := by rw [(f1.2 (B + 17) 9 (by omega)).1]; simp (disch := first | assumption | omega) only [y_i_wi, y_l_wi, y_d_wi, y_r_wi, y_k_wi, y_n_wi, y_x_wi, y_w_wi, y_s_wi, y_i_wl, y_l_wl, y_d_wl, y_r_wl, y_k_wl, y_n_wl, y_x_wl, y_w_wl, y_s_wl, y_i_wd, y_l_wd, y_d_wd, y_r_wd, y_k_wd, y_n_wd, y_x_wd, y_w_wd, y_s_wd, y_i_wr, y_l_wr, y_d_wr, y_r_wr, y_k_wr, y_n_wr, y_x_wr, y_w_wr, y_s_wr, y_i_new, y_l_new, y_d_new, y_r_new, y_k_new, y_n_new, y_x_new, y_w_new, y_s_new, y_i_ci, y_l_ci, y_d_ci, y_r_ci, y_k_ci, y_n_ci, y_x_ci, y_w_ci, y_s_ci, y_i_cl, y_l_cl, y_d_cl, y_r_cl, y_k_cl, y_n_cl, y_x_cl, y_w_cl, y_s_cl, y_i_qi, y_l_qi, y_d_qi, y_r_qi, y_k_qi, y_n_qi, y_x_qi, y_w_qi, y_s_qi, y_i_ql, y_l_ql, y_d_ql, y_r_ql, y_k_ql, y_n_ql, y_x_ql, y_w_ql, y_s_ql, y_i_qd, y_l_qd, y_d_qd, y_r_qd, y_k_qd, y_n_qd, y_x_qd, y_w_qd, y_s_qd, ↓reduceIte, ↓y_tb, ↓y_tv, ↓y_tr, ↓y_tn, ↓y_ck, ↓y_ib, ↓y_nz2, ↓y_nzl2, ↓y_len2, ↓y_nn2, ↓y_nf2, ↓y_l2d2, y_gb, y_gn, y_gi, y_gv, y_gv', y_grN, y_grS, y_glN, y_glS, Nat.reduceAdd, Nat.reduceMul, Nat.reduceSub, Nat.reduceDiv, Nat.reduceMod, Nat.reduceLT, Nat.reduceLeDiff, y_rb0, y_rb1, y_b0, y_b0', y_10, zL_eq, zL_cl, Nat.add_sub_cancel, implies_true, Int32.reduceLT, Int32.reduceLE, if_true, if_false, true_and, and_true, false_and, and_false, true_or, or_true, false_or, or_false, not_true_eq_false, not_false_eq_true, ne_eq, and_self, or_self, reduceCtorEq, Nat.add_left_cancel_iff, Nat.left_eq_add, Nat.add_eq_left, Nat.reduceEqDiff, zI_of, zI_cl, zI_add, zI_mul, zI_lt, zI_le, zI_eq, zI_mulL, zI_mulR, zI_addL, zI_addR, zI_subR, zI_sub, zI_divR, zI_ltR, zI_ltL, zI_leR, zI_leL, zI_eqR, zI_eqL, zI_neN, zI_neN', zI_ltN, zI_leN, zN_lt, zF1, zF2, zF3, zF4, zF5, zF6, zF7, zF8, zU_lt, zG1, zG2, zG3, zG4, zG5, zG6, zU1, zU2, zU3, zU4, zN_0, zN_le0, zI_lt0, zI_0le, zI_pred, zI_pred', zI_predS, zI_predT, zJ_le, zJ_lt, zJ_leL, zJ_leR, y_cl0, y_0cl, y_cle, y_lec, y_ceq, n_lt, n_le, n_nlt, n_nle,  y_u]
  have kT : ∀ k, k ≠ 55 → k ≠ 56 → z_i Tf (B + 48) k = z_i T (B + 48) k := fun k h1 h2 => (f2.2 (B + 48) k (by omega)).1
  have rSi : ∀ a, a ≠ B + 17 → z_i S1 a = z_i S a := fun a ha => by
    rw [fr_i f1 (fun k z => ha z.1)]
    funext j
    rw [y_i_wi, if_neg (fun z => ha z.1)]
  have rSl : ∀ a, a ≠ B + 17 → z_l S1 a = z_l S a := fun a ha => fr_l f1 (fun k z => ha z.1)
  have rSd : ∀ a, a ≠ B + 17 → z_d S1 a = z_d S a := fun a ha => fr_d f1 (fun k z => ha z.1)
  have rTi : ∀ a, a ≠ B + 48 → z_i Tf a = z_i T a := fun a ha => fr_i f2 (fun k z => ha z.1)
  have rTl : ∀ a, a ≠ B + 48 → z_l Tf a = z_l T a := fun a ha => fr_l f2 (fun k z => ha z.1)
  have rTd : ∀ a, a ≠ B + 48 → z_d Tf a = z_d T a := fun a ha => fr_d f2 (fun k z => ha z.1)
  have h10' : R10 B G S1 Tf := R10_up hc.2.2.1 (fS_fr fS1) (fT_fr fTf) (gL_rf _ _ _) (fun z => by unfold c1 at z; omega) h10
  obtain ⟨S', T', inf, gr', tl, u', x1, x2, x3, x4, ⟨v1, v2, v3, v4, v5, v6, v7, v8⟩, ⟨x6, x7, x8⟩, ⟨x9, x10, x11⟩, ⟨x12, x13, x14⟩, ⟨x15, x16, x17⟩, x18, x19, x20, ⟨y1, y2, y3, y4, y5, y6, y7⟩, x22⟩ := x_rest (B := B) (G := G) (S := S) (S1 := S1) (T := Tf) (n := n) (u := G 0 28) (vol := z_d S (B + 17) 0) (gr := gr1) (rate := z_d S (B + 17) 7) (r := r) (c := c) hn d11 hc.2.2.1 hc hc1 hm1 h10' d9 hfall iS9 (by rw [kT 62 (by omega) (by omega)]; exact d10) (dS 0 (by omega) (by omega)) (by rw [dT 54 (by omega) (by omega)]; exact d0.symm) (by rw [d0]; exact c1') p4 p5 p6 (dS 7 (by omega) (by omega)) (by rw [dT 61 (by omega) (by omega)]; exact d7.symm) (by rw [d7]; exact c8.1) (by rw [d7]; exact c8.2) (by rw [iS10]; exact d12) (by rw [kT 63 (by omega) (by omega)]; exact d13) (fun z => by
      rw [dT 64 (by omega) (by omega), dS 8 (by omega) (by omega)]
      rcases d14 with ⟨z1, _⟩ | ⟨_, z2⟩
      · exact absurd z1 z
      · exact ⟨z2, by rw [← z2]; exact c9 z⟩) (fun g hg => by
      rw [rSd (B + 18) (by omega), rTd (B + 84) (by omega), rSi (B + 21) (by omega), rTi (B + 88) (by omega)]
      exact ⟨(d15 g hg).1, (c10' g hg).1, (d15 g hg).2.2.2.2⟩) (fun g hg => by
      rw [rTi (B + 86) (by omega), rTd (B + 87) (by omega), rSl (B + 19) (by omega), rSi (B + 20) (by omega), rTi (B + 85) (by omega)]
      exact ⟨(d15 g hg).2.1, (c10' g hg).2, (d15 g hg).2.2.1, (d15 g hg).2.2.2.1⟩) (by
      unfold hrd
      rw [rTi (B + 92) (by omega), rTl (B + 93) (by omega), rSl (B + 24) (by omega), rSl (B + 23) (by omega), rTi (B + 89) (by omega), rTl (B + 90) (by omega), rSl (B + 25) (by omega), rSi (B + 26) (by omega), rTi (B + 91) (by omega), kT 75 (by omega) (by omega), dT 76 (by omega) (by omega)]
      exact ⟨e1, e2, e3, e4, c11, c12, c13⟩)
  have fS' : fr (wkS B) S S' := fr_tr fS1 (fr_mono x3 (fun a k z => by unfold rnS at z; unfold wkS; omega))
  have fT' : fr (wkT B) T T' := fr_tr fTf (fr_mono x4 (fun a k z => by unfold rnT at z; unfold wkT; omega))
  have g8 : z_u (z_u G 0 8 (n + 1)) 0 28 u' 0 8 = n + 1 := by rw [y_un (fun z => by omega)]; exact y_up
  have g28 : z_u (z_u G 0 8 (n + 1)) 0 28 u' 0 28 = u' := y_up
  have q1 : z_d S' (B + 17) 1 = sn' := (x3.2 (B + 17) 1 (by unfold rnS; omega)).2.2.trans p1
  have q56 : z_d T' (B + 48) 56 = sn' := (x4.2 (B + 48) 56 (by unfold rnT; omega)).2.2.trans p2
  have q7 : z_d S' (B + 17) 7 = z_d S (B + 17) 7 := (x3.2 (B + 17) 7 (by unfold rnS; omega)).2.2.trans (dS 7 (by omega) (by omega))
  have q61 : z_d T' (B + 48) 61 = z_d T (B + 48) 61 := (x4.2 (B + 48) 61 (by unfold rnT; omega)).2.2.trans (dT 61 (by omega) (by omega))
  have w1 : 4096 * 2 ^ (n + 1 + 12) = 8192 * 2 ^ (n + 12) := by rw [show n + 1 + 12 = n + 12 + 1 by omega, Nat.pow_succ]; omega
  have w2 : 1024 * 2 ^ (n + 1 + 12) = 2048 * 2 ^ (n + 12) := by rw [show n + 1 + 12 = n + 12 + 1 by omega, Nat.pow_succ]; omega
  have hands : ∀ g, g < 4 → flOk (z_i T' (B + 86) g) (z_d T' (B + 87) g).toInt64 (z_l S' (B + 19) g) ∧ (z_i T' (B + 86) g = 1 → bd 1 (z_d T' (B + 87) g)) ∧ z_i S' (B + 20) g = z_i T' (B + 85) g ∧ (z_i S' (B + 20) g = 0 ∨ z_i S' (B + 20) g = 1) := fun g hg => by
    rw [fr_i fT' (a := B + 86) (fun k => by unfold wkT; omega), fr_d fT' (a := B + 87) (fun k => by unfold wkT; omega), fr_l fS' (a := B + 19) (fun k => by unfold wkS; omega), fr_i fS' (a := B + 20) (fun k => by unfold wkS; omega), fr_i fT' (a := B + 85) (fun k => by unfold wkT; omega)]
    exact ⟨(d15 g hg).2.1, (c10' g hg).2, (d15 g hg).2.2.1, (d15 g hg).2.2.2.1⟩
  have R8' : R8 B (z_u (z_u G 0 8 (n + 1)) 0 28 u') S' T' := by
    unfold R8 R8a R8b R8c
    rw [g8, g28, w1, w2]
    refine ⟨⟨v1, by rw [q1, q56], by rw [x9, x10], by rw [x6, x7], v3, v5, v7, by rw [q7, q61]; exact d7, ⟨by omega, x18, x19⟩, ⟨x17, x15, x16⟩, Or.inr ⟨by omega, by rw [x12, x13]⟩, fun g hg => ?_⟩, ⟨y1, y2, y3, y4, fun g hg => Or.inr ⟨by omega, x22 g hg⟩⟩, ⟨⟨v2, by rw [x10]; exact x11, by rw [q56]; exact p3, by rw [x7]; exact x8, v4, v6, v8, by rw [q61]; exact c8⟩, fun _ => by rw [x13]; exact x14, fun g hg => ?_, y5, y6, y7⟩⟩
    · obtain ⟨a1, a2, a3⟩ := x20 g hg
      obtain ⟨b1, b2, b3, b4⟩ := hands g hg
      exact ⟨a1, b1, b3, b4, a3⟩
    · exact ⟨(x20 g hg).2.1, (hands g hg).2.1⟩
  refine ⟨S', T', z_u (z_u G 0 8 (n + 1)) 0 28 u', x1, x2, RG_up h (fS_fr fS') (fT_fr fT') gL_8 (fun z => by unfold c1 at z; omega) (fun i hi => ?_) ?_, fS'.1, fT'.1, x19, x18⟩
  · have : i = 8 := hi
    subst this
    exact R8'
  · have hr := h.2.2.2
    unfold Rr at hr ⊢
    rw [(fS'.2 B 17 (by unfold wkS; omega)).1, (fS'.2 B 18 (by unfold wkS; omega)).1, (fT'.2 (B + 48) 1 (by unfold wkT; omega)).1, (fT'.2 (B + 48) 2 (by unfold wkT; omega)).1]
    exact hr
end KRun
