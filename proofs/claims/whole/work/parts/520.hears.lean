/-! run: the step's hearing, whole -/
section Hears
variable {B : Nat} {G : z_Gh} {S T S1 S' T' : z_St}
theorem t_now : ∀ n : Fin 602, (zI n.1 &&& (3 : Int32)) * 6 = zI ((n.1 % 4) * 6) := by decide +kernel
def hS (B : Nat) (a k : Nat) : Prop := (a = B + 23 ∧ k = 1) ∨ a = B + 24 ∨ a = B + 25 ∨ a = B + 26 ∨ a = B + 27 ∨ a = B + 28
def hTT (B : Nat) (a _k : Nat) : Prop := a = B + 89 ∨ a = B + 90 ∨ a = B + 91 ∨ a = B + 92 ∨ a = B + 94 ∨ a = B + 95
theorem farN_new {f fa : Nat → Int32} {g m : Nat} (h : farN f g m) (h0 : fa (4 * g) = 0 ∨ fa (4 * g) = 1) (h1 : ∀ k, k < 3 → fa (4 * g + (k + 1)) = f (4 * g + k)) : farN fa g (if fa (4 * g) = 1 then m + 1 else 0) := by
  obtain ⟨f1, f2, f3, f4⟩ := h
  have e1 := h1 0 (by omega)
  have e2 := h1 1 (by omega)
  have e3 := h1 2 (by omega)
  rw [show 4 * g + (0 + 1) = 4 * g + 1 by omega, Nat.add_zero] at e1
  rw [show 4 * g + (1 + 1) = 4 * g + 2 by omega] at e2
  rw [show 4 * g + (2 + 1) = 4 * g + 3 by omega] at e3
  have hk : ∀ k, k < 4 → fa (4 * g + k) = 0 ∨ fa (4 * g + k) = 1 := fun k hk => by
    by_cases c : k = 0
    · subst c; exact h0
    · have := h1 (k - 1) (by omega)
      rw [show 4 * g + (k - 1 + 1) = 4 * g + k by omega] at this
      rw [this]
      exact f4 (k - 1) (by omega)
  unfold farN
  rw [e1, e2]
  by_cases c : fa (4 * g) = 1
  · rw [if_pos c]
    refine ⟨⟨fun _ => c, fun _ => by omega⟩, ⟨fun z => ⟨c, f1.mp (by omega)⟩, fun z => ?_⟩, ⟨fun z => ?_, fun z => ?_⟩, hk⟩
    · have := f1.mpr z.2; omega
    · have := f2.mp (by omega)
      exact ⟨c, this.1, this.2⟩
    · have := f2.mpr ⟨z.2.1, z.2.2⟩; omega
  · rw [if_neg c]
    exact ⟨⟨fun z => by omega, fun z => absurd z c⟩, ⟨fun z => by omega, fun z => absurd z.1 c⟩, ⟨fun z => by omega, fun z => absurd z.1 c⟩, hk⟩
theorem fl01 {f : Int32} {b l : Int64} (h : flOk f b l) : f = 0 ∨ f = 1 := h.elim (fun z => Or.inl z.1) (fun z => Or.inr z.1)
theorem x_hear {n : Nat} (hn : n < 600) {toldC : UInt64} (hc : cSh B S) (hm : mSh B T) (a1 : ∀ g, g < 6 → flOk (z_i T (B + 92) g) (z_l T (B + 93) g) (z_l S (B + 24) g)) (a2 : flOk (z_i T (B + 48) 75) (z_d T (B + 48) 76).toInt64 (z_l S (B + 23) 1)) (a3 : ∀ g k, g < 6 → k < 4 → flOk (z_i T (B + 89) (4 * g + k)) (z_l T (B + 90) (4 * g + k)) (z_l S (B + 25) (((n + 4 - k) % 4) * 6 + g))) (a4 : ∀ g, g < 6 → ∃ m, m ≤ n ∧ z_i S (B + 26) g = zI m ∧ farN (z_i T (B + 91)) g m) (b1 : ∀ g, g < 6 → z_i T (B + 92) g = 1 → bd 1000 (z_l T (B + 93) g).toUInt64) (b2 : z_i T (B + 48) 75 = 1 → bd 100 (z_d T (B + 48) 76)) (b3 : ∀ g k, g < 6 → k < 4 → z_i T (B + 89) (4 * g + k) = 1 → bd 1000 (z_l T (B + 90) (4 * g + k)).toUInt64) (e1 : z_i T (B + 48) 62 = zI n) (e2 : n ≠ 0 → z_d T (B + 48) 64 = toldC ∧ bd 8388608 toldC) : ∃ x S' T1 v T', f_X10_hear (B + 23) (zI (n + 1)) toldC S = some (x, S') ∧ f_X12_hear1 (B + 48) T = some T1 ∧ f_X12_voice (B + 48) T1 = some (v, T') ∧ mSh B T1 ∧ fr (hS B) S S' ∧ fr (hTT B) T T' ∧ ((x = z_NN ∧ (if z_i T (B + 48) 75 = 0 then v else z_d T (B + 48) 76) = 9221120237041090560) ∨ (¬ isN x ∧ bd 1000 x.toUInt64 ∧ (if z_i T (B + 48) 75 = 0 then v else z_d T (B + 48) 76) = x.toUInt64)) ∧ z_l S' (B + 23) 1 = z_NN ∧ (∀ g, g < 6 → z_l S' (B + 24) g = z_NN ∧ z_i T' (B + 92) g = 0) ∧ pst (n + 1) (z_l S' (B + 25)) (z_i T' (B + 89)) (z_l T' (B + 90)) ∧ (∀ g, g < 6 → ∃ m, m ≤ n + 1 ∧ z_i S' (B + 26) g = zI m ∧ farN (z_i T' (B + 91)) g m) ∧ (∀ g, g < 6 → z_i T' (B + 94) g = z_i S' (B + 27) g) ∧ ∀ g k, g < 6 → k < 4 → z_i T' (B + 89) (4 * g + k) = 1 → bd 1000 (z_l T' (B + 90) (4 * g + k)).toUInt64 := by
  have hnow := t_now ⟨n + 1, by omega⟩
  dsimp only at hnow
  generalize hw : ((n + 1) % 4) * 6 = now at *
  have hw18 : now ≤ 18 := by omega
  -- the readings are taken in
  obtain ⟨Sa, p1, p2, p3, p4, -⟩ := l_take (B := B) hw18 6 z_N 0 S rfl (by omega) (by rw [z_N_eq]; omega) hc
  have p1' : f_X10_takeIn (B + 23) (zI now) S = some Sa := by rw [e_X10_takeIn]; exact p1
  have B89 : b01 (z_i T (B + 89)) := fun j hj => by
    have := fl01 (a3 (j / 4) (j % 4) (by omega) (by omega))
    rw [show 4 * (j / 4) + j % 4 = j by omega] at this
    exact this
  have B91 : b01 (z_i T (B + 91)) := fun j hj => by
    obtain ⟨m, -, -, -, -, -, z⟩ := a4 (j / 4) (by omega)
    have := z (j % 4) (by omega)
    rw [show 4 * (j / 4) + j % 4 = j by omega] at this
    exact this
  obtain ⟨T1, r1, r2, r3, -, -⟩ := l_hr1 (B := B) (n := n) (by omega) (told := z_d T (B + 48) 64) (fun z => by rw [(e2 z).1]; exact (e2 z).2) 6 z_N 0 T rfl (by omega) (by rw [z_N_eq]; omega) hm e1 rfl (fun j hj => ⟨fl01 (a1 j hj), fun z => ⟨(a1 j hj).elim (fun y => absurd (y.1.symm.trans z) (by decide)) (fun y => y.2.2), b1 j hj z⟩⟩) B89 B91
  have r1' : f_X12_hear1 (B + 48) T = some T1 := by rw [e_X12_hear1]; exact r1
  have hcA := cSh_fr hc p2 (fun a k h => by unfold kS; omega)
  have hm1 := mSh_fr hm r2
  have ps : pst (n + 1) (z_l Sa (B + 25)) (z_i T1 (B + 89)) (z_l T1 (B + 90)) := fun g k hg hk => by
    obtain ⟨⟨q1, q2, q3, q4⟩, q5⟩ := r3 g (Nat.zero_le _) hg
    by_cases c : k = 0
    · subst c
      rw [show (n + 1 + 4 - 0) % 4 * 6 + g = now + g by omega, show 4 * g + 0 = 4 * g from rfl, q1, q2, (p3 g (Nat.zero_le _) hg).2]
      exact a1 g hg
    · obtain ⟨w1, w2, w3⟩ := q5 (k - 1) (by omega)
      rw [show 4 * g + (k - 1 + 1) = 4 * g + k by omega] at w1 w2
      rw [w1, w2, p4 _ (by omega), show (n + 1 + 4 - k) % 4 * 6 + g = (n + 4 - (k - 1)) % 4 * 6 + g by omega]
      exact a3 g (k - 1) hg (by omega)
  have C89 : b01 (z_i T1 (B + 89)) := fun j hj => by
    have := fl01 (ps (j / 4) (j % 4) (by omega) (by omega))
    rw [show 4 * (j / 4) + j % 4 = j by omega] at this
    exact this
  have bnd : ∀ g k, g < 6 → k < 4 → z_i T1 (B + 89) (4 * g + k) = 1 → bd 1000 (z_l T1 (B + 90) (4 * g + k)).toUInt64 := fun g k hg hk h => by
    obtain ⟨⟨q1, q2, q3, q4⟩, q5⟩ := r3 g (Nat.zero_le _) hg
    by_cases c : k = 0
    · subst c
      rw [show 4 * g + 0 = 4 * g from rfl] at h ⊢
      rw [q1] at h
      rw [q2]
      exact b1 g hg h
    · obtain ⟨w1, w2, w3⟩ := q5 (k - 1) (by omega)
      rw [show 4 * g + (k - 1 + 1) = 4 * g + k by omega] at w1 w2
      rw [w1] at h
      rw [w2]
      exact b3 g (k - 1) hg (by omega) h
  have hch : ∀ g, ∃ m, g < 6 → m ≤ n ∧ z_i S (B + 26) g = zI m ∧ farN (z_i T (B + 91)) g m := fun g => by
    by_cases hg : g < 6
    · obtain ⟨m, z⟩ := a4 g hg; exact ⟨m, fun _ => z⟩
    · exact ⟨0, fun z => absurd z hg⟩
  obtain ⟨fn, hfn⟩ : ∃ fn : Nat → Nat, ∀ g, g < 6 → fn g ≤ n ∧ z_i S (B + 26) g = zI (fn g) ∧ farN (z_i T (B + 91)) g (fn g) := ⟨fun g => Classical.choose (hch g), fun g hg => Classical.choose_spec (hch g) hg⟩
  have sh91 : ∀ g, g < 6 → ∀ k, k < 3 → z_i T1 (B + 91) (4 * g + (k + 1)) = z_i T (B + 91) (4 * g + k) := fun g hg k hk => ((r3 g (Nat.zero_le _) hg).2 k hk).2.2
  have fa0 : ∀ g, g < 6 → z_i T1 (B + 91) (4 * g) = farV n (z_i T1 (B + 89) (4 * g)) (z_l T1 (B + 90) (4 * g)) toldC := fun g hg => by
    obtain ⟨⟨q1, q2, q3, q4⟩, q5⟩ := r3 g (Nat.zero_le _) hg
    rw [q3, q1, q2]
    by_cases n0 : n = 0
    · unfold farV
      rw [if_neg (fun z => z.1 n0), if_neg (fun z => z.1 n0)]
    · rw [(e2 n0).1]
  have nf : ∀ g, g < 6 → farN (z_i T1 (B + 91)) g (nfr (z_i T1 (B + 91)) fn g) := fun g hg => farN_new (hfn g hg).2.2 (by rw [fa0 g hg]; exact farV_01 _ _ _ _) (sh91 g hg)
  have C91 : b01 (z_i T1 (B + 91)) := fun j hj => by
    obtain ⟨-, -, -, z⟩ := nf (j / 4) (by omega)
    have := z (j % 4) (by omega)
    rw [show 4 * (j / 4) + j % 4 = j by omega] at this
    exact this
  obtain ⟨N1, N1', many, S2, T2, y1, y2, y3, y4, y5, y6, y7, -⟩ := l_hear (B := B) (n := n) (n1 := n + 1) (now := now) (told := toldC) (fn := fn) (by omega) rfl hw.symm (fun z => (e2 z).2) ps C89 C91 (fun g hg h => by
      have := bnd g 0 hg (by omega)
      rw [Nat.add_zero] at this
      exact this h) (fun g hg => by have := (hfn g hg).1; omega) (fun g hg => by
      obtain ⟨-, -, z, -⟩ := (hfn g hg).2.2
      have w1 := sh91 g hg 0 (by omega)
      have w2 := sh91 g hg 1 (by omega)
      have w3 := sh91 g hg 2 (by omega)
      rw [show 4 * g + (0 + 1) = 4 * g + 1 by omega, Nat.add_zero] at w1
      rw [show 4 * g + (1 + 1) = 4 * g + 2 by omega] at w2
      rw [show 4 * g + (2 + 1) = 4 * g + 3 by omega] at w3
      rw [w1, w2, w3]
      exact z) fa0 6 z_N z_N 0 0 Sa T1 rfl (by omega) (by rw [z_N_eq]; omega) (by rw [z_N_eq]; omega) (by omega) hcA hm1 rfl rfl rfl rfl (fun j _ hj => by
      rw [fr_i p2 (a := B + 26) (fun k => by unfold kS; omega)]
      exact (hfn j hj).2.1) (fun j hj => absurd hj (Nat.not_lt_zero _))
  have hc2 := cSh_fr hcA y3 (fun a k h => by unfold vS; omega)
  have hm2 := mSh_fr hm1 y4
  have y1' : l_X10_hear_20 z_N (B + 23) (zI (n + 1)) toldC (zI now) 0 0 Sa = l_X10_hear_20 (N1 + 1) (B + 23) (zI (n + 1)) toldC (zI now) (zI many) (zI 6) S2 := y1
  have y2' : f_X12_voice (B + 48) T1 = l_X12_voice_4 (N1' + 1) (B + 48) (zI many) (zI 6) T2 := by rw [e_X12_voice]; exact y2
  have frS : fr (hS B) S (z_wl S2 (B + 23) 1 z_NN) := fr_wl (fr_tr (fr_mono p2 (fun a k z => by unfold kS at z; unfold hS; omega)) (fr_mono y3 (fun a k z => by unfold vS at z; unfold hS; omega))) _ _ _ (Or.inl ⟨rfl, rfl⟩)
  have frT : fr (hTT B) T T2 := fr_tr (fr_mono r2 (fun a k z => by unfold hT at z; unfold hTT; omega)) (fr_mono y4 (fun a k z => by unfold vT at z; unfold hTT; omega))
  have wm : z_l S2 (B + 23) 1 = z_l S (B + 23) 1 := by
    rw [fr_l y3 (a := B + 23) (fun k => by unfold vS; omega), fr_l p2 (a := B + 23) (fun k => by unfold kS; omega)]
  have rest : z_l (z_wl S2 (B + 23) 1 z_NN) (B + 23) 1 = z_NN ∧ (∀ g, g < 6 → z_l (z_wl S2 (B + 23) 1 z_NN) (B + 24) g = z_NN ∧ z_i T2 (B + 92) g = 0) ∧ pst (n + 1) (z_l (z_wl S2 (B + 23) 1 z_NN) (B + 25)) (z_i T2 (B + 89)) (z_l T2 (B + 90)) ∧ (∀ g, g < 6 → ∃ m, m ≤ n + 1 ∧ z_i (z_wl S2 (B + 23) 1 z_NN) (B + 26) g = zI m ∧ farN (z_i T2 (B + 91)) g m) ∧ (∀ g, g < 6 → z_i T2 (B + 94) g = z_i (z_wl S2 (B + 23) 1 z_NN) (B + 27) g) ∧ ∀ g k, g < 6 → k < 4 → z_i T2 (B + 89) (4 * g + k) = 1 → bd 1000 (z_l T2 (B + 90) (4 * g + k)).toUInt64 := by
    have k24 : z_l (z_wl S2 (B + 23) 1 z_NN) (B + 24) = z_l Sa (B + 24) := by
      rw [← fr_l y3 (a := B + 24) (fun k => by unfold vS; omega)]
      funext j
      simp (disch := first | assumption | omega) only [y_i_wi, y_l_wi, y_d_wi, y_r_wi, y_k_wi, y_n_wi, y_x_wi, y_w_wi, y_s_wi, y_i_wl, y_l_wl, y_d_wl, y_r_wl, y_k_wl, y_n_wl, y_x_wl, y_w_wl, y_s_wl, y_i_wd, y_l_wd, y_d_wd, y_r_wd, y_k_wd, y_n_wd, y_x_wd, y_w_wd, y_s_wd, y_i_wr, y_l_wr, y_d_wr, y_r_wr, y_k_wr, y_n_wr, y_x_wr, y_w_wr, y_s_wr, y_i_new, y_l_new, y_d_new, y_r_new, y_k_new, y_n_new, y_x_new, y_w_new, y_s_new, y_i_ci, y_l_ci, y_d_ci, y_r_ci, y_k_ci, y_n_ci, y_x_ci, y_w_ci, y_s_ci, y_i_cl, y_l_cl, y_d_cl, y_r_cl, y_k_cl, y_n_cl, y_x_cl, y_w_cl, y_s_cl, y_i_qi, y_l_qi, y_d_qi, y_r_qi, y_k_qi, y_n_qi, y_x_qi, y_w_qi, y_s_qi, y_i_ql, y_l_ql, y_d_ql, y_r_ql, y_k_ql, y_n_ql, y_x_ql, y_w_ql, y_s_ql, y_i_qd, y_l_qd, y_d_qd, y_r_qd, y_k_qd, y_n_qd, y_x_qd, y_w_qd, y_s_qd, ↓reduceIte, ↓y_tb, ↓y_tv, ↓y_tr, ↓y_tn, ↓y_ck, ↓y_ib, ↓y_nz2, ↓y_nzl2, ↓y_len2, ↓y_nn2, ↓y_nf2, ↓y_l2d2, y_gb, y_gn, y_gi, y_gv, y_gv', y_grN, y_grS, y_glN, y_glS, Nat.reduceAdd, Nat.reduceMul, Nat.reduceSub, Nat.reduceDiv, Nat.reduceMod, Nat.reduceLT, Nat.reduceLeDiff, y_rb0, y_rb1, y_b0, y_b0', y_10, zL_eq, zL_cl, Nat.add_sub_cancel, implies_true, Int32.reduceLT, Int32.reduceLE, if_true, if_false, true_and, and_true, false_and, and_false, true_or, or_true, false_or, or_false, not_true_eq_false, not_false_eq_true, ne_eq, and_self, or_self, reduceCtorEq, Nat.add_left_cancel_iff, Nat.left_eq_add, Nat.add_eq_left, Nat.reduceEqDiff, zI_of, zI_cl, zI_add, zI_mul, zI_lt, zI_le, zI_eq, zI_mulL, zI_mulR, zI_addL, zI_addR, zI_subR, zI_sub, zI_divR, zI_ltR, zI_ltL, zI_leR, zI_leL, zI_eqR, zI_eqL, zI_neN, zI_neN', zI_ltN, zI_leN, zN_lt, zF1, zF2, zF3, zF4, zF5, zF6, zF7, zF8, zU_lt, zG1, zG2, zG3, zG4, zG5, zG6, zU1, zU2, zU3, zU4, zN_0, zN_le0, zI_lt0, zI_0le, zI_pred, zI_pred', zI_predS, zI_predT, zJ_le, zJ_lt, zJ_leL, zJ_leR, y_cl0, y_0cl, y_cle, y_lec, y_ceq, n_lt, n_le, n_nlt, n_nle,  y_u]
    have k25 : z_l (z_wl S2 (B + 23) 1 z_NN) (B + 25) = z_l Sa (B + 25) := by
      rw [← fr_l y3 (a := B + 25) (fun k => by unfold vS; omega)]
      funext j
      simp (disch := first | assumption | omega) only [y_i_wi, y_l_wi, y_d_wi, y_r_wi, y_k_wi, y_n_wi, y_x_wi, y_w_wi, y_s_wi, y_i_wl, y_l_wl, y_d_wl, y_r_wl, y_k_wl, y_n_wl, y_x_wl, y_w_wl, y_s_wl, y_i_wd, y_l_wd, y_d_wd, y_r_wd, y_k_wd, y_n_wd, y_x_wd, y_w_wd, y_s_wd, y_i_wr, y_l_wr, y_d_wr, y_r_wr, y_k_wr, y_n_wr, y_x_wr, y_w_wr, y_s_wr, y_i_new, y_l_new, y_d_new, y_r_new, y_k_new, y_n_new, y_x_new, y_w_new, y_s_new, y_i_ci, y_l_ci, y_d_ci, y_r_ci, y_k_ci, y_n_ci, y_x_ci, y_w_ci, y_s_ci, y_i_cl, y_l_cl, y_d_cl, y_r_cl, y_k_cl, y_n_cl, y_x_cl, y_w_cl, y_s_cl, y_i_qi, y_l_qi, y_d_qi, y_r_qi, y_k_qi, y_n_qi, y_x_qi, y_w_qi, y_s_qi, y_i_ql, y_l_ql, y_d_ql, y_r_ql, y_k_ql, y_n_ql, y_x_ql, y_w_ql, y_s_ql, y_i_qd, y_l_qd, y_d_qd, y_r_qd, y_k_qd, y_n_qd, y_x_qd, y_w_qd, y_s_qd, ↓reduceIte, ↓y_tb, ↓y_tv, ↓y_tr, ↓y_tn, ↓y_ck, ↓y_ib, ↓y_nz2, ↓y_nzl2, ↓y_len2, ↓y_nn2, ↓y_nf2, ↓y_l2d2, y_gb, y_gn, y_gi, y_gv, y_gv', y_grN, y_grS, y_glN, y_glS, Nat.reduceAdd, Nat.reduceMul, Nat.reduceSub, Nat.reduceDiv, Nat.reduceMod, Nat.reduceLT, Nat.reduceLeDiff, y_rb0, y_rb1, y_b0, y_b0', y_10, zL_eq, zL_cl, Nat.add_sub_cancel, implies_true, Int32.reduceLT, Int32.reduceLE, if_true, if_false, true_and, and_true, false_and, and_false, true_or, or_true, false_or, or_false, not_true_eq_false, not_false_eq_true, ne_eq, and_self, or_self, reduceCtorEq, Nat.add_left_cancel_iff, Nat.left_eq_add, Nat.add_eq_left, Nat.reduceEqDiff, zI_of, zI_cl, zI_add, zI_mul, zI_lt, zI_le, zI_eq, zI_mulL, zI_mulR, zI_addL, zI_addR, zI_subR, zI_sub, zI_divR, zI_ltR, zI_ltL, zI_leR, zI_leL, zI_eqR, zI_eqL, zI_neN, zI_neN', zI_ltN, zI_leN, zN_lt, zF1, zF2, zF3, zF4, zF5, zF6, zF7, zF8, zU_lt, zG1, zG2, zG3, zG4, zG5, zG6, zU1, zU2, zU3, zU4, zN_0, zN_le0, zI_lt0, zI_0le, zI_pred, zI_pred', zI_predS, zI_predT, zJ_le, zJ_lt, zJ_leL, zJ_leR, y_cl0, y_0cl, y_cle, y_lec, y_ceq, n_lt, n_le, n_nlt, n_nle,  y_u]
    rw [k24, k25, fr_i y4 (a := B + 92) (fun k => by unfold vT; omega), fr_i y4 (a := B + 89) (fun k => by unfold vT; omega), fr_l y4 (a := B + 90) (fun k => by unfold vT; omega), fr_i y4 (a := B + 91) (fun k => by unfold vT; omega)]
    refine ⟨?_, fun g hg => ⟨(p3 g (Nat.zero_le _) hg).1, (r3 g (Nat.zero_le _) hg).1.2.2.2⟩, ps, fun g hg => ⟨nfr (z_i T1 (B + 91)) fn g, ?_, (y7 g (Nat.zero_le _) hg).1, nf g hg⟩, fun g hg => (y7 g (Nat.zero_le _) hg).2, bnd⟩
    · simp (disch := first | assumption | omega) only [y_i_wi, y_l_wi, y_d_wi, y_r_wi, y_k_wi, y_n_wi, y_x_wi, y_w_wi, y_s_wi, y_i_wl, y_l_wl, y_d_wl, y_r_wl, y_k_wl, y_n_wl, y_x_wl, y_w_wl, y_s_wl, y_i_wd, y_l_wd, y_d_wd, y_r_wd, y_k_wd, y_n_wd, y_x_wd, y_w_wd, y_s_wd, y_i_wr, y_l_wr, y_d_wr, y_r_wr, y_k_wr, y_n_wr, y_x_wr, y_w_wr, y_s_wr, y_i_new, y_l_new, y_d_new, y_r_new, y_k_new, y_n_new, y_x_new, y_w_new, y_s_new, y_i_ci, y_l_ci, y_d_ci, y_r_ci, y_k_ci, y_n_ci, y_x_ci, y_w_ci, y_s_ci, y_i_cl, y_l_cl, y_d_cl, y_r_cl, y_k_cl, y_n_cl, y_x_cl, y_w_cl, y_s_cl, y_i_qi, y_l_qi, y_d_qi, y_r_qi, y_k_qi, y_n_qi, y_x_qi, y_w_qi, y_s_qi, y_i_ql, y_l_ql, y_d_ql, y_r_ql, y_k_ql, y_n_ql, y_x_ql, y_w_ql, y_s_ql, y_i_qd, y_l_qd, y_d_qd, y_r_qd, y_k_qd, y_n_qd, y_x_qd, y_w_qd, y_s_qd, ↓reduceIte, ↓y_tb, ↓y_tv, ↓y_tr, ↓y_tn, ↓y_ck, ↓y_ib, ↓y_nz2, ↓y_nzl2, ↓y_len2, ↓y_nn2, ↓y_nf2, ↓y_l2d2, y_gb, y_gn, y_gi, y_gv, y_gv', y_grN, y_grS, y_glN, y_glS, Nat.reduceAdd, Nat.reduceMul, Nat.reduceSub, Nat.reduceDiv, Nat.reduceMod, Nat.reduceLT, Nat.reduceLeDiff, y_rb0, y_rb1, y_b0, y_b0', y_10, zL_eq, zL_cl, Nat.add_sub_cancel, implies_true, Int32.reduceLT, Int32.reduceLE, if_true, if_false, true_and, and_true, false_and, and_false, true_or, or_true, false_or, or_false, not_true_eq_false, not_false_eq_true, ne_eq, and_self, or_self, reduceCtorEq, Nat.add_left_cancel_iff, Nat.left_eq_add, Nat.add_eq_left, Nat.reduceEqDiff, zI_of, zI_cl, zI_add, zI_mul, zI_lt, zI_le, zI_eq, zI_mulL, zI_mulR, zI_addL, zI_addR, zI_subR, zI_sub, zI_divR, zI_ltR, zI_ltL, zI_leR, zI_leL, zI_eqR, zI_eqL, zI_neN, zI_neN', zI_ltN, zI_leN, zN_lt, zF1, zF2, zF3, zF4, zF5, zF6, zF7, zF8, zU_lt, zG1, zG2, zG3, zG4, zG5, zG6, zU1, zU2, zU3, zU4, zN_0, zN_le0, zI_lt0, zI_0le, zI_pred, zI_pred', zI_predS, zI_predT, zJ_le, zJ_lt, zJ_leL, zJ_leR, y_cl0, y_0cl, y_cle, y_lec, y_ceq, n_lt, n_le, n_nlt, n_nle,  y_u]
    · have := (hfn g hg).1
      unfold nfr
      split <;> omega
  have zz : (9218868437227405312 : Int64) < z_NN &&& 9223372036854775807 := by decide
  have nl := NN_l
  -- what is heard
  have vfin : ∃ v, f_X12_voice (B + 48) T1 = some (v, T2) ∧ ((many = 0 ∧ v = 9221120237041090560) ∨ (many ≠ 0 ∧ pv (z_l S2 (B + 28)) (z_d T2 (B + 95)) ((many - 1) / 2) ∧ v = z_d T2 (B + 95) ((many - 1) / 2))) := by
    rw [y2', l_X12_voice_4]
    by_cases m0 : many = 0
    · refine ⟨_, ?_, Or.inl ⟨m0, rfl⟩⟩
      subst m0
      simp (disch := first | assumption | omega) only [y_i_wi, y_l_wi, y_d_wi, y_r_wi, y_k_wi, y_n_wi, y_x_wi, y_w_wi, y_s_wi, y_i_wl, y_l_wl, y_d_wl, y_r_wl, y_k_wl, y_n_wl, y_x_wl, y_w_wl, y_s_wl, y_i_wd, y_l_wd, y_d_wd, y_r_wd, y_k_wd, y_n_wd, y_x_wd, y_w_wd, y_s_wd, y_i_wr, y_l_wr, y_d_wr, y_r_wr, y_k_wr, y_n_wr, y_x_wr, y_w_wr, y_s_wr, y_i_new, y_l_new, y_d_new, y_r_new, y_k_new, y_n_new, y_x_new, y_w_new, y_s_new, y_i_ci, y_l_ci, y_d_ci, y_r_ci, y_k_ci, y_n_ci, y_x_ci, y_w_ci, y_s_ci, y_i_cl, y_l_cl, y_d_cl, y_r_cl, y_k_cl, y_n_cl, y_x_cl, y_w_cl, y_s_cl, y_i_qi, y_l_qi, y_d_qi, y_r_qi, y_k_qi, y_n_qi, y_x_qi, y_w_qi, y_s_qi, y_i_ql, y_l_ql, y_d_ql, y_r_ql, y_k_ql, y_n_ql, y_x_ql, y_w_ql, y_s_ql, y_i_qd, y_l_qd, y_d_qd, y_r_qd, y_k_qd, y_n_qd, y_x_qd, y_w_qd, y_s_qd, ↓reduceIte, ↓y_tb, ↓y_tv, ↓y_tr, ↓y_tn, ↓y_ck, ↓y_ib, ↓y_nz2, ↓y_nzl2, ↓y_len2, ↓y_nn2, ↓y_nf2, ↓y_l2d2, y_gb, y_gn, y_gi, y_gv, y_gv', y_grN, y_grS, y_glN, y_glS, Nat.reduceAdd, Nat.reduceMul, Nat.reduceSub, Nat.reduceDiv, Nat.reduceMod, Nat.reduceLT, Nat.reduceLeDiff, y_rb0, y_rb1, y_b0, y_b0', y_10, zL_eq, zL_cl, Nat.add_sub_cancel, implies_true, Int32.reduceLT, Int32.reduceLE, if_true, if_false, true_and, and_true, false_and, and_false, true_or, or_true, false_or, or_false, not_true_eq_false, not_false_eq_true, ne_eq, and_self, or_self, reduceCtorEq, Nat.add_left_cancel_iff, Nat.left_eq_add, Nat.add_eq_left, Nat.reduceEqDiff, zI_of, zI_cl, zI_add, zI_mul, zI_lt, zI_le, zI_eq, zI_mulL, zI_mulR, zI_addL, zI_addR, zI_subR, zI_sub, zI_divR, zI_ltR, zI_ltL, zI_leR, zI_leL, zI_eqR, zI_eqL, zI_neN, zI_neN', zI_ltN, zI_leN, zN_lt, zF1, zF2, zF3, zF4, zF5, zF6, zF7, zF8, zU_lt, zG1, zG2, zG3, zG4, zG5, zG6, zU1, zU2, zU3, zU4, zN_0, zN_le0, zI_lt0, zI_0le, zI_pred, zI_pred', zI_predS, zI_predT, zJ_le, zJ_lt, zJ_leL, zJ_leR, y_cl0, y_0cl, y_cle, y_lec, y_ceq, n_lt, n_le, n_nlt, n_nle,  y_u]
    · have hh := half_zI m0 (by omega)
      have hl : (many - 1) / 2 < 6 := by omega
      refine ⟨_, ?_, Or.inr ⟨m0, y6 _ (by omega), rfl⟩⟩
      simp (disch := first | assumption | omega) only [y_i_wi, y_l_wi, y_d_wi, y_r_wi, y_k_wi, y_n_wi, y_x_wi, y_w_wi, y_s_wi, y_i_wl, y_l_wl, y_d_wl, y_r_wl, y_k_wl, y_n_wl, y_x_wl, y_w_wl, y_s_wl, y_i_wd, y_l_wd, y_d_wd, y_r_wd, y_k_wd, y_n_wd, y_x_wd, y_w_wd, y_s_wd, y_i_wr, y_l_wr, y_d_wr, y_r_wr, y_k_wr, y_n_wr, y_x_wr, y_w_wr, y_s_wr, y_i_new, y_l_new, y_d_new, y_r_new, y_k_new, y_n_new, y_x_new, y_w_new, y_s_new, y_i_ci, y_l_ci, y_d_ci, y_r_ci, y_k_ci, y_n_ci, y_x_ci, y_w_ci, y_s_ci, y_i_cl, y_l_cl, y_d_cl, y_r_cl, y_k_cl, y_n_cl, y_x_cl, y_w_cl, y_s_cl, y_i_qi, y_l_qi, y_d_qi, y_r_qi, y_k_qi, y_n_qi, y_x_qi, y_w_qi, y_s_qi, y_i_ql, y_l_ql, y_d_ql, y_r_ql, y_k_ql, y_n_ql, y_x_ql, y_w_ql, y_s_ql, y_i_qd, y_l_qd, y_d_qd, y_r_qd, y_k_qd, y_n_qd, y_x_qd, y_w_qd, y_s_qd, ↓reduceIte, ↓y_tb, ↓y_tv, ↓y_tr, ↓y_tn, ↓y_ck, ↓y_ib, ↓y_nz2, ↓y_nzl2, ↓y_len2, ↓y_nn2, ↓y_nf2, ↓y_l2d2, y_gb, y_gn, y_gi, y_gv, y_gv', y_grN, y_grS, y_glN, y_glS, Nat.reduceAdd, Nat.reduceMul, Nat.reduceSub, Nat.reduceDiv, Nat.reduceMod, Nat.reduceLT, Nat.reduceLeDiff, y_rb0, y_rb1, y_b0, y_b0', y_10, zL_eq, zL_cl, Nat.add_sub_cancel, implies_true, Int32.reduceLT, Int32.reduceLE, if_true, if_false, true_and, and_true, false_and, and_false, true_or, or_true, false_or, or_false, not_true_eq_false, not_false_eq_true, ne_eq, and_self, or_self, reduceCtorEq, Nat.add_left_cancel_iff, Nat.left_eq_add, Nat.add_eq_left, Nat.reduceEqDiff, zI_of, zI_cl, zI_add, zI_mul, zI_lt, zI_le, zI_eq, zI_mulL, zI_mulR, zI_addL, zI_addR, zI_subR, zI_sub, zI_divR, zI_ltR, zI_ltL, zI_leR, zI_leL, zI_eqR, zI_eqL, zI_neN, zI_neN', zI_ltN, zI_leN, zN_lt, zF1, zF2, zF3, zF4, zF5, zF6, zF7, zF8, zU_lt, zG1, zG2, zG3, zG4, zG5, zG6, zU1, zU2, zU3, zU4, zN_0, zN_le0, zI_lt0, zI_0le, zI_pred, zI_pred', zI_predS, zI_predT, zJ_le, zJ_lt, zJ_leL, zJ_leR, y_cl0, y_0cl, y_cle, y_lec, y_ceq, n_lt, n_le, n_nlt, n_nle,  m0, km_48 hm2, rm_48_78 hm2, km_95 hm2, nm_95 hm2, hh, hl]
  obtain ⟨v, v1, v2⟩ := vfin
  have cfin : ∀ x, l_X10_hear_20 (N1 + 1) (B + 23) (zI (n + 1)) toldC (zI now) (zI many) (zI 6) S2 = some (x, z_wl S2 (B + 23) 1 z_NN) → f_X10_hear (B + 23) (zI (n + 1)) toldC S = some (x, z_wl S2 (B + 23) 1 z_NN) := fun x hx => by
    rw [e_X10_hear]; unfold b_X10_hear
    rw [hnow]
    simp (disch := first | assumption | omega) only [y_i_wi, y_l_wi, y_d_wi, y_r_wi, y_k_wi, y_n_wi, y_x_wi, y_w_wi, y_s_wi, y_i_wl, y_l_wl, y_d_wl, y_r_wl, y_k_wl, y_n_wl, y_x_wl, y_w_wl, y_s_wl, y_i_wd, y_l_wd, y_d_wd, y_r_wd, y_k_wd, y_n_wd, y_x_wd, y_w_wd, y_s_wd, y_i_wr, y_l_wr, y_d_wr, y_r_wr, y_k_wr, y_n_wr, y_x_wr, y_w_wr, y_s_wr, y_i_new, y_l_new, y_d_new, y_r_new, y_k_new, y_n_new, y_x_new, y_w_new, y_s_new, y_i_ci, y_l_ci, y_d_ci, y_r_ci, y_k_ci, y_n_ci, y_x_ci, y_w_ci, y_s_ci, y_i_cl, y_l_cl, y_d_cl, y_r_cl, y_k_cl, y_n_cl, y_x_cl, y_w_cl, y_s_cl, y_i_qi, y_l_qi, y_d_qi, y_r_qi, y_k_qi, y_n_qi, y_x_qi, y_w_qi, y_s_qi, y_i_ql, y_l_ql, y_d_ql, y_r_ql, y_k_ql, y_n_ql, y_x_ql, y_w_ql, y_s_ql, y_i_qd, y_l_qd, y_d_qd, y_r_qd, y_k_qd, y_n_qd, y_x_qd, y_w_qd, y_s_qd, ↓reduceIte, ↓y_tb, ↓y_tv, ↓y_tr, ↓y_tn, ↓y_ck, ↓y_ib, ↓y_nz2, ↓y_nzl2, ↓y_len2, ↓y_nn2, ↓y_nf2, ↓y_l2d2, y_gb, y_gn, y_gi, y_gv, y_gv', y_grN, y_grS, y_glN, y_glS, Nat.reduceAdd, Nat.reduceMul, Nat.reduceSub, Nat.reduceDiv, Nat.reduceMod, Nat.reduceLT, Nat.reduceLeDiff, y_rb0, y_rb1, y_b0, y_b0', y_10, zL_eq, zL_cl, Nat.add_sub_cancel, implies_true, Int32.reduceLT, Int32.reduceLE, if_true, if_false, true_and, and_true, false_and, and_false, true_or, or_true, false_or, or_false, not_true_eq_false, not_false_eq_true, ne_eq, and_self, or_self, reduceCtorEq, Nat.add_left_cancel_iff, Nat.left_eq_add, Nat.add_eq_left, Nat.reduceEqDiff, zI_of, zI_cl, zI_add, zI_mul, zI_lt, zI_le, zI_eq, zI_mulL, zI_mulR, zI_addL, zI_addR, zI_subR, zI_sub, zI_divR, zI_ltR, zI_ltL, zI_leR, zI_leL, zI_eqR, zI_eqL, zI_neN, zI_neN', zI_ltN, zI_leN, zN_lt, zF1, zF2, zF3, zF4, zF5, zF6, zF7, zF8, zU_lt, zG1, zG2, zG3, zG4, zG5, zG6, zU1, zU2, zU3, zU4, zN_0, zN_le0, zI_lt0, zI_0le, zI_pred, zI_pred', zI_predS, zI_predT, zJ_le, zJ_lt, zJ_leL, zJ_leR, y_cl0, y_0cl, y_cle, y_lec, y_ceq, n_lt, n_le, n_nlt, n_nle,  kc_23 hc, p1', y1', hx]
  rcases a2 with ⟨w0, w1⟩ | ⟨w0, w1, w2⟩
  · rcases v2 with ⟨m0, hv⟩ | ⟨m0, ⟨⟨g1, g2⟩, g3⟩, hv⟩
    · refine ⟨z_NN, _, T1, v, T2, cfin _ ?_, r1', v1, hm1, frS, frT, Or.inl ⟨rfl, by rw [if_pos w0]; exact hv⟩, rest⟩
      rw [l_X10_hear_20, m0]
      simp (disch := first | assumption | omega) only [y_i_wi, y_l_wi, y_d_wi, y_r_wi, y_k_wi, y_n_wi, y_x_wi, y_w_wi, y_s_wi, y_i_wl, y_l_wl, y_d_wl, y_r_wl, y_k_wl, y_n_wl, y_x_wl, y_w_wl, y_s_wl, y_i_wd, y_l_wd, y_d_wd, y_r_wd, y_k_wd, y_n_wd, y_x_wd, y_w_wd, y_s_wd, y_i_wr, y_l_wr, y_d_wr, y_r_wr, y_k_wr, y_n_wr, y_x_wr, y_w_wr, y_s_wr, y_i_new, y_l_new, y_d_new, y_r_new, y_k_new, y_n_new, y_x_new, y_w_new, y_s_new, y_i_ci, y_l_ci, y_d_ci, y_r_ci, y_k_ci, y_n_ci, y_x_ci, y_w_ci, y_s_ci, y_i_cl, y_l_cl, y_d_cl, y_r_cl, y_k_cl, y_n_cl, y_x_cl, y_w_cl, y_s_cl, y_i_qi, y_l_qi, y_d_qi, y_r_qi, y_k_qi, y_n_qi, y_x_qi, y_w_qi, y_s_qi, y_i_ql, y_l_ql, y_d_ql, y_r_ql, y_k_ql, y_n_ql, y_x_ql, y_w_ql, y_s_ql, y_i_qd, y_l_qd, y_d_qd, y_r_qd, y_k_qd, y_n_qd, y_x_qd, y_w_qd, y_s_qd, ↓reduceIte, ↓y_tb, ↓y_tv, ↓y_tr, ↓y_tn, ↓y_ck, ↓y_ib, ↓y_nz2, ↓y_nzl2, ↓y_len2, ↓y_nn2, ↓y_nf2, ↓y_l2d2, y_gb, y_gn, y_gi, y_gv, y_gv', y_grN, y_grS, y_glN, y_glS, Nat.reduceAdd, Nat.reduceMul, Nat.reduceSub, Nat.reduceDiv, Nat.reduceMod, Nat.reduceLT, Nat.reduceLeDiff, y_rb0, y_rb1, y_b0, y_b0', y_10, zL_eq, zL_cl, Nat.add_sub_cancel, implies_true, Int32.reduceLT, Int32.reduceLE, if_true, if_false, true_and, and_true, false_and, and_false, true_or, or_true, false_or, or_false, not_true_eq_false, not_false_eq_true, ne_eq, and_self, or_self, reduceCtorEq, Nat.add_left_cancel_iff, Nat.left_eq_add, Nat.add_eq_left, Nat.reduceEqDiff, zI_of, zI_cl, zI_add, zI_mul, zI_lt, zI_le, zI_eq, zI_mulL, zI_mulR, zI_addL, zI_addR, zI_subR, zI_sub, zI_divR, zI_ltR, zI_ltL, zI_leR, zI_leL, zI_eqR, zI_eqL, zI_neN, zI_neN', zI_ltN, zI_leN, zN_lt, zF1, zF2, zF3, zF4, zF5, zF6, zF7, zF8, zU_lt, zG1, zG2, zG3, zG4, zG5, zG6, zU1, zU2, zU3, zU4, zN_0, zN_le0, zI_lt0, zI_0le, zI_pred, zI_pred', zI_predS, zI_predT, zJ_le, zJ_lt, zJ_leL, zJ_leR, y_cl0, y_0cl, y_cle, y_lec, y_ceq, n_lt, n_le, n_nlt, n_nle,  kc_23 hc2, wm, w1, x_noNumber, zz, nl]
    · have hh := half_zI m0 (by omega)
      have hl : (many - 1) / 2 < 6 := by omega
      refine ⟨z_l S2 (B + 28) ((many - 1) / 2), _, T1, v, T2, cfin _ ?_, r1', v1, hm1, frS, frT, Or.inr ⟨g2, by rw [← g1]; exact g3, by rw [if_pos w0, hv]; exact g1⟩, rest⟩
      rw [l_X10_hear_20]
      simp (disch := first | assumption | omega) only [y_i_wi, y_l_wi, y_d_wi, y_r_wi, y_k_wi, y_n_wi, y_x_wi, y_w_wi, y_s_wi, y_i_wl, y_l_wl, y_d_wl, y_r_wl, y_k_wl, y_n_wl, y_x_wl, y_w_wl, y_s_wl, y_i_wd, y_l_wd, y_d_wd, y_r_wd, y_k_wd, y_n_wd, y_x_wd, y_w_wd, y_s_wd, y_i_wr, y_l_wr, y_d_wr, y_r_wr, y_k_wr, y_n_wr, y_x_wr, y_w_wr, y_s_wr, y_i_new, y_l_new, y_d_new, y_r_new, y_k_new, y_n_new, y_x_new, y_w_new, y_s_new, y_i_ci, y_l_ci, y_d_ci, y_r_ci, y_k_ci, y_n_ci, y_x_ci, y_w_ci, y_s_ci, y_i_cl, y_l_cl, y_d_cl, y_r_cl, y_k_cl, y_n_cl, y_x_cl, y_w_cl, y_s_cl, y_i_qi, y_l_qi, y_d_qi, y_r_qi, y_k_qi, y_n_qi, y_x_qi, y_w_qi, y_s_qi, y_i_ql, y_l_ql, y_d_ql, y_r_ql, y_k_ql, y_n_ql, y_x_ql, y_w_ql, y_s_ql, y_i_qd, y_l_qd, y_d_qd, y_r_qd, y_k_qd, y_n_qd, y_x_qd, y_w_qd, y_s_qd, ↓reduceIte, ↓y_tb, ↓y_tv, ↓y_tr, ↓y_tn, ↓y_ck, ↓y_ib, ↓y_nz2, ↓y_nzl2, ↓y_len2, ↓y_nn2, ↓y_nf2, ↓y_l2d2, y_gb, y_gn, y_gi, y_gv, y_gv', y_grN, y_grS, y_glN, y_glS, Nat.reduceAdd, Nat.reduceMul, Nat.reduceSub, Nat.reduceDiv, Nat.reduceMod, Nat.reduceLT, Nat.reduceLeDiff, y_rb0, y_rb1, y_b0, y_b0', y_10, zL_eq, zL_cl, Nat.add_sub_cancel, implies_true, Int32.reduceLT, Int32.reduceLE, if_true, if_false, true_and, and_true, false_and, and_false, true_or, or_true, false_or, or_false, not_true_eq_false, not_false_eq_true, ne_eq, and_self, or_self, reduceCtorEq, Nat.add_left_cancel_iff, Nat.left_eq_add, Nat.add_eq_left, Nat.reduceEqDiff, zI_of, zI_cl, zI_add, zI_mul, zI_lt, zI_le, zI_eq, zI_mulL, zI_mulR, zI_addL, zI_addR, zI_subR, zI_sub, zI_divR, zI_ltR, zI_ltL, zI_leR, zI_leL, zI_eqR, zI_eqL, zI_neN, zI_neN', zI_ltN, zI_leN, zN_lt, zF1, zF2, zF3, zF4, zF5, zF6, zF7, zF8, zU_lt, zG1, zG2, zG3, zG4, zG5, zG6, zU1, zU2, zU3, zU4, zN_0, zN_le0, zI_lt0, zI_0le, zI_pred, zI_pred', zI_predS, zI_predT, zJ_le, zJ_lt, zJ_leL, zJ_leR, y_cl0, y_0cl, y_cle, y_lec, y_ceq, n_lt, n_le, n_nlt, n_nle,  kc_23 hc2, wm, w1, x_noNumber, zz, nl, m0, rc_23_5 hc2, kc_28 hc2, nc_28 hc2, hh, hl]
  · have w2' : ¬ (9218868437227405312 : Int64) < (z_d T (B + 48) 76).toInt64 &&& 9223372036854775807 := w2
    refine ⟨(z_d T (B + 48) 76).toInt64, _, T1, v, T2, cfin _ ?_, r1', v1, hm1, frS, frT, Or.inr ⟨w2, bd_up (b2 w0) (by omega), by rw [if_neg (by rw [w0]; decide)]; rfl⟩, rest⟩
    rw [l_X10_hear_20]
    simp (disch := first | assumption | omega) only [y_i_wi, y_l_wi, y_d_wi, y_r_wi, y_k_wi, y_n_wi, y_x_wi, y_w_wi, y_s_wi, y_i_wl, y_l_wl, y_d_wl, y_r_wl, y_k_wl, y_n_wl, y_x_wl, y_w_wl, y_s_wl, y_i_wd, y_l_wd, y_d_wd, y_r_wd, y_k_wd, y_n_wd, y_x_wd, y_w_wd, y_s_wd, y_i_wr, y_l_wr, y_d_wr, y_r_wr, y_k_wr, y_n_wr, y_x_wr, y_w_wr, y_s_wr, y_i_new, y_l_new, y_d_new, y_r_new, y_k_new, y_n_new, y_x_new, y_w_new, y_s_new, y_i_ci, y_l_ci, y_d_ci, y_r_ci, y_k_ci, y_n_ci, y_x_ci, y_w_ci, y_s_ci, y_i_cl, y_l_cl, y_d_cl, y_r_cl, y_k_cl, y_n_cl, y_x_cl, y_w_cl, y_s_cl, y_i_qi, y_l_qi, y_d_qi, y_r_qi, y_k_qi, y_n_qi, y_x_qi, y_w_qi, y_s_qi, y_i_ql, y_l_ql, y_d_ql, y_r_ql, y_k_ql, y_n_ql, y_x_ql, y_w_ql, y_s_ql, y_i_qd, y_l_qd, y_d_qd, y_r_qd, y_k_qd, y_n_qd, y_x_qd, y_w_qd, y_s_qd, ↓reduceIte, ↓y_tb, ↓y_tv, ↓y_tr, ↓y_tn, ↓y_ck, ↓y_ib, ↓y_nz2, ↓y_nzl2, ↓y_len2, ↓y_nn2, ↓y_nf2, ↓y_l2d2, y_gb, y_gn, y_gi, y_gv, y_gv', y_grN, y_grS, y_glN, y_glS, Nat.reduceAdd, Nat.reduceMul, Nat.reduceSub, Nat.reduceDiv, Nat.reduceMod, Nat.reduceLT, Nat.reduceLeDiff, y_rb0, y_rb1, y_b0, y_b0', y_10, zL_eq, zL_cl, Nat.add_sub_cancel, implies_true, Int32.reduceLT, Int32.reduceLE, if_true, if_false, true_and, and_true, false_and, and_false, true_or, or_true, false_or, or_false, not_true_eq_false, not_false_eq_true, ne_eq, and_self, or_self, reduceCtorEq, Nat.add_left_cancel_iff, Nat.left_eq_add, Nat.add_eq_left, Nat.reduceEqDiff, zI_of, zI_cl, zI_add, zI_mul, zI_lt, zI_le, zI_eq, zI_mulL, zI_mulR, zI_addL, zI_addR, zI_subR, zI_sub, zI_divR, zI_ltR, zI_ltL, zI_leR, zI_leL, zI_eqR, zI_eqL, zI_neN, zI_neN', zI_ltN, zI_leN, zN_lt, zF1, zF2, zF3, zF4, zF5, zF6, zF7, zF8, zU_lt, zG1, zG2, zG3, zG4, zG5, zG6, zU1, zU2, zU3, zU4, zN_0, zN_le0, zI_lt0, zI_0le, zI_pred, zI_pred', zI_predS, zI_predT, zJ_le, zJ_lt, zJ_leL, zJ_leR, y_cl0, y_0cl, y_cle, y_lec, y_ceq, n_lt, n_le, n_nlt, n_nle,  kc_23 hc2, wm, w1, x_noNumber, w2', nl]
end Hears
