/-! pages: whole, first, their state -/
section Whole
variable {B : Nat} {G : z_Gh} {S T : z_St}
theorem zI_bv (n : Nat) : (zI n).toBitVec.toNat = n % 2 ^ 32 := by
  show (BitVec.ofNat 32 n).toNat = _
  rw [BitVec.toNat_ofNat]
theorem zI_of_bv {x : Int32} {n : Nat} (h : x.toBitVec.toNat = n % 2 ^ 32) : x = zI n := by
  apply Int32.toBitVec_inj.mp
  apply BitVec.eq_of_toNat_eq
  rw [zI_bv, h]
theorem and255 (x : Int32) : (x &&& 255) = zI (x.toBitVec.toNat % 256) := by
  apply zI_of_bv
  rw [Int32.toBitVec_and, BitVec.toNat_and]
  have : (255 : Int32).toBitVec.toNat = 2 ^ 8 - 1 := by decide
  rw [this, Nat.and_two_pow_sub_one_eq_mod]
  omega
theorem toI8 (x : Int32) : x.toInt8.toInt32 = sb (x.toBitVec.toNat % 256) := by
  unfold sb
  congr 1
  apply Int8.toBitVec_inj.mp
  apply BitVec.eq_of_toNat_eq
  rw [Int32.toBitVec_toInt8, Int32.toBitVec_toInt8, BitVec.signExtend_eq_setWidth_of_le _ (by decide), BitVec.signExtend_eq_setWidth_of_le _ (by decide), BitVec.toNat_setWidth, BitVec.toNat_setWidth, zI_bv]
  omega
theorem shrI (s : Int32) {k : Int32} {j : Nat} (hk : (k.toBitVec.smod 32).toNat = j) : (s >>> k).toInt = s.toInt >>> j := by
  show (s >>> k).toBitVec.toInt = s.toBitVec.toInt >>> j
  rw [Int32.toBitVec_shiftRight]
  show (s.toBitVec.sshiftRight (k.toBitVec.smod 32).toNat).toInt = _
  rw [hk, BitVec.toInt_sshiftRight]
theorem bvI (x : Int32) : x.toInt = if 2 * x.toBitVec.toNat < 2 ^ 32 then (x.toBitVec.toNat : Int) else (x.toBitVec.toNat : Int) - (2 ^ 32 : Nat) := BitVec.toInt_eq_toNat_cond x.toBitVec
/-- the bytes of a sum -/
theorem byte_of (s : Int32) {k : Int32} {j : Nat} (hk : (k.toBitVec.smod 32).toNat = j) (hj : j = 0 ∨ j = 8 ∨ j = 16 ∨ j = 24) : (s >>> k).toBitVec.toNat % 256 = s.toBitVec.toNat / 2 ^ j % 256 := by
  have h1 := shrI s hk
  rw [Int.shiftRight_eq_div_pow] at h1
  have h2 := bvI (s >>> k)
  have h3 := bvI s
  have l1 := (s >>> k).toBitVec.isLt
  have l2 := s.toBitVec.isLt
  generalize (s >>> k).toBitVec.toNat = a at *
  generalize s.toBitVec.toNat = n at *
  rw [h2, h3] at h1
  have p0 : ((2 ^ 0 : Nat) : Int) = 1 := by decide
  have p8 : ((2 ^ 8 : Nat) : Int) = 256 := by decide
  have p16 : ((2 ^ 16 : Nat) : Int) = 65536 := by decide
  have p24 : ((2 ^ 24 : Nat) : Int) = 16777216 := by decide
  rcases hj with rfl | rfl | rfl | rfl
  · rw [p0] at h1
    split at h1 <;> split at h1 <;> omega
  · rw [p8] at h1
    split at h1 <;> split at h1 <;> omega
  · rw [p16] at h1
    split at h1 <;> split at h1 <;> omega
  · rw [p24] at h1
    split at h1 <;> split at h1 <;> omega
theorem sh8' (a : Nat) {b : Nat} (hb : b < 256) : (zI a <<< (8 : Int32)) ||| zI b = zI (256 * a + b) := by
  apply zI_of_bv
  rw [Int32.toBitVec_or, BitVec.toNat_or, Int32.toBitVec_shiftLeft, zI_bv]
  have s8 : (8 : Int32).toBitVec.smod 32 = 8#32 := by decide
  rw [s8]
  show ((zI a).toBitVec <<< (8 : Nat)).toNat ||| b % 2 ^ 32 = _
  rw [BitVec.toNat_shiftLeft, zI_bv, Nat.shiftLeft_eq]
  have e1 : a % 2 ^ 32 * 2 ^ 8 % 2 ^ 32 = 2 ^ 8 * (a % 2 ^ 24) := by omega
  have e2 : b % 2 ^ 32 = b := by omega
  rw [e1, e2, ← Nat.two_pow_add_eq_or_of_lt (by omega)]
  omega
theorem bkW_eq {f : Nat → Nat} (h : ∀ k, f k < 256) : bkW f = zI (((f 28 * 256 + f 29) * 256 + f 30) * 256 + f 31) := by
  unfold bkW
  rw [show (zI (f 28) <<< 8 ||| zI (f 29)) = zI (256 * f 28 + f 29) from sh8' _ (h 29), show (zI (256 * f 28 + f 29) <<< 8 ||| zI (f 30)) = zI (256 * (256 * f 28 + f 29) + f 30) from sh8' _ (h 30), show (zI (256 * (256 * f 28 + f 29) + f 30) <<< 8 ||| zI (f 31)) = zI (256 * (256 * (256 * f 28 + f 29) + f 30) + f 31) from sh8' _ (h 31)]
  congr 1
  omega
theorem sumIs {f : Nat → Nat} (h : ∀ k, f k < 256) (s : Int32) : s = bkW f ↔ (f 28 = s.toBitVec.toNat / 2 ^ 24 % 256 ∧ f 29 = s.toBitVec.toNat / 2 ^ 16 % 256 ∧ f 30 = s.toBitVec.toNat / 2 ^ 8 % 256 ∧ f 31 = s.toBitVec.toNat / 2 ^ 0 % 256) := by
  have l := s.toBitVec.isLt
  have h28 := h 28
  have h29 := h 29
  have h30 := h 30
  have h31 := h 31
  rw [bkW_eq h]
  constructor
  · intro e
    have e' : s.toBitVec.toNat = (((f 28 * 256 + f 29) * 256 + f 30) * 256 + f 31) % 2 ^ 32 := by rw [e, zI_bv]
    generalize s.toBitVec.toNat = n at *
    omega
  · intro e
    apply zI_of_bv
    generalize s.toBitVec.toNat = n at *
    omega
/-- the number of a page that is whole, else 0 -/
noncomputable def nB (F : Nat → Nat) (p : Nat) : Nat := @ite _ (bkWhole (fun k => F (32 * p + k))) (Classical.propDecidable _) (bkNo (fun k => F (32 * p + k))) 0
theorem nB_w {F : Nat → Nat} {p : Nat} (h : bkWhole (fun k => F (32 * p + k))) : nB F p = bkNo (fun k => F (32 * p + k)) ∧ nB F p ≠ 0 := by
  have e : nB F p = bkNo (fun k => F (32 * p + k)) := by unfold nB; rw [if_pos h]
  exact ⟨e, by rw [e]; exact h.1⟩
theorem nB_n {F : Nat → Nat} {p : Nat} (h : ¬ bkWhole (fun k => F (32 * p + k))) : nB F p = 0 := by unfold nB; rw [if_neg h]
theorem nB_iff {F : Nat → Nat} {p : Nat} : nB F p ≠ 0 ↔ bkWhole (fun k => F (32 * p + k)) :=
  ⟨fun h => Classical.byContradiction fun q => h (nB_n q), fun h => (nB_w h).2⟩
theorem noOk_nB {F : Nat → Nat} {p : Nat} {v : Int32} (h : noOk F p v) : v = zI (nB F p) := by
  rcases h with ⟨h1, h2⟩ | ⟨h1, h2⟩
  · rw [(nB_w h1).1]; exact h2
  · rw [nB_n h1]; exact h2
theorem nB_lt {F : Nat → Nat} (hF : ∀ j, j < 1024 → F j < 256) {p : Nat} (hp : p < 32) : nB F p < 65536 := by
  have h0 := hF (32 * p + 0) (by omega)
  have h1 := hF (32 * p + 1) (by omega)
  by_cases h : bkWhole (fun k => F (32 * p + k))
  · rw [(nB_w h).1]
    unfold bkNo
    dsimp only
    omega
  · rw [nB_n h]; omega
theorem x_no {F : Nat → Nat} (hm : mSh B T) (hb : mB B F T) {p : Nat} (hp : p < 32) : f_X12_numberOf (B + 48) (zI p) T = some (zI (bkNo (fun k => F (32 * p + k))), T) := by
  have h0 := (hb (32 * p) (by omega)).2
  have h1 := (hb (32 * p + 1) (by omega)).2
  rw [e_X12_numberOf]; unfold b_X12_numberOf
  simp (disch := first | assumption | omega) only [y_i_wi, y_l_wi, y_d_wi, y_r_wi, y_k_wi, y_n_wi, y_x_wi, y_w_wi, y_s_wi, y_i_wl, y_l_wl, y_d_wl, y_r_wl, y_k_wl, y_n_wl, y_x_wl, y_w_wl, y_s_wl, y_i_wd, y_l_wd, y_d_wd, y_r_wd, y_k_wd, y_n_wd, y_x_wd, y_w_wd, y_s_wd, y_i_wr, y_l_wr, y_d_wr, y_r_wr, y_k_wr, y_n_wr, y_x_wr, y_w_wr, y_s_wr, y_i_new, y_l_new, y_d_new, y_r_new, y_k_new, y_n_new, y_x_new, y_w_new, y_s_new, y_i_ci, y_l_ci, y_d_ci, y_r_ci, y_k_ci, y_n_ci, y_x_ci, y_w_ci, y_s_ci, y_i_cl, y_l_cl, y_d_cl, y_r_cl, y_k_cl, y_n_cl, y_x_cl, y_w_cl, y_s_cl, y_i_qi, y_l_qi, y_d_qi, y_r_qi, y_k_qi, y_n_qi, y_x_qi, y_w_qi, y_s_qi, y_i_ql, y_l_ql, y_d_ql, y_r_ql, y_k_ql, y_n_ql, y_x_ql, y_w_ql, y_s_ql, y_i_qd, y_l_qd, y_d_qd, y_r_qd, y_k_qd, y_n_qd, y_x_qd, y_w_qd, y_s_qd, ↓reduceIte, ↓y_tb, ↓y_tv, ↓y_tr, ↓y_tn, ↓y_ck, ↓y_ib, ↓y_nz2, ↓y_nzl2, ↓y_len2, ↓y_nn2, ↓y_nf2, ↓y_l2d2, y_gb, y_gn, y_gi, y_gv, y_gv', y_grN, y_grS, y_glN, y_glS, Nat.reduceAdd, Nat.reduceMul, Nat.reduceSub, Nat.reduceDiv, Nat.reduceMod, Nat.reduceLT, Nat.reduceLeDiff, y_rb0, y_rb1, y_b0, y_b0', y_10, zL_eq, zL_cl, Nat.add_sub_cancel, implies_true, Int32.reduceLT, Int32.reduceLE, if_true, if_false, true_and, and_true, false_and, and_false, true_or, or_true, false_or, or_false, not_true_eq_false, not_false_eq_true, ne_eq, and_self, or_self, reduceCtorEq, Nat.add_left_cancel_iff, Nat.left_eq_add, Nat.add_eq_left, Nat.reduceEqDiff, zI_of, zI_cl, zI_add, zI_mul, zI_lt, zI_le, zI_eq, zI_mulL, zI_mulR, zI_addL, zI_addR, zI_subR, zI_sub, zI_divR, zI_ltR, zI_ltL, zI_leR, zI_leL, zI_eqR, zI_eqL, zI_neN, zI_neN', zI_ltN, zI_leN, zN_lt, zF1, zF2, zF3, zF4, zF5, zF6, zF7, zF8, zU_lt, zG1, zG2, zG3, zG4, zG5, zG6, zU1, zU2, zU3, zU4, zN_0, zN_le0, zI_lt0, zI_0le, zI_pred, zI_pred', zI_predS, zI_predT, zJ_le, zJ_lt, zJ_leL, zJ_leR, y_cl0, y_0cl, y_cle, y_lec, y_ceq, n_lt, n_le, n_nlt, n_nle,  km_48 hm, rm_48_98 hm, km_111 hm, nm_111 hm, h0, h1]
  rfl
theorem l_isW {F : Nat → Nat} (hm : mSh B T) (hb : mB B F T) {p : Nat} (hp : p < 32) (s : Int32) (d : Nat) : ∀ N k, 4 - k = d → k ≤ 4 → d < N → ∃ w : Int32, l_X12_isWhole_39 N (B + 48) (zI p) s 1 (zI k) T = some (w, T) ∧ ((w = 1 ∧ ∀ j, k ≤ j → j < 4 → F (32 * p + (28 + j)) = s.toBitVec.toNat / 2 ^ (24 - 8 * j) % 256) ∨ (w = 0 ∧ ¬ ∀ j, k ≤ j → j < 4 → F (32 * p + (28 + j)) = s.toBitVec.toNat / 2 ^ (24 - 8 * j) % 256)) := by
  induction d with
  | zero =>
    intro N k hd hk hN
    obtain ⟨N, rfl⟩ : ∃ n, N = n + 1 := ⟨N - 1, by omega⟩
    have : k = 4 := by omega
    subst this
    refine ⟨1, ?_, Or.inl ⟨rfl, fun j h1 h2 => by omega⟩⟩
    rw [l_X12_isWhole_39]
    simp (disch := first | assumption | omega) only [y_i_wi, y_l_wi, y_d_wi, y_r_wi, y_k_wi, y_n_wi, y_x_wi, y_w_wi, y_s_wi, y_i_wl, y_l_wl, y_d_wl, y_r_wl, y_k_wl, y_n_wl, y_x_wl, y_w_wl, y_s_wl, y_i_wd, y_l_wd, y_d_wd, y_r_wd, y_k_wd, y_n_wd, y_x_wd, y_w_wd, y_s_wd, y_i_wr, y_l_wr, y_d_wr, y_r_wr, y_k_wr, y_n_wr, y_x_wr, y_w_wr, y_s_wr, y_i_new, y_l_new, y_d_new, y_r_new, y_k_new, y_n_new, y_x_new, y_w_new, y_s_new, y_i_ci, y_l_ci, y_d_ci, y_r_ci, y_k_ci, y_n_ci, y_x_ci, y_w_ci, y_s_ci, y_i_cl, y_l_cl, y_d_cl, y_r_cl, y_k_cl, y_n_cl, y_x_cl, y_w_cl, y_s_cl, y_i_qi, y_l_qi, y_d_qi, y_r_qi, y_k_qi, y_n_qi, y_x_qi, y_w_qi, y_s_qi, y_i_ql, y_l_ql, y_d_ql, y_r_ql, y_k_ql, y_n_ql, y_x_ql, y_w_ql, y_s_ql, y_i_qd, y_l_qd, y_d_qd, y_r_qd, y_k_qd, y_n_qd, y_x_qd, y_w_qd, y_s_qd, ↓reduceIte, ↓y_tb, ↓y_tv, ↓y_tr, ↓y_tn, ↓y_ck, ↓y_ib, ↓y_nz2, ↓y_nzl2, ↓y_len2, ↓y_nn2, ↓y_nf2, ↓y_l2d2, y_gb, y_gn, y_gi, y_gv, y_gv', y_grN, y_grS, y_glN, y_glS, Nat.reduceAdd, Nat.reduceMul, Nat.reduceSub, Nat.reduceDiv, Nat.reduceMod, Nat.reduceLT, Nat.reduceLeDiff, y_rb0, y_rb1, y_b0, y_b0', y_10, zL_eq, zL_cl, Nat.add_sub_cancel, implies_true, Int32.reduceLT, Int32.reduceLE, if_true, if_false, true_and, and_true, false_and, and_false, true_or, or_true, false_or, or_false, not_true_eq_false, not_false_eq_true, ne_eq, and_self, or_self, reduceCtorEq, Nat.add_left_cancel_iff, Nat.left_eq_add, Nat.add_eq_left, Nat.reduceEqDiff, zI_of, zI_cl, zI_add, zI_mul, zI_lt, zI_le, zI_eq, zI_mulL, zI_mulR, zI_addL, zI_addR, zI_subR, zI_sub, zI_divR, zI_ltR, zI_ltL, zI_leR, zI_leL, zI_eqR, zI_eqL, zI_neN, zI_neN', zI_ltN, zI_leN, zN_lt, zF1, zF2, zF3, zF4, zF5, zF6, zF7, zF8, zU_lt, zG1, zG2, zG3, zG4, zG5, zG6, zU1, zU2, zU3, zU4, zN_0, zN_le0, zI_lt0, zI_0le, zI_pred, zI_pred', zI_predS, zI_predT, zJ_le, zJ_lt, zJ_leL, zJ_leR, y_cl0, y_0cl, y_cle, y_lec, y_ceq, n_lt, n_le, n_nlt, n_nle,  km_48 hm, rm_48_98 hm, km_111 hm, nm_111 hm, y_10]
  | succ d ih =>
    intro N k hd hk hN
    obtain ⟨N, rfl⟩ : ∃ n, N = n + 1 := ⟨N - 1, by omega⟩
    have h1 := (hb (32 * p + 28 + k) (by omega))
    have e2 : 32 * p + 28 + k = 32 * p + (28 + k) := by omega
    have hk4 : k = 0 ∨ k = 1 ∨ k = 2 ∨ k = 3 := by omega
    have hby : ((s >>> (((24 : Int32) - (8 : Int32) * zI k) &&& 31)) &&& 255) = zI (s.toBitVec.toNat / 2 ^ (24 - 8 * k) % 256) := by
      rw [and255]
      congr 1
      rcases hk4 with rfl | rfl | rfl | rfl
      · exact byte_of s (by decide) (by decide)
      · exact byte_of s (by decide) (by decide)
      · exact byte_of s (by decide) (by decide)
      · exact byte_of s (by decide) (by decide)
    by_cases c : F (32 * p + (28 + k)) = s.toBitVec.toNat / 2 ^ (24 - 8 * k) % 256
    · obtain ⟨w, w1, w2⟩ := ih N (k + 1) (by omega) (by omega) (by omega)
      refine ⟨w, ?_, ?_⟩
      · have c' : zI (F (32 * p + (28 + k))) = zI (s.toBitVec.toNat / 2 ^ (24 - 8 * k) % 256) := by rw [c]
        have hz : z_i T (B + 111) (32 * p + 28 + k) = zI (s.toBitVec.toNat / 2 ^ (24 - 8 * k) % 256) := by rw [h1.2, e2]; exact c'
        rw [← w1]
        simp only [l_X12_isWhole_39]
        rw [hby]
        simp (disch := first | assumption | omega) only [y_i_wi, y_l_wi, y_d_wi, y_r_wi, y_k_wi, y_n_wi, y_x_wi, y_w_wi, y_s_wi, y_i_wl, y_l_wl, y_d_wl, y_r_wl, y_k_wl, y_n_wl, y_x_wl, y_w_wl, y_s_wl, y_i_wd, y_l_wd, y_d_wd, y_r_wd, y_k_wd, y_n_wd, y_x_wd, y_w_wd, y_s_wd, y_i_wr, y_l_wr, y_d_wr, y_r_wr, y_k_wr, y_n_wr, y_x_wr, y_w_wr, y_s_wr, y_i_new, y_l_new, y_d_new, y_r_new, y_k_new, y_n_new, y_x_new, y_w_new, y_s_new, y_i_ci, y_l_ci, y_d_ci, y_r_ci, y_k_ci, y_n_ci, y_x_ci, y_w_ci, y_s_ci, y_i_cl, y_l_cl, y_d_cl, y_r_cl, y_k_cl, y_n_cl, y_x_cl, y_w_cl, y_s_cl, y_i_qi, y_l_qi, y_d_qi, y_r_qi, y_k_qi, y_n_qi, y_x_qi, y_w_qi, y_s_qi, y_i_ql, y_l_ql, y_d_ql, y_r_ql, y_k_ql, y_n_ql, y_x_ql, y_w_ql, y_s_ql, y_i_qd, y_l_qd, y_d_qd, y_r_qd, y_k_qd, y_n_qd, y_x_qd, y_w_qd, y_s_qd, ↓reduceIte, ↓y_tb, ↓y_tv, ↓y_tr, ↓y_tn, ↓y_ck, ↓y_ib, ↓y_nz2, ↓y_nzl2, ↓y_len2, ↓y_nn2, ↓y_nf2, ↓y_l2d2, y_gb, y_gn, y_gi, y_gv, y_gv', y_grN, y_grS, y_glN, y_glS, Nat.reduceAdd, Nat.reduceMul, Nat.reduceSub, Nat.reduceDiv, Nat.reduceMod, Nat.reduceLT, Nat.reduceLeDiff, y_rb0, y_rb1, y_b0, y_b0', y_10, zL_eq, zL_cl, Nat.add_sub_cancel, implies_true, Int32.reduceLT, Int32.reduceLE, if_true, if_false, true_and, and_true, false_and, and_false, true_or, or_true, false_or, or_false, not_true_eq_false, not_false_eq_true, ne_eq, and_self, or_self, reduceCtorEq, Nat.add_left_cancel_iff, Nat.left_eq_add, Nat.add_eq_left, Nat.reduceEqDiff, zI_of, zI_cl, zI_mulL, zI_addR, zI_add, zI_lt0, zI_leL, n_lt, n_le, n_nlt, n_nle, or_self, km_48 hm, rm_48_98 hm, km_111 hm, nm_111 hm, hz]
      · rcases w2 with ⟨w2, w3⟩ | ⟨w2, w3⟩
        · refine Or.inl ⟨w2, fun j g1 g2 => ?_⟩
          by_cases e : j = k
          · subst e; exact c
          · exact w3 j (by omega) g2
        · exact Or.inr ⟨w2, fun z => w3 fun j g1 g2 => z j (by omega) g2⟩
    · refine ⟨0, ?_, Or.inr ⟨rfl, fun z => c (z k (Nat.le_refl _) (by omega))⟩⟩
      have b1 := h1.1
      rw [e2] at b1
      have hz : (z_i T (B + 111) (32 * p + 28 + k) = zI (s.toBitVec.toNat / 2 ^ (24 - 8 * k) % 256)) = False := eq_false fun z => by
        rw [h1.2, e2] at z
        have := congrArg (fun v : Int32 => v.toBitVec.toNat) z
        simp only [zI_bv] at this
        omega
      simp only [l_X12_isWhole_39]
      rw [hby]
      obtain ⟨N, rfl⟩ : ∃ n, N = n + 1 := ⟨N - 1, by omega⟩
      have last : ∀ j : Int32, l_X12_isWhole_39 (N + 1) (B + 48) (zI p) s 0 j T = some (0, T) := by
        intro j
        simp only [l_X12_isWhole_39]
        by_cases q : (4 : Int32) ≤ j
        · rw [if_pos q]; exact y_rb0 T
        · rw [if_neg q, if_pos trivial]; exact y_rb0 T
      simp (disch := first | assumption | omega) only [y_i_wi, y_l_wi, y_d_wi, y_r_wi, y_k_wi, y_n_wi, y_x_wi, y_w_wi, y_s_wi, y_i_wl, y_l_wl, y_d_wl, y_r_wl, y_k_wl, y_n_wl, y_x_wl, y_w_wl, y_s_wl, y_i_wd, y_l_wd, y_d_wd, y_r_wd, y_k_wd, y_n_wd, y_x_wd, y_w_wd, y_s_wd, y_i_wr, y_l_wr, y_d_wr, y_r_wr, y_k_wr, y_n_wr, y_x_wr, y_w_wr, y_s_wr, y_i_new, y_l_new, y_d_new, y_r_new, y_k_new, y_n_new, y_x_new, y_w_new, y_s_new, y_i_ci, y_l_ci, y_d_ci, y_r_ci, y_k_ci, y_n_ci, y_x_ci, y_w_ci, y_s_ci, y_i_cl, y_l_cl, y_d_cl, y_r_cl, y_k_cl, y_n_cl, y_x_cl, y_w_cl, y_s_cl, y_i_qi, y_l_qi, y_d_qi, y_r_qi, y_k_qi, y_n_qi, y_x_qi, y_w_qi, y_s_qi, y_i_ql, y_l_ql, y_d_ql, y_r_ql, y_k_ql, y_n_ql, y_x_ql, y_w_ql, y_s_ql, y_i_qd, y_l_qd, y_d_qd, y_r_qd, y_k_qd, y_n_qd, y_x_qd, y_w_qd, y_s_qd, ↓reduceIte, ↓y_tb, ↓y_tv, ↓y_tr, ↓y_tn, ↓y_ck, ↓y_ib, ↓y_nz2, ↓y_nzl2, ↓y_len2, ↓y_nn2, ↓y_nf2, ↓y_l2d2, y_gb, y_gn, y_gi, y_gv, y_gv', y_grN, y_grS, y_glN, y_glS, Nat.reduceAdd, Nat.reduceMul, Nat.reduceSub, Nat.reduceDiv, Nat.reduceMod, Nat.reduceLT, Nat.reduceLeDiff, y_rb0, y_rb1, y_b0, y_b0', y_10, zL_eq, zL_cl, Nat.add_sub_cancel, implies_true, Int32.reduceLT, Int32.reduceLE, if_true, if_false, true_and, and_true, false_and, and_false, true_or, or_true, false_or, or_false, not_true_eq_false, not_false_eq_true, ne_eq, and_self, or_self, reduceCtorEq, Nat.add_left_cancel_iff, Nat.left_eq_add, Nat.add_eq_left, Nat.reduceEqDiff, zI_of, zI_cl, zI_mulL, zI_addR, zI_add, zI_lt0, zI_leL, n_lt, n_le, n_nlt, n_nle, or_self, km_48 hm, rm_48_98 hm, km_111 hm, nm_111 hm, hz, last]
theorem x_isW {F : Nat → Nat} (hm : mSh B T) (hb : mB B F T) {p : Nat} (hp : p < 32) : ∃ w : Int32, f_X12_isWhole (B + 48) (zI p) T = some (w, T) ∧ ((w = 1 ∧ nB F p ≠ 0) ∨ (w = 0 ∧ nB F p = 0)) := by
  have xs := x_sumM hm hb hp 28 z_N 0 (by omega) (by omega) (by rw [z_N_eq]; omega)
  have xs' : f_X12_sumOf (B + 48) (zI p) T = some (bkSum (fun k => F (32 * p + k)) 28, T) := by rw [e_X12_sumOf]; exact xs
  clear xs
  have xn := x_no hm hb hp
  obtain ⟨s, hs⟩ : ∃ s, bkSum (fun k => F (32 * p + k)) 28 = s := ⟨_, rfl⟩
  rw [hs] at xs'
  have hF : ∀ k, k < 32 → F (32 * p + k) < 256 := fun k hk => (hb (32 * p + k) (by omega)).1
  have h2 := hb (32 * p + 2) (by omega)
  obtain ⟨m, hmm⟩ : ∃ m, bkNo (fun k => F (32 * p + k)) = m := ⟨_, rfl⟩
  have hm16 : m < 65536 := by
    rw [← hmm]
    unfold bkNo
    have a0 := hF 0 (by omega)
    have a1 := hF 1 (by omega)
    dsimp only
    omega
  rw [hmm] at xn
  have last : ∀ N, l_X12_isWhole_39 (N + 1) (B + 48) (zI p) s 0 0 T = some (0, T) := by
    intro N
    simp only [l_X12_isWhole_39]
    rw [if_neg (by decide), if_pos trivial]; exact y_rb0 T
  have last' : l_X12_isWhole_39 z_N (B + 48) (zI p) s 0 0 T = some (0, T) := by rw [z_N_eq]; exact last 2999
  by_cases e0 : m = 0
  · refine ⟨0, ?_, Or.inr ⟨rfl, nB_n fun z => z.1 (hmm.trans e0)⟩⟩
    rw [e_X12_isWhole]; unfold b_X12_isWhole
    simp (disch := first | assumption | omega) only [y_i_wi, y_l_wi, y_d_wi, y_r_wi, y_k_wi, y_n_wi, y_x_wi, y_w_wi, y_s_wi, y_i_wl, y_l_wl, y_d_wl, y_r_wl, y_k_wl, y_n_wl, y_x_wl, y_w_wl, y_s_wl, y_i_wd, y_l_wd, y_d_wd, y_r_wd, y_k_wd, y_n_wd, y_x_wd, y_w_wd, y_s_wd, y_i_wr, y_l_wr, y_d_wr, y_r_wr, y_k_wr, y_n_wr, y_x_wr, y_w_wr, y_s_wr, y_i_new, y_l_new, y_d_new, y_r_new, y_k_new, y_n_new, y_x_new, y_w_new, y_s_new, y_i_ci, y_l_ci, y_d_ci, y_r_ci, y_k_ci, y_n_ci, y_x_ci, y_w_ci, y_s_ci, y_i_cl, y_l_cl, y_d_cl, y_r_cl, y_k_cl, y_n_cl, y_x_cl, y_w_cl, y_s_cl, y_i_qi, y_l_qi, y_d_qi, y_r_qi, y_k_qi, y_n_qi, y_x_qi, y_w_qi, y_s_qi, y_i_ql, y_l_ql, y_d_ql, y_r_ql, y_k_ql, y_n_ql, y_x_ql, y_w_ql, y_s_ql, y_i_qd, y_l_qd, y_d_qd, y_r_qd, y_k_qd, y_n_qd, y_x_qd, y_w_qd, y_s_qd, ↓reduceIte, ↓y_tb, ↓y_tv, ↓y_tr, ↓y_tn, ↓y_ck, ↓y_ib, ↓y_nz2, ↓y_nzl2, ↓y_len2, ↓y_nn2, ↓y_nf2, ↓y_l2d2, y_gb, y_gn, y_gi, y_gv, y_gv', y_grN, y_grS, y_glN, y_glS, Nat.reduceAdd, Nat.reduceMul, Nat.reduceSub, Nat.reduceDiv, Nat.reduceMod, Nat.reduceLT, Nat.reduceLeDiff, y_rb0, y_rb1, y_b0, y_b0', y_10, zL_eq, zL_cl, Nat.add_sub_cancel, implies_true, Int32.reduceLT, Int32.reduceLE, if_true, if_false, true_and, and_true, false_and, and_false, true_or, or_true, false_or, or_false, not_true_eq_false, not_false_eq_true, ne_eq, and_self, or_self, reduceCtorEq, Nat.add_left_cancel_iff, Nat.left_eq_add, Nat.add_eq_left, Nat.reduceEqDiff, zI_of, zI_cl, zI_add, zI_mul, zI_lt, zI_le, zI_eq, zI_mulL, zI_mulR, zI_addL, zI_addR, zI_subR, zI_sub, zI_divR, zI_ltR, zI_ltL, zI_leR, zI_leL, zI_eqR, zI_eqL, zI_neN, zI_neN', zI_ltN, zI_leN, zN_lt, zF1, zF2, zF3, zF4, zF5, zF6, zF7, zF8, zU_lt, zG1, zG2, zG3, zG4, zG5, zG6, zU1, zU2, zU3, zU4, zN_0, zN_le0, zI_lt0, zI_0le, zI_pred, zI_pred', zI_predS, zI_predT, zJ_le, zJ_lt, zJ_leL, zJ_leR, y_cl0, y_0cl, y_cle, y_lec, y_ceq, n_lt, n_le, n_nlt, n_nle,  km_48 hm, rm_48_98 hm, km_111 hm, nm_111 hm, xs', xn, e0, last']
  · by_cases e2 : F (32 * p + 2) ≤ 24
    · have e2' : ¬ 24 < F (32 * p + 2) := by omega
      obtain ⟨w, w1, w2⟩ := l_isW hm hb hp s 4 z_N 0 (by omega) (by omega) (by rw [z_N_eq]; omega)
      have w1' : l_X12_isWhole_39 z_N (B + 48) (zI p) s 1 0 T = some (w, T) := w1
      refine ⟨w, ?_, ?_⟩
      · rw [e_X12_isWhole]; unfold b_X12_isWhole
        simp (disch := first | assumption | omega) only [y_i_wi, y_l_wi, y_d_wi, y_r_wi, y_k_wi, y_n_wi, y_x_wi, y_w_wi, y_s_wi, y_i_wl, y_l_wl, y_d_wl, y_r_wl, y_k_wl, y_n_wl, y_x_wl, y_w_wl, y_s_wl, y_i_wd, y_l_wd, y_d_wd, y_r_wd, y_k_wd, y_n_wd, y_x_wd, y_w_wd, y_s_wd, y_i_wr, y_l_wr, y_d_wr, y_r_wr, y_k_wr, y_n_wr, y_x_wr, y_w_wr, y_s_wr, y_i_new, y_l_new, y_d_new, y_r_new, y_k_new, y_n_new, y_x_new, y_w_new, y_s_new, y_i_ci, y_l_ci, y_d_ci, y_r_ci, y_k_ci, y_n_ci, y_x_ci, y_w_ci, y_s_ci, y_i_cl, y_l_cl, y_d_cl, y_r_cl, y_k_cl, y_n_cl, y_x_cl, y_w_cl, y_s_cl, y_i_qi, y_l_qi, y_d_qi, y_r_qi, y_k_qi, y_n_qi, y_x_qi, y_w_qi, y_s_qi, y_i_ql, y_l_ql, y_d_ql, y_r_ql, y_k_ql, y_n_ql, y_x_ql, y_w_ql, y_s_ql, y_i_qd, y_l_qd, y_d_qd, y_r_qd, y_k_qd, y_n_qd, y_x_qd, y_w_qd, y_s_qd, ↓reduceIte, ↓y_tb, ↓y_tv, ↓y_tr, ↓y_tn, ↓y_ck, ↓y_ib, ↓y_nz2, ↓y_nzl2, ↓y_len2, ↓y_nn2, ↓y_nf2, ↓y_l2d2, y_gb, y_gn, y_gi, y_gv, y_gv', y_grN, y_grS, y_glN, y_glS, Nat.reduceAdd, Nat.reduceMul, Nat.reduceSub, Nat.reduceDiv, Nat.reduceMod, Nat.reduceLT, Nat.reduceLeDiff, y_rb0, y_rb1, y_b0, y_b0', y_10, zL_eq, zL_cl, Nat.add_sub_cancel, implies_true, Int32.reduceLT, Int32.reduceLE, if_true, if_false, true_and, and_true, false_and, and_false, true_or, or_true, false_or, or_false, not_true_eq_false, not_false_eq_true, ne_eq, and_self, or_self, reduceCtorEq, Nat.add_left_cancel_iff, Nat.left_eq_add, Nat.add_eq_left, Nat.reduceEqDiff, zI_of, zI_cl, zI_add, zI_mul, zI_lt, zI_le, zI_eq, zI_mulL, zI_mulR, zI_addL, zI_addR, zI_subR, zI_sub, zI_divR, zI_ltR, zI_ltL, zI_leR, zI_leL, zI_eqR, zI_eqL, zI_neN, zI_neN', zI_ltN, zI_leN, zN_lt, zF1, zF2, zF3, zF4, zF5, zF6, zF7, zF8, zU_lt, zG1, zG2, zG3, zG4, zG5, zG6, zU1, zU2, zU3, zU4, zN_0, zN_le0, zI_lt0, zI_0le, zI_pred, zI_pred', zI_predS, zI_predT, zJ_le, zJ_lt, zJ_leL, zJ_leR, y_cl0, y_0cl, y_cle, y_lec, y_ceq, n_lt, n_le, n_nlt, n_nle,  km_48 hm, rm_48_98 hm, km_111 hm, nm_111 hm, xs', xn, e0, h2.2, e2', w1']
      · have hsum : s = bkW (fun k => F (32 * p + k)) ↔ ∀ j, 0 ≤ j → j < 4 → F (32 * p + (28 + j)) = s.toBitVec.toNat / 2 ^ (24 - 8 * j) % 256 := by
          have key := sumIs (f := fun k => if k < 32 then F (32 * p + k) else 0) (fun k => by
            by_cases q : k < 32
            · simp only [q, if_true]; exact hF k q
            · simp only [q, if_false]; omega) s
          have e1 : bkW (fun k => if k < 32 then F (32 * p + k) else 0) = bkW (fun k => F (32 * p + k)) := rfl
          rw [e1] at key
          rw [key]
          constructor
          · rintro ⟨k0, k1, k2, k3⟩ j _ hj
            have hj4 : j = 0 ∨ j = 1 ∨ j = 2 ∨ j = 3 := by omega
            rcases hj4 with rfl | rfl | rfl | rfl
            · exact k0
            · exact k1
            · exact k2
            · exact k3
          · intro z
            exact ⟨z 0 (by omega) (by omega), z 1 (by omega) (by omega), z 2 (by omega) (by omega), z 3 (by omega) (by omega)⟩
        rcases w2 with ⟨w2, w3⟩ | ⟨w2, w3⟩
        · exact Or.inl ⟨w2, nB_iff.mpr ⟨fun z => e0 (hmm.symm.trans z), e2, hs.trans (hsum.mpr w3)⟩⟩
        · exact Or.inr ⟨w2, nB_n fun z => w3 (hsum.mp (hs.symm.trans z.2.2))⟩
    · have e2' : 24 < F (32 * p + 2) := by omega
      refine ⟨0, ?_, Or.inr ⟨rfl, nB_n fun z => e2 z.2.1⟩⟩
      rw [e_X12_isWhole]; unfold b_X12_isWhole
      simp (disch := first | assumption | omega) only [y_i_wi, y_l_wi, y_d_wi, y_r_wi, y_k_wi, y_n_wi, y_x_wi, y_w_wi, y_s_wi, y_i_wl, y_l_wl, y_d_wl, y_r_wl, y_k_wl, y_n_wl, y_x_wl, y_w_wl, y_s_wl, y_i_wd, y_l_wd, y_d_wd, y_r_wd, y_k_wd, y_n_wd, y_x_wd, y_w_wd, y_s_wd, y_i_wr, y_l_wr, y_d_wr, y_r_wr, y_k_wr, y_n_wr, y_x_wr, y_w_wr, y_s_wr, y_i_new, y_l_new, y_d_new, y_r_new, y_k_new, y_n_new, y_x_new, y_w_new, y_s_new, y_i_ci, y_l_ci, y_d_ci, y_r_ci, y_k_ci, y_n_ci, y_x_ci, y_w_ci, y_s_ci, y_i_cl, y_l_cl, y_d_cl, y_r_cl, y_k_cl, y_n_cl, y_x_cl, y_w_cl, y_s_cl, y_i_qi, y_l_qi, y_d_qi, y_r_qi, y_k_qi, y_n_qi, y_x_qi, y_w_qi, y_s_qi, y_i_ql, y_l_ql, y_d_ql, y_r_ql, y_k_ql, y_n_ql, y_x_ql, y_w_ql, y_s_ql, y_i_qd, y_l_qd, y_d_qd, y_r_qd, y_k_qd, y_n_qd, y_x_qd, y_w_qd, y_s_qd, ↓reduceIte, ↓y_tb, ↓y_tv, ↓y_tr, ↓y_tn, ↓y_ck, ↓y_ib, ↓y_nz2, ↓y_nzl2, ↓y_len2, ↓y_nn2, ↓y_nf2, ↓y_l2d2, y_gb, y_gn, y_gi, y_gv, y_gv', y_grN, y_grS, y_glN, y_glS, Nat.reduceAdd, Nat.reduceMul, Nat.reduceSub, Nat.reduceDiv, Nat.reduceMod, Nat.reduceLT, Nat.reduceLeDiff, y_rb0, y_rb1, y_b0, y_b0', y_10, zL_eq, zL_cl, Nat.add_sub_cancel, implies_true, Int32.reduceLT, Int32.reduceLE, if_true, if_false, true_and, and_true, false_and, and_false, true_or, or_true, false_or, or_false, not_true_eq_false, not_false_eq_true, ne_eq, and_self, or_self, reduceCtorEq, Nat.add_left_cancel_iff, Nat.left_eq_add, Nat.add_eq_left, Nat.reduceEqDiff, zI_of, zI_cl, zI_add, zI_mul, zI_lt, zI_le, zI_eq, zI_mulL, zI_mulR, zI_addL, zI_addR, zI_subR, zI_sub, zI_divR, zI_ltR, zI_ltL, zI_leR, zI_leL, zI_eqR, zI_eqL, zI_neN, zI_neN', zI_ltN, zI_leN, zN_lt, zF1, zF2, zF3, zF4, zF5, zF6, zF7, zF8, zU_lt, zG1, zG2, zG3, zG4, zG5, zG6, zU1, zU2, zU3, zU4, zN_0, zN_le0, zI_lt0, zI_0le, zI_pred, zI_pred', zI_predS, zI_predT, zJ_le, zJ_lt, zJ_leL, zJ_leR, y_cl0, y_0cl, y_cle, y_lec, y_ceq, n_lt, n_le, n_nlt, n_nle,  km_48 hm, rm_48_98 hm, km_111 hm, nm_111 hm, xs', xn, e0, h2.2, e2', last']
end Whole
