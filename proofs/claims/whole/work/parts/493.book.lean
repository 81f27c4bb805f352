/-! book: a row is written -/
section BookIn
variable {B : Nat} {G : z_Gh} {S S0 S1 T T0 T1 : z_St}
def ov (F : Nat → Nat) (p : Nat) (V : Nat → Nat) (m : Nat) : Nat → Nat := fun j => if 32 * p ≤ j ∧ j < 32 * p + 32 then (if j < 32 * p + m then V (j - 32 * p) else 0) else F j
def om (F : Nat → Nat) (p : Nat) (V : Nat → Nat) (m : Nat) : Nat → Nat := fun j => if 32 * p ≤ j ∧ j < 32 * p + m then V (j - 32 * p) else F j
def os (F : Nat → Nat) (p : Nat) (X : Nat → Nat) (m : Nat) : Nat → Nat := fun j => if 32 * p + 28 ≤ j ∧ j < 32 * p + 28 + m then X (j - (32 * p + 28)) else F j
theorem cB_congr {F F' : Nat → Nat} (h : ∀ j, j < 1024 → F' j = F j) (hb : cB B F S) : cB B F' S := fun j hj => by rw [h j hj]; exact hb j hj
theorem mB_congr {F F' : Nat → Nat} (h : ∀ j, j < 1024 → F' j = F j) (hb : mB B F T) : mB B F' T := fun j hj => by rw [h j hj]; exact hb j hj
theorem zI_shr8 {n : Nat} (h : n < 2147483648) : zI n >>> ((8 : Int32) &&& 31) = zI (n / 256) := by
  apply Int32.toInt_inj.mp
  rw [show ((8 : Int32) &&& 31) = 8 from by decide, shrI (zI n) (k := 8) (j := 8) (by decide), zI_I h, zI_I (by omega), Int.shiftRight_eq_div_pow]
  omega
theorem and255L (x : Int64) : (x &&& 255).toInt32 = zI (x.toBitVec.toNat % 256) := by
  apply zI_of_bv
  rw [Int64.toBitVec_toInt32, BitVec.signExtend_eq_setWidth_of_le _ (by decide), BitVec.toNat_setWidth, Int64.toBitVec_and, BitVec.toNat_and]
  have : (255 : Int64).toBitVec.toNat = 2 ^ 8 - 1 := by decide
  rw [this, Nat.and_two_pow_sub_one_eq_mod]
theorem low8L (x : Int64) : x.toInt32.toBitVec.toNat % 256 = x.toBitVec.toNat % 256 := by
  rw [Int64.toBitVec_toInt32, BitVec.signExtend_eq_setWidth_of_le _ (by decide), BitVec.toNat_setWidth]
  omega
/-- the class while it writes page p -/
def cW (B : Nat) (G : z_Gh) (p m : Nat) (S0 : z_St) (F : Nat → Nat) (S1 : z_St) : Prop :=
  fS B G (c1 12) S0 S1 ∧ (z_x S1 = z_x S0 ∧ z_w S1 = z_w S0) ∧ cB B F S1 ∧ z_i S1 (B + 45) 2 = zI m ∧ (∀ r, r < 32 → r ≠ p → z_i S1 (B + 47) r = z_i S0 (B + 47) r) ∧ ∀ a, B + 112 ≤ a → z_k S1 a = z_k S0 a ∧ z_n S1 a = z_n S0 a ∧ ∀ k, z_i S1 a k = z_i S0 a k ∧ z_l S1 a k = z_l S0 a k ∧ z_r S1 a k = z_r S0 a k
theorem cW_c (hc : cSh B S0) {p m : Nat} {F : Nat → Nat} (h : cW B G p m S0 F S1) : cSh B S1 := cSh_up hc h.1 (fun z => by unfold c1 at z; omega)
theorem x_setB (hc : cSh B S) {p i : Nat} (hp : p < 32) (hi : i < 32) (v : Int32) : f_X2_setByte (B + 45) (zI p) (zI i) v S = some (z_wi S (B + 46) (32 * p + i) (sb (v.toBitVec.toNat % 256))) := by
  have e : p * 32 + i = 32 * p + i := by omega
  have h3 : vp_nar .byte v.toInt8.toInt32 = sb (v.toBitVec.toNat % 256) := by
    rw [toI8]
    exact sb_nar ⟨v.toBitVec.toNat % 256, Nat.mod_lt _ (by decide)⟩
  rw [e_X2_setByte]; unfold b_X2_setByte
  simp (disch := first | assumption | omega) only [y_i_wi, y_l_wi, y_d_wi, y_r_wi, y_k_wi, y_n_wi, y_x_wi, y_w_wi, y_s_wi, y_i_wl, y_l_wl, y_d_wl, y_r_wl, y_k_wl, y_n_wl, y_x_wl, y_w_wl, y_s_wl, y_i_wd, y_l_wd, y_d_wd, y_r_wd, y_k_wd, y_n_wd, y_x_wd, y_w_wd, y_s_wd, y_i_wr, y_l_wr, y_d_wr, y_r_wr, y_k_wr, y_n_wr, y_x_wr, y_w_wr, y_s_wr, y_i_new, y_l_new, y_d_new, y_r_new, y_k_new, y_n_new, y_x_new, y_w_new, y_s_new, y_i_ci, y_l_ci, y_d_ci, y_r_ci, y_k_ci, y_n_ci, y_x_ci, y_w_ci, y_s_ci, y_i_cl, y_l_cl, y_d_cl, y_r_cl, y_k_cl, y_n_cl, y_x_cl, y_w_cl, y_s_cl, y_i_qi, y_l_qi, y_d_qi, y_r_qi, y_k_qi, y_n_qi, y_x_qi, y_w_qi, y_s_qi, y_i_ql, y_l_ql, y_d_ql, y_r_ql, y_k_ql, y_n_ql, y_x_ql, y_w_ql, y_s_ql, y_i_qd, y_l_qd, y_d_qd, y_r_qd, y_k_qd, y_n_qd, y_x_qd, y_w_qd, y_s_qd, ↓reduceIte, ↓y_tb, ↓y_tv, ↓y_tr, ↓y_tn, ↓y_ck, ↓y_ib, ↓y_nz2, ↓y_nzl2, ↓y_len2, ↓y_nn2, ↓y_nf2, ↓y_l2d2, y_gb, y_gn, y_gi, y_gv, y_gv', y_grN, y_grS, y_glN, y_glS, Nat.reduceAdd, Nat.reduceMul, Nat.reduceSub, Nat.reduceDiv, Nat.reduceMod, Nat.reduceLT, Nat.reduceLeDiff, y_rb0, y_rb1, y_b0, y_b0', y_10, zL_eq, zL_cl, Nat.add_sub_cancel, implies_true, Int32.reduceLT, Int32.reduceLE, if_true, if_false, true_and, and_true, false_and, and_false, true_or, or_true, false_or, or_false, not_true_eq_false, not_false_eq_true, ne_eq, and_self, or_self, reduceCtorEq, Nat.add_left_cancel_iff, Nat.left_eq_add, Nat.add_eq_left, Nat.reduceEqDiff, zI_of, zI_cl, zI_add, zI_mul, zI_lt, zI_le, zI_eq, zI_mulL, zI_mulR, zI_addL, zI_addR, zI_subR, zI_sub, zI_divR, zI_ltR, zI_ltL, zI_leR, zI_leL, zI_eqR, zI_eqL, zI_neN, zI_neN', zI_ltN, zI_leN, zN_lt, zF1, zF2, zF3, zF4, zF5, zF6, zF7, zF8, zU_lt, zG1, zG2, zG3, zG4, zG5, zG6, zU1, zU2, zU3, zU4, zN_0, zN_le0, zI_lt0, zI_0le, zI_pred, zI_pred', zI_predS, zI_predT, zJ_le, zJ_lt, zJ_leL, zJ_leR, y_cl0, y_0cl, y_cle, y_lec, y_ceq, n_lt, n_le, n_nlt, n_nle,  kc_45 hc, rc_45_0 hc, kc_46 hc, nc_46 hc, e, h3]
theorem cW_set (hc : cSh B S0) {p m i : Nat} {F : Nat → Nat} (h : cW B G p m S0 F S1) (hp : p < 32) (hi : i < 32) (v : Int32) : ∃ S2, f_X2_setByte (B + 45) (zI p) (zI i) v S1 = some S2 ∧ cW B G p m S0 (fun j => if j = 32 * p + i then v.toBitVec.toNat % 256 else F j) S2 := by
  refine ⟨_, x_setB (cW_c hc h) hp hi v, ?_⟩
  obtain ⟨h1, h2, h3, h4, h5, h6⟩ := h
  refine ⟨fS_wi h1 _ _ _ (at_fix (by decide) (by exact okcc)), ?_, fun j hj => ?_, ?_, fun r hr hne => ?_, fun a ha => ?_⟩
  · rw [y_x_wi, y_w_wi]; exact h2
  · dsimp only
    by_cases e : j = 32 * p + i
    · rw [if_pos e, y_i_wi, if_pos ⟨rfl, e⟩]; exact ⟨Nat.mod_lt _ (by decide), rfl⟩
    · rw [if_neg e, y_i_wi, if_neg (fun z => e z.2)]; exact h3 j hj
  · rw [y_i_wi, if_neg (by omega)]; exact h4
  · rw [y_i_wi, if_neg (by omega)]; exact h5 r hr hne
  · obtain ⟨g1, g2, g3⟩ := h6 a ha
    refine ⟨by rw [y_k_wi]; exact g1, by rw [y_n_wi]; exact g2, fun k => ?_⟩
    rw [y_i_wi, if_neg (by omega), y_l_wi, y_r_wi]
    exact g3 k
theorem cW_congr {p m : Nat} {F F' : Nat → Nat} (h : cW B G p m S0 F S1) (e : ∀ j, j < 1024 → F' j = F j) : cW B G p m S0 F' S1 := ⟨h.1, h.2.1, cB_congr e h.2.2.1, h.2.2.2⟩
theorem ov_step {F V : Nat → Nat} {p m : Nat} (hm : m < 32) : ∀ j, ov F p V (m + 1) j = if j = 32 * p + m then V m else ov F p V m j := by
  intro j
  unfold ov
  by_cases e : j = 32 * p + m
  · rw [if_pos e, if_pos (by omega), if_pos (by omega), show j - 32 * p = m by omega]
  · rw [if_neg e]
    by_cases c : 32 * p ≤ j ∧ j < 32 * p + 32
    · rw [if_pos c, if_pos c]
      by_cases c2 : j < 32 * p + m
      · rw [if_pos c2, if_pos (by omega)]
      · rw [if_neg c2, if_neg (by omega)]
    · rw [if_neg c, if_neg c]
theorem om_step {F V : Nat → Nat} {p m : Nat} : ∀ j, om F p V (m + 1) j = if j = 32 * p + m then V m else om F p V m j := by
  intro j
  unfold om
  by_cases e : j = 32 * p + m
  · rw [if_pos e, if_pos (by omega), show j - 32 * p = m by omega]
  · rw [if_neg e]
    by_cases c : 32 * p ≤ j ∧ j < 32 * p + m
    · rw [if_pos c, if_pos (by omega)]
    · rw [if_neg c, if_neg (by omega)]
theorem os_step {F X : Nat → Nat} {p m : Nat} : ∀ j, os F p X (m + 1) j = if j = 32 * p + (28 + m) then X m else os F p X m j := by
  intro j
  unfold os
  by_cases e : j = 32 * p + (28 + m)
  · rw [if_pos e, if_pos (by omega), show j - (32 * p + 28) = m by omega]
  · rw [if_neg e]
    by_cases c : 32 * p + 28 ≤ j ∧ j < 32 * p + 28 + m
    · rw [if_pos c, if_pos (by omega)]
    · rw [if_neg c, if_neg (by omega)]
def xB (s : Int32) (i : Nat) : Nat := s.toBitVec.toNat / 2 ^ (24 - 8 * i) % 256
theorem xB_of (s : Int32) {i : Nat} (hi : i < 4) : (s >>> (((24 : Int32) - (8 : Int32) * zI i) &&& 31)).toBitVec.toNat % 256 = xB s i := by
  unfold xB
  have h4 : i = 0 ∨ i = 1 ∨ i = 2 ∨ i = 3 := by omega
  rcases h4 with rfl | rfl | rfl | rfl
  · exact byte_of s (by decide) (by decide)
  · exact byte_of s (by decide) (by decide)
  · exact byte_of s (by decide) (by decide)
  · exact byte_of s (by decide) (by decide)
theorem l_wr4 (hc : cSh B S0) {p m : Nat} (hp : p < 32) {F1 : Nat → Nat} (s : Int32) (d : Nat) : ∀ N i S1, 4 - i = d → i ≤ 4 → d < N → cW B G p m S0 (os F1 p (xB s) i) S1 → ∃ S2 v, l_X2_write_98 N (B + 45) (zI p) s (zI i) S1 = some (z_wi S2 (B + 47) p v) ∧ cW B G p m S0 (os F1 p (xB s) 4) S2 ∧ noOk (os F1 p (xB s) 4) p v := by
  induction d with
  | zero =>
    intro N i S1 hd hi hN hw
    obtain ⟨N, rfl⟩ : ∃ n, N = n + 1 := ⟨N - 1, by omega⟩
    have : i = 4 := by omega
    subst this
    have hc1 := cW_c hc hw
    obtain ⟨v, v1, v2⟩ := x_look hc1 hw.2.2.1 hp
    refine ⟨S1, v, ?_, hw, v2⟩
    rw [l_X2_write_98]
    simp (disch := first | assumption | omega) only [y_i_wi, y_l_wi, y_d_wi, y_r_wi, y_k_wi, y_n_wi, y_x_wi, y_w_wi, y_s_wi, y_i_wl, y_l_wl, y_d_wl, y_r_wl, y_k_wl, y_n_wl, y_x_wl, y_w_wl, y_s_wl, y_i_wd, y_l_wd, y_d_wd, y_r_wd, y_k_wd, y_n_wd, y_x_wd, y_w_wd, y_s_wd, y_i_wr, y_l_wr, y_d_wr, y_r_wr, y_k_wr, y_n_wr, y_x_wr, y_w_wr, y_s_wr, y_i_new, y_l_new, y_d_new, y_r_new, y_k_new, y_n_new, y_x_new, y_w_new, y_s_new, y_i_ci, y_l_ci, y_d_ci, y_r_ci, y_k_ci, y_n_ci, y_x_ci, y_w_ci, y_s_ci, y_i_cl, y_l_cl, y_d_cl, y_r_cl, y_k_cl, y_n_cl, y_x_cl, y_w_cl, y_s_cl, y_i_qi, y_l_qi, y_d_qi, y_r_qi, y_k_qi, y_n_qi, y_x_qi, y_w_qi, y_s_qi, y_i_ql, y_l_ql, y_d_ql, y_r_ql, y_k_ql, y_n_ql, y_x_ql, y_w_ql, y_s_ql, y_i_qd, y_l_qd, y_d_qd, y_r_qd, y_k_qd, y_n_qd, y_x_qd, y_w_qd, y_s_qd, ↓reduceIte, ↓y_tb, ↓y_tv, ↓y_tr, ↓y_tn, ↓y_ck, ↓y_ib, ↓y_nz2, ↓y_nzl2, ↓y_len2, ↓y_nn2, ↓y_nf2, ↓y_l2d2, y_gb, y_gn, y_gi, y_gv, y_gv', y_grN, y_grS, y_glN, y_glS, Nat.reduceAdd, Nat.reduceMul, Nat.reduceSub, Nat.reduceDiv, Nat.reduceMod, Nat.reduceLT, Nat.reduceLeDiff, y_rb0, y_rb1, y_b0, y_b0', y_10, zL_eq, zL_cl, Nat.add_sub_cancel, implies_true, Int32.reduceLT, Int32.reduceLE, if_true, if_false, true_and, and_true, false_and, and_false, true_or, or_true, false_or, or_false, not_true_eq_false, not_false_eq_true, ne_eq, and_self, or_self, reduceCtorEq, Nat.add_left_cancel_iff, Nat.left_eq_add, Nat.add_eq_left, Nat.reduceEqDiff, zI_of, zI_cl, zI_add, zI_mul, zI_lt, zI_le, zI_eq, zI_mulL, zI_mulR, zI_addL, zI_addR, zI_subR, zI_sub, zI_divR, zI_ltR, zI_ltL, zI_leR, zI_leL, zI_eqR, zI_eqL, zI_neN, zI_neN', zI_ltN, zI_leN, zN_lt, zF1, zF2, zF3, zF4, zF5, zF6, zF7, zF8, zU_lt, zG1, zG2, zG3, zG4, zG5, zG6, zU1, zU2, zU3, zU4, zN_0, zN_le0, zI_lt0, zI_0le, zI_pred, zI_pred', zI_predS, zI_predT, zJ_le, zJ_lt, zJ_leL, zJ_leR, y_cl0, y_0cl, y_cle, y_lec, y_ceq, n_lt, n_le, n_nlt, n_nle,  kc_45 hc1, v1]
  | succ d ih =>
    intro N i S1 hd hi hN hw
    obtain ⟨N, rfl⟩ : ∃ n, N = n + 1 := ⟨N - 1, by omega⟩
    have hc1 := cW_c hc hw
    obtain ⟨S2, s1, s2⟩ := cW_set hc hw hp (show 28 + i < 32 by omega) (s >>> (((24 : Int32) - (8 : Int32) * zI i) &&& 31))
    rw [xB_of s (show i < 4 by omega)] at s2
    obtain ⟨S3, v, v1, v2, v3⟩ := ih N (i + 1) S2 (by omega) (by omega) (by omega) (cW_congr s2 (fun j _ => os_step j))
    refine ⟨S3, v, Eq.trans ?_ v1, v2, v3⟩
    have a28 : (28 : Int32) + zI i = zI (28 + i) := zI_add 28 i
    have nl : ¬ (4 : Int32) ≤ zI i := by
      have : ((4 : Int32) ≤ zI i) = (4 ≤ i) := zI_le (a := 4) (by omega) (by omega)
      rw [this]; omega
    rw [l_X2_write_98]
    dsimp only
    rw [if_neg nl, a28, s1, zI_addR]
    simp only [y_ck, kc_45 hc1, if_true]
    rfl
theorem l_wrC (hc : cSh B S0) {p m a c n k : Nat} {W : Nat → Int64} {V F : Nat → Nat} (hp : p < 32) (ha : B + 112 ≤ a) (hcc : B + 112 ≤ c) (a3 : z_k S0 a = 9) (a4 : z_r S0 a 1 = some c) (a5 : z_k S0 c = 102) (a6 : z_i S0 a 0 = zI k) (a8 : z_n S0 c = n) (hn : n ≤ 24) (hw : ∀ j S', f_X8_wholeOfCell (zI k) (z_l S0 c j) S' = some (W j, S')) (hV : ∀ i, i < n → V (3 + i) = (W i).toBitVec.toNat % 256) (hV0 : ∀ i, 3 + n ≤ i → V i = 0) (d : Nat) : ∀ N i S1, n - i = d → i ≤ n → d < N → cW B G p m S0 (ov F p V (3 + i)) S1 → ∃ S2 v, l_X2_write_60 N (B + 45) a (zI p) (zI i) S1 = some (z_wi S2 (B + 47) p v) ∧ cW B G p m S0 (os (ov F p V 32) p (xB (bkSum (fun k => ov F p V 32 (32 * p + k)) 28)) 4) S2 ∧ noOk (os (ov F p V 32) p (xB (bkSum (fun k => ov F p V 32 (32 * p + k)) 28)) 4) p v := by
  induction d with
  | zero =>
    intro N i S1 hd hi hN hw1
    obtain ⟨N, rfl⟩ : ∃ n, N = n + 1 := ⟨N - 1, by omega⟩
    have : i = n := by omega
    subst this
    have hc1 := cW_c hc hw1
    obtain ⟨g1, g2, g3⟩ := hw1.2.2.2.2.2 a ha
    obtain ⟨e1, e2, e3⟩ := hw1.2.2.2.2.2 c hcc
    have w2 : cW B G p m S0 (ov F p V 32) S1 := cW_congr hw1 (fun j _ => by
      unfold ov
      by_cases q : 32 * p ≤ j ∧ j < 32 * p + 32
      · rw [if_pos q, if_pos q, if_pos (by omega)]
        by_cases q2 : j < 32 * p + (3 + i)
        · rw [if_pos q2]
        · rw [if_neg q2, hV0 _ (by omega)]
      · rw [if_neg q, if_neg q])
    have xs := x_sumC hc1 w2.2.2.1 hp 28 z_N 0 (by omega) (by omega) (by rw [z_N_eq]; omega)
    have xs' : f_X2_sumOf (B + 45) (zI p) S1 = some (bkSum (fun k => ov F p V 32 (32 * p + k)) 28, S1) := by rw [e_X2_sumOf]; exact xs
    clear xs
    obtain ⟨s, hs⟩ : ∃ s, bkSum (fun k => ov F p V 32 (32 * p + k)) 28 = s := ⟨_, rfl⟩
    rw [hs] at xs' ⊢
    obtain ⟨S2, v, v1, v2, v3⟩ := l_wr4 hc hp s 4 z_N 0 S1 (by omega) (by omega) (by rw [z_N_eq]; omega) (cW_congr w2 (fun j _ => by unfold os; rw [if_neg (by omega)]))
    refine ⟨S2, v, Eq.trans ?_ v1, v2, v3⟩
    have f4 : z_r S1 a 1 = some c := by rw [(g3 1).2.2]; exact a4
    have f8 : z_n S1 c = i := by rw [e2]; exact a8
    have f5 : z_k S1 c = 102 := by rw [e1]; exact a5
    have f3 : z_k S1 a = 9 := by rw [g1]; exact a3
    rw [l_X2_write_60]
    simp (disch := first | assumption | omega) only [y_i_wi, y_l_wi, y_d_wi, y_r_wi, y_k_wi, y_n_wi, y_x_wi, y_w_wi, y_s_wi, y_i_wl, y_l_wl, y_d_wl, y_r_wl, y_k_wl, y_n_wl, y_x_wl, y_w_wl, y_s_wl, y_i_wd, y_l_wd, y_d_wd, y_r_wd, y_k_wd, y_n_wd, y_x_wd, y_w_wd, y_s_wd, y_i_wr, y_l_wr, y_d_wr, y_r_wr, y_k_wr, y_n_wr, y_x_wr, y_w_wr, y_s_wr, y_i_new, y_l_new, y_d_new, y_r_new, y_k_new, y_n_new, y_x_new, y_w_new, y_s_new, y_i_ci, y_l_ci, y_d_ci, y_r_ci, y_k_ci, y_n_ci, y_x_ci, y_w_ci, y_s_ci, y_i_cl, y_l_cl, y_d_cl, y_r_cl, y_k_cl, y_n_cl, y_x_cl, y_w_cl, y_s_cl, y_i_qi, y_l_qi, y_d_qi, y_r_qi, y_k_qi, y_n_qi, y_x_qi, y_w_qi, y_s_qi, y_i_ql, y_l_ql, y_d_ql, y_r_ql, y_k_ql, y_n_ql, y_x_ql, y_w_ql, y_s_ql, y_i_qd, y_l_qd, y_d_qd, y_r_qd, y_k_qd, y_n_qd, y_x_qd, y_w_qd, y_s_qd, ↓reduceIte, ↓y_tb, ↓y_tv, ↓y_tr, ↓y_tn, ↓y_ck, ↓y_ib, ↓y_nz2, ↓y_nzl2, ↓y_len2, ↓y_nn2, ↓y_nf2, ↓y_l2d2, y_gb, y_gn, y_gi, y_gv, y_gv', y_grN, y_grS, y_glN, y_glS, Nat.reduceAdd, Nat.reduceMul, Nat.reduceSub, Nat.reduceDiv, Nat.reduceMod, Nat.reduceLT, Nat.reduceLeDiff, y_rb0, y_rb1, y_b0, y_b0', y_10, zL_eq, zL_cl, Nat.add_sub_cancel, implies_true, Int32.reduceLT, Int32.reduceLE, if_true, if_false, true_and, and_true, false_and, and_false, true_or, or_true, false_or, or_false, not_true_eq_false, not_false_eq_true, ne_eq, and_self, or_self, reduceCtorEq, Nat.add_left_cancel_iff, Nat.left_eq_add, Nat.add_eq_left, Nat.reduceEqDiff, zI_of, zI_cl, zI_add, zI_mul, zI_lt, zI_le, zI_eq, zI_mulL, zI_mulR, zI_addL, zI_addR, zI_subR, zI_sub, zI_divR, zI_ltR, zI_ltL, zI_leR, zI_leL, zI_eqR, zI_eqL, zI_neN, zI_neN', zI_ltN, zI_leN, zN_lt, zF1, zF2, zF3, zF4, zF5, zF6, zF7, zF8, zU_lt, zG1, zG2, zG3, zG4, zG5, zG6, zU1, zU2, zU3, zU4, zN_0, zN_le0, zI_lt0, zI_0le, zI_pred, zI_pred', zI_predS, zI_predT, zJ_le, zJ_lt, zJ_leL, zJ_leR, y_cl0, y_0cl, y_cle, y_lec, y_ceq, n_lt, n_le, n_nlt, n_nle,  kc_45 hc1, f3, f4, f5, f8, xs']
    rfl
  | succ d ih =>
    intro N i S1 hd hi hN hw1
    obtain ⟨N, rfl⟩ : ∃ n, N = n + 1 := ⟨N - 1, by omega⟩
    have hc1 := cW_c hc hw1
    obtain ⟨g1, g2, g3⟩ := hw1.2.2.2.2.2 a ha
    obtain ⟨e1, e2, e3⟩ := hw1.2.2.2.2.2 c hcc
    have f4 : z_r S1 a 1 = some c := by rw [(g3 1).2.2]; exact a4
    have f8 : z_n S1 c = n := by rw [e2]; exact a8
    have f5 : z_k S1 c = 102 := by rw [e1]; exact a5
    have f3 : z_k S1 a = 9 := by rw [g1]; exact a3
    have f6 : z_i S1 a 0 = zI k := by rw [(g3 0).1]; exact a6
    have hx := x_wholeAt f3 f4 f5 f6 f8 (by omega) (show i < n by omega) (w := W i) (fun S' => by rw [(e3 i).2.1]; exact hw i S')
    obtain ⟨S2, s1, s2⟩ := cW_set hc hw1 hp (show 3 + i < 32 by omega) (W i).toInt32
    rw [low8L, ← hV i (by omega)] at s2
    obtain ⟨S3, v, v1, v2, v3⟩ := ih N (i + 1) S2 (by omega) (by omega) (by omega) (cW_congr s2 (fun j _ => ov_step (m := 3 + i) (by omega) j))
    refine ⟨S3, v, Eq.trans ?_ v1, v2, v3⟩
    have ni : ¬ n ≤ i := by omega
    rw [l_X2_write_60]
    simp (disch := first | assumption | omega) only [y_i_wi, y_l_wi, y_d_wi, y_r_wi, y_k_wi, y_n_wi, y_x_wi, y_w_wi, y_s_wi, y_i_wl, y_l_wl, y_d_wl, y_r_wl, y_k_wl, y_n_wl, y_x_wl, y_w_wl, y_s_wl, y_i_wd, y_l_wd, y_d_wd, y_r_wd, y_k_wd, y_n_wd, y_x_wd, y_w_wd, y_s_wd, y_i_wr, y_l_wr, y_d_wr, y_r_wr, y_k_wr, y_n_wr, y_x_wr, y_w_wr, y_s_wr, y_i_new, y_l_new, y_d_new, y_r_new, y_k_new, y_n_new, y_x_new, y_w_new, y_s_new, y_i_ci, y_l_ci, y_d_ci, y_r_ci, y_k_ci, y_n_ci, y_x_ci, y_w_ci, y_s_ci, y_i_cl, y_l_cl, y_d_cl, y_r_cl, y_k_cl, y_n_cl, y_x_cl, y_w_cl, y_s_cl, y_i_qi, y_l_qi, y_d_qi, y_r_qi, y_k_qi, y_n_qi, y_x_qi, y_w_qi, y_s_qi, y_i_ql, y_l_ql, y_d_ql, y_r_ql, y_k_ql, y_n_ql, y_x_ql, y_w_ql, y_s_ql, y_i_qd, y_l_qd, y_d_qd, y_r_qd, y_k_qd, y_n_qd, y_x_qd, y_w_qd, y_s_qd, ↓reduceIte, ↓y_tb, ↓y_tv, ↓y_tr, ↓y_tn, ↓y_ck, ↓y_ib, ↓y_nz2, ↓y_nzl2, ↓y_len2, ↓y_nn2, ↓y_nf2, ↓y_l2d2, y_gb, y_gn, y_gi, y_gv, y_gv', y_grN, y_grS, y_glN, y_glS, Nat.reduceAdd, Nat.reduceMul, Nat.reduceSub, Nat.reduceDiv, Nat.reduceMod, Nat.reduceLT, Nat.reduceLeDiff, y_rb0, y_rb1, y_b0, y_b0', y_10, zL_eq, zL_cl, Nat.add_sub_cancel, implies_true, Int32.reduceLT, Int32.reduceLE, if_true, if_false, true_and, and_true, false_and, and_false, true_or, or_true, false_or, or_false, not_true_eq_false, not_false_eq_true, ne_eq, and_self, or_self, reduceCtorEq, Nat.add_left_cancel_iff, Nat.left_eq_add, Nat.add_eq_left, Nat.reduceEqDiff, zI_of, zI_cl, zI_add, zI_mul, zI_lt, zI_le, zI_eq, zI_mulL, zI_mulR, zI_addL, zI_addR, zI_subR, zI_sub, zI_divR, zI_ltR, zI_ltL, zI_leR, zI_leL, zI_eqR, zI_eqL, zI_neN, zI_neN', zI_ltN, zI_leN, zN_lt, zF1, zF2, zF3, zF4, zF5, zF6, zF7, zF8, zU_lt, zG1, zG2, zG3, zG4, zG5, zG6, zU1, zU2, zU3, zU4, zN_0, zN_le0, zI_lt0, zI_0le, zI_pred, zI_pred', zI_predS, zI_predT, zJ_le, zJ_lt, zJ_leL, zJ_leR, y_cl0, y_0cl, y_cle, y_lec, y_ceq, n_lt, n_le, n_nlt, n_nle,  kc_45 hc1, f3, f4, f5, f8, ni, hx, s1]
/-- the model while it writes page p -/
def mW (B : Nat) (m : Nat) (T0 : z_St) (F : Nat → Nat) (T1 : z_St) : Prop :=
  fT B (c1 12) T0 T1 ∧ mB B F T1 ∧ z_i T1 (B + 48) 99 = zI m ∧ (z_i T1 (B + 48) 1 = z_i T0 (B + 48) 1 ∧ z_i T1 (B + 48) 2 = z_i T0 (B + 48) 2) ∧ ∀ a, a ≠ B + 111 → a ≠ B + 48 → ∀ k, z_i T1 a k = z_i T0 a k ∧ z_l T1 a k = z_l T0 a k
theorem mW_set {p m i b : Nat} {F : Nat → Nat} (h : mW B m T0 F T1) (hb : b < 256) : mW B m T0 (fun j => if j = 32 * p + i then b else F j) (z_wi T1 (B + 111) (32 * p + i) (zI b)) := by
  obtain ⟨h1, h2, h3, h4, h5⟩ := h
  refine ⟨fT_wi h1 _ _ _ (cm_at (by exact okcc)), fun j hj => ?_, ?_, ?_, fun a ha hb k => ?_⟩
  · dsimp only
    by_cases e : j = 32 * p + i
    · rw [if_pos e, y_i_wi, if_pos ⟨rfl, e⟩]; exact ⟨hb, rfl⟩
    · rw [if_neg e, y_i_wi, if_neg (fun z => e z.2)]; exact h2 j hj
  · rw [y_i_wi, if_neg (by omega)]; exact h3
  · rw [y_i_wi, if_neg (by omega), y_i_wi, if_neg (by omega)]; exact h4
  · rw [y_i_wi, if_neg (fun z => ha z.1), y_l_wi]; exact h5 a ha hb k
theorem mW_congr {m : Nat} {F F' : Nat → Nat} (h : mW B m T0 F T1) (e : ∀ j, j < 1024 → F' j = F j) : mW B m T0 F' T1 := ⟨h.1, mB_congr e h.2.1, h.2.2⟩
theorem mW_m (hm : mSh B T0) {m : Nat} {F : Nat → Nat} (h : mW B m T0 F T1) : mSh B T1 := mSh_up hm h.1.1
theorem l_mb4 (hm : mSh B T0) {p m : Nat} (hp : p < 32) {F1 : Nat → Nat} (s : Int32) (d : Nat) : ∀ N i T1, 4 - i = d → i ≤ 4 → d < N → mW B m T0 (os F1 p (xB s) i) T1 → ∃ T2, l_X12_book_204 N (B + 48) (zI p) s (zI i) T1 = some (zI m, T2) ∧ mW B m T0 (os F1 p (xB s) 4) T2 := by
  induction d with
  | zero =>
    intro N i T1 hd hi hN hw
    obtain ⟨N, rfl⟩ : ∃ n, N = n + 1 := ⟨N - 1, by omega⟩
    have : i = 4 := by omega
    subst this
    have hm1 := mW_m hm hw
    refine ⟨T1, ?_, hw⟩
    have h99 := hw.2.2.1
    rw [l_X12_book_204]
    simp (disch := first | assumption | omega) only [y_i_wi, y_l_wi, y_d_wi, y_r_wi, y_k_wi, y_n_wi, y_x_wi, y_w_wi, y_s_wi, y_i_wl, y_l_wl, y_d_wl, y_r_wl, y_k_wl, y_n_wl, y_x_wl, y_w_wl, y_s_wl, y_i_wd, y_l_wd, y_d_wd, y_r_wd, y_k_wd, y_n_wd, y_x_wd, y_w_wd, y_s_wd, y_i_wr, y_l_wr, y_d_wr, y_r_wr, y_k_wr, y_n_wr, y_x_wr, y_w_wr, y_s_wr, y_i_new, y_l_new, y_d_new, y_r_new, y_k_new, y_n_new, y_x_new, y_w_new, y_s_new, y_i_ci, y_l_ci, y_d_ci, y_r_ci, y_k_ci, y_n_ci, y_x_ci, y_w_ci, y_s_ci, y_i_cl, y_l_cl, y_d_cl, y_r_cl, y_k_cl, y_n_cl, y_x_cl, y_w_cl, y_s_cl, y_i_qi, y_l_qi, y_d_qi, y_r_qi, y_k_qi, y_n_qi, y_x_qi, y_w_qi, y_s_qi, y_i_ql, y_l_ql, y_d_ql, y_r_ql, y_k_ql, y_n_ql, y_x_ql, y_w_ql, y_s_ql, y_i_qd, y_l_qd, y_d_qd, y_r_qd, y_k_qd, y_n_qd, y_x_qd, y_w_qd, y_s_qd, ↓reduceIte, ↓y_tb, ↓y_tv, ↓y_tr, ↓y_tn, ↓y_ck, ↓y_ib, ↓y_nz2, ↓y_nzl2, ↓y_len2, ↓y_nn2, ↓y_nf2, ↓y_l2d2, y_gb, y_gn, y_gi, y_gv, y_gv', y_grN, y_grS, y_glN, y_glS, Nat.reduceAdd, Nat.reduceMul, Nat.reduceSub, Nat.reduceDiv, Nat.reduceMod, Nat.reduceLT, Nat.reduceLeDiff, y_rb0, y_rb1, y_b0, y_b0', y_10, zL_eq, zL_cl, Nat.add_sub_cancel, implies_true, Int32.reduceLT, Int32.reduceLE, if_true, if_false, true_and, and_true, false_and, and_false, true_or, or_true, false_or, or_false, not_true_eq_false, not_false_eq_true, ne_eq, and_self, or_self, reduceCtorEq, Nat.add_left_cancel_iff, Nat.left_eq_add, Nat.add_eq_left, Nat.reduceEqDiff, zI_of, zI_cl, zI_add, zI_mul, zI_lt, zI_le, zI_eq, zI_mulL, zI_mulR, zI_addL, zI_addR, zI_subR, zI_sub, zI_divR, zI_ltR, zI_ltL, zI_leR, zI_leL, zI_eqR, zI_eqL, zI_neN, zI_neN', zI_ltN, zI_leN, zN_lt, zF1, zF2, zF3, zF4, zF5, zF6, zF7, zF8, zU_lt, zG1, zG2, zG3, zG4, zG5, zG6, zU1, zU2, zU3, zU4, zN_0, zN_le0, zI_lt0, zI_0le, zI_pred, zI_pred', zI_predS, zI_predT, zJ_le, zJ_lt, zJ_leL, zJ_leR, y_cl0, y_0cl, y_cle, y_lec, y_ceq, n_lt, n_le, n_nlt, n_nle,  km_48 hm1, h99]
  | succ d ih =>
    intro N i T1 hd hi hN hw
    obtain ⟨N, rfl⟩ : ∃ n, N = n + 1 := ⟨N - 1, by omega⟩
    have hm1 := mW_m hm hw
    have s2 := mW_set (p := p) (i := 28 + i) hw (show xB s i < 256 from Nat.mod_lt _ (by decide))
    obtain ⟨T2, t1, t2⟩ := ih N (i + 1) _ (by omega) (by omega) (by omega) (mW_congr s2 (fun j _ => os_step j))
    refine ⟨T2, Eq.trans ?_ t1, t2⟩
    have hby : ((s >>> (((24 : Int32) - (8 : Int32) * zI i) &&& 31)) &&& 255) = zI (xB s i) := by
      rw [and255, xB_of s (show i < 4 by omega)]
    have ei : 32 * p + 28 + i = 32 * p + (28 + i) := by omega
    simp only [l_X12_book_204]
    rw [hby]
    simp (disch := first | assumption | omega) only [y_i_wi, y_l_wi, y_d_wi, y_r_wi, y_k_wi, y_n_wi, y_x_wi, y_w_wi, y_s_wi, y_i_wl, y_l_wl, y_d_wl, y_r_wl, y_k_wl, y_n_wl, y_x_wl, y_w_wl, y_s_wl, y_i_wd, y_l_wd, y_d_wd, y_r_wd, y_k_wd, y_n_wd, y_x_wd, y_w_wd, y_s_wd, y_i_wr, y_l_wr, y_d_wr, y_r_wr, y_k_wr, y_n_wr, y_x_wr, y_w_wr, y_s_wr, y_i_new, y_l_new, y_d_new, y_r_new, y_k_new, y_n_new, y_x_new, y_w_new, y_s_new, y_i_ci, y_l_ci, y_d_ci, y_r_ci, y_k_ci, y_n_ci, y_x_ci, y_w_ci, y_s_ci, y_i_cl, y_l_cl, y_d_cl, y_r_cl, y_k_cl, y_n_cl, y_x_cl, y_w_cl, y_s_cl, y_i_qi, y_l_qi, y_d_qi, y_r_qi, y_k_qi, y_n_qi, y_x_qi, y_w_qi, y_s_qi, y_i_ql, y_l_ql, y_d_ql, y_r_ql, y_k_ql, y_n_ql, y_x_ql, y_w_ql, y_s_ql, y_i_qd, y_l_qd, y_d_qd, y_r_qd, y_k_qd, y_n_qd, y_x_qd, y_w_qd, y_s_qd, ↓reduceIte, ↓y_tb, ↓y_tv, ↓y_tr, ↓y_tn, ↓y_ck, ↓y_ib, ↓y_nz2, ↓y_nzl2, ↓y_len2, ↓y_nn2, ↓y_nf2, ↓y_l2d2, y_gb, y_gn, y_gi, y_gv, y_gv', y_grN, y_grS, y_glN, y_glS, Nat.reduceAdd, Nat.reduceMul, Nat.reduceSub, Nat.reduceDiv, Nat.reduceMod, Nat.reduceLT, Nat.reduceLeDiff, y_rb0, y_rb1, y_b0, y_b0', y_10, zL_eq, zL_cl, Nat.add_sub_cancel, implies_true, Int32.reduceLT, Int32.reduceLE, if_true, if_false, true_and, and_true, false_and, and_false, true_or, or_true, false_or, or_false, not_true_eq_false, not_false_eq_true, ne_eq, and_self, or_self, reduceCtorEq, Nat.add_left_cancel_iff, Nat.left_eq_add, Nat.add_eq_left, Nat.reduceEqDiff, zI_of, zI_cl, zI_add, zI_mul, zI_lt, zI_le, zI_eq, zI_mulL, zI_mulR, zI_addL, zI_addR, zI_subR, zI_sub, zI_divR, zI_ltR, zI_ltL, zI_leR, zI_leL, zI_eqR, zI_eqL, zI_neN, zI_neN', zI_ltN, zI_leN, zN_lt, zF1, zF2, zF3, zF4, zF5, zF6, zF7, zF8, zU_lt, zG1, zG2, zG3, zG4, zG5, zG6, zU1, zU2, zU3, zU4, zN_0, zN_le0, zI_lt0, zI_0le, zI_pred, zI_pred', zI_predS, zI_predT, zJ_le, zJ_lt, zJ_leL, zJ_leR, y_cl0, y_0cl, y_cle, y_lec, y_ceq, n_lt, n_le, n_nlt, n_nle,  km_48 hm1, rm_48_98 hm1, km_111 hm1, nm_111 hm1, ei]
theorem l_mbk (hm : mSh B T0) {p m q n k : Nat} {W : Nat → Int64} {V F : Nat → Nat} (hp : p < 32) (hq : q < 40) (hmm : m < 65536) (e1 : z_i T0 (B + 50) q = zI n) (e2 : z_i T0 (B + 49) q = zI k) (hn : n ≤ 24) (hw : ∀ j, j < n → ∀ T', f_X12_wholeOf (zI k) (z_l T0 (B + 51) (64 * q + j)) T' = some (W j, T')) (v0 : V 0 = m / 256) (v1 : V 1 = m % 256) (v2 : V 2 = n) (hV : ∀ i, i < n → V (3 + i) = (W i).toBitVec.toNat % 256) (hV0 : ∀ i, 3 + n ≤ i → V i = 0) (d : Nat) : ∀ N i T1, 32 - i = d → i ≤ 32 → d < N → mW B m T0 (om F p V i) T1 → ∃ T2, l_X12_book_81 N (B + 48) (zI q) (zI p) (zI i) T1 = some (zI m, T2) ∧ mW B m T0 (os (ov F p V 32) p (xB (bkSum (fun k => ov F p V 32 (32 * p + k)) 28)) 4) T2 := by
  induction d with
  | zero =>
    intro N i T1 hd hi hN hw1
    obtain ⟨N, rfl⟩ : ∃ n, N = n + 1 := ⟨N - 1, by omega⟩
    have : i = 32 := by omega
    subst this
    have hm1 := mW_m hm hw1
    have w2 : mW B m T0 (ov F p V 32) T1 := mW_congr hw1 (fun j _ => by
      unfold ov om
      by_cases q : 32 * p ≤ j ∧ j < 32 * p + 32
      · rw [if_pos q, if_pos q, if_pos (by omega)]
      · rw [if_neg q, if_neg q])
    have xs := x_sumM hm1 w2.2.1 hp 28 z_N 0 (by omega) (by omega) (by rw [z_N_eq]; omega)
    have xs' : f_X12_sumOf (B + 48) (zI p) T1 = some (bkSum (fun k => ov F p V 32 (32 * p + k)) 28, T1) := by rw [e_X12_sumOf]; exact xs
    clear xs
    obtain ⟨s, hs⟩ : ∃ s, bkSum (fun k => ov F p V 32 (32 * p + k)) 28 = s := ⟨_, rfl⟩
    rw [hs] at xs' ⊢
    obtain ⟨T2, t1, t2⟩ := l_mb4 hm hp s 4 z_N 0 T1 (by omega) (by omega) (by rw [z_N_eq]; omega) (mW_congr w2 (fun j _ => by unfold os; rw [if_neg (by omega)]))
    refine ⟨T2, Eq.trans ?_ t1, t2⟩
    rw [l_X12_book_81]
    simp (disch := first | assumption | omega) only [y_i_wi, y_l_wi, y_d_wi, y_r_wi, y_k_wi, y_n_wi, y_x_wi, y_w_wi, y_s_wi, y_i_wl, y_l_wl, y_d_wl, y_r_wl, y_k_wl, y_n_wl, y_x_wl, y_w_wl, y_s_wl, y_i_wd, y_l_wd, y_d_wd, y_r_wd, y_k_wd, y_n_wd, y_x_wd, y_w_wd, y_s_wd, y_i_wr, y_l_wr, y_d_wr, y_r_wr, y_k_wr, y_n_wr, y_x_wr, y_w_wr, y_s_wr, y_i_new, y_l_new, y_d_new, y_r_new, y_k_new, y_n_new, y_x_new, y_w_new, y_s_new, y_i_ci, y_l_ci, y_d_ci, y_r_ci, y_k_ci, y_n_ci, y_x_ci, y_w_ci, y_s_ci, y_i_cl, y_l_cl, y_d_cl, y_r_cl, y_k_cl, y_n_cl, y_x_cl, y_w_cl, y_s_cl, y_i_qi, y_l_qi, y_d_qi, y_r_qi, y_k_qi, y_n_qi, y_x_qi, y_w_qi, y_s_qi, y_i_ql, y_l_ql, y_d_ql, y_r_ql, y_k_ql, y_n_ql, y_x_ql, y_w_ql, y_s_ql, y_i_qd, y_l_qd, y_d_qd, y_r_qd, y_k_qd, y_n_qd, y_x_qd, y_w_qd, y_s_qd, ↓reduceIte, ↓y_tb, ↓y_tv, ↓y_tr, ↓y_tn, ↓y_ck, ↓y_ib, ↓y_nz2, ↓y_nzl2, ↓y_len2, ↓y_nn2, ↓y_nf2, ↓y_l2d2, y_gb, y_gn, y_gi, y_gv, y_gv', y_grN, y_grS, y_glN, y_glS, Nat.reduceAdd, Nat.reduceMul, Nat.reduceSub, Nat.reduceDiv, Nat.reduceMod, Nat.reduceLT, Nat.reduceLeDiff, y_rb0, y_rb1, y_b0, y_b0', y_10, zL_eq, zL_cl, Nat.add_sub_cancel, implies_true, Int32.reduceLT, Int32.reduceLE, if_true, if_false, true_and, and_true, false_and, and_false, true_or, or_true, false_or, or_false, not_true_eq_false, not_false_eq_true, ne_eq, and_self, or_self, reduceCtorEq, Nat.add_left_cancel_iff, Nat.left_eq_add, Nat.add_eq_left, Nat.reduceEqDiff, zI_of, zI_cl, zI_add, zI_mul, zI_lt, zI_le, zI_eq, zI_mulL, zI_mulR, zI_addL, zI_addR, zI_subR, zI_sub, zI_divR, zI_ltR, zI_ltL, zI_leR, zI_leL, zI_eqR, zI_eqL, zI_neN, zI_neN', zI_ltN, zI_leN, zN_lt, zF1, zF2, zF3, zF4, zF5, zF6, zF7, zF8, zU_lt, zG1, zG2, zG3, zG4, zG5, zG6, zU1, zU2, zU3, zU4, zN_0, zN_le0, zI_lt0, zI_0le, zI_pred, zI_pred', zI_predS, zI_predT, zJ_le, zJ_lt, zJ_leL, zJ_leR, y_cl0, y_0cl, y_cle, y_lec, y_ceq, n_lt, n_le, n_nlt, n_nle,  km_48 hm1, xs']
    rfl
  | succ d ih =>
    intro N i T1 hd hi hN hw1
    obtain ⟨N, rfl⟩ : ∃ n, N = n + 1 := ⟨N - 1, by omega⟩
    have hm1 := mW_m hm hw1
    obtain ⟨h1, h2, h3, h4, h5⟩ := id hw1
    have hb : V i < 256 := by
      by_cases c0 : i = 0
      · rw [c0, v0]; omega
      by_cases c1 : i = 1
      · rw [c1, v1]; omega
      by_cases c2 : i = 2
      · rw [c2, v2]; omega
      by_cases c3 : 3 + n ≤ i
      · rw [hV0 i c3]; omega
      · have := hV (i - 3) (by omega)
        rw [show 3 + (i - 3) = i by omega] at this
        rw [this]; exact Nat.mod_lt _ (by decide)
    have s2 := mW_set (p := p) (i := i) hw1 hb
    obtain ⟨T2, t1, t2⟩ := ih N (i + 1) _ (by omega) (by omega) (by omega) (mW_congr s2 (fun j _ => om_step j))
    refine ⟨T2, Eq.trans ?_ t1, t2⟩
    have ni : ¬ 32 ≤ i := by omega
    have l50 := (h5 (B + 50) (by omega) (by omega) q).1
    rw [e1] at l50
    have l49 := (h5 (B + 49) (by omega) (by omega) q).1
    rw [e2] at l49
    rw [l_X12_book_81]
    by_cases c0 : i = 0
    · subst c0
      have hv : zI m >>> ((8 : Int32) &&& 31) = zI (V 0) := by rw [zI_shr8 (by omega), v0]
      simp (disch := first | assumption | omega) only [y_i_wi, y_l_wi, y_d_wi, y_r_wi, y_k_wi, y_n_wi, y_x_wi, y_w_wi, y_s_wi, y_i_wl, y_l_wl, y_d_wl, y_r_wl, y_k_wl, y_n_wl, y_x_wl, y_w_wl, y_s_wl, y_i_wd, y_l_wd, y_d_wd, y_r_wd, y_k_wd, y_n_wd, y_x_wd, y_w_wd, y_s_wd, y_i_wr, y_l_wr, y_d_wr, y_r_wr, y_k_wr, y_n_wr, y_x_wr, y_w_wr, y_s_wr, y_i_new, y_l_new, y_d_new, y_r_new, y_k_new, y_n_new, y_x_new, y_w_new, y_s_new, y_i_ci, y_l_ci, y_d_ci, y_r_ci, y_k_ci, y_n_ci, y_x_ci, y_w_ci, y_s_ci, y_i_cl, y_l_cl, y_d_cl, y_r_cl, y_k_cl, y_n_cl, y_x_cl, y_w_cl, y_s_cl, y_i_qi, y_l_qi, y_d_qi, y_r_qi, y_k_qi, y_n_qi, y_x_qi, y_w_qi, y_s_qi, y_i_ql, y_l_ql, y_d_ql, y_r_ql, y_k_ql, y_n_ql, y_x_ql, y_w_ql, y_s_ql, y_i_qd, y_l_qd, y_d_qd, y_r_qd, y_k_qd, y_n_qd, y_x_qd, y_w_qd, y_s_qd, ↓reduceIte, ↓y_tb, ↓y_tv, ↓y_tr, ↓y_tn, ↓y_ck, ↓y_ib, ↓y_nz2, ↓y_nzl2, ↓y_len2, ↓y_nn2, ↓y_nf2, ↓y_l2d2, y_gb, y_gn, y_gi, y_gv, y_gv', y_grN, y_grS, y_glN, y_glS, Nat.reduceAdd, Nat.reduceMul, Nat.reduceSub, Nat.reduceDiv, Nat.reduceMod, Nat.reduceLT, Nat.reduceLeDiff, y_rb0, y_rb1, y_b0, y_b0', y_10, zL_eq, zL_cl, Nat.add_sub_cancel, implies_true, Int32.reduceLT, Int32.reduceLE, if_true, if_false, true_and, and_true, false_and, and_false, true_or, or_true, false_or, or_false, not_true_eq_false, not_false_eq_true, ne_eq, and_self, or_self, reduceCtorEq, Nat.add_left_cancel_iff, Nat.left_eq_add, Nat.add_eq_left, Nat.reduceEqDiff, zI_of, zI_cl, zI_add, zI_mul, zI_lt, zI_le, zI_eq, zI_mulL, zI_mulR, zI_addL, zI_addR, zI_subR, zI_sub, zI_divR, zI_ltR, zI_ltL, zI_leR, zI_leL, zI_eqR, zI_eqL, zI_neN, zI_neN', zI_ltN, zI_leN, zN_lt, zF1, zF2, zF3, zF4, zF5, zF6, zF7, zF8, zU_lt, zG1, zG2, zG3, zG4, zG5, zG6, zU1, zU2, zU3, zU4, zN_0, zN_le0, zI_lt0, zI_0le, zI_pred, zI_pred', zI_predS, zI_predT, zJ_le, zJ_lt, zJ_leL, zJ_leR, y_cl0, y_0cl, y_cle, y_lec, y_ceq, n_lt, n_le, n_nlt, n_nle,  j_X12_book_174, km_48 hm1, rm_48_98 hm1, km_111 hm1, nm_111 hm1, h3, hv]
    by_cases c1 : i = 1
    · subst c1
      have hv : zI m &&& (255 : Int32) = zI (V 1) := by rw [and255, zI_bv, v1]; congr 1; omega
      simp (disch := first | assumption | omega) only [y_i_wi, y_l_wi, y_d_wi, y_r_wi, y_k_wi, y_n_wi, y_x_wi, y_w_wi, y_s_wi, y_i_wl, y_l_wl, y_d_wl, y_r_wl, y_k_wl, y_n_wl, y_x_wl, y_w_wl, y_s_wl, y_i_wd, y_l_wd, y_d_wd, y_r_wd, y_k_wd, y_n_wd, y_x_wd, y_w_wd, y_s_wd, y_i_wr, y_l_wr, y_d_wr, y_r_wr, y_k_wr, y_n_wr, y_x_wr, y_w_wr, y_s_wr, y_i_new, y_l_new, y_d_new, y_r_new, y_k_new, y_n_new, y_x_new, y_w_new, y_s_new, y_i_ci, y_l_ci, y_d_ci, y_r_ci, y_k_ci, y_n_ci, y_x_ci, y_w_ci, y_s_ci, y_i_cl, y_l_cl, y_d_cl, y_r_cl, y_k_cl, y_n_cl, y_x_cl, y_w_cl, y_s_cl, y_i_qi, y_l_qi, y_d_qi, y_r_qi, y_k_qi, y_n_qi, y_x_qi, y_w_qi, y_s_qi, y_i_ql, y_l_ql, y_d_ql, y_r_ql, y_k_ql, y_n_ql, y_x_ql, y_w_ql, y_s_ql, y_i_qd, y_l_qd, y_d_qd, y_r_qd, y_k_qd, y_n_qd, y_x_qd, y_w_qd, y_s_qd, ↓reduceIte, ↓y_tb, ↓y_tv, ↓y_tr, ↓y_tn, ↓y_ck, ↓y_ib, ↓y_nz2, ↓y_nzl2, ↓y_len2, ↓y_nn2, ↓y_nf2, ↓y_l2d2, y_gb, y_gn, y_gi, y_gv, y_gv', y_grN, y_grS, y_glN, y_glS, Nat.reduceAdd, Nat.reduceMul, Nat.reduceSub, Nat.reduceDiv, Nat.reduceMod, Nat.reduceLT, Nat.reduceLeDiff, y_rb0, y_rb1, y_b0, y_b0', y_10, zL_eq, zL_cl, Nat.add_sub_cancel, implies_true, Int32.reduceLT, Int32.reduceLE, if_true, if_false, true_and, and_true, false_and, and_false, true_or, or_true, false_or, or_false, not_true_eq_false, not_false_eq_true, ne_eq, and_self, or_self, reduceCtorEq, Nat.add_left_cancel_iff, Nat.left_eq_add, Nat.add_eq_left, Nat.reduceEqDiff, zI_of, zI_cl, zI_add, zI_mul, zI_lt, zI_le, zI_eq, zI_mulL, zI_mulR, zI_addL, zI_addR, zI_subR, zI_sub, zI_divR, zI_ltR, zI_ltL, zI_leR, zI_leL, zI_eqR, zI_eqL, zI_neN, zI_neN', zI_ltN, zI_leN, zN_lt, zF1, zF2, zF3, zF4, zF5, zF6, zF7, zF8, zU_lt, zG1, zG2, zG3, zG4, zG5, zG6, zU1, zU2, zU3, zU4, zN_0, zN_le0, zI_lt0, zI_0le, zI_pred, zI_pred', zI_predS, zI_predT, zJ_le, zJ_lt, zJ_leL, zJ_leR, y_cl0, y_0cl, y_cle, y_lec, y_ceq, n_lt, n_le, n_nlt, n_nle,  j_X12_book_174, km_48 hm1, rm_48_98 hm1, km_111 hm1, nm_111 hm1, h3, hv]
    by_cases c2 : i = 2
    · subst c2
      rw [← v2] at l50
      simp (disch := first | assumption | omega) only [y_i_wi, y_l_wi, y_d_wi, y_r_wi, y_k_wi, y_n_wi, y_x_wi, y_w_wi, y_s_wi, y_i_wl, y_l_wl, y_d_wl, y_r_wl, y_k_wl, y_n_wl, y_x_wl, y_w_wl, y_s_wl, y_i_wd, y_l_wd, y_d_wd, y_r_wd, y_k_wd, y_n_wd, y_x_wd, y_w_wd, y_s_wd, y_i_wr, y_l_wr, y_d_wr, y_r_wr, y_k_wr, y_n_wr, y_x_wr, y_w_wr, y_s_wr, y_i_new, y_l_new, y_d_new, y_r_new, y_k_new, y_n_new, y_x_new, y_w_new, y_s_new, y_i_ci, y_l_ci, y_d_ci, y_r_ci, y_k_ci, y_n_ci, y_x_ci, y_w_ci, y_s_ci, y_i_cl, y_l_cl, y_d_cl, y_r_cl, y_k_cl, y_n_cl, y_x_cl, y_w_cl, y_s_cl, y_i_qi, y_l_qi, y_d_qi, y_r_qi, y_k_qi, y_n_qi, y_x_qi, y_w_qi, y_s_qi, y_i_ql, y_l_ql, y_d_ql, y_r_ql, y_k_ql, y_n_ql, y_x_ql, y_w_ql, y_s_ql, y_i_qd, y_l_qd, y_d_qd, y_r_qd, y_k_qd, y_n_qd, y_x_qd, y_w_qd, y_s_qd, ↓reduceIte, ↓y_tb, ↓y_tv, ↓y_tr, ↓y_tn, ↓y_ck, ↓y_ib, ↓y_nz2, ↓y_nzl2, ↓y_len2, ↓y_nn2, ↓y_nf2, ↓y_l2d2, y_gb, y_gn, y_gi, y_gv, y_gv', y_grN, y_grS, y_glN, y_glS, Nat.reduceAdd, Nat.reduceMul, Nat.reduceSub, Nat.reduceDiv, Nat.reduceMod, Nat.reduceLT, Nat.reduceLeDiff, y_rb0, y_rb1, y_b0, y_b0', y_10, zL_eq, zL_cl, Nat.add_sub_cancel, implies_true, Int32.reduceLT, Int32.reduceLE, if_true, if_false, true_and, and_true, false_and, and_false, true_or, or_true, false_or, or_false, not_true_eq_false, not_false_eq_true, ne_eq, and_self, or_self, reduceCtorEq, Nat.add_left_cancel_iff, Nat.left_eq_add, Nat.add_eq_left, Nat.reduceEqDiff, zI_of, zI_cl, zI_add, zI_mul, zI_lt, zI_le, zI_eq, zI_mulL, zI_mulR, zI_addL, zI_addR, zI_subR, zI_sub, zI_divR, zI_ltR, zI_ltL, zI_leR, zI_leL, zI_eqR, zI_eqL, zI_neN, zI_neN', zI_ltN, zI_leN, zN_lt, zF1, zF2, zF3, zF4, zF5, zF6, zF7, zF8, zU_lt, zG1, zG2, zG3, zG4, zG5, zG6, zU1, zU2, zU3, zU4, zN_0, zN_le0, zI_lt0, zI_0le, zI_pred, zI_pred', zI_predS, zI_predT, zJ_le, zJ_lt, zJ_leL, zJ_leR, y_cl0, y_0cl, y_cle, y_lec, y_ceq, n_lt, n_le, n_nlt, n_nle,  j_X12_book_174, km_48 hm1, rm_48_98 hm1, km_111 hm1, nm_111 hm1, rm_48_5 hm1, km_50 hm1, nm_50 hm1, l50]
    by_cases c3 : 3 + n ≤ i
    · have hv := hV0 i c3
      have z0 : (0 : Int32) = zI (V i) := by rw [hv]; rfl
      simp (disch := first | assumption | omega) only [y_i_wi, y_l_wi, y_d_wi, y_r_wi, y_k_wi, y_n_wi, y_x_wi, y_w_wi, y_s_wi, y_i_wl, y_l_wl, y_d_wl, y_r_wl, y_k_wl, y_n_wl, y_x_wl, y_w_wl, y_s_wl, y_i_wd, y_l_wd, y_d_wd, y_r_wd, y_k_wd, y_n_wd, y_x_wd, y_w_wd, y_s_wd, y_i_wr, y_l_wr, y_d_wr, y_r_wr, y_k_wr, y_n_wr, y_x_wr, y_w_wr, y_s_wr, y_i_new, y_l_new, y_d_new, y_r_new, y_k_new, y_n_new, y_x_new, y_w_new, y_s_new, y_i_ci, y_l_ci, y_d_ci, y_r_ci, y_k_ci, y_n_ci, y_x_ci, y_w_ci, y_s_ci, y_i_cl, y_l_cl, y_d_cl, y_r_cl, y_k_cl, y_n_cl, y_x_cl, y_w_cl, y_s_cl, y_i_qi, y_l_qi, y_d_qi, y_r_qi, y_k_qi, y_n_qi, y_x_qi, y_w_qi, y_s_qi, y_i_ql, y_l_ql, y_d_ql, y_r_ql, y_k_ql, y_n_ql, y_x_ql, y_w_ql, y_s_ql, y_i_qd, y_l_qd, y_d_qd, y_r_qd, y_k_qd, y_n_qd, y_x_qd, y_w_qd, y_s_qd, ↓reduceIte, ↓y_tb, ↓y_tv, ↓y_tr, ↓y_tn, ↓y_ck, ↓y_ib, ↓y_nz2, ↓y_nzl2, ↓y_len2, ↓y_nn2, ↓y_nf2, ↓y_l2d2, y_gb, y_gn, y_gi, y_gv, y_gv', y_grN, y_grS, y_glN, y_glS, Nat.reduceAdd, Nat.reduceMul, Nat.reduceSub, Nat.reduceDiv, Nat.reduceMod, Nat.reduceLT, Nat.reduceLeDiff, y_rb0, y_rb1, y_b0, y_b0', y_10, zL_eq, zL_cl, Nat.add_sub_cancel, implies_true, Int32.reduceLT, Int32.reduceLE, if_true, if_false, true_and, and_true, false_and, and_false, true_or, or_true, false_or, or_false, not_true_eq_false, not_false_eq_true, ne_eq, and_self, or_self, reduceCtorEq, Nat.add_left_cancel_iff, Nat.left_eq_add, Nat.add_eq_left, Nat.reduceEqDiff, zI_of, zI_cl, zI_add, zI_mul, zI_lt, zI_le, zI_eq, zI_mulL, zI_mulR, zI_addL, zI_addR, zI_subR, zI_sub, zI_divR, zI_ltR, zI_ltL, zI_leR, zI_leL, zI_eqR, zI_eqL, zI_neN, zI_neN', zI_ltN, zI_leN, zN_lt, zF1, zF2, zF3, zF4, zF5, zF6, zF7, zF8, zU_lt, zG1, zG2, zG3, zG4, zG5, zG6, zU1, zU2, zU3, zU4, zN_0, zN_le0, zI_lt0, zI_0le, zI_pred, zI_pred', zI_predS, zI_predT, zJ_le, zJ_lt, zJ_leL, zJ_leR, y_cl0, y_0cl, y_cle, y_lec, y_ceq, n_lt, n_le, n_nlt, n_nle,  j_X12_book_174, km_48 hm1, rm_48_98 hm1, km_111 hm1, nm_111 hm1, rm_48_5 hm1, km_50 hm1, nm_50 hm1, l50, ni, c0, c1, c2, c3]
      rw [z0]
    · have hv := hV (i - 3) (by omega)
      rw [show 3 + (i - 3) = i by omega] at hv
      have hx := hw (i - 3) (by omega)
      rw [show 64 * q + (i - 3) = 64 * q + i - 3 by omega, ← (h5 (B + 51) (by omega) (by omega) _).2] at hx
      have hl : (W (i - 3) &&& (255 : Int64)).toInt32 = zI (V i) := by rw [and255L, hv]
      simp (disch := first | assumption | omega) only [y_i_wi, y_l_wi, y_d_wi, y_r_wi, y_k_wi, y_n_wi, y_x_wi, y_w_wi, y_s_wi, y_i_wl, y_l_wl, y_d_wl, y_r_wl, y_k_wl, y_n_wl, y_x_wl, y_w_wl, y_s_wl, y_i_wd, y_l_wd, y_d_wd, y_r_wd, y_k_wd, y_n_wd, y_x_wd, y_w_wd, y_s_wd, y_i_wr, y_l_wr, y_d_wr, y_r_wr, y_k_wr, y_n_wr, y_x_wr, y_w_wr, y_s_wr, y_i_new, y_l_new, y_d_new, y_r_new, y_k_new, y_n_new, y_x_new, y_w_new, y_s_new, y_i_ci, y_l_ci, y_d_ci, y_r_ci, y_k_ci, y_n_ci, y_x_ci, y_w_ci, y_s_ci, y_i_cl, y_l_cl, y_d_cl, y_r_cl, y_k_cl, y_n_cl, y_x_cl, y_w_cl, y_s_cl, y_i_qi, y_l_qi, y_d_qi, y_r_qi, y_k_qi, y_n_qi, y_x_qi, y_w_qi, y_s_qi, y_i_ql, y_l_ql, y_d_ql, y_r_ql, y_k_ql, y_n_ql, y_x_ql, y_w_ql, y_s_ql, y_i_qd, y_l_qd, y_d_qd, y_r_qd, y_k_qd, y_n_qd, y_x_qd, y_w_qd, y_s_qd, ↓reduceIte, ↓y_tb, ↓y_tv, ↓y_tr, ↓y_tn, ↓y_ck, ↓y_ib, ↓y_nz2, ↓y_nzl2, ↓y_len2, ↓y_nn2, ↓y_nf2, ↓y_l2d2, y_gb, y_gn, y_gi, y_gv, y_gv', y_grN, y_grS, y_glN, y_glS, Nat.reduceAdd, Nat.reduceMul, Nat.reduceSub, Nat.reduceDiv, Nat.reduceMod, Nat.reduceLT, Nat.reduceLeDiff, y_rb0, y_rb1, y_b0, y_b0', y_10, zL_eq, zL_cl, Nat.add_sub_cancel, implies_true, Int32.reduceLT, Int32.reduceLE, if_true, if_false, true_and, and_true, false_and, and_false, true_or, or_true, false_or, or_false, not_true_eq_false, not_false_eq_true, ne_eq, and_self, or_self, reduceCtorEq, Nat.add_left_cancel_iff, Nat.left_eq_add, Nat.add_eq_left, Nat.reduceEqDiff, zI_of, zI_cl, zI_add, zI_mul, zI_lt, zI_le, zI_eq, zI_mulL, zI_mulR, zI_addL, zI_addR, zI_subR, zI_sub, zI_divR, zI_ltR, zI_ltL, zI_leR, zI_leL, zI_eqR, zI_eqL, zI_neN, zI_neN', zI_ltN, zI_leN, zN_lt, zF1, zF2, zF3, zF4, zF5, zF6, zF7, zF8, zU_lt, zG1, zG2, zG3, zG4, zG5, zG6, zU1, zU2, zU3, zU4, zN_0, zN_le0, zI_lt0, zI_0le, zI_pred, zI_pred', zI_predS, zI_predT, zJ_le, zJ_lt, zJ_leL, zJ_leR, y_cl0, y_0cl, y_cle, y_lec, y_ceq, n_lt, n_le, n_nlt, n_nle,  j_X12_book_174, km_48 hm1, rm_48_98 hm1, km_111 hm1, nm_111 hm1, rm_48_5 hm1, km_50 hm1, nm_50 hm1, rm_48_4 hm1, km_49 hm1, nm_49 hm1, rm_48_6 hm1, km_51 hm1, nm_51 hm1, l50, l49, ni, c0, c1, c2, c3, hx, hl]
def bkV (n len : Nat) (W : Nat → Int64) : Nat → Nat := fun k => if k = 0 then (n + 1) / 256 else if k = 1 then (n + 1) % 256 else if k = 2 then len else if k < 3 + len then (W (k - 3)).toBitVec.toNat % 256 else 0
theorem bkV_c (n len : Nat) (W : Nat → Int64) : ∀ i, i < len → bkV n len W (3 + i) = (W i).toBitVec.toNat % 256 := by
  intro i hi
  unfold bkV
  rw [if_neg (by omega), if_neg (by omega), if_neg (by omega), if_pos (by omega), show 3 + i - 3 = i by omega]
theorem bkV_0 (n len : Nat) (W : Nat → Int64) : ∀ i, 3 + len ≤ i → bkV n len W i = 0 := by
  intro i hi
  unfold bkV
  rw [if_neg (by omega), if_neg (by omega), if_neg (by omega), if_neg (by omega)]
theorem x_write (hc : cSh B S) {n p a c len k : Nat} {W : Nat → Int64} {F : Nat → Nat} (hF : cB B F S) (hb : z_i S (B + 45) 2 = zI n) (hn : n < 60000) (hp : n - n / 32 * 32 = p) (ha : B + 112 ≤ a) (hcc : B + 112 ≤ c) (a3 : z_k S a = 9) (a4 : z_r S a 1 = some c) (a5 : z_k S c = 102) (a6 : z_i S a 0 = zI k) (a8 : z_n S c = len) (hl : len ≤ 24) (hw : ∀ j S', f_X8_wholeOfCell (zI k) (z_l S c j) S' = some (W j, S')) : ∃ S2 v, f_X2_write (B + 45) a S = some (z_wi S2 (B + 47) p v) ∧ cW B G p (n + 1) S (os (ov F p (bkV n len W) 32) p (xB (bkSum (fun k => ov F p (bkV n len W) 32 (32 * p + k)) 28)) 4) S2 ∧ noOk (os (ov F p (bkV n len W) 32) p (xB (bkSum (fun k => ov F p (bkV n len W) 32 (32 * p + k)) 28)) 4) p v := by
  have hp32 : p < 32 := by omega
  have w0 : cW B G p (n + 1) S F (z_wi S (B + 45) 2 (zI (n + 1))) := by
    refine ⟨fS_wi fS_rf _ _ _ (at_fix (by decide) (by exact okcc)), ⟨rfl, rfl⟩, fun j hj => ?_, ?_, fun r hr hne => ?_, fun b hb => ⟨rfl, rfl, fun k => ?_⟩⟩
    · rw [y_i_wi, if_neg (by omega)]; exact hF j hj
    · rw [y_i_wi, if_pos ⟨rfl, rfl⟩]
    · rw [y_i_wi, if_neg (by omega)]
    · rw [y_i_wi, if_neg (by omega)]; exact ⟨rfl, rfl, rfl⟩
  have hc0 := cW_c hc w0
  have lc := l_clear (B := B) p hp32 32 z_N (z_wi S (B + 45) 2 (zI (n + 1))) 0 hc0 (by omega) rfl (by rw [z_N_eq]; omega)
  have hcw : cSh B (z_b0 (z_wi S (B + 45) 2 (zI (n + 1))) (B + 46) (32 * p + 0) (32 * p + 32)) := cSh_up hc0 (fS_qi (G := G) (cs := c1 12) fS_rf _ _ (fun _ => at_fix (by decide) (by exact okcc))) (fun z => by unfold c1 at z; omega)
  have cb' : cB B (ov F p (bkV n len W) 0) (z_b0 (z_wi S (B + 45) 2 (zI (n + 1))) (B + 46) (32 * p + 0) (32 * p + 32)) := by
    intro j hj
    unfold z_b0 ov
    rw [y_i_qi, if_pos rfl]
    by_cases e : 32 * p ≤ j ∧ j < 32 * p + 32
    · rw [if_pos e, if_neg (by omega), if_pos (by omega)]; exact ⟨by decide, by decide⟩
    · rw [if_neg e, if_neg (by omega)]; exact w0.2.2.1 j hj
  obtain ⟨u, u1, u2⟩ := x_look hcw cb' hp32
  rw [u1] at lc
  have lc' : f_X2_clearFrom (B + 45) (zI p) 0 (z_wi S (B + 45) 2 (zI (n + 1))) = some (z_wi (z_b0 (z_wi S (B + 45) 2 (zI (n + 1))) (B + 46) (32 * p + 0) (32 * p + 32)) (B + 47) p u) := by
    rw [e_X2_clearFrom]; exact lc
  clear lc
  generalize hS3 : z_wi (z_b0 (z_wi S (B + 45) 2 (zI (n + 1))) (B + 46) (32 * p + 0) (32 * p + 32)) (B + 47) p u = S3 at lc'
  have w3 : cW B G p (n + 1) S (ov F p (bkV n len W) 0) S3 := by
    rw [← hS3]
    refine ⟨fS_wi (fS_qi w0.1 _ _ (fun _ => at_fix (by decide) (by exact okcc))) _ _ _ (at_fix (by decide) (by exact okcc)), ⟨rfl, rfl⟩, fun j hj => ?_, ?_, fun r hr hne => ?_, fun b hb => ⟨rfl, rfl, fun k => ?_⟩⟩
    · rw [y_i_wi, if_neg (by omega)]; exact cb' j hj
    · rw [y_i_wi, if_neg (by omega)]
      unfold z_b0
      rw [y_i_qi, if_neg (by omega)]; exact w0.2.2.2.1
    · rw [y_i_wi, if_neg (fun z => hne z.2)]
      unfold z_b0
      rw [y_i_qi, if_neg (by omega), y_i_wi, if_neg (by omega)]
    · rw [y_i_wi, if_neg (by omega)]
      unfold z_b0
      rw [y_i_qi, if_neg (by omega), y_i_wi, if_neg (by omega)]
      exact ⟨rfl, rfl, rfl⟩
  clear hS3 u1 u2 cb' hcw
  have hc3 := cW_c hc w3
  have k3 := w3.2.2.2.1
  obtain ⟨S4, s4, w4⟩ := cW_set hc w3 hp32 (show 0 < 32 by omega) (zI (n + 1) >>> ((8 : Int32) &&& 31))
  have w4' : cW B G p (n + 1) S (ov F p (bkV n len W) 1) S4 := cW_congr w4 (fun j _ => by
    rw [ov_step (by omega) j, zI_shr8 (by omega), zI_bv, show (n + 1) / 256 % 2 ^ 32 % 256 = (n + 1) / 256 by omega]
    rfl)
  have hc4 := cW_c hc w4'
  have k4 := w4'.2.2.2.1
  obtain ⟨S5, s5, w5⟩ := cW_set hc w4' hp32 (show 1 < 32 by omega) (zI (n + 1))
  have w5' : cW B G p (n + 1) S (ov F p (bkV n len W) 2) S5 := cW_congr w5 (fun j _ => by
    rw [ov_step (by omega) j, zI_bv, show (n + 1) % 2 ^ 32 % 256 = (n + 1) % 256 by omega]
    rfl)
  have hc5 := cW_c hc w5'
  obtain ⟨g1, g2, g3⟩ := w5'.2.2.2.2.2 a ha
  obtain ⟨e1, e2, e3⟩ := w5'.2.2.2.2.2 c hcc
  have f4 : z_r S5 a 1 = some c := by rw [(g3 1).2.2]; exact a4
  have f8 : z_n S5 c = len := by rw [e2]; exact a8
  have f5 : z_k S5 c = 102 := by rw [e1]; exact a5
  have f3 : z_k S5 a = 9 := by rw [g1]; exact a3
  obtain ⟨S6, s6, w6⟩ := cW_set hc w5' hp32 (show 2 < 32 by omega) (zI len)
  have w6' : cW B G p (n + 1) S (ov F p (bkV n len W) (3 + 0)) S6 := cW_congr w6 (fun j _ => by
    rw [show 3 + 0 = 2 + 1 from rfl, ov_step (by omega) j, zI_bv, show len % 2 ^ 32 % 256 = len by omega]
    rfl)
  obtain ⟨S7, v, v1, v2, v3⟩ := l_wrC hc hp32 ha hcc a3 a4 a5 a6 a8 hl hw (bkV_c n len W) (bkV_0 n len W) len z_N 0 S6 (by omega) (by omega) (by rw [z_N_eq]; omega) w6'
  refine ⟨S7, v, Eq.trans ?_ v1, v2, v3⟩
  have s4' : f_X2_setByte (B + 45) (zI p) 0 (zI (n + 1) >>> ((8 : Int32) &&& 31)) S3 = some S4 := s4
  have s5' : f_X2_setByte (B + 45) (zI p) 1 (zI (n + 1)) S4 = some S5 := s5
  have s6' : f_X2_setByte (B + 45) (zI p) 2 (zI len) S5 = some S6 := s6
  rw [e_X2_write]; unfold b_X2_write
  simp (disch := first | assumption | omega) only [y_i_wi, y_l_wi, y_d_wi, y_r_wi, y_k_wi, y_n_wi, y_x_wi, y_w_wi, y_s_wi, y_i_wl, y_l_wl, y_d_wl, y_r_wl, y_k_wl, y_n_wl, y_x_wl, y_w_wl, y_s_wl, y_i_wd, y_l_wd, y_d_wd, y_r_wd, y_k_wd, y_n_wd, y_x_wd, y_w_wd, y_s_wd, y_i_wr, y_l_wr, y_d_wr, y_r_wr, y_k_wr, y_n_wr, y_x_wr, y_w_wr, y_s_wr, y_i_new, y_l_new, y_d_new, y_r_new, y_k_new, y_n_new, y_x_new, y_w_new, y_s_new, y_i_ci, y_l_ci, y_d_ci, y_r_ci, y_k_ci, y_n_ci, y_x_ci, y_w_ci, y_s_ci, y_i_cl, y_l_cl, y_d_cl, y_r_cl, y_k_cl, y_n_cl, y_x_cl, y_w_cl, y_s_cl, y_i_qi, y_l_qi, y_d_qi, y_r_qi, y_k_qi, y_n_qi, y_x_qi, y_w_qi, y_s_qi, y_i_ql, y_l_ql, y_d_ql, y_r_ql, y_k_ql, y_n_ql, y_x_ql, y_w_ql, y_s_ql, y_i_qd, y_l_qd, y_d_qd, y_r_qd, y_k_qd, y_n_qd, y_x_qd, y_w_qd, y_s_qd, ↓reduceIte, ↓y_tb, ↓y_tv, ↓y_tr, ↓y_tn, ↓y_ck, ↓y_ib, ↓y_nz2, ↓y_nzl2, ↓y_len2, ↓y_nn2, ↓y_nf2, ↓y_l2d2, y_gb, y_gn, y_gi, y_gv, y_gv', y_grN, y_grS, y_glN, y_glS, Nat.reduceAdd, Nat.reduceMul, Nat.reduceSub, Nat.reduceDiv, Nat.reduceMod, Nat.reduceLT, Nat.reduceLeDiff, y_rb0, y_rb1, y_b0, y_b0', y_10, zL_eq, zL_cl, Nat.add_sub_cancel, implies_true, Int32.reduceLT, Int32.reduceLE, if_true, if_false, true_and, and_true, false_and, and_false, true_or, or_true, false_or, or_false, not_true_eq_false, not_false_eq_true, ne_eq, and_self, or_self, reduceCtorEq, Nat.add_left_cancel_iff, Nat.left_eq_add, Nat.add_eq_left, Nat.reduceEqDiff, zI_of, zI_cl, zI_add, zI_mul, zI_lt, zI_le, zI_eq, zI_mulL, zI_mulR, zI_addL, zI_addR, zI_subR, zI_sub, zI_divR, zI_ltR, zI_ltL, zI_leR, zI_leL, zI_eqR, zI_eqL, zI_neN, zI_neN', zI_ltN, zI_leN, zN_lt, zF1, zF2, zF3, zF4, zF5, zF6, zF7, zF8, zU_lt, zG1, zG2, zG3, zG4, zG5, zG6, zU1, zU2, zU3, zU4, zN_0, zN_le0, zI_lt0, zI_0le, zI_pred, zI_pred', zI_predS, zI_predT, zJ_le, zJ_lt, zJ_leL, zJ_leR, y_cl0, y_0cl, y_cle, y_lec, y_ceq, n_lt, n_le, n_nlt, n_nle,  kc_45 hc, hb, hp, lc', kc_45 hc3, k3, s4', kc_45 hc4, k4, s5', kc_45 hc5, f3, f4, f5, f8, s6']
  rfl
theorem k_book (h : Rel B S T) (r : Int32) : Pr B S T (f_X11_book B r S) (f_X12_book (B + 48) r T) := by
  obtain ⟨G, h⟩ := h
  rw [e_X11_book, e_X12_book]; unfold b_X11_book b_X12_book
  have hm0 := h.2.1
  simp only [y_ck, km_48 hm0, if_true]
  generalize hT1 : z_wi T (B + 48) 0 0 = T1
  refine Pr_T hT1 ?_
  replace h := RG_0 h; rw [hT1] at h; clear hT1 hm0
  have hc := h.1
  have hm := h.2.1
  have hx := hc.2.2.1
  obtain ⟨m1, m2, m3, m4, m5, m6, m7, m8⟩ : R1 B G S T1 := h.2.2.1 1
  have h12 : R12 B G S T1 := h.2.2.1 12
  obtain ⟨b1, b2, b3⟩ := R12_cb h12
  obtain ⟨n1, n2, n3⟩ := h12.1
  rcases nm3 r (n := G 0 1) (by omega) with ⟨hr, hr1, hr2⟩ | rfl | ⟨q, hq, rfl⟩
  · simp (disch := first | assumption | omega) only [y_i_wi, y_l_wi, y_d_wi, y_r_wi, y_k_wi, y_n_wi, y_x_wi, y_w_wi, y_s_wi, y_i_wl, y_l_wl, y_d_wl, y_r_wl, y_k_wl, y_n_wl, y_x_wl, y_w_wl, y_s_wl, y_i_wd, y_l_wd, y_d_wd, y_r_wd, y_k_wd, y_n_wd, y_x_wd, y_w_wd, y_s_wd, y_i_wr, y_l_wr, y_d_wr, y_r_wr, y_k_wr, y_n_wr, y_x_wr, y_w_wr, y_s_wr, y_i_new, y_l_new, y_d_new, y_r_new, y_k_new, y_n_new, y_x_new, y_w_new, y_s_new, y_i_ci, y_l_ci, y_d_ci, y_r_ci, y_k_ci, y_n_ci, y_x_ci, y_w_ci, y_s_ci, y_i_cl, y_l_cl, y_d_cl, y_r_cl, y_k_cl, y_n_cl, y_x_cl, y_w_cl, y_s_cl, y_i_qi, y_l_qi, y_d_qi, y_r_qi, y_k_qi, y_n_qi, y_x_qi, y_w_qi, y_s_qi, y_i_ql, y_l_ql, y_d_ql, y_r_ql, y_k_ql, y_n_ql, y_x_ql, y_w_ql, y_s_ql, y_i_qd, y_l_qd, y_d_qd, y_r_qd, y_k_qd, y_n_qd, y_x_qd, y_w_qd, y_s_qd, ↓reduceIte, ↓y_tb, ↓y_tv, ↓y_tr, ↓y_tn, ↓y_ck, ↓y_ib, ↓y_nz2, ↓y_nzl2, ↓y_len2, ↓y_nn2, ↓y_nf2, ↓y_l2d2, y_gb, y_gn, y_gi, y_gv, y_gv', y_grN, y_grS, y_glN, y_glS, Nat.reduceAdd, Nat.reduceMul, Nat.reduceSub, Nat.reduceDiv, Nat.reduceMod, Nat.reduceLT, Nat.reduceLeDiff, y_rb0, y_rb1, y_b0, y_b0', y_10, zL_eq, zL_cl, Nat.add_sub_cancel, implies_true, Int32.reduceLT, Int32.reduceLE, if_true, if_false, true_and, and_true, false_and, and_false, true_or, or_true, false_or, or_false, not_true_eq_false, not_false_eq_true, ne_eq, and_self, or_self, reduceCtorEq, Nat.add_left_cancel_iff, Nat.left_eq_add, Nat.add_eq_left, Nat.reduceEqDiff, zI_of, zI_cl, zI_add, zI_mul, zI_lt, zI_le, zI_eq, zI_mulL, zI_mulR, zI_addL, zI_addR, zI_subR, zI_sub, zI_divR, zI_ltR, zI_ltL, zI_leR, zI_leL, zI_eqR, zI_eqL, zI_neN, zI_neN', zI_ltN, zI_leN, zN_lt, zF1, zF2, zF3, zF4, zF5, zF6, zF7, zF8, zU_lt, zG1, zG2, zG3, zG4, zG5, zG6, zU1, zU2, zU3, zU4, zN_0, zN_le0, zI_lt0, zI_0le, zI_pred, zI_pred', zI_predS, zI_predT, zJ_le, zJ_lt, zJ_leL, zJ_leR, y_cl0, y_0cl, y_cle, y_lec, y_ceq, n_lt, n_le, n_nlt, n_nle,  kc_0 hc, rc_0_0 hc, kc_1 hc, nc_1 hc, rc_0_16 hc, kc_45 hc, rc_45_1 hc, kc_47 hc, nc_47 hc, km_48 hm, rm_48_4 hm, km_49 hm, nm_49 hm, rm_48_5 hm, km_50 hm, nm_50 hm, rm_48_6 hm, km_51 hm, nm_51 hm, rm_48_98 hm, km_111 hm, nm_111 hm, x_fails, x_nameless, x_passes, j_X12_book_174, x_mfails, e_X12_noRow, b_X12_noRow, x_in, x_well, e_X12_wholeOf, b_X12_wholeOf, e_X12_isReal, b_X12_isReal, m2, m3, hr, hr1, hr2]
    exact Pr_n' h rfl
  · simp (disch := first | assumption | omega) only [y_i_wi, y_l_wi, y_d_wi, y_r_wi, y_k_wi, y_n_wi, y_x_wi, y_w_wi, y_s_wi, y_i_wl, y_l_wl, y_d_wl, y_r_wl, y_k_wl, y_n_wl, y_x_wl, y_w_wl, y_s_wl, y_i_wd, y_l_wd, y_d_wd, y_r_wd, y_k_wd, y_n_wd, y_x_wd, y_w_wd, y_s_wd, y_i_wr, y_l_wr, y_d_wr, y_r_wr, y_k_wr, y_n_wr, y_x_wr, y_w_wr, y_s_wr, y_i_new, y_l_new, y_d_new, y_r_new, y_k_new, y_n_new, y_x_new, y_w_new, y_s_new, y_i_ci, y_l_ci, y_d_ci, y_r_ci, y_k_ci, y_n_ci, y_x_ci, y_w_ci, y_s_ci, y_i_cl, y_l_cl, y_d_cl, y_r_cl, y_k_cl, y_n_cl, y_x_cl, y_w_cl, y_s_cl, y_i_qi, y_l_qi, y_d_qi, y_r_qi, y_k_qi, y_n_qi, y_x_qi, y_w_qi, y_s_qi, y_i_ql, y_l_ql, y_d_ql, y_r_ql, y_k_ql, y_n_ql, y_x_ql, y_w_ql, y_s_ql, y_i_qd, y_l_qd, y_d_qd, y_r_qd, y_k_qd, y_n_qd, y_x_qd, y_w_qd, y_s_qd, ↓reduceIte, ↓y_tb, ↓y_tv, ↓y_tr, ↓y_tn, ↓y_ck, ↓y_ib, ↓y_nz2, ↓y_nzl2, ↓y_len2, ↓y_nn2, ↓y_nf2, ↓y_l2d2, y_gb, y_gn, y_gi, y_gv, y_gv', y_grN, y_grS, y_glN, y_glS, Nat.reduceAdd, Nat.reduceMul, Nat.reduceSub, Nat.reduceDiv, Nat.reduceMod, Nat.reduceLT, Nat.reduceLeDiff, y_rb0, y_rb1, y_b0, y_b0', y_10, zL_eq, zL_cl, Nat.add_sub_cancel, implies_true, Int32.reduceLT, Int32.reduceLE, if_true, if_false, true_and, and_true, false_and, and_false, true_or, or_true, false_or, or_false, not_true_eq_false, not_false_eq_true, ne_eq, and_self, or_self, reduceCtorEq, Nat.add_left_cancel_iff, Nat.left_eq_add, Nat.add_eq_left, Nat.reduceEqDiff, zI_of, zI_cl, zI_add, zI_mul, zI_lt, zI_le, zI_eq, zI_mulL, zI_mulR, zI_addL, zI_addR, zI_subR, zI_sub, zI_divR, zI_ltR, zI_ltL, zI_leR, zI_leL, zI_eqR, zI_eqL, zI_neN, zI_neN', zI_ltN, zI_leN, zN_lt, zF1, zF2, zF3, zF4, zF5, zF6, zF7, zF8, zU_lt, zG1, zG2, zG3, zG4, zG5, zG6, zU1, zU2, zU3, zU4, zN_0, zN_le0, zI_lt0, zI_0le, zI_pred, zI_pred', zI_predS, zI_predT, zJ_le, zJ_lt, zJ_leL, zJ_leR, y_cl0, y_0cl, y_cle, y_lec, y_ceq, n_lt, n_le, n_nlt, n_nle,  kc_0 hc, rc_0_0 hc, kc_1 hc, nc_1 hc, rc_0_16 hc, kc_45 hc, rc_45_1 hc, kc_47 hc, nc_47 hc, km_48 hm, rm_48_4 hm, km_49 hm, nm_49 hm, rm_48_5 hm, km_50 hm, nm_50 hm, rm_48_6 hm, km_51 hm, nm_51 hm, rm_48_98 hm, km_111 hm, nm_111 hm, x_fails, x_nameless, x_passes, j_X12_book_174, x_mfails, e_X12_noRow, b_X12_noRow, x_in, x_well, e_X12_wholeOf, b_X12_wholeOf, e_X12_isReal, b_X12_isReal, m2, m3]
    exact Pr_f' h 1 0 rfl
  obtain ⟨a1, a2, a3, a4, a5, a6, a7, a8, a9, k1, k2, k3⟩ := m7 q (m5 q hq)
  have e0 := m4 q (by omega)
  rw [if_pos hq] at e0
  by_cases c24 : G 4 q ≤ 24
  · by_cases c6 : G 0 12 = 60000
    · simp (disch := first | assumption | omega) only [y_i_wi, y_l_wi, y_d_wi, y_r_wi, y_k_wi, y_n_wi, y_x_wi, y_w_wi, y_s_wi, y_i_wl, y_l_wl, y_d_wl, y_r_wl, y_k_wl, y_n_wl, y_x_wl, y_w_wl, y_s_wl, y_i_wd, y_l_wd, y_d_wd, y_r_wd, y_k_wd, y_n_wd, y_x_wd, y_w_wd, y_s_wd, y_i_wr, y_l_wr, y_d_wr, y_r_wr, y_k_wr, y_n_wr, y_x_wr, y_w_wr, y_s_wr, y_i_new, y_l_new, y_d_new, y_r_new, y_k_new, y_n_new, y_x_new, y_w_new, y_s_new, y_i_ci, y_l_ci, y_d_ci, y_r_ci, y_k_ci, y_n_ci, y_x_ci, y_w_ci, y_s_ci, y_i_cl, y_l_cl, y_d_cl, y_r_cl, y_k_cl, y_n_cl, y_x_cl, y_w_cl, y_s_cl, y_i_qi, y_l_qi, y_d_qi, y_r_qi, y_k_qi, y_n_qi, y_x_qi, y_w_qi, y_s_qi, y_i_ql, y_l_ql, y_d_ql, y_r_ql, y_k_ql, y_n_ql, y_x_ql, y_w_ql, y_s_ql, y_i_qd, y_l_qd, y_d_qd, y_r_qd, y_k_qd, y_n_qd, y_x_qd, y_w_qd, y_s_qd, ↓reduceIte, ↓y_tb, ↓y_tv, ↓y_tr, ↓y_tn, ↓y_ck, ↓y_ib, ↓y_nz2, ↓y_nzl2, ↓y_len2, ↓y_nn2, ↓y_nf2, ↓y_l2d2, y_gb, y_gn, y_gi, y_gv, y_gv', y_grN, y_grS, y_glN, y_glS, Nat.reduceAdd, Nat.reduceMul, Nat.reduceSub, Nat.reduceDiv, Nat.reduceMod, Nat.reduceLT, Nat.reduceLeDiff, y_rb0, y_rb1, y_b0, y_b0', y_10, zL_eq, zL_cl, Nat.add_sub_cancel, implies_true, Int32.reduceLT, Int32.reduceLE, if_true, if_false, true_and, and_true, false_and, and_false, true_or, or_true, false_or, or_false, not_true_eq_false, not_false_eq_true, ne_eq, and_self, or_self, reduceCtorEq, Nat.add_left_cancel_iff, Nat.left_eq_add, Nat.add_eq_left, Nat.reduceEqDiff, zI_of, zI_cl, zI_add, zI_mul, zI_lt, zI_le, zI_eq, zI_mulL, zI_mulR, zI_addL, zI_addR, zI_subR, zI_sub, zI_divR, zI_ltR, zI_ltL, zI_leR, zI_leL, zI_eqR, zI_eqL, zI_neN, zI_neN', zI_ltN, zI_leN, zN_lt, zF1, zF2, zF3, zF4, zF5, zF6, zF7, zF8, zU_lt, zG1, zG2, zG3, zG4, zG5, zG6, zU1, zU2, zU3, zU4, zN_0, zN_le0, zI_lt0, zI_0le, zI_pred, zI_pred', zI_predS, zI_predT, zJ_le, zJ_lt, zJ_leL, zJ_leR, y_cl0, y_0cl, y_cle, y_lec, y_ceq, n_lt, n_le, n_nlt, n_nle,  kc_0 hc, rc_0_0 hc, kc_1 hc, nc_1 hc, rc_0_16 hc, kc_45 hc, rc_45_1 hc, kc_47 hc, nc_47 hc, km_48 hm, rm_48_4 hm, km_49 hm, nm_49 hm, rm_48_5 hm, km_50 hm, nm_50 hm, rm_48_6 hm, km_51 hm, nm_51 hm, rm_48_98 hm, km_111 hm, nm_111 hm, x_fails, x_nameless, x_passes, j_X12_book_174, x_mfails, e_X12_noRow, b_X12_noRow, x_in, x_well, e_X12_wholeOf, b_X12_wholeOf, e_X12_isReal, b_X12_isReal, m2, m3, e0, a3, a4, a5, a8, a9, c24, n2, n3, c6]
      exact Pr_n' h rfl
    · have hn : G 0 12 < 60000 := by omega
      obtain ⟨n, hn'⟩ : ∃ n, G 0 12 = n := ⟨_, rfl⟩
      rw [hn'] at n2 n3 c6 hn
      obtain ⟨p, hp⟩ : ∃ p, n - n / 32 * 32 = p := ⟨_, rfl⟩
      have hp32 : p < 32 := by omega
      obtain ⟨W, w1, w2⟩ := row_both (h.2.2.1 1 : R1 B G S T1) (m5 q hq)
      obtain ⟨S2, v, x1, x2, x3⟩ := x_write (G := G) hc b1 n2 hn hp a1.1 a2.1 a3 a4 a5 a6 a8 c24 w1
      have m0 : mW B (n + 1) (z_wi (z_wi (z_wi T1 (B + 48) 1 0) (B + 48) 2 0) (B + 48) 99 (zI (n + 1))) (om (G 15) p (bkV n (G 4 q) W) 0) (z_wi (z_wi (z_wi T1 (B + 48) 1 0) (B + 48) 2 0) (B + 48) 99 (zI (n + 1))) := by
        refine ⟨fT_rf, fun j hj => ?_, by rw [y_i_wi, if_pos ⟨rfl, rfl⟩], ⟨rfl, rfl⟩, fun _ _ _ _ => ⟨rfl, rfl⟩⟩
        rw [y_i_wi, if_neg (by omega), y_i_wi, if_neg (by omega), y_i_wi, if_neg (by omega)]
        unfold om
        rw [if_neg (by omega)]
        exact b2 j hj
      obtain ⟨T2, t1, t2⟩ := l_mbk (T0 := z_wi (z_wi (z_wi T1 (B + 48) 1 0) (B + 48) 2 0) (B + 48) 99 (zI (n + 1))) (m := n + 1) hm hp32 (show q < 40 by omega) (by omega) (by simp (disch := first | assumption | omega) only [y_i_wi, y_l_wi, y_d_wi, y_r_wi, y_k_wi, y_n_wi, y_x_wi, y_w_wi, y_s_wi, y_i_wl, y_l_wl, y_d_wl, y_r_wl, y_k_wl, y_n_wl, y_x_wl, y_w_wl, y_s_wl, y_i_wd, y_l_wd, y_d_wd, y_r_wd, y_k_wd, y_n_wd, y_x_wd, y_w_wd, y_s_wd, y_i_wr, y_l_wr, y_d_wr, y_r_wr, y_k_wr, y_n_wr, y_x_wr, y_w_wr, y_s_wr, y_i_new, y_l_new, y_d_new, y_r_new, y_k_new, y_n_new, y_x_new, y_w_new, y_s_new, y_i_ci, y_l_ci, y_d_ci, y_r_ci, y_k_ci, y_n_ci, y_x_ci, y_w_ci, y_s_ci, y_i_cl, y_l_cl, y_d_cl, y_r_cl, y_k_cl, y_n_cl, y_x_cl, y_w_cl, y_s_cl, y_i_qi, y_l_qi, y_d_qi, y_r_qi, y_k_qi, y_n_qi, y_x_qi, y_w_qi, y_s_qi, y_i_ql, y_l_ql, y_d_ql, y_r_ql, y_k_ql, y_n_ql, y_x_ql, y_w_ql, y_s_ql, y_i_qd, y_l_qd, y_d_qd, y_r_qd, y_k_qd, y_n_qd, y_x_qd, y_w_qd, y_s_qd, ↓reduceIte, ↓y_tb, ↓y_tv, ↓y_tr, ↓y_tn, ↓y_ck, ↓y_ib, ↓y_nz2, ↓y_nzl2, ↓y_len2, ↓y_nn2, ↓y_nf2, ↓y_l2d2, y_gb, y_gn, y_gi, y_gv, y_gv', y_grN, y_grS, y_glN, y_glS, Nat.reduceAdd, Nat.reduceMul, Nat.reduceSub, Nat.reduceDiv, Nat.reduceMod, Nat.reduceLT, Nat.reduceLeDiff, y_rb0, y_rb1, y_b0, y_b0', y_10, zL_eq, zL_cl, Nat.add_sub_cancel, implies_true, Int32.reduceLT, Int32.reduceLE, if_true, if_false, true_and, and_true, false_and, and_false, true_or, or_true, false_or, or_false, not_true_eq_false, not_false_eq_true, ne_eq, and_self, or_self, reduceCtorEq, Nat.add_left_cancel_iff, Nat.left_eq_add, Nat.add_eq_left, Nat.reduceEqDiff, zI_of, zI_cl, zI_add, zI_mul, zI_lt, zI_le, zI_eq, zI_mulL, zI_mulR, zI_addL, zI_addR, zI_subR, zI_sub, zI_divR, zI_ltR, zI_ltL, zI_leR, zI_leL, zI_eqR, zI_eqL, zI_neN, zI_neN', zI_ltN, zI_leN, zN_lt, zF1, zF2, zF3, zF4, zF5, zF6, zF7, zF8, zU_lt, zG1, zG2, zG3, zG4, zG5, zG6, zU1, zU2, zU3, zU4, zN_0, zN_le0, zI_lt0, zI_0le, zI_pred, zI_pred', zI_predS, zI_predT, zJ_le, zJ_lt, zJ_leL, zJ_leR, y_cl0, y_0cl, y_cle, y_lec, y_ceq, n_lt, n_le, n_nlt, n_nle,  a9]) (by simp (disch := first | assumption | omega) only [y_i_wi, y_l_wi, y_d_wi, y_r_wi, y_k_wi, y_n_wi, y_x_wi, y_w_wi, y_s_wi, y_i_wl, y_l_wl, y_d_wl, y_r_wl, y_k_wl, y_n_wl, y_x_wl, y_w_wl, y_s_wl, y_i_wd, y_l_wd, y_d_wd, y_r_wd, y_k_wd, y_n_wd, y_x_wd, y_w_wd, y_s_wd, y_i_wr, y_l_wr, y_d_wr, y_r_wr, y_k_wr, y_n_wr, y_x_wr, y_w_wr, y_s_wr, y_i_new, y_l_new, y_d_new, y_r_new, y_k_new, y_n_new, y_x_new, y_w_new, y_s_new, y_i_ci, y_l_ci, y_d_ci, y_r_ci, y_k_ci, y_n_ci, y_x_ci, y_w_ci, y_s_ci, y_i_cl, y_l_cl, y_d_cl, y_r_cl, y_k_cl, y_n_cl, y_x_cl, y_w_cl, y_s_cl, y_i_qi, y_l_qi, y_d_qi, y_r_qi, y_k_qi, y_n_qi, y_x_qi, y_w_qi, y_s_qi, y_i_ql, y_l_ql, y_d_ql, y_r_ql, y_k_ql, y_n_ql, y_x_ql, y_w_ql, y_s_ql, y_i_qd, y_l_qd, y_d_qd, y_r_qd, y_k_qd, y_n_qd, y_x_qd, y_w_qd, y_s_qd, ↓reduceIte, ↓y_tb, ↓y_tv, ↓y_tr, ↓y_tn, ↓y_ck, ↓y_ib, ↓y_nz2, ↓y_nzl2, ↓y_len2, ↓y_nn2, ↓y_nf2, ↓y_l2d2, y_gb, y_gn, y_gi, y_gv, y_gv', y_grN, y_grS, y_glN, y_glS, Nat.reduceAdd, Nat.reduceMul, Nat.reduceSub, Nat.reduceDiv, Nat.reduceMod, Nat.reduceLT, Nat.reduceLeDiff, y_rb0, y_rb1, y_b0, y_b0', y_10, zL_eq, zL_cl, Nat.add_sub_cancel, implies_true, Int32.reduceLT, Int32.reduceLE, if_true, if_false, true_and, and_true, false_and, and_false, true_or, or_true, false_or, or_false, not_true_eq_false, not_false_eq_true, ne_eq, and_self, or_self, reduceCtorEq, Nat.add_left_cancel_iff, Nat.left_eq_add, Nat.add_eq_left, Nat.reduceEqDiff, zI_of, zI_cl, zI_add, zI_mul, zI_lt, zI_le, zI_eq, zI_mulL, zI_mulR, zI_addL, zI_addR, zI_subR, zI_sub, zI_divR, zI_ltR, zI_ltL, zI_leR, zI_leL, zI_eqR, zI_eqL, zI_neN, zI_neN', zI_ltN, zI_leN, zN_lt, zF1, zF2, zF3, zF4, zF5, zF6, zF7, zF8, zU_lt, zG1, zG2, zG3, zG4, zG5, zG6, zU1, zU2, zU3, zU4, zN_0, zN_le0, zI_lt0, zI_0le, zI_pred, zI_pred', zI_predS, zI_predT, zJ_le, zJ_lt, zJ_leL, zJ_leR, y_cl0, y_0cl, y_cle, y_lec, y_ceq, n_lt, n_le, n_nlt, n_nle,  a7]) c24 w2 rfl rfl rfl (bkV_c n (G 4 q) W) (bkV_0 n (G 4 q) W) 32 z_N 0 _ rfl (by omega) (by rw [z_N_eq]; omega) m0
      have t1' : l_X12_book_81 z_N (B + 48) (zI q) (zI p) 0 (z_wi (z_wi (z_wi T1 (B + 48) 1 0) (B + 48) 2 0) (B + 48) 99 (zI (n + 1))) = some (zI (n + 1), T2) := t1
      clear t1 m0
      have hF2 : ∀ r, r < 32 → r ≠ p → ∀ k, k < 32 → os (ov (G 15) p (bkV n (G 4 q) W) 32) p (xB (bkSum (fun k => ov (G 15) p (bkV n (G 4 q) W) 32 (32 * p + k)) 28)) 4 (32 * r + k) = G 15 (32 * r + k) := by
        intro r hr hne k hk
        generalize xB (bkSum (fun k => ov (G 15) p (bkV n (G 4 q) W) 32 (32 * p + k)) 28) = X
        unfold os ov
        rw [if_neg (by omega), if_neg (by omega)]
      generalize os (ov (G 15) p (bkV n (G 4 q) W) 32) p (xB (bkSum (fun k => ov (G 15) p (bkV n (G 4 q) W) 32 (32 * p + k)) 28)) 4 = F2 at x2 x3 t2 hF2
      have hc2 := cW_c hc x2
      have y2 := x2.2.2.2.1
      obtain ⟨y3, y4⟩ := x2.2.1
      have hT2 := mW_m (T0 := z_wi (z_wi (z_wi T1 (B + 48) 1 0) (B + 48) 2 0) (B + 48) 99 (zI (n + 1))) hm t2
      have lt := hn
      simp (disch := first | assumption | omega) only [y_i_wi, y_l_wi, y_d_wi, y_r_wi, y_k_wi, y_n_wi, y_x_wi, y_w_wi, y_s_wi, y_i_wl, y_l_wl, y_d_wl, y_r_wl, y_k_wl, y_n_wl, y_x_wl, y_w_wl, y_s_wl, y_i_wd, y_l_wd, y_d_wd, y_r_wd, y_k_wd, y_n_wd, y_x_wd, y_w_wd, y_s_wd, y_i_wr, y_l_wr, y_d_wr, y_r_wr, y_k_wr, y_n_wr, y_x_wr, y_w_wr, y_s_wr, y_i_new, y_l_new, y_d_new, y_r_new, y_k_new, y_n_new, y_x_new, y_w_new, y_s_new, y_i_ci, y_l_ci, y_d_ci, y_r_ci, y_k_ci, y_n_ci, y_x_ci, y_w_ci, y_s_ci, y_i_cl, y_l_cl, y_d_cl, y_r_cl, y_k_cl, y_n_cl, y_x_cl, y_w_cl, y_s_cl, y_i_qi, y_l_qi, y_d_qi, y_r_qi, y_k_qi, y_n_qi, y_x_qi, y_w_qi, y_s_qi, y_i_ql, y_l_ql, y_d_ql, y_r_ql, y_k_ql, y_n_ql, y_x_ql, y_w_ql, y_s_ql, y_i_qd, y_l_qd, y_d_qd, y_r_qd, y_k_qd, y_n_qd, y_x_qd, y_w_qd, y_s_qd, ↓reduceIte, ↓y_tb, ↓y_tv, ↓y_tr, ↓y_tn, ↓y_ck, ↓y_ib, ↓y_nz2, ↓y_nzl2, ↓y_len2, ↓y_nn2, ↓y_nf2, ↓y_l2d2, y_gb, y_gn, y_gi, y_gv, y_gv', y_grN, y_grS, y_glN, y_glS, Nat.reduceAdd, Nat.reduceMul, Nat.reduceSub, Nat.reduceDiv, Nat.reduceMod, Nat.reduceLT, Nat.reduceLeDiff, y_rb0, y_rb1, y_b0, y_b0', y_10, zL_eq, zL_cl, Nat.add_sub_cancel, implies_true, Int32.reduceLT, Int32.reduceLE, if_true, if_false, true_and, and_true, false_and, and_false, true_or, or_true, false_or, or_false, not_true_eq_false, not_false_eq_true, ne_eq, and_self, or_self, reduceCtorEq, Nat.add_left_cancel_iff, Nat.left_eq_add, Nat.add_eq_left, Nat.reduceEqDiff, zI_of, zI_cl, zI_add, zI_mul, zI_lt, zI_le, zI_eq, zI_mulL, zI_mulR, zI_addL, zI_addR, zI_subR, zI_sub, zI_divR, zI_ltR, zI_ltL, zI_leR, zI_leL, zI_eqR, zI_eqL, zI_neN, zI_neN', zI_ltN, zI_leN, zN_lt, zF1, zF2, zF3, zF4, zF5, zF6, zF7, zF8, zU_lt, zG1, zG2, zG3, zG4, zG5, zG6, zU1, zU2, zU3, zU4, zN_0, zN_le0, zI_lt0, zI_0le, zI_pred, zI_pred', zI_predS, zI_predT, zJ_le, zJ_lt, zJ_leL, zJ_leR, y_cl0, y_0cl, y_cle, y_lec, y_ceq, n_lt, n_le, n_nlt, n_nle,  kc_0 hc, rc_0_0 hc, kc_1 hc, nc_1 hc, rc_0_16 hc, kc_45 hc, rc_45_1 hc, kc_47 hc, nc_47 hc, km_48 hm, rm_48_4 hm, km_49 hm, nm_49 hm, rm_48_5 hm, km_50 hm, nm_50 hm, rm_48_6 hm, km_51 hm, nm_51 hm, rm_48_98 hm, km_111 hm, nm_111 hm, x_fails, x_nameless, x_passes, j_X12_book_174, x_mfails, e_X12_noRow, b_X12_noRow, x_in, x_well, e_X12_wholeOf, b_X12_wholeOf, e_X12_isReal, b_X12_isReal, m2, m3, e0, a3, a4, a5, a8, a9, c24, n2, n3, c6, lt, x1, hp, kc_0 hc2, rc_0_16 hc2, kc_45 hc2, y2, t1']
      refine Pr_c 12 (G' := gBook G F2 (n + 1)) h (fS_f (fS_wi x2.1 _ _ _ (at_fix (by decide) (by exact okcc))) 0 0) (fT_tr (fT_wi (fT_f fT_rf 0 0) _ _ _ (cm_at (by exact okcc))) t2.1) (gBook_L _ _ _ _) (R12_page (p := p) (S := S) (T := T1) h12 (by omega) ?_ ?_ ?_ ?_ ?_ ?_ ?_) (by decide) ?_ rfl (by simp only [y_x_wi]; omega) (by simp only [y_w_wi]; omega)
      · simp (disch := first | assumption | omega) only [y_i_wi, y_l_wi, y_d_wi, y_r_wi, y_k_wi, y_n_wi, y_x_wi, y_w_wi, y_s_wi, y_i_wl, y_l_wl, y_d_wl, y_r_wl, y_k_wl, y_n_wl, y_x_wl, y_w_wl, y_s_wl, y_i_wd, y_l_wd, y_d_wd, y_r_wd, y_k_wd, y_n_wd, y_x_wd, y_w_wd, y_s_wd, y_i_wr, y_l_wr, y_d_wr, y_r_wr, y_k_wr, y_n_wr, y_x_wr, y_w_wr, y_s_wr, y_i_new, y_l_new, y_d_new, y_r_new, y_k_new, y_n_new, y_x_new, y_w_new, y_s_new, y_i_ci, y_l_ci, y_d_ci, y_r_ci, y_k_ci, y_n_ci, y_x_ci, y_w_ci, y_s_ci, y_i_cl, y_l_cl, y_d_cl, y_r_cl, y_k_cl, y_n_cl, y_x_cl, y_w_cl, y_s_cl, y_i_qi, y_l_qi, y_d_qi, y_r_qi, y_k_qi, y_n_qi, y_x_qi, y_w_qi, y_s_qi, y_i_ql, y_l_ql, y_d_ql, y_r_ql, y_k_ql, y_n_ql, y_x_ql, y_w_ql, y_s_ql, y_i_qd, y_l_qd, y_d_qd, y_r_qd, y_k_qd, y_n_qd, y_x_qd, y_w_qd, y_s_qd, ↓reduceIte, ↓y_tb, ↓y_tv, ↓y_tr, ↓y_tn, ↓y_ck, ↓y_ib, ↓y_nz2, ↓y_nzl2, ↓y_len2, ↓y_nn2, ↓y_nf2, ↓y_l2d2, y_gb, y_gn, y_gi, y_gv, y_gv', y_grN, y_grS, y_glN, y_glS, Nat.reduceAdd, Nat.reduceMul, Nat.reduceSub, Nat.reduceDiv, Nat.reduceMod, Nat.reduceLT, Nat.reduceLeDiff, y_rb0, y_rb1, y_b0, y_b0', y_10, zL_eq, zL_cl, Nat.add_sub_cancel, implies_true, Int32.reduceLT, Int32.reduceLE, if_true, if_false, true_and, and_true, false_and, and_false, true_or, or_true, false_or, or_false, not_true_eq_false, not_false_eq_true, ne_eq, and_self, or_self, reduceCtorEq, Nat.add_left_cancel_iff, Nat.left_eq_add, Nat.add_eq_left, Nat.reduceEqDiff, zI_of, zI_cl, zI_add, zI_mul, zI_lt, zI_le, zI_eq, zI_mulL, zI_mulR, zI_addL, zI_addR, zI_subR, zI_sub, zI_divR, zI_ltR, zI_ltL, zI_leR, zI_leL, zI_eqR, zI_eqL, zI_neN, zI_neN', zI_ltN, zI_leN, zN_lt, zF1, zF2, zF3, zF4, zF5, zF6, zF7, zF8, zU_lt, zG1, zG2, zG3, zG4, zG5, zG6, zU1, zU2, zU3, zU4, zN_0, zN_le0, zI_lt0, zI_0le, zI_pred, zI_pred', zI_predS, zI_predT, zJ_le, zJ_lt, zJ_leL, zJ_leR, y_cl0, y_0cl, y_cle, y_lec, y_ceq, n_lt, n_le, n_nlt, n_nle,  y2]
      · exact t2.2.2.1
      · intro j hj
        rw [y_i_wi, if_neg (by omega), y_i_wi, if_neg (by omega), y_i_wi, if_neg (by omega)]
        exact x2.2.2.1 j hj
      · exact t2.2.1
      · intro r hr hne k hk
        exact hF2 r hr hne k hk
      · intro r hr hne
        rw [y_i_wi, if_neg (by omega), y_i_wi, if_neg (by omega), y_i_wi, if_neg (fun z => hne z.2)]
        exact x2.2.2.2.2.1 r hr hne
      · intro _
        rw [y_i_wi, if_neg (by omega), y_i_wi, if_neg (by omega), y_i_wi, if_pos ⟨rfl, rfl⟩]
        exact x3
      · obtain ⟨z1, z2⟩ := t2.2.2.2.1
        unfold Rr
        rw [z1, z2]
        simp (disch := first | assumption | omega) only [y_i_wi, y_l_wi, y_d_wi, y_r_wi, y_k_wi, y_n_wi, y_x_wi, y_w_wi, y_s_wi, y_i_wl, y_l_wl, y_d_wl, y_r_wl, y_k_wl, y_n_wl, y_x_wl, y_w_wl, y_s_wl, y_i_wd, y_l_wd, y_d_wd, y_r_wd, y_k_wd, y_n_wd, y_x_wd, y_w_wd, y_s_wd, y_i_wr, y_l_wr, y_d_wr, y_r_wr, y_k_wr, y_n_wr, y_x_wr, y_w_wr, y_s_wr, y_i_new, y_l_new, y_d_new, y_r_new, y_k_new, y_n_new, y_x_new, y_w_new, y_s_new, y_i_ci, y_l_ci, y_d_ci, y_r_ci, y_k_ci, y_n_ci, y_x_ci, y_w_ci, y_s_ci, y_i_cl, y_l_cl, y_d_cl, y_r_cl, y_k_cl, y_n_cl, y_x_cl, y_w_cl, y_s_cl, y_i_qi, y_l_qi, y_d_qi, y_r_qi, y_k_qi, y_n_qi, y_x_qi, y_w_qi, y_s_qi, y_i_ql, y_l_ql, y_d_ql, y_r_ql, y_k_ql, y_n_ql, y_x_ql, y_w_ql, y_s_ql, y_i_qd, y_l_qd, y_d_qd, y_r_qd, y_k_qd, y_n_qd, y_x_qd, y_w_qd, y_s_qd, ↓reduceIte, ↓y_tb, ↓y_tv, ↓y_tr, ↓y_tn, ↓y_ck, ↓y_ib, ↓y_nz2, ↓y_nzl2, ↓y_len2, ↓y_nn2, ↓y_nf2, ↓y_l2d2, y_gb, y_gn, y_gi, y_gv, y_gv', y_grN, y_grS, y_glN, y_glS, Nat.reduceAdd, Nat.reduceMul, Nat.reduceSub, Nat.reduceDiv, Nat.reduceMod, Nat.reduceLT, Nat.reduceLeDiff, y_rb0, y_rb1, y_b0, y_b0', y_10, zL_eq, zL_cl, Nat.add_sub_cancel, implies_true, Int32.reduceLT, Int32.reduceLE, if_true, if_false, true_and, and_true, false_and, and_false, true_or, or_true, false_or, or_false, not_true_eq_false, not_false_eq_true, ne_eq, and_self, or_self, reduceCtorEq, Nat.add_left_cancel_iff, Nat.left_eq_add, Nat.add_eq_left, Nat.reduceEqDiff, zI_of, zI_cl, zI_add, zI_mul, zI_lt, zI_le, zI_eq, zI_mulL, zI_mulR, zI_addL, zI_addR, zI_subR, zI_sub, zI_divR, zI_ltR, zI_ltL, zI_leR, zI_leL, zI_eqR, zI_eqL, zI_neN, zI_neN', zI_ltN, zI_leN, zN_lt, zF1, zF2, zF3, zF4, zF5, zF6, zF7, zF8, zU_lt, zG1, zG2, zG3, zG4, zG5, zG6, zU1, zU2, zU3, zU4, zN_0, zN_le0, zI_lt0, zI_0le, zI_pred, zI_pred', zI_predS, zI_predT, zJ_le, zJ_lt, zJ_leL, zJ_leR, y_cl0, y_0cl, y_cle, y_lec, y_ceq, n_lt, n_le, n_nlt, n_nle,  y_10]
  · simp (disch := first | assumption | omega) only [y_i_wi, y_l_wi, y_d_wi, y_r_wi, y_k_wi, y_n_wi, y_x_wi, y_w_wi, y_s_wi, y_i_wl, y_l_wl, y_d_wl, y_r_wl, y_k_wl, y_n_wl, y_x_wl, y_w_wl, y_s_wl, y_i_wd, y_l_wd, y_d_wd, y_r_wd, y_k_wd, y_n_wd, y_x_wd, y_w_wd, y_s_wd, y_i_wr, y_l_wr, y_d_wr, y_r_wr, y_k_wr, y_n_wr, y_x_wr, y_w_wr, y_s_wr, y_i_new, y_l_new, y_d_new, y_r_new, y_k_new, y_n_new, y_x_new, y_w_new, y_s_new, y_i_ci, y_l_ci, y_d_ci, y_r_ci, y_k_ci, y_n_ci, y_x_ci, y_w_ci, y_s_ci, y_i_cl, y_l_cl, y_d_cl, y_r_cl, y_k_cl, y_n_cl, y_x_cl, y_w_cl, y_s_cl, y_i_qi, y_l_qi, y_d_qi, y_r_qi, y_k_qi, y_n_qi, y_x_qi, y_w_qi, y_s_qi, y_i_ql, y_l_ql, y_d_ql, y_r_ql, y_k_ql, y_n_ql, y_x_ql, y_w_ql, y_s_ql, y_i_qd, y_l_qd, y_d_qd, y_r_qd, y_k_qd, y_n_qd, y_x_qd, y_w_qd, y_s_qd, ↓reduceIte, ↓y_tb, ↓y_tv, ↓y_tr, ↓y_tn, ↓y_ck, ↓y_ib, ↓y_nz2, ↓y_nzl2, ↓y_len2, ↓y_nn2, ↓y_nf2, ↓y_l2d2, y_gb, y_gn, y_gi, y_gv, y_gv', y_grN, y_grS, y_glN, y_glS, Nat.reduceAdd, Nat.reduceMul, Nat.reduceSub, Nat.reduceDiv, Nat.reduceMod, Nat.reduceLT, Nat.reduceLeDiff, y_rb0, y_rb1, y_b0, y_b0', y_10, zL_eq, zL_cl, Nat.add_sub_cancel, implies_true, Int32.reduceLT, Int32.reduceLE, if_true, if_false, true_and, and_true, false_and, and_false, true_or, or_true, false_or, or_false, not_true_eq_false, not_false_eq_true, ne_eq, and_self, or_self, reduceCtorEq, Nat.add_left_cancel_iff, Nat.left_eq_add, Nat.add_eq_left, Nat.reduceEqDiff, zI_of, zI_cl, zI_add, zI_mul, zI_lt, zI_le, zI_eq, zI_mulL, zI_mulR, zI_addL, zI_addR, zI_subR, zI_sub, zI_divR, zI_ltR, zI_ltL, zI_leR, zI_leL, zI_eqR, zI_eqL, zI_neN, zI_neN', zI_ltN, zI_leN, zN_lt, zF1, zF2, zF3, zF4, zF5, zF6, zF7, zF8, zU_lt, zG1, zG2, zG3, zG4, zG5, zG6, zU1, zU2, zU3, zU4, zN_0, zN_le0, zI_lt0, zI_0le, zI_pred, zI_pred', zI_predS, zI_predT, zJ_le, zJ_lt, zJ_leL, zJ_leR, y_cl0, y_0cl, y_cle, y_lec, y_ceq, n_lt, n_le, n_nlt, n_nle,  kc_0 hc, rc_0_0 hc, kc_1 hc, nc_1 hc, rc_0_16 hc, kc_45 hc, rc_45_1 hc, kc_47 hc, nc_47 hc, km_48 hm, rm_48_4 hm, km_49 hm, nm_49 hm, rm_48_5 hm, km_50 hm, nm_50 hm, rm_48_6 hm, km_51 hm, nm_51 hm, rm_48_98 hm, km_111 hm, nm_111 hm, x_fails, x_nameless, x_passes, j_X12_book_174, x_mfails, e_X12_noRow, b_X12_noRow, x_in, x_well, e_X12_wholeOf, b_X12_wholeOf, e_X12_isReal, b_X12_isReal, m2, m3, e0, a3, a4, a5, a8, a9, c24]
    exact Pr_n' h rfl
end BookIn
