/-! bed -/
section Beds
variable {B : Nat} {G : z_Gh} {S S1 T T1 : z_St}
def c12 : Nat → Prop := fun i => i = 1 ∨ i = 2
theorem ok_1 : ok c12 1 := Or.inl (Or.inl rfl)
theorem ok_2 : ok c12 2 := Or.inl (Or.inr rfl)
/-- a bed's ghosts: bed b at a, nf rows of m cells behind it -/
def gBed (G : z_Gh) (a b kd m nf : Nat) : z_Gh := fun i j =>
  if i = 0 ∧ j = 2 then b + 1 else if i = 5 ∧ j = b then a else if i = 6 ∧ j = b then a + 1 else
  if i = 1 ∧ 40 + 16 * b ≤ j ∧ j < 40 + 16 * b + nf then a + 2 + 2 * (j - (40 + 16 * b)) else
  if i = 2 ∧ 40 + 16 * b ≤ j ∧ j < 40 + 16 * b + nf then a + 3 + 2 * (j - (40 + 16 * b)) else
  if i = 3 ∧ 40 + 16 * b ≤ j ∧ j < 40 + 16 * b + nf then kd else
  if i = 4 ∧ 40 + 16 * b ≤ j ∧ j < 40 + 16 * b + nf then m else
  if i = 20 ∧ (j = a ∨ j = a + 1) then 2 else if i = 20 ∧ a + 2 ≤ j then 1 else G i j
theorem gBed_n {a b kd m nf i j : Nat} (h0 : ¬ (i = 0 ∧ j = 2)) (h5 : ¬ (i = 5 ∧ j = b)) (h6 : ¬ (i = 6 ∧ j = b)) (hr : ¬ (1 ≤ i ∧ i ≤ 4 ∧ 40 + 16 * b ≤ j ∧ j < 40 + 16 * b + nf)) (h20 : ¬ (i = 20 ∧ a ≤ j)) : gBed G a b kd m nf i j = G i j := by
  unfold gBed
  rw [if_neg h0, if_neg h5, if_neg h6, if_neg (fun z => hr ⟨by omega, by omega, z.2⟩), if_neg (fun z => hr ⟨by omega, by omega, z.2⟩), if_neg (fun z => hr ⟨by omega, by omega, z.2⟩), if_neg (fun z => hr ⟨by omega, by omega, z.2⟩), if_neg (fun z => h20 ⟨z.1, by omega⟩), if_neg (fun z => h20 ⟨z.1, by omega⟩)]
theorem gBed_0 (a b kd m nf : Nat) : gBed G a b kd m nf 0 2 = b + 1 := if_pos ⟨rfl, rfl⟩
theorem gBed_5 (a b kd m nf : Nat) : gBed G a b kd m nf 5 b = a ∧ gBed G a b kd m nf 6 b = a + 1 := by
  unfold gBed
  rw [if_neg (by omega), if_pos ⟨rfl, rfl⟩, if_neg (by omega), if_neg (by omega), if_pos ⟨rfl, rfl⟩]
  exact ⟨rfl, rfl⟩
theorem gBed_r (a b kd m : Nat) {nf i : Nat} (hi : i < nf) : gBed G a b kd m nf 1 (40 + 16 * b + i) = a + 2 + 2 * i ∧ gBed G a b kd m nf 2 (40 + 16 * b + i) = a + 3 + 2 * i ∧ gBed G a b kd m nf 3 (40 + 16 * b + i) = kd ∧ gBed G a b kd m nf 4 (40 + 16 * b + i) = m := by
  have e : 40 + 16 * b + i - (40 + 16 * b) = i := by omega
  refine ⟨?_, ?_, ?_, ?_⟩
  · unfold gBed
    rw [if_neg (by omega), if_neg (by omega), if_neg (by omega), if_pos (by omega), e]
  · unfold gBed
    rw [if_neg (by omega), if_neg (by omega), if_neg (by omega), if_neg (by omega), if_pos (by omega), e]
  · unfold gBed
    rw [if_neg (by omega), if_neg (by omega), if_neg (by omega), if_neg (by omega), if_neg (by omega), if_pos (by omega)]
  · unfold gBed
    rw [if_neg (by omega), if_neg (by omega), if_neg (by omega), if_neg (by omega), if_neg (by omega), if_neg (by omega), if_pos (by omega)]
theorem gBed_c (a b kd m nf : Nat) : gBed G a b kd m nf 20 a = 2 ∧ gBed G a b kd m nf 20 (a + 1) = 2 ∧ ∀ x, a + 2 ≤ x → gBed G a b kd m nf 20 x = 1 := by
  refine ⟨?_, ?_, fun x hx => ?_⟩
  · unfold gBed
    rw [if_neg (by omega), if_neg (by omega), if_neg (by omega), if_neg (by omega), if_neg (by omega), if_neg (by omega), if_neg (by omega), if_pos (by omega)]
  · unfold gBed
    rw [if_neg (by omega), if_neg (by omega), if_neg (by omega), if_neg (by omega), if_neg (by omega), if_neg (by omega), if_neg (by omega), if_pos (by omega)]
  · unfold gBed
    rw [if_neg (by omega), if_neg (by omega), if_neg (by omega), if_neg (by omega), if_neg (by omega), if_neg (by omega), if_neg (by omega), if_neg (by omega), if_pos (by omega)]
/-- the class while it fills -/
def FI (B : Nat) (G : z_Gh) (S : z_St) (b kd m n i : Nat) (S1 : z_St) : Prop :=
  (z_x S1 = z_x S + 2 + 2 * i ∧ z_w S ≤ z_w S1 ∧ z_w S1 ≤ z_w S + 18 + 66 * i) ∧ fS B G c12 S S1 ∧
  (∀ x, B + 112 ≤ x → x < z_x S → z_k S1 x = z_k S x ∧ z_n S1 x = z_n S x ∧ ∀ j, z_i S1 x j = z_i S x j ∧ z_l S1 x j = z_l S x j ∧ z_r S1 x j = z_r S x j) ∧
  ((∀ j, z_r S1 (B + 2) j = if j = b then some (z_x S) else z_r S (B + 2) j) ∧ (∀ j, z_r S1 (B + 1) j = z_r S (B + 1) j) ∧ ∀ k, z_i S1 B k = z_i S B k) ∧
  (z_k S1 (z_x S) = 2 ∧ z_i S1 (z_x S) 0 = zI kd ∧ z_r S1 (z_x S) 1 = some (z_x S + 1) ∧ z_k S1 (z_x S + 1) = 110 ∧ z_n S1 (z_x S + 1) = n) ∧
  (∀ j, z_r S1 (z_x S + 1) j = if j < i then some (z_x S + 2 + 2 * j) else none) ∧
  ∀ j, j < i → z_k S1 (z_x S + 2 + 2 * j) = 9 ∧ z_i S1 (z_x S + 2 + 2 * j) 0 = zI kd ∧ z_r S1 (z_x S + 2 + 2 * j) 1 = some (z_x S + 3 + 2 * j) ∧ z_k S1 (z_x S + 3 + 2 * j) = 102 ∧ z_n S1 (z_x S + 3 + 2 * j) = m ∧ ∀ f, z_l S1 (z_x S + 3 + 2 * j) f = 0
/-- a new row hung into a strip -/
theorem nwRow (S1 : z_St) {a1 : Nat} (ha : a1 < z_x S1) (i m : Nat) (v : Int32) : ∀ S2, S2 = z_wr (z_wr (z_new (z_wi (z_new S1 9 2) (z_x S1) 0 v) 102 m) (z_x S1) 1 (some (z_x S1 + 1))) a1 i (some (z_x S1)) →
    (z_x S2 = z_x S1 + 2 ∧ z_w S2 = z_w S1 + 2 + m) ∧ (∀ y, y < z_x S1 → z_k S2 y = z_k S1 y ∧ z_n S2 y = z_n S1 y ∧ ∀ j, z_i S2 y j = z_i S1 y j ∧ z_l S2 y j = z_l S1 y j ∧ z_r S2 y j = if y = a1 ∧ j = i then some (z_x S1) else z_r S1 y j) ∧
    z_k S2 (z_x S1) = 9 ∧ z_i S2 (z_x S1) 0 = v ∧ z_r S2 (z_x S1) 1 = some (z_x S1 + 1) ∧ z_k S2 (z_x S1 + 1) = 102 ∧ z_n S2 (z_x S1 + 1) = m ∧ ∀ f, z_l S2 (z_x S1 + 1) f = 0 := by
  intro S2 e
  subst e
  refine ⟨⟨?_, ?_⟩, fun y hy => ⟨?_, ?_, fun j => ⟨?_, ?_, ?_⟩⟩, ?_, ?_, ?_, ?_, ?_, fun f => ?_⟩
  · rw [y_x_wr, y_x_wr, y_x_new, y_x_wi, y_x_new]
  · rw [y_w_wr, y_w_wr, y_w_new, y_w_wi, y_w_new]
  · rw [y_k_wr, y_k_wr, y_k_new, y_x_wi, y_x_new, if_neg (by omega), y_k_wi, y_k_new, if_neg (by omega)]
  · rw [y_n_wr, y_n_wr, y_n_new, y_x_wi, y_x_new, if_neg (by omega), y_n_wi, y_n_new, if_neg (by omega)]
  · rw [y_i_wr, y_i_wr, y_i_new, y_x_wi, y_x_new, if_neg (by omega), y_i_wi, if_neg (by omega), y_i_new, if_neg (by omega)]
  · rw [y_l_wr, y_l_wr, y_l_new, y_x_wi, y_x_new, if_neg (by omega), y_l_wi, y_l_new, if_neg (by omega)]
  · rw [y_r_wr]
    by_cases c : y = a1 ∧ j = i
    · rw [if_pos c, if_pos c]
    · rw [if_neg c, if_neg c, y_r_wr, if_neg (by omega), y_r_new, y_x_wi, y_x_new, if_neg (by omega), y_r_wi, y_r_new, if_neg (by omega)]
  · rw [y_k_wr, y_k_wr, y_k_new, y_x_wi, y_x_new, if_neg (by omega), y_k_wi, y_k_new, if_pos rfl]
  · rw [y_i_wr, y_i_wr, y_i_new, y_x_wi, y_x_new, if_neg (by omega), y_i_wi, if_pos ⟨rfl, rfl⟩]
  · rw [y_r_wr, if_neg (by omega), y_r_wr, if_pos ⟨rfl, rfl⟩]
  · rw [y_k_wr, y_k_wr, y_k_new, y_x_wi, y_x_new, if_pos rfl]
  · rw [y_n_wr, y_n_wr, y_n_new, y_x_wi, y_x_new, if_pos rfl]
  · rw [y_l_wr, y_l_wr, y_l_new, y_x_wi, y_x_new, if_pos rfl]
theorem FI_step {b kd m n i : Nat} (hB : B + 112 ≤ z_x S) (h : FI B G S b kd m n i S1) (hm : m ≤ 64) : FI B G S b kd m n (i + 1) (z_wr (z_wr (z_new (z_wi (z_new S1 9 2) (z_x S1) 0 (zI kd)) 102 m) (z_x S1) 1 (some (z_x S1 + 1))) (z_x S + 1) i (some (z_x S1))) := by
  obtain ⟨⟨x1, x2, x3⟩, f1, o1, ⟨r1, r2, r3⟩, ⟨b1, b2, b3, b4, b5⟩, s1, w1⟩ := h
  obtain ⟨⟨n1, n2⟩, n3, n4, n5, n6, n7, n8, n9⟩ := nwRow S1 (a1 := z_x S + 1) (by omega) i m (zI kd) _ rfl
  have fn : fS B G c12 S (z_wr (z_wr (z_new (z_wi (z_new S1 9 2) (z_x S1) 0 (zI kd)) 102 m) (z_x S1) 1 (some (z_x S1 + 1))) (z_x S + 1) i (some (z_x S1))) := fS_wr (fS_wr (fS_new (fS_wi (fS_new f1 _ _) _ _ _ (at_new (by omega))) _ _) _ _ _ (at_new (by omega))) _ _ _ (at_new (by omega))
  generalize z_wr (z_wr (z_new (z_wi (z_new S1 9 2) (z_x S1) 0 (zI kd)) 102 m) (z_x S1) 1 (some (z_x S1 + 1))) (z_x S + 1) i (some (z_x S1)) = S2 at *
  refine ⟨⟨by omega, by omega, by omega⟩, fn, fun x g1 g2 => ?_, ⟨fun j => ?_, fun j => ?_, fun k => ?_⟩, ⟨?_, ?_, ?_, ?_, ?_⟩, fun j => ?_, fun j hj => ?_⟩
  · obtain ⟨y1, y2, y3⟩ := n3 x (by omega)
    obtain ⟨z1, z2, z3⟩ := o1 x g1 g2
    refine ⟨y1.trans z1, y2.trans z2, fun j => ⟨(y3 j).1.trans (z3 j).1, (y3 j).2.1.trans (z3 j).2.1, ?_⟩⟩
    rw [(y3 j).2.2, if_neg (by omega)]; exact (z3 j).2.2
  · rw [((n3 (B + 2) (by omega)).2.2 j).2.2, if_neg (by omega)]; exact r1 j
  · rw [((n3 (B + 1) (by omega)).2.2 j).2.2, if_neg (by omega)]; exact r2 j
  · rw [((n3 B (by omega)).2.2 k).1]; exact r3 k
  · rw [(n3 (z_x S) (by omega)).1]; exact b1
  · rw [((n3 (z_x S) (by omega)).2.2 0).1]; exact b2
  · rw [((n3 (z_x S) (by omega)).2.2 1).2.2, if_neg (by omega)]; exact b3
  · rw [(n3 (z_x S + 1) (by omega)).1]; exact b4
  · rw [(n3 (z_x S + 1) (by omega)).2.1]; exact b5
  · rw [((n3 (z_x S + 1) (by omega)).2.2 j).2.2, s1]
    by_cases e : j = i
    · rw [if_pos ⟨rfl, e⟩, if_pos (by omega), x1, e]
    · rw [if_neg (fun z => e z.2)]
      by_cases e2 : j < i
      · rw [if_pos e2, if_pos (by omega)]
      · rw [if_neg e2, if_neg (by omega)]
  · by_cases e : j = i
    · have e1 : z_x S + 2 + 2 * j = z_x S1 := by omega
      have e2 : z_x S + 3 + 2 * j = z_x S1 + 1 := by omega
      rw [e1, e2]
      exact ⟨n4, n5, n6, n7, n8, n9⟩
    · obtain ⟨y1, y2, y3⟩ := n3 (z_x S + 2 + 2 * j) (by omega)
      obtain ⟨z1, z2, z3⟩ := n3 (z_x S + 3 + 2 * j) (by omega)
      obtain ⟨w1, w2, w3, w4, w5, w6⟩ := w1 j (by omega)
      refine ⟨y1.trans w1, (y3 0).1.trans w2, ?_, z1.trans w4, z2.trans w5, fun f => (z3 f).2.1.trans (w6 f)⟩
      rw [(y3 1).2.2, if_neg (by omega)]; exact w3
theorem l_fill {b kd m n : Nat} (hB : B + 112 ≤ z_x S) (hm : m ≤ 64) (hn : n ≤ 16) (d : Nat) : ∀ N i S1, n - i = d → i ≤ n → d < N → FI B G S b kd m n i S1 → ∃ S2, l_X1_fill_2 N (z_x S) (zI m) (zI i) S1 = some S2 ∧ FI B G S b kd m n n S2 := by
  induction d with
  | zero =>
    intro N i S1 hd hi hN h
    obtain ⟨N, rfl⟩ : ∃ n, N = n + 1 := ⟨N - 1, by omega⟩
    have : i = n := by omega
    subst this
    refine ⟨S1, ?_, h⟩
    obtain ⟨_, _, _, _, ⟨b1, b2, b3, b4, b5⟩, _⟩ := h
    rw [l_X1_fill_2]
    simp (disch := first | assumption | omega) only [y_i_wi, y_l_wi, y_d_wi, y_r_wi, y_k_wi, y_n_wi, y_x_wi, y_w_wi, y_s_wi, y_i_wl, y_l_wl, y_d_wl, y_r_wl, y_k_wl, y_n_wl, y_x_wl, y_w_wl, y_s_wl, y_i_wd, y_l_wd, y_d_wd, y_r_wd, y_k_wd, y_n_wd, y_x_wd, y_w_wd, y_s_wd, y_i_wr, y_l_wr, y_d_wr, y_r_wr, y_k_wr, y_n_wr, y_x_wr, y_w_wr, y_s_wr, y_i_new, y_l_new, y_d_new, y_r_new, y_k_new, y_n_new, y_x_new, y_w_new, y_s_new, y_i_ci, y_l_ci, y_d_ci, y_r_ci, y_k_ci, y_n_ci, y_x_ci, y_w_ci, y_s_ci, y_i_cl, y_l_cl, y_d_cl, y_r_cl, y_k_cl, y_n_cl, y_x_cl, y_w_cl, y_s_cl, y_i_qi, y_l_qi, y_d_qi, y_r_qi, y_k_qi, y_n_qi, y_x_qi, y_w_qi, y_s_qi, y_i_ql, y_l_ql, y_d_ql, y_r_ql, y_k_ql, y_n_ql, y_x_ql, y_w_ql, y_s_ql, y_i_qd, y_l_qd, y_d_qd, y_r_qd, y_k_qd, y_n_qd, y_x_qd, y_w_qd, y_s_qd, ↓reduceIte, ↓y_tb, ↓y_tv, ↓y_tr, ↓y_tn, ↓y_ck, ↓y_ib, ↓y_nz2, ↓y_nzl2, ↓y_len2, ↓y_nn2, ↓y_nf2, ↓y_l2d2, y_gb, y_gn, y_gi, y_gv, y_gv', y_grN, y_grS, y_glN, y_glS, Nat.reduceAdd, Nat.reduceMul, Nat.reduceSub, Nat.reduceDiv, Nat.reduceMod, Nat.reduceLT, Nat.reduceLeDiff, y_rb0, y_rb1, y_b0, y_b0', y_10, zL_eq, zL_cl, Nat.add_sub_cancel, implies_true, Int32.reduceLT, Int32.reduceLE, if_true, if_false, true_and, and_true, false_and, and_false, true_or, or_true, false_or, or_false, not_true_eq_false, not_false_eq_true, ne_eq, and_self, or_self, reduceCtorEq, Nat.add_left_cancel_iff, Nat.left_eq_add, Nat.add_eq_left, Nat.reduceEqDiff, zI_of, zI_cl, zI_add, zI_mul, zI_lt, zI_le, zI_eq, zI_mulL, zI_mulR, zI_addL, zI_addR, zI_subR, zI_sub, zI_divR, zI_ltR, zI_ltL, zI_leR, zI_leL, zI_eqR, zI_eqL, zI_neN, zI_neN', zI_ltN, zI_leN, zN_lt, zF1, zF2, zF3, zF4, zF5, zF6, zF7, zF8, zU_lt, zG1, zG2, zG3, zG4, zG5, zG6, zU1, zU2, zU3, zU4, zN_0, zN_le0, zI_lt0, zI_0le, zI_pred, zI_pred', zI_predS, zI_predT, zJ_le, zJ_lt, zJ_leL, zJ_leR, y_cl0, y_0cl, y_cle, y_lec, y_ceq, n_lt, n_le, n_nlt, n_nle,  b1, b3, b4, b5]
  | succ d ih =>
    intro N i S1 hd hi hN h
    obtain ⟨N, rfl⟩ : ∃ n, N = n + 1 := ⟨N - 1, by omega⟩
    obtain ⟨S2, s1, s2⟩ := ih N (i + 1) _ (by omega) (by omega) (by omega) (FI_step hB h hm)
    refine ⟨S2, Eq.trans ?_ s1, s2⟩
    obtain ⟨⟨x1, x2, x3⟩, _, _, _, ⟨b1, b2, b3, b4, b5⟩, _⟩ := h
    have ni : ¬ n ≤ i := by omega
    obtain ⟨x, hx⟩ : ∃ x, z_x S1 = x := ⟨_, rfl⟩
    have e1 : ¬ z_x S = x := by omega
    have e2 : ¬ z_x S + 1 = x := by omega
    have e3 : ¬ z_x S = x + 1 := by omega
    have e4 : ¬ z_x S + 1 = x + 1 := by omega
    have e5 : ¬ x = x + 1 := by omega
    have e6 : ¬ 30000 < m := by omega
    rw [l_X1_fill_2]
    simp (disch := first | assumption | omega) only [y_i_wi, y_l_wi, y_d_wi, y_r_wi, y_k_wi, y_n_wi, y_x_wi, y_w_wi, y_s_wi, y_i_wl, y_l_wl, y_d_wl, y_r_wl, y_k_wl, y_n_wl, y_x_wl, y_w_wl, y_s_wl, y_i_wd, y_l_wd, y_d_wd, y_r_wd, y_k_wd, y_n_wd, y_x_wd, y_w_wd, y_s_wd, y_i_wr, y_l_wr, y_d_wr, y_r_wr, y_k_wr, y_n_wr, y_x_wr, y_w_wr, y_s_wr, y_i_new, y_l_new, y_d_new, y_r_new, y_k_new, y_n_new, y_x_new, y_w_new, y_s_new, y_i_ci, y_l_ci, y_d_ci, y_r_ci, y_k_ci, y_n_ci, y_x_ci, y_w_ci, y_s_ci, y_i_cl, y_l_cl, y_d_cl, y_r_cl, y_k_cl, y_n_cl, y_x_cl, y_w_cl, y_s_cl, y_i_qi, y_l_qi, y_d_qi, y_r_qi, y_k_qi, y_n_qi, y_x_qi, y_w_qi, y_s_qi, y_i_ql, y_l_ql, y_d_ql, y_r_ql, y_k_ql, y_n_ql, y_x_ql, y_w_ql, y_s_ql, y_i_qd, y_l_qd, y_d_qd, y_r_qd, y_k_qd, y_n_qd, y_x_qd, y_w_qd, y_s_qd, ↓reduceIte, ↓y_tb, ↓y_tv, ↓y_tr, ↓y_tn, ↓y_ck, ↓y_ib, ↓y_nz2, ↓y_nzl2, ↓y_len2, ↓y_nn2, ↓y_nf2, ↓y_l2d2, y_gb, y_gn, y_gi, y_gv, y_gv', y_grN, y_grS, y_glN, y_glS, Nat.reduceAdd, Nat.reduceMul, Nat.reduceSub, Nat.reduceDiv, Nat.reduceMod, Nat.reduceLT, Nat.reduceLeDiff, y_rb0, y_rb1, y_b0, y_b0', y_10, zL_eq, zL_cl, Nat.add_sub_cancel, implies_true, Int32.reduceLT, Int32.reduceLE, if_true, if_false, true_and, and_true, false_and, and_false, true_or, or_true, false_or, or_false, not_true_eq_false, not_false_eq_true, ne_eq, and_self, or_self, reduceCtorEq, Nat.add_left_cancel_iff, Nat.left_eq_add, Nat.add_eq_left, Nat.reduceEqDiff, zI_of, zI_cl, zI_add, zI_mul, zI_lt, zI_le, zI_eq, zI_mulL, zI_mulR, zI_addL, zI_addR, zI_subR, zI_sub, zI_divR, zI_ltR, zI_ltL, zI_leR, zI_leL, zI_eqR, zI_eqL, zI_neN, zI_neN', zI_ltN, zI_leN, zN_lt, zF1, zF2, zF3, zF4, zF5, zF6, zF7, zF8, zU_lt, zG1, zG2, zG3, zG4, zG5, zG6, zU1, zU2, zU3, zU4, zN_0, zN_le0, zI_lt0, zI_0le, zI_pred, zI_pred', zI_predS, zI_predT, zJ_le, zJ_lt, zJ_leL, zJ_leR, y_cl0, y_0cl, y_cle, y_lec, y_ceq, n_lt, n_le, n_nlt, n_nle,  e_X8_init, b_X8_init, b1, b2, b3, b4, b5, hx, ni, e1, e2, e3, e4, e5, e6]
end Beds
