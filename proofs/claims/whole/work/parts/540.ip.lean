/-! the start: a picture that grows from nothing -/
def lk3 {α : Type} (d : α) : List (Nat × Nat × α) → Nat → Nat → α
  | [], _, _ => d
  | e :: l, j, k => if e.1 = j ∧ e.2.1 = k then e.2.2 else lk3 d l j k
def kF : List (Nat × Nat × Nat) → Nat → Nat × Nat
  | [], _ => (0, 0)
  | e :: l, j => if e.1 = j then e.2 else kF l j
def rF : List (Nat × Nat × Nat) → Nat → Nat → Option Nat
  | [], _, _ => none
  | e :: l, j, k => if e.1 = j ∧ e.2.1 = k then some e.2.2 else rF l j k
def iP (B : Nat) (S0 : z_St) (n w : Nat) (ks us : List (Nat × Nat × Nat)) (iw : List (Nat × Nat × Int32)) (lw : List (Nat × Nat × Int64)) (dw : List (Nat × Nat × UInt64)) (S : z_St) : Prop :=
  (z_x S = B + n ∧ z_w S = z_w S0 + w ∧ z_s S = z_s S0) ∧ (∀ a, a < B → z_k S a = z_k S0 a ∧ z_n S a = z_n S0 a ∧ z_i S a = z_i S0 a) ∧ (∀ j, z_k S (B + j) = (kF ks j).1 ∧ z_n S (B + j) = (kF ks j).2) ∧
  (∀ j k, z_r S (B + j) k = (rF us j k).map (fun x => B + x) ∧ z_i S (B + j) k = lk3 0 iw j k ∧ z_l S (B + j) k = lk3 0 lw j k ∧ z_d S (B + j) k = lk3 0 dw j k) ∧
  ((∀ e ∈ us, e.1 < n) ∧ (∀ e ∈ iw, e.1 < n) ∧ (∀ e ∈ lw, e.1 < n) ∧ ∀ e ∈ dw, e.1 < n)
theorem lk3_no {α : Type} {d : α} {l : List (Nat × Nat × α)} {n j k : Nat} (h : ∀ e ∈ l, e.1 < n) (hj : n ≤ j) : lk3 d l j k = d := by
  induction l with
  | nil => rfl
  | cons e l ih =>
    have h1 := h e List.mem_cons_self
    rw [lk3, if_neg (fun z => by omega)]
    exact ih fun e he => h e (List.mem_cons_of_mem _ he)
theorem rF_no {l : List (Nat × Nat × Nat)} {n j k : Nat} (h : ∀ e ∈ l, e.1 < n) (hj : n ≤ j) : rF l j k = none := by
  induction l with
  | nil => rfl
  | cons e l ih =>
    have h1 := h e List.mem_cons_self
    rw [rF, if_neg (fun z => by omega)]
    exact ih fun e he => h e (List.mem_cons_of_mem _ he)
/-- a row with no entry -/
def noA {α : Type} (l : List (Nat × Nat × α)) (j : Nat) : Bool := l.all (fun e => !(Nat.beq e.1 j))
theorem lk3_noA {α : Type} {d : α} {l : List (Nat × Nat × α)} {j k : Nat} (h : noA l j = true) : lk3 d l j k = d := by
  induction l with
  | nil => rfl
  | cons e l ih =>
    unfold noA at h ih
    rw [List.all_cons, Bool.and_eq_true] at h
    have h1 : ¬ e.1 = j := fun z => by
      have := h.1
      rw [z, Nat.beq_refl] at this
      cases this
    rw [lk3, if_neg (fun z => h1 z.1)]
    exact ih h.2
section Ip
variable {B n w a k c kd ln : Nat} {S0 S : z_St} {ks us : List (Nat × Nat × Nat)} {iw : List (Nat × Nat × Int32)} {lw : List (Nat × Nat × Int64)} {dw : List (Nat × Nat × UInt64)}
theorem iP_new (h : iP B S0 n w ks us iw lw dw S) : iP B S0 (n + 1) (w + ln) ((n, kd, ln) :: ks) us iw lw dw (z_new S kd ln) := by
  obtain ⟨⟨h1, h2, h3⟩, h4, h5, h6, h7, h8, h9, h10⟩ := h
  refine ⟨⟨?_, ?_, h3⟩, fun a ha => ?_, fun j => ?_, fun j k => ?_, fun e he => ?_, fun e he => ?_, fun e he => ?_, fun e he => ?_⟩
  · rw [y_x_new, h1]; omega
  · rw [y_w_new, h2]; omega
  · have ne : ¬ a = z_x S := by omega
    have e1 : z_i (z_new S kd ln) a = z_i S a := funext fun j => by rw [y_i_new, if_neg ne]
    rw [y_k_new, y_n_new, if_neg ne, if_neg ne, e1]
    exact h4 a ha
  · rw [y_k_new, y_n_new, h1]
    by_cases e : j = n
    · subst e
      rw [if_pos rfl, if_pos rfl, kF, if_pos rfl]
      exact ⟨rfl, rfl⟩
    · rw [if_neg (by omega), if_neg (by omega), kF, if_neg (fun z => e z.symm)]
      exact h5 j
  · rw [y_r_new, y_i_new, y_l_new, y_d_new, h1]
    by_cases e : j = n
    · subst e
      rw [if_pos rfl, if_pos rfl, if_pos rfl, if_pos rfl, rF_no h7 (Nat.le_refl _), lk3_no h8 (Nat.le_refl _), lk3_no h9 (Nat.le_refl _), lk3_no h10 (Nat.le_refl _)]
      exact ⟨rfl, rfl, rfl, rfl⟩
    · rw [if_neg (by omega), if_neg (by omega), if_neg (by omega), if_neg (by omega)]
      exact h6 j k
  · have := h7 e he; omega
  · have := h8 e he; omega
  · have := h9 e he; omega
  · have := h10 e he; omega
theorem iP_wr (h : iP B S0 n w ks us iw lw dw S) (ha : a < n) : iP B S0 n w ks ((a, k, c) :: us) iw lw dw (z_wr S (B + a) k (some (B + c))) := by
  obtain ⟨h1, h4, h5, h6, h7, h8, h9, h10⟩ := h
  refine ⟨h1, h4, h5, fun j i => ?_, fun e he => ?_, h8, h9, h10⟩
  · refine ⟨?_, (h6 j i).2⟩
    rw [y_r_wr, rF]
    by_cases e : a = j ∧ k = i
    · rw [if_pos ⟨by omega, e.2.symm⟩, if_pos e]; rfl
    · rw [if_neg (fun z => e ⟨by omega, z.2.symm⟩), if_neg e]; exact (h6 j i).1
  · rcases List.mem_cons.mp he with rfl | he
    · exact ha
    · exact h7 e he
theorem iP_wi {x : Int32} (h : iP B S0 n w ks us iw lw dw S) (ha : a < n) : iP B S0 n w ks us ((a, k, x) :: iw) lw dw (z_wi S (B + a) k x) := by
  obtain ⟨h1, h4, h5, h6, h7, h8, h9, h10⟩ := h
  refine ⟨h1, fun q hq => ?_, h5, fun j i => ?_, h7, fun e he => ?_, h9, h10⟩
  · have e1 : z_i (z_wi S (B + a) k x) q = z_i S q := funext fun j => by rw [y_i_wi, if_neg (by omega)]
    rw [e1]
    exact h4 q hq
  · refine ⟨(h6 j i).1, ?_, (h6 j i).2.2⟩
    rw [y_i_wi, lk3]
    by_cases e : a = j ∧ k = i
    · rw [if_pos ⟨by omega, e.2.symm⟩, if_pos e]
    · rw [if_neg (fun z => e ⟨by omega, z.2.symm⟩), if_neg e]; exact (h6 j i).2.1
  · rcases List.mem_cons.mp he with rfl | he
    · exact ha
    · exact h8 e he
theorem iP_wl {x : Int64} (h : iP B S0 n w ks us iw lw dw S) (ha : a < n) : iP B S0 n w ks us iw ((a, k, x) :: lw) dw (z_wl S (B + a) k x) := by
  obtain ⟨h1, h4, h5, h6, h7, h8, h9, h10⟩ := h
  refine ⟨h1, h4, h5, fun j i => ?_, h7, h8, fun e he => ?_, h10⟩
  · refine ⟨(h6 j i).1, (h6 j i).2.1, ?_, (h6 j i).2.2.2⟩
    rw [y_l_wl, lk3]
    by_cases e : a = j ∧ k = i
    · rw [if_pos ⟨by omega, e.2.symm⟩, if_pos e]
    · rw [if_neg (fun z => e ⟨by omega, z.2.symm⟩), if_neg e]; exact (h6 j i).2.2.1
  · rcases List.mem_cons.mp he with rfl | he
    · exact ha
    · exact h9 e he
theorem iP_wd {x : UInt64} (h : iP B S0 n w ks us iw lw dw S) (ha : a < n) : iP B S0 n w ks us iw lw ((a, k, x) :: dw) (z_wd S (B + a) k x) := by
  obtain ⟨h1, h4, h5, h6, h7, h8, h9, h10⟩ := h
  refine ⟨h1, h4, h5, fun j i => ?_, h7, h8, h9, fun e he => ?_⟩
  · refine ⟨(h6 j i).1, (h6 j i).2.1, (h6 j i).2.2.1, ?_⟩
    rw [y_d_wd, lk3]
    by_cases e : a = j ∧ k = i
    · rw [if_pos ⟨by omega, e.2.symm⟩, if_pos e]
    · rw [if_neg (fun z => e ⟨by omega, z.2.symm⟩), if_neg e]; exact (h6 j i).2.2.2
  · rcases List.mem_cons.mp he with rfl | he
    · exact ha
    · exact h10 e he
theorem iP_wr0 (h : iP B S0 n w ks us iw lw dw S) (ha : 0 < n) : iP B S0 n w ks ((0, k, c) :: us) iw lw dw (z_wr S B k (some (B + c))) := iP_wr (a := 0) h ha
theorem iP_wi0 {x : Int32} (h : iP B S0 n w ks us iw lw dw S) (ha : 0 < n) : iP B S0 n w ks us ((0, k, x) :: iw) lw dw (z_wi S B k x) := iP_wi (a := 0) h ha
theorem iP_wd0 {x : UInt64} (h : iP B S0 n w ks us iw lw dw S) (ha : 0 < n) : iP B S0 n w ks us iw lw ((0, k, x) :: dw) (z_wd S B k x) := iP_wd (a := 0) h ha
theorem iP_k (h : iP B S0 n w ks us iw lw dw S) (j : Nat) : z_k S (B + j) = (kF ks j).1 := (h.2.2.1 j).1
theorem iP_k0 (h : iP B S0 n w ks us iw lw dw S) : z_k S B = (kF ks 0).1 := iP_k h 0
theorem iP_n (h : iP B S0 n w ks us iw lw dw S) (j : Nat) : z_n S (B + j) = (kF ks j).2 := (h.2.2.1 j).2
theorem iP_r (h : iP B S0 n w ks us iw lw dw S) (j k : Nat) : z_r S (B + j) k = (rF us j k).map (fun x => B + x) := (h.2.2.2.1 j k).1
theorem iP_r0 (h : iP B S0 n w ks us iw lw dw S) (k : Nat) : z_r S B k = (rF us 0 k).map (fun x => B + x) := iP_r h 0 k
/-! the loops -/
def wrs {α : Type} (a : Nat) (x : α) : Nat → Nat → List (Nat × Nat × α) → List (Nat × Nat × α)
  | _, 0, l => l
  | i, j + 1, l => wrs a x (i + 1) j ((a, i, x) :: l)
theorem i_66 (j : Nat) : ∀ N i S lw, i + j = 4 → iP B S0 n w ks us iw lw dw S → 19 < n → kF ks 17 = (7, 17) → kF ks 19 = (102, 4) → rF us 17 12 = some 19 → ∃ S', l_X6_init_66 (N + 1 + j) (B + 17) (zI i) S = some S' ∧ iP B S0 n w ks us iw (wrs 19 9221120237041090560 i j lw) dw S' := by
  induction j with
  | zero =>
    intro N i S lw hi h hn k1 k2 k3
    obtain rfl : i = 4 := by omega
    refine ⟨S, ?_, h⟩
    show l_X6_init_66 (N + 1) _ _ _ = _
    rw [l_X6_init_66]
    exact if_pos (by decide)
  | succ j ih =>
    intro N i S lw hi h hn k1 k2 k3
    have ni : ¬ 4 ≤ i := by omega
    have q1 := iP_k h 17
    have q2 := iP_k h 19
    have q3 := iP_n h 19
    have q4 := iP_r h 17 12
    rw [k1] at q1
    rw [k2] at q2 q3
    rw [k3] at q4
    dsimp only [Option.map] at q1 q2 q3 q4
    obtain ⟨S', r1, r2⟩ := ih N (i + 1) (z_wl S (B + 19) i 9221120237041090560) _ (by omega) (iP_wl h hn) hn k1 k2 k3
    refine ⟨S', Eq.trans ?_ r1, r2⟩
    rw [show N + 1 + (j + 1) = N + 1 + j + 1 by omega, l_X6_init_66]
    simp (disch := first | assumption | omega) only [y_i_wi, y_l_wi, y_d_wi, y_r_wi, y_k_wi, y_n_wi, y_x_wi, y_w_wi, y_s_wi, y_i_wl, y_l_wl, y_d_wl, y_r_wl, y_k_wl, y_n_wl, y_x_wl, y_w_wl, y_s_wl, y_i_wd, y_l_wd, y_d_wd, y_r_wd, y_k_wd, y_n_wd, y_x_wd, y_w_wd, y_s_wd, y_i_wr, y_l_wr, y_d_wr, y_r_wr, y_k_wr, y_n_wr, y_x_wr, y_w_wr, y_s_wr, y_i_new, y_l_new, y_d_new, y_r_new, y_k_new, y_n_new, y_x_new, y_w_new, y_s_new, y_i_ci, y_l_ci, y_d_ci, y_r_ci, y_k_ci, y_n_ci, y_x_ci, y_w_ci, y_s_ci, y_i_cl, y_l_cl, y_d_cl, y_r_cl, y_k_cl, y_n_cl, y_x_cl, y_w_cl, y_s_cl, y_i_qi, y_l_qi, y_d_qi, y_r_qi, y_k_qi, y_n_qi, y_x_qi, y_w_qi, y_s_qi, y_i_ql, y_l_ql, y_d_ql, y_r_ql, y_k_ql, y_n_ql, y_x_ql, y_w_ql, y_s_ql, y_i_qd, y_l_qd, y_d_qd, y_r_qd, y_k_qd, y_n_qd, y_x_qd, y_w_qd, y_s_qd, ↓reduceIte, ↓y_tb, ↓y_tv, ↓y_tr, ↓y_tn, ↓y_ck, ↓y_ib, ↓y_nz2, ↓y_nzl2, ↓y_len2, ↓y_nn2, ↓y_nf2, ↓y_l2d2, y_gb, y_gn, y_gi, y_gv, y_gv', y_grN, y_grS, y_glN, y_glS, Nat.reduceAdd, Nat.reduceMul, Nat.reduceSub, Nat.reduceDiv, Nat.reduceMod, Nat.reduceLT, Nat.reduceLeDiff, y_rb0, y_rb1, y_b0, y_b0', y_10, zL_eq, zL_cl, Nat.add_sub_cancel, implies_true, Int32.reduceLT, Int32.reduceLE, if_true, if_false, true_and, and_true, false_and, and_false, true_or, or_true, false_or, or_false, not_true_eq_false, not_false_eq_true, ne_eq, and_self, or_self, reduceCtorEq, Nat.add_left_cancel_iff, Nat.left_eq_add, Nat.add_eq_left, Nat.reduceEqDiff, zI_of, zI_cl, zI_add, zI_mul, zI_lt, zI_le, zI_eq, zI_mulL, zI_mulR, zI_addL, zI_addR, zI_subR, zI_sub, zI_divR, zI_ltR, zI_ltL, zI_leR, zI_leL, zI_eqR, zI_eqL, zI_neN, zI_neN', zI_ltN, zI_leN, zN_lt, zF1, zF2, zF3, zF4, zF5, zF6, zF7, zF8, zU_lt, zG1, zG2, zG3, zG4, zG5, zG6, zU1, zU2, zU3, zU4, zN_0, zN_le0, zI_lt0, zI_0le, zI_pred, zI_pred', zI_predS, zI_predT, zJ_le, zJ_lt, zJ_leL, zJ_leR, y_cl0, y_0cl, y_cle, y_lec, y_ceq, n_lt, n_le, n_nlt, n_nle,  ni, q1, q2, q3, q4]
theorem i_76 (j : Nat) : ∀ N i S lw, i + j = 24 → iP B S0 n w ks us iw lw dw S → 25 < n → kF ks 23 = (11, 6) → kF ks 25 = (102, 24) → rF us 23 2 = some 25 → ∃ S', l_X10_init_76 (N + 1 + j) (B + 23) (zI i) S = some S' ∧ iP B S0 n w ks us iw (wrs 25 9221120237041090560 i j lw) dw S' := by
  induction j with
  | zero =>
    intro N i S lw hi h hn k1 k2 k3
    obtain rfl : i = 24 := by omega
    have q1 := iP_k h 23
    have q2 := iP_k h 25
    have q3 := iP_n h 25
    have q4 := iP_r h 23 2
    rw [k1] at q1
    rw [k2] at q2 q3
    rw [k3] at q4
    dsimp only [Option.map] at q1 q2 q3 q4
    refine ⟨S, ?_, h⟩
    show l_X10_init_76 (N + 1) _ _ _ = _
    have e24 : Int32.ofNat 24 ≤ zI 24 := by decide
    rw [l_X10_init_76]
    simp (disch := first | assumption | omega) only [y_i_wi, y_l_wi, y_d_wi, y_r_wi, y_k_wi, y_n_wi, y_x_wi, y_w_wi, y_s_wi, y_i_wl, y_l_wl, y_d_wl, y_r_wl, y_k_wl, y_n_wl, y_x_wl, y_w_wl, y_s_wl, y_i_wd, y_l_wd, y_d_wd, y_r_wd, y_k_wd, y_n_wd, y_x_wd, y_w_wd, y_s_wd, y_i_wr, y_l_wr, y_d_wr, y_r_wr, y_k_wr, y_n_wr, y_x_wr, y_w_wr, y_s_wr, y_i_new, y_l_new, y_d_new, y_r_new, y_k_new, y_n_new, y_x_new, y_w_new, y_s_new, y_i_ci, y_l_ci, y_d_ci, y_r_ci, y_k_ci, y_n_ci, y_x_ci, y_w_ci, y_s_ci, y_i_cl, y_l_cl, y_d_cl, y_r_cl, y_k_cl, y_n_cl, y_x_cl, y_w_cl, y_s_cl, y_i_qi, y_l_qi, y_d_qi, y_r_qi, y_k_qi, y_n_qi, y_x_qi, y_w_qi, y_s_qi, y_i_ql, y_l_ql, y_d_ql, y_r_ql, y_k_ql, y_n_ql, y_x_ql, y_w_ql, y_s_ql, y_i_qd, y_l_qd, y_d_qd, y_r_qd, y_k_qd, y_n_qd, y_x_qd, y_w_qd, y_s_qd, ↓reduceIte, ↓y_tb, ↓y_tv, ↓y_tr, ↓y_tn, ↓y_ck, ↓y_ib, ↓y_nz2, ↓y_nzl2, ↓y_len2, ↓y_nn2, ↓y_nf2, ↓y_l2d2, y_gb, y_gn, y_gi, y_gv, y_gv', y_grN, y_grS, y_glN, y_glS, Nat.reduceAdd, Nat.reduceMul, Nat.reduceSub, Nat.reduceDiv, Nat.reduceMod, Nat.reduceLT, Nat.reduceLeDiff, y_rb0, y_rb1, y_b0, y_b0', y_10, zL_eq, zL_cl, Nat.add_sub_cancel, implies_true, Int32.reduceLT, Int32.reduceLE, if_true, if_false, true_and, and_true, false_and, and_false, true_or, or_true, false_or, or_false, not_true_eq_false, not_false_eq_true, ne_eq, and_self, or_self, reduceCtorEq, Nat.add_left_cancel_iff, Nat.left_eq_add, Nat.add_eq_left, Nat.reduceEqDiff, zI_of, zI_cl, zI_add, zI_mul, zI_lt, zI_le, zI_eq, zI_mulL, zI_mulR, zI_addL, zI_addR, zI_subR, zI_sub, zI_divR, zI_ltR, zI_ltL, zI_leR, zI_leL, zI_eqR, zI_eqL, zI_neN, zI_neN', zI_ltN, zI_leN, zN_lt, zF1, zF2, zF3, zF4, zF5, zF6, zF7, zF8, zU_lt, zG1, zG2, zG3, zG4, zG5, zG6, zU1, zU2, zU3, zU4, zN_0, zN_le0, zI_lt0, zI_0le, zI_pred, zI_pred', zI_predS, zI_predT, zJ_le, zJ_lt, zJ_leL, zJ_leR, y_cl0, y_0cl, y_cle, y_lec, y_ceq, n_lt, n_le, n_nlt, n_nle,  q1, q2, q3, q4, e24]
  | succ j ih =>
    intro N i S lw hi h hn k1 k2 k3
    have ni : ¬ 24 ≤ i := by omega
    have q1 := iP_k h 23
    have q2 := iP_k h 25
    have q3 := iP_n h 25
    have q4 := iP_r h 23 2
    rw [k1] at q1
    rw [k2] at q2 q3
    rw [k3] at q4
    dsimp only [Option.map] at q1 q2 q3 q4
    obtain ⟨S', r1, r2⟩ := ih N (i + 1) (z_wl S (B + 25) i 9221120237041090560) _ (by omega) (iP_wl h hn) hn k1 k2 k3
    refine ⟨S', Eq.trans ?_ r1, r2⟩
    rw [show N + 1 + (j + 1) = N + 1 + j + 1 by omega, l_X10_init_76]
    simp (disch := first | assumption | omega) only [y_i_wi, y_l_wi, y_d_wi, y_r_wi, y_k_wi, y_n_wi, y_x_wi, y_w_wi, y_s_wi, y_i_wl, y_l_wl, y_d_wl, y_r_wl, y_k_wl, y_n_wl, y_x_wl, y_w_wl, y_s_wl, y_i_wd, y_l_wd, y_d_wd, y_r_wd, y_k_wd, y_n_wd, y_x_wd, y_w_wd, y_s_wd, y_i_wr, y_l_wr, y_d_wr, y_r_wr, y_k_wr, y_n_wr, y_x_wr, y_w_wr, y_s_wr, y_i_new, y_l_new, y_d_new, y_r_new, y_k_new, y_n_new, y_x_new, y_w_new, y_s_new, y_i_ci, y_l_ci, y_d_ci, y_r_ci, y_k_ci, y_n_ci, y_x_ci, y_w_ci, y_s_ci, y_i_cl, y_l_cl, y_d_cl, y_r_cl, y_k_cl, y_n_cl, y_x_cl, y_w_cl, y_s_cl, y_i_qi, y_l_qi, y_d_qi, y_r_qi, y_k_qi, y_n_qi, y_x_qi, y_w_qi, y_s_qi, y_i_ql, y_l_ql, y_d_ql, y_r_ql, y_k_ql, y_n_ql, y_x_ql, y_w_ql, y_s_ql, y_i_qd, y_l_qd, y_d_qd, y_r_qd, y_k_qd, y_n_qd, y_x_qd, y_w_qd, y_s_qd, ↓reduceIte, ↓y_tb, ↓y_tv, ↓y_tr, ↓y_tn, ↓y_ck, ↓y_ib, ↓y_nz2, ↓y_nzl2, ↓y_len2, ↓y_nn2, ↓y_nf2, ↓y_l2d2, y_gb, y_gn, y_gi, y_gv, y_gv', y_grN, y_grS, y_glN, y_glS, Nat.reduceAdd, Nat.reduceMul, Nat.reduceSub, Nat.reduceDiv, Nat.reduceMod, Nat.reduceLT, Nat.reduceLeDiff, y_rb0, y_rb1, y_b0, y_b0', y_10, zL_eq, zL_cl, Nat.add_sub_cancel, implies_true, Int32.reduceLT, Int32.reduceLE, if_true, if_false, true_and, and_true, false_and, and_false, true_or, or_true, false_or, or_false, not_true_eq_false, not_false_eq_true, ne_eq, and_self, or_self, reduceCtorEq, Nat.add_left_cancel_iff, Nat.left_eq_add, Nat.add_eq_left, Nat.reduceEqDiff, zI_of, zI_cl, zI_add, zI_mul, zI_lt, zI_le, zI_eq, zI_mulL, zI_mulR, zI_addL, zI_addR, zI_subR, zI_sub, zI_divR, zI_ltR, zI_ltL, zI_leR, zI_leL, zI_eqR, zI_eqL, zI_neN, zI_neN', zI_ltN, zI_leN, zN_lt, zF1, zF2, zF3, zF4, zF5, zF6, zF7, zF8, zU_lt, zG1, zG2, zG3, zG4, zG5, zG6, zU1, zU2, zU3, zU4, zN_0, zN_le0, zI_lt0, zI_0le, zI_pred, zI_pred', zI_predS, zI_predT, zJ_le, zJ_lt, zJ_leL, zJ_leR, y_cl0, y_0cl, y_cle, y_lec, y_ceq, n_lt, n_le, n_nlt, n_nle,  ni, q1, q2, q3, q4]
theorem i_53 (j : Nat) : ∀ N i S lw, i + j = 6 → iP B S0 n w ks us iw lw dw S → 25 < n → kF ks 23 = (11, 6) → kF ks 24 = (102, 6) → rF us 23 0 = some 24 → kF ks 25 = (102, 24) → rF us 23 2 = some 25 → ∃ S', l_X10_init_53 (N + 1 + j) (B + 23) (zI i) S = some S' ∧ iP B S0 n w ks us iw (wrs 25 9221120237041090560 0 24 (wrs 24 9221120237041090560 i j lw)) dw S' := by
  induction j with
  | zero =>
    intro N i S lw hi h hn k1 k2 k3 k4 k5
    obtain rfl : i = 6 := by omega
    obtain ⟨S', r1, r2⟩ := i_76 24 2975 0 S lw rfl h hn k1 k4 k5
    refine ⟨S', ?_, r2⟩
    show l_X10_init_53 (N + 1) _ _ _ = _
    have zn : z_N = 2975 + 1 + 24 := by rw [z_N_eq]
    have e6 : ((6 : Int32) ≤ zI 6) := by decide
    rw [l_X10_init_53]
    dsimp only
    rw [if_pos e6, zn]
    exact r1
  | succ j ih =>
    intro N i S lw hi h hn k1 k2 k3 k4 k5
    have ni : ¬ 6 ≤ i := by omega
    have q1 := iP_k h 23
    have q2 := iP_k h 24
    have q3 := iP_n h 24
    have q4 := iP_r h 23 0
    rw [k1] at q1
    rw [k2] at q2 q3
    rw [k3] at q4
    dsimp only [Option.map] at q1 q2 q3 q4
    obtain ⟨S', r1, r2⟩ := ih N (i + 1) (z_wl S (B + 24) i 9221120237041090560) _ (by omega) (iP_wl h (by omega)) hn k1 k2 k3 k4 k5
    refine ⟨S', Eq.trans ?_ r1, r2⟩
    rw [show N + 1 + (j + 1) = N + 1 + j + 1 by omega, l_X10_init_53]
    simp (disch := first | assumption | omega) only [y_i_wi, y_l_wi, y_d_wi, y_r_wi, y_k_wi, y_n_wi, y_x_wi, y_w_wi, y_s_wi, y_i_wl, y_l_wl, y_d_wl, y_r_wl, y_k_wl, y_n_wl, y_x_wl, y_w_wl, y_s_wl, y_i_wd, y_l_wd, y_d_wd, y_r_wd, y_k_wd, y_n_wd, y_x_wd, y_w_wd, y_s_wd, y_i_wr, y_l_wr, y_d_wr, y_r_wr, y_k_wr, y_n_wr, y_x_wr, y_w_wr, y_s_wr, y_i_new, y_l_new, y_d_new, y_r_new, y_k_new, y_n_new, y_x_new, y_w_new, y_s_new, y_i_ci, y_l_ci, y_d_ci, y_r_ci, y_k_ci, y_n_ci, y_x_ci, y_w_ci, y_s_ci, y_i_cl, y_l_cl, y_d_cl, y_r_cl, y_k_cl, y_n_cl, y_x_cl, y_w_cl, y_s_cl, y_i_qi, y_l_qi, y_d_qi, y_r_qi, y_k_qi, y_n_qi, y_x_qi, y_w_qi, y_s_qi, y_i_ql, y_l_ql, y_d_ql, y_r_ql, y_k_ql, y_n_ql, y_x_ql, y_w_ql, y_s_ql, y_i_qd, y_l_qd, y_d_qd, y_r_qd, y_k_qd, y_n_qd, y_x_qd, y_w_qd, y_s_qd, ↓reduceIte, ↓y_tb, ↓y_tv, ↓y_tr, ↓y_tn, ↓y_ck, ↓y_ib, ↓y_nz2, ↓y_nzl2, ↓y_len2, ↓y_nn2, ↓y_nf2, ↓y_l2d2, y_gb, y_gn, y_gi, y_gv, y_gv', y_grN, y_grS, y_glN, y_glS, Nat.reduceAdd, Nat.reduceMul, Nat.reduceSub, Nat.reduceDiv, Nat.reduceMod, Nat.reduceLT, Nat.reduceLeDiff, y_rb0, y_rb1, y_b0, y_b0', y_10, zL_eq, zL_cl, Nat.add_sub_cancel, implies_true, Int32.reduceLT, Int32.reduceLE, if_true, if_false, true_and, and_true, false_and, and_false, true_or, or_true, false_or, or_false, not_true_eq_false, not_false_eq_true, ne_eq, and_self, or_self, reduceCtorEq, Nat.add_left_cancel_iff, Nat.left_eq_add, Nat.add_eq_left, Nat.reduceEqDiff, zI_of, zI_cl, zI_add, zI_mul, zI_lt, zI_le, zI_eq, zI_mulL, zI_mulR, zI_addL, zI_addR, zI_subR, zI_sub, zI_divR, zI_ltR, zI_ltL, zI_leR, zI_leL, zI_eqR, zI_eqL, zI_neN, zI_neN', zI_ltN, zI_leN, zN_lt, zF1, zF2, zF3, zF4, zF5, zF6, zF7, zF8, zU_lt, zG1, zG2, zG3, zG4, zG5, zG6, zU1, zU2, zU3, zU4, zN_0, zN_le0, zI_lt0, zI_0le, zI_pred, zI_pred', zI_predS, zI_predT, zJ_le, zJ_lt, zJ_leL, zJ_leR, y_cl0, y_0cl, y_cle, y_lec, y_ceq, n_lt, n_le, n_nlt, n_nle,  ni, q1, q2, q3, q4]
theorem i_575 (j : Nat) : ∀ N i S iw, i + j = 6 → iP B S0 n w ks us iw lw dw S → 46 < n → kF ks 0 = (13, 100) → kF ks 46 = (101, 6) → rF us 0 77 = some 46 → ∃ S', l_X12_init_575 (N + 1 + j) B (zI i) S = some S' ∧ iP B S0 n w ks us (wrs 46 (-1) i j iw) lw dw S' := by
  induction j with
  | zero =>
    intro N i S iw hi h hn k1 k2 k3
    obtain rfl : i = 6 := by omega
    refine ⟨S, ?_, h⟩
    show l_X12_init_575 (N + 1) _ _ _ = _
    rw [l_X12_init_575]
    exact if_pos (by decide)
  | succ j ih =>
    intro N i S iw hi h hn k1 k2 k3
    have ni : ¬ 6 ≤ i := by omega
    have q1 := iP_k0 h
    have q2 := iP_k h 46
    have q3 := iP_n h 46
    have q4 := iP_r0 h 77
    rw [k1] at q1
    rw [k2] at q2 q3
    rw [k3] at q4
    dsimp only [Option.map] at q1 q2 q3 q4
    obtain ⟨S', r1, r2⟩ := ih N (i + 1) (z_wi S (B + 46) i (-1)) _ (by omega) (iP_wi h hn) hn k1 k2 k3
    refine ⟨S', Eq.trans ?_ r1, r2⟩
    rw [show N + 1 + (j + 1) = N + 1 + j + 1 by omega, l_X12_init_575]
    simp (disch := first | assumption | omega) only [y_i_wi, y_l_wi, y_d_wi, y_r_wi, y_k_wi, y_n_wi, y_x_wi, y_w_wi, y_s_wi, y_i_wl, y_l_wl, y_d_wl, y_r_wl, y_k_wl, y_n_wl, y_x_wl, y_w_wl, y_s_wl, y_i_wd, y_l_wd, y_d_wd, y_r_wd, y_k_wd, y_n_wd, y_x_wd, y_w_wd, y_s_wd, y_i_wr, y_l_wr, y_d_wr, y_r_wr, y_k_wr, y_n_wr, y_x_wr, y_w_wr, y_s_wr, y_i_new, y_l_new, y_d_new, y_r_new, y_k_new, y_n_new, y_x_new, y_w_new, y_s_new, y_i_ci, y_l_ci, y_d_ci, y_r_ci, y_k_ci, y_n_ci, y_x_ci, y_w_ci, y_s_ci, y_i_cl, y_l_cl, y_d_cl, y_r_cl, y_k_cl, y_n_cl, y_x_cl, y_w_cl, y_s_cl, y_i_qi, y_l_qi, y_d_qi, y_r_qi, y_k_qi, y_n_qi, y_x_qi, y_w_qi, y_s_qi, y_i_ql, y_l_ql, y_d_ql, y_r_ql, y_k_ql, y_n_ql, y_x_ql, y_w_ql, y_s_ql, y_i_qd, y_l_qd, y_d_qd, y_r_qd, y_k_qd, y_n_qd, y_x_qd, y_w_qd, y_s_qd, ↓reduceIte, ↓y_tb, ↓y_tv, ↓y_tr, ↓y_tn, ↓y_ck, ↓y_ib, ↓y_nz2, ↓y_nzl2, ↓y_len2, ↓y_nn2, ↓y_nf2, ↓y_l2d2, y_gb, y_gn, y_gi, y_gv, y_gv', y_grN, y_grS, y_glN, y_glS, Nat.reduceAdd, Nat.reduceMul, Nat.reduceSub, Nat.reduceDiv, Nat.reduceMod, Nat.reduceLT, Nat.reduceLeDiff, y_rb0, y_rb1, y_b0, y_b0', y_10, zL_eq, zL_cl, Nat.add_sub_cancel, implies_true, Int32.reduceLT, Int32.reduceLE, if_true, if_false, true_and, and_true, false_and, and_false, true_or, or_true, false_or, or_false, not_true_eq_false, not_false_eq_true, ne_eq, and_self, or_self, reduceCtorEq, Nat.add_left_cancel_iff, Nat.left_eq_add, Nat.add_eq_left, Nat.reduceEqDiff, zI_of, zI_cl, zI_add, zI_mul, zI_lt, zI_le, zI_eq, zI_mulL, zI_mulR, zI_addL, zI_addR, zI_subR, zI_sub, zI_divR, zI_ltR, zI_ltL, zI_leR, zI_leL, zI_eqR, zI_eqL, zI_neN, zI_neN', zI_ltN, zI_leN, zN_lt, zF1, zF2, zF3, zF4, zF5, zF6, zF7, zF8, zU_lt, zG1, zG2, zG3, zG4, zG5, zG6, zU1, zU2, zU3, zU4, zN_0, zN_le0, zI_lt0, zI_0le, zI_pred, zI_pred', zI_predS, zI_predT, zJ_le, zJ_lt, zJ_leL, zJ_leR, y_cl0, y_0cl, y_cle, y_lec, y_ceq, n_lt, n_le, n_nlt, n_nle,  ni, q1, q2, q3, q4]
end Ip
