/-! the combinators and the smallest methods, in closed form -/
theorem y_ck {ρ : Type} (S : z_St) (a c : Nat) (x : Option ρ) : z_chk S a c x = if z_k S a = c then x else none := rfl
theorem y_ib {ρ : Type} (S : z_St) (a c : Nat) (i : Int32) (x : Option ρ) : z_inb S a c i x = if z_k S a = c then (if i < 0 ∨ z_n S a ≤ i.toNatClampNeg then none else x) else none := rfl
theorem y_nz2 {ρ : Type} (y : Int32) (x : Option ρ) : z_nz y x = if y = 0 then none else x := rfl
theorem y_bn {α β : Type} (f : α → Option β) : (none : Option α).bind f = none := rfl
theorem y_bI {α β : Type} (c : Prop) (d : Decidable c) (a b : Option α) (f : α → Option β) : (@ite (Option α) c d a b).bind f = @ite (Option β) c d (a.bind f) (b.bind f) := by
  by_cases h : c
  · rw [if_pos h, if_pos h]
  · rw [if_neg h, if_neg h]
section Exec
variable {B : Nat} {S T : z_St}
theorem x_outOf (v a b : Int32) (S : z_St) : f_X11_outOf v a b S = some (if v < a ∨ b < v then 1 else 0, S) := by
  rw [e_X11_outOf]; unfold b_X11_outOf
  by_cases h : v < a
  · simp only [h, if_true, true_or, y_rb1]
  · by_cases h2 : v ≤ b
    · have : ¬ b < v := Int32.not_lt.mpr h2
      simp only [h, h2, this, if_true, if_false, or_self, y_rb0]
    · have : b < v := Int32.not_le.mp h2
      simp only [h, h2, this, if_true, if_false, or_true, y_rb1]
theorem x_nameless (v n : Int32) (S : z_St) : f_X11_nameless v n S = some (if v < -1 ∨ n ≤ v then 1 else 0, S) := by
  rw [e_X11_nameless]; unfold b_X11_nameless
  by_cases h : v < -1
  · simp only [h, if_true, true_or, y_rb1]
  · by_cases h2 : v < n
    · have : ¬ n ≤ v := Int32.not_le.mpr h2
      simp only [h, h2, this, if_true, if_false, or_self, y_rb0]
    · have : n ≤ v := Int32.not_lt.mp h2
      simp only [h, h2, this, if_true, if_false, or_true, y_rb1]
theorem x_in (v a b : Int64) (S : z_St) : f_X12_in v a b S = some (if a ≤ v ∧ v ≤ b then 1 else 0, S) := by
  rw [e_X12_in]; unfold b_X12_in
  simp only [y_cl0, y_0cl]
  by_cases h : v < a
  · have : ¬ a ≤ v := Int64.not_le.mpr h
    simp only [h, this, if_true, if_false, false_and, y_rb0]
  · have h1 : a ≤ v := Int64.not_lt.mp h
    by_cases h2 : b < v
    · have : ¬ v ≤ b := Int64.not_le.mpr h2
      simp only [h, h2, this, if_true, if_false, and_false, y_rb0]
    · have : v ≤ b := Int64.not_lt.mp h2
      simp only [h, h1, h2, this, if_true, if_false, and_self, y_rb1]
theorem x_failsWith (h : z_k S B = 12) (e w : Int32) : f_X11_failsWith B e w S = some (-2000000010 - e, z_wi (z_wi S B 17 e) B 18 w) := by
  rw [e_X11_failsWith]; unfold b_X11_failsWith
  simp only [y_ck, y_k_wi, h, if_true]
theorem x_fails (h : z_k S B = 12) (e : Int32) : f_X11_fails B e S = some (-2000000010 - e, z_wi (z_wi S B 17 e) B 18 0) := by
  rw [e_X11_fails]; unfold b_X11_fails
  simp only [y_ck, h, if_true, x_failsWith h, y_bs]
theorem x_passes (h : z_k S B = 12) (v : Int32) : f_X11_passes B v S = some (v, z_wi (z_wi S B 17 0) B 18 0) := by
  rw [e_X11_passes]; unfold b_X11_passes
  simp only [y_ck, y_k_wi, h, if_true]
theorem x_passesLong (h : z_k S B = 12) (v : Int64) : f_X11_passesLong B v S = some (v, z_wi (z_wi S B 17 0) B 18 0) := by
  rw [e_X11_passesLong]; unfold b_X11_passesLong
  simp only [y_ck, y_k_wi, h, if_true]
theorem x_mfails (h : z_k T (B + 48) = 13) (e : Int32) : f_X12_fails (B + 48) e T = some (-2000000010 - e, z_wi (z_wi T (B + 48) 1 e) (B + 48) 2 0) := by
  rw [e_X12_fails]; unfold b_X12_fails
  simp only [y_ck, y_k_wi, h, if_true]
theorem x_well (h : z_k T (B + 48) = 13) : f_X12_well (B + 48) T = some (z_wi (z_wi T (B + 48) 1 0) (B + 48) 2 0) := by
  rw [e_X12_well]; unfold b_X12_well
  simp only [y_ck, y_k_wi, h, if_true]
/-- a number that may be NONE -/
theorem nm_no {v : Int32} {n : Nat} (hn : n < 2147483648) : (v ≠ -1 ∧ ¬ (0 ≤ v ∧ v < nI n)) ↔ (v < -1 ∨ nI n ≤ v) := by
  have h0 : (0 : Int32).toInt = 0 := by decide
  rw [y_lt, y_lt, y_le, y_le, h0, nI_I hn, nI_m1, Ne, y_eq, nI_m1]
  omega
theorem nm3 (v : Int32) {n : Nat} (hn : n < 2147483648) : (v < -1 ∨ nI n ≤ v) ∨ v = -1 ∨ ∃ q, q < n ∧ v = nI q := by
  by_cases h : v < -1 ∨ nI n ≤ v
  · exact Or.inl h
  · by_cases h1 : v = -1
    · exact Or.inr (Or.inl h1)
    · refine Or.inr (Or.inr ⟨v.toInt.toNat, ?_⟩)
      rw [y_lt, y_le, nI_m1, nI_I hn] at h
      rw [y_eq, nI_m1] at h1
      have h2 := y_lim v
      refine ⟨by omega, y_eq.mpr ?_⟩
      rw [nI_I (by omega)]; omega
theorem ix2 (v : Int32) {n : Nat} (hn : n < 2147483648) : (v < 0 ∨ nI n ≤ v) ∨ ∃ q, q < n ∧ v = nI q := by
  have h0 : (0 : Int32).toInt = 0 := by decide
  by_cases h : v < 0 ∨ nI n ≤ v
  · exact Or.inl h
  · refine Or.inr ⟨v.toInt.toNat, ?_⟩
    rw [y_lt, y_le, h0, nI_I hn] at h
    have h2 := y_lim v
    refine ⟨by omega, y_eq.mpr ?_⟩
    rw [nI_I (by omega)]; omega
theorem ix_no {v : Int32} {n : Nat} : (v < 0 ∨ nI n ≤ v) → (0 ≤ v ∧ v < nI n) = False := fun h => eq_false fun q => h.elim (fun h => absurd q.1 (Int32.not_le.mpr h)) (fun h => absurd q.2 (Int32.not_lt.mpr h))
theorem x_noRow (hs : mSh B T) {n : Nat} (hn : n < 2147483648) (he : z_i T (B + 48) 3 = nI n) (v : Int32) : f_X12_noRow (B + 48) v T = some (if v < -1 ∨ nI n ≤ v then 1 else 0, T) := by
  rw [e_X12_noRow]; unfold b_X12_noRow
  by_cases h : v = -1
  · subst h
    simp (disch := first | assumption | omega) only [y_i_wi, y_l_wi, y_d_wi, y_r_wi, y_k_wi, y_n_wi, y_x_wi, y_w_wi, y_s_wi, y_i_wl, y_l_wl, y_d_wl, y_r_wl, y_k_wl, y_n_wl, y_x_wl, y_w_wl, y_s_wl, y_i_wd, y_l_wd, y_d_wd, y_r_wd, y_k_wd, y_n_wd, y_x_wd, y_w_wd, y_s_wd, y_i_wr, y_l_wr, y_d_wr, y_r_wr, y_k_wr, y_n_wr, y_x_wr, y_w_wr, y_s_wr, y_i_new, y_l_new, y_d_new, y_r_new, y_k_new, y_n_new, y_x_new, y_w_new, y_s_new, y_i_ci, y_l_ci, y_d_ci, y_r_ci, y_k_ci, y_n_ci, y_x_ci, y_w_ci, y_s_ci, y_i_cl, y_l_cl, y_d_cl, y_r_cl, y_k_cl, y_n_cl, y_x_cl, y_w_cl, y_s_cl, y_i_si, y_l_si, y_d_si, y_r_si, y_k_si, y_n_si, y_x_si, y_w_si, y_s_si, y_i_sl, y_l_sl, y_d_sl, y_r_sl, y_k_sl, y_n_sl, y_x_sl, y_w_sl, y_s_sl, y_i_sd, y_l_sd, y_d_sd, y_r_sd, y_k_sd, y_n_sd, y_x_sd, y_w_sd, y_s_sd, y_ck, y_onS, y_ib, y_bs, y_bn, y_rb0, y_rb1, y_nulN, y_nulS, y_rvN, y_rvS, y_nz2, y_b0, y_b0', y_bI, if_true, if_false, true_and, and_true, false_and, and_false, true_or, or_true, false_or, or_false, not_true_eq_false, not_false_eq_true, ne_eq, and_self, or_self, reduceCtorEq, Nat.add_left_cancel_iff, Nat.left_eq_add, Nat.add_eq_left, Nat.reduceEqDiff, Nat.reduceAdd, nI_of, nI_cl, nI_add, nI_mul, nI_lt, nI_le, nI_eq, nI_mulL, nI_mulR, nI_addL, nI_addR, nI_subR, nI_ltR, nI_ltL, nI_leR, nI_leL, nI_eqR, nI_eqL, nI_neN, nI_neN', nI_ltN, nI_leN, nI_lt0, nI_0le, nI_pred, nI_pred', nJ_le, nJ_lt, nJ_leL, nJ_leR, y_cl0, y_0cl, y_cle, y_lec, y_ceq, n_lt, n_le, n_nlt, n_nle,  h, nm_no hn, y_lt.mpr, Int32.lt_irrefl]
    have : ¬ ((-1 : Int32) < -1 ∨ nI n ≤ -1) := fun q => ((nm_no hn).mpr q).1 rfl
    simp only [this, if_false]
  · simp (disch := first | assumption | omega) only [y_i_wi, y_l_wi, y_d_wi, y_r_wi, y_k_wi, y_n_wi, y_x_wi, y_w_wi, y_s_wi, y_i_wl, y_l_wl, y_d_wl, y_r_wl, y_k_wl, y_n_wl, y_x_wl, y_w_wl, y_s_wl, y_i_wd, y_l_wd, y_d_wd, y_r_wd, y_k_wd, y_n_wd, y_x_wd, y_w_wd, y_s_wd, y_i_wr, y_l_wr, y_d_wr, y_r_wr, y_k_wr, y_n_wr, y_x_wr, y_w_wr, y_s_wr, y_i_new, y_l_new, y_d_new, y_r_new, y_k_new, y_n_new, y_x_new, y_w_new, y_s_new, y_i_ci, y_l_ci, y_d_ci, y_r_ci, y_k_ci, y_n_ci, y_x_ci, y_w_ci, y_s_ci, y_i_cl, y_l_cl, y_d_cl, y_r_cl, y_k_cl, y_n_cl, y_x_cl, y_w_cl, y_s_cl, y_i_si, y_l_si, y_d_si, y_r_si, y_k_si, y_n_si, y_x_si, y_w_si, y_s_si, y_i_sl, y_l_sl, y_d_sl, y_r_sl, y_k_sl, y_n_sl, y_x_sl, y_w_sl, y_s_sl, y_i_sd, y_l_sd, y_d_sd, y_r_sd, y_k_sd, y_n_sd, y_x_sd, y_w_sd, y_s_sd, y_ck, y_onS, y_ib, y_bs, y_bn, y_rb0, y_rb1, y_nulN, y_nulS, y_rvN, y_rvS, y_nz2, y_b0, y_b0', y_bI, if_true, if_false, true_and, and_true, false_and, and_false, true_or, or_true, false_or, or_false, not_true_eq_false, not_false_eq_true, ne_eq, and_self, or_self, reduceCtorEq, Nat.add_left_cancel_iff, Nat.left_eq_add, Nat.add_eq_left, Nat.reduceEqDiff, Nat.reduceAdd, nI_of, nI_cl, nI_add, nI_mul, nI_lt, nI_le, nI_eq, nI_mulL, nI_mulR, nI_addL, nI_addR, nI_subR, nI_ltR, nI_ltL, nI_leR, nI_leL, nI_eqR, nI_eqL, nI_neN, nI_neN', nI_ltN, nI_leN, nI_lt0, nI_0le, nI_pred, nI_pred', nJ_le, nJ_lt, nJ_leL, nJ_leR, y_cl0, y_0cl, y_cle, y_lec, y_ceq, n_lt, n_le, n_nlt, n_nle,  h, x_in, he, km_48, hs]
    by_cases h2 : v < -1 ∨ nI n ≤ v
    · have := ((nm_no hn).mpr h2).2
      simp only [h2, this, if_true, if_false, y_rb1]
    · have h3 : 0 ≤ v ∧ v < nI n := by
        by_cases h3 : 0 ≤ v ∧ v < nI n
        · exact h3
        · exact absurd ((nm_no hn).mp ⟨h, h3⟩) h2
      simp only [h2, h3, and_self, not_true_eq_false, if_false, y_rb0]
end Exec
