theorem z_dmaxL (o idx : Nat) (hl : Cond.methodLink (z_own o) idx yJ9_max_f86c9 ∈ z_all) : z_Dir o idx g_J9_max_f86c9 := by
  intro as S v S' h
  obtain ⟨q, hq, e⟩ := Option.map_eq_some_iff.mp h
  dsimp only at hq
  split at hq
  · rename_i x y
    rw [e_J9_max_f86c9] at hq
    have hq' : q = ((if y < x then x else y), S) := by
      unfold b_J9_max_f86c9 at hq
      split at hq
      · rename_i hc
        rw [lg_cmp_lt] at hc
        cases hq
        rw [if_neg (fun h2 => Int64.lt_irrefl (Int64.lt_trans hc h2))]
      · rename_i hc
        rw [lg_cmp_lt] at hc
        cases hq
        by_cases h2 : y < x
        · rw [if_pos h2]
        · rw [if_neg h2, Int64.le_antisymm (Int64.not_lt.mp h2) (Int64.not_lt.mp hc)]
    subst hq'
    cases e
    refine ⟨rfl, fun p l e R s m args below meth c cc H locs cells slots Q ls pc rest hx hb hml hz hown h1 h2 h3 h4 h5 hd k => ?_⟩
    have := z_cats rest
    exact va_mmax_long (rest := rest) hx hb hml hown (hz _ hl) (hz _ st_J9_max_f86c9) (hz _ z_in_14) (hz _ wd_J9_max_f86c9.1) h1 (by omega) h3 h4 hd k
  · cases hq
theorem z_dminL (o idx : Nat) (hl : Cond.methodLink (z_own o) idx yJ9_min_f86c9 ∈ z_all) : z_Dir o idx g_J9_min_f86c9 := by
  intro as S v S' h
  obtain ⟨q, hq, e⟩ := Option.map_eq_some_iff.mp h
  dsimp only at hq
  split at hq
  · rename_i x y
    rw [e_J9_min_f86c9] at hq
    have hq' : q = ((if y < x then y else x), S) := by
      unfold b_J9_min_f86c9 at hq
      split at hq
      · rename_i hc
        rw [lg_cmp_gt] at hc
        cases hq
        rw [if_pos hc]
      · rename_i hc
        rw [lg_cmp_gt] at hc
        cases hq
        rw [if_neg hc]
    subst hq'
    cases e
    refine ⟨rfl, fun p l e R s m args below meth c cc H locs cells slots Q ls pc rest hx hb hml hz hown h1 h2 h3 h4 h5 hd k => ?_⟩
    have := z_cats rest
    exact va_mmin_long (rest := rest) hx hb hml hown (hz _ hl) (hz _ st_J9_min_f86c9) (hz _ z_in_14) (hz _ wd_J9_min_f86c9.1) h1 (by omega) h3 h4 hd k
  · cases hq
theorem z_dmaxI (o idx : Nat) (hl : Cond.methodLink (z_own o) idx yJ9_max_7cf53 ∈ z_all) : z_Dir o idx g_J9_max_7cf53 := by
  intro as S v S' h
  obtain ⟨q, hq, e⟩ := Option.map_eq_some_iff.mp h
  dsimp only at hq
  split at hq
  · rename_i x y
    rw [e_J9_max_7cf53] at hq
    have hq' : q = ((if x < y then y else x), S) := by
      unfold b_J9_max_7cf53 at hq
      split at hq
      · rename_i hc
        cases hq
        rw [if_pos hc]
      · rename_i hc
        cases hq
        rw [if_neg hc]
    subst hq'
    cases e
    refine ⟨rfl, fun p l e R s m args below meth c cc H locs cells slots Q ls pc rest hx hb hml hz hown h1 h2 h3 h4 h5 hd k => ?_⟩
    have := z_cats rest
    exact va_mmax (rest := rest) hx hb hml hown (hz _ hl) (hz _ st_J9_max_7cf53) (hz _ z_in_14) (hz _ wd_J9_max_7cf53.1) h1 (by omega) h3 h4 hd k
  · cases hq
theorem di_0_129 : z_Dir 0 129 g_J9_min_f86c9 := z_dminL 0 129 lk_0_129
theorem di_0_135 : z_Dir 0 135 g_J9_max_f86c9 := z_dmaxL 0 135 lk_0_135
theorem di_4_66 : z_Dir 4 66 g_J9_min_f86c9 := z_dminL 4 66 lk_4_66
theorem di_11_549 : z_Dir 11 549 g_J9_max_7cf53 := z_dmaxI 11 549 lk_11_549
